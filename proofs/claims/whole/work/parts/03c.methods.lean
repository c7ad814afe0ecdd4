def p_X7_bit (a0 : Int32) (a1 : Int32) : Option (Int32) :=
  some ((a0 >>> (a1 &&& 31)) &&& 1)
set_option maxHeartbeats 4000000 in
set_option maxRecDepth 100000 in
theorem c_X7_bit (l : Launch) (D : va_G) (ad : Nat → Nat) (cA : ClassId) (n : Nat) (F : tF) (G : tG) (a0 : Int32) (a1 : Int32) {r : Int32} (h : p_X7_bit a0 a1 = some r) : CI l yX7_bit wsX7_bit ({ frames := 0, cells := 0, slots := 0, locals := 0 } : Room) D cA (wC ad cA F G) [.int (a0), .int (a1)] r (wC ad cA F G) := by
  rw [p_X7_bit] at h
  refine metIr (w := wC ad cA) (cc := cX7_bit) (maxL := 2) (by decide) rfl (Nat.le_of_ble_eq_true rfl) ?_
  intro p e s m args below meth c A ls Q hE hret
  obtain ⟨hx, hb, hts, hown, hml, hP, hK, hD, hN, hA, hl⟩ := hE
  have hown : s.vm.findClass RX7 = some m.cls := hown
  have hl : lv_has ls 2 [(0, .int (a0)), (1, .int (a1))] := hl
  have hS : va_S A s.heap s.heap [] := va_S.rf
  refine lv_iload_n hx hb dX7_bit_0 rfl (lv_at hl 0 rfl) ?_
  refine lv_iload_n hx hb dX7_bit_1 rfl (lv_at hl 1 rfl) ?_
  refine lv_ishr hx hb dX7_bit_2 ?_
  refine lv_iconst (v := 1) hx hb dX7_bit_3 (by decide) ?_
  refine lv_iand hx hb dX7_bit_4 ?_
  exact hret _ _ _ _ _ dX7_bit_5 h hP hD hS

def p_X6_isWhole_L2 (F : tF) (G : tG) (a1 : Int32) (K2 : Int32 → Option (Int32)) : Nat → Int32 → Option (Int32)
  | 0, _ => none
  | k2 + 1, z2_0 => (if (F 15) ≤ z2_0 then K2 z2_0 else bi1 (p_X7_bit a1 z2_0) (fun x12 => (if x12 = 1 then oguard (inB z2_0 12) ((if (((G 11 z2_0.toNatClampNeg) &&& ((F 16) ^^^ (-1))) &&& (a1 ^^^ (-1))) = 0 then plet (z2_0 + 1) (fun (x41 : Int32) => p_X6_isWhole_L2 F G a1 K2 k2 x41) else some 0)) else plet (z2_0 + 1) (fun (x41 : Int32) => p_X6_isWhole_L2 F G a1 K2 k2 x41))))
theorem p_X6_isWhole_L2_k {F : tF} {G : tG} {a1 : Int32} {K0 : Int32 → Option (Int32)} {k : Nat} {z2_0 : Int32} {x : Int32} (h : p_X6_isWhole_L2 F G a1 K0 k z2_0 = some x) : ∃ K, K = K0 ∧ p_X6_isWhole_L2 F G a1 K k z2_0 = some x := ⟨K0, rfl, h⟩
def p_X6_isWhole (n : Nat) (F : tF) (G : tG) (a1 : Int32) : Option (Int32) :=
  p_X6_isWhole_L2 F G a1 (fun (z2_0 : Int32) => some 1) n 0
set_option maxHeartbeats 4000000 in
set_option maxRecDepth 100000 in
theorem c_X6_isWhole (l : Launch) (D : va_G) (ad : Nat → Nat) (cA : ClassId) (n : Nat) (F : tF) (G : tG) (a1 : Int32) {r : Int32} (h : p_X6_isWhole n F G a1 = some r) : CI l yX6_isWhole wsX6_isWhole ({ frames := 1, cells := 0, slots := 0, locals := 21 } : Room) D cA (wC ad cA F G) [.ref (ad 9), .int (a1)] r (wC ad cA F G) := by
  rw [p_X6_isWhole] at h
  refine metZr (w := wC ad cA) (cc := cX6_isWhole) (maxL := 3) (by decide) rfl (Nat.le_of_ble_eq_true rfl) ?_
  intro p e s m args below meth c A ls Q hE hret
  obtain ⟨hx, hb, hts, hown, hml, hP, hK, hD, hN, hA, hl⟩ := hE
  have hown : s.vm.findClass RX6 = some m.cls := hown
  have hl : lv_has ls 3 [(0, .ref (ad 9)), (1, .int (a1))] := hl
  have hS : va_S A s.heap s.heap [] := va_S.rf
  have k_0 : (Cond.fieldLink RX6 42 "BellBook$Wreck" "count" "I").before args s = true := hts _ (List.mem_of_getElem? (i := 1) rfl)
  have n_6 : ∀ w ∈ u_ws RX6 TX6 12, w ∈ wsX6_isWhole := fun w hw => List.mem_cons_of_mem _ (List.mem_append_right _ hw)
  have k_2 : (Cond.initialized RX7).before args s = true := hts _ (List.mem_of_getElem? (i := 5) rfl)
  have k_3 : (Cond.static yX7_bit).before args s = true := hts _ (List.mem_of_getElem? (i := 4) rfl)
  have k_4 : (Cond.fieldLink RX6 25 "BellBook$Wreck" "under" "[I").before args s = true := hts _ (List.mem_of_getElem? (i := 2) rfl)
  have k_5 : (Cond.fieldLink RX6 46 "BellBook$Wreck" "raised" "I").before args s = true := hts _ (List.mem_of_getElem? (i := 3) rfl)
  refine lv_iconst (v := 0) hx hb dX6_isWhole_0 (by decide) ?_
  refine lv_istore_n (lv' := [(2, .int (0)), (0, .ref (ad 9)), (1, .int (a1))]) hx hb dX6_isWhole_1 rfl hl (by decide) rfl (fun ls hl => ?_)
  obtain ⟨K2, eK2, h⟩ := p_X6_isWhole_L2_k h
  have JE2 : ∀ (z2_0 : Int32) (H : Heap) (locs : List Loc) (ls : Array Slot), K2 z2_0 = some r → va_P D vwCl (wC ad cA F G) H → va_D A (wC ad cA F G) → va_S A s.heap H locs → lv_has ls 3 [(2, .int (z2_0)), (0, .ref (ad 9)), (1, .int (a1))] → W p l e ({ frames := 1, cells := 0, slots := 0, locals := 21 } : Room) s m args below meth c H locs 0 0 Q (F0 m 47 ls []) := by
    intro z2_0 H locs ls h hP hD hS hl
    rw [eK2] at h
    refine lv_iconst (v := 1) hx hb dX6_isWhole_47 (by decide) ?_
    exact hret _ _ _ _ _ dX6_isWhole_48 rfl h hP hD hS
  have LL2 : ∀ (k : Nat) (z2_0 : Int32) (H : Heap) (locs : List Loc) (ls : Array Slot), p_X6_isWhole_L2 F G a1 K2 k z2_0 = some r → va_P D vwCl (wC ad cA F G) H → va_D A (wC ad cA F G) → va_S A s.heap H locs → lv_has ls 3 [(2, .int (z2_0)), (0, .ref (ad 9)), (1, .int (a1))] → W p l e ({ frames := 1, cells := 0, slots := 0, locals := 21 } : Room) s m args below meth c H locs 0 0 Q (F0 m 2 ls []) := by
    intro k
    induction k with
    | zero =>
      intro z2_0 H locs ls h hP hD hS hl
      rw [p_X6_isWhole_L2] at h
      cases h
    | succ k2 ih2 =>
      intro z2_0 H locs ls h hP hD hS hl
      rw [p_X6_isWhole_L2] at h
      refine lv_iload_n hx hb dX6_isWhole_2 rfl (lv_at hl 0 rfl) ?_
      refine lv_aload_n hx hb dX6_isWhole_3 rfl (lv_at hl 1 rfl) ?_
      refine va_get (D := D) (ci := 6) (fs := vX6 ad F) (v := .int ((F 15))) (C := RX6) (T := TX6) (N := 12) hx hb hts n_6 hown hK hP 9 wCg9 rfl 8 (by decide) k_0 (fun _ h9 => h9) rfl dX6_isWhole_4 ?_
      refine lv_icmp_ge (tgt := 47) hx hb dX6_isWhole_7 (by decide) (fun c7 => ?_) (fun c7 => ?_)
      · replace h := ifp h c7
        exact JE2 _ _ _ _ h hP hD hS (lv_sub hl [0, 1, 2] rfl)
      · replace h := ifn h c7
        refine lv_iload_n hx hb dX6_isWhole_10 rfl (lv_at hl 2 rfl) ?_
        refine lv_iload_n hx hb dX6_isWhole_11 rfl (lv_at hl 0 rfl) ?_
        obtain ⟨x12, h12, h⟩ := bi1e h
        refine callNI (host := "BellBook") (As := [.int (a1), .int (z2_0)]) (rest := []) ⟨hx, hb, hml, hown, hts⟩ (c_X7_bit l D ad cA n F G a1 z2_0 h12) ⟨va_cnB 2 hts gX6_isWhole_X7_bit_n62 rfl rfl rfl hN.2.1 k_2 (by decide +kernel) ⟨Nat.le_of_ble_eq_true rfl, Nat.le_of_ble_eq_true rfl⟩, k_3, trivial⟩ hP hK hD hN hS hA rfl hl.1 rfl (Nat.le_of_ble_eq_true rfl) dX6_isWhole_12 ⟨Nat.zero_le _, Nat.zero_le _⟩ (fun H locs hP hD hS => ?_)
        refine lv_iconst (v := 1) hx hb dX6_isWhole_15 (by decide) ?_
        refine lv_icmp_ne (tgt := 41) hx hb dX6_isWhole_16 (by decide) (fun c16 => ?_) (fun c16 => ?_)
        · replace h := ifn h c16
          obtain ⟨x41, ex41⟩ : ∃ z : Int32, z = (z2_0 + 1) := ⟨_, rfl⟩
          replace h := pl h ex41
          refine lv_iinc (v := x41) (lv' := [(2, .int (x41)), (0, .ref (ad 9)), (1, .int (a1))]) hx hb dX6_isWhole_41 hl (k := 0) rfl (by rw [ex41]; rfl) (by decide) rfl (fun ls hl => ?_)
          refine lv_goto (tgt := 2) hx hb dX6_isWhole_44 (by decide) ?_
          exact ih2 _ _ _ _ h hP hD hS (lv_sub hl [0, 1, 2] rfl)
        · replace h := ifp h c16
          refine lv_aload_n hx hb dX6_isWhole_19 rfl (lv_at hl 1 rfl) ?_
          refine va_get (D := D) (ci := 6) (fs := vX6 ad F) (v := .ref (ad 15)) (C := RX6) (T := TX6) (N := 12) hx hb hts n_6 hown hK hP 9 wCg9 rfl 5 (by decide) k_4 (fun _ h9 => h9) rfl dX6_isWhole_20 ?_
          refine lv_iload_n hx hb dX6_isWhole_23 rfl (lv_at hl 0 rfl) ?_
          obtain ⟨g24, h⟩ := og h
          refine va_iald (D := D) hx hb hK hP 15 0 wCg15 rfl (inB_in g24) dX6_isWhole_24 ?_
          refine lv_aload_n hx hb dX6_isWhole_25 rfl (lv_at hl 1 rfl) ?_
          refine va_get (D := D) (ci := 6) (fs := vX6 ad F) (v := .int ((F 16))) (C := RX6) (T := TX6) (N := 12) hx hb hts n_6 hown hK hP 9 wCg9 rfl 9 (by decide) k_5 (fun _ h9 => h9) rfl dX6_isWhole_26 ?_
          refine lv_iconst (v := (-1)) hx hb dX6_isWhole_29 (by decide) ?_
          refine lv_ixor hx hb dX6_isWhole_30 ?_
          refine lv_iand hx hb dX6_isWhole_31 ?_
          refine lv_iload_n hx hb dX6_isWhole_32 rfl (lv_at hl 2 rfl) ?_
          refine lv_iconst (v := (-1)) hx hb dX6_isWhole_33 (by decide) ?_
          refine lv_ixor hx hb dX6_isWhole_34 ?_
          refine lv_iand hx hb dX6_isWhole_35 ?_
          refine lv_if_eq (tgt := 41) hx hb dX6_isWhole_36 (by decide) (fun c36 => ?_) (fun c36 => ?_)
          · replace h := ifp h c36
            obtain ⟨x41, ex41⟩ : ∃ z : Int32, z = (z2_0 + 1) := ⟨_, rfl⟩
            replace h := pl h ex41
            refine lv_iinc (v := x41) (lv' := [(2, .int (x41)), (0, .ref (ad 9)), (1, .int (a1))]) hx hb dX6_isWhole_41 hl (k := 0) rfl (by rw [ex41]; rfl) (by decide) rfl (fun ls hl => ?_)
            refine lv_goto (tgt := 2) hx hb dX6_isWhole_44 (by decide) ?_
            exact ih2 _ _ _ _ h hP hD hS (lv_sub hl [0, 1, 2] rfl)
          · replace h := ifn h c36
            refine lv_iconst (v := 0) hx hb dX6_isWhole_39 (by decide) ?_
            exact hret _ _ _ _ _ dX6_isWhole_40 rfl h hP hD hS
  exact LL2 n 0 _ _ _ h hP hD hS (lv_sub hl [0, 1, 2] rfl)

def p_X4_hopeOf_L4 (F : tF) (G : tG) (a1 : Int32) (K4 : Int32 → Int32 → Option (Int32)) : Nat → Int32 → Int32 → Option (Int32)
  | 0, _, _ => none
  | k4 + 1, z4_0, z4_1 => (if (F 15) ≤ z4_0 then K4 z4_0 z4_1 else bi1 (p_X7_bit a1 z4_0) (fun x14 => bi1 ((if x14 = 1 then oguard (inB z4_0 12) (oguard (inB z4_0 12) (plet (z4_1 + ((G 7 z4_0.toNatClampNeg) * (G 9 z4_0.toNatClampNeg))) (fun (x36 : Int32) => some (x36)))) else some (z4_1))) (fun (y18_0 : Int32) => plet (z4_0 + 1) (fun (x37 : Int32) => p_X4_hopeOf_L4 F G a1 K4 k4 x37 y18_0))))
theorem p_X4_hopeOf_L4_k {F : tF} {G : tG} {a1 : Int32} {K0 : Int32 → Int32 → Option (Int32)} {k : Nat} {z4_0 : Int32} {z4_1 : Int32} {x : Int32} (h : p_X4_hopeOf_L4 F G a1 K0 k z4_0 z4_1 = some x) : ∃ K, K = K0 ∧ p_X4_hopeOf_L4 F G a1 K k z4_0 z4_1 = some x := ⟨K0, rfl, h⟩
def p_X4_hopeOf (n : Nat) (F : tF) (G : tG) (a1 : Int32) : Option (Int32) :=
  p_X4_hopeOf_L4 F G a1 (fun (z4_0 : Int32) (z4_1 : Int32) => some z4_1) n 0 0
set_option maxHeartbeats 4000000 in
set_option maxRecDepth 100000 in
theorem c_X4_hopeOf (l : Launch) (D : va_G) (ad : Nat → Nat) (cA : ClassId) (n : Nat) (F : tF) (G : tG) (a1 : Int32) {r : Int32} (h : p_X4_hopeOf n F G a1 = some r) : CI l yX4_hopeOf wsX4_hopeOf ({ frames := 1, cells := 0, slots := 0, locals := 21 } : Room) D cA (wC ad cA F G) [.ref (ad 9), .int (a1)] r (wC ad cA F G) := by
  rw [p_X4_hopeOf] at h
  refine metIr (w := wC ad cA) (cc := cX4_hopeOf) (maxL := 4) (by decide) rfl (Nat.le_of_ble_eq_true rfl) ?_
  intro p e s m args below meth c A ls Q hE hret
  obtain ⟨hx, hb, hts, hown, hml, hP, hK, hD, hN, hA, hl⟩ := hE
  have hown : s.vm.findClass RX4 = some m.cls := hown
  have hl : lv_has ls 4 [(0, .ref (ad 9)), (1, .int (a1))] := hl
  have hS : va_S A s.heap s.heap [] := va_S.rf
  have k_0 : (Cond.fieldLink RX4 61 "BellBook$Wreck" "count" "I").before args s = true := hts _ (List.mem_of_getElem? (i := 1) rfl)
  have n_6 : ∀ w ∈ u_ws RX6 TX6 12, w ∈ wsX4_hopeOf := fun w hw => List.mem_cons_of_mem _ (List.mem_append_right _ hw)
  have k_2 : (Cond.initialized RX7).before args s = true := hts _ (List.mem_of_getElem? (i := 5) rfl)
  have k_3 : (Cond.static yX7_bit).before args s = true := hts _ (List.mem_of_getElem? (i := 4) rfl)
  have k_4 : (Cond.fieldLink RX4 99 "BellBook$Wreck" "worth" "[I").before args s = true := hts _ (List.mem_of_getElem? (i := 2) rfl)
  have k_5 : (Cond.fieldLink RX4 102 "BellBook$Wreck" "odds" "[I").before args s = true := hts _ (List.mem_of_getElem? (i := 3) rfl)
  refine lv_iconst (v := 0) hx hb dX4_hopeOf_0 (by decide) ?_
  refine lv_istore_n (lv' := [(2, .int (0)), (0, .ref (ad 9)), (1, .int (a1))]) hx hb dX4_hopeOf_1 rfl hl (by decide) rfl (fun ls hl => ?_)
  refine lv_iconst (v := 0) hx hb dX4_hopeOf_2 (by decide) ?_
  refine lv_istore_n (lv' := [(3, .int (0)), (2, .int (0)), (0, .ref (ad 9)), (1, .int (a1))]) hx hb dX4_hopeOf_3 rfl hl (by decide) rfl (fun ls hl => ?_)
  obtain ⟨K4, eK4, h⟩ := p_X4_hopeOf_L4_k h
  have JE4 : ∀ (z4_0 : Int32) (z4_1 : Int32) (H : Heap) (locs : List Loc) (ls : Array Slot), K4 z4_0 z4_1 = some r → va_P D vwCl (wC ad cA F G) H → va_D A (wC ad cA F G) → va_S A s.heap H locs → lv_has ls 4 [(3, .int (z4_0)), (2, .int (z4_1)), (0, .ref (ad 9)), (1, .int (a1))] → W p l e ({ frames := 1, cells := 0, slots := 0, locals := 21 } : Room) s m args below meth c H locs 0 0 Q (F0 m 43 ls []) := by
    intro z4_0 z4_1 H locs ls h hP hD hS hl
    rw [eK4] at h
    refine lv_iload_n hx hb dX4_hopeOf_43 rfl (lv_at hl 1 rfl) ?_
    exact hret _ _ _ _ _ dX4_hopeOf_44 h hP hD hS
  have LL4 : ∀ (k : Nat) (z4_0 : Int32) (z4_1 : Int32) (H : Heap) (locs : List Loc) (ls : Array Slot), p_X4_hopeOf_L4 F G a1 K4 k z4_0 z4_1 = some r → va_P D vwCl (wC ad cA F G) H → va_D A (wC ad cA F G) → va_S A s.heap H locs → lv_has ls 4 [(3, .int (z4_0)), (2, .int (z4_1)), (0, .ref (ad 9)), (1, .int (a1))] → W p l e ({ frames := 1, cells := 0, slots := 0, locals := 21 } : Room) s m args below meth c H locs 0 0 Q (F0 m 4 ls []) := by
    intro k
    induction k with
    | zero =>
      intro z4_0 z4_1 H locs ls h hP hD hS hl
      rw [p_X4_hopeOf_L4] at h
      cases h
    | succ k4 ih4 =>
      intro z4_0 z4_1 H locs ls h hP hD hS hl
      rw [p_X4_hopeOf_L4] at h
      refine lv_iload_n hx hb dX4_hopeOf_4 rfl (lv_at hl 0 rfl) ?_
      refine lv_aload_n hx hb dX4_hopeOf_5 rfl (lv_at hl 2 rfl) ?_
      refine va_get (D := D) (ci := 6) (fs := vX6 ad F) (v := .int ((F 15))) (C := RX6) (T := TX6) (N := 12) hx hb hts n_6 hown hK hP 9 wCg9 rfl 8 (by decide) k_0 (fun _ h9 => h9) rfl dX4_hopeOf_6 ?_
      refine lv_icmp_ge (tgt := 43) hx hb dX4_hopeOf_9 (by decide) (fun c9 => ?_) (fun c9 => ?_)
      · replace h := ifp h c9
        exact JE4 _ _ _ _ _ h hP hD hS (lv_sub hl [0, 1, 2, 3] rfl)
      · replace h := ifn h c9
        refine lv_iload_n hx hb dX4_hopeOf_12 rfl (lv_at hl 3 rfl) ?_
        refine lv_iload_n hx hb dX4_hopeOf_13 rfl (lv_at hl 0 rfl) ?_
        obtain ⟨x14, h14, h⟩ := bi1e h
        refine callNI (host := "BellBook") (As := [.int (a1), .int (z4_0)]) (rest := []) ⟨hx, hb, hml, hown, hts⟩ (c_X7_bit l D ad cA n F G a1 z4_0 h14) ⟨va_cnB 2 hts gX4_hopeOf_X7_bit_n83 rfl rfl rfl hN.2.2.1 k_2 (by decide +kernel) ⟨Nat.le_of_ble_eq_true rfl, Nat.le_of_ble_eq_true rfl⟩, k_3, trivial⟩ hP hK hD hN hS hA rfl hl.1 rfl (Nat.le_of_ble_eq_true rfl) dX4_hopeOf_14 ⟨Nat.zero_le _, Nat.zero_le _⟩ (fun H locs hP hD hS => ?_)
        refine lv_iconst (v := 1) hx hb dX4_hopeOf_17 (by decide) ?_
        obtain ⟨y18_0, q18, h⟩ := bi1e h
        have J18 : ∀ (wy18_0 : Int32), some (wy18_0) = some (y18_0) → ∀ (H : Heap) (locs : List Loc) (ls : Array Slot), va_P D vwCl (wC ad cA F G) H → va_D A (wC ad cA F G) → va_S A s.heap H locs → lv_has ls 4 [(3, .int (z4_0)), (2, .int (wy18_0)), (0, .ref (ad 9)), (1, .int (a1))] → W p l e ({ frames := 1, cells := 0, slots := 0, locals := 21 } : Room) s m args below meth c H locs 0 0 Q (F0 m 37 ls []) := by
          intro wy18_0 e9 H locs ls hP hD hS hl
          cases e9
          obtain ⟨x37, ex37⟩ : ∃ z : Int32, z = (z4_0 + 1) := ⟨_, rfl⟩
          replace h := pl h ex37
          refine lv_iinc (v := x37) (lv' := [(3, .int (x37)), (2, .int (y18_0)), (0, .ref (ad 9)), (1, .int (a1))]) hx hb dX4_hopeOf_37 hl (k := 0) rfl (by rw [ex37]; rfl) (by decide) rfl (fun ls hl => ?_)
          refine lv_goto (tgt := 4) hx hb dX4_hopeOf_40 (by decide) ?_
          exact ih4 _ _ _ _ _ h hP hD hS (lv_sub hl [0, 1, 2, 3] rfl)
        refine lv_icmp_ne (tgt := 37) hx hb dX4_hopeOf_18 (by decide) (fun c18 => ?_) (fun c18 => ?_)
        · replace q18 := ifn q18 c18
          exact J18 _ q18 _ _ _ hP hD hS (lv_sub hl [0, 1, 2, 3] rfl)
        · replace q18 := ifp q18 c18
          refine lv_iload_n hx hb dX4_hopeOf_21 rfl (lv_at hl 1 rfl) ?_
          refine lv_aload_n hx hb dX4_hopeOf_22 rfl (lv_at hl 2 rfl) ?_
          refine va_get (D := D) (ci := 6) (fs := vX6 ad F) (v := .ref (ad 11)) (C := RX6) (T := TX6) (N := 12) hx hb hts n_6 hown hK hP 9 wCg9 rfl 1 (by decide) k_4 (fun _ h9 => h9) rfl dX4_hopeOf_23 ?_
          refine lv_iload_n hx hb dX4_hopeOf_26 rfl (lv_at hl 0 rfl) ?_
          obtain ⟨g27, q18⟩ := og q18
          refine va_iald (D := D) hx hb hK hP 11 0 wCg11 rfl (inB_in g27) dX4_hopeOf_27 ?_
          refine lv_aload_n hx hb dX4_hopeOf_28 rfl (lv_at hl 2 rfl) ?_
          refine va_get (D := D) (ci := 6) (fs := vX6 ad F) (v := .ref (ad 13)) (C := RX6) (T := TX6) (N := 12) hx hb hts n_6 hown hK hP 9 wCg9 rfl 3 (by decide) k_5 (fun _ h9 => h9) rfl dX4_hopeOf_29 ?_
          refine lv_iload_n hx hb dX4_hopeOf_32 rfl (lv_at hl 0 rfl) ?_
          obtain ⟨g33, q18⟩ := og q18
          refine va_iald (D := D) hx hb hK hP 13 0 wCg13 rfl (inB_in g33) dX4_hopeOf_33 ?_
          refine lv_imul hx hb dX4_hopeOf_34 ?_
          refine lv_iadd hx hb dX4_hopeOf_35 ?_
          refine lv_topi (fun x36 ex36 => ?_)
          replace q18 := pl q18 ex36
          refine lv_istore_n (lv' := [(2, .int (x36)), (3, .int (z4_0)), (0, .ref (ad 9)), (1, .int (a1))]) hx hb dX4_hopeOf_36 rfl hl (by decide) rfl (fun ls hl => ?_)
          exact J18 _ q18 _ _ _ hP hD hS (lv_sub hl [1, 0, 2, 3] rfl)
  exact LL4 n 0 0 _ _ _ h hP hD hS (lv_sub hl [0, 1, 2, 3] rfl)

def p_X6_left (G : tG) (a1 : Int32) : Option (Int32) :=
  oguard (inB a1 12) (oguard (inB a1 12) (some ((G 8 a1.toNatClampNeg) - (G 10 a1.toNatClampNeg))))
set_option maxHeartbeats 4000000 in
set_option maxRecDepth 100000 in
theorem c_X6_left (l : Launch) (D : va_G) (ad : Nat → Nat) (cA : ClassId) (n : Nat) (F : tF) (G : tG) (a1 : Int32) {r : Int32} (h : p_X6_left G a1 = some r) : CI l yX6_left wsX6_left ({ frames := 0, cells := 0, slots := 0, locals := 0 } : Room) D cA (wC ad cA F G) [.ref (ad 9), .int (a1)] r (wC ad cA F G) := by
  rw [p_X6_left] at h
  refine metIr (w := wC ad cA) (cc := cX6_left) (maxL := 2) (by decide) rfl (Nat.le_of_ble_eq_true rfl) ?_
  intro p e s m args below meth c A ls Q hE hret
  obtain ⟨hx, hb, hts, hown, hml, hP, hK, hD, hN, hA, hl⟩ := hE
  have hown : s.vm.findClass RX6 = some m.cls := hown
  have hl : lv_has ls 2 [(0, .ref (ad 9)), (1, .int (a1))] := hl
  have hS : va_S A s.heap s.heap [] := va_S.rf
  have k_0 : (Cond.fieldLink RX6 16 "BellBook$Wreck" "work" "[I").before args s = true := hts _ (List.mem_of_getElem? (i := 1) rfl)
  have n_6 : ∀ w ∈ u_ws RX6 TX6 12, w ∈ wsX6_left := fun w hw => List.mem_cons_of_mem _ (List.mem_append_right _ hw)
  have k_2 : (Cond.fieldLink RX6 22 "BellBook$Wreck" "worked" "[I").before args s = true := hts _ (List.mem_of_getElem? (i := 2) rfl)
  refine lv_aload_n hx hb dX6_left_0 rfl (lv_at hl 0 rfl) ?_
  refine va_get (D := D) (ci := 6) (fs := vX6 ad F) (v := .ref (ad 12)) (C := RX6) (T := TX6) (N := 12) hx hb hts n_6 hown hK hP 9 wCg9 rfl 2 (by decide) k_0 (fun _ h9 => h9) rfl dX6_left_1 ?_
  refine lv_iload_n hx hb dX6_left_4 rfl (lv_at hl 1 rfl) ?_
  obtain ⟨g5, h⟩ := og h
  refine va_iald (D := D) hx hb hK hP 12 0 wCg12 rfl (inB_in g5) dX6_left_5 ?_
  refine lv_aload_n hx hb dX6_left_6 rfl (lv_at hl 0 rfl) ?_
  refine va_get (D := D) (ci := 6) (fs := vX6 ad F) (v := .ref (ad 14)) (C := RX6) (T := TX6) (N := 12) hx hb hts n_6 hown hK hP 9 wCg9 rfl 4 (by decide) k_2 (fun _ h9 => h9) rfl dX6_left_7 ?_
  refine lv_iload_n hx hb dX6_left_10 rfl (lv_at hl 1 rfl) ?_
  obtain ⟨g11, h⟩ := og h
  refine va_iald (D := D) hx hb hK hP 14 0 wCg14 rfl (inB_in g11) dX6_left_11 ?_
  refine lv_isub hx hb dX6_left_12 ?_
  exact hret _ _ _ _ _ dX6_left_13 h hP hD hS

def p_X4_toilOf_L4 (F : tF) (G : tG) (a1 : Int32) (K4 : Int32 → Int32 → Option (Int32)) : Nat → Int32 → Int32 → Option (Int32)
  | 0, _, _ => none
  | k4 + 1, z4_0, z4_1 => (if (F 15) ≤ z4_0 then K4 z4_0 z4_1 else bi1 (p_X7_bit a1 z4_0) (fun x14 => bi1 ((if x14 = 1 then bi1 (p_X6_left G z4_0) (fun x24 => plet (z4_1 + x24) (fun (x28 : Int32) => some (x28))) else some (z4_1))) (fun (y18_0 : Int32) => plet (z4_0 + 1) (fun (x29 : Int32) => p_X4_toilOf_L4 F G a1 K4 k4 x29 y18_0))))
theorem p_X4_toilOf_L4_k {F : tF} {G : tG} {a1 : Int32} {K0 : Int32 → Int32 → Option (Int32)} {k : Nat} {z4_0 : Int32} {z4_1 : Int32} {x : Int32} (h : p_X4_toilOf_L4 F G a1 K0 k z4_0 z4_1 = some x) : ∃ K, K = K0 ∧ p_X4_toilOf_L4 F G a1 K k z4_0 z4_1 = some x := ⟨K0, rfl, h⟩
def p_X4_toilOf (n : Nat) (F : tF) (G : tG) (a1 : Int32) : Option (Int32) :=
  p_X4_toilOf_L4 F G a1 (fun (z4_0 : Int32) (z4_1 : Int32) => some z4_1) n 0 0
set_option maxHeartbeats 4000000 in
set_option maxRecDepth 100000 in
theorem c_X4_toilOf (l : Launch) (D : va_G) (ad : Nat → Nat) (cA : ClassId) (n : Nat) (F : tF) (G : tG) (a1 : Int32) {r : Int32} (h : p_X4_toilOf n F G a1 = some r) : CI l yX4_toilOf wsX4_toilOf ({ frames := 1, cells := 0, slots := 0, locals := 21 } : Room) D cA (wC ad cA F G) [.ref (ad 9), .int (a1)] r (wC ad cA F G) := by
  rw [p_X4_toilOf] at h
  refine metIr (w := wC ad cA) (cc := cX4_toilOf) (maxL := 4) (by decide) rfl (Nat.le_of_ble_eq_true rfl) ?_
  intro p e s m args below meth c A ls Q hE hret
  obtain ⟨hx, hb, hts, hown, hml, hP, hK, hD, hN, hA, hl⟩ := hE
  have hown : s.vm.findClass RX4 = some m.cls := hown
  have hl : lv_has ls 4 [(0, .ref (ad 9)), (1, .int (a1))] := hl
  have hS : va_S A s.heap s.heap [] := va_S.rf
  have k_0 : (Cond.fieldLink RX4 61 "BellBook$Wreck" "count" "I").before args s = true := hts _ (List.mem_of_getElem? (i := 1) rfl)
  have n_6 : ∀ w ∈ u_ws RX6 TX6 12, w ∈ wsX4_toilOf := fun w hw => List.mem_cons_of_mem _ (List.mem_append_right _ hw)
  have k_2 : (Cond.initialized RX7).before args s = true := hts _ (List.mem_of_getElem? (i := 3) rfl)
  have k_3 : (Cond.static yX7_bit).before args s = true := hts _ (List.mem_of_getElem? (i := 2) rfl)
  refine lv_iconst (v := 0) hx hb dX4_toilOf_0 (by decide) ?_
  refine lv_istore_n (lv' := [(2, .int (0)), (0, .ref (ad 9)), (1, .int (a1))]) hx hb dX4_toilOf_1 rfl hl (by decide) rfl (fun ls hl => ?_)
  refine lv_iconst (v := 0) hx hb dX4_toilOf_2 (by decide) ?_
  refine lv_istore_n (lv' := [(3, .int (0)), (2, .int (0)), (0, .ref (ad 9)), (1, .int (a1))]) hx hb dX4_toilOf_3 rfl hl (by decide) rfl (fun ls hl => ?_)
  obtain ⟨K4, eK4, h⟩ := p_X4_toilOf_L4_k h
  have JE4 : ∀ (z4_0 : Int32) (z4_1 : Int32) (H : Heap) (locs : List Loc) (ls : Array Slot), K4 z4_0 z4_1 = some r → va_P D vwCl (wC ad cA F G) H → va_D A (wC ad cA F G) → va_S A s.heap H locs → lv_has ls 4 [(3, .int (z4_0)), (2, .int (z4_1)), (0, .ref (ad 9)), (1, .int (a1))] → W p l e ({ frames := 1, cells := 0, slots := 0, locals := 21 } : Room) s m args below meth c H locs 0 0 Q (F0 m 35 ls []) := by
    intro z4_0 z4_1 H locs ls h hP hD hS hl
    rw [eK4] at h
    refine lv_iload_n hx hb dX4_toilOf_35 rfl (lv_at hl 1 rfl) ?_
    exact hret _ _ _ _ _ dX4_toilOf_36 h hP hD hS
  have LL4 : ∀ (k : Nat) (z4_0 : Int32) (z4_1 : Int32) (H : Heap) (locs : List Loc) (ls : Array Slot), p_X4_toilOf_L4 F G a1 K4 k z4_0 z4_1 = some r → va_P D vwCl (wC ad cA F G) H → va_D A (wC ad cA F G) → va_S A s.heap H locs → lv_has ls 4 [(3, .int (z4_0)), (2, .int (z4_1)), (0, .ref (ad 9)), (1, .int (a1))] → W p l e ({ frames := 1, cells := 0, slots := 0, locals := 21 } : Room) s m args below meth c H locs 0 0 Q (F0 m 4 ls []) := by
    intro k
    induction k with
    | zero =>
      intro z4_0 z4_1 H locs ls h hP hD hS hl
      rw [p_X4_toilOf_L4] at h
      cases h
    | succ k4 ih4 =>
      intro z4_0 z4_1 H locs ls h hP hD hS hl
      rw [p_X4_toilOf_L4] at h
      refine lv_iload_n hx hb dX4_toilOf_4 rfl (lv_at hl 0 rfl) ?_
      refine lv_aload_n hx hb dX4_toilOf_5 rfl (lv_at hl 2 rfl) ?_
      refine va_get (D := D) (ci := 6) (fs := vX6 ad F) (v := .int ((F 15))) (C := RX6) (T := TX6) (N := 12) hx hb hts n_6 hown hK hP 9 wCg9 rfl 8 (by decide) k_0 (fun _ h9 => h9) rfl dX4_toilOf_6 ?_
      refine lv_icmp_ge (tgt := 35) hx hb dX4_toilOf_9 (by decide) (fun c9 => ?_) (fun c9 => ?_)
      · replace h := ifp h c9
        exact JE4 _ _ _ _ _ h hP hD hS (lv_sub hl [0, 1, 2, 3] rfl)
      · replace h := ifn h c9
        refine lv_iload_n hx hb dX4_toilOf_12 rfl (lv_at hl 3 rfl) ?_
        refine lv_iload_n hx hb dX4_toilOf_13 rfl (lv_at hl 0 rfl) ?_
        obtain ⟨x14, h14, h⟩ := bi1e h
        refine callNI (host := "BellBook") (As := [.int (a1), .int (z4_0)]) (rest := []) ⟨hx, hb, hml, hown, hts⟩ (c_X7_bit l D ad cA n F G a1 z4_0 h14) ⟨va_cnB 2 hts gX4_toilOf_X7_bit_n83 rfl rfl rfl hN.2.2.1 k_2 (by decide +kernel) ⟨Nat.le_of_ble_eq_true rfl, Nat.le_of_ble_eq_true rfl⟩, k_3, trivial⟩ hP hK hD hN hS hA rfl hl.1 rfl (Nat.le_of_ble_eq_true rfl) dX4_toilOf_14 ⟨Nat.zero_le _, Nat.zero_le _⟩ (fun H locs hP hD hS => ?_)
        refine lv_iconst (v := 1) hx hb dX4_toilOf_17 (by decide) ?_
        obtain ⟨y18_0, q18, h⟩ := bi1e h
        have J18 : ∀ (wy18_0 : Int32), some (wy18_0) = some (y18_0) → ∀ (H : Heap) (locs : List Loc) (ls : Array Slot), va_P D vwCl (wC ad cA F G) H → va_D A (wC ad cA F G) → va_S A s.heap H locs → lv_has ls 4 [(3, .int (z4_0)), (2, .int (wy18_0)), (0, .ref (ad 9)), (1, .int (a1))] → W p l e ({ frames := 1, cells := 0, slots := 0, locals := 21 } : Room) s m args below meth c H locs 0 0 Q (F0 m 29 ls []) := by
          intro wy18_0 e9 H locs ls hP hD hS hl
          cases e9
          obtain ⟨x29, ex29⟩ : ∃ z : Int32, z = (z4_0 + 1) := ⟨_, rfl⟩
          replace h := pl h ex29
          refine lv_iinc (v := x29) (lv' := [(3, .int (x29)), (2, .int (y18_0)), (0, .ref (ad 9)), (1, .int (a1))]) hx hb dX4_toilOf_29 hl (k := 0) rfl (by rw [ex29]; rfl) (by decide) rfl (fun ls hl => ?_)
          refine lv_goto (tgt := 4) hx hb dX4_toilOf_32 (by decide) ?_
          exact ih4 _ _ _ _ _ h hP hD hS (lv_sub hl [0, 1, 2, 3] rfl)
        refine lv_icmp_ne (tgt := 29) hx hb dX4_toilOf_18 (by decide) (fun c18 => ?_) (fun c18 => ?_)
        · replace q18 := ifn q18 c18
          exact J18 _ q18 _ _ _ hP hD hS (lv_sub hl [0, 1, 2, 3] rfl)
        · replace q18 := ifp q18 c18
          refine lv_iload_n hx hb dX4_toilOf_21 rfl (lv_at hl 1 rfl) ?_
          refine lv_aload_n hx hb dX4_toilOf_22 rfl (lv_at hl 2 rfl) ?_
          refine lv_iload_n hx hb dX4_toilOf_23 rfl (lv_at hl 0 rfl) ?_
          obtain ⟨x24, h24, q18⟩ := bi1e q18
          refine callVI (b := ad 9) (As := [.int (z4_0)]) (rest := [.int (z4_1)]) ⟨hx, hb, hml, hown, hts⟩ (c_X6_left l D ad cA n F G z4_0 h24) (cwV 1 hts gX4_toilOf_X6_left rfl rfl rfl (by decide +kernel) ⟨Nat.le_of_ble_eq_true rfl, Nat.le_of_ble_eq_true rfl⟩) (va_recv hK hP (ci := 6) (q0 := 9) rfl wCg9) hP hK hD hN hS hA rfl hl.1 rfl (Nat.le_of_ble_eq_true rfl) dX4_toilOf_24 ⟨Nat.zero_le _, Nat.zero_le _⟩ (fun H locs hP hD hS => ?_)
          refine lv_iadd hx hb dX4_toilOf_27 ?_
          refine lv_topi (fun x28 ex28 => ?_)
          replace q18 := pl q18 ex28
          refine lv_istore_n (lv' := [(2, .int (x28)), (3, .int (z4_0)), (0, .ref (ad 9)), (1, .int (a1))]) hx hb dX4_toilOf_28 rfl hl (by decide) rfl (fun ls hl => ?_)
          exact J18 _ q18 _ _ _ hP hD hS (lv_sub hl [1, 0, 2, 3] rfl)
  exact LL4 n 0 0 _ _ _ h hP hD hS (lv_sub hl [0, 1, 2, 3] rfl)

def p_X4_chooseSet_L14 (n : Nat) (G : tG) (K14 : Int32 → Int32 → tF → Option (Int32 × tF × tG)) : Nat → Int32 → Int32 → tF → Option (Int32 × tF × tG)
  | 0, _, _, _ => none
  | k14 + 1, z14_0, z14_1, F14l => (if (1 <<< ((F14l 15) &&& 31)) ≤ z14_0 then K14 z14_0 z14_1 F14l else oguard (inB z14_0 4096) (bi2 ((if (G 15 z14_0.toNatClampNeg) = (-1) then some (z14_1, F14l) else bi1 (p_X6_isWhole n F14l G z14_0) (fun x36 => (if x36 = 0 then some (z14_1, F14l) else bi1 (p_X4_hopeOf n F14l G z14_0) (fun x47 => bi1 (p_X4_toilOf n F14l G z14_0) (fun x54 => (if (F14l 21) < x47 then plet (upd F14l 21 x47) (fun (F91 : tF) => plet (upd F91 22 x54) (fun (F97 : tF) => some (z14_0, F97))) else (if x47 = (F14l 21) then (if (F14l 22) ≤ x54 then some (z14_1, F14l) else plet (upd F14l 21 x47) (fun (F91 : tF) => plet (upd F91 22 x54) (fun (F97 : tF) => some (z14_0, F97)))) else some (z14_1, F14l))))))))) (fun (y31_0 : Int32) (F31j : tF) => plet (z14_0 + 1) (fun (x100 : Int32) => p_X4_chooseSet_L14 n G K14 k14 x100 y31_0 F31j))))
theorem p_X4_chooseSet_L14_k {n : Nat} {G : tG} {K0 : Int32 → Int32 → tF → Option (Int32 × tF × tG)} {k : Nat} {z14_0 : Int32} {z14_1 : Int32} {F14l : tF} {x : Int32 × tF × tG} (h : p_X4_chooseSet_L14 n G K0 k z14_0 z14_1 F14l = some x) : ∃ K, K = K0 ∧ p_X4_chooseSet_L14 n G K k z14_0 z14_1 F14l = some x := ⟨K0, rfl, h⟩
def p_X4_chooseSet (n : Nat) (F : tF) (G : tG) : Option (Int32 × tF × tG) :=
  plet (upd F 21 0) (fun (F4 : tF) => plet (upd F4 22 0) (fun (F9 : tF) => p_X4_chooseSet_L14 n G (fun (z14_0 : Int32) (z14_1 : Int32) (F14l : tF) => some (z14_1, F14l, G)) n 1 0 F9))
set_option maxHeartbeats 4000000 in
set_option maxRecDepth 100000 in
theorem c_X4_chooseSet (l : Launch) (D : va_G) (ad : Nat → Nat) (cA : ClassId) (n : Nat) (F : tF) (G : tG) {r : Int32} {F' : tF} {G' : tG} (h : p_X4_chooseSet n F G = some (r, F', G')) : CI l yX4_chooseSet wsX4_chooseSet ({ frames := 2, cells := 0, slots := 0, locals := 44 } : Room) D cA (wC ad cA F G) [.ref (ad 18), .ref (ad 9)] r (wC ad cA F' G') := by
  rw [p_X4_chooseSet] at h
  refine metIm (w := wC ad cA) (cc := cX4_chooseSet) (maxL := 6) (by decide) rfl (Nat.le_of_ble_eq_true rfl) ?_
  intro p e s m args below meth c A ls Q hE hret
  obtain ⟨hx, hb, hts, hown, hml, hP, hK, hD, hN, hA, hl⟩ := hE
  have hown : s.vm.findClass RX4 = some m.cls := hown
  have hl : lv_has ls 6 [(0, .ref (ad 18)), (1, .ref (ad 9))] := hl
  have hS : va_S A s.heap s.heap [] := va_S.rf
  have k_0 : (Cond.fieldLink RX4 27 "BellBook$Plan" "hope" "I").before args s = true := hts _ (List.mem_of_getElem? (i := 1) rfl)
  have n_4 : ∀ w ∈ u_ws RX4 TX4 6, w ∈ wsX4_chooseSet := fun w hw => List.mem_cons_of_mem _ (List.mem_append_left _ (List.mem_append_right _ hw))
  have k_2 : (Cond.fieldLink RX4 30 "BellBook$Plan" "toil" "I").before args s = true := hts _ (List.mem_of_getElem? (i := 2) rfl)
  have k_3 : (Cond.fieldLink RX4 61 "BellBook$Wreck" "count" "I").before args s = true := hts _ (List.mem_of_getElem? (i := 3) rfl)
  have n_6 : ∀ w ∈ u_ws RX6 TX6 12, w ∈ wsX4_chooseSet := fun w hw => List.mem_cons_of_mem _ (List.mem_append_right _ hw)
  have k_5 : (Cond.fieldLink RX4 20 "BellBook$Plan" "latest" "[I").before args s = true := hts _ (List.mem_of_getElem? (i := 4) rfl)
  refine lv_iconst (v := 0) hx hb dX4_chooseSet_0 (by decide) ?_
  refine lv_istore_n (lv' := [(2, .int (0)), (0, .ref (ad 18)), (1, .ref (ad 9))]) hx hb dX4_chooseSet_1 rfl hl (by decide) rfl (fun ls hl => ?_)
  refine lv_aload_n hx hb dX4_chooseSet_2 rfl (lv_at hl 1 rfl) ?_
  refine lv_iconst (v := 0) hx hb dX4_chooseSet_3 (by decide) ?_
  obtain ⟨F4, eF4⟩ : ∃ f : tF, f = upd F 21 0 := ⟨_, rfl⟩
  replace h := pl h eF4
  refine va_put (D := D) (ci := 4) (fs := vX4 ad F) (v := .int (0)) (ty := .int) (C := RX4) (T := TX4) (N := 6) hx hb hts n_4 tyX4 tyX4_ok nmX4 hown hK hP hD hS 18 wCg18 rfl 3 (by decide) k_0 (fun _ h9 => h9) rfl (tyX4_ok 3 (by decide)) rfl rfl (Nat.le_of_ble_eq_true rfl) dX4_chooseSet_4 (fun H locs hP hD hS => ?_)
  rw [wCp21 eF4] at hP hD
  refine lv_aload_n hx hb dX4_chooseSet_7 rfl (lv_at hl 1 rfl) ?_
  refine lv_iconst (v := 0) hx hb dX4_chooseSet_8 (by decide) ?_
  obtain ⟨F9, eF9⟩ : ∃ f : tF, f = upd F4 22 0 := ⟨_, rfl⟩
  replace h := pl h eF9
  refine va_put (D := D) (ci := 4) (fs := vX4 ad F4) (v := .int (0)) (ty := .int) (C := RX4) (T := TX4) (N := 6) hx hb hts n_4 tyX4 tyX4_ok nmX4 hown hK hP hD hS 18 wCg18 rfl 4 (by decide) k_2 (fun _ h9 => h9) rfl (tyX4_ok 4 (by decide)) rfl rfl (Nat.le_of_ble_eq_true rfl) dX4_chooseSet_9 (fun H locs hP hD hS => ?_)
  rw [wCp22 eF9] at hP hD
  refine lv_iconst (v := 1) hx hb dX4_chooseSet_12 (by decide) ?_
  refine lv_istore_n (lv' := [(3, .int (1)), (2, .int (0)), (0, .ref (ad 18)), (1, .ref (ad 9))]) hx hb dX4_chooseSet_13 rfl hl (by decide) rfl (fun ls hl => ?_)
  obtain ⟨K14, eK14, h⟩ := p_X4_chooseSet_L14_k h
  have JE14 : ∀ (z14_0 : Int32) (z14_1 : Int32) (F14l : tF) (H : Heap) (locs : List Loc) (ls : Array Slot), K14 z14_0 z14_1 F14l = some (r, F', G') → va_P D vwCl (wC ad cA F14l G) H → va_D A (wC ad cA F14l G) → va_S A s.heap H locs → lv_has ls 6 [(3, .int (z14_0)), (2, .int (z14_1)), (0, .ref (ad 18)), (1, .ref (ad 9))] → W p l e ({ frames := 2, cells := 0, slots := 0, locals := 44 } : Room) s m args below meth c H locs 0 0 Q (F0 m 106 ls []) := by
    intro z14_0 z14_1 F14l H locs ls h hP hD hS hl
    rw [eK14] at h
    refine lv_iload_n hx hb dX4_chooseSet_106 rfl (lv_at hl 1 rfl) ?_
    exact hret _ _ _ _ _ _ _ dX4_chooseSet_107 h hP hD hS
  have LL14 : ∀ (k : Nat) (z14_0 : Int32) (z14_1 : Int32) (F14l : tF) (H : Heap) (locs : List Loc) (ls : Array Slot), p_X4_chooseSet_L14 n G K14 k z14_0 z14_1 F14l = some (r, F', G') → va_P D vwCl (wC ad cA F14l G) H → va_D A (wC ad cA F14l G) → va_S A s.heap H locs → lv_has ls 6 [(3, .int (z14_0)), (2, .int (z14_1)), (0, .ref (ad 18)), (1, .ref (ad 9))] → W p l e ({ frames := 2, cells := 0, slots := 0, locals := 44 } : Room) s m args below meth c H locs 0 0 Q (F0 m 14 ls []) := by
    intro k
    induction k with
    | zero =>
      intro z14_0 z14_1 F14l H locs ls h hP hD hS hl
      rw [p_X4_chooseSet_L14] at h
      cases h
    | succ k14 ih14 =>
      intro z14_0 z14_1 F14l H locs ls h hP hD hS hl
      rw [p_X4_chooseSet_L14] at h
      refine lv_iload_n hx hb dX4_chooseSet_14 rfl (lv_at hl 0 rfl) ?_
      refine lv_iconst (v := 1) hx hb dX4_chooseSet_15 (by decide) ?_
      refine lv_aload_n hx hb dX4_chooseSet_16 rfl (lv_at hl 3 rfl) ?_
      refine va_get (D := D) (ci := 6) (fs := vX6 ad F14l) (v := .int ((F14l 15))) (C := RX6) (T := TX6) (N := 12) hx hb hts n_6 hown hK hP 9 wCg9 rfl 8 (by decide) k_3 (fun _ h9 => h9) rfl dX4_chooseSet_17 ?_
      refine lv_ishl hx hb dX4_chooseSet_20 ?_
      refine lv_icmp_ge (tgt := 106) hx hb dX4_chooseSet_21 (by decide) (fun c21 => ?_) (fun c21 => ?_)
      · replace h := ifp h c21
        exact JE14 _ _ _ _ _ _ h hP hD hS (lv_sub hl [0, 1, 2, 3] rfl)
      · replace h := ifn h c21
        refine lv_aload_n hx hb dX4_chooseSet_24 rfl (lv_at hl 2 rfl) ?_
        refine va_get (D := D) (ci := 4) (fs := vX4 ad F14l) (v := .ref (ad 21)) (C := RX4) (T := TX4) (N := 6) hx hb hts n_4 hown hK hP 18 wCg18 rfl 5 (by decide) k_5 (fun _ h9 => h9) rfl dX4_chooseSet_25 ?_
        refine lv_iload_n hx hb dX4_chooseSet_28 rfl (lv_at hl 0 rfl) ?_
        obtain ⟨g29, h⟩ := og h
        refine va_iald (D := D) hx hb hK hP 21 0 wCg21 rfl (inB_in g29) dX4_chooseSet_29 ?_
        refine lv_iconst (v := (-1)) hx hb dX4_chooseSet_30 (by decide) ?_
        obtain ⟨y31_0, F31j, q31, h⟩ := bi2e h
        have J31 : ∀ (wy31_0 : Int32) (wF31j : tF), some (wy31_0, wF31j) = some (y31_0, F31j) → ∀ (H : Heap) (locs : List Loc) (ls : Array Slot), va_P D vwCl (wC ad cA wF31j G) H → va_D A (wC ad cA wF31j G) → va_S A s.heap H locs → lv_has ls 6 [(3, .int (z14_0)), (2, .int (wy31_0)), (0, .ref (ad 18)), (1, .ref (ad 9))] → W p l e ({ frames := 2, cells := 0, slots := 0, locals := 44 } : Room) s m args below meth c H locs 0 0 Q (F0 m 100 ls []) := by
          intro wy31_0 wF31j e9 H locs ls hP hD hS hl
          cases e9
          obtain ⟨x100, ex100⟩ : ∃ z : Int32, z = (z14_0 + 1) := ⟨_, rfl⟩
          replace h := pl h ex100
          refine lv_iinc (v := x100) (lv' := [(3, .int (x100)), (2, .int (y31_0)), (0, .ref (ad 18)), (1, .ref (ad 9))]) hx hb dX4_chooseSet_100 hl (k := 0) rfl (by rw [ex100]; rfl) (by decide) rfl (fun ls hl => ?_)
          refine lv_goto (tgt := 14) hx hb dX4_chooseSet_103 (by decide) ?_
          exact ih14 _ _ _ _ _ _ h hP hD hS (lv_sub hl [0, 1, 2, 3] rfl)
        refine lv_icmp_eq (tgt := 100) hx hb dX4_chooseSet_31 (by decide) (fun c31 => ?_) (fun c31 => ?_)
        · replace q31 := ifp q31 c31
          exact J31 _ _ q31 _ _ _ hP hD hS (lv_sub hl [0, 1, 2, 3] rfl)
        · replace q31 := ifn q31 c31
          refine lv_aload_n hx hb dX4_chooseSet_34 rfl (lv_at hl 3 rfl) ?_
          refine lv_iload_n hx hb dX4_chooseSet_35 rfl (lv_at hl 0 rfl) ?_
          obtain ⟨x36, h36, q31⟩ := bi1e q31
          refine callVI (b := ad 9) (As := [.int (z14_0)]) (rest := []) ⟨hx, hb, hml, hown, hts⟩ (c_X6_isWhole l D ad cA n F14l G z14_0 h36) (cwV 1 hts gX4_chooseSet_X6_isWhole rfl rfl rfl (by decide +kernel) ⟨Nat.le_of_ble_eq_true rfl, Nat.le_of_ble_eq_true rfl⟩) (va_recv hK hP (ci := 6) (q0 := 9) rfl wCg9) hP hK hD hN hS hA rfl hl.1 rfl (Nat.le_of_ble_eq_true rfl) dX4_chooseSet_36 ⟨Nat.zero_le _, Nat.zero_le _⟩ (fun H locs hP hD hS => ?_)
          refine lv_if_ne (tgt := 45) hx hb dX4_chooseSet_39 (by decide) (fun c39 => ?_) (fun c39 => ?_)
          · replace q31 := ifn q31 c39
            refine lv_aload_n hx hb dX4_chooseSet_45 rfl (lv_at hl 3 rfl) ?_
            refine lv_iload_n hx hb dX4_chooseSet_46 rfl (lv_at hl 0 rfl) ?_
            obtain ⟨x47, h47, q31⟩ := bi1e q31
            refine callSI (As := [.ref (ad 9), .int (z14_0)]) (rest := []) ⟨hx, hb, hml, hown, hts⟩ (c_X4_hopeOf l D ad cA n F14l G z14_0 h47) (va_cwS 2 hts gX4_chooseSet_X4_hopeOf rfl rfl rfl (by decide +kernel) ⟨Nat.le_of_ble_eq_true rfl, Nat.le_of_ble_eq_true rfl⟩) hP hK hD hN hS hA rfl hl.1 rfl (Nat.le_of_ble_eq_true rfl) dX4_chooseSet_47 ⟨Nat.zero_le _, Nat.zero_le _⟩ (fun H locs hP hD hS => ?_)
            refine lv_istore (lv' := [(4, .int (x47)), (3, .int (z14_0)), (2, .int (z14_1)), (0, .ref (ad 18)), (1, .ref (ad 9))]) hx hb dX4_chooseSet_50 hl (by decide) rfl (fun ls hl => ?_)
            refine lv_aload_n hx hb dX4_chooseSet_52 rfl (lv_at hl 4 rfl) ?_
            refine lv_iload_n hx hb dX4_chooseSet_53 rfl (lv_at hl 1 rfl) ?_
            obtain ⟨x54, h54, q31⟩ := bi1e q31
            refine callSI (As := [.ref (ad 9), .int (z14_0)]) (rest := []) ⟨hx, hb, hml, hown, hts⟩ (c_X4_toilOf l D ad cA n F14l G z14_0 h54) (va_cwS 2 hts gX4_chooseSet_X4_toilOf rfl rfl rfl (by decide +kernel) ⟨Nat.le_of_ble_eq_true rfl, Nat.le_of_ble_eq_true rfl⟩) hP hK hD hN hS hA rfl hl.1 rfl (Nat.le_of_ble_eq_true rfl) dX4_chooseSet_54 ⟨Nat.zero_le _, Nat.zero_le _⟩ (fun H locs hP hD hS => ?_)
            refine lv_istore (lv' := [(5, .int (x54)), (4, .int (x47)), (3, .int (z14_0)), (2, .int (z14_1)), (0, .ref (ad 18)), (1, .ref (ad 9))]) hx hb dX4_chooseSet_57 hl (by decide) rfl (fun ls hl => ?_)
            refine lv_iload hx hb dX4_chooseSet_59 (lv_at hl 1 rfl) ?_
            refine lv_aload_n hx hb dX4_chooseSet_61 rfl (lv_at hl 4 rfl) ?_
            refine va_get (D := D) (ci := 4) (fs := vX4 ad F14l) (v := .int ((F14l 21))) (C := RX4) (T := TX4) (N := 6) hx hb hts n_4 hown hK hP 18 wCg18 rfl 3 (by decide) k_0 (fun _ h9 => h9) rfl dX4_chooseSet_62 ?_
            refine lv_icmp_gt (tgt := 86) hx hb dX4_chooseSet_65 (by decide) (fun c65 => ?_) (fun c65 => ?_)
            · replace q31 := ifp q31 c65
              refine lv_iload_n hx hb dX4_chooseSet_86 rfl (lv_at hl 2 rfl) ?_
              refine lv_istore_n (lv' := [(2, .int (z14_0)), (5, .int (x54)), (4, .int (x47)), (3, .int (z14_0)), (0, .ref (ad 18)), (1, .ref (ad 9))]) hx hb dX4_chooseSet_87 rfl hl (by decide) rfl (fun ls hl => ?_)
              refine lv_aload_n hx hb dX4_chooseSet_88 rfl (lv_at hl 4 rfl) ?_
              refine lv_iload hx hb dX4_chooseSet_89 (lv_at hl 2 rfl) ?_
              obtain ⟨F91, eF91⟩ : ∃ f : tF, f = upd F14l 21 x47 := ⟨_, rfl⟩
              replace q31 := pl q31 eF91
              refine va_put (D := D) (ci := 4) (fs := vX4 ad F14l) (v := .int (x47)) (ty := .int) (C := RX4) (T := TX4) (N := 6) hx hb hts n_4 tyX4 tyX4_ok nmX4 hown hK hP hD hS 18 wCg18 rfl 3 (by decide) k_0 (fun _ h9 => h9) rfl (tyX4_ok 3 (by decide)) rfl rfl (Nat.le_of_ble_eq_true rfl) dX4_chooseSet_91 (fun H locs hP hD hS => ?_)
              rw [wCp21 eF91] at hP hD
              refine lv_aload_n hx hb dX4_chooseSet_94 rfl (lv_at hl 4 rfl) ?_
              refine lv_iload hx hb dX4_chooseSet_95 (lv_at hl 1 rfl) ?_
              obtain ⟨F97, eF97⟩ : ∃ f : tF, f = upd F91 22 x54 := ⟨_, rfl⟩
              replace q31 := pl q31 eF97
              refine va_put (D := D) (ci := 4) (fs := vX4 ad F91) (v := .int (x54)) (ty := .int) (C := RX4) (T := TX4) (N := 6) hx hb hts n_4 tyX4 tyX4_ok nmX4 hown hK hP hD hS 18 wCg18 rfl 4 (by decide) k_2 (fun _ h9 => h9) rfl (tyX4_ok 4 (by decide)) rfl rfl (Nat.le_of_ble_eq_true rfl) dX4_chooseSet_97 (fun H locs hP hD hS => ?_)
              rw [wCp22 eF97] at hP hD
              exact J31 _ _ q31 _ _ _ hP hD hS (lv_sub hl [3, 0, 4, 5] rfl)
            · replace q31 := ifn q31 c65
              refine lv_iload hx hb dX4_chooseSet_68 (lv_at hl 1 rfl) ?_
              refine lv_aload_n hx hb dX4_chooseSet_70 rfl (lv_at hl 4 rfl) ?_
              refine va_get (D := D) (ci := 4) (fs := vX4 ad F14l) (v := .int ((F14l 21))) (C := RX4) (T := TX4) (N := 6) hx hb hts n_4 hown hK hP 18 wCg18 rfl 3 (by decide) k_0 (fun _ h9 => h9) rfl dX4_chooseSet_71 ?_
              refine lv_icmp_ne (tgt := 100) hx hb dX4_chooseSet_74 (by decide) (fun c74 => ?_) (fun c74 => ?_)
              · replace q31 := ifn q31 c74
                exact J31 _ _ q31 _ _ _ hP hD hS (lv_sub hl [2, 3, 4, 5] rfl)
              · replace q31 := ifp q31 c74
                refine lv_iload hx hb dX4_chooseSet_77 (lv_at hl 0 rfl) ?_
                refine lv_aload_n hx hb dX4_chooseSet_79 rfl (lv_at hl 4 rfl) ?_
                refine va_get (D := D) (ci := 4) (fs := vX4 ad F14l) (v := .int ((F14l 22))) (C := RX4) (T := TX4) (N := 6) hx hb hts n_4 hown hK hP 18 wCg18 rfl 4 (by decide) k_2 (fun _ h9 => h9) rfl dX4_chooseSet_80 ?_
                refine lv_icmp_ge (tgt := 100) hx hb dX4_chooseSet_83 (by decide) (fun c83 => ?_) (fun c83 => ?_)
                · replace q31 := ifp q31 c83
                  exact J31 _ _ q31 _ _ _ hP hD hS (lv_sub hl [2, 3, 4, 5] rfl)
                · replace q31 := ifn q31 c83
                  refine lv_iload_n hx hb dX4_chooseSet_86 rfl (lv_at hl 2 rfl) ?_
                  refine lv_istore_n (lv' := [(2, .int (z14_0)), (5, .int (x54)), (4, .int (x47)), (3, .int (z14_0)), (0, .ref (ad 18)), (1, .ref (ad 9))]) hx hb dX4_chooseSet_87 rfl hl (by decide) rfl (fun ls hl => ?_)
                  refine lv_aload_n hx hb dX4_chooseSet_88 rfl (lv_at hl 4 rfl) ?_
                  refine lv_iload hx hb dX4_chooseSet_89 (lv_at hl 2 rfl) ?_
                  obtain ⟨F91, eF91⟩ : ∃ f : tF, f = upd F14l 21 x47 := ⟨_, rfl⟩
                  replace q31 := pl q31 eF91
                  refine va_put (D := D) (ci := 4) (fs := vX4 ad F14l) (v := .int (x47)) (ty := .int) (C := RX4) (T := TX4) (N := 6) hx hb hts n_4 tyX4 tyX4_ok nmX4 hown hK hP hD hS 18 wCg18 rfl 3 (by decide) k_0 (fun _ h9 => h9) rfl (tyX4_ok 3 (by decide)) rfl rfl (Nat.le_of_ble_eq_true rfl) dX4_chooseSet_91 (fun H locs hP hD hS => ?_)
                  rw [wCp21 eF91] at hP hD
                  refine lv_aload_n hx hb dX4_chooseSet_94 rfl (lv_at hl 4 rfl) ?_
                  refine lv_iload hx hb dX4_chooseSet_95 (lv_at hl 1 rfl) ?_
                  obtain ⟨F97, eF97⟩ : ∃ f : tF, f = upd F91 22 x54 := ⟨_, rfl⟩
                  replace q31 := pl q31 eF97
                  refine va_put (D := D) (ci := 4) (fs := vX4 ad F91) (v := .int (x54)) (ty := .int) (C := RX4) (T := TX4) (N := 6) hx hb hts n_4 tyX4 tyX4_ok nmX4 hown hK hP hD hS 18 wCg18 rfl 4 (by decide) k_2 (fun _ h9 => h9) rfl (tyX4_ok 4 (by decide)) rfl rfl (Nat.le_of_ble_eq_true rfl) dX4_chooseSet_97 (fun H locs hP hD hS => ?_)
                  rw [wCp22 eF97] at hP hD
                  exact J31 _ _ q31 _ _ _ hP hD hS (lv_sub hl [3, 0, 4, 5] rfl)
          · replace q31 := ifp q31 c39
            refine lv_goto (tgt := 100) hx hb dX4_chooseSet_42 (by decide) ?_
            exact J31 _ _ q31 _ _ _ hP hD hS (lv_sub hl [0, 1, 2, 3] rfl)
  exact LL14 n 1 0 F9 _ _ _ h hP hD hS (lv_sub hl [0, 1, 2, 3] rfl)

def p_X5_moment (a0 : Int32) (a1 : Int32) : Option (Int32) :=
  some ((a0 * 512) + a1)
set_option maxHeartbeats 4000000 in
set_option maxRecDepth 100000 in
theorem c_X5_moment (l : Launch) (D : va_G) (ad : Nat → Nat) (cA : ClassId) (n : Nat) (F : tF) (G : tG) (a0 : Int32) (a1 : Int32) {r : Int32} (h : p_X5_moment a0 a1 = some r) : CI l yX5_moment wsX5_moment ({ frames := 0, cells := 0, slots := 0, locals := 0 } : Room) D cA (wC ad cA F G) [.int (a0), .int (a1)] r (wC ad cA F G) := by
  rw [p_X5_moment] at h
  refine metIr (w := wC ad cA) (cc := cX5_moment) (maxL := 2) (by decide) rfl (Nat.le_of_ble_eq_true rfl) ?_
  intro p e s m args below meth c A ls Q hE hret
  obtain ⟨hx, hb, hts, hown, hml, hP, hK, hD, hN, hA, hl⟩ := hE
  have hown : s.vm.findClass RX5 = some m.cls := hown
  have hl : lv_has ls 2 [(0, .int (a0)), (1, .int (a1))] := hl
  have hS : va_S A s.heap s.heap [] := va_S.rf
  refine lv_iload_n hx hb dX5_moment_0 rfl (lv_at hl 0 rfl) ?_
  refine lv_sipush (v := 512) hx hb dX5_moment_1 (by decide) ?_
  refine lv_imul hx hb dX5_moment_4 ?_
  refine lv_iload_n hx hb dX5_moment_5 rfl (lv_at hl 1 rfl) ?_
  refine lv_iadd hx hb dX5_moment_6 ?_
  exact hret _ _ _ _ _ dX5_moment_7 h hP hD hS

def p_X5_lastMoment (F : tF) (G : tG) : Option (Int32) :=
  bi1 ((if (F 19) = 0 then some ((-1)) else oguard (inB ((F 19) - 1) 5) (bi1 (p_X5_moment ((F 19) - 1) (G 12 ((F 19) - 1).toNatClampNeg)) (fun x28 => some (x28))))) (fun (y4_0 : Int32) => some y4_0)
set_option maxHeartbeats 4000000 in
set_option maxRecDepth 100000 in
theorem c_X5_lastMoment (l : Launch) (D : va_G) (ad : Nat → Nat) (cA : ClassId) (n : Nat) (F : tF) (G : tG) {r : Int32} (h : p_X5_lastMoment F G = some r) : CI l yX5_lastMoment wsX5_lastMoment ({ frames := 1, cells := 0, slots := 0, locals := 21 } : Room) D cA (wC ad cA F G) [.ref (ad 16)] r (wC ad cA F G) := by
  rw [p_X5_lastMoment] at h
  refine metIr (w := wC ad cA) (cc := cX5_lastMoment) (maxL := 1) (by decide) rfl (Nat.le_of_ble_eq_true rfl) ?_
  intro p e s m args below meth c A ls Q hE hret
  obtain ⟨hx, hb, hts, hown, hml, hP, hK, hD, hN, hA, hl⟩ := hE
  have hown : s.vm.findClass RX5 = some m.cls := hown
  have hl : lv_has ls 1 [(0, .ref (ad 16))] := hl
  have hS : va_S A s.heap s.heap [] := va_S.rf
  have k_0 : (Cond.fieldLink RX5 13 "BellBook$Tides" "count" "I").before args s = true := hts _ (List.mem_of_getElem? (i := 1) rfl)
  have n_5 : ∀ w ∈ u_ws RX5 TX5 2, w ∈ wsX5_lastMoment := fun w hw => List.mem_cons_of_mem _ (List.mem_append_right _ hw)
  have k_2 : (Cond.fieldLink RX5 9 "BellBook$Tides" "length" "[I").before args s = true := hts _ (List.mem_of_getElem? (i := 2) rfl)
  refine lv_aload_n hx hb dX5_lastMoment_0 rfl (lv_at hl 0 rfl) ?_
  refine va_get (D := D) (ci := 5) (fs := vX5 ad F) (v := .int ((F 19))) (C := RX5) (T := TX5) (N := 2) hx hb hts n_5 hown hK hP 16 wCg16 rfl 1 (by decide) k_0 (fun _ h9 => h9) rfl dX5_lastMoment_1 ?_
  obtain ⟨y4_0, q4, h⟩ := bi1e h
  have J4 : ∀ (wy4_0 : Int32), some (wy4_0) = some (y4_0) → ∀ (H : Heap) (locs : List Loc) (ls : Array Slot), va_P D vwCl (wC ad cA F G) H → va_D A (wC ad cA F G) → va_S A s.heap H locs → lv_has ls 1 [(0, .ref (ad 16))] → W p l e ({ frames := 1, cells := 0, slots := 0, locals := 21 } : Room) s m args below meth c H locs 0 0 Q (F0 m 31 ls [.int (wy4_0)]) := by
    intro wy4_0 e9 H locs ls hP hD hS hl
    cases e9
    exact hret _ _ _ _ _ dX5_lastMoment_31 h hP hD hS
  refine lv_if_ne (tgt := 11) hx hb dX5_lastMoment_4 (by decide) (fun c4 => ?_) (fun c4 => ?_)
  · replace q4 := ifn q4 c4
    refine lv_aload_n hx hb dX5_lastMoment_11 rfl (lv_at hl 0 rfl) ?_
    refine va_get (D := D) (ci := 5) (fs := vX5 ad F) (v := .int ((F 19))) (C := RX5) (T := TX5) (N := 2) hx hb hts n_5 hown hK hP 16 wCg16 rfl 1 (by decide) k_0 (fun _ h9 => h9) rfl dX5_lastMoment_12 ?_
    refine lv_iconst (v := 1) hx hb dX5_lastMoment_15 (by decide) ?_
    refine lv_isub hx hb dX5_lastMoment_16 ?_
    refine lv_aload_n hx hb dX5_lastMoment_17 rfl (lv_at hl 0 rfl) ?_
    refine va_get (D := D) (ci := 5) (fs := vX5 ad F) (v := .ref (ad 17)) (C := RX5) (T := TX5) (N := 2) hx hb hts n_5 hown hK hP 16 wCg16 rfl 0 (by decide) k_2 (fun _ h9 => h9) rfl dX5_lastMoment_18 ?_
    refine lv_aload_n hx hb dX5_lastMoment_21 rfl (lv_at hl 0 rfl) ?_
    refine va_get (D := D) (ci := 5) (fs := vX5 ad F) (v := .int ((F 19))) (C := RX5) (T := TX5) (N := 2) hx hb hts n_5 hown hK hP 16 wCg16 rfl 1 (by decide) k_0 (fun _ h9 => h9) rfl dX5_lastMoment_22 ?_
    refine lv_iconst (v := 1) hx hb dX5_lastMoment_25 (by decide) ?_
    refine lv_isub hx hb dX5_lastMoment_26 ?_
    obtain ⟨g27, q4⟩ := og q4
    refine va_iald (D := D) hx hb hK hP 17 0 wCg17 rfl (inB_in g27) dX5_lastMoment_27 ?_
    obtain ⟨x28, h28, q4⟩ := bi1e q4
    refine callSI (As := [.int (((F 19) - 1)), .int ((G 12 ((F 19) - 1).toNatClampNeg))]) (rest := []) ⟨hx, hb, hml, hown, hts⟩ (c_X5_moment l D ad cA n F G ((F 19) - 1) (G 12 ((F 19) - 1).toNatClampNeg) h28) (va_cwS 2 hts gX5_lastMoment_X5_moment rfl rfl rfl (by decide +kernel) ⟨Nat.le_of_ble_eq_true rfl, Nat.le_of_ble_eq_true rfl⟩) hP hK hD hN hS hA rfl hl.1 rfl (Nat.le_of_ble_eq_true rfl) dX5_lastMoment_28 ⟨Nat.zero_le _, Nat.zero_le _⟩ (fun H locs hP hD hS => ?_)
    exact J4 _ q4 _ _ _ hP hD hS (lv_sub hl [0] rfl)
  · replace q4 := ifp q4 c4
    refine lv_iconst (v := (-1)) hx hb dX5_lastMoment_7 (by decide) ?_
    refine lv_goto (tgt := 31) hx hb dX5_lastMoment_8 (by decide) ?_
    exact J4 _ q4 _ _ _ hP hD hS (lv_sub hl [0] rfl)

def p_X4_mayBeFirst (G : tG) (a1 : Int32) (a2 : Int32) : Option (Int32) :=
  bi1 (p_X7_bit a1 a2) (fun x2 => bi1 ((if x2 = 1 then oguard (inB a2 12) ((if ((G 11 a2.toNatClampNeg) &&& a1) = 0 then some (1) else some (0))) else some (0))) (fun (y6_0 : Int32) => oguard (btB y6_0) (some y6_0)))
set_option maxHeartbeats 4000000 in
set_option maxRecDepth 100000 in
theorem c_X4_mayBeFirst (l : Launch) (D : va_G) (ad : Nat → Nat) (cA : ClassId) (n : Nat) (F : tF) (G : tG) (a1 : Int32) (a2 : Int32) {r : Int32} (h : p_X4_mayBeFirst G a1 a2 = some r) : CI l yX4_mayBeFirst wsX4_mayBeFirst ({ frames := 1, cells := 0, slots := 0, locals := 21 } : Room) D cA (wC ad cA F G) [.ref (ad 9), .int (a1), .int (a2)] r (wC ad cA F G) := by
  rw [p_X4_mayBeFirst] at h
  refine metZr (w := wC ad cA) (cc := cX4_mayBeFirst) (maxL := 3) (by decide) rfl (Nat.le_of_ble_eq_true rfl) ?_
  intro p e s m args below meth c A ls Q hE hret
  obtain ⟨hx, hb, hts, hown, hml, hP, hK, hD, hN, hA, hl⟩ := hE
  have hown : s.vm.findClass RX4 = some m.cls := hown
  have hl : lv_has ls 3 [(0, .ref (ad 9)), (1, .int (a1)), (2, .int (a2))] := hl
  have hS : va_S A s.heap s.heap [] := va_S.rf
  have k_0 : (Cond.initialized RX7).before args s = true := hts _ (List.mem_of_getElem? (i := 3) rfl)
  have k_1 : (Cond.static yX7_bit).before args s = true := hts _ (List.mem_of_getElem? (i := 2) rfl)
  have k_2 : (Cond.fieldLink RX4 86 "BellBook$Wreck" "under" "[I").before args s = true := hts _ (List.mem_of_getElem? (i := 1) rfl)
  have n_6 : ∀ w ∈ u_ws RX6 TX6 12, w ∈ wsX4_mayBeFirst := fun w hw => List.mem_cons_of_mem _ (List.mem_append_right _ hw)
  refine lv_iload_n hx hb dX4_mayBeFirst_0 rfl (lv_at hl 1 rfl) ?_
  refine lv_iload_n hx hb dX4_mayBeFirst_1 rfl (lv_at hl 2 rfl) ?_
  obtain ⟨x2, h2, h⟩ := bi1e h
  refine callNI (host := "BellBook") (As := [.int (a1), .int (a2)]) (rest := []) ⟨hx, hb, hml, hown, hts⟩ (c_X7_bit l D ad cA n F G a1 a2 h2) ⟨va_cnB 2 hts gX4_mayBeFirst_X7_bit_n83 rfl rfl rfl hN.2.2.1 k_0 (by decide +kernel) ⟨Nat.le_of_ble_eq_true rfl, Nat.le_of_ble_eq_true rfl⟩, k_1, trivial⟩ hP hK hD hN hS hA rfl hl.1 rfl (Nat.le_of_ble_eq_true rfl) dX4_mayBeFirst_2 ⟨Nat.zero_le _, Nat.zero_le _⟩ (fun H locs hP hD hS => ?_)
  refine lv_iconst (v := 1) hx hb dX4_mayBeFirst_5 (by decide) ?_
  obtain ⟨y6_0, q6, h⟩ := bi1e h
  have J6 : ∀ (wy6_0 : Int32), some (wy6_0) = some (y6_0) → ∀ (H : Heap) (locs : List Loc) (ls : Array Slot), va_P D vwCl (wC ad cA F G) H → va_D A (wC ad cA F G) → va_S A s.heap H locs → lv_has ls 3 [(0, .ref (ad 9)), (1, .int (a1)), (2, .int (a2))] → W p l e ({ frames := 1, cells := 0, slots := 0, locals := 21 } : Room) s m args below meth c H locs 0 0 Q (F0 m 25 ls [.int (wy6_0)]) := by
    intro wy6_0 e9 H locs ls hP hD hS hl
    cases e9
    obtain ⟨g25, h⟩ := og h
    exact hret _ _ _ _ _ dX4_mayBeFirst_25 g25 h hP hD hS
  refine lv_icmp_ne (tgt := 24) hx hb dX4_mayBeFirst_6 (by decide) (fun c6 => ?_) (fun c6 => ?_)
  · replace q6 := ifn q6 c6
    refine lv_iconst (v := 0) hx hb dX4_mayBeFirst_24 (by decide) ?_
    exact J6 _ q6 _ _ _ hP hD hS (lv_sub hl [0, 1, 2] rfl)
  · replace q6 := ifp q6 c6
    refine lv_aload_n hx hb dX4_mayBeFirst_9 rfl (lv_at hl 0 rfl) ?_
    refine va_get (D := D) (ci := 6) (fs := vX6 ad F) (v := .ref (ad 15)) (C := RX6) (T := TX6) (N := 12) hx hb hts n_6 hown hK hP 9 wCg9 rfl 5 (by decide) k_2 (fun _ h9 => h9) rfl dX4_mayBeFirst_10 ?_
    refine lv_iload_n hx hb dX4_mayBeFirst_13 rfl (lv_at hl 2 rfl) ?_
    obtain ⟨g14, q6⟩ := og q6
    refine va_iald (D := D) hx hb hK hP 15 0 wCg15 rfl (inB_in g14) dX4_mayBeFirst_14 ?_
    refine lv_iload_n hx hb dX4_mayBeFirst_15 rfl (lv_at hl 1 rfl) ?_
    refine lv_iand hx hb dX4_mayBeFirst_16 ?_
    refine lv_if_ne (tgt := 24) hx hb dX4_mayBeFirst_17 (by decide) (fun c17 => ?_) (fun c17 => ?_)
    · replace q6 := ifn q6 c17
      refine lv_iconst (v := 0) hx hb dX4_mayBeFirst_24 (by decide) ?_
      exact J6 _ q6 _ _ _ hP hD hS (lv_sub hl [0, 1, 2] rfl)
    · replace q6 := ifp q6 c17
      refine lv_iconst (v := 1) hx hb dX4_mayBeFirst_20 (by decide) ?_
      refine lv_goto (tgt := 25) hx hb dX4_mayBeFirst_21 (by decide) ?_
      exact J6 _ q6 _ _ _ hP hD hS (lv_sub hl [0, 1, 2] rfl)

def p_X5_tideAt (a0 : Int32) : Option (Int32) :=
  some (a0 / 512)
set_option maxHeartbeats 4000000 in
set_option maxRecDepth 100000 in
theorem c_X5_tideAt (l : Launch) (D : va_G) (ad : Nat → Nat) (cA : ClassId) (n : Nat) (F : tF) (G : tG) (a0 : Int32) {r : Int32} (h : p_X5_tideAt a0 = some r) : CI l yX5_tideAt wsX5_tideAt ({ frames := 0, cells := 0, slots := 0, locals := 0 } : Room) D cA (wC ad cA F G) [.int (a0)] r (wC ad cA F G) := by
  rw [p_X5_tideAt] at h
  refine metIr (w := wC ad cA) (cc := cX5_tideAt) (maxL := 1) (by decide) rfl (Nat.le_of_ble_eq_true rfl) ?_
  intro p e s m args below meth c A ls Q hE hret
  obtain ⟨hx, hb, hts, hown, hml, hP, hK, hD, hN, hA, hl⟩ := hE
  have hown : s.vm.findClass RX5 = some m.cls := hown
  have hl : lv_has ls 1 [(0, .int (a0))] := hl
  have hS : va_S A s.heap s.heap [] := va_S.rf
  refine lv_iload_n hx hb dX5_tideAt_0 rfl (lv_at hl 0 rfl) ?_
  refine lv_sipush (v := 512) hx hb dX5_tideAt_1 (by decide) ?_
  refine lv_idiv hx hb dX5_tideAt_4 (by decide) ?_
  exact hret _ _ _ _ _ dX5_tideAt_5 h hP hD hS

def p_X5_latestBegin_L20 (G : tG) (a2 : Int32) (K20 : Int32 → Option (Int32)) : Nat → Int32 → Option (Int32)
  | 0, _ => none
  | k20 + 1, z20_0 => (if z20_0 < 0 then K20 z20_0 else oguard (inB z20_0 5) ((if (G 12 z20_0.toNatClampNeg) < a2 then plet (z20_0 + (-1)) (fun (x47 : Int32) => p_X5_latestBegin_L20 G a2 K20 k20 x47) else oguard (inB z20_0 5) (bi1 (p_X5_moment z20_0 ((G 12 z20_0.toNatClampNeg) - a2)) (fun x43 => some x43)))))
theorem p_X5_latestBegin_L20_k {G : tG} {a2 : Int32} {K0 : Int32 → Option (Int32)} {k : Nat} {z20_0 : Int32} {x : Int32} (h : p_X5_latestBegin_L20 G a2 K0 k z20_0 = some x) : ∃ K, K = K0 ∧ p_X5_latestBegin_L20 G a2 K k z20_0 = some x := ⟨K0, rfl, h⟩
def p_X5_latestBegin (n : Nat) (G : tG) (a1 : Int32) (a2 : Int32) : Option (Int32) :=
  (if (a1 - a1 / 512 * 512) < a2 then bi1 (p_X5_tideAt a1) (fun x14 => plet (x14 - 1) (fun (x19 : Int32) => p_X5_latestBegin_L20 G a2 (fun (z20_0 : Int32) => some (-1)) n x19)) else some (a1 - a2))
set_option maxHeartbeats 4000000 in
set_option maxRecDepth 100000 in
theorem c_X5_latestBegin (l : Launch) (D : va_G) (ad : Nat → Nat) (cA : ClassId) (n : Nat) (F : tF) (G : tG) (a1 : Int32) (a2 : Int32) {r : Int32} (h : p_X5_latestBegin n G a1 a2 = some r) : CI l yX5_latestBegin wsX5_latestBegin ({ frames := 1, cells := 0, slots := 0, locals := 21 } : Room) D cA (wC ad cA F G) [.ref (ad 16), .int (a1), .int (a2)] r (wC ad cA F G) := by
  rw [p_X5_latestBegin] at h
  refine metIr (w := wC ad cA) (cc := cX5_latestBegin) (maxL := 4) (by decide) rfl (Nat.le_of_ble_eq_true rfl) ?_
  intro p e s m args below meth c A ls Q hE hret
  obtain ⟨hx, hb, hts, hown, hml, hP, hK, hD, hN, hA, hl⟩ := hE
  have hown : s.vm.findClass RX5 = some m.cls := hown
  have hl : lv_has ls 4 [(0, .ref (ad 16)), (1, .int (a1)), (2, .int (a2))] := hl
  have hS : va_S A s.heap s.heap [] := va_S.rf
  have k_0 : (Cond.fieldLink RX5 9 "BellBook$Tides" "length" "[I").before args s = true := hts _ (List.mem_of_getElem? (i := 1) rfl)
  have n_5 : ∀ w ∈ u_ws RX5 TX5 2, w ∈ wsX5_latestBegin := fun w hw => List.mem_cons_of_mem _ (List.mem_append_right _ hw)
  refine lv_iload_n hx hb dX5_latestBegin_0 rfl (lv_at hl 1 rfl) ?_
  refine lv_sipush (v := 512) hx hb dX5_latestBegin_1 (by decide) ?_
  refine lv_irem hx hb dX5_latestBegin_4 (by decide) ?_
  refine lv_iload_n hx hb dX5_latestBegin_5 rfl (lv_at hl 2 rfl) ?_
  refine lv_icmp_lt (tgt := 13) hx hb dX5_latestBegin_6 (by decide) (fun c6 => ?_) (fun c6 => ?_)
  · replace h := ifp h c6
    refine lv_iload_n hx hb dX5_latestBegin_13 rfl (lv_at hl 1 rfl) ?_
    obtain ⟨x14, h14, h⟩ := bi1e h
    refine callSI (As := [.int (a1)]) (rest := []) ⟨hx, hb, hml, hown, hts⟩ (c_X5_tideAt l D ad cA n F G a1 h14) (va_cwS 1 hts gX5_latestBegin_X5_tideAt rfl rfl rfl (by decide +kernel) ⟨Nat.le_of_ble_eq_true rfl, Nat.le_of_ble_eq_true rfl⟩) hP hK hD hN hS hA rfl hl.1 rfl (Nat.le_of_ble_eq_true rfl) dX5_latestBegin_14 ⟨Nat.zero_le _, Nat.zero_le _⟩ (fun H locs hP hD hS => ?_)
    refine lv_iconst (v := 1) hx hb dX5_latestBegin_17 (by decide) ?_
    refine lv_isub hx hb dX5_latestBegin_18 ?_
    refine lv_topi (fun x19 ex19 => ?_)
    replace h := pl h ex19
    refine lv_istore_n (lv' := [(3, .int (x19)), (0, .ref (ad 16)), (1, .int (a1)), (2, .int (a2))]) hx hb dX5_latestBegin_19 rfl hl (by decide) rfl (fun ls hl => ?_)
    obtain ⟨K20, eK20, h⟩ := p_X5_latestBegin_L20_k h
    have JE20 : ∀ (z20_0 : Int32) (H : Heap) (locs : List Loc) (ls : Array Slot), K20 z20_0 = some r → va_P D vwCl (wC ad cA F G) H → va_D A (wC ad cA F G) → va_S A s.heap H locs → lv_has ls 4 [(3, .int (z20_0)), (0, .ref (ad 16)), (1, .int (a1)), (2, .int (a2))] → W p l e ({ frames := 1, cells := 0, slots := 0, locals := 21 } : Room) s m args below meth c H locs 0 0 Q (F0 m 53 ls []) := by
      intro z20_0 H locs ls h hP hD hS hl
      rw [eK20] at h
      refine lv_iconst (v := (-1)) hx hb dX5_latestBegin_53 (by decide) ?_
      exact hret _ _ _ _ _ dX5_latestBegin_54 h hP hD hS
    have LL20 : ∀ (k : Nat) (z20_0 : Int32) (H : Heap) (locs : List Loc) (ls : Array Slot), p_X5_latestBegin_L20 G a2 K20 k z20_0 = some r → va_P D vwCl (wC ad cA F G) H → va_D A (wC ad cA F G) → va_S A s.heap H locs → lv_has ls 4 [(3, .int (z20_0)), (0, .ref (ad 16)), (1, .int (a1)), (2, .int (a2))] → W p l e ({ frames := 1, cells := 0, slots := 0, locals := 21 } : Room) s m args below meth c H locs 0 0 Q (F0 m 20 ls []) := by
      intro k
      induction k with
      | zero =>
        intro z20_0 H locs ls h hP hD hS hl
        rw [p_X5_latestBegin_L20] at h
        cases h
      | succ k20 ih20 =>
        intro z20_0 H locs ls h hP hD hS hl
        rw [p_X5_latestBegin_L20] at h
        refine lv_iload_n hx hb dX5_latestBegin_20 rfl (lv_at hl 0 rfl) ?_
        refine lv_if_lt (tgt := 53) hx hb dX5_latestBegin_21 (by decide) (fun c21 => ?_) (fun c21 => ?_)
        · replace h := ifp h c21
          exact JE20 _ _ _ _ h hP hD hS (lv_sub hl [0, 1, 2, 3] rfl)
        · replace h := ifn h c21
          refine lv_iload_n hx hb dX5_latestBegin_24 rfl (lv_at hl 3 rfl) ?_
          refine lv_aload_n hx hb dX5_latestBegin_25 rfl (lv_at hl 1 rfl) ?_
          refine va_get (D := D) (ci := 5) (fs := vX5 ad F) (v := .ref (ad 17)) (C := RX5) (T := TX5) (N := 2) hx hb hts n_5 hown hK hP 16 wCg16 rfl 0 (by decide) k_0 (fun _ h9 => h9) rfl dX5_latestBegin_26 ?_
          refine lv_iload_n hx hb dX5_latestBegin_29 rfl (lv_at hl 0 rfl) ?_
          obtain ⟨g30, h⟩ := og h
          refine va_iald (D := D) hx hb hK hP 17 0 wCg17 rfl (inB_in g30) dX5_latestBegin_30 ?_
          refine lv_icmp_gt (tgt := 47) hx hb dX5_latestBegin_31 (by decide) (fun c31 => ?_) (fun c31 => ?_)
          · replace h := ifp h c31
            obtain ⟨x47, ex47⟩ : ∃ z : Int32, z = (z20_0 + (-1)) := ⟨_, rfl⟩
            replace h := pl h ex47
            refine lv_iinc (v := x47) (lv' := [(3, .int (x47)), (0, .ref (ad 16)), (1, .int (a1)), (2, .int (a2))]) hx hb dX5_latestBegin_47 hl (k := 0) rfl (by rw [ex47]; rfl) (by decide) rfl (fun ls hl => ?_)
            refine lv_goto (tgt := 20) hx hb dX5_latestBegin_50 (by decide) ?_
            exact ih20 _ _ _ _ h hP hD hS (lv_sub hl [0, 1, 2, 3] rfl)
          · replace h := ifn h c31
            refine lv_iload_n hx hb dX5_latestBegin_34 rfl (lv_at hl 0 rfl) ?_
            refine lv_aload_n hx hb dX5_latestBegin_35 rfl (lv_at hl 1 rfl) ?_
            refine va_get (D := D) (ci := 5) (fs := vX5 ad F) (v := .ref (ad 17)) (C := RX5) (T := TX5) (N := 2) hx hb hts n_5 hown hK hP 16 wCg16 rfl 0 (by decide) k_0 (fun _ h9 => h9) rfl dX5_latestBegin_36 ?_
            refine lv_iload_n hx hb dX5_latestBegin_39 rfl (lv_at hl 0 rfl) ?_
            obtain ⟨g40, h⟩ := og h
            refine va_iald (D := D) hx hb hK hP 17 0 wCg17 rfl (inB_in g40) dX5_latestBegin_40 ?_
            refine lv_iload_n hx hb dX5_latestBegin_41 rfl (lv_at hl 3 rfl) ?_
            refine lv_isub hx hb dX5_latestBegin_42 ?_
            obtain ⟨x43, h43, h⟩ := bi1e h
            refine callSI (As := [.int (z20_0), .int (((G 12 z20_0.toNatClampNeg) - a2))]) (rest := []) ⟨hx, hb, hml, hown, hts⟩ (c_X5_moment l D ad cA n F G z20_0 ((G 12 z20_0.toNatClampNeg) - a2) h43) (va_cwS 2 hts gX5_latestBegin_X5_moment rfl rfl rfl (by decide +kernel) ⟨Nat.le_of_ble_eq_true rfl, Nat.le_of_ble_eq_true rfl⟩) hP hK hD hN hS hA rfl hl.1 rfl (Nat.le_of_ble_eq_true rfl) dX5_latestBegin_43 ⟨Nat.zero_le _, Nat.zero_le _⟩ (fun H locs hP hD hS => ?_)
            exact hret _ _ _ _ _ dX5_latestBegin_46 h hP hD hS
    exact LL20 n x19 _ _ _ h hP hD hS (lv_sub hl [0, 1, 2, 3] rfl)
  · replace h := ifn h c6
    refine lv_iload_n hx hb dX5_latestBegin_9 rfl (lv_at hl 1 rfl) ?_
    refine lv_iload_n hx hb dX5_latestBegin_10 rfl (lv_at hl 2 rfl) ?_
    refine lv_isub hx hb dX5_latestBegin_11 ?_
    exact hret _ _ _ _ _ dX5_latestBegin_12 h hP hD hS

def p_X4_latestOf_L5 (n : Nat) (F : tF) (G : tG) (a2 : Int32) (K5 : Int32 → Int32 → Option (Int32)) : Nat → Int32 → Int32 → Option (Int32)
  | 0, _, _ => none
  | k5 + 1, z5_0, z5_1 => (if (F 15) ≤ z5_0 then K5 z5_0 z5_1 else bi1 (p_X4_mayBeFirst G a2 z5_0) (fun x18 => bi1 ((if x18 = 0 then some (z5_1) else oguard (inB (a2 &&& ((1 <<< (z5_0 &&& 31)) ^^^ (-1))) 4096) (plet (G 15 (a2 &&& ((1 <<< (z5_0 &&& 31)) ^^^ (-1))).toNatClampNeg) (fun (x40 : Int32) => (if x40 = (-1) then some (z5_1) else bi1 (p_X6_left G z5_0) (fun x61 => bi1 (p_X5_latestBegin n G x40 x61) (fun x64 => plet (if z5_1 < x64 then x64 else z5_1) (fun (x70 : Int32) => some (x70))))))))) (fun (y21_0 : Int32) => plet (z5_0 + 1) (fun (x71 : Int32) => p_X4_latestOf_L5 n F G a2 K5 k5 x71 y21_0))))
theorem p_X4_latestOf_L5_k {n : Nat} {F : tF} {G : tG} {a2 : Int32} {K0 : Int32 → Int32 → Option (Int32)} {k : Nat} {z5_0 : Int32} {z5_1 : Int32} {x : Int32} (h : p_X4_latestOf_L5 n F G a2 K0 k z5_0 z5_1 = some x) : ∃ K, K = K0 ∧ p_X4_latestOf_L5 n F G a2 K k z5_0 z5_1 = some x := ⟨K0, rfl, h⟩
def p_X4_latestOf (n : Nat) (F : tF) (G : tG) (a2 : Int32) : Option (Int32) :=
  p_X4_latestOf_L5 n F G a2 (fun (z5_0 : Int32) (z5_1 : Int32) => some z5_1) n 0 (-1)
set_option maxHeartbeats 4000000 in
set_option maxRecDepth 100000 in
theorem c_X4_latestOf (l : Launch) (D : va_G) (ad : Nat → Nat) (cA : ClassId) (n : Nat) (F : tF) (G : tG) (a2 : Int32) {r : Int32} (h : p_X4_latestOf n F G a2 = some r) : CI l yX4_latestOf wsX4_latestOf ({ frames := 2, cells := 0, slots := 0, locals := 44 } : Room) D cA (wC ad cA F G) [.ref (ad 18), .ref (ad 9), .int (a2)] r (wC ad cA F G) := by
  rw [p_X4_latestOf] at h
  refine metIr (w := wC ad cA) (cc := cX4_latestOf) (maxL := 6) (by decide) rfl (Nat.le_of_ble_eq_true rfl) ?_
  intro p e s m args below meth c A ls Q hE hret
  obtain ⟨hx, hb, hts, hown, hml, hP, hK, hD, hN, hA, hl⟩ := hE
  have hown : s.vm.findClass RX4 = some m.cls := hown
  have hl : lv_has ls 6 [(0, .ref (ad 18)), (1, .ref (ad 9)), (2, .int (a2))] := hl
  have hS : va_S A s.heap s.heap [] := va_S.rf
  have k_0 : (Cond.fieldLink RX4 61 "BellBook$Wreck" "count" "I").before args s = true := hts _ (List.mem_of_getElem? (i := 1) rfl)
  have n_6 : ∀ w ∈ u_ws RX6 TX6 12, w ∈ wsX4_latestOf := fun w hw => List.mem_cons_of_mem _ (List.mem_append_left _ (List.mem_append_left _ (List.mem_append_right _ hw)))
  have k_2 : (Cond.fieldLink RX4 20 "BellBook$Plan" "latest" "[I").before args s = true := hts _ (List.mem_of_getElem? (i := 2) rfl)
  have n_4 : ∀ w ∈ u_ws RX4 TX4 6, w ∈ wsX4_latestOf := fun w hw => List.mem_cons_of_mem _ (List.mem_append_left _ (List.mem_append_right _ hw))
  have k_4 : (Cond.fieldLink RX4 51 "BellBook$Wreck" "tides" "LBellBook$Tides;").before args s = true := hts _ (List.mem_of_getElem? (i := 3) rfl)
  have k_5 : (Cond.methodLink RX4 78 Lib.Math.max.name).before args s = true := hts _ (List.mem_of_getElem? (i := 4) rfl)
  have k_6 : (Cond.static Lib.Math.max.name).before args s = true := hts _ (List.mem_of_getElem? (i := 5) rfl)
  have k_7 : (Cond.initialized "java/lang/Math").before args s = true := hts _ (List.mem_of_getElem? (i := 6) rfl)
  have k_8 : (Cond.code Lib.Math.max.name Lib.Math.max.code 2 (some .int)).before args s = true := hts _ (List.mem_of_getElem? (i := 7) rfl)
  refine lv_iconst (v := (-1)) hx hb dX4_latestOf_0 (by decide) ?_
  refine lv_istore_n (lv' := [(3, .int ((-1))), (0, .ref (ad 18)), (1, .ref (ad 9)), (2, .int (a2))]) hx hb dX4_latestOf_1 rfl hl (by decide) rfl (fun ls hl => ?_)
  refine lv_iconst (v := 0) hx hb dX4_latestOf_2 (by decide) ?_
  refine lv_istore (lv' := [(4, .int (0)), (3, .int ((-1))), (0, .ref (ad 18)), (1, .ref (ad 9)), (2, .int (a2))]) hx hb dX4_latestOf_3 hl (by decide) rfl (fun ls hl => ?_)
  obtain ⟨K5, eK5, h⟩ := p_X4_latestOf_L5_k h
  have JE5 : ∀ (z5_0 : Int32) (z5_1 : Int32) (H : Heap) (locs : List Loc) (ls : Array Slot), K5 z5_0 z5_1 = some r → va_P D vwCl (wC ad cA F G) H → va_D A (wC ad cA F G) → va_S A s.heap H locs → lv_has ls 6 [(4, .int (z5_0)), (3, .int (z5_1)), (0, .ref (ad 18)), (1, .ref (ad 9)), (2, .int (a2))] → W p l e ({ frames := 2, cells := 0, slots := 0, locals := 44 } : Room) s m args below meth c H locs 0 0 Q (F0 m 77 ls []) := by
    intro z5_0 z5_1 H locs ls h hP hD hS hl
    rw [eK5] at h
    refine lv_iload_n hx hb dX4_latestOf_77 rfl (lv_at hl 1 rfl) ?_
    exact hret _ _ _ _ _ dX4_latestOf_78 h hP hD hS
  have LL5 : ∀ (k : Nat) (z5_0 : Int32) (z5_1 : Int32) (H : Heap) (locs : List Loc) (ls : Array Slot), p_X4_latestOf_L5 n F G a2 K5 k z5_0 z5_1 = some r → va_P D vwCl (wC ad cA F G) H → va_D A (wC ad cA F G) → va_S A s.heap H locs → lv_has ls 6 [(4, .int (z5_0)), (3, .int (z5_1)), (0, .ref (ad 18)), (1, .ref (ad 9)), (2, .int (a2))] → W p l e ({ frames := 2, cells := 0, slots := 0, locals := 44 } : Room) s m args below meth c H locs 0 0 Q (F0 m 5 ls []) := by
    intro k
    induction k with
    | zero =>
      intro z5_0 z5_1 H locs ls h hP hD hS hl
      rw [p_X4_latestOf_L5] at h
      cases h
    | succ k5 ih5 =>
      intro z5_0 z5_1 H locs ls h hP hD hS hl
      rw [p_X4_latestOf_L5] at h
      refine lv_iload hx hb dX4_latestOf_5 (lv_at hl 0 rfl) ?_
      refine lv_aload_n hx hb dX4_latestOf_7 rfl (lv_at hl 3 rfl) ?_
      refine va_get (D := D) (ci := 6) (fs := vX6 ad F) (v := .int ((F 15))) (C := RX6) (T := TX6) (N := 12) hx hb hts n_6 hown hK hP 9 wCg9 rfl 8 (by decide) k_0 (fun _ h9 => h9) rfl dX4_latestOf_8 ?_
      refine lv_icmp_ge (tgt := 77) hx hb dX4_latestOf_11 (by decide) (fun c11 => ?_) (fun c11 => ?_)
      · replace h := ifp h c11
        exact JE5 _ _ _ _ _ h hP hD hS (lv_sub hl [0, 1, 2, 3, 4] rfl)
      · replace h := ifn h c11
        refine lv_aload_n hx hb dX4_latestOf_14 rfl (lv_at hl 3 rfl) ?_
        refine lv_iload_n hx hb dX4_latestOf_15 rfl (lv_at hl 4 rfl) ?_
        refine lv_iload hx hb dX4_latestOf_16 (lv_at hl 0 rfl) ?_
        obtain ⟨x18, h18, h⟩ := bi1e h
        refine callSI (As := [.ref (ad 9), .int (a2), .int (z5_0)]) (rest := []) ⟨hx, hb, hml, hown, hts⟩ (c_X4_mayBeFirst l D ad cA n F G a2 z5_0 h18) (va_cwS 3 hts gX4_latestOf_X4_mayBeFirst rfl rfl rfl (by decide +kernel) ⟨Nat.le_of_ble_eq_true rfl, Nat.le_of_ble_eq_true rfl⟩) hP hK hD hN hS hA rfl hl.1 rfl (Nat.le_of_ble_eq_true rfl) dX4_latestOf_18 ⟨Nat.zero_le _, Nat.zero_le _⟩ (fun H locs hP hD hS => ?_)
        obtain ⟨y21_0, q21, h⟩ := bi1e h
        have J21 : ∀ (wy21_0 : Int32), some (wy21_0) = some (y21_0) → ∀ (H : Heap) (locs : List Loc) (ls : Array Slot), va_P D vwCl (wC ad cA F G) H → va_D A (wC ad cA F G) → va_S A s.heap H locs → lv_has ls 6 [(4, .int (z5_0)), (3, .int (wy21_0)), (0, .ref (ad 18)), (1, .ref (ad 9)), (2, .int (a2))] → W p l e ({ frames := 2, cells := 0, slots := 0, locals := 44 } : Room) s m args below meth c H locs 0 0 Q (F0 m 71 ls []) := by
          intro wy21_0 e9 H locs ls hP hD hS hl
          cases e9
          obtain ⟨x71, ex71⟩ : ∃ z : Int32, z = (z5_0 + 1) := ⟨_, rfl⟩
          replace h := pl h ex71
          refine lv_iinc (v := x71) (lv' := [(4, .int (x71)), (3, .int (y21_0)), (0, .ref (ad 18)), (1, .ref (ad 9)), (2, .int (a2))]) hx hb dX4_latestOf_71 hl (k := 0) rfl (by rw [ex71]; rfl) (by decide) rfl (fun ls hl => ?_)
          refine lv_goto (tgt := 5) hx hb dX4_latestOf_74 (by decide) ?_
          exact ih5 _ _ _ _ _ h hP hD hS (lv_sub hl [0, 1, 2, 3, 4] rfl)
        refine lv_if_ne (tgt := 27) hx hb dX4_latestOf_21 (by decide) (fun c21 => ?_) (fun c21 => ?_)
        · replace q21 := ifn q21 c21
          refine lv_aload_n hx hb dX4_latestOf_27 rfl (lv_at hl 2 rfl) ?_
          refine va_get (D := D) (ci := 4) (fs := vX4 ad F) (v := .ref (ad 21)) (C := RX4) (T := TX4) (N := 6) hx hb hts n_4 hown hK hP 18 wCg18 rfl 5 (by decide) k_2 (fun _ h9 => h9) rfl dX4_latestOf_28 ?_
          refine lv_iload_n hx hb dX4_latestOf_31 rfl (lv_at hl 4 rfl) ?_
          refine lv_iconst (v := 1) hx hb dX4_latestOf_32 (by decide) ?_
          refine lv_iload hx hb dX4_latestOf_33 (lv_at hl 0 rfl) ?_
          refine lv_ishl hx hb dX4_latestOf_35 ?_
          refine lv_iconst (v := (-1)) hx hb dX4_latestOf_36 (by decide) ?_
          refine lv_ixor hx hb dX4_latestOf_37 ?_
          refine lv_iand hx hb dX4_latestOf_38 ?_
          obtain ⟨g39, q21⟩ := og q21
          refine va_iald (D := D) hx hb hK hP 21 0 wCg21 rfl (inB_in g39) dX4_latestOf_39 ?_
          refine lv_topi (fun x40 ex40 => ?_)
          replace q21 := pl q21 ex40
          refine lv_istore (lv' := [(5, .int (x40)), (4, .int (z5_0)), (3, .int (z5_1)), (0, .ref (ad 18)), (1, .ref (ad 9)), (2, .int (a2))]) hx hb dX4_latestOf_40 hl (by decide) rfl (fun ls hl => ?_)
          refine lv_iload hx hb dX4_latestOf_42 (lv_at hl 0 rfl) ?_
          refine lv_iconst (v := (-1)) hx hb dX4_latestOf_44 (by decide) ?_
          refine lv_icmp_ne (tgt := 51) hx hb dX4_latestOf_45 (by decide) (fun c45 => ?_) (fun c45 => ?_)
          · replace q21 := ifn q21 c45
            refine lv_iload_n hx hb dX4_latestOf_51 rfl (lv_at hl 2 rfl) ?_
            refine lv_aload_n hx hb dX4_latestOf_52 rfl (lv_at hl 4 rfl) ?_
            refine va_get (D := D) (ci := 6) (fs := vX6 ad F) (v := .ref (ad 16)) (C := RX6) (T := TX6) (N := 12) hx hb hts n_6 hown hK hP 9 wCg9 rfl 6 (by decide) k_4 (fun _ h9 => h9) rfl dX4_latestOf_53 ?_
            refine lv_iload hx hb dX4_latestOf_56 (lv_at hl 0 rfl) ?_
            refine lv_aload_n hx hb dX4_latestOf_58 rfl (lv_at hl 4 rfl) ?_
            refine lv_iload hx hb dX4_latestOf_59 (lv_at hl 1 rfl) ?_
            obtain ⟨x61, h61, q21⟩ := bi1e q21
            refine callVI (b := ad 9) (As := [.int (z5_0)]) (rest := [.int (x40), .ref (ad 16), .int (z5_1)]) ⟨hx, hb, hml, hown, hts⟩ (c_X6_left l D ad cA n F G z5_0 h61) (cwV 1 hts gX4_latestOf_X6_left rfl rfl rfl (by decide +kernel) ⟨Nat.le_of_ble_eq_true rfl, Nat.le_of_ble_eq_true rfl⟩) (va_recv hK hP (ci := 6) (q0 := 9) rfl wCg9) hP hK hD hN hS hA rfl hl.1 rfl (Nat.le_of_ble_eq_true rfl) dX4_latestOf_61 ⟨Nat.zero_le _, Nat.zero_le _⟩ (fun H locs hP hD hS => ?_)
            obtain ⟨x64, h64, q21⟩ := bi1e q21
            refine callVI (b := ad 16) (As := [.int (x40), .int (x61)]) (rest := [.int (z5_1)]) ⟨hx, hb, hml, hown, hts⟩ (c_X5_latestBegin l D ad cA n F G x40 x61 h64) (cwV 2 hts gX4_latestOf_X5_latestBegin rfl rfl rfl (by decide +kernel) ⟨Nat.le_of_ble_eq_true rfl, Nat.le_of_ble_eq_true rfl⟩) (va_recv hK hP (ci := 5) (q0 := 16) rfl wCg16) hP hK hD hN hS hA rfl hl.1 rfl (Nat.le_of_ble_eq_true rfl) dX4_latestOf_64 ⟨Nat.zero_le _, Nat.zero_le _⟩ (fun H locs hP hD hS => ?_)
            refine va_mmax hx hb (hml.trans hl.1.symm) hown k_5 k_6 k_7 k_8 (Nat.le_of_ble_eq_true rfl) (Nat.le_of_ble_eq_true rfl) (Nat.zero_le _) (Nat.zero_le _) dX4_latestOf_67 ?_
            refine lv_topi (fun x70 ex70 => ?_)
            replace q21 := pl q21 ex70
            refine lv_istore_n (lv' := [(3, .int (x70)), (5, .int (x40)), (4, .int (z5_0)), (0, .ref (ad 18)), (1, .ref (ad 9)), (2, .int (a2))]) hx hb dX4_latestOf_70 rfl hl (by decide) rfl (fun ls hl => ?_)
            exact J21 _ q21 _ _ _ hP hD hS (lv_sub hl [2, 0, 3, 4, 5] rfl)
          · replace q21 := ifp q21 c45
            refine lv_goto (tgt := 71) hx hb dX4_latestOf_48 (by decide) ?_
            exact J21 _ q21 _ _ _ hP hD hS (lv_sub hl [1, 2, 3, 4, 5] rfl)
        · replace q21 := ifp q21 c21
          refine lv_goto (tgt := 71) hx hb dX4_latestOf_24 (by decide) ?_
          exact J21 _ q21 _ _ _ hP hD hS (lv_sub hl [0, 1, 2, 3, 4] rfl)
  exact LL5 n 0 (-1) _ _ _ h hP hD hS (lv_sub hl [0, 1, 2, 3, 4] rfl)

def p_X4_findLatest_L25 (n : Nat) (F : tF) (x9 : Int32) (K25 : Int32 → tG → Option (tF × tG)) : Nat → Int32 → tG → Option (tF × tG)
  | 0, _, _ => none
  | k25 + 1, z25_0, G25l => (if (1 <<< ((F 15) &&& 31)) ≤ z25_0 then K25 z25_0 G25l else bi1 ((if (z25_0 &&& x9) = 0 then bi1 (p_X4_latestOf n F G25l z25_0) (fun x53 => some (x53)) else some ((-1)))) (fun (y43_0 : Int32) => oguard (inB z25_0 4096) (plet (stG G25l 15 z25_0 y43_0) (fun (G56 : tG) => plet (z25_0 + 1) (fun (x57 : Int32) => p_X4_findLatest_L25 n F x9 K25 k25 x57 G56)))))
theorem p_X4_findLatest_L25_k {n : Nat} {F : tF} {x9 : Int32} {K0 : Int32 → tG → Option (tF × tG)} {k : Nat} {z25_0 : Int32} {G25l : tG} {x : tF × tG} (h : p_X4_findLatest_L25 n F x9 K0 k z25_0 G25l = some x) : ∃ K, K = K0 ∧ p_X4_findLatest_L25 n F x9 K k z25_0 G25l = some x := ⟨K0, rfl, h⟩
def p_X4_findLatest (n : Nat) (F : tF) (G : tG) : Option (tF × tG) :=
  plet ((F 16) ||| (F 17)) (fun (x9 : Int32) => bi1 (p_X5_lastMoment F G) (fun x19 => oguard (inB 0 4096) (plet (stG G 15 0 x19) (fun (G22 : tG) => p_X4_findLatest_L25 n F x9 (fun (z25_0 : Int32) (G25l : tG) => some (F, G25l)) n 1 G22))))
set_option maxHeartbeats 4000000 in
set_option maxRecDepth 100000 in
theorem c_X4_findLatest (l : Launch) (D : va_G) (ad : Nat → Nat) (cA : ClassId) (n : Nat) (F : tF) (G : tG) {F' : tF} {G' : tG} (h : p_X4_findLatest n F G = some (F', G')) : CV l yX4_findLatest wsX4_findLatest ({ frames := 3, cells := 0, slots := 0, locals := 69 } : Room) D cA (wC ad cA F G) [.ref (ad 18), .ref (ad 9)] (wC ad cA F' G') := by
  rw [p_X4_findLatest] at h
  refine metVm (w := wC ad cA) (cc := cX4_findLatest) (maxL := 4) (by decide) rfl (Nat.le_of_ble_eq_true rfl) ?_
  intro p e s m args below meth c A ls Q hE hret
  obtain ⟨hx, hb, hts, hown, hml, hP, hK, hD, hN, hA, hl⟩ := hE
  have hown : s.vm.findClass RX4 = some m.cls := hown
  have hl : lv_has ls 4 [(0, .ref (ad 18)), (1, .ref (ad 9))] := hl
  have hS : va_S A s.heap s.heap [] := va_S.rf
  have k_0 : (Cond.fieldLink RX4 45 "BellBook$Wreck" "raised" "I").before args s = true := hts _ (List.mem_of_getElem? (i := 1) rfl)
  have n_6 : ∀ w ∈ u_ws RX6 TX6 12, w ∈ wsX4_findLatest := fun w hw => List.mem_cons_of_mem _ (List.mem_append_left _ (List.mem_append_left _ (List.mem_append_right _ hw)))
  have k_2 : (Cond.fieldLink RX4 48 "BellBook$Wreck" "tangled" "I").before args s = true := hts _ (List.mem_of_getElem? (i := 2) rfl)
  have k_3 : (Cond.fieldLink RX4 20 "BellBook$Plan" "latest" "[I").before args s = true := hts _ (List.mem_of_getElem? (i := 3) rfl)
  have n_4 : ∀ w ∈ u_ws RX4 TX4 6, w ∈ wsX4_findLatest := fun w hw => List.mem_cons_of_mem _ (List.mem_append_left _ (List.mem_append_right _ hw))
  have k_5 : (Cond.fieldLink RX4 51 "BellBook$Wreck" "tides" "LBellBook$Tides;").before args s = true := hts _ (List.mem_of_getElem? (i := 4) rfl)
  have k_6 : (Cond.fieldLink RX4 61 "BellBook$Wreck" "count" "I").before args s = true := hts _ (List.mem_of_getElem? (i := 5) rfl)
  refine lv_aload_n hx hb dX4_findLatest_0 rfl (lv_at hl 1 rfl) ?_
  refine va_get (D := D) (ci := 6) (fs := vX6 ad F) (v := .int ((F 16))) (C := RX6) (T := TX6) (N := 12) hx hb hts n_6 hown hK hP 9 wCg9 rfl 9 (by decide) k_0 (fun _ h9 => h9) rfl dX4_findLatest_1 ?_
  refine lv_aload_n hx hb dX4_findLatest_4 rfl (lv_at hl 1 rfl) ?_
  refine va_get (D := D) (ci := 6) (fs := vX6 ad F) (v := .int ((F 17))) (C := RX6) (T := TX6) (N := 12) hx hb hts n_6 hown hK hP 9 wCg9 rfl 10 (by decide) k_2 (fun _ h9 => h9) rfl dX4_findLatest_5 ?_
  refine lv_ior hx hb dX4_findLatest_8 ?_
  refine lv_topi (fun x9 ex9 => ?_)
  replace h := pl h ex9
  refine lv_istore_n (lv' := [(2, .int (x9)), (0, .ref (ad 18)), (1, .ref (ad 9))]) hx hb dX4_findLatest_9 rfl hl (by decide) rfl (fun ls hl => ?_)
  refine lv_aload_n hx hb dX4_findLatest_10 rfl (lv_at hl 1 rfl) ?_
  refine va_get (D := D) (ci := 4) (fs := vX4 ad F) (v := .ref (ad 21)) (C := RX4) (T := TX4) (N := 6) hx hb hts n_4 hown hK hP 18 wCg18 rfl 5 (by decide) k_3 (fun _ h9 => h9) rfl dX4_findLatest_11 ?_
  refine lv_iconst (v := 0) hx hb dX4_findLatest_14 (by decide) ?_
  refine lv_aload_n hx hb dX4_findLatest_15 rfl (lv_at hl 2 rfl) ?_
  refine va_get (D := D) (ci := 6) (fs := vX6 ad F) (v := .ref (ad 16)) (C := RX6) (T := TX6) (N := 12) hx hb hts n_6 hown hK hP 9 wCg9 rfl 6 (by decide) k_5 (fun _ h9 => h9) rfl dX4_findLatest_16 ?_
  obtain ⟨x19, h19, h⟩ := bi1e h
  refine callVI (b := ad 16) (As := []) (rest := [.int (0), .ref (ad 21)]) ⟨hx, hb, hml, hown, hts⟩ (c_X5_lastMoment l D ad cA n F G h19) (cwV 0 hts gX4_findLatest_X5_lastMoment rfl rfl rfl (by decide +kernel) ⟨Nat.le_of_ble_eq_true rfl, Nat.le_of_ble_eq_true rfl⟩) (va_recv hK hP (ci := 5) (q0 := 16) rfl wCg16) hP hK hD hN hS hA rfl hl.1 rfl (Nat.le_of_ble_eq_true rfl) dX4_findLatest_19 ⟨Nat.zero_le _, Nat.zero_le _⟩ (fun H locs hP hD hS => ?_)
  obtain ⟨g22, h⟩ := og h
  obtain ⟨G22, eG22⟩ : ∃ z : tG, z = stG G 15 0 x19 := ⟨_, rfl⟩
  replace h := pl h eG22
  refine va_iast (D := D) hx hb hK hP hD hS 21 0 wCg21 rfl (inB_in g22) dX4_findLatest_22 (fun H locs hP hD hS => ?_)
  rw [wCa15 eG22] at hP hD
  refine lv_iconst (v := 1) hx hb dX4_findLatest_23 (by decide) ?_
  refine lv_istore_n (lv' := [(3, .int (1)), (2, .int (x9)), (0, .ref (ad 18)), (1, .ref (ad 9))]) hx hb dX4_findLatest_24 rfl hl (by decide) rfl (fun ls hl => ?_)
  obtain ⟨K25, eK25, h⟩ := p_X4_findLatest_L25_k h
  have JE25 : ∀ (z25_0 : Int32) (G25l : tG) (H : Heap) (locs : List Loc) (ls : Array Slot), K25 z25_0 G25l = some (F', G') → va_P D vwCl (wC ad cA F G25l) H → va_D A (wC ad cA F G25l) → va_S A s.heap H locs → lv_has ls 4 [(3, .int (z25_0)), (2, .int (x9)), (0, .ref (ad 18)), (1, .ref (ad 9))] → W p l e ({ frames := 3, cells := 0, slots := 0, locals := 69 } : Room) s m args below meth c H locs 0 0 Q (F0 m 63 ls []) := by
    intro z25_0 G25l H locs ls h hP hD hS hl
    rw [eK25] at h
    exact hret _ _ _ _ _ _ dX4_findLatest_63 h hP hD hS
  have LL25 : ∀ (k : Nat) (z25_0 : Int32) (G25l : tG) (H : Heap) (locs : List Loc) (ls : Array Slot), p_X4_findLatest_L25 n F x9 K25 k z25_0 G25l = some (F', G') → va_P D vwCl (wC ad cA F G25l) H → va_D A (wC ad cA F G25l) → va_S A s.heap H locs → lv_has ls 4 [(3, .int (z25_0)), (2, .int (x9)), (0, .ref (ad 18)), (1, .ref (ad 9))] → W p l e ({ frames := 3, cells := 0, slots := 0, locals := 69 } : Room) s m args below meth c H locs 0 0 Q (F0 m 25 ls []) := by
    intro k
    induction k with
    | zero =>
      intro z25_0 G25l H locs ls h hP hD hS hl
      rw [p_X4_findLatest_L25] at h
      cases h
    | succ k25 ih25 =>
      intro z25_0 G25l H locs ls h hP hD hS hl
      rw [p_X4_findLatest_L25] at h
      refine lv_iload_n hx hb dX4_findLatest_25 rfl (lv_at hl 0 rfl) ?_
      refine lv_iconst (v := 1) hx hb dX4_findLatest_26 (by decide) ?_
      refine lv_aload_n hx hb dX4_findLatest_27 rfl (lv_at hl 3 rfl) ?_
      refine va_get (D := D) (ci := 6) (fs := vX6 ad F) (v := .int ((F 15))) (C := RX6) (T := TX6) (N := 12) hx hb hts n_6 hown hK hP 9 wCg9 rfl 8 (by decide) k_6 (fun _ h9 => h9) rfl dX4_findLatest_28 ?_
      refine lv_ishl hx hb dX4_findLatest_31 ?_
      refine lv_icmp_ge (tgt := 63) hx hb dX4_findLatest_32 (by decide) (fun c32 => ?_) (fun c32 => ?_)
      · replace h := ifp h c32
        exact JE25 _ _ _ _ _ h hP hD hS (lv_sub hl [0, 1, 2, 3] rfl)
      · replace h := ifn h c32
        refine lv_aload_n hx hb dX4_findLatest_35 rfl (lv_at hl 2 rfl) ?_
        refine va_get (D := D) (ci := 4) (fs := vX4 ad F) (v := .ref (ad 21)) (C := RX4) (T := TX4) (N := 6) hx hb hts n_4 hown hK hP 18 wCg18 rfl 5 (by decide) k_3 (fun _ h9 => h9) rfl dX4_findLatest_36 ?_
        refine lv_iload_n hx hb dX4_findLatest_39 rfl (lv_at hl 0 rfl) ?_
        refine lv_iload_n hx hb dX4_findLatest_40 rfl (lv_at hl 0 rfl) ?_
        refine lv_iload_n hx hb dX4_findLatest_41 rfl (lv_at hl 1 rfl) ?_
        refine lv_iand hx hb dX4_findLatest_42 ?_
        obtain ⟨y43_0, q43, h⟩ := bi1e h
        have J43 : ∀ (wy43_0 : Int32), some (wy43_0) = some (y43_0) → ∀ (H : Heap) (locs : List Loc) (ls : Array Slot), va_P D vwCl (wC ad cA F G25l) H → va_D A (wC ad cA F G25l) → va_S A s.heap H locs → lv_has ls 4 [(3, .int (z25_0)), (2, .int (x9)), (0, .ref (ad 18)), (1, .ref (ad 9))] → W p l e ({ frames := 3, cells := 0, slots := 0, locals := 69 } : Room) s m args below meth c H locs 0 0 Q (F0 m 56 ls [.int (wy43_0), .int (z25_0), .ref (ad 21)]) := by
          intro wy43_0 e9 H locs ls hP hD hS hl
          cases e9
          obtain ⟨g56, h⟩ := og h
          obtain ⟨G56, eG56⟩ : ∃ z : tG, z = stG G25l 15 z25_0 y43_0 := ⟨_, rfl⟩
          replace h := pl h eG56
          refine va_iast (D := D) hx hb hK hP hD hS 21 0 wCg21 rfl (inB_in g56) dX4_findLatest_56 (fun H locs hP hD hS => ?_)
          rw [wCa15 eG56] at hP hD
          obtain ⟨x57, ex57⟩ : ∃ z : Int32, z = (z25_0 + 1) := ⟨_, rfl⟩
          replace h := pl h ex57
          refine lv_iinc (v := x57) (lv' := [(3, .int (x57)), (2, .int (x9)), (0, .ref (ad 18)), (1, .ref (ad 9))]) hx hb dX4_findLatest_57 hl (k := 0) rfl (by rw [ex57]; rfl) (by decide) rfl (fun ls hl => ?_)
          refine lv_goto (tgt := 25) hx hb dX4_findLatest_60 (by decide) ?_
          exact ih25 _ _ _ _ _ h hP hD hS (lv_sub hl [0, 1, 2, 3] rfl)
        refine lv_if_eq (tgt := 50) hx hb dX4_findLatest_43 (by decide) (fun c43 => ?_) (fun c43 => ?_)
        · replace q43 := ifp q43 c43
          refine lv_aload_n hx hb dX4_findLatest_50 rfl (lv_at hl 2 rfl) ?_
          refine lv_aload_n hx hb dX4_findLatest_51 rfl (lv_at hl 3 rfl) ?_
          refine lv_iload_n hx hb dX4_findLatest_52 rfl (lv_at hl 0 rfl) ?_
          obtain ⟨x53, h53, q43⟩ := bi1e q43
          refine callVI (b := ad 18) (As := [.ref (ad 9), .int (z25_0)]) (rest := [.int (z25_0), .ref (ad 21)]) ⟨hx, hb, hml, hown, hts⟩ (c_X4_latestOf l D ad cA n F G25l z25_0 h53) (cwV 2 hts gX4_findLatest_X4_latestOf rfl rfl rfl (by decide +kernel) ⟨Nat.le_of_ble_eq_true rfl, Nat.le_of_ble_eq_true rfl⟩) (va_recv hK hP (ci := 4) (q0 := 18) rfl wCg18) hP hK hD hN hS hA rfl hl.1 rfl (Nat.le_of_ble_eq_true rfl) dX4_findLatest_53 ⟨Nat.zero_le _, Nat.zero_le _⟩ (fun H locs hP hD hS => ?_)
          exact J43 _ q43 _ _ _ hP hD hS (lv_sub hl [0, 1, 2, 3] rfl)
        · replace q43 := ifn q43 c43
          refine lv_iconst (v := (-1)) hx hb dX4_findLatest_46 (by decide) ?_
          refine lv_goto (tgt := 56) hx hb dX4_findLatest_47 (by decide) ?_
          exact J43 _ q43 _ _ _ hP hD hS (lv_sub hl [0, 1, 2, 3] rfl)
  exact LL25 n 1 G22 _ _ _ h hP hD hS (lv_sub hl [0, 1, 2, 3] rfl)

def p_X5_soonestEnd_L38 (F : tF) (G : tG) (a2 : Int32) (K38 : Int32 → Option (Int32)) : Nat → Int32 → Option (Int32)
  | 0, _ => none
  | k38 + 1, z38_0 => (if (F 19) ≤ z38_0 then K38 z38_0 else oguard (inB z38_0 5) ((if (G 12 z38_0.toNatClampNeg) < a2 then plet (z38_0 + 1) (fun (x65 : Int32) => p_X5_soonestEnd_L38 F G a2 K38 k38 x65) else bi1 (p_X5_moment z38_0 a2) (fun x61 => some x61))))
theorem p_X5_soonestEnd_L38_k {F : tF} {G : tG} {a2 : Int32} {K0 : Int32 → Option (Int32)} {k : Nat} {z38_0 : Int32} {x : Int32} (h : p_X5_soonestEnd_L38 F G a2 K0 k z38_0 = some x) : ∃ K, K = K0 ∧ p_X5_soonestEnd_L38 F G a2 K k z38_0 = some x := ⟨K0, rfl, h⟩
def p_X5_soonestEnd (n : Nat) (F : tF) (G : tG) (a1 : Int32) (a2 : Int32) : Option (Int32) :=
  bi1 (p_X5_tideAt a1) (fun x1 => (if (F 19) ≤ x1 then plet (x1 + 1) (fun (x36 : Int32) => p_X5_soonestEnd_L38 F G a2 (fun (z38_0 : Int32) => some (-1)) n x36) else oguard (inB x1 5) ((if (G 12 x1.toNatClampNeg) < ((a1 - a1 / 512 * 512) + a2) then plet (x1 + 1) (fun (x36 : Int32) => p_X5_soonestEnd_L38 F G a2 (fun (z38_0 : Int32) => some (-1)) n x36) else some (a1 + a2)))))
set_option maxHeartbeats 4000000 in
set_option maxRecDepth 100000 in
theorem c_X5_soonestEnd (l : Launch) (D : va_G) (ad : Nat → Nat) (cA : ClassId) (n : Nat) (F : tF) (G : tG) (a1 : Int32) (a2 : Int32) {r : Int32} (h : p_X5_soonestEnd n F G a1 a2 = some r) : CI l yX5_soonestEnd wsX5_soonestEnd ({ frames := 1, cells := 0, slots := 0, locals := 21 } : Room) D cA (wC ad cA F G) [.ref (ad 16), .int (a1), .int (a2)] r (wC ad cA F G) := by
  rw [p_X5_soonestEnd] at h
  refine metIr (w := wC ad cA) (cc := cX5_soonestEnd) (maxL := 5) (by decide) rfl (Nat.le_of_ble_eq_true rfl) ?_
  intro p e s m args below meth c A ls Q hE hret
  obtain ⟨hx, hb, hts, hown, hml, hP, hK, hD, hN, hA, hl⟩ := hE
  have hown : s.vm.findClass RX5 = some m.cls := hown
  have hl : lv_has ls 5 [(0, .ref (ad 16)), (1, .int (a1)), (2, .int (a2))] := hl
  have hS : va_S A s.heap s.heap [] := va_S.rf
  have k_0 : (Cond.fieldLink RX5 13 "BellBook$Tides" "count" "I").before args s = true := hts _ (List.mem_of_getElem? (i := 1) rfl)
  have n_5 : ∀ w ∈ u_ws RX5 TX5 2, w ∈ wsX5_soonestEnd := fun w hw => List.mem_cons_of_mem _ (List.mem_append_right _ hw)
  have k_2 : (Cond.fieldLink RX5 9 "BellBook$Tides" "length" "[I").before args s = true := hts _ (List.mem_of_getElem? (i := 2) rfl)
  refine lv_iload_n hx hb dX5_soonestEnd_0 rfl (lv_at hl 1 rfl) ?_
  obtain ⟨x1, h1, h⟩ := bi1e h
  refine callSI (As := [.int (a1)]) (rest := []) ⟨hx, hb, hml, hown, hts⟩ (c_X5_tideAt l D ad cA n F G a1 h1) (va_cwS 1 hts gX5_soonestEnd_X5_tideAt rfl rfl rfl (by decide +kernel) ⟨Nat.le_of_ble_eq_true rfl, Nat.le_of_ble_eq_true rfl⟩) hP hK hD hN hS hA rfl hl.1 rfl (Nat.le_of_ble_eq_true rfl) dX5_soonestEnd_1 ⟨Nat.zero_le _, Nat.zero_le _⟩ (fun H locs hP hD hS => ?_)
  refine lv_istore_n (lv' := [(3, .int (x1)), (0, .ref (ad 16)), (1, .int (a1)), (2, .int (a2))]) hx hb dX5_soonestEnd_4 rfl hl (by decide) rfl (fun ls hl => ?_)
  refine lv_iload_n hx hb dX5_soonestEnd_5 rfl (lv_at hl 0 rfl) ?_
  refine lv_aload_n hx hb dX5_soonestEnd_6 rfl (lv_at hl 1 rfl) ?_
  refine va_get (D := D) (ci := 5) (fs := vX5 ad F) (v := .int ((F 19))) (C := RX5) (T := TX5) (N := 2) hx hb hts n_5 hown hK hP 16 wCg16 rfl 1 (by decide) k_0 (fun _ h9 => h9) rfl dX5_soonestEnd_7 ?_
  refine lv_icmp_ge (tgt := 33) hx hb dX5_soonestEnd_10 (by decide) (fun c10 => ?_) (fun c10 => ?_)
  · replace h := ifp h c10
    refine lv_iload_n hx hb dX5_soonestEnd_33 rfl (lv_at hl 0 rfl) ?_
    refine lv_iconst (v := 1) hx hb dX5_soonestEnd_34 (by decide) ?_
    refine lv_iadd hx hb dX5_soonestEnd_35 ?_
    refine lv_topi (fun x36 ex36 => ?_)
    replace h := pl h ex36
    refine lv_istore (lv' := [(4, .int (x36)), (3, .int (x1)), (0, .ref (ad 16)), (1, .int (a1)), (2, .int (a2))]) hx hb dX5_soonestEnd_36 hl (by decide) rfl (fun ls hl => ?_)
    obtain ⟨K38, eK38, h⟩ := p_X5_soonestEnd_L38_k h
    have JE38 : ∀ (z38_0 : Int32) (H : Heap) (locs : List Loc) (ls : Array Slot), K38 z38_0 = some r → va_P D vwCl (wC ad cA F G) H → va_D A (wC ad cA F G) → va_S A s.heap H locs → lv_has ls 5 [(4, .int (z38_0)), (3, .int (x1)), (0, .ref (ad 16)), (1, .int (a1)), (2, .int (a2))] → W p l e ({ frames := 1, cells := 0, slots := 0, locals := 21 } : Room) s m args below meth c H locs 0 0 Q (F0 m 71 ls []) := by
      intro z38_0 H locs ls h hP hD hS hl
      rw [eK38] at h
      refine lv_iconst (v := (-1)) hx hb dX5_soonestEnd_71 (by decide) ?_
      exact hret _ _ _ _ _ dX5_soonestEnd_72 h hP hD hS
    have LL38 : ∀ (k : Nat) (z38_0 : Int32) (H : Heap) (locs : List Loc) (ls : Array Slot), p_X5_soonestEnd_L38 F G a2 K38 k z38_0 = some r → va_P D vwCl (wC ad cA F G) H → va_D A (wC ad cA F G) → va_S A s.heap H locs → lv_has ls 5 [(4, .int (z38_0)), (3, .int (x1)), (0, .ref (ad 16)), (1, .int (a1)), (2, .int (a2))] → W p l e ({ frames := 1, cells := 0, slots := 0, locals := 21 } : Room) s m args below meth c H locs 0 0 Q (F0 m 38 ls []) := by
      intro k
      induction k with
      | zero =>
        intro z38_0 H locs ls h hP hD hS hl
        rw [p_X5_soonestEnd_L38] at h
        cases h
      | succ k38 ih38 =>
        intro z38_0 H locs ls h hP hD hS hl
        rw [p_X5_soonestEnd_L38] at h
        refine lv_iload hx hb dX5_soonestEnd_38 (lv_at hl 0 rfl) ?_
        refine lv_aload_n hx hb dX5_soonestEnd_40 rfl (lv_at hl 2 rfl) ?_
        refine va_get (D := D) (ci := 5) (fs := vX5 ad F) (v := .int ((F 19))) (C := RX5) (T := TX5) (N := 2) hx hb hts n_5 hown hK hP 16 wCg16 rfl 1 (by decide) k_0 (fun _ h9 => h9) rfl dX5_soonestEnd_41 ?_
        refine lv_icmp_ge (tgt := 71) hx hb dX5_soonestEnd_44 (by decide) (fun c44 => ?_) (fun c44 => ?_)
        · replace h := ifp h c44
          exact JE38 _ _ _ _ h hP hD hS (lv_sub hl [0, 1, 2, 3, 4] rfl)
        · replace h := ifn h c44
          refine lv_iload_n hx hb dX5_soonestEnd_47 rfl (lv_at hl 4 rfl) ?_
          refine lv_aload_n hx hb dX5_soonestEnd_48 rfl (lv_at hl 2 rfl) ?_
          refine va_get (D := D) (ci := 5) (fs := vX5 ad F) (v := .ref (ad 17)) (C := RX5) (T := TX5) (N := 2) hx hb hts n_5 hown hK hP 16 wCg16 rfl 0 (by decide) k_2 (fun _ h9 => h9) rfl dX5_soonestEnd_49 ?_
          refine lv_iload hx hb dX5_soonestEnd_52 (lv_at hl 0 rfl) ?_
          obtain ⟨g54, h⟩ := og h
          refine va_iald (D := D) hx hb hK hP 17 0 wCg17 rfl (inB_in g54) dX5_soonestEnd_54 ?_
          refine lv_icmp_gt (tgt := 65) hx hb dX5_soonestEnd_55 (by decide) (fun c55 => ?_) (fun c55 => ?_)
          · replace h := ifp h c55
            obtain ⟨x65, ex65⟩ : ∃ z : Int32, z = (z38_0 + 1) := ⟨_, rfl⟩
            replace h := pl h ex65
            refine lv_iinc (v := x65) (lv' := [(4, .int (x65)), (3, .int (x1)), (0, .ref (ad 16)), (1, .int (a1)), (2, .int (a2))]) hx hb dX5_soonestEnd_65 hl (k := 0) rfl (by rw [ex65]; rfl) (by decide) rfl (fun ls hl => ?_)
            refine lv_goto (tgt := 38) hx hb dX5_soonestEnd_68 (by decide) ?_
            exact ih38 _ _ _ _ h hP hD hS (lv_sub hl [0, 1, 2, 3, 4] rfl)
          · replace h := ifn h c55
            refine lv_iload hx hb dX5_soonestEnd_58 (lv_at hl 0 rfl) ?_
            refine lv_iload_n hx hb dX5_soonestEnd_60 rfl (lv_at hl 4 rfl) ?_
            obtain ⟨x61, h61, h⟩ := bi1e h
            refine callSI (As := [.int (z38_0), .int (a2)]) (rest := []) ⟨hx, hb, hml, hown, hts⟩ (c_X5_moment l D ad cA n F G z38_0 a2 h61) (va_cwS 2 hts gX5_soonestEnd_X5_moment rfl rfl rfl (by decide +kernel) ⟨Nat.le_of_ble_eq_true rfl, Nat.le_of_ble_eq_true rfl⟩) hP hK hD hN hS hA rfl hl.1 rfl (Nat.le_of_ble_eq_true rfl) dX5_soonestEnd_61 ⟨Nat.zero_le _, Nat.zero_le _⟩ (fun H locs hP hD hS => ?_)
            exact hret _ _ _ _ _ dX5_soonestEnd_64 h hP hD hS
    exact LL38 n x36 _ _ _ h hP hD hS (lv_sub hl [0, 1, 2, 3, 4] rfl)
  · replace h := ifn h c10
    refine lv_iload_n hx hb dX5_soonestEnd_13 rfl (lv_at hl 2 rfl) ?_
    refine lv_sipush (v := 512) hx hb dX5_soonestEnd_14 (by decide) ?_
    refine lv_irem hx hb dX5_soonestEnd_17 (by decide) ?_
    refine lv_iload_n hx hb dX5_soonestEnd_18 rfl (lv_at hl 3 rfl) ?_
    refine lv_iadd hx hb dX5_soonestEnd_19 ?_
    refine lv_aload_n hx hb dX5_soonestEnd_20 rfl (lv_at hl 1 rfl) ?_
    refine va_get (D := D) (ci := 5) (fs := vX5 ad F) (v := .ref (ad 17)) (C := RX5) (T := TX5) (N := 2) hx hb hts n_5 hown hK hP 16 wCg16 rfl 0 (by decide) k_2 (fun _ h9 => h9) rfl dX5_soonestEnd_21 ?_
    refine lv_iload_n hx hb dX5_soonestEnd_24 rfl (lv_at hl 0 rfl) ?_
    obtain ⟨g25, h⟩ := og h
    refine va_iald (D := D) hx hb hK hP 17 0 wCg17 rfl (inB_in g25) dX5_soonestEnd_25 ?_
    refine lv_icmp_gt (tgt := 33) hx hb dX5_soonestEnd_26 (by decide) (fun c26 => ?_) (fun c26 => ?_)
    · replace h := ifp h c26
      refine lv_iload_n hx hb dX5_soonestEnd_33 rfl (lv_at hl 0 rfl) ?_
      refine lv_iconst (v := 1) hx hb dX5_soonestEnd_34 (by decide) ?_
      refine lv_iadd hx hb dX5_soonestEnd_35 ?_
      refine lv_topi (fun x36 ex36 => ?_)
      replace h := pl h ex36
      refine lv_istore (lv' := [(4, .int (x36)), (3, .int (x1)), (0, .ref (ad 16)), (1, .int (a1)), (2, .int (a2))]) hx hb dX5_soonestEnd_36 hl (by decide) rfl (fun ls hl => ?_)
      obtain ⟨K38, eK38, h⟩ := p_X5_soonestEnd_L38_k h
      have JE38 : ∀ (z38_0 : Int32) (H : Heap) (locs : List Loc) (ls : Array Slot), K38 z38_0 = some r → va_P D vwCl (wC ad cA F G) H → va_D A (wC ad cA F G) → va_S A s.heap H locs → lv_has ls 5 [(4, .int (z38_0)), (3, .int (x1)), (0, .ref (ad 16)), (1, .int (a1)), (2, .int (a2))] → W p l e ({ frames := 1, cells := 0, slots := 0, locals := 21 } : Room) s m args below meth c H locs 0 0 Q (F0 m 71 ls []) := by
        intro z38_0 H locs ls h hP hD hS hl
        rw [eK38] at h
        refine lv_iconst (v := (-1)) hx hb dX5_soonestEnd_71 (by decide) ?_
        exact hret _ _ _ _ _ dX5_soonestEnd_72 h hP hD hS
      have LL38 : ∀ (k : Nat) (z38_0 : Int32) (H : Heap) (locs : List Loc) (ls : Array Slot), p_X5_soonestEnd_L38 F G a2 K38 k z38_0 = some r → va_P D vwCl (wC ad cA F G) H → va_D A (wC ad cA F G) → va_S A s.heap H locs → lv_has ls 5 [(4, .int (z38_0)), (3, .int (x1)), (0, .ref (ad 16)), (1, .int (a1)), (2, .int (a2))] → W p l e ({ frames := 1, cells := 0, slots := 0, locals := 21 } : Room) s m args below meth c H locs 0 0 Q (F0 m 38 ls []) := by
        intro k
        induction k with
        | zero =>
          intro z38_0 H locs ls h hP hD hS hl
          rw [p_X5_soonestEnd_L38] at h
          cases h
        | succ k38 ih38 =>
          intro z38_0 H locs ls h hP hD hS hl
          rw [p_X5_soonestEnd_L38] at h
          refine lv_iload hx hb dX5_soonestEnd_38 (lv_at hl 0 rfl) ?_
          refine lv_aload_n hx hb dX5_soonestEnd_40 rfl (lv_at hl 2 rfl) ?_
          refine va_get (D := D) (ci := 5) (fs := vX5 ad F) (v := .int ((F 19))) (C := RX5) (T := TX5) (N := 2) hx hb hts n_5 hown hK hP 16 wCg16 rfl 1 (by decide) k_0 (fun _ h9 => h9) rfl dX5_soonestEnd_41 ?_
          refine lv_icmp_ge (tgt := 71) hx hb dX5_soonestEnd_44 (by decide) (fun c44 => ?_) (fun c44 => ?_)
          · replace h := ifp h c44
            exact JE38 _ _ _ _ h hP hD hS (lv_sub hl [0, 1, 2, 3, 4] rfl)
          · replace h := ifn h c44
            refine lv_iload_n hx hb dX5_soonestEnd_47 rfl (lv_at hl 4 rfl) ?_
            refine lv_aload_n hx hb dX5_soonestEnd_48 rfl (lv_at hl 2 rfl) ?_
            refine va_get (D := D) (ci := 5) (fs := vX5 ad F) (v := .ref (ad 17)) (C := RX5) (T := TX5) (N := 2) hx hb hts n_5 hown hK hP 16 wCg16 rfl 0 (by decide) k_2 (fun _ h9 => h9) rfl dX5_soonestEnd_49 ?_
            refine lv_iload hx hb dX5_soonestEnd_52 (lv_at hl 0 rfl) ?_
            obtain ⟨g54, h⟩ := og h
            refine va_iald (D := D) hx hb hK hP 17 0 wCg17 rfl (inB_in g54) dX5_soonestEnd_54 ?_
            refine lv_icmp_gt (tgt := 65) hx hb dX5_soonestEnd_55 (by decide) (fun c55 => ?_) (fun c55 => ?_)
            · replace h := ifp h c55
              obtain ⟨x65, ex65⟩ : ∃ z : Int32, z = (z38_0 + 1) := ⟨_, rfl⟩
              replace h := pl h ex65
              refine lv_iinc (v := x65) (lv' := [(4, .int (x65)), (3, .int (x1)), (0, .ref (ad 16)), (1, .int (a1)), (2, .int (a2))]) hx hb dX5_soonestEnd_65 hl (k := 0) rfl (by rw [ex65]; rfl) (by decide) rfl (fun ls hl => ?_)
              refine lv_goto (tgt := 38) hx hb dX5_soonestEnd_68 (by decide) ?_
              exact ih38 _ _ _ _ h hP hD hS (lv_sub hl [0, 1, 2, 3, 4] rfl)
            · replace h := ifn h c55
              refine lv_iload hx hb dX5_soonestEnd_58 (lv_at hl 0 rfl) ?_
              refine lv_iload_n hx hb dX5_soonestEnd_60 rfl (lv_at hl 4 rfl) ?_
              obtain ⟨x61, h61, h⟩ := bi1e h
              refine callSI (As := [.int (z38_0), .int (a2)]) (rest := []) ⟨hx, hb, hml, hown, hts⟩ (c_X5_moment l D ad cA n F G z38_0 a2 h61) (va_cwS 2 hts gX5_soonestEnd_X5_moment rfl rfl rfl (by decide +kernel) ⟨Nat.le_of_ble_eq_true rfl, Nat.le_of_ble_eq_true rfl⟩) hP hK hD hN hS hA rfl hl.1 rfl (Nat.le_of_ble_eq_true rfl) dX5_soonestEnd_61 ⟨Nat.zero_le _, Nat.zero_le _⟩ (fun H locs hP hD hS => ?_)
              exact hret _ _ _ _ _ dX5_soonestEnd_64 h hP hD hS
      exact LL38 n x36 _ _ _ h hP hD hS (lv_sub hl [0, 1, 2, 3, 4] rfl)
    · replace h := ifn h c26
      refine lv_iload_n hx hb dX5_soonestEnd_29 rfl (lv_at hl 2 rfl) ?_
      refine lv_iload_n hx hb dX5_soonestEnd_30 rfl (lv_at hl 3 rfl) ?_
      refine lv_iadd hx hb dX5_soonestEnd_31 ?_
      exact hret _ _ _ _ _ dX5_soonestEnd_32 h hP hD hS

def p_X4_nextOf_L3 (n : Nat) (F : tF) (G : tG) (a2 : Int32) (a3 : Int32) (K3 : Int32 → Option (Int32)) : Nat → Int32 → Option (Int32)
  | 0, _ => none
  | k3 + 1, z3_0 => (if (F 15) ≤ z3_0 then K3 z3_0 else bi1 (p_X4_mayBeFirst G a2 z3_0) (fun x16 => (if x16 = 0 then plet (z3_0 + 1) (fun (x68 : Int32) => p_X4_nextOf_L3 n F G a2 a3 K3 k3 x68) else bi1 (p_X6_left G z3_0) (fun x33 => bi1 (p_X5_soonestEnd n F G a3 x33) (fun x36 => (if x36 = (-1) then plet (z3_0 + 1) (fun (x68 : Int32) => p_X4_nextOf_L3 n F G a2 a3 K3 k3 x68) else oguard (inB (a2 &&& ((1 <<< (z3_0 &&& 31)) ^^^ (-1))) 4096) ((if (G 15 (a2 &&& ((1 <<< (z3_0 &&& 31)) ^^^ (-1))).toNatClampNeg) < x36 then plet (z3_0 + 1) (fun (x68 : Int32) => p_X4_nextOf_L3 n F G a2 a3 K3 k3 x68) else some z3_0))))))))
theorem p_X4_nextOf_L3_k {n : Nat} {F : tF} {G : tG} {a2 : Int32} {a3 : Int32} {K0 : Int32 → Option (Int32)} {k : Nat} {z3_0 : Int32} {x : Int32} (h : p_X4_nextOf_L3 n F G a2 a3 K0 k z3_0 = some x) : ∃ K, K = K0 ∧ p_X4_nextOf_L3 n F G a2 a3 K k z3_0 = some x := ⟨K0, rfl, h⟩
def p_X4_nextOf (n : Nat) (F : tF) (G : tG) (a2 : Int32) (a3 : Int32) : Option (Int32) :=
  p_X4_nextOf_L3 n F G a2 a3 (fun (z3_0 : Int32) => some (-6)) n 0
set_option maxHeartbeats 4000000 in
set_option maxRecDepth 100000 in
theorem c_X4_nextOf (l : Launch) (D : va_G) (ad : Nat → Nat) (cA : ClassId) (n : Nat) (F : tF) (G : tG) (a2 : Int32) (a3 : Int32) {r : Int32} (h : p_X4_nextOf n F G a2 a3 = some r) : CI l yX4_nextOf wsX4_nextOf ({ frames := 2, cells := 0, slots := 0, locals := 45 } : Room) D cA (wC ad cA F G) [.ref (ad 18), .ref (ad 9), .int (a2), .int (a3)] r (wC ad cA F G) := by
  rw [p_X4_nextOf] at h
  refine metIr (w := wC ad cA) (cc := cX4_nextOf) (maxL := 6) (by decide) rfl (Nat.le_of_ble_eq_true rfl) ?_
  intro p e s m args below meth c A ls Q hE hret
  obtain ⟨hx, hb, hts, hown, hml, hP, hK, hD, hN, hA, hl⟩ := hE
  have hown : s.vm.findClass RX4 = some m.cls := hown
  have hl : lv_has ls 6 [(0, .ref (ad 18)), (1, .ref (ad 9)), (2, .int (a2)), (3, .int (a3))] := hl
  have hS : va_S A s.heap s.heap [] := va_S.rf
  have k_0 : (Cond.fieldLink RX4 61 "BellBook$Wreck" "count" "I").before args s = true := hts _ (List.mem_of_getElem? (i := 1) rfl)
  have n_6 : ∀ w ∈ u_ws RX6 TX6 12, w ∈ wsX4_nextOf := fun w hw => List.mem_cons_of_mem _ (List.mem_append_left _ (List.mem_append_left _ (List.mem_append_right _ hw)))
  have k_2 : (Cond.fieldLink RX4 51 "BellBook$Wreck" "tides" "LBellBook$Tides;").before args s = true := hts _ (List.mem_of_getElem? (i := 2) rfl)
  have k_3 : (Cond.fieldLink RX4 20 "BellBook$Plan" "latest" "[I").before args s = true := hts _ (List.mem_of_getElem? (i := 3) rfl)
  have n_4 : ∀ w ∈ u_ws RX4 TX4 6, w ∈ wsX4_nextOf := fun w hw => List.mem_cons_of_mem _ (List.mem_append_left _ (List.mem_append_right _ hw))
  refine lv_iconst (v := 0) hx hb dX4_nextOf_0 (by decide) ?_
  refine lv_istore (lv' := [(4, .int (0)), (0, .ref (ad 18)), (1, .ref (ad 9)), (2, .int (a2)), (3, .int (a3))]) hx hb dX4_nextOf_1 hl (by decide) rfl (fun ls hl => ?_)
  obtain ⟨K3, eK3, h⟩ := p_X4_nextOf_L3_k h
  have JE3 : ∀ (z3_0 : Int32) (H : Heap) (locs : List Loc) (ls : Array Slot), K3 z3_0 = some r → va_P D vwCl (wC ad cA F G) H → va_D A (wC ad cA F G) → va_S A s.heap H locs → lv_has ls 6 [(4, .int (z3_0)), (0, .ref (ad 18)), (1, .ref (ad 9)), (2, .int (a2)), (3, .int (a3))] → W p l e ({ frames := 2, cells := 0, slots := 0, locals := 45 } : Room) s m args below meth c H locs 0 0 Q (F0 m 74 ls []) := by
    intro z3_0 H locs ls h hP hD hS hl
    rw [eK3] at h
    refine lv_bipush (v := (-6)) hx hb dX4_nextOf_74 (by decide) ?_
    exact hret _ _ _ _ _ dX4_nextOf_76 h hP hD hS
  have LL3 : ∀ (k : Nat) (z3_0 : Int32) (H : Heap) (locs : List Loc) (ls : Array Slot), p_X4_nextOf_L3 n F G a2 a3 K3 k z3_0 = some r → va_P D vwCl (wC ad cA F G) H → va_D A (wC ad cA F G) → va_S A s.heap H locs → lv_has ls 6 [(4, .int (z3_0)), (0, .ref (ad 18)), (1, .ref (ad 9)), (2, .int (a2)), (3, .int (a3))] → W p l e ({ frames := 2, cells := 0, slots := 0, locals := 45 } : Room) s m args below meth c H locs 0 0 Q (F0 m 3 ls []) := by
    intro k
    induction k with
    | zero =>
      intro z3_0 H locs ls h hP hD hS hl
      rw [p_X4_nextOf_L3] at h
      cases h
    | succ k3 ih3 =>
      intro z3_0 H locs ls h hP hD hS hl
      rw [p_X4_nextOf_L3] at h
      refine lv_iload hx hb dX4_nextOf_3 (lv_at hl 0 rfl) ?_
      refine lv_aload_n hx hb dX4_nextOf_5 rfl (lv_at hl 2 rfl) ?_
      refine va_get (D := D) (ci := 6) (fs := vX6 ad F) (v := .int ((F 15))) (C := RX6) (T := TX6) (N := 12) hx hb hts n_6 hown hK hP 9 wCg9 rfl 8 (by decide) k_0 (fun _ h9 => h9) rfl dX4_nextOf_6 ?_
      refine lv_icmp_ge (tgt := 74) hx hb dX4_nextOf_9 (by decide) (fun c9 => ?_) (fun c9 => ?_)
      · replace h := ifp h c9
        exact JE3 _ _ _ _ h hP hD hS (lv_sub hl [0, 1, 2, 3, 4] rfl)
      · replace h := ifn h c9
        refine lv_aload_n hx hb dX4_nextOf_12 rfl (lv_at hl 2 rfl) ?_
        refine lv_iload_n hx hb dX4_nextOf_13 rfl (lv_at hl 3 rfl) ?_
        refine lv_iload hx hb dX4_nextOf_14 (lv_at hl 0 rfl) ?_
        obtain ⟨x16, h16, h⟩ := bi1e h
        refine callSI (As := [.ref (ad 9), .int (a2), .int (z3_0)]) (rest := []) ⟨hx, hb, hml, hown, hts⟩ (c_X4_mayBeFirst l D ad cA n F G a2 z3_0 h16) (va_cwS 3 hts gX4_nextOf_X4_mayBeFirst rfl rfl rfl (by decide +kernel) ⟨Nat.le_of_ble_eq_true rfl, Nat.le_of_ble_eq_true rfl⟩) hP hK hD hN hS hA rfl hl.1 rfl (Nat.le_of_ble_eq_true rfl) dX4_nextOf_16 ⟨Nat.zero_le _, Nat.zero_le _⟩ (fun H locs hP hD hS => ?_)
        refine lv_if_ne (tgt := 25) hx hb dX4_nextOf_19 (by decide) (fun c19 => ?_) (fun c19 => ?_)
        · replace h := ifn h c19
          refine lv_aload_n hx hb dX4_nextOf_25 rfl (lv_at hl 2 rfl) ?_
          refine va_get (D := D) (ci := 6) (fs := vX6 ad F) (v := .ref (ad 16)) (C := RX6) (T := TX6) (N := 12) hx hb hts n_6 hown hK hP 9 wCg9 rfl 6 (by decide) k_2 (fun _ h9 => h9) rfl dX4_nextOf_26 ?_
          refine lv_iload_n hx hb dX4_nextOf_29 rfl (lv_at hl 4 rfl) ?_
          refine lv_aload_n hx hb dX4_nextOf_30 rfl (lv_at hl 2 rfl) ?_
          refine lv_iload hx hb dX4_nextOf_31 (lv_at hl 0 rfl) ?_
          obtain ⟨x33, h33, h⟩ := bi1e h
          refine callVI (b := ad 9) (As := [.int (z3_0)]) (rest := [.int (a3), .ref (ad 16)]) ⟨hx, hb, hml, hown, hts⟩ (c_X6_left l D ad cA n F G z3_0 h33) (cwV 1 hts gX4_nextOf_X6_left rfl rfl rfl (by decide +kernel) ⟨Nat.le_of_ble_eq_true rfl, Nat.le_of_ble_eq_true rfl⟩) (va_recv hK hP (ci := 6) (q0 := 9) rfl wCg9) hP hK hD hN hS hA rfl hl.1 rfl (Nat.le_of_ble_eq_true rfl) dX4_nextOf_33 ⟨Nat.zero_le _, Nat.zero_le _⟩ (fun H locs hP hD hS => ?_)
          obtain ⟨x36, h36, h⟩ := bi1e h
          refine callVI (b := ad 16) (As := [.int (a3), .int (x33)]) (rest := []) ⟨hx, hb, hml, hown, hts⟩ (c_X5_soonestEnd l D ad cA n F G a3 x33 h36) (cwV 2 hts gX4_nextOf_X5_soonestEnd rfl rfl rfl (by decide +kernel) ⟨Nat.le_of_ble_eq_true rfl, Nat.le_of_ble_eq_true rfl⟩) (va_recv hK hP (ci := 5) (q0 := 16) rfl wCg16) hP hK hD hN hS hA rfl hl.1 rfl (Nat.le_of_ble_eq_true rfl) dX4_nextOf_36 ⟨Nat.zero_le _, Nat.zero_le _⟩ (fun H locs hP hD hS => ?_)
          refine lv_istore (lv' := [(5, .int (x36)), (4, .int (z3_0)), (0, .ref (ad 18)), (1, .ref (ad 9)), (2, .int (a2)), (3, .int (a3))]) hx hb dX4_nextOf_39 hl (by decide) rfl (fun ls hl => ?_)
          refine lv_iload hx hb dX4_nextOf_41 (lv_at hl 0 rfl) ?_
          refine lv_iconst (v := (-1)) hx hb dX4_nextOf_43 (by decide) ?_
          refine lv_icmp_eq (tgt := 68) hx hb dX4_nextOf_44 (by decide) (fun c44 => ?_) (fun c44 => ?_)
          · replace h := ifp h c44
            obtain ⟨x68, ex68⟩ : ∃ z : Int32, z = (z3_0 + 1) := ⟨_, rfl⟩
            replace h := pl h ex68
            refine lv_iinc (v := x68) (lv' := [(4, .int (x68)), (5, .int (x36)), (0, .ref (ad 18)), (1, .ref (ad 9)), (2, .int (a2)), (3, .int (a3))]) hx hb dX4_nextOf_68 hl (k := 1) rfl (by rw [ex68]; rfl) (by decide) rfl (fun ls hl => ?_)
            refine lv_goto (tgt := 3) hx hb dX4_nextOf_71 (by decide) ?_
            exact ih3 _ _ _ _ h hP hD hS (lv_sub hl [0, 2, 3, 4, 5] rfl)
          · replace h := ifn h c44
            refine lv_iload hx hb dX4_nextOf_47 (lv_at hl 0 rfl) ?_
            refine lv_aload_n hx hb dX4_nextOf_49 rfl (lv_at hl 2 rfl) ?_
            refine va_get (D := D) (ci := 4) (fs := vX4 ad F) (v := .ref (ad 21)) (C := RX4) (T := TX4) (N := 6) hx hb hts n_4 hown hK hP 18 wCg18 rfl 5 (by decide) k_3 (fun _ h9 => h9) rfl dX4_nextOf_50 ?_
            refine lv_iload_n hx hb dX4_nextOf_53 rfl (lv_at hl 4 rfl) ?_
            refine lv_iconst (v := 1) hx hb dX4_nextOf_54 (by decide) ?_
            refine lv_iload hx hb dX4_nextOf_55 (lv_at hl 1 rfl) ?_
            refine lv_ishl hx hb dX4_nextOf_57 ?_
            refine lv_iconst (v := (-1)) hx hb dX4_nextOf_58 (by decide) ?_
            refine lv_ixor hx hb dX4_nextOf_59 ?_
            refine lv_iand hx hb dX4_nextOf_60 ?_
            obtain ⟨g61, h⟩ := og h
            refine va_iald (D := D) hx hb hK hP 21 0 wCg21 rfl (inB_in g61) dX4_nextOf_61 ?_
            refine lv_icmp_gt (tgt := 68) hx hb dX4_nextOf_62 (by decide) (fun c62 => ?_) (fun c62 => ?_)
            · replace h := ifp h c62
              obtain ⟨x68, ex68⟩ : ∃ z : Int32, z = (z3_0 + 1) := ⟨_, rfl⟩
              replace h := pl h ex68
              refine lv_iinc (v := x68) (lv' := [(4, .int (x68)), (5, .int (x36)), (0, .ref (ad 18)), (1, .ref (ad 9)), (2, .int (a2)), (3, .int (a3))]) hx hb dX4_nextOf_68 hl (k := 1) rfl (by rw [ex68]; rfl) (by decide) rfl (fun ls hl => ?_)
              refine lv_goto (tgt := 3) hx hb dX4_nextOf_71 (by decide) ?_
              exact ih3 _ _ _ _ h hP hD hS (lv_sub hl [0, 2, 3, 4, 5] rfl)
            · replace h := ifn h c62
              refine lv_iload hx hb dX4_nextOf_65 (lv_at hl 1 rfl) ?_
              exact hret _ _ _ _ _ dX4_nextOf_67 h hP hD hS
        · replace h := ifp h c19
          refine lv_goto (tgt := 68) hx hb dX4_nextOf_22 (by decide) ?_
          obtain ⟨x68, ex68⟩ : ∃ z : Int32, z = (z3_0 + 1) := ⟨_, rfl⟩
          replace h := pl h ex68
          refine lv_iinc (v := x68) (lv' := [(4, .int (x68)), (0, .ref (ad 18)), (1, .ref (ad 9)), (2, .int (a2)), (3, .int (a3))]) hx hb dX4_nextOf_68 hl (k := 0) rfl (by rw [ex68]; rfl) (by decide) rfl (fun ls hl => ?_)
          refine lv_goto (tgt := 3) hx hb dX4_nextOf_71 (by decide) ?_
          exact ih3 _ _ _ _ h hP hD hS (lv_sub hl [0, 1, 2, 3, 4] rfl)
  exact LL3 n 0 _ _ _ h hP hD hS (lv_sub hl [0, 1, 2, 3, 4] rfl)

def p_X4_setInOrder_L13 (n : Nat) (K13 : Int32 → Int32 → Int32 → tF → tG → Option (tF × tG)) : Nat → Int32 → Int32 → Int32 → tF → tG → Option (tF × tG)
  | 0, _, _, _, _, _ => none
  | k13 + 1, z13_0, z13_1, z13_2, F13l, G13l => (if 12 ≤ z13_0 then K13 z13_0 z13_1 z13_2 F13l G13l else (if z13_2 = 0 then K13 z13_0 z13_1 z13_2 F13l G13l else bi1 (p_X4_nextOf n F13l G13l z13_2 z13_1) (fun x29 => (if x29 = (-6) then some (F13l, G13l) else bi1 (p_X6_left G13l x29) (fun x51 => bi1 (p_X5_soonestEnd n F13l G13l z13_1 x51) (fun x54 => plet (z13_2 &&& ((1 <<< (x29 &&& 31)) ^^^ (-1))) (fun (x67 : Int32) => oguard (inB z13_0 12) (plet (stG G13l 13 z13_0 x29) (fun (G76 : tG) => bi1 (p_X5_tideAt x54) (fun x85 => oguard (inB z13_0 12) (plet (stG G76 14 z13_0 x85) (fun (G88 : tG) => plet (upd F13l 20 ((F13l 20) + 1)) (fun (F96 : tF) => plet (z13_0 + 1) (fun (x99 : Int32) => p_X4_setInOrder_L13 n K13 k13 x99 x54 x67 F96 G88))))))))))))))
theorem p_X4_setInOrder_L13_k {n : Nat} {K0 : Int32 → Int32 → Int32 → tF → tG → Option (tF × tG)} {k : Nat} {z13_0 : Int32} {z13_1 : Int32} {z13_2 : Int32} {F13l : tF} {G13l : tG} {x : tF × tG} (h : p_X4_setInOrder_L13 n K0 k z13_0 z13_1 z13_2 F13l G13l = some x) : ∃ K, K = K0 ∧ p_X4_setInOrder_L13 n K k z13_0 z13_1 z13_2 F13l G13l = some x := ⟨K0, rfl, h⟩
def p_X4_setInOrder (n : Nat) (F : tF) (G : tG) (a2 : Int32) : Option (tF × tG) :=
  plet (upd F 20 0) (fun (F7 : tF) => p_X4_setInOrder_L13 n (fun (z13_0 : Int32) (z13_1 : Int32) (z13_2 : Int32) (F13l : tF) (G13l : tG) => some (F13l, G13l)) n 0 0 a2 F7 G)
set_option maxHeartbeats 4000000 in
set_option maxRecDepth 100000 in
theorem c_X4_setInOrder (l : Launch) (D : va_G) (ad : Nat → Nat) (cA : ClassId) (n : Nat) (F : tF) (G : tG) (a2 : Int32) {F' : tF} {G' : tG} (h : p_X4_setInOrder n F G a2 = some (F', G')) : CV l yX4_setInOrder wsX4_setInOrder ({ frames := 3, cells := 0, slots := 0, locals := 70 } : Room) D cA (wC ad cA F G) [.ref (ad 18), .ref (ad 9), .int (a2)] (wC ad cA F' G') := by
  rw [p_X4_setInOrder] at h
  refine metVm (w := wC ad cA) (cc := cX4_setInOrder) (maxL := 7) (by decide) rfl (Nat.le_of_ble_eq_true rfl) ?_
  intro p e s m args below meth c A ls Q hE hret
  obtain ⟨hx, hb, hts, hown, hml, hP, hK, hD, hN, hA, hl⟩ := hE
  have hown : s.vm.findClass RX4 = some m.cls := hown
  have hl : lv_has ls 7 [(0, .ref (ad 18)), (1, .ref (ad 9)), (2, .int (a2))] := hl
  have hS : va_S A s.heap s.heap [] := va_S.rf
  have k_0 : (Cond.fieldLink RX4 23 "BellBook$Plan" "count" "I").before args s = true := hts _ (List.mem_of_getElem? (i := 1) rfl)
  have n_4 : ∀ w ∈ u_ws RX4 TX4 6, w ∈ wsX4_setInOrder := fun w hw => List.mem_cons_of_mem _ (List.mem_append_left _ (List.mem_append_left _ (List.mem_append_right _ hw)))
  have k_2 : (Cond.fieldLink RX4 51 "BellBook$Wreck" "tides" "LBellBook$Tides;").before args s = true := hts _ (List.mem_of_getElem? (i := 2) rfl)
  have n_6 : ∀ w ∈ u_ws RX6 TX6 12, w ∈ wsX4_setInOrder := fun w hw => List.mem_cons_of_mem _ (List.mem_append_left _ (List.mem_append_right _ hw))
  have k_4 : (Cond.fieldLink RX4 11 "BellBook$Plan" "order" "[I").before args s = true := hts _ (List.mem_of_getElem? (i := 3) rfl)
  have k_5 : (Cond.fieldLink RX4 17 "BellBook$Plan" "when" "[I").before args s = true := hts _ (List.mem_of_getElem? (i := 4) rfl)
  refine lv_iload_n hx hb dX4_setInOrder_0 rfl (lv_at hl 2 rfl) ?_
  refine lv_istore_n (lv' := [(3, .int (a2)), (0, .ref (ad 18)), (1, .ref (ad 9)), (2, .int (a2))]) hx hb dX4_setInOrder_1 rfl hl (by decide) rfl (fun ls hl => ?_)
  refine lv_iconst (v := 0) hx hb dX4_setInOrder_2 (by decide) ?_
  refine lv_istore (lv' := [(4, .int (0)), (3, .int (a2)), (0, .ref (ad 18)), (1, .ref (ad 9)), (2, .int (a2))]) hx hb dX4_setInOrder_3 hl (by decide) rfl (fun ls hl => ?_)
  refine lv_aload_n hx hb dX4_setInOrder_5 rfl (lv_at hl 2 rfl) ?_
  refine lv_iconst (v := 0) hx hb dX4_setInOrder_6 (by decide) ?_
  obtain ⟨F7, eF7⟩ : ∃ f : tF, f = upd F 20 0 := ⟨_, rfl⟩
  replace h := pl h eF7
  refine va_put (D := D) (ci := 4) (fs := vX4 ad F) (v := .int (0)) (ty := .int) (C := RX4) (T := TX4) (N := 6) hx hb hts n_4 tyX4 tyX4_ok nmX4 hown hK hP hD hS 18 wCg18 rfl 2 (by decide) k_0 (fun _ h9 => h9) rfl (tyX4_ok 2 (by decide)) rfl rfl (Nat.le_of_ble_eq_true rfl) dX4_setInOrder_7 (fun H locs hP hD hS => ?_)
  rw [wCp20 eF7] at hP hD
  refine lv_iconst (v := 0) hx hb dX4_setInOrder_10 (by decide) ?_
  refine lv_istore (lv' := [(5, .int (0)), (4, .int (0)), (3, .int (a2)), (0, .ref (ad 18)), (1, .ref (ad 9)), (2, .int (a2))]) hx hb dX4_setInOrder_11 hl (by decide) rfl (fun ls hl => ?_)
  obtain ⟨K13, eK13, h⟩ := p_X4_setInOrder_L13_k h
  have JE13 : ∀ (z13_0 : Int32) (z13_1 : Int32) (z13_2 : Int32) (F13l : tF) (G13l : tG) (H : Heap) (locs : List Loc) (ls : Array Slot), K13 z13_0 z13_1 z13_2 F13l G13l = some (F', G') → va_P D vwCl (wC ad cA F13l G13l) H → va_D A (wC ad cA F13l G13l) → va_S A s.heap H locs → lv_has ls 7 [(5, .int (z13_0)), (4, .int (z13_1)), (3, .int (z13_2)), (0, .ref (ad 18)), (1, .ref (ad 9)), (2, .int (a2))] → W p l e ({ frames := 3, cells := 0, slots := 0, locals := 70 } : Room) s m args below meth c H locs 0 0 Q (F0 m 105 ls []) := by
    intro z13_0 z13_1 z13_2 F13l G13l H locs ls h hP hD hS hl
    rw [eK13] at h
    exact hret _ _ _ _ _ _ dX4_setInOrder_105 h hP hD hS
  have LL13 : ∀ (k : Nat) (z13_0 : Int32) (z13_1 : Int32) (z13_2 : Int32) (F13l : tF) (G13l : tG) (H : Heap) (locs : List Loc) (ls : Array Slot), p_X4_setInOrder_L13 n K13 k z13_0 z13_1 z13_2 F13l G13l = some (F', G') → va_P D vwCl (wC ad cA F13l G13l) H → va_D A (wC ad cA F13l G13l) → va_S A s.heap H locs → lv_has ls 7 [(5, .int (z13_0)), (4, .int (z13_1)), (3, .int (z13_2)), (0, .ref (ad 18)), (1, .ref (ad 9)), (2, .int (a2))] → W p l e ({ frames := 3, cells := 0, slots := 0, locals := 70 } : Room) s m args below meth c H locs 0 0 Q (F0 m 13 ls []) := by
    intro k
    induction k with
    | zero =>
      intro z13_0 z13_1 z13_2 F13l G13l H locs ls h hP hD hS hl
      rw [p_X4_setInOrder_L13] at h
      cases h
    | succ k13 ih13 =>
      intro z13_0 z13_1 z13_2 F13l G13l H locs ls h hP hD hS hl
      rw [p_X4_setInOrder_L13] at h
      refine lv_iload hx hb dX4_setInOrder_13 (lv_at hl 0 rfl) ?_
      refine lv_bipush (v := 12) hx hb dX4_setInOrder_15 (by decide) ?_
      refine lv_icmp_ge (tgt := 105) hx hb dX4_setInOrder_17 (by decide) (fun c17 => ?_) (fun c17 => ?_)
      · replace h := ifp h c17
        exact JE13 _ _ _ _ _ _ _ _ h hP hD hS (lv_sub hl [0, 1, 2, 3, 4, 5] rfl)
      · replace h := ifn h c17
        refine lv_iload_n hx hb dX4_setInOrder_20 rfl (lv_at hl 2 rfl) ?_
        refine lv_if_eq (tgt := 105) hx hb dX4_setInOrder_21 (by decide) (fun c21 => ?_) (fun c21 => ?_)
        · replace h := ifp h c21
          exact JE13 _ _ _ _ _ _ _ _ h hP hD hS (lv_sub hl [0, 1, 2, 3, 4, 5] rfl)
        · replace h := ifn h c21
          refine lv_aload_n hx hb dX4_setInOrder_24 rfl (lv_at hl 3 rfl) ?_
          refine lv_aload_n hx hb dX4_setInOrder_25 rfl (lv_at hl 4 rfl) ?_
          refine lv_iload_n hx hb dX4_setInOrder_26 rfl (lv_at hl 2 rfl) ?_
          refine lv_iload hx hb dX4_setInOrder_27 (lv_at hl 1 rfl) ?_
          obtain ⟨x29, h29, h⟩ := bi1e h
          refine callVI (b := ad 18) (As := [.ref (ad 9), .int (z13_2), .int (z13_1)]) (rest := []) ⟨hx, hb, hml, hown, hts⟩ (c_X4_nextOf l D ad cA n F13l G13l z13_2 z13_1 h29) (cwV 3 hts gX4_setInOrder_X4_nextOf rfl rfl rfl (by decide +kernel) ⟨Nat.le_of_ble_eq_true rfl, Nat.le_of_ble_eq_true rfl⟩) (va_recv hK hP (ci := 4) (q0 := 18) rfl wCg18) hP hK hD hN hS hA rfl hl.1 rfl (Nat.le_of_ble_eq_true rfl) dX4_setInOrder_29 ⟨Nat.zero_le _, Nat.zero_le _⟩ (fun H locs hP hD hS => ?_)
          refine lv_istore (lv' := [(6, .int (x29)), (5, .int (z13_0)), (4, .int (z13_1)), (3, .int (z13_2)), (0, .ref (ad 18)), (1, .ref (ad 9)), (2, .int (a2))]) hx hb dX4_setInOrder_32 hl (by decide) rfl (fun ls hl => ?_)
          refine lv_iload hx hb dX4_setInOrder_34 (lv_at hl 0 rfl) ?_
          refine lv_bipush (v := (-6)) hx hb dX4_setInOrder_36 (by decide) ?_
          refine lv_icmp_ne (tgt := 42) hx hb dX4_setInOrder_38 (by decide) (fun c38 => ?_) (fun c38 => ?_)
          · replace h := ifn h c38
            refine lv_aload_n hx hb dX4_setInOrder_42 rfl (lv_at hl 5 rfl) ?_
            refine va_get (D := D) (ci := 6) (fs := vX6 ad F13l) (v := .ref (ad 16)) (C := RX6) (T := TX6) (N := 12) hx hb hts n_6 hown hK hP 9 wCg9 rfl 6 (by decide) k_2 (fun _ h9 => h9) rfl dX4_setInOrder_43 ?_
            refine lv_iload hx hb dX4_setInOrder_46 (lv_at hl 2 rfl) ?_
            refine lv_aload_n hx hb dX4_setInOrder_48 rfl (lv_at hl 5 rfl) ?_
            refine lv_iload hx hb dX4_setInOrder_49 (lv_at hl 0 rfl) ?_
            obtain ⟨x51, h51, h⟩ := bi1e h
            refine callVI (b := ad 9) (As := [.int (x29)]) (rest := [.int (z13_1), .ref (ad 16)]) ⟨hx, hb, hml, hown, hts⟩ (c_X6_left l D ad cA n F13l G13l x29 h51) (cwV 1 hts gX4_setInOrder_X6_left rfl rfl rfl (by decide +kernel) ⟨Nat.le_of_ble_eq_true rfl, Nat.le_of_ble_eq_true rfl⟩) (va_recv hK hP (ci := 6) (q0 := 9) rfl wCg9) hP hK hD hN hS hA rfl hl.1 rfl (Nat.le_of_ble_eq_true rfl) dX4_setInOrder_51 ⟨Nat.zero_le _, Nat.zero_le _⟩ (fun H locs hP hD hS => ?_)
            obtain ⟨x54, h54, h⟩ := bi1e h
            refine callVI (b := ad 16) (As := [.int (z13_1), .int (x51)]) (rest := []) ⟨hx, hb, hml, hown, hts⟩ (c_X5_soonestEnd l D ad cA n F13l G13l z13_1 x51 h54) (cwV 2 hts gX4_setInOrder_X5_soonestEnd rfl rfl rfl (by decide +kernel) ⟨Nat.le_of_ble_eq_true rfl, Nat.le_of_ble_eq_true rfl⟩) (va_recv hK hP (ci := 5) (q0 := 16) rfl wCg16) hP hK hD hN hS hA rfl hl.1 rfl (Nat.le_of_ble_eq_true rfl) dX4_setInOrder_54 ⟨Nat.zero_le _, Nat.zero_le _⟩ (fun H locs hP hD hS => ?_)
            refine lv_istore (lv' := [(4, .int (x54)), (6, .int (x29)), (5, .int (z13_0)), (3, .int (z13_2)), (0, .ref (ad 18)), (1, .ref (ad 9)), (2, .int (a2))]) hx hb dX4_setInOrder_57 hl (by decide) rfl (fun ls hl => ?_)
            refine lv_iload_n hx hb dX4_setInOrder_59 rfl (lv_at hl 3 rfl) ?_
            refine lv_iconst (v := 1) hx hb dX4_setInOrder_60 (by decide) ?_
            refine lv_iload hx hb dX4_setInOrder_61 (lv_at hl 1 rfl) ?_
            refine lv_ishl hx hb dX4_setInOrder_63 ?_
            refine lv_iconst (v := (-1)) hx hb dX4_setInOrder_64 (by decide) ?_
            refine lv_ixor hx hb dX4_setInOrder_65 ?_
            refine lv_iand hx hb dX4_setInOrder_66 ?_
            refine lv_topi (fun x67 ex67 => ?_)
            replace h := pl h ex67
            refine lv_istore_n (lv' := [(3, .int (x67)), (4, .int (x54)), (6, .int (x29)), (5, .int (z13_0)), (0, .ref (ad 18)), (1, .ref (ad 9)), (2, .int (a2))]) hx hb dX4_setInOrder_67 rfl hl (by decide) rfl (fun ls hl => ?_)
            refine lv_aload_n hx hb dX4_setInOrder_68 rfl (lv_at hl 4 rfl) ?_
            refine va_get (D := D) (ci := 4) (fs := vX4 ad F13l) (v := .ref (ad 19)) (C := RX4) (T := TX4) (N := 6) hx hb hts n_4 hown hK hP 18 wCg18 rfl 0 (by decide) k_4 (fun _ h9 => h9) rfl dX4_setInOrder_69 ?_
            refine lv_iload hx hb dX4_setInOrder_72 (lv_at hl 3 rfl) ?_
            refine lv_iload hx hb dX4_setInOrder_74 (lv_at hl 2 rfl) ?_
            obtain ⟨g76, h⟩ := og h
            obtain ⟨G76, eG76⟩ : ∃ z : tG, z = stG G13l 13 z13_0 x29 := ⟨_, rfl⟩
            replace h := pl h eG76
            refine va_iast (D := D) hx hb hK hP hD hS 19 0 wCg19 rfl (inB_in g76) dX4_setInOrder_76 (fun H locs hP hD hS => ?_)
            rw [wCa13 eG76] at hP hD
            refine lv_aload_n hx hb dX4_setInOrder_77 rfl (lv_at hl 4 rfl) ?_
            refine va_get (D := D) (ci := 4) (fs := vX4 ad F13l) (v := .ref (ad 20)) (C := RX4) (T := TX4) (N := 6) hx hb hts n_4 hown hK hP 18 wCg18 rfl 1 (by decide) k_5 (fun _ h9 => h9) rfl dX4_setInOrder_78 ?_
            refine lv_iload hx hb dX4_setInOrder_81 (lv_at hl 3 rfl) ?_
            refine lv_iload hx hb dX4_setInOrder_83 (lv_at hl 1 rfl) ?_
            obtain ⟨x85, h85, h⟩ := bi1e h
            refine callSI (As := [.int (x54)]) (rest := [.int (z13_0), .ref (ad 20)]) ⟨hx, hb, hml, hown, hts⟩ (c_X5_tideAt l D ad cA n F13l G76 x54 h85) (va_cwS 1 hts gX4_setInOrder_X5_tideAt rfl rfl rfl (by decide +kernel) ⟨Nat.le_of_ble_eq_true rfl, Nat.le_of_ble_eq_true rfl⟩) hP hK hD hN hS hA rfl hl.1 rfl (Nat.le_of_ble_eq_true rfl) dX4_setInOrder_85 ⟨Nat.zero_le _, Nat.zero_le _⟩ (fun H locs hP hD hS => ?_)
            obtain ⟨g88, h⟩ := og h
            obtain ⟨G88, eG88⟩ : ∃ z : tG, z = stG G76 14 z13_0 x85 := ⟨_, rfl⟩
            replace h := pl h eG88
            refine va_iast (D := D) hx hb hK hP hD hS 20 0 wCg20 rfl (inB_in g88) dX4_setInOrder_88 (fun H locs hP hD hS => ?_)
            rw [wCa14 eG88] at hP hD
            refine lv_aload_n hx hb dX4_setInOrder_89 rfl (lv_at hl 4 rfl) ?_
            refine lv_dup hx hb dX4_setInOrder_90 rfl ?_
            refine va_get (D := D) (ci := 4) (fs := vX4 ad F13l) (v := .int ((F13l 20))) (C := RX4) (T := TX4) (N := 6) hx hb hts n_4 hown hK hP 18 wCg18 rfl 2 (by decide) k_0 (fun _ h9 => h9) rfl dX4_setInOrder_91 ?_
            refine lv_iconst (v := 1) hx hb dX4_setInOrder_94 (by decide) ?_
            refine lv_iadd hx hb dX4_setInOrder_95 ?_
            obtain ⟨F96, eF96⟩ : ∃ f : tF, f = upd F13l 20 ((F13l 20) + 1) := ⟨_, rfl⟩
            replace h := pl h eF96
            refine va_put (D := D) (ci := 4) (fs := vX4 ad F13l) (v := .int (((F13l 20) + 1))) (ty := .int) (C := RX4) (T := TX4) (N := 6) hx hb hts n_4 tyX4 tyX4_ok nmX4 hown hK hP hD hS 18 wCg18 rfl 2 (by decide) k_0 (fun _ h9 => h9) rfl (tyX4_ok 2 (by decide)) rfl rfl (Nat.le_of_ble_eq_true rfl) dX4_setInOrder_96 (fun H locs hP hD hS => ?_)
            rw [wCp20 eF96] at hP hD
            obtain ⟨x99, ex99⟩ : ∃ z : Int32, z = (z13_0 + 1) := ⟨_, rfl⟩
            replace h := pl h ex99
            refine lv_iinc (v := x99) (lv' := [(5, .int (x99)), (3, .int (x67)), (4, .int (x54)), (6, .int (x29)), (0, .ref (ad 18)), (1, .ref (ad 9)), (2, .int (a2))]) hx hb dX4_setInOrder_99 hl (k := 3) rfl (by rw [ex99]; rfl) (by decide) rfl (fun ls hl => ?_)
            refine lv_goto (tgt := 13) hx hb dX4_setInOrder_102 (by decide) ?_
            exact ih13 _ _ _ _ _ _ _ _ h hP hD hS (lv_sub hl [0, 2, 1, 4, 5, 6] rfl)
          · replace h := ifp h c38
            exact hret _ _ _ _ _ _ dX4_setInOrder_41 h hP hD hS
  exact LL13 n 0 0 a2 F7 G _ _ _ h hP hD hS (lv_sub hl [0, 1, 2, 3, 4, 5] rfl)

def p_X4_make (n : Nat) (F : tF) (G : tG) : Option (tF × tG) :=
  bi2 (p_X4_findLatest n F G) (fun F2 G2 => bi3 (p_X4_chooseSet n F2 G2) (fun x9 F9 G9 => bi2 (p_X4_setInOrder n F9 G9 x9) (fun F12 G12 => some (F12, G12))))
set_option maxHeartbeats 4000000 in
set_option maxRecDepth 100000 in
theorem c_X4_make (l : Launch) (D : va_G) (ad : Nat → Nat) (cA : ClassId) (n : Nat) (F : tF) (G : tG) {F' : tF} {G' : tG} (h : p_X4_make n F G = some (F', G')) : CV l yX4_make wsX4_make ({ frames := 4, cells := 0, slots := 0, locals := 96 } : Room) D cA (wC ad cA F G) [.ref (ad 18), .ref (ad 9)] (wC ad cA F' G') := by
  rw [p_X4_make] at h
  refine metVm (w := wC ad cA) (cc := cX4_make) (maxL := 2) (by decide) rfl (Nat.le_of_ble_eq_true rfl) ?_
  intro p e s m args below meth c A ls Q hE hret
  obtain ⟨hx, hb, hts, hown, hml, hP, hK, hD, hN, hA, hl⟩ := hE
  have hown : s.vm.findClass RX4 = some m.cls := hown
  have hl : lv_has ls 2 [(0, .ref (ad 18)), (1, .ref (ad 9))] := hl
  have hS : va_S A s.heap s.heap [] := va_S.rf
  refine lv_aload_n hx hb dX4_make_0 rfl (lv_at hl 0 rfl) ?_
  refine lv_aload_n hx hb dX4_make_1 rfl (lv_at hl 1 rfl) ?_
  obtain ⟨F2, G2, h2, h⟩ := bi2e h
  refine callVV (b := ad 18) (As := [.ref (ad 9)]) (rest := []) ⟨hx, hb, hml, hown, hts⟩ (c_X4_findLatest l D ad cA n F G h2) (cwV 1 hts gX4_make_X4_findLatest rfl rfl rfl (by decide +kernel) ⟨Nat.le_of_ble_eq_true rfl, Nat.le_of_ble_eq_true rfl⟩) (va_recv hK hP (ci := 4) (q0 := 18) rfl wCg18) hP hK hD hN hS hA rfl hl.1 rfl (Nat.le_of_ble_eq_true rfl) dX4_make_2 ⟨Nat.zero_le _, Nat.zero_le _⟩ (fun H locs hP hD hS => ?_)
  refine lv_aload_n hx hb dX4_make_5 rfl (lv_at hl 0 rfl) ?_
  refine lv_aload_n hx hb dX4_make_6 rfl (lv_at hl 1 rfl) ?_
  refine lv_aload_n hx hb dX4_make_7 rfl (lv_at hl 0 rfl) ?_
  refine lv_aload_n hx hb dX4_make_8 rfl (lv_at hl 1 rfl) ?_
  obtain ⟨x9, F9, G9, h9, h⟩ := bi3e h
  refine callVI (b := ad 18) (As := [.ref (ad 9)]) (rest := [.ref (ad 9), .ref (ad 18)]) ⟨hx, hb, hml, hown, hts⟩ (c_X4_chooseSet l D ad cA n F2 G2 h9) (cwV 1 hts gX4_make_X4_chooseSet rfl rfl rfl (by decide +kernel) ⟨Nat.le_of_ble_eq_true rfl, Nat.le_of_ble_eq_true rfl⟩) (va_recv hK hP (ci := 4) (q0 := 18) rfl wCg18) hP hK hD hN hS hA rfl hl.1 rfl (Nat.le_of_ble_eq_true rfl) dX4_make_9 ⟨Nat.zero_le _, Nat.zero_le _⟩ (fun H locs hP hD hS => ?_)
  obtain ⟨F12, G12, h12, h⟩ := bi2e h
  refine callVV (b := ad 18) (As := [.ref (ad 9), .int (x9)]) (rest := []) ⟨hx, hb, hml, hown, hts⟩ (c_X4_setInOrder l D ad cA n F9 G9 x9 h12) (cwV 2 hts gX4_make_X4_setInOrder rfl rfl rfl (by decide +kernel) ⟨Nat.le_of_ble_eq_true rfl, Nat.le_of_ble_eq_true rfl⟩) (va_recv hK hP (ci := 4) (q0 := 18) rfl wCg18) hP hK hD hN hS hA rfl hl.1 rfl (Nat.le_of_ble_eq_true rfl) dX4_make_12 ⟨Nat.zero_le _, Nat.zero_le _⟩ (fun H locs hP hD hS => ?_)
  exact hret _ _ _ _ _ _ dX4_make_15 h hP hD hS

def p_X5_add (F : tF) (G : tG) (a1 : Int32) : Option (Int32 × tF × tG) :=
  oguard (inB (F 19) 5) (plet (stG G 12 (F 19) a1) (fun (G9 : tG) => plet (upd F 19 ((F 19) + 1)) (fun (F17 : tF) => some ((F17 19), F17, G9))))
set_option maxHeartbeats 4000000 in
set_option maxRecDepth 100000 in
theorem c_X5_add (l : Launch) (D : va_G) (ad : Nat → Nat) (cA : ClassId) (n : Nat) (F : tF) (G : tG) (a1 : Int32) {r : Int32} {F' : tF} {G' : tG} (h : p_X5_add F G a1 = some (r, F', G')) : CI l yX5_add wsX5_add ({ frames := 0, cells := 0, slots := 0, locals := 0 } : Room) D cA (wC ad cA F G) [.ref (ad 16), .int (a1)] r (wC ad cA F' G') := by
  rw [p_X5_add] at h
  refine metIm (w := wC ad cA) (cc := cX5_add) (maxL := 2) (by decide) rfl (Nat.le_of_ble_eq_true rfl) ?_
  intro p e s m args below meth c A ls Q hE hret
  obtain ⟨hx, hb, hts, hown, hml, hP, hK, hD, hN, hA, hl⟩ := hE
  have hown : s.vm.findClass RX5 = some m.cls := hown
  have hl : lv_has ls 2 [(0, .ref (ad 16)), (1, .int (a1))] := hl
  have hS : va_S A s.heap s.heap [] := va_S.rf
  have k_0 : (Cond.fieldLink RX5 9 "BellBook$Tides" "length" "[I").before args s = true := hts _ (List.mem_of_getElem? (i := 1) rfl)
  have n_5 : ∀ w ∈ u_ws RX5 TX5 2, w ∈ wsX5_add := fun w hw => List.mem_cons_of_mem _ (List.mem_append_right _ hw)
  have k_2 : (Cond.fieldLink RX5 13 "BellBook$Tides" "count" "I").before args s = true := hts _ (List.mem_of_getElem? (i := 2) rfl)
  refine lv_aload_n hx hb dX5_add_0 rfl (lv_at hl 0 rfl) ?_
  refine va_get (D := D) (ci := 5) (fs := vX5 ad F) (v := .ref (ad 17)) (C := RX5) (T := TX5) (N := 2) hx hb hts n_5 hown hK hP 16 wCg16 rfl 0 (by decide) k_0 (fun _ h9 => h9) rfl dX5_add_1 ?_
  refine lv_aload_n hx hb dX5_add_4 rfl (lv_at hl 0 rfl) ?_
  refine va_get (D := D) (ci := 5) (fs := vX5 ad F) (v := .int ((F 19))) (C := RX5) (T := TX5) (N := 2) hx hb hts n_5 hown hK hP 16 wCg16 rfl 1 (by decide) k_2 (fun _ h9 => h9) rfl dX5_add_5 ?_
  refine lv_iload_n hx hb dX5_add_8 rfl (lv_at hl 1 rfl) ?_
  obtain ⟨g9, h⟩ := og h
  obtain ⟨G9, eG9⟩ : ∃ z : tG, z = stG G 12 (F 19) a1 := ⟨_, rfl⟩
  replace h := pl h eG9
  refine va_iast (D := D) hx hb hK hP hD hS 17 0 wCg17 rfl (inB_in g9) dX5_add_9 (fun H locs hP hD hS => ?_)
  rw [wCa12 eG9] at hP hD
  refine lv_aload_n hx hb dX5_add_10 rfl (lv_at hl 0 rfl) ?_
  refine lv_dup hx hb dX5_add_11 rfl ?_
  refine va_get (D := D) (ci := 5) (fs := vX5 ad F) (v := .int ((F 19))) (C := RX5) (T := TX5) (N := 2) hx hb hts n_5 hown hK hP 16 wCg16 rfl 1 (by decide) k_2 (fun _ h9 => h9) rfl dX5_add_12 ?_
  refine lv_iconst (v := 1) hx hb dX5_add_15 (by decide) ?_
  refine lv_iadd hx hb dX5_add_16 ?_
  obtain ⟨F17, eF17⟩ : ∃ f : tF, f = upd F 19 ((F 19) + 1) := ⟨_, rfl⟩
  replace h := pl h eF17
  refine va_put (D := D) (ci := 5) (fs := vX5 ad F) (v := .int (((F 19) + 1))) (ty := .int) (C := RX5) (T := TX5) (N := 2) hx hb hts n_5 tyX5 tyX5_ok nmX5 hown hK hP hD hS 16 wCg16 rfl 1 (by decide) k_2 (fun _ h9 => h9) rfl (tyX5_ok 1 (by decide)) rfl rfl (Nat.le_of_ble_eq_true rfl) dX5_add_17 (fun H locs hP hD hS => ?_)
  rw [wCp19 eF17] at hP hD
  refine lv_aload_n hx hb dX5_add_20 rfl (lv_at hl 0 rfl) ?_
  refine va_get (D := D) (ci := 5) (fs := vX5 ad F17) (v := .int ((F17 19))) (C := RX5) (T := TX5) (N := 2) hx hb hts n_5 hown hK hP 16 wCg16 rfl 1 (by decide) k_2 (fun _ h9 => h9) rfl dX5_add_21 ?_
  exact hret _ _ _ _ _ _ _ dX5_add_24 h hP hD hS
