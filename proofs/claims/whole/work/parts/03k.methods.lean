def p_X8_tangle (F : tF) (G : tG) (a1 : Int32) (a2 : Int32) : Option (Int32 × tF × tG) :=
  bi1 (p_X8_isThing F a1) (fun x2 => (if x2 = 0 then some ((-1), F, G) else plet (((F 17) >>> (a1 &&& 31)) &&& 1) (fun (x18 : Int32) => bi1 ((if a2 = 0 then some (((F 17) &&& ((1 <<< (a1 &&& 31)) ^^^ (-1)))) else some (((F 17) ||| (1 <<< (a1 &&& 31)))))) (fun (y21_0 : Int32) => plet (upd F 17 y21_0) (fun (F45 : tF) => some (x18, F45, G))))))
set_option maxHeartbeats 4000000 in
set_option maxRecDepth 100000 in
theorem c_X8_tangle (l : Launch) (D : va_G) (ad : Nat → Nat) (cA : ClassId) (n : Nat) (F : tF) (G : tG) (a1 : Int32) (a2 : Int32) {r : Int32} {F' : tF} {G' : tG} (h : p_X8_tangle F G a1 a2 = some (r, F', G')) : CI l yX8_tangle wsX8_tangle ({ frames := 2, cells := 0, slots := 0, locals := 43 } : Room) D cA (wM ad cA F G) [.ref (ad 0), .int (a1), .int (a2)] r (wM ad cA F' G') := by
  rw [p_X8_tangle] at h
  refine metIm (w := wM ad cA) (cc := cX8_tangle) (maxL := 4) (by decide) rfl (Nat.le_of_ble_eq_true rfl) ?_
  intro p e s m args below meth c A ls Q hE hret
  obtain ⟨hx, hb, hts, hown, hml, hP, hK, hD, hN, hA, hl⟩ := hE
  have hown : s.vm.findClass RX8 = some m.cls := hown
  have hl : lv_has ls 4 [(0, .ref (ad 0)), (1, .int (a1)), (2, .int (a2))] := hl
  have hS : va_S A s.heap s.heap [] := va_S.rf
  have k_0 : (Cond.fieldLink RX8 145 "BellBookModel" "tangled" "I").before args s = true := hts _ (List.mem_of_getElem? (i := 1) rfl)
  have n_8 : ∀ w ∈ u_ws RX8 TX8 46, w ∈ wsX8_tangle := fun w hw => List.mem_cons_of_mem _ (List.mem_append_right _ hw)
  refine lv_aload_n hx hb dX8_tangle_0 rfl (lv_at hl 0 rfl) ?_
  refine lv_iload_n hx hb dX8_tangle_1 rfl (lv_at hl 1 rfl) ?_
  obtain ⟨x2, h2, h⟩ := bi1e h
  refine callVI (b := ad 0) (As := [.int (a1)]) (rest := []) ⟨hx, hb, hml, hown, hts⟩ (c_X8_isThing l D ad cA n F G a1 h2) (cwV 1 hts gX8_tangle_X8_isThing rfl rfl rfl (by decide +kernel) ⟨Nat.le_of_ble_eq_true rfl, Nat.le_of_ble_eq_true rfl⟩) (va_recv hK hP (ci := 8) (q0 := 0) rfl wMg0) hP hK hD hN hS hA rfl hl.1 rfl (Nat.le_of_ble_eq_true rfl) dX8_tangle_2 ⟨Nat.zero_le _, Nat.zero_le _⟩ (fun H locs hP hD hS => ?_)
  refine lv_if_ne (tgt := 10) hx hb dX8_tangle_5 (by decide) (fun c5 => ?_) (fun c5 => ?_)
  · replace h := ifn h c5
    refine lv_aload_n hx hb dX8_tangle_10 rfl (lv_at hl 0 rfl) ?_
    refine va_get (D := D) (ci := 8) (fs := vX8 ad F) (v := .int ((F 17))) (C := RX8) (T := TX8) (N := 46) hx hb hts n_8 hown hK hP 0 wMg0 rfl 25 (by decide) k_0 (fun _ h9 => h9) rfl dX8_tangle_11 ?_
    refine lv_iload_n hx hb dX8_tangle_14 rfl (lv_at hl 1 rfl) ?_
    refine lv_ishr hx hb dX8_tangle_15 ?_
    refine lv_iconst (v := 1) hx hb dX8_tangle_16 (by decide) ?_
    refine lv_iand hx hb dX8_tangle_17 ?_
    refine lv_topi (fun x18 ex18 => ?_)
    replace h := pl h ex18
    refine lv_istore_n (lv' := [(3, .int (x18)), (0, .ref (ad 0)), (1, .int (a1)), (2, .int (a2))]) hx hb dX8_tangle_18 rfl hl (by decide) rfl (fun ls hl => ?_)
    refine lv_aload_n hx hb dX8_tangle_19 rfl (lv_at hl 1 rfl) ?_
    refine lv_iload_n hx hb dX8_tangle_20 rfl (lv_at hl 3 rfl) ?_
    obtain ⟨y21_0, q21, h⟩ := bi1e h
    have J21 : ∀ (wy21_0 : Int32), some (wy21_0) = some (y21_0) → ∀ (H : Heap) (locs : List Loc) (ls : Array Slot), va_P D vwCl (wM ad cA F G) H → va_D A (wM ad cA F G) → va_S A s.heap H locs → lv_has ls 4 [(3, .int (x18)), (0, .ref (ad 0)), (1, .int (a1)), (2, .int (a2))] → W p l e ({ frames := 2, cells := 0, slots := 0, locals := 43 } : Room) s m args below meth c H locs 0 0 Q (F0 m 45 ls [.int (wy21_0), .ref (ad 0)]) := by
      intro wy21_0 e9 H locs ls hP hD hS hl
      cases e9
      obtain ⟨F45, eF45⟩ : ∃ f : tF, f = upd F 17 y21_0 := ⟨_, rfl⟩
      replace h := pl h eF45
      refine va_put (D := D) (ci := 8) (fs := vX8 ad F) (v := .int (y21_0)) (ty := .int) (C := RX8) (T := TX8) (N := 46) hx hb hts n_8 tyX8 tyX8_ok nmX8 hown hK hP hD hS 0 wMg0 rfl 25 (by decide) k_0 (fun _ h9 => h9) rfl (tyX8_ok 25 (by decide)) rfl rfl (Nat.le_of_ble_eq_true rfl) dX8_tangle_45 (fun H locs hP hD hS => ?_)
      rw [wMp17 eF45] at hP hD
      refine lv_iload_n hx hb dX8_tangle_48 rfl (lv_at hl 0 rfl) ?_
      exact hret _ _ _ _ _ _ _ dX8_tangle_49 h hP hD hS
    refine lv_if_eq (tgt := 35) hx hb dX8_tangle_21 (by decide) (fun c21 => ?_) (fun c21 => ?_)
    · replace q21 := ifp q21 c21
      refine lv_aload_n hx hb dX8_tangle_35 rfl (lv_at hl 1 rfl) ?_
      refine va_get (D := D) (ci := 8) (fs := vX8 ad F) (v := .int ((F 17))) (C := RX8) (T := TX8) (N := 46) hx hb hts n_8 hown hK hP 0 wMg0 rfl 25 (by decide) k_0 (fun _ h9 => h9) rfl dX8_tangle_36 ?_
      refine lv_iconst (v := 1) hx hb dX8_tangle_39 (by decide) ?_
      refine lv_iload_n hx hb dX8_tangle_40 rfl (lv_at hl 2 rfl) ?_
      refine lv_ishl hx hb dX8_tangle_41 ?_
      refine lv_iconst (v := (-1)) hx hb dX8_tangle_42 (by decide) ?_
      refine lv_ixor hx hb dX8_tangle_43 ?_
      refine lv_iand hx hb dX8_tangle_44 ?_
      exact J21 _ q21 _ _ _ hP hD hS (lv_sub hl [0, 1, 2, 3] rfl)
    · replace q21 := ifn q21 c21
      refine lv_aload_n hx hb dX8_tangle_24 rfl (lv_at hl 1 rfl) ?_
      refine va_get (D := D) (ci := 8) (fs := vX8 ad F) (v := .int ((F 17))) (C := RX8) (T := TX8) (N := 46) hx hb hts n_8 hown hK hP 0 wMg0 rfl 25 (by decide) k_0 (fun _ h9 => h9) rfl dX8_tangle_25 ?_
      refine lv_iconst (v := 1) hx hb dX8_tangle_28 (by decide) ?_
      refine lv_iload_n hx hb dX8_tangle_29 rfl (lv_at hl 2 rfl) ?_
      refine lv_ishl hx hb dX8_tangle_30 ?_
      refine lv_ior hx hb dX8_tangle_31 ?_
      refine lv_goto (tgt := 45) hx hb dX8_tangle_32 (by decide) ?_
      exact J21 _ q21 _ _ _ hP hD hS (lv_sub hl [0, 1, 2, 3] rfl)
  · replace h := ifp h c5
    refine lv_iconst (v := (-1)) hx hb dX8_tangle_8 (by decide) ?_
    exact hret _ _ _ _ _ _ _ dX8_tangle_9 h hP hD hS

def p_X8_tell_L36 (F : tF) (G : tG) (z8_0 : Int32) (K36 : Int32 → Int32 → Option (Int32 × Int32)) : Nat → Int32 → Int32 → Option (Int32 × Int32)
  | 0, _, _ => none
  | k36 + 1, z36_0, z36_1 => (if (F 19) ≤ z36_0 then K36 z36_0 z36_1 else oguard (inB z36_0 4) (oguard (inB z36_0 4) (bi1 (p_X8_apart G z8_0 (G 11 z36_0.toNatClampNeg) (G 12 z36_0.toNatClampNeg)) (fun x63 => plet (z36_1 + x63) (fun (x67 : Int32) => plet (z36_0 + 1) (fun (x69 : Int32) => p_X8_tell_L36 F G z8_0 K36 k36 x69 x67))))))
theorem p_X8_tell_L36_k {F : tF} {G : tG} {z8_0 : Int32} {K0 : Int32 → Int32 → Option (Int32 × Int32)} {k : Nat} {z36_0 : Int32} {z36_1 : Int32} {x : Int32 × Int32} (h : p_X8_tell_L36 F G z8_0 K0 k z36_0 z36_1 = some x) : ∃ K, K = K0 ∧ p_X8_tell_L36 F G z8_0 K k z36_0 z36_1 = some x := ⟨K0, rfl, h⟩
def p_X8_tell_L8 (n : Nat) (F : tF) (G : tG) (K8 : Int32 → Int32 → Int32 → Option (Int32 × tF × tG)) : Nat → Int32 → Int32 → Int32 → Option (Int32 × tF × tG)
  | 0, _, _, _ => none
  | k8 + 1, z8_0, z8_1, z8_2 => (if 12 ≤ z8_0 then K8 z8_0 z8_1 z8_2 else (if (F 19) ≤ 0 then K8 z8_0 z8_1 z8_2 else oguard (inB z8_0 12) (bi2 ((if (G 9 z8_0.toNatClampNeg) ≤ 0 then some (z8_1, z8_2) else p_X8_tell_L36 F G z8_0 (fun (z36_0 : Int32) (z36_1 : Int32) => bi1 ((if z8_1 ≤ z36_1 then (if z36_1 = z8_1 then some ((-6)) else some (z8_2)) else some (z8_0))) (fun (y78_0 : Int32) => bi1 ((if z8_1 ≤ z36_1 then some (z8_1) else some (z36_1))) (fun (y101_0 : Int32) => some (y101_0, y78_0)))) n 0 0)) (fun (y27_0 : Int32) (y27_1 : Int32) => plet (z8_0 + 1) (fun (x111 : Int32) => p_X8_tell_L8 n F G K8 k8 x111 y27_0 y27_1)))))
theorem p_X8_tell_L8_k {n : Nat} {F : tF} {G : tG} {K0 : Int32 → Int32 → Int32 → Option (Int32 × tF × tG)} {k : Nat} {z8_0 : Int32} {z8_1 : Int32} {z8_2 : Int32} {x : Int32 × tF × tG} (h : p_X8_tell_L8 n F G K0 k z8_0 z8_1 z8_2 = some x) : ∃ K, K = K0 ∧ p_X8_tell_L8 n F G K k z8_0 z8_1 z8_2 = some x := ⟨K0, rfl, h⟩
def p_X8_tell (n : Nat) (F : tF) (G : tG) : Option (Int32 × tF × tG) :=
  p_X8_tell_L8 n F G (fun (z8_0 : Int32) (z8_1 : Int32) (z8_2 : Int32) => plet (upd F 19 0) (fun (F119 : tF) => some (z8_2, F119, G))) n 0 100000 (-6)
set_option maxHeartbeats 4000000 in
set_option maxRecDepth 100000 in
theorem c_X8_tell (l : Launch) (D : va_G) (ad : Nat → Nat) (cA : ClassId) (n : Nat) (F : tF) (G : tG) {r : Int32} {F' : tF} {G' : tG} (h : p_X8_tell n F G = some (r, F', G')) : CI l yX8_tell wsX8_tell ({ frames := 2, cells := 0, slots := 0, locals := 43 } : Room) D cA (wM ad cA F G) [.ref (ad 0)] r (wM ad cA F' G') := by
  rw [p_X8_tell] at h
  refine metIm (w := wM ad cA) (cc := cX8_tell) (maxL := 6) (by decide) rfl (Nat.le_of_ble_eq_true rfl) ?_
  intro p e s m args below meth c A ls Q hE hret
  obtain ⟨hx, hb, hts, hown, hml, hP, hK, hD, hN, hA, hl⟩ := hE
  have hown : s.vm.findClass RX8 = some m.cls := hown
  have hl : lv_has ls 6 [(0, .ref (ad 0))] := hl
  have hS : va_S A s.heap s.heap [] := va_S.rf
  have k_0 : (Cond.constant RX8 154 (100000)).before args s = true := hts _ (List.mem_of_getElem? (i := 1) rfl)
  have k_1 : (Cond.fieldLink RX8 218 "BellBookModel" "hearings" "I").before args s = true := hts _ (List.mem_of_getElem? (i := 2) rfl)
  have n_8 : ∀ w ∈ u_ws RX8 TX8 46, w ∈ wsX8_tell := fun w hw => List.mem_cons_of_mem _ (List.mem_append_right _ hw)
  have k_3 : (Cond.fieldLink RX8 59 "BellBookModel" "tugsA" "[I").before args s = true := hts _ (List.mem_of_getElem? (i := 3) rfl)
  have k_4 : (Cond.fieldLink RX8 65 "BellBookModel" "heardA" "[I").before args s = true := hts _ (List.mem_of_getElem? (i := 4) rfl)
  have k_5 : (Cond.fieldLink RX8 68 "BellBookModel" "heardB" "[I").before args s = true := hts _ (List.mem_of_getElem? (i := 5) rfl)
  refine lv_bipush (v := (-6)) hx hb dX8_tell_0 (by decide) ?_
  refine lv_istore_n (lv' := [(1, .int ((-6))), (0, .ref (ad 0))]) hx hb dX8_tell_2 rfl hl (by decide) rfl (fun ls hl => ?_)
  refine lv_ldc (v := 100000) hx hb hown k_0 dX8_tell_3 ?_
  refine lv_istore_n (lv' := [(2, .int (100000)), (1, .int ((-6))), (0, .ref (ad 0))]) hx hb dX8_tell_5 rfl hl (by decide) rfl (fun ls hl => ?_)
  refine lv_iconst (v := 0) hx hb dX8_tell_6 (by decide) ?_
  refine lv_istore_n (lv' := [(3, .int (0)), (2, .int (100000)), (1, .int ((-6))), (0, .ref (ad 0))]) hx hb dX8_tell_7 rfl hl (by decide) rfl (fun ls hl => ?_)
  obtain ⟨K8, eK8, h⟩ := p_X8_tell_L8_k h
  have JE8 : ∀ (z8_0 : Int32) (z8_1 : Int32) (z8_2 : Int32) (H : Heap) (locs : List Loc) (ls : Array Slot), K8 z8_0 z8_1 z8_2 = some (r, F', G') → va_P D vwCl (wM ad cA F G) H → va_D A (wM ad cA F G) → va_S A s.heap H locs → lv_has ls 6 [(3, .int (z8_0)), (2, .int (z8_1)), (1, .int (z8_2)), (0, .ref (ad 0))] → W p l e ({ frames := 2, cells := 0, slots := 0, locals := 43 } : Room) s m args below meth c H locs 0 0 Q (F0 m 117 ls []) := by
    intro z8_0 z8_1 z8_2 H locs ls h hP hD hS hl
    rw [eK8] at h
    refine lv_aload_n hx hb dX8_tell_117 rfl (lv_at hl 3 rfl) ?_
    refine lv_iconst (v := 0) hx hb dX8_tell_118 (by decide) ?_
    obtain ⟨F119, eF119⟩ : ∃ f : tF, f = upd F 19 0 := ⟨_, rfl⟩
    replace h := pl h eF119
    refine va_put (D := D) (ci := 8) (fs := vX8 ad F) (v := .int (0)) (ty := .int) (C := RX8) (T := TX8) (N := 46) hx hb hts n_8 tyX8 tyX8_ok nmX8 hown hK hP hD hS 0 wMg0 rfl 30 (by decide) k_1 (fun _ h9 => h9) rfl (tyX8_ok 30 (by decide)) rfl rfl (Nat.le_of_ble_eq_true rfl) dX8_tell_119 (fun H locs hP hD hS => ?_)
    rw [wMp19 eF119] at hP hD
    refine lv_iload_n hx hb dX8_tell_122 rfl (lv_at hl 2 rfl) ?_
    exact hret _ _ _ _ _ _ _ dX8_tell_123 h hP hD hS
  have LL8 : ∀ (k : Nat) (z8_0 : Int32) (z8_1 : Int32) (z8_2 : Int32) (H : Heap) (locs : List Loc) (ls : Array Slot), p_X8_tell_L8 n F G K8 k z8_0 z8_1 z8_2 = some (r, F', G') → va_P D vwCl (wM ad cA F G) H → va_D A (wM ad cA F G) → va_S A s.heap H locs → lv_has ls 6 [(3, .int (z8_0)), (2, .int (z8_1)), (1, .int (z8_2)), (0, .ref (ad 0))] → W p l e ({ frames := 2, cells := 0, slots := 0, locals := 43 } : Room) s m args below meth c H locs 0 0 Q (F0 m 8 ls []) := by
    intro k
    induction k with
    | zero =>
      intro z8_0 z8_1 z8_2 H locs ls h hP hD hS hl
      rw [p_X8_tell_L8] at h
      cases h
    | succ k8 ih8 =>
      intro z8_0 z8_1 z8_2 H locs ls h hP hD hS hl
      rw [p_X8_tell_L8] at h
      refine lv_iload_n hx hb dX8_tell_8 rfl (lv_at hl 0 rfl) ?_
      refine lv_bipush (v := 12) hx hb dX8_tell_9 (by decide) ?_
      refine lv_icmp_ge (tgt := 117) hx hb dX8_tell_11 (by decide) (fun c11 => ?_) (fun c11 => ?_)
      · replace h := ifp h c11
        exact JE8 _ _ _ _ _ _ h hP hD hS (lv_sub hl [0, 1, 2, 3] rfl)
      · replace h := ifn h c11
        refine lv_aload_n hx hb dX8_tell_14 rfl (lv_at hl 3 rfl) ?_
        refine va_get (D := D) (ci := 8) (fs := vX8 ad F) (v := .int ((F 19))) (C := RX8) (T := TX8) (N := 46) hx hb hts n_8 hown hK hP 0 wMg0 rfl 30 (by decide) k_1 (fun _ h9 => h9) rfl dX8_tell_15 ?_
        refine lv_if_le (tgt := 117) hx hb dX8_tell_18 (by decide) (fun c18 => ?_) (fun c18 => ?_)
        · replace h := ifp h c18
          exact JE8 _ _ _ _ _ _ h hP hD hS (lv_sub hl [0, 1, 2, 3] rfl)
        · replace h := ifn h c18
          refine lv_aload_n hx hb dX8_tell_21 rfl (lv_at hl 3 rfl) ?_
          refine va_get (D := D) (ci := 8) (fs := vX8 ad F) (v := .ref (ad 10)) (C := RX8) (T := TX8) (N := 46) hx hb hts n_8 hown hK hP 0 wMg0 rfl 28 (by decide) k_3 (fun _ h9 => h9) rfl dX8_tell_22 ?_
          refine lv_iload_n hx hb dX8_tell_25 rfl (lv_at hl 0 rfl) ?_
          obtain ⟨g26, h⟩ := og h
          refine va_iald (D := D) hx hb hK hP 10 0 wMg10 rfl (inB_in g26) dX8_tell_26 ?_
          obtain ⟨y27_0, y27_1, q27, h⟩ := bi2e h
          have J27 : ∀ (wy27_0 : Int32) (wy27_1 : Int32), some (wy27_0, wy27_1) = some (y27_0, y27_1) → ∀ (H : Heap) (locs : List Loc) (ls : Array Slot), va_P D vwCl (wM ad cA F G) H → va_D A (wM ad cA F G) → va_S A s.heap H locs → lv_has ls 6 [(3, .int (z8_0)), (2, .int (wy27_0)), (1, .int (wy27_1)), (0, .ref (ad 0))] → W p l e ({ frames := 2, cells := 0, slots := 0, locals := 43 } : Room) s m args below meth c H locs 0 0 Q (F0 m 111 ls []) := by
            intro wy27_0 wy27_1 e9 H locs ls hP hD hS hl
            cases e9
            obtain ⟨x111, ex111⟩ : ∃ z : Int32, z = (z8_0 + 1) := ⟨_, rfl⟩
            replace h := pl h ex111
            refine lv_iinc (v := x111) (lv' := [(3, .int (x111)), (2, .int (y27_0)), (1, .int (y27_1)), (0, .ref (ad 0))]) hx hb dX8_tell_111 hl (k := 0) rfl (by rw [ex111]; rfl) (by decide) rfl (fun ls hl => ?_)
            refine lv_goto (tgt := 8) hx hb dX8_tell_114 (by decide) ?_
            exact ih8 _ _ _ _ _ _ h hP hD hS (lv_sub hl [0, 1, 2, 3] rfl)
          refine lv_if_le (tgt := 111) hx hb dX8_tell_27 (by decide) (fun c27 => ?_) (fun c27 => ?_)
          · replace q27 := ifp q27 c27
            exact J27 _ _ q27 _ _ _ hP hD hS (lv_sub hl [0, 1, 2, 3] rfl)
          · replace q27 := ifn q27 c27
            refine lv_iconst (v := 0) hx hb dX8_tell_30 (by decide) ?_
            refine lv_istore (lv' := [(4, .int (0)), (3, .int (z8_0)), (2, .int (z8_1)), (1, .int (z8_2)), (0, .ref (ad 0))]) hx hb dX8_tell_31 hl (by decide) rfl (fun ls hl => ?_)
            refine lv_iconst (v := 0) hx hb dX8_tell_33 (by decide) ?_
            refine lv_istore (lv' := [(5, .int (0)), (4, .int (0)), (3, .int (z8_0)), (2, .int (z8_1)), (1, .int (z8_2)), (0, .ref (ad 0))]) hx hb dX8_tell_34 hl (by decide) rfl (fun ls hl => ?_)
            obtain ⟨K36, eK36, q27⟩ := p_X8_tell_L36_k q27
            have JE36 : ∀ (z36_0 : Int32) (z36_1 : Int32) (H : Heap) (locs : List Loc) (ls : Array Slot), K36 z36_0 z36_1 = some (y27_0, y27_1) → va_P D vwCl (wM ad cA F G) H → va_D A (wM ad cA F G) → va_S A s.heap H locs → lv_has ls 6 [(5, .int (z36_0)), (4, .int (z36_1)), (3, .int (z8_0)), (2, .int (z8_1)), (1, .int (z8_2)), (0, .ref (ad 0))] → W p l e ({ frames := 2, cells := 0, slots := 0, locals := 43 } : Room) s m args below meth c H locs 0 0 Q (F0 m 75 ls []) := by
              intro z36_0 z36_1 H locs ls q27 hP hD hS hl
              rw [eK36] at q27
              refine lv_iload hx hb dX8_tell_75 (lv_at hl 1 rfl) ?_
              refine lv_iload_n hx hb dX8_tell_77 rfl (lv_at hl 3 rfl) ?_
              obtain ⟨y78_0, q78, q27⟩ := bi1e q27
              have J78 : ∀ (wy78_0 : Int32), some (wy78_0) = some (y78_0) → ∀ (H : Heap) (locs : List Loc) (ls : Array Slot), va_P D vwCl (wM ad cA F G) H → va_D A (wM ad cA F G) → va_S A s.heap H locs → lv_has ls 6 [(5, .int (z36_0)), (4, .int (z36_1)), (3, .int (z8_0)), (2, .int (z8_1)), (1, .int (z8_2)), (0, .ref (ad 0))] → W p l e ({ frames := 2, cells := 0, slots := 0, locals := 43 } : Room) s m args below meth c H locs 0 0 Q (F0 m 97 ls [.int (wy78_0)]) := by
                intro wy78_0 e9 H locs ls hP hD hS hl
                cases e9
                refine lv_istore_n (lv' := [(1, .int (y78_0)), (5, .int (z36_0)), (4, .int (z36_1)), (3, .int (z8_0)), (2, .int (z8_1)), (0, .ref (ad 0))]) hx hb dX8_tell_97 rfl hl (by decide) rfl (fun ls hl => ?_)
                refine lv_iload hx hb dX8_tell_98 (lv_at hl 2 rfl) ?_
                refine lv_iload_n hx hb dX8_tell_100 rfl (lv_at hl 4 rfl) ?_
                obtain ⟨y101_0, q101, q27⟩ := bi1e q27
                have J101 : ∀ (wy101_0 : Int32), some (wy101_0) = some (y101_0) → ∀ (H : Heap) (locs : List Loc) (ls : Array Slot), va_P D vwCl (wM ad cA F G) H → va_D A (wM ad cA F G) → va_S A s.heap H locs → lv_has ls 6 [(1, .int (y78_0)), (5, .int (z36_0)), (4, .int (z36_1)), (3, .int (z8_0)), (2, .int (z8_1)), (0, .ref (ad 0))] → W p l e ({ frames := 2, cells := 0, slots := 0, locals := 43 } : Room) s m args below meth c H locs 0 0 Q (F0 m 110 ls [.int (wy101_0)]) := by
                  intro wy101_0 e9 H locs ls hP hD hS hl
                  cases e9
                  refine lv_istore_n (lv' := [(2, .int (y101_0)), (1, .int (y78_0)), (5, .int (z36_0)), (4, .int (z36_1)), (3, .int (z8_0)), (0, .ref (ad 0))]) hx hb dX8_tell_110 rfl hl (by decide) rfl (fun ls hl => ?_)
                  exact J27 _ _ q27 _ _ _ hP hD hS (lv_sub hl [4, 0, 1, 5] rfl)
                refine lv_icmp_ge (tgt := 109) hx hb dX8_tell_101 (by decide) (fun c101 => ?_) (fun c101 => ?_)
                · replace q101 := ifp q101 c101
                  refine lv_iload_n hx hb dX8_tell_109 rfl (lv_at hl 4 rfl) ?_
                  exact J101 _ q101 _ _ _ hP hD hS (lv_sub hl [0, 1, 2, 3, 4, 5] rfl)
                · replace q101 := ifn q101 c101
                  refine lv_iload hx hb dX8_tell_104 (lv_at hl 2 rfl) ?_
                  refine lv_goto (tgt := 110) hx hb dX8_tell_106 (by decide) ?_
                  exact J101 _ q101 _ _ _ hP hD hS (lv_sub hl [0, 1, 2, 3, 4, 5] rfl)
              refine lv_icmp_ge (tgt := 85) hx hb dX8_tell_78 (by decide) (fun c78 => ?_) (fun c78 => ?_)
              · replace q78 := ifp q78 c78
                refine lv_iload hx hb dX8_tell_85 (lv_at hl 1 rfl) ?_
                refine lv_iload_n hx hb dX8_tell_87 rfl (lv_at hl 3 rfl) ?_
                refine lv_icmp_ne (tgt := 96) hx hb dX8_tell_88 (by decide) (fun c88 => ?_) (fun c88 => ?_)
                · replace q78 := ifn q78 c88
                  refine lv_iload_n hx hb dX8_tell_96 rfl (lv_at hl 4 rfl) ?_
                  exact J78 _ q78 _ _ _ hP hD hS (lv_sub hl [0, 1, 2, 3, 4, 5] rfl)
                · replace q78 := ifp q78 c88
                  refine lv_bipush (v := (-6)) hx hb dX8_tell_91 (by decide) ?_
                  refine lv_goto (tgt := 97) hx hb dX8_tell_93 (by decide) ?_
                  exact J78 _ q78 _ _ _ hP hD hS (lv_sub hl [0, 1, 2, 3, 4, 5] rfl)
              · replace q78 := ifn q78 c78
                refine lv_iload_n hx hb dX8_tell_81 rfl (lv_at hl 2 rfl) ?_
                refine lv_goto (tgt := 97) hx hb dX8_tell_82 (by decide) ?_
                exact J78 _ q78 _ _ _ hP hD hS (lv_sub hl [0, 1, 2, 3, 4, 5] rfl)
            have LL36 : ∀ (k : Nat) (z36_0 : Int32) (z36_1 : Int32) (H : Heap) (locs : List Loc) (ls : Array Slot), p_X8_tell_L36 F G z8_0 K36 k z36_0 z36_1 = some (y27_0, y27_1) → va_P D vwCl (wM ad cA F G) H → va_D A (wM ad cA F G) → va_S A s.heap H locs → lv_has ls 6 [(5, .int (z36_0)), (4, .int (z36_1)), (3, .int (z8_0)), (2, .int (z8_1)), (1, .int (z8_2)), (0, .ref (ad 0))] → W p l e ({ frames := 2, cells := 0, slots := 0, locals := 43 } : Room) s m args below meth c H locs 0 0 Q (F0 m 36 ls []) := by
              intro k
              induction k with
              | zero =>
                intro z36_0 z36_1 H locs ls q27 hP hD hS hl
                rw [p_X8_tell_L36] at q27
                cases q27
              | succ k36 ih36 =>
                intro z36_0 z36_1 H locs ls q27 hP hD hS hl
                rw [p_X8_tell_L36] at q27
                refine lv_iload hx hb dX8_tell_36 (lv_at hl 0 rfl) ?_
                refine lv_aload_n hx hb dX8_tell_38 rfl (lv_at hl 5 rfl) ?_
                refine va_get (D := D) (ci := 8) (fs := vX8 ad F) (v := .int ((F 19))) (C := RX8) (T := TX8) (N := 46) hx hb hts n_8 hown hK hP 0 wMg0 rfl 30 (by decide) k_1 (fun _ h9 => h9) rfl dX8_tell_39 ?_
                refine lv_icmp_ge (tgt := 75) hx hb dX8_tell_42 (by decide) (fun c42 => ?_) (fun c42 => ?_)
                · replace q27 := ifp q27 c42
                  exact JE36 _ _ _ _ _ q27 hP hD hS (lv_sub hl [0, 1, 2, 3, 4, 5] rfl)
                · replace q27 := ifn q27 c42
                  refine lv_iload hx hb dX8_tell_45 (lv_at hl 1 rfl) ?_
                  refine lv_aload_n hx hb dX8_tell_47 rfl (lv_at hl 5 rfl) ?_
                  refine lv_iload_n hx hb dX8_tell_48 rfl (lv_at hl 2 rfl) ?_
                  refine lv_aload_n hx hb dX8_tell_49 rfl (lv_at hl 5 rfl) ?_
                  refine va_get (D := D) (ci := 8) (fs := vX8 ad F) (v := .ref (ad 12)) (C := RX8) (T := TX8) (N := 46) hx hb hts n_8 hown hK hP 0 wMg0 rfl 31 (by decide) k_4 (fun _ h9 => h9) rfl dX8_tell_50 ?_
                  refine lv_iload hx hb dX8_tell_53 (lv_at hl 0 rfl) ?_
                  obtain ⟨g55, q27⟩ := og q27
                  refine va_iald (D := D) hx hb hK hP 12 0 wMg12 rfl (inB_in g55) dX8_tell_55 ?_
                  refine lv_aload_n hx hb dX8_tell_56 rfl (lv_at hl 5 rfl) ?_
                  refine va_get (D := D) (ci := 8) (fs := vX8 ad F) (v := .ref (ad 13)) (C := RX8) (T := TX8) (N := 46) hx hb hts n_8 hown hK hP 0 wMg0 rfl 32 (by decide) k_5 (fun _ h9 => h9) rfl dX8_tell_57 ?_
                  refine lv_iload hx hb dX8_tell_60 (lv_at hl 0 rfl) ?_
                  obtain ⟨g62, q27⟩ := og q27
                  refine va_iald (D := D) hx hb hK hP 13 0 wMg13 rfl (inB_in g62) dX8_tell_62 ?_
                  obtain ⟨x63, h63, q27⟩ := bi1e q27
                  refine callVI (b := ad 0) (As := [.int (z8_0), .int ((G 11 z36_0.toNatClampNeg)), .int ((G 12 z36_0.toNatClampNeg))]) (rest := [.int (z36_1)]) ⟨hx, hb, hml, hown, hts⟩ (c_X8_apart l D ad cA n F G z8_0 (G 11 z36_0.toNatClampNeg) (G 12 z36_0.toNatClampNeg) h63) (cwV 3 hts gX8_tell_X8_apart rfl rfl rfl (by decide +kernel) ⟨Nat.le_of_ble_eq_true rfl, Nat.le_of_ble_eq_true rfl⟩) (va_recv hK hP (ci := 8) (q0 := 0) rfl wMg0) hP hK hD hN hS hA rfl hl.1 rfl (Nat.le_of_ble_eq_true rfl) dX8_tell_63 ⟨Nat.zero_le _, Nat.zero_le _⟩ (fun H locs hP hD hS => ?_)
                  refine lv_iadd hx hb dX8_tell_66 ?_
                  refine lv_topi (fun x67 ex67 => ?_)
                  replace q27 := pl q27 ex67
                  refine lv_istore (lv' := [(4, .int (x67)), (5, .int (z36_0)), (3, .int (z8_0)), (2, .int (z8_1)), (1, .int (z8_2)), (0, .ref (ad 0))]) hx hb dX8_tell_67 hl (by decide) rfl (fun ls hl => ?_)
                  obtain ⟨x69, ex69⟩ : ∃ z : Int32, z = (z36_0 + 1) := ⟨_, rfl⟩
                  replace q27 := pl q27 ex69
                  refine lv_iinc (v := x69) (lv' := [(5, .int (x69)), (4, .int (x67)), (3, .int (z8_0)), (2, .int (z8_1)), (1, .int (z8_2)), (0, .ref (ad 0))]) hx hb dX8_tell_69 hl (k := 1) rfl (by rw [ex69]; rfl) (by decide) rfl (fun ls hl => ?_)
                  refine lv_goto (tgt := 36) hx hb dX8_tell_72 (by decide) ?_
                  exact ih36 _ _ _ _ _ q27 hP hD hS (lv_sub hl [0, 1, 2, 3, 4, 5] rfl)
            exact LL36 n 0 0 _ _ _ q27 hP hD hS (lv_sub hl [0, 1, 2, 3, 4, 5] rfl)
  exact LL8 n 0 100000 (-6) _ _ _ h hP hD hS (lv_sub hl [0, 1, 2, 3] rfl)

def p_X8_thing (F : tF) (G : tG) (a1 : Int32) (a2 : Int32) (a3 : Int32) (a4 : Int32) : Option (Int32 × tF × tG) :=
  bi1 (p_X8_isSquare a1) (fun x1 => (if x1 = 0 then some ((-1), F, G) else bi1 (p_X8_in a2 0 1000) (fun x14 => (if x14 = 0 then some ((-2), F, G) else bi1 (p_X8_in a3 1 200) (fun x25 => (if x25 = 0 then some ((-2), F, G) else bi1 (p_X8_in a4 0 100) (fun x36 => (if x36 = 0 then some ((-2), F, G) else (if (F 15) = 12 then some ((-4), F, G) else plet (5 * (F 15)) (fun (x63 : Int32) => oguard (inB x63 60) (plet (stG G 6 x63 a1) (fun (G72 : tG) => oguard (inB (x63 + 1) 60) (plet (stG G72 6 (x63 + 1) a2) (fun (G82 : tG) => oguard (inB (x63 + 2) 60) (plet (stG G82 6 (x63 + 2) a3) (fun (G92 : tG) => oguard (inB (x63 + 3) 60) (plet (stG G92 6 (x63 + 3) a4) (fun (G103 : tG) => oguard (inB (x63 + 4) 60) (plet (stG G103 6 (x63 + 4) 0) (fun (G113 : tG) => oguard (inB (F 15) 12) (plet (stG G113 7 (F 15) 0) (fun (G123 : tG) => plet (upd F 15 ((F 15) + 1)) (fun (F131 : tF) => some (((F131 15) - 1), F131, G123))))))))))))))))))))))))
set_option maxHeartbeats 4000000 in
set_option maxRecDepth 100000 in
theorem c_X8_thing (l : Launch) (D : va_G) (ad : Nat → Nat) (cA : ClassId) (n : Nat) (F : tF) (G : tG) (a1 : Int32) (a2 : Int32) (a3 : Int32) (a4 : Int32) {r : Int32} {F' : tF} {G' : tG} (h : p_X8_thing F G a1 a2 a3 a4 = some (r, F', G')) : CI l yX8_thing wsX8_thing ({ frames := 2, cells := 0, slots := 0, locals := 42 } : Room) D cA (wM ad cA F G) [.ref (ad 0), .int (a1), .int (a2), .int (a3), .int (a4)] r (wM ad cA F' G') := by
  rw [p_X8_thing] at h
  refine metIm (w := wM ad cA) (cc := cX8_thing) (maxL := 6) (by decide) rfl (Nat.le_of_ble_eq_true rfl) ?_
  intro p e s m args below meth c A ls Q hE hret
  obtain ⟨hx, hb, hts, hown, hml, hP, hK, hD, hN, hA, hl⟩ := hE
  have hown : s.vm.findClass RX8 = some m.cls := hown
  have hl : lv_has ls 6 [(0, .ref (ad 0)), (1, .int (a1)), (2, .int (a2)), (3, .int (a3)), (4, .int (a4))] := hl
  have hS : va_S A s.heap s.heap [] := va_S.rf
  have k_0 : (Cond.fieldLink RX8 173 "BellBookModel" "things" "I").before args s = true := hts _ (List.mem_of_getElem? (i := 1) rfl)
  have n_8 : ∀ w ∈ u_ws RX8 TX8 46, w ∈ wsX8_thing := fun w hw => List.mem_cons_of_mem _ (List.mem_append_right _ hw)
  have k_2 : (Cond.fieldLink RX8 50 "BellBookModel" "thing" "[I").before args s = true := hts _ (List.mem_of_getElem? (i := 2) rfl)
  have k_3 : (Cond.fieldLink RX8 53 "BellBookModel" "under" "[I").before args s = true := hts _ (List.mem_of_getElem? (i := 3) rfl)
  refine lv_iload_n hx hb dX8_thing_0 rfl (lv_at hl 1 rfl) ?_
  obtain ⟨x1, h1, h⟩ := bi1e h
  refine callSI (As := [.int (a1)]) (rest := []) ⟨hx, hb, hml, hown, hts⟩ (c_X8_isSquare l D ad cA n F G a1 h1) (va_cwS 1 hts gX8_thing_X8_isSquare rfl rfl rfl (by decide +kernel) ⟨Nat.le_of_ble_eq_true rfl, Nat.le_of_ble_eq_true rfl⟩) hP hK hD hN hS hA rfl hl.1 rfl (Nat.le_of_ble_eq_true rfl) dX8_thing_1 ⟨Nat.zero_le _, Nat.zero_le _⟩ (fun H locs hP hD hS => ?_)
  refine lv_if_ne (tgt := 9) hx hb dX8_thing_4 (by decide) (fun c4 => ?_) (fun c4 => ?_)
  · replace h := ifn h c4
    refine lv_iload_n hx hb dX8_thing_9 rfl (lv_at hl 2 rfl) ?_
    refine lv_iconst (v := 0) hx hb dX8_thing_10 (by decide) ?_
    refine lv_sipush (v := 1000) hx hb dX8_thing_11 (by decide) ?_
    obtain ⟨x14, h14, h⟩ := bi1e h
    refine callSI (As := [.int (a2), .int (0), .int (1000)]) (rest := []) ⟨hx, hb, hml, hown, hts⟩ (c_X8_in l D ad cA n F G a2 0 1000 h14) (va_cwS 3 hts gX8_thing_X8_in rfl rfl rfl (by decide +kernel) ⟨Nat.le_of_ble_eq_true rfl, Nat.le_of_ble_eq_true rfl⟩) hP hK hD hN hS hA rfl hl.1 rfl (Nat.le_of_ble_eq_true rfl) dX8_thing_14 ⟨Nat.zero_le _, Nat.zero_le _⟩ (fun H locs hP hD hS => ?_)
    refine lv_if_eq (tgt := 42) hx hb dX8_thing_17 (by decide) (fun c17 => ?_) (fun c17 => ?_)
    · replace h := ifp h c17
      refine lv_bipush (v := (-2)) hx hb dX8_thing_42 (by decide) ?_
      exact hret _ _ _ _ _ _ _ dX8_thing_44 h hP hD hS
    · replace h := ifn h c17
      refine lv_iload_n hx hb dX8_thing_20 rfl (lv_at hl 3 rfl) ?_
      refine lv_iconst (v := 1) hx hb dX8_thing_21 (by decide) ?_
      refine lv_sipush (v := 200) hx hb dX8_thing_22 (by decide) ?_
      obtain ⟨x25, h25, h⟩ := bi1e h
      refine callSI (As := [.int (a3), .int (1), .int (200)]) (rest := []) ⟨hx, hb, hml, hown, hts⟩ (c_X8_in l D ad cA n F G a3 1 200 h25) (va_cwS 3 hts gX8_thing_X8_in rfl rfl rfl (by decide +kernel) ⟨Nat.le_of_ble_eq_true rfl, Nat.le_of_ble_eq_true rfl⟩) hP hK hD hN hS hA rfl hl.1 rfl (Nat.le_of_ble_eq_true rfl) dX8_thing_25 ⟨Nat.zero_le _, Nat.zero_le _⟩ (fun H locs hP hD hS => ?_)
      refine lv_if_eq (tgt := 42) hx hb dX8_thing_28 (by decide) (fun c28 => ?_) (fun c28 => ?_)
      · replace h := ifp h c28
        refine lv_bipush (v := (-2)) hx hb dX8_thing_42 (by decide) ?_
        exact hret _ _ _ _ _ _ _ dX8_thing_44 h hP hD hS
      · replace h := ifn h c28
        refine lv_iload hx hb dX8_thing_31 (lv_at hl 4 rfl) ?_
        refine lv_iconst (v := 0) hx hb dX8_thing_33 (by decide) ?_
        refine lv_bipush (v := 100) hx hb dX8_thing_34 (by decide) ?_
        obtain ⟨x36, h36, h⟩ := bi1e h
        refine callSI (As := [.int (a4), .int (0), .int (100)]) (rest := []) ⟨hx, hb, hml, hown, hts⟩ (c_X8_in l D ad cA n F G a4 0 100 h36) (va_cwS 3 hts gX8_thing_X8_in rfl rfl rfl (by decide +kernel) ⟨Nat.le_of_ble_eq_true rfl, Nat.le_of_ble_eq_true rfl⟩) hP hK hD hN hS hA rfl hl.1 rfl (Nat.le_of_ble_eq_true rfl) dX8_thing_36 ⟨Nat.zero_le _, Nat.zero_le _⟩ (fun H locs hP hD hS => ?_)
        refine lv_if_ne (tgt := 45) hx hb dX8_thing_39 (by decide) (fun c39 => ?_) (fun c39 => ?_)
        · replace h := ifn h c39
          refine lv_aload_n hx hb dX8_thing_45 rfl (lv_at hl 0 rfl) ?_
          refine va_get (D := D) (ci := 8) (fs := vX8 ad F) (v := .int ((F 15))) (C := RX8) (T := TX8) (N := 46) hx hb hts n_8 hown hK hP 0 wMg0 rfl 21 (by decide) k_0 (fun _ h9 => h9) rfl dX8_thing_46 ?_
          refine lv_bipush (v := 12) hx hb dX8_thing_49 (by decide) ?_
          refine lv_icmp_ne (tgt := 57) hx hb dX8_thing_51 (by decide) (fun c51 => ?_) (fun c51 => ?_)
          · replace h := ifn h c51
            refine lv_iconst (v := 5) hx hb dX8_thing_57 (by decide) ?_
            refine lv_aload_n hx hb dX8_thing_58 rfl (lv_at hl 0 rfl) ?_
            refine va_get (D := D) (ci := 8) (fs := vX8 ad F) (v := .int ((F 15))) (C := RX8) (T := TX8) (N := 46) hx hb hts n_8 hown hK hP 0 wMg0 rfl 21 (by decide) k_0 (fun _ h9 => h9) rfl dX8_thing_59 ?_
            refine lv_imul hx hb dX8_thing_62 ?_
            refine lv_topi (fun x63 ex63 => ?_)
            replace h := pl h ex63
            refine lv_istore (lv' := [(5, .int (x63)), (0, .ref (ad 0)), (1, .int (a1)), (2, .int (a2)), (3, .int (a3)), (4, .int (a4))]) hx hb dX8_thing_63 hl (by decide) rfl (fun ls hl => ?_)
            refine lv_aload_n hx hb dX8_thing_65 rfl (lv_at hl 1 rfl) ?_
            refine va_get (D := D) (ci := 8) (fs := vX8 ad F) (v := .ref (ad 7)) (C := RX8) (T := TX8) (N := 46) hx hb hts n_8 hown hK hP 0 wMg0 rfl 22 (by decide) k_2 (fun _ h9 => h9) rfl dX8_thing_66 ?_
            refine lv_iload hx hb dX8_thing_69 (lv_at hl 0 rfl) ?_
            refine lv_iload_n hx hb dX8_thing_71 rfl (lv_at hl 2 rfl) ?_
            obtain ⟨g72, h⟩ := og h
            obtain ⟨G72, eG72⟩ : ∃ z : tG, z = stG G 6 x63 a1 := ⟨_, rfl⟩
            replace h := pl h eG72
            refine va_iast (D := D) hx hb hK hP hD hS 7 0 wMg7 rfl (inB_in g72) dX8_thing_72 (fun H locs hP hD hS => ?_)
            rw [wMa6 eG72] at hP hD
            refine lv_aload_n hx hb dX8_thing_73 rfl (lv_at hl 1 rfl) ?_
            refine va_get (D := D) (ci := 8) (fs := vX8 ad F) (v := .ref (ad 7)) (C := RX8) (T := TX8) (N := 46) hx hb hts n_8 hown hK hP 0 wMg0 rfl 22 (by decide) k_2 (fun _ h9 => h9) rfl dX8_thing_74 ?_
            refine lv_iload hx hb dX8_thing_77 (lv_at hl 0 rfl) ?_
            refine lv_iconst (v := 1) hx hb dX8_thing_79 (by decide) ?_
            refine lv_iadd hx hb dX8_thing_80 ?_
            refine lv_iload_n hx hb dX8_thing_81 rfl (lv_at hl 3 rfl) ?_
            obtain ⟨g82, h⟩ := og h
            obtain ⟨G82, eG82⟩ : ∃ z : tG, z = stG G72 6 (x63 + 1) a2 := ⟨_, rfl⟩
            replace h := pl h eG82
            refine va_iast (D := D) hx hb hK hP hD hS 7 0 wMg7 rfl (inB_in g82) dX8_thing_82 (fun H locs hP hD hS => ?_)
            rw [wMa6 eG82] at hP hD
            refine lv_aload_n hx hb dX8_thing_83 rfl (lv_at hl 1 rfl) ?_
            refine va_get (D := D) (ci := 8) (fs := vX8 ad F) (v := .ref (ad 7)) (C := RX8) (T := TX8) (N := 46) hx hb hts n_8 hown hK hP 0 wMg0 rfl 22 (by decide) k_2 (fun _ h9 => h9) rfl dX8_thing_84 ?_
            refine lv_iload hx hb dX8_thing_87 (lv_at hl 0 rfl) ?_
            refine lv_iconst (v := 2) hx hb dX8_thing_89 (by decide) ?_
            refine lv_iadd hx hb dX8_thing_90 ?_
            refine lv_iload_n hx hb dX8_thing_91 rfl (lv_at hl 4 rfl) ?_
            obtain ⟨g92, h⟩ := og h
            obtain ⟨G92, eG92⟩ : ∃ z : tG, z = stG G82 6 (x63 + 2) a3 := ⟨_, rfl⟩
            replace h := pl h eG92
            refine va_iast (D := D) hx hb hK hP hD hS 7 0 wMg7 rfl (inB_in g92) dX8_thing_92 (fun H locs hP hD hS => ?_)
            rw [wMa6 eG92] at hP hD
            refine lv_aload_n hx hb dX8_thing_93 rfl (lv_at hl 1 rfl) ?_
            refine va_get (D := D) (ci := 8) (fs := vX8 ad F) (v := .ref (ad 7)) (C := RX8) (T := TX8) (N := 46) hx hb hts n_8 hown hK hP 0 wMg0 rfl 22 (by decide) k_2 (fun _ h9 => h9) rfl dX8_thing_94 ?_
            refine lv_iload hx hb dX8_thing_97 (lv_at hl 0 rfl) ?_
            refine lv_iconst (v := 3) hx hb dX8_thing_99 (by decide) ?_
            refine lv_iadd hx hb dX8_thing_100 ?_
            refine lv_iload hx hb dX8_thing_101 (lv_at hl 5 rfl) ?_
            obtain ⟨g103, h⟩ := og h
            obtain ⟨G103, eG103⟩ : ∃ z : tG, z = stG G92 6 (x63 + 3) a4 := ⟨_, rfl⟩
            replace h := pl h eG103
            refine va_iast (D := D) hx hb hK hP hD hS 7 0 wMg7 rfl (inB_in g103) dX8_thing_103 (fun H locs hP hD hS => ?_)
            rw [wMa6 eG103] at hP hD
            refine lv_aload_n hx hb dX8_thing_104 rfl (lv_at hl 1 rfl) ?_
            refine va_get (D := D) (ci := 8) (fs := vX8 ad F) (v := .ref (ad 7)) (C := RX8) (T := TX8) (N := 46) hx hb hts n_8 hown hK hP 0 wMg0 rfl 22 (by decide) k_2 (fun _ h9 => h9) rfl dX8_thing_105 ?_
            refine lv_iload hx hb dX8_thing_108 (lv_at hl 0 rfl) ?_
            refine lv_iconst (v := 4) hx hb dX8_thing_110 (by decide) ?_
            refine lv_iadd hx hb dX8_thing_111 ?_
            refine lv_iconst (v := 0) hx hb dX8_thing_112 (by decide) ?_
            obtain ⟨g113, h⟩ := og h
            obtain ⟨G113, eG113⟩ : ∃ z : tG, z = stG G103 6 (x63 + 4) 0 := ⟨_, rfl⟩
            replace h := pl h eG113
            refine va_iast (D := D) hx hb hK hP hD hS 7 0 wMg7 rfl (inB_in g113) dX8_thing_113 (fun H locs hP hD hS => ?_)
            rw [wMa6 eG113] at hP hD
            refine lv_aload_n hx hb dX8_thing_114 rfl (lv_at hl 1 rfl) ?_
            refine va_get (D := D) (ci := 8) (fs := vX8 ad F) (v := .ref (ad 8)) (C := RX8) (T := TX8) (N := 46) hx hb hts n_8 hown hK hP 0 wMg0 rfl 23 (by decide) k_3 (fun _ h9 => h9) rfl dX8_thing_115 ?_
            refine lv_aload_n hx hb dX8_thing_118 rfl (lv_at hl 1 rfl) ?_
            refine va_get (D := D) (ci := 8) (fs := vX8 ad F) (v := .int ((F 15))) (C := RX8) (T := TX8) (N := 46) hx hb hts n_8 hown hK hP 0 wMg0 rfl 21 (by decide) k_0 (fun _ h9 => h9) rfl dX8_thing_119 ?_
            refine lv_iconst (v := 0) hx hb dX8_thing_122 (by decide) ?_
            obtain ⟨g123, h⟩ := og h
            obtain ⟨G123, eG123⟩ : ∃ z : tG, z = stG G113 7 (F 15) 0 := ⟨_, rfl⟩
            replace h := pl h eG123
            refine va_iast (D := D) hx hb hK hP hD hS 8 0 wMg8 rfl (inB_in g123) dX8_thing_123 (fun H locs hP hD hS => ?_)
            rw [wMa7 eG123] at hP hD
            refine lv_aload_n hx hb dX8_thing_124 rfl (lv_at hl 1 rfl) ?_
            refine lv_dup hx hb dX8_thing_125 rfl ?_
            refine va_get (D := D) (ci := 8) (fs := vX8 ad F) (v := .int ((F 15))) (C := RX8) (T := TX8) (N := 46) hx hb hts n_8 hown hK hP 0 wMg0 rfl 21 (by decide) k_0 (fun _ h9 => h9) rfl dX8_thing_126 ?_
            refine lv_iconst (v := 1) hx hb dX8_thing_129 (by decide) ?_
            refine lv_iadd hx hb dX8_thing_130 ?_
            obtain ⟨F131, eF131⟩ : ∃ f : tF, f = upd F 15 ((F 15) + 1) := ⟨_, rfl⟩
            replace h := pl h eF131
            refine va_put (D := D) (ci := 8) (fs := vX8 ad F) (v := .int (((F 15) + 1))) (ty := .int) (C := RX8) (T := TX8) (N := 46) hx hb hts n_8 tyX8 tyX8_ok nmX8 hown hK hP hD hS 0 wMg0 rfl 21 (by decide) k_0 (fun _ h9 => h9) rfl (tyX8_ok 21 (by decide)) rfl rfl (Nat.le_of_ble_eq_true rfl) dX8_thing_131 (fun H locs hP hD hS => ?_)
            rw [wMp15 eF131] at hP hD
            refine lv_aload_n hx hb dX8_thing_134 rfl (lv_at hl 1 rfl) ?_
            refine va_get (D := D) (ci := 8) (fs := vX8 ad F131) (v := .int ((F131 15))) (C := RX8) (T := TX8) (N := 46) hx hb hts n_8 hown hK hP 0 wMg0 rfl 21 (by decide) k_0 (fun _ h9 => h9) rfl dX8_thing_135 ?_
            refine lv_iconst (v := 1) hx hb dX8_thing_138 (by decide) ?_
            refine lv_isub hx hb dX8_thing_139 ?_
            exact hret _ _ _ _ _ _ _ dX8_thing_140 h hP hD hS
          · replace h := ifp h c51
            refine lv_bipush (v := (-4)) hx hb dX8_thing_54 (by decide) ?_
            exact hret _ _ _ _ _ _ _ dX8_thing_56 h hP hD hS
        · replace h := ifp h c39
          refine lv_bipush (v := (-2)) hx hb dX8_thing_42 (by decide) ?_
          exact hret _ _ _ _ _ _ _ dX8_thing_44 h hP hD hS
  · replace h := ifp h c4
    refine lv_iconst (v := (-1)) hx hb dX8_thing_7 (by decide) ?_
    exact hret _ _ _ _ _ _ _ dX8_thing_8 h hP hD hS

def p_X8_tide (F : tF) (G : tG) (a1 : Int32) : Option (Int32 × tF × tG) :=
  bi1 (p_X8_in a1 1 300) (fun x5 => (if x5 = 0 then some ((-2), F, G) else (if (F 18) = 5 then some ((-4), F, G) else oguard (inB (F 18) 5) (plet (stG G 8 (F 18) a1) (fun (G34 : tG) => plet (upd F 18 ((F 18) + 1)) (fun (F42 : tF) => some ((F42 18), F42, G34)))))))
set_option maxHeartbeats 4000000 in
set_option maxRecDepth 100000 in
theorem c_X8_tide (l : Launch) (D : va_G) (ad : Nat → Nat) (cA : ClassId) (n : Nat) (F : tF) (G : tG) (a1 : Int32) {r : Int32} {F' : tF} {G' : tG} (h : p_X8_tide F G a1 = some (r, F', G')) : CI l yX8_tide wsX8_tide ({ frames := 1, cells := 0, slots := 0, locals := 22 } : Room) D cA (wM ad cA F G) [.ref (ad 0), .int (a1)] r (wM ad cA F' G') := by
  rw [p_X8_tide] at h
  refine metIm (w := wM ad cA) (cc := cX8_tide) (maxL := 2) (by decide) rfl (Nat.le_of_ble_eq_true rfl) ?_
  intro p e s m args below meth c A ls Q hE hret
  obtain ⟨hx, hb, hts, hown, hml, hP, hK, hD, hN, hA, hl⟩ := hE
  have hown : s.vm.findClass RX8 = some m.cls := hown
  have hl : lv_has ls 2 [(0, .ref (ad 0)), (1, .int (a1))] := hl
  have hS : va_S A s.heap s.heap [] := va_S.rf
  have k_0 : (Cond.fieldLink RX8 182 "BellBookModel" "tides" "I").before args s = true := hts _ (List.mem_of_getElem? (i := 1) rfl)
  have n_8 : ∀ w ∈ u_ws RX8 TX8 46, w ∈ wsX8_tide := fun w hw => List.mem_cons_of_mem _ (List.mem_append_right _ hw)
  have k_2 : (Cond.fieldLink RX8 56 "BellBookModel" "tide" "[I").before args s = true := hts _ (List.mem_of_getElem? (i := 2) rfl)
  refine lv_iload_n hx hb dX8_tide_0 rfl (lv_at hl 1 rfl) ?_
  refine lv_iconst (v := 1) hx hb dX8_tide_1 (by decide) ?_
  refine lv_sipush (v := 300) hx hb dX8_tide_2 (by decide) ?_
  obtain ⟨x5, h5, h⟩ := bi1e h
  refine callSI (As := [.int (a1), .int (1), .int (300)]) (rest := []) ⟨hx, hb, hml, hown, hts⟩ (c_X8_in l D ad cA n F G a1 1 300 h5) (va_cwS 3 hts gX8_tide_X8_in rfl rfl rfl (by decide +kernel) ⟨Nat.le_of_ble_eq_true rfl, Nat.le_of_ble_eq_true rfl⟩) hP hK hD hN hS hA rfl hl.1 rfl (Nat.le_of_ble_eq_true rfl) dX8_tide_5 ⟨Nat.zero_le _, Nat.zero_le _⟩ (fun H locs hP hD hS => ?_)
  refine lv_if_ne (tgt := 14) hx hb dX8_tide_8 (by decide) (fun c8 => ?_) (fun c8 => ?_)
  · replace h := ifn h c8
    refine lv_aload_n hx hb dX8_tide_14 rfl (lv_at hl 0 rfl) ?_
    refine va_get (D := D) (ci := 8) (fs := vX8 ad F) (v := .int ((F 18))) (C := RX8) (T := TX8) (N := 46) hx hb hts n_8 hown hK hP 0 wMg0 rfl 26 (by decide) k_0 (fun _ h9 => h9) rfl dX8_tide_15 ?_
    refine lv_iconst (v := 5) hx hb dX8_tide_18 (by decide) ?_
    refine lv_icmp_ne (tgt := 25) hx hb dX8_tide_19 (by decide) (fun c19 => ?_) (fun c19 => ?_)
    · replace h := ifn h c19
      refine lv_aload_n hx hb dX8_tide_25 rfl (lv_at hl 0 rfl) ?_
      refine va_get (D := D) (ci := 8) (fs := vX8 ad F) (v := .ref (ad 9)) (C := RX8) (T := TX8) (N := 46) hx hb hts n_8 hown hK hP 0 wMg0 rfl 27 (by decide) k_2 (fun _ h9 => h9) rfl dX8_tide_26 ?_
      refine lv_aload_n hx hb dX8_tide_29 rfl (lv_at hl 0 rfl) ?_
      refine va_get (D := D) (ci := 8) (fs := vX8 ad F) (v := .int ((F 18))) (C := RX8) (T := TX8) (N := 46) hx hb hts n_8 hown hK hP 0 wMg0 rfl 26 (by decide) k_0 (fun _ h9 => h9) rfl dX8_tide_30 ?_
      refine lv_iload_n hx hb dX8_tide_33 rfl (lv_at hl 1 rfl) ?_
      obtain ⟨g34, h⟩ := og h
      obtain ⟨G34, eG34⟩ : ∃ z : tG, z = stG G 8 (F 18) a1 := ⟨_, rfl⟩
      replace h := pl h eG34
      refine va_iast (D := D) hx hb hK hP hD hS 9 0 wMg9 rfl (inB_in g34) dX8_tide_34 (fun H locs hP hD hS => ?_)
      rw [wMa8 eG34] at hP hD
      refine lv_aload_n hx hb dX8_tide_35 rfl (lv_at hl 0 rfl) ?_
      refine lv_dup hx hb dX8_tide_36 rfl ?_
      refine va_get (D := D) (ci := 8) (fs := vX8 ad F) (v := .int ((F 18))) (C := RX8) (T := TX8) (N := 46) hx hb hts n_8 hown hK hP 0 wMg0 rfl 26 (by decide) k_0 (fun _ h9 => h9) rfl dX8_tide_37 ?_
      refine lv_iconst (v := 1) hx hb dX8_tide_40 (by decide) ?_
      refine lv_iadd hx hb dX8_tide_41 ?_
      obtain ⟨F42, eF42⟩ : ∃ f : tF, f = upd F 18 ((F 18) + 1) := ⟨_, rfl⟩
      replace h := pl h eF42
      refine va_put (D := D) (ci := 8) (fs := vX8 ad F) (v := .int (((F 18) + 1))) (ty := .int) (C := RX8) (T := TX8) (N := 46) hx hb hts n_8 tyX8 tyX8_ok nmX8 hown hK hP hD hS 0 wMg0 rfl 26 (by decide) k_0 (fun _ h9 => h9) rfl (tyX8_ok 26 (by decide)) rfl rfl (Nat.le_of_ble_eq_true rfl) dX8_tide_42 (fun H locs hP hD hS => ?_)
      rw [wMp18 eF42] at hP hD
      refine lv_aload_n hx hb dX8_tide_45 rfl (lv_at hl 0 rfl) ?_
      refine va_get (D := D) (ci := 8) (fs := vX8 ad F42) (v := .int ((F42 18))) (C := RX8) (T := TX8) (N := 46) hx hb hts n_8 hown hK hP 0 wMg0 rfl 26 (by decide) k_0 (fun _ h9 => h9) rfl dX8_tide_46 ?_
      exact hret _ _ _ _ _ _ _ dX8_tide_49 h hP hD hS
    · replace h := ifp h c19
      refine lv_bipush (v := (-4)) hx hb dX8_tide_22 (by decide) ?_
      exact hret _ _ _ _ _ _ _ dX8_tide_24 h hP hD hS
  · replace h := ifp h c8
    refine lv_bipush (v := (-2)) hx hb dX8_tide_11 (by decide) ?_
    exact hret _ _ _ _ _ _ _ dX8_tide_13 h hP hD hS

def p_X8_tideOf (n : Nat) (F : tF) (G : tG) (a1 : Int32) : Option (Int32 × tF × tG) :=
  bi2 (p_X8_layBest n F G) (fun F1 G1 => bi1 (p_X8_in a1 0 ((F1 22) - 1)) (fun x12 => bi1 ((if x12 = 0 then some ((-6)) else oguard (inB a1 12) (some ((G1 18 a1.toNatClampNeg))))) (fun (y15_0 : Int32) => some (y15_0, F1, G1))))
set_option maxHeartbeats 4000000 in
set_option maxRecDepth 100000 in
theorem c_X8_tideOf (l : Launch) (D : va_G) (ad : Nat → Nat) (cA : ClassId) (n : Nat) (F : tF) (G : tG) (a1 : Int32) {r : Int32} {F' : tF} {G' : tG} (h : p_X8_tideOf n F G a1 = some (r, F', G')) : CI l yX8_tideOf wsX8_tideOf ({ frames := 4, cells := 0, slots := 0, locals := 98 } : Room) D cA (wM ad cA F G) [.ref (ad 0), .int (a1)] r (wM ad cA F' G') := by
  rw [p_X8_tideOf] at h
  refine metIm (w := wM ad cA) (cc := cX8_tideOf) (maxL := 2) (by decide) rfl (Nat.le_of_ble_eq_true rfl) ?_
  intro p e s m args below meth c A ls Q hE hret
  obtain ⟨hx, hb, hts, hown, hml, hP, hK, hD, hN, hA, hl⟩ := hE
  have hown : s.vm.findClass RX8 = some m.cls := hown
  have hl : lv_has ls 2 [(0, .ref (ad 0)), (1, .int (a1))] := hl
  have hS : va_S A s.heap s.heap [] := va_S.rf
  have k_0 : (Cond.fieldLink RX8 205 "BellBookModel" "many" "I").before args s = true := hts _ (List.mem_of_getElem? (i := 1) rfl)
  have n_8 : ∀ w ∈ u_ws RX8 TX8 46, w ∈ wsX8_tideOf := fun w hw => List.mem_cons_of_mem _ (List.mem_append_right _ hw)
  have k_2 : (Cond.fieldLink RX8 86 "BellBookModel" "inTide" "[I").before args s = true := hts _ (List.mem_of_getElem? (i := 2) rfl)
  refine lv_aload_n hx hb dX8_tideOf_0 rfl (lv_at hl 0 rfl) ?_
  obtain ⟨F1, G1, h1, h⟩ := bi2e h
  refine callVV (b := ad 0) (As := []) (rest := []) ⟨hx, hb, hml, hown, hts⟩ (c_X8_layBest l D ad cA n F G h1) (cwV 0 hts gX8_tideOf_X8_layBest rfl rfl rfl (by decide +kernel) ⟨Nat.le_of_ble_eq_true rfl, Nat.le_of_ble_eq_true rfl⟩) (va_recv hK hP (ci := 8) (q0 := 0) rfl wMg0) hP hK hD hN hS hA rfl hl.1 rfl (Nat.le_of_ble_eq_true rfl) dX8_tideOf_1 ⟨Nat.zero_le _, Nat.zero_le _⟩ (fun H locs hP hD hS => ?_)
  refine lv_iload_n hx hb dX8_tideOf_4 rfl (lv_at hl 1 rfl) ?_
  refine lv_iconst (v := 0) hx hb dX8_tideOf_5 (by decide) ?_
  refine lv_aload_n hx hb dX8_tideOf_6 rfl (lv_at hl 0 rfl) ?_
  refine va_get (D := D) (ci := 8) (fs := vX8 ad F1) (v := .int ((F1 22))) (C := RX8) (T := TX8) (N := 46) hx hb hts n_8 hown hK hP 0 wMg0 rfl 39 (by decide) k_0 (fun _ h9 => h9) rfl dX8_tideOf_7 ?_
  refine lv_iconst (v := 1) hx hb dX8_tideOf_10 (by decide) ?_
  refine lv_isub hx hb dX8_tideOf_11 ?_
  obtain ⟨x12, h12, h⟩ := bi1e h
  refine callSI (As := [.int (a1), .int (0), .int (((F1 22) - 1))]) (rest := []) ⟨hx, hb, hml, hown, hts⟩ (c_X8_in l D ad cA n F1 G1 a1 0 ((F1 22) - 1) h12) (va_cwS 3 hts gX8_tideOf_X8_in rfl rfl rfl (by decide +kernel) ⟨Nat.le_of_ble_eq_true rfl, Nat.le_of_ble_eq_true rfl⟩) hP hK hD hN hS hA rfl hl.1 rfl (Nat.le_of_ble_eq_true rfl) dX8_tideOf_12 ⟨Nat.zero_le _, Nat.zero_le _⟩ (fun H locs hP hD hS => ?_)
  obtain ⟨y15_0, q15, h⟩ := bi1e h
  have J15 : ∀ (wy15_0 : Int32), some (wy15_0) = some (y15_0) → ∀ (H : Heap) (locs : List Loc) (ls : Array Slot), va_P D vwCl (wM ad cA F1 G1) H → va_D A (wM ad cA F1 G1) → va_S A s.heap H locs → lv_has ls 2 [(0, .ref (ad 0)), (1, .int (a1))] → W p l e ({ frames := 4, cells := 0, slots := 0, locals := 98 } : Room) s m args below meth c H locs 0 0 Q (F0 m 29 ls [.int (wy15_0)]) := by
    intro wy15_0 e9 H locs ls hP hD hS hl
    cases e9
    exact hret _ _ _ _ _ _ _ dX8_tideOf_29 h hP hD hS
  refine lv_if_eq (tgt := 27) hx hb dX8_tideOf_15 (by decide) (fun c15 => ?_) (fun c15 => ?_)
  · replace q15 := ifp q15 c15
    refine lv_bipush (v := (-6)) hx hb dX8_tideOf_27 (by decide) ?_
    exact J15 _ q15 _ _ _ hP hD hS (lv_sub hl [0, 1] rfl)
  · replace q15 := ifn q15 c15
    refine lv_aload_n hx hb dX8_tideOf_18 rfl (lv_at hl 0 rfl) ?_
    refine va_get (D := D) (ci := 8) (fs := vX8 ad F1) (v := .ref (ad 19)) (C := RX8) (T := TX8) (N := 46) hx hb hts n_8 hown hK hP 0 wMg0 rfl 41 (by decide) k_2 (fun _ h9 => h9) rfl dX8_tideOf_19 ?_
    refine lv_iload_n hx hb dX8_tideOf_22 rfl (lv_at hl 1 rfl) ?_
    obtain ⟨g23, q15⟩ := og q15
    refine va_iald (D := D) hx hb hK hP 19 0 wMg19 rfl (inB_in g23) dX8_tideOf_23 ?_
    refine lv_goto (tgt := 29) hx hb dX8_tideOf_24 (by decide) ?_
    exact J15 _ q15 _ _ _ hP hD hS (lv_sub hl [0, 1] rfl)

def p_X8_tight_L13 (G : tG) (z5_0 : Int32) (K13 : Int32 → Int32 → Option (Int32)) : Nat → Int32 → Int32 → Option (Int32)
  | 0, _, _ => none
  | k13 + 1, z13_0, z13_1 => (if z5_0 ≤ z13_0 then K13 z13_0 z13_1 else oguard (inB z5_0 12) (bi1 ((if (G 9 z5_0.toNatClampNeg) ≤ 0 then some (z13_1) else oguard (inB z13_0 12) ((if (G 9 z13_0.toNatClampNeg) ≤ 0 then some (z13_1) else oguard (inB z13_0 12) (oguard (inB z13_0 12) (bi1 (p_X8_apart G z5_0 (G 9 z13_0.toNatClampNeg) (G 10 z13_0.toNatClampNeg)) (fun x50 => bi1 ((if z13_1 < 0 then some (x50) else (if z13_1 ≤ x50 then some (z13_1) else some (x50)))) (fun (y56_0 : Int32) => some (y56_0))))))))) (fun (y24_0 : Int32) => plet (z13_0 + 1) (fun (x72 : Int32) => p_X8_tight_L13 G z5_0 K13 k13 x72 y24_0))))
theorem p_X8_tight_L13_k {G : tG} {z5_0 : Int32} {K0 : Int32 → Int32 → Option (Int32)} {k : Nat} {z13_0 : Int32} {z13_1 : Int32} {x : Int32} (h : p_X8_tight_L13 G z5_0 K0 k z13_0 z13_1 = some x) : ∃ K, K = K0 ∧ p_X8_tight_L13 G z5_0 K k z13_0 z13_1 = some x := ⟨K0, rfl, h⟩
def p_X8_tight_L5 (n : Nat) (G : tG) (K5 : Int32 → Int32 → Option (Int32)) : Nat → Int32 → Int32 → Option (Int32)
  | 0, _, _ => none
  | k5 + 1, z5_0, z5_1 => (if 12 ≤ z5_0 then K5 z5_0 z5_1 else p_X8_tight_L13 G z5_0 (fun (z13_0 : Int32) (z13_1 : Int32) => plet (z5_0 + 1) (fun (x78 : Int32) => p_X8_tight_L5 n G K5 k5 x78 z13_1)) n 0 z5_1)
theorem p_X8_tight_L5_k {n : Nat} {G : tG} {K0 : Int32 → Int32 → Option (Int32)} {k : Nat} {z5_0 : Int32} {z5_1 : Int32} {x : Int32} (h : p_X8_tight_L5 n G K0 k z5_0 z5_1 = some x) : ∃ K, K = K0 ∧ p_X8_tight_L5 n G K k z5_0 z5_1 = some x := ⟨K0, rfl, h⟩
def p_X8_tight (n : Nat) (G : tG) : Option (Int32) :=
  p_X8_tight_L5 n G (fun (z5_0 : Int32) (z5_1 : Int32) => some z5_1) n 0 (-6)
set_option maxHeartbeats 4000000 in
set_option maxRecDepth 100000 in
theorem c_X8_tight (l : Launch) (D : va_G) (ad : Nat → Nat) (cA : ClassId) (n : Nat) (F : tF) (G : tG) {r : Int32} (h : p_X8_tight n G = some r) : CI l yX8_tight wsX8_tight ({ frames := 2, cells := 0, slots := 0, locals := 43 } : Room) D cA (wM ad cA F G) [.ref (ad 0)] r (wM ad cA F G) := by
  rw [p_X8_tight] at h
  refine metIr (w := wM ad cA) (cc := cX8_tight) (maxL := 5) (by decide) rfl (Nat.le_of_ble_eq_true rfl) ?_
  intro p e s m args below meth c A ls Q hE hret
  obtain ⟨hx, hb, hts, hown, hml, hP, hK, hD, hN, hA, hl⟩ := hE
  have hown : s.vm.findClass RX8 = some m.cls := hown
  have hl : lv_has ls 5 [(0, .ref (ad 0))] := hl
  have hS : va_S A s.heap s.heap [] := va_S.rf
  have k_0 : (Cond.fieldLink RX8 59 "BellBookModel" "tugsA" "[I").before args s = true := hts _ (List.mem_of_getElem? (i := 1) rfl)
  have n_8 : ∀ w ∈ u_ws RX8 TX8 46, w ∈ wsX8_tight := fun w hw => List.mem_cons_of_mem _ (List.mem_append_right _ hw)
  have k_2 : (Cond.fieldLink RX8 62 "BellBookModel" "tugsB" "[I").before args s = true := hts _ (List.mem_of_getElem? (i := 2) rfl)
  refine lv_bipush (v := (-6)) hx hb dX8_tight_0 (by decide) ?_
  refine lv_istore_n (lv' := [(1, .int ((-6))), (0, .ref (ad 0))]) hx hb dX8_tight_2 rfl hl (by decide) rfl (fun ls hl => ?_)
  refine lv_iconst (v := 0) hx hb dX8_tight_3 (by decide) ?_
  refine lv_istore_n (lv' := [(2, .int (0)), (1, .int ((-6))), (0, .ref (ad 0))]) hx hb dX8_tight_4 rfl hl (by decide) rfl (fun ls hl => ?_)
  obtain ⟨K5, eK5, h⟩ := p_X8_tight_L5_k h
  have JE5 : ∀ (z5_0 : Int32) (z5_1 : Int32) (H : Heap) (locs : List Loc) (ls : Array Slot), K5 z5_0 z5_1 = some r → va_P D vwCl (wM ad cA F G) H → va_D A (wM ad cA F G) → va_S A s.heap H locs → lv_has ls 5 [(2, .int (z5_0)), (1, .int (z5_1)), (0, .ref (ad 0))] → W p l e ({ frames := 2, cells := 0, slots := 0, locals := 43 } : Room) s m args below meth c H locs 0 0 Q (F0 m 84 ls []) := by
    intro z5_0 z5_1 H locs ls h hP hD hS hl
    rw [eK5] at h
    refine lv_iload_n hx hb dX8_tight_84 rfl (lv_at hl 1 rfl) ?_
    exact hret _ _ _ _ _ dX8_tight_85 h hP hD hS
  have LL5 : ∀ (k : Nat) (z5_0 : Int32) (z5_1 : Int32) (H : Heap) (locs : List Loc) (ls : Array Slot), p_X8_tight_L5 n G K5 k z5_0 z5_1 = some r → va_P D vwCl (wM ad cA F G) H → va_D A (wM ad cA F G) → va_S A s.heap H locs → lv_has ls 5 [(2, .int (z5_0)), (1, .int (z5_1)), (0, .ref (ad 0))] → W p l e ({ frames := 2, cells := 0, slots := 0, locals := 43 } : Room) s m args below meth c H locs 0 0 Q (F0 m 5 ls []) := by
    intro k
    induction k with
    | zero =>
      intro z5_0 z5_1 H locs ls h hP hD hS hl
      rw [p_X8_tight_L5] at h
      cases h
    | succ k5 ih5 =>
      intro z5_0 z5_1 H locs ls h hP hD hS hl
      rw [p_X8_tight_L5] at h
      refine lv_iload_n hx hb dX8_tight_5 rfl (lv_at hl 0 rfl) ?_
      refine lv_bipush (v := 12) hx hb dX8_tight_6 (by decide) ?_
      refine lv_icmp_ge (tgt := 84) hx hb dX8_tight_8 (by decide) (fun c8 => ?_) (fun c8 => ?_)
      · replace h := ifp h c8
        exact JE5 _ _ _ _ _ h hP hD hS (lv_sub hl [0, 1, 2] rfl)
      · replace h := ifn h c8
        refine lv_iconst (v := 0) hx hb dX8_tight_11 (by decide) ?_
        refine lv_istore_n (lv' := [(3, .int (0)), (2, .int (z5_0)), (1, .int (z5_1)), (0, .ref (ad 0))]) hx hb dX8_tight_12 rfl hl (by decide) rfl (fun ls hl => ?_)
        obtain ⟨K13, eK13, h⟩ := p_X8_tight_L13_k h
        have JE13 : ∀ (z13_0 : Int32) (z13_1 : Int32) (H : Heap) (locs : List Loc) (ls : Array Slot), K13 z13_0 z13_1 = some r → va_P D vwCl (wM ad cA F G) H → va_D A (wM ad cA F G) → va_S A s.heap H locs → lv_has ls 5 [(3, .int (z13_0)), (2, .int (z5_0)), (1, .int (z13_1)), (0, .ref (ad 0))] → W p l e ({ frames := 2, cells := 0, slots := 0, locals := 43 } : Room) s m args below meth c H locs 0 0 Q (F0 m 78 ls []) := by
          intro z13_0 z13_1 H locs ls h hP hD hS hl
          rw [eK13] at h
          obtain ⟨x78, ex78⟩ : ∃ z : Int32, z = (z5_0 + 1) := ⟨_, rfl⟩
          replace h := pl h ex78
          refine lv_iinc (v := x78) (lv' := [(2, .int (x78)), (3, .int (z13_0)), (1, .int (z13_1)), (0, .ref (ad 0))]) hx hb dX8_tight_78 hl (k := 1) rfl (by rw [ex78]; rfl) (by decide) rfl (fun ls hl => ?_)
          refine lv_goto (tgt := 5) hx hb dX8_tight_81 (by decide) ?_
          exact ih5 _ _ _ _ _ h hP hD hS (lv_sub hl [0, 2, 3] rfl)
        have LL13 : ∀ (k : Nat) (z13_0 : Int32) (z13_1 : Int32) (H : Heap) (locs : List Loc) (ls : Array Slot), p_X8_tight_L13 G z5_0 K13 k z13_0 z13_1 = some r → va_P D vwCl (wM ad cA F G) H → va_D A (wM ad cA F G) → va_S A s.heap H locs → lv_has ls 5 [(3, .int (z13_0)), (2, .int (z5_0)), (1, .int (z13_1)), (0, .ref (ad 0))] → W p l e ({ frames := 2, cells := 0, slots := 0, locals := 43 } : Room) s m args below meth c H locs 0 0 Q (F0 m 13 ls []) := by
          intro k
          induction k with
          | zero =>
            intro z13_0 z13_1 H locs ls h hP hD hS hl
            rw [p_X8_tight_L13] at h
            cases h
          | succ k13 ih13 =>
            intro z13_0 z13_1 H locs ls h hP hD hS hl
            rw [p_X8_tight_L13] at h
            refine lv_iload_n hx hb dX8_tight_13 rfl (lv_at hl 0 rfl) ?_
            refine lv_iload_n hx hb dX8_tight_14 rfl (lv_at hl 1 rfl) ?_
            refine lv_icmp_ge (tgt := 78) hx hb dX8_tight_15 (by decide) (fun c15 => ?_) (fun c15 => ?_)
            · replace h := ifp h c15
              exact JE13 _ _ _ _ _ h hP hD hS (lv_sub hl [0, 1, 2, 3] rfl)
            · replace h := ifn h c15
              refine lv_aload_n hx hb dX8_tight_18 rfl (lv_at hl 3 rfl) ?_
              refine va_get (D := D) (ci := 8) (fs := vX8 ad F) (v := .ref (ad 10)) (C := RX8) (T := TX8) (N := 46) hx hb hts n_8 hown hK hP 0 wMg0 rfl 28 (by decide) k_0 (fun _ h9 => h9) rfl dX8_tight_19 ?_
              refine lv_iload_n hx hb dX8_tight_22 rfl (lv_at hl 1 rfl) ?_
              obtain ⟨g23, h⟩ := og h
              refine va_iald (D := D) hx hb hK hP 10 0 wMg10 rfl (inB_in g23) dX8_tight_23 ?_
              obtain ⟨y24_0, q24, h⟩ := bi1e h
              have J24 : ∀ (wy24_0 : Int32), some (wy24_0) = some (y24_0) → ∀ (H : Heap) (locs : List Loc) (ls : Array Slot), va_P D vwCl (wM ad cA F G) H → va_D A (wM ad cA F G) → va_S A s.heap H locs → lv_has ls 5 [(3, .int (z13_0)), (2, .int (z5_0)), (1, .int (wy24_0)), (0, .ref (ad 0))] → W p l e ({ frames := 2, cells := 0, slots := 0, locals := 43 } : Room) s m args below meth c H locs 0 0 Q (F0 m 72 ls []) := by
                intro wy24_0 e9 H locs ls hP hD hS hl
                cases e9
                obtain ⟨x72, ex72⟩ : ∃ z : Int32, z = (z13_0 + 1) := ⟨_, rfl⟩
                replace h := pl h ex72
                refine lv_iinc (v := x72) (lv' := [(3, .int (x72)), (2, .int (z5_0)), (1, .int (y24_0)), (0, .ref (ad 0))]) hx hb dX8_tight_72 hl (k := 0) rfl (by rw [ex72]; rfl) (by decide) rfl (fun ls hl => ?_)
                refine lv_goto (tgt := 13) hx hb dX8_tight_75 (by decide) ?_
                exact ih13 _ _ _ _ _ h hP hD hS (lv_sub hl [0, 1, 2, 3] rfl)
              refine lv_if_le (tgt := 72) hx hb dX8_tight_24 (by decide) (fun c24 => ?_) (fun c24 => ?_)
              · replace q24 := ifp q24 c24
                exact J24 _ q24 _ _ _ hP hD hS (lv_sub hl [0, 1, 2, 3] rfl)
              · replace q24 := ifn q24 c24
                refine lv_aload_n hx hb dX8_tight_27 rfl (lv_at hl 3 rfl) ?_
                refine va_get (D := D) (ci := 8) (fs := vX8 ad F) (v := .ref (ad 10)) (C := RX8) (T := TX8) (N := 46) hx hb hts n_8 hown hK hP 0 wMg0 rfl 28 (by decide) k_0 (fun _ h9 => h9) rfl dX8_tight_28 ?_
                refine lv_iload_n hx hb dX8_tight_31 rfl (lv_at hl 0 rfl) ?_
                obtain ⟨g32, q24⟩ := og q24
                refine va_iald (D := D) hx hb hK hP 10 0 wMg10 rfl (inB_in g32) dX8_tight_32 ?_
                refine lv_if_le (tgt := 72) hx hb dX8_tight_33 (by decide) (fun c33 => ?_) (fun c33 => ?_)
                · replace q24 := ifp q24 c33
                  exact J24 _ q24 _ _ _ hP hD hS (lv_sub hl [0, 1, 2, 3] rfl)
                · replace q24 := ifn q24 c33
                  refine lv_aload_n hx hb dX8_tight_36 rfl (lv_at hl 3 rfl) ?_
                  refine lv_iload_n hx hb dX8_tight_37 rfl (lv_at hl 1 rfl) ?_
                  refine lv_aload_n hx hb dX8_tight_38 rfl (lv_at hl 3 rfl) ?_
                  refine va_get (D := D) (ci := 8) (fs := vX8 ad F) (v := .ref (ad 10)) (C := RX8) (T := TX8) (N := 46) hx hb hts n_8 hown hK hP 0 wMg0 rfl 28 (by decide) k_0 (fun _ h9 => h9) rfl dX8_tight_39 ?_
                  refine lv_iload_n hx hb dX8_tight_42 rfl (lv_at hl 0 rfl) ?_
                  obtain ⟨g43, q24⟩ := og q24
                  refine va_iald (D := D) hx hb hK hP 10 0 wMg10 rfl (inB_in g43) dX8_tight_43 ?_
                  refine lv_aload_n hx hb dX8_tight_44 rfl (lv_at hl 3 rfl) ?_
                  refine va_get (D := D) (ci := 8) (fs := vX8 ad F) (v := .ref (ad 11)) (C := RX8) (T := TX8) (N := 46) hx hb hts n_8 hown hK hP 0 wMg0 rfl 29 (by decide) k_2 (fun _ h9 => h9) rfl dX8_tight_45 ?_
                  refine lv_iload_n hx hb dX8_tight_48 rfl (lv_at hl 0 rfl) ?_
                  obtain ⟨g49, q24⟩ := og q24
                  refine va_iald (D := D) hx hb hK hP 11 0 wMg11 rfl (inB_in g49) dX8_tight_49 ?_
                  obtain ⟨x50, h50, q24⟩ := bi1e q24
                  refine callVI (b := ad 0) (As := [.int (z5_0), .int ((G 9 z13_0.toNatClampNeg)), .int ((G 10 z13_0.toNatClampNeg))]) (rest := []) ⟨hx, hb, hml, hown, hts⟩ (c_X8_apart l D ad cA n F G z5_0 (G 9 z13_0.toNatClampNeg) (G 10 z13_0.toNatClampNeg) h50) (cwV 3 hts gX8_tight_X8_apart rfl rfl rfl (by decide +kernel) ⟨Nat.le_of_ble_eq_true rfl, Nat.le_of_ble_eq_true rfl⟩) (va_recv hK hP (ci := 8) (q0 := 0) rfl wMg0) hP hK hD hN hS hA rfl hl.1 rfl (Nat.le_of_ble_eq_true rfl) dX8_tight_50 ⟨Nat.zero_le _, Nat.zero_le _⟩ (fun H locs hP hD hS => ?_)
                  refine lv_istore (lv' := [(4, .int (x50)), (3, .int (z13_0)), (2, .int (z5_0)), (1, .int (z13_1)), (0, .ref (ad 0))]) hx hb dX8_tight_53 hl (by decide) rfl (fun ls hl => ?_)
                  refine lv_iload_n hx hb dX8_tight_55 rfl (lv_at hl 3 rfl) ?_
                  obtain ⟨y56_0, q56, q24⟩ := bi1e q24
                  have J56 : ∀ (wy56_0 : Int32), some (wy56_0) = some (y56_0) → ∀ (H : Heap) (locs : List Loc) (ls : Array Slot), va_P D vwCl (wM ad cA F G) H → va_D A (wM ad cA F G) → va_S A s.heap H locs → lv_has ls 5 [(4, .int (x50)), (3, .int (z13_0)), (2, .int (z5_0)), (1, .int (z13_1)), (0, .ref (ad 0))] → W p l e ({ frames := 2, cells := 0, slots := 0, locals := 43 } : Room) s m args below meth c H locs 0 0 Q (F0 m 71 ls [.int (wy56_0)]) := by
                    intro wy56_0 e9 H locs ls hP hD hS hl
                    cases e9
                    refine lv_istore_n (lv' := [(1, .int (y56_0)), (4, .int (x50)), (3, .int (z13_0)), (2, .int (z5_0)), (0, .ref (ad 0))]) hx hb dX8_tight_71 rfl hl (by decide) rfl (fun ls hl => ?_)
                    exact J24 _ q24 _ _ _ hP hD hS (lv_sub hl [2, 3, 0, 4] rfl)
                  refine lv_if_lt (tgt := 65) hx hb dX8_tight_56 (by decide) (fun c56 => ?_) (fun c56 => ?_)
                  · replace q56 := ifp q56 c56
                    refine lv_iload hx hb dX8_tight_65 (lv_at hl 0 rfl) ?_
                    refine lv_goto (tgt := 71) hx hb dX8_tight_67 (by decide) ?_
                    exact J56 _ q56 _ _ _ hP hD hS (lv_sub hl [0, 1, 2, 3, 4] rfl)
                  · replace q56 := ifn q56 c56
                    refine lv_iload hx hb dX8_tight_59 (lv_at hl 0 rfl) ?_
                    refine lv_iload_n hx hb dX8_tight_61 rfl (lv_at hl 3 rfl) ?_
                    refine lv_icmp_ge (tgt := 70) hx hb dX8_tight_62 (by decide) (fun c62 => ?_) (fun c62 => ?_)
                    · replace q56 := ifp q56 c62
                      refine lv_iload_n hx hb dX8_tight_70 rfl (lv_at hl 3 rfl) ?_
                      exact J56 _ q56 _ _ _ hP hD hS (lv_sub hl [0, 1, 2, 3, 4] rfl)
                    · replace q56 := ifn q56 c62
                      refine lv_iload hx hb dX8_tight_65 (lv_at hl 0 rfl) ?_
                      refine lv_goto (tgt := 71) hx hb dX8_tight_67 (by decide) ?_
                      exact J56 _ q56 _ _ _ hP hD hS (lv_sub hl [0, 1, 2, 3, 4] rfl)
        exact LL13 n 0 z5_1 _ _ _ h hP hD hS (lv_sub hl [0, 1, 2, 3] rfl)
  exact LL5 n 0 (-6) _ _ _ h hP hD hS (lv_sub hl [0, 1, 2] rfl)

def p_X8_tip (F : tF) (G : tG) : Option (Int32 × tF × tG) :=
  bi1 (p_X8_all F) (fun x2 => bi3 (p_X8_spill F G (x2 / 2)) (fun x7 F7 G7 => some (x7, F7, G7)))
set_option maxHeartbeats 4000000 in
set_option maxRecDepth 100000 in
theorem c_X8_tip (l : Launch) (D : va_G) (ad : Nat → Nat) (cA : ClassId) (n : Nat) (F : tF) (G : tG) {r : Int32} {F' : tF} {G' : tG} (h : p_X8_tip F G = some (r, F', G')) : CI l yX8_tip wsX8_tip ({ frames := 2, cells := 0, slots := 0, locals := 42 } : Room) D cA (wM ad cA F G) [.ref (ad 0)] r (wM ad cA F' G') := by
  rw [p_X8_tip] at h
  refine metIm (w := wM ad cA) (cc := cX8_tip) (maxL := 1) (by decide) rfl (Nat.le_of_ble_eq_true rfl) ?_
  intro p e s m args below meth c A ls Q hE hret
  obtain ⟨hx, hb, hts, hown, hml, hP, hK, hD, hN, hA, hl⟩ := hE
  have hown : s.vm.findClass RX8 = some m.cls := hown
  have hl : lv_has ls 1 [(0, .ref (ad 0))] := hl
  have hS : va_S A s.heap s.heap [] := va_S.rf
  refine lv_aload_n hx hb dX8_tip_0 rfl (lv_at hl 0 rfl) ?_
  refine lv_aload_n hx hb dX8_tip_1 rfl (lv_at hl 0 rfl) ?_
  obtain ⟨x2, h2, h⟩ := bi1e h
  refine callVI (b := ad 0) (As := []) (rest := [.ref (ad 0)]) ⟨hx, hb, hml, hown, hts⟩ (c_X8_all l D ad cA n F G h2) (cwV 0 hts gX8_tip_X8_all rfl rfl rfl (by decide +kernel) ⟨Nat.le_of_ble_eq_true rfl, Nat.le_of_ble_eq_true rfl⟩) (va_recv hK hP (ci := 8) (q0 := 0) rfl wMg0) hP hK hD hN hS hA rfl hl.1 rfl (Nat.le_of_ble_eq_true rfl) dX8_tip_2 ⟨Nat.zero_le _, Nat.zero_le _⟩ (fun H locs hP hD hS => ?_)
  refine lv_iconst (v := 2) hx hb dX8_tip_5 (by decide) ?_
  refine lv_idiv hx hb dX8_tip_6 (by decide) ?_
  obtain ⟨x7, F7, G7, h7, h⟩ := bi3e h
  refine callVI (b := ad 0) (As := [.int ((x2 / 2))]) (rest := []) ⟨hx, hb, hml, hown, hts⟩ (c_X8_spill l D ad cA n F G (x2 / 2) h7) (cwV 1 hts gX8_tip_X8_spill rfl rfl rfl (by decide +kernel) ⟨Nat.le_of_ble_eq_true rfl, Nat.le_of_ble_eq_true rfl⟩) (va_recv hK hP (ci := 8) (q0 := 0) rfl wMg0) hP hK hD hN hS hA rfl hl.1 rfl (Nat.le_of_ble_eq_true rfl) dX8_tip_7 ⟨Nat.zero_le _, Nat.zero_le _⟩ (fun H locs hP hD hS => ?_)
  exact hret _ _ _ _ _ _ _ dX8_tip_10 h hP hD hS

def p_X8_told_L88 (G : tG) (K88 : Int32 → Int32 → Option (Int32)) : Nat → Int32 → Int32 → Option (Int32)
  | 0, _, _ => none
  | k88 + 1, z88_0, z88_1 => (if 12 ≤ z88_0 then K88 z88_0 z88_1 else oguard (inB z88_0 12) (bi1 ((if (G 9 z88_0.toNatClampNeg) ≤ 0 then some (0) else some (1))) (fun (y101_0 : Int32) => plet (z88_1 + y101_0) (fun (x110 : Int32) => plet (z88_0 + 1) (fun (x111 : Int32) => p_X8_told_L88 G K88 k88 x111 x110)))))
theorem p_X8_told_L88_k {G : tG} {K0 : Int32 → Int32 → Option (Int32)} {k : Nat} {z88_0 : Int32} {z88_1 : Int32} {x : Int32} (h : p_X8_told_L88 G K0 k z88_0 z88_1 = some x) : ∃ K, K = K0 ∧ p_X8_told_L88 G K k z88_0 z88_1 = some x := ⟨K0, rfl, h⟩
def p_X8_told_L131 (F : tF) (G : tG) (K131 : Int32 → Int32 → Option (Int32)) : Nat → Int32 → Int32 → Option (Int32)
  | 0, _, _ => none
  | k131 + 1, z131_0, z131_1 => (if (F 15) ≤ z131_0 then K131 z131_0 z131_1 else oguard (inB ((5 * z131_0) + 1) 60) (plet (z131_1 + ((((F 16) >>> (z131_0 &&& 31)) &&& 1) * (G 6 ((5 * z131_0) + 1).toNatClampNeg))) (fun (x160 : Int32) => plet (z131_0 + 1) (fun (x161 : Int32) => p_X8_told_L131 F G K131 k131 x161 x160))))
theorem p_X8_told_L131_k {F : tF} {G : tG} {K0 : Int32 → Int32 → Option (Int32)} {k : Nat} {z131_0 : Int32} {z131_1 : Int32} {x : Int32} (h : p_X8_told_L131 F G K0 k z131_0 z131_1 = some x) : ∃ K, K = K0 ∧ p_X8_told_L131 F G K k z131_0 z131_1 = some x := ⟨K0, rfl, h⟩
def p_X8_told (n : Nat) (F : tF) (G : tG) (a1 : Int32) : Option (Int32) :=
  (if a1 = 0 then some (F 13) else (if a1 = 1 then some (F 14) else (if a1 = 2 then some (F 1) else (if a1 = 3 then some (F 15) else (if a1 = 4 then some (F 16) else (if a1 = 5 then some (F 18) else (if a1 = 6 then p_X8_told_L88 G (fun (z88_0 : Int32) (z88_1 : Int32) => some z88_1) n 0 0 else (if a1 = 7 then some (F 20) else (if a1 = 8 then some (F 19) else (if a1 = 9 then p_X8_told_L131 F G (fun (z131_0 : Int32) (z131_1 : Int32) => some z131_1) n 0 0 else some (-2)))))))))))
set_option maxHeartbeats 4000000 in
set_option maxRecDepth 100000 in
theorem c_X8_told (l : Launch) (D : va_G) (ad : Nat → Nat) (cA : ClassId) (n : Nat) (F : tF) (G : tG) (a1 : Int32) {r : Int32} (h : p_X8_told n F G a1 = some r) : CI l yX8_told wsX8_told ({ frames := 0, cells := 0, slots := 0, locals := 0 } : Room) D cA (wM ad cA F G) [.ref (ad 0), .int (a1)] r (wM ad cA F G) := by
  rw [p_X8_told] at h
  refine metIr (w := wM ad cA) (cc := cX8_told) (maxL := 4) (by decide) rfl (Nat.le_of_ble_eq_true rfl) ?_
  intro p e s m args below meth c A ls Q hE hret
  obtain ⟨hx, hb, hts, hown, hml, hP, hK, hD, hN, hA, hl⟩ := hE
  have hown : s.vm.findClass RX8 = some m.cls := hown
  have hl : lv_has ls 4 [(0, .ref (ad 0)), (1, .int (a1))] := hl
  have hS : va_S A s.heap s.heap [] := va_S.rf
  have k_0 : (Cond.fieldLink RX8 151 "BellBookModel" "minute" "I").before args s = true := hts _ (List.mem_of_getElem? (i := 1) rfl)
  have n_8 : ∀ w ∈ u_ws RX8 TX8 46, w ∈ wsX8_told := fun w hw => List.mem_cons_of_mem _ (List.mem_append_right _ hw)
  have k_2 : (Cond.fieldLink RX8 28 "BellBookModel" "bell" "I").before args s = true := hts _ (List.mem_of_getElem? (i := 2) rfl)
  have k_3 : (Cond.fieldLink RX8 89 "BellBookModel" "depth" "I").before args s = true := hts _ (List.mem_of_getElem? (i := 3) rfl)
  have k_4 : (Cond.fieldLink RX8 173 "BellBookModel" "things" "I").before args s = true := hts _ (List.mem_of_getElem? (i := 4) rfl)
  have k_5 : (Cond.fieldLink RX8 138 "BellBookModel" "raised" "I").before args s = true := hts _ (List.mem_of_getElem? (i := 5) rfl)
  have k_6 : (Cond.fieldLink RX8 182 "BellBookModel" "tides" "I").before args s = true := hts _ (List.mem_of_getElem? (i := 6) rfl)
  have k_7 : (Cond.fieldLink RX8 59 "BellBookModel" "tugsA" "[I").before args s = true := hts _ (List.mem_of_getElem? (i := 7) rfl)
  have k_8 : (Cond.fieldLink RX8 221 "BellBookModel" "entries" "I").before args s = true := hts _ (List.mem_of_getElem? (i := 8) rfl)
  have k_9 : (Cond.fieldLink RX8 218 "BellBookModel" "hearings" "I").before args s = true := hts _ (List.mem_of_getElem? (i := 9) rfl)
  have k_10 : (Cond.fieldLink RX8 50 "BellBookModel" "thing" "[I").before args s = true := hts _ (List.mem_of_getElem? (i := 10) rfl)
  refine lv_iconst (v := 0) hx hb dX8_told_0 (by decide) ?_
  refine lv_istore_n (lv' := [(2, .int (0)), (0, .ref (ad 0)), (1, .int (a1))]) hx hb dX8_told_1 rfl hl (by decide) rfl (fun ls hl => ?_)
  refine lv_iload_n hx hb dX8_told_2 rfl (lv_at hl 2 rfl) ?_
  by_cases c3_0 : a1 = 0
  · replace h := ifp h c3_0
    refine lv_tableIn (off := 53) (tgt := 56) hx hb dX8_told_3 (by rw [c3_0]; decide) (by rw [c3_0]; decide) (by rw [c3_0]; decide) (by decide) ?_
    refine lv_aload_n hx hb dX8_told_56 rfl (lv_at hl 1 rfl) ?_
    refine va_get (D := D) (ci := 8) (fs := vX8 ad F) (v := .int ((F 13))) (C := RX8) (T := TX8) (N := 46) hx hb hts n_8 hown hK hP 0 wMg0 rfl 13 (by decide) k_0 (fun _ h9 => h9) rfl dX8_told_57 ?_
    exact hret _ _ _ _ _ dX8_told_60 h hP hD hS
  replace h := ifn h c3_0
  by_cases c3_1 : a1 = 1
  · replace h := ifp h c3_1
    refine lv_tableIn (off := 58) (tgt := 61) hx hb dX8_told_3 (by rw [c3_1]; decide) (by rw [c3_1]; decide) (by rw [c3_1]; decide) (by decide) ?_
    refine lv_aload_n hx hb dX8_told_61 rfl (lv_at hl 1 rfl) ?_
    refine va_get (D := D) (ci := 8) (fs := vX8 ad F) (v := .int ((F 14))) (C := RX8) (T := TX8) (N := 46) hx hb hts n_8 hown hK hP 0 wMg0 rfl 14 (by decide) k_2 (fun _ h9 => h9) rfl dX8_told_62 ?_
    exact hret _ _ _ _ _ dX8_told_65 h hP hD hS
  replace h := ifn h c3_1
  by_cases c3_2 : a1 = 2
  · replace h := ifp h c3_2
    refine lv_tableIn (off := 63) (tgt := 66) hx hb dX8_told_3 (by rw [c3_2]; decide) (by rw [c3_2]; decide) (by rw [c3_2]; decide) (by decide) ?_
    refine lv_aload_n hx hb dX8_told_66 rfl (lv_at hl 1 rfl) ?_
    refine va_get (D := D) (ci := 8) (fs := vX8 ad F) (v := .int ((F 1))) (C := RX8) (T := TX8) (N := 46) hx hb hts n_8 hown hK hP 0 wMg0 rfl 1 (by decide) k_3 (fun _ h9 => h9) rfl dX8_told_67 ?_
    exact hret _ _ _ _ _ dX8_told_70 h hP hD hS
  replace h := ifn h c3_2
  by_cases c3_3 : a1 = 3
  · replace h := ifp h c3_3
    refine lv_tableIn (off := 68) (tgt := 71) hx hb dX8_told_3 (by rw [c3_3]; decide) (by rw [c3_3]; decide) (by rw [c3_3]; decide) (by decide) ?_
    refine lv_aload_n hx hb dX8_told_71 rfl (lv_at hl 1 rfl) ?_
    refine va_get (D := D) (ci := 8) (fs := vX8 ad F) (v := .int ((F 15))) (C := RX8) (T := TX8) (N := 46) hx hb hts n_8 hown hK hP 0 wMg0 rfl 21 (by decide) k_4 (fun _ h9 => h9) rfl dX8_told_72 ?_
    exact hret _ _ _ _ _ dX8_told_75 h hP hD hS
  replace h := ifn h c3_3
  by_cases c3_4 : a1 = 4
  · replace h := ifp h c3_4
    refine lv_tableIn (off := 73) (tgt := 76) hx hb dX8_told_3 (by rw [c3_4]; decide) (by rw [c3_4]; decide) (by rw [c3_4]; decide) (by decide) ?_
    refine lv_aload_n hx hb dX8_told_76 rfl (lv_at hl 1 rfl) ?_
    refine va_get (D := D) (ci := 8) (fs := vX8 ad F) (v := .int ((F 16))) (C := RX8) (T := TX8) (N := 46) hx hb hts n_8 hown hK hP 0 wMg0 rfl 24 (by decide) k_5 (fun _ h9 => h9) rfl dX8_told_77 ?_
    exact hret _ _ _ _ _ dX8_told_80 h hP hD hS
  replace h := ifn h c3_4
  by_cases c3_5 : a1 = 5
  · replace h := ifp h c3_5
    refine lv_tableIn (off := 78) (tgt := 81) hx hb dX8_told_3 (by rw [c3_5]; decide) (by rw [c3_5]; decide) (by rw [c3_5]; decide) (by decide) ?_
    refine lv_aload_n hx hb dX8_told_81 rfl (lv_at hl 1 rfl) ?_
    refine va_get (D := D) (ci := 8) (fs := vX8 ad F) (v := .int ((F 18))) (C := RX8) (T := TX8) (N := 46) hx hb hts n_8 hown hK hP 0 wMg0 rfl 26 (by decide) k_6 (fun _ h9 => h9) rfl dX8_told_82 ?_
    exact hret _ _ _ _ _ dX8_told_85 h hP hD hS
  replace h := ifn h c3_5
  by_cases c3_6 : a1 = 6
  · replace h := ifp h c3_6
    refine lv_tableIn (off := 83) (tgt := 86) hx hb dX8_told_3 (by rw [c3_6]; decide) (by rw [c3_6]; decide) (by rw [c3_6]; decide) (by decide) ?_
    refine lv_iconst (v := 0) hx hb dX8_told_86 (by decide) ?_
    refine lv_istore_n (lv' := [(3, .int (0)), (2, .int (0)), (0, .ref (ad 0)), (1, .int (a1))]) hx hb dX8_told_87 rfl hl (by decide) rfl (fun ls hl => ?_)
    obtain ⟨K88, eK88, h⟩ := p_X8_told_L88_k h
    have JE88 : ∀ (z88_0 : Int32) (z88_1 : Int32) (H : Heap) (locs : List Loc) (ls : Array Slot), K88 z88_0 z88_1 = some r → va_P D vwCl (wM ad cA F G) H → va_D A (wM ad cA F G) → va_S A s.heap H locs → lv_has ls 4 [(3, .int (z88_0)), (2, .int (z88_1)), (0, .ref (ad 0)), (1, .int (a1))] → W p l e ({ frames := 0, cells := 0, slots := 0, locals := 0 } : Room) s m args below meth c H locs 0 0 Q (F0 m 117 ls []) := by
      intro z88_0 z88_1 H locs ls h hP hD hS hl
      rw [eK88] at h
      refine lv_iload_n hx hb dX8_told_117 rfl (lv_at hl 1 rfl) ?_
      exact hret _ _ _ _ _ dX8_told_118 h hP hD hS
    have LL88 : ∀ (k : Nat) (z88_0 : Int32) (z88_1 : Int32) (H : Heap) (locs : List Loc) (ls : Array Slot), p_X8_told_L88 G K88 k z88_0 z88_1 = some r → va_P D vwCl (wM ad cA F G) H → va_D A (wM ad cA F G) → va_S A s.heap H locs → lv_has ls 4 [(3, .int (z88_0)), (2, .int (z88_1)), (0, .ref (ad 0)), (1, .int (a1))] → W p l e ({ frames := 0, cells := 0, slots := 0, locals := 0 } : Room) s m args below meth c H locs 0 0 Q (F0 m 88 ls []) := by
      intro k
      induction k with
      | zero =>
        intro z88_0 z88_1 H locs ls h hP hD hS hl
        rw [p_X8_told_L88] at h
        cases h
      | succ k88 ih88 =>
        intro z88_0 z88_1 H locs ls h hP hD hS hl
        rw [p_X8_told_L88] at h
        refine lv_iload_n hx hb dX8_told_88 rfl (lv_at hl 0 rfl) ?_
        refine lv_bipush (v := 12) hx hb dX8_told_89 (by decide) ?_
        refine lv_icmp_ge (tgt := 117) hx hb dX8_told_91 (by decide) (fun c91 => ?_) (fun c91 => ?_)
        · replace h := ifp h c91
          exact JE88 _ _ _ _ _ h hP hD hS (lv_sub hl [0, 1, 2, 3] rfl)
        · replace h := ifn h c91
          refine lv_iload_n hx hb dX8_told_94 rfl (lv_at hl 1 rfl) ?_
          refine lv_aload_n hx hb dX8_told_95 rfl (lv_at hl 2 rfl) ?_
          refine va_get (D := D) (ci := 8) (fs := vX8 ad F) (v := .ref (ad 10)) (C := RX8) (T := TX8) (N := 46) hx hb hts n_8 hown hK hP 0 wMg0 rfl 28 (by decide) k_7 (fun _ h9 => h9) rfl dX8_told_96 ?_
          refine lv_iload_n hx hb dX8_told_99 rfl (lv_at hl 0 rfl) ?_
          obtain ⟨g100, h⟩ := og h
          refine va_iald (D := D) hx hb hK hP 10 0 wMg10 rfl (inB_in g100) dX8_told_100 ?_
          obtain ⟨y101_0, q101, h⟩ := bi1e h
          have J101 : ∀ (wy101_0 : Int32), some (wy101_0) = some (y101_0) → ∀ (H : Heap) (locs : List Loc) (ls : Array Slot), va_P D vwCl (wM ad cA F G) H → va_D A (wM ad cA F G) → va_S A s.heap H locs → lv_has ls 4 [(3, .int (z88_0)), (2, .int (z88_1)), (0, .ref (ad 0)), (1, .int (a1))] → W p l e ({ frames := 0, cells := 0, slots := 0, locals := 0 } : Room) s m args below meth c H locs 0 0 Q (F0 m 109 ls [.int (wy101_0), .int (z88_1)]) := by
            intro wy101_0 e9 H locs ls hP hD hS hl
            cases e9
            refine lv_iadd hx hb dX8_told_109 ?_
            refine lv_topi (fun x110 ex110 => ?_)
            replace h := pl h ex110
            refine lv_istore_n (lv' := [(2, .int (x110)), (3, .int (z88_0)), (0, .ref (ad 0)), (1, .int (a1))]) hx hb dX8_told_110 rfl hl (by decide) rfl (fun ls hl => ?_)
            obtain ⟨x111, ex111⟩ : ∃ z : Int32, z = (z88_0 + 1) := ⟨_, rfl⟩
            replace h := pl h ex111
            refine lv_iinc (v := x111) (lv' := [(3, .int (x111)), (2, .int (x110)), (0, .ref (ad 0)), (1, .int (a1))]) hx hb dX8_told_111 hl (k := 1) rfl (by rw [ex111]; rfl) (by decide) rfl (fun ls hl => ?_)
            refine lv_goto (tgt := 88) hx hb dX8_told_114 (by decide) ?_
            exact ih88 _ _ _ _ _ h hP hD hS (lv_sub hl [0, 1, 2, 3] rfl)
          refine lv_if_le (tgt := 108) hx hb dX8_told_101 (by decide) (fun c101 => ?_) (fun c101 => ?_)
          · replace q101 := ifp q101 c101
            refine lv_iconst (v := 0) hx hb dX8_told_108 (by decide) ?_
            exact J101 _ q101 _ _ _ hP hD hS (lv_sub hl [0, 1, 2, 3] rfl)
          · replace q101 := ifn q101 c101
            refine lv_iconst (v := 1) hx hb dX8_told_104 (by decide) ?_
            refine lv_goto (tgt := 109) hx hb dX8_told_105 (by decide) ?_
            exact J101 _ q101 _ _ _ hP hD hS (lv_sub hl [0, 1, 2, 3] rfl)
    exact LL88 n 0 0 _ _ _ h hP hD hS (lv_sub hl [0, 1, 2, 3] rfl)
  replace h := ifn h c3_6
  by_cases c3_7 : a1 = 7
  · replace h := ifp h c3_7
    refine lv_tableIn (off := 116) (tgt := 119) hx hb dX8_told_3 (by rw [c3_7]; decide) (by rw [c3_7]; decide) (by rw [c3_7]; decide) (by decide) ?_
    refine lv_aload_n hx hb dX8_told_119 rfl (lv_at hl 1 rfl) ?_
    refine va_get (D := D) (ci := 8) (fs := vX8 ad F) (v := .int ((F 20))) (C := RX8) (T := TX8) (N := 46) hx hb hts n_8 hown hK hP 0 wMg0 rfl 33 (by decide) k_8 (fun _ h9 => h9) rfl dX8_told_120 ?_
    exact hret _ _ _ _ _ dX8_told_123 h hP hD hS
  replace h := ifn h c3_7
  by_cases c3_8 : a1 = 8
  · replace h := ifp h c3_8
    refine lv_tableIn (off := 121) (tgt := 124) hx hb dX8_told_3 (by rw [c3_8]; decide) (by rw [c3_8]; decide) (by rw [c3_8]; decide) (by decide) ?_
    refine lv_aload_n hx hb dX8_told_124 rfl (lv_at hl 1 rfl) ?_
    refine va_get (D := D) (ci := 8) (fs := vX8 ad F) (v := .int ((F 19))) (C := RX8) (T := TX8) (N := 46) hx hb hts n_8 hown hK hP 0 wMg0 rfl 30 (by decide) k_9 (fun _ h9 => h9) rfl dX8_told_125 ?_
    exact hret _ _ _ _ _ dX8_told_128 h hP hD hS
  replace h := ifn h c3_8
  by_cases c3_9 : a1 = 9
  · replace h := ifp h c3_9
    refine lv_tableIn (off := 126) (tgt := 129) hx hb dX8_told_3 (by rw [c3_9]; decide) (by rw [c3_9]; decide) (by rw [c3_9]; decide) (by decide) ?_
    refine lv_iconst (v := 0) hx hb dX8_told_129 (by decide) ?_
    refine lv_istore_n (lv' := [(3, .int (0)), (2, .int (0)), (0, .ref (ad 0)), (1, .int (a1))]) hx hb dX8_told_130 rfl hl (by decide) rfl (fun ls hl => ?_)
    obtain ⟨K131, eK131, h⟩ := p_X8_told_L131_k h
    have JE131 : ∀ (z131_0 : Int32) (z131_1 : Int32) (H : Heap) (locs : List Loc) (ls : Array Slot), K131 z131_0 z131_1 = some r → va_P D vwCl (wM ad cA F G) H → va_D A (wM ad cA F G) → va_S A s.heap H locs → lv_has ls 4 [(3, .int (z131_0)), (2, .int (z131_1)), (0, .ref (ad 0)), (1, .int (a1))] → W p l e ({ frames := 0, cells := 0, slots := 0, locals := 0 } : Room) s m args below meth c H locs 0 0 Q (F0 m 167 ls []) := by
      intro z131_0 z131_1 H locs ls h hP hD hS hl
      rw [eK131] at h
      refine lv_iload_n hx hb dX8_told_167 rfl (lv_at hl 1 rfl) ?_
      exact hret _ _ _ _ _ dX8_told_168 h hP hD hS
    have LL131 : ∀ (k : Nat) (z131_0 : Int32) (z131_1 : Int32) (H : Heap) (locs : List Loc) (ls : Array Slot), p_X8_told_L131 F G K131 k z131_0 z131_1 = some r → va_P D vwCl (wM ad cA F G) H → va_D A (wM ad cA F G) → va_S A s.heap H locs → lv_has ls 4 [(3, .int (z131_0)), (2, .int (z131_1)), (0, .ref (ad 0)), (1, .int (a1))] → W p l e ({ frames := 0, cells := 0, slots := 0, locals := 0 } : Room) s m args below meth c H locs 0 0 Q (F0 m 131 ls []) := by
      intro k
      induction k with
      | zero =>
        intro z131_0 z131_1 H locs ls h hP hD hS hl
        rw [p_X8_told_L131] at h
        cases h
      | succ k131 ih131 =>
        intro z131_0 z131_1 H locs ls h hP hD hS hl
        rw [p_X8_told_L131] at h
        refine lv_iload_n hx hb dX8_told_131 rfl (lv_at hl 0 rfl) ?_
        refine lv_aload_n hx hb dX8_told_132 rfl (lv_at hl 2 rfl) ?_
        refine va_get (D := D) (ci := 8) (fs := vX8 ad F) (v := .int ((F 15))) (C := RX8) (T := TX8) (N := 46) hx hb hts n_8 hown hK hP 0 wMg0 rfl 21 (by decide) k_4 (fun _ h9 => h9) rfl dX8_told_133 ?_
        refine lv_icmp_ge (tgt := 167) hx hb dX8_told_136 (by decide) (fun c136 => ?_) (fun c136 => ?_)
        · replace h := ifp h c136
          exact JE131 _ _ _ _ _ h hP hD hS (lv_sub hl [0, 1, 2, 3] rfl)
        · replace h := ifn h c136
          refine lv_iload_n hx hb dX8_told_139 rfl (lv_at hl 1 rfl) ?_
          refine lv_aload_n hx hb dX8_told_140 rfl (lv_at hl 2 rfl) ?_
          refine va_get (D := D) (ci := 8) (fs := vX8 ad F) (v := .int ((F 16))) (C := RX8) (T := TX8) (N := 46) hx hb hts n_8 hown hK hP 0 wMg0 rfl 24 (by decide) k_5 (fun _ h9 => h9) rfl dX8_told_141 ?_
          refine lv_iload_n hx hb dX8_told_144 rfl (lv_at hl 0 rfl) ?_
          refine lv_ishr hx hb dX8_told_145 ?_
          refine lv_iconst (v := 1) hx hb dX8_told_146 (by decide) ?_
          refine lv_iand hx hb dX8_told_147 ?_
          refine lv_aload_n hx hb dX8_told_148 rfl (lv_at hl 2 rfl) ?_
          refine va_get (D := D) (ci := 8) (fs := vX8 ad F) (v := .ref (ad 7)) (C := RX8) (T := TX8) (N := 46) hx hb hts n_8 hown hK hP 0 wMg0 rfl 22 (by decide) k_10 (fun _ h9 => h9) rfl dX8_told_149 ?_
          refine lv_iconst (v := 5) hx hb dX8_told_152 (by decide) ?_
          refine lv_iload_n hx hb dX8_told_153 rfl (lv_at hl 0 rfl) ?_
          refine lv_imul hx hb dX8_told_154 ?_
          refine lv_iconst (v := 1) hx hb dX8_told_155 (by decide) ?_
          refine lv_iadd hx hb dX8_told_156 ?_
          obtain ⟨g157, h⟩ := og h
          refine va_iald (D := D) hx hb hK hP 7 0 wMg7 rfl (inB_in g157) dX8_told_157 ?_
          refine lv_imul hx hb dX8_told_158 ?_
          refine lv_iadd hx hb dX8_told_159 ?_
          refine lv_topi (fun x160 ex160 => ?_)
          replace h := pl h ex160
          refine lv_istore_n (lv' := [(2, .int (x160)), (3, .int (z131_0)), (0, .ref (ad 0)), (1, .int (a1))]) hx hb dX8_told_160 rfl hl (by decide) rfl (fun ls hl => ?_)
          obtain ⟨x161, ex161⟩ : ∃ z : Int32, z = (z131_0 + 1) := ⟨_, rfl⟩
          replace h := pl h ex161
          refine lv_iinc (v := x161) (lv' := [(3, .int (x161)), (2, .int (x160)), (0, .ref (ad 0)), (1, .int (a1))]) hx hb dX8_told_161 hl (k := 1) rfl (by rw [ex161]; rfl) (by decide) rfl (fun ls hl => ?_)
          refine lv_goto (tgt := 131) hx hb dX8_told_164 (by decide) ?_
          exact ih131 _ _ _ _ _ h hP hD hS (lv_sub hl [0, 1, 2, 3] rfl)
    exact LL131 n 0 0 _ _ _ h hP hD hS (lv_sub hl [0, 1, 2, 3] rfl)
  replace h := ifn h c3_9
  have ic3_0 : a1.toInt ≠ 0 := ne_toInt c3_0
  have ic3_1 : a1.toInt ≠ 1 := ne_toInt c3_1
  have ic3_2 : a1.toInt ≠ 2 := ne_toInt c3_2
  have ic3_3 : a1.toInt ≠ 3 := ne_toInt c3_3
  have ic3_4 : a1.toInt ≠ 4 := ne_toInt c3_4
  have ic3_5 : a1.toInt ≠ 5 := ne_toInt c3_5
  have ic3_6 : a1.toInt ≠ 6 := ne_toInt c3_6
  have ic3_7 : a1.toInt ≠ 7 := ne_toInt c3_7
  have ic3_8 : a1.toInt ≠ 8 := ne_toInt c3_8
  have ic3_9 : a1.toInt ≠ 9 := ne_toInt c3_9
  refine lv_tableOut (tgt := 169) hx hb dX8_told_3 (by omega) (by decide) ?_
  refine lv_bipush (v := (-2)) hx hb dX8_told_169 (by decide) ?_
  exact hret _ _ _ _ _ dX8_told_171 h hP hD hS

def p_X8_under (n : Nat) (F : tF) (G : tG) (a1 : Int32) (a2 : Int32) (a3 : Int32) : Option (Int32 × tF × tG) :=
  bi1 (p_X8_isThing F a1) (fun x2 => (if x2 = 0 then some ((-1), F, G) else bi1 (p_X8_isThing F a2) (fun x10 => (if x10 = 0 then some ((-1), F, G) else (if a1 = a2 then some ((-1), F, G) else (if a3 = 0 then oguard (inB a1 12) (plet (((G 7 a1.toNatClampNeg) >>> (a2 &&& 31)) &&& 1) (fun (x53 : Int32) => bi1 ((if a3 = 0 then oguard (inB a1 12) (some (((G 7 a1.toNatClampNeg) &&& ((1 <<< (a2 &&& 31)) ^^^ (-1))))) else oguard (inB a1 12) (some (((G 7 a1.toNatClampNeg) ||| (1 <<< (a2 &&& 31))))))) (fun (y61_0 : Int32) => oguard (inB a1 12) (plet (stG G 7 a1 y61_0) (fun (G89 : tG) => some (x53, F, G89)))))) else bi1 (p_X8_above n F G a2) (fun x29 => (if ((x29 >>> (a1 &&& 31)) &&& 1) = 1 then some ((-5), F, G) else oguard (inB a1 12) (plet (((G 7 a1.toNatClampNeg) >>> (a2 &&& 31)) &&& 1) (fun (x53 : Int32) => bi1 ((if a3 = 0 then oguard (inB a1 12) (some (((G 7 a1.toNatClampNeg) &&& ((1 <<< (a2 &&& 31)) ^^^ (-1))))) else oguard (inB a1 12) (some (((G 7 a1.toNatClampNeg) ||| (1 <<< (a2 &&& 31))))))) (fun (y61_0 : Int32) => oguard (inB a1 12) (plet (stG G 7 a1 y61_0) (fun (G89 : tG) => some (x53, F, G89))))))))))))))
set_option maxHeartbeats 4000000 in
set_option maxRecDepth 100000 in
theorem c_X8_under (l : Launch) (D : va_G) (ad : Nat → Nat) (cA : ClassId) (n : Nat) (F : tF) (G : tG) (a1 : Int32) (a2 : Int32) (a3 : Int32) {r : Int32} {F' : tF} {G' : tG} (h : p_X8_under n F G a1 a2 a3 = some (r, F', G')) : CI l yX8_under wsX8_under ({ frames := 2, cells := 0, slots := 0, locals := 43 } : Room) D cA (wM ad cA F G) [.ref (ad 0), .int (a1), .int (a2), .int (a3)] r (wM ad cA F' G') := by
  rw [p_X8_under] at h
  refine metIm (w := wM ad cA) (cc := cX8_under) (maxL := 5) (by decide) rfl (Nat.le_of_ble_eq_true rfl) ?_
  intro p e s m args below meth c A ls Q hE hret
  obtain ⟨hx, hb, hts, hown, hml, hP, hK, hD, hN, hA, hl⟩ := hE
  have hown : s.vm.findClass RX8 = some m.cls := hown
  have hl : lv_has ls 5 [(0, .ref (ad 0)), (1, .int (a1)), (2, .int (a2)), (3, .int (a3))] := hl
  have hS : va_S A s.heap s.heap [] := va_S.rf
  have k_0 : (Cond.fieldLink RX8 53 "BellBookModel" "under" "[I").before args s = true := hts _ (List.mem_of_getElem? (i := 1) rfl)
  have n_8 : ∀ w ∈ u_ws RX8 TX8 46, w ∈ wsX8_under := fun w hw => List.mem_cons_of_mem _ (List.mem_append_right _ hw)
  refine lv_aload_n hx hb dX8_under_0 rfl (lv_at hl 0 rfl) ?_
  refine lv_iload_n hx hb dX8_under_1 rfl (lv_at hl 1 rfl) ?_
  obtain ⟨x2, h2, h⟩ := bi1e h
  refine callVI (b := ad 0) (As := [.int (a1)]) (rest := []) ⟨hx, hb, hml, hown, hts⟩ (c_X8_isThing l D ad cA n F G a1 h2) (cwV 1 hts gX8_under_X8_isThing rfl rfl rfl (by decide +kernel) ⟨Nat.le_of_ble_eq_true rfl, Nat.le_of_ble_eq_true rfl⟩) (va_recv hK hP (ci := 8) (q0 := 0) rfl wMg0) hP hK hD hN hS hA rfl hl.1 rfl (Nat.le_of_ble_eq_true rfl) dX8_under_2 ⟨Nat.zero_le _, Nat.zero_le _⟩ (fun H locs hP hD hS => ?_)
  refine lv_if_eq (tgt := 21) hx hb dX8_under_5 (by decide) (fun c5 => ?_) (fun c5 => ?_)
  · replace h := ifp h c5
    refine lv_iconst (v := (-1)) hx hb dX8_under_21 (by decide) ?_
    exact hret _ _ _ _ _ _ _ dX8_under_22 h hP hD hS
  · replace h := ifn h c5
    refine lv_aload_n hx hb dX8_under_8 rfl (lv_at hl 0 rfl) ?_
    refine lv_iload_n hx hb dX8_under_9 rfl (lv_at hl 2 rfl) ?_
    obtain ⟨x10, h10, h⟩ := bi1e h
    refine callVI (b := ad 0) (As := [.int (a2)]) (rest := []) ⟨hx, hb, hml, hown, hts⟩ (c_X8_isThing l D ad cA n F G a2 h10) (cwV 1 hts gX8_under_X8_isThing rfl rfl rfl (by decide +kernel) ⟨Nat.le_of_ble_eq_true rfl, Nat.le_of_ble_eq_true rfl⟩) (va_recv hK hP (ci := 8) (q0 := 0) rfl wMg0) hP hK hD hN hS hA rfl hl.1 rfl (Nat.le_of_ble_eq_true rfl) dX8_under_10 ⟨Nat.zero_le _, Nat.zero_le _⟩ (fun H locs hP hD hS => ?_)
    refine lv_if_eq (tgt := 21) hx hb dX8_under_13 (by decide) (fun c13 => ?_) (fun c13 => ?_)
    · replace h := ifp h c13
      refine lv_iconst (v := (-1)) hx hb dX8_under_21 (by decide) ?_
      exact hret _ _ _ _ _ _ _ dX8_under_22 h hP hD hS
    · replace h := ifn h c13
      refine lv_iload_n hx hb dX8_under_16 rfl (lv_at hl 1 rfl) ?_
      refine lv_iload_n hx hb dX8_under_17 rfl (lv_at hl 2 rfl) ?_
      refine lv_icmp_ne (tgt := 23) hx hb dX8_under_18 (by decide) (fun c18 => ?_) (fun c18 => ?_)
      · replace h := ifn h c18
        refine lv_iload_n hx hb dX8_under_23 rfl (lv_at hl 3 rfl) ?_
        refine lv_if_eq (tgt := 43) hx hb dX8_under_24 (by decide) (fun c24 => ?_) (fun c24 => ?_)
        · replace h := ifp h c24
          refine lv_aload_n hx hb dX8_under_43 rfl (lv_at hl 0 rfl) ?_
          refine va_get (D := D) (ci := 8) (fs := vX8 ad F) (v := .ref (ad 8)) (C := RX8) (T := TX8) (N := 46) hx hb hts n_8 hown hK hP 0 wMg0 rfl 23 (by decide) k_0 (fun _ h9 => h9) rfl dX8_under_44 ?_
          refine lv_iload_n hx hb dX8_under_47 rfl (lv_at hl 1 rfl) ?_
          obtain ⟨g48, h⟩ := og h
          refine va_iald (D := D) hx hb hK hP 8 0 wMg8 rfl (inB_in g48) dX8_under_48 ?_
          refine lv_iload_n hx hb dX8_under_49 rfl (lv_at hl 2 rfl) ?_
          refine lv_ishr hx hb dX8_under_50 ?_
          refine lv_iconst (v := 1) hx hb dX8_under_51 (by decide) ?_
          refine lv_iand hx hb dX8_under_52 ?_
          refine lv_topi (fun x53 ex53 => ?_)
          replace h := pl h ex53
          refine lv_istore (lv' := [(4, .int (x53)), (0, .ref (ad 0)), (1, .int (a1)), (2, .int (a2)), (3, .int (a3))]) hx hb dX8_under_53 hl (by decide) rfl (fun ls hl => ?_)
          refine lv_aload_n hx hb dX8_under_55 rfl (lv_at hl 1 rfl) ?_
          refine va_get (D := D) (ci := 8) (fs := vX8 ad F) (v := .ref (ad 8)) (C := RX8) (T := TX8) (N := 46) hx hb hts n_8 hown hK hP 0 wMg0 rfl 23 (by decide) k_0 (fun _ h9 => h9) rfl dX8_under_56 ?_
          refine lv_iload_n hx hb dX8_under_59 rfl (lv_at hl 2 rfl) ?_
          refine lv_iload_n hx hb dX8_under_60 rfl (lv_at hl 4 rfl) ?_
          obtain ⟨y61_0, q61, h⟩ := bi1e h
          have J61 : ∀ (wy61_0 : Int32), some (wy61_0) = some (y61_0) → ∀ (H : Heap) (locs : List Loc) (ls : Array Slot), va_P D vwCl (wM ad cA F G) H → va_D A (wM ad cA F G) → va_S A s.heap H locs → lv_has ls 5 [(4, .int (x53)), (0, .ref (ad 0)), (1, .int (a1)), (2, .int (a2)), (3, .int (a3))] → W p l e ({ frames := 2, cells := 0, slots := 0, locals := 43 } : Room) s m args below meth c H locs 0 0 Q (F0 m 89 ls [.int (wy61_0), .int (a1), .ref (ad 8)]) := by
            intro wy61_0 e9 H locs ls hP hD hS hl
            cases e9
            obtain ⟨g89, h⟩ := og h
            obtain ⟨G89, eG89⟩ : ∃ z : tG, z = stG G 7 a1 y61_0 := ⟨_, rfl⟩
            replace h := pl h eG89
            refine va_iast (D := D) hx hb hK hP hD hS 8 0 wMg8 rfl (inB_in g89) dX8_under_89 (fun H locs hP hD hS => ?_)
            rw [wMa7 eG89] at hP hD
            refine lv_iload hx hb dX8_under_90 (lv_at hl 0 rfl) ?_
            exact hret _ _ _ _ _ _ _ dX8_under_92 h hP hD hS
          refine lv_if_eq (tgt := 77) hx hb dX8_under_61 (by decide) (fun c61 => ?_) (fun c61 => ?_)
          · replace q61 := ifp q61 c61
            refine lv_aload_n hx hb dX8_under_77 rfl (lv_at hl 1 rfl) ?_
            refine va_get (D := D) (ci := 8) (fs := vX8 ad F) (v := .ref (ad 8)) (C := RX8) (T := TX8) (N := 46) hx hb hts n_8 hown hK hP 0 wMg0 rfl 23 (by decide) k_0 (fun _ h9 => h9) rfl dX8_under_78 ?_
            refine lv_iload_n hx hb dX8_under_81 rfl (lv_at hl 2 rfl) ?_
            obtain ⟨g82, q61⟩ := og q61
            refine va_iald (D := D) hx hb hK hP 8 0 wMg8 rfl (inB_in g82) dX8_under_82 ?_
            refine lv_iconst (v := 1) hx hb dX8_under_83 (by decide) ?_
            refine lv_iload_n hx hb dX8_under_84 rfl (lv_at hl 3 rfl) ?_
            refine lv_ishl hx hb dX8_under_85 ?_
            refine lv_iconst (v := (-1)) hx hb dX8_under_86 (by decide) ?_
            refine lv_ixor hx hb dX8_under_87 ?_
            refine lv_iand hx hb dX8_under_88 ?_
            exact J61 _ q61 _ _ _ hP hD hS (lv_sub hl [0, 1, 2, 3, 4] rfl)
          · replace q61 := ifn q61 c61
            refine lv_aload_n hx hb dX8_under_64 rfl (lv_at hl 1 rfl) ?_
            refine va_get (D := D) (ci := 8) (fs := vX8 ad F) (v := .ref (ad 8)) (C := RX8) (T := TX8) (N := 46) hx hb hts n_8 hown hK hP 0 wMg0 rfl 23 (by decide) k_0 (fun _ h9 => h9) rfl dX8_under_65 ?_
            refine lv_iload_n hx hb dX8_under_68 rfl (lv_at hl 2 rfl) ?_
            obtain ⟨g69, q61⟩ := og q61
            refine va_iald (D := D) hx hb hK hP 8 0 wMg8 rfl (inB_in g69) dX8_under_69 ?_
            refine lv_iconst (v := 1) hx hb dX8_under_70 (by decide) ?_
            refine lv_iload_n hx hb dX8_under_71 rfl (lv_at hl 3 rfl) ?_
            refine lv_ishl hx hb dX8_under_72 ?_
            refine lv_ior hx hb dX8_under_73 ?_
            refine lv_goto (tgt := 89) hx hb dX8_under_74 (by decide) ?_
            exact J61 _ q61 _ _ _ hP hD hS (lv_sub hl [0, 1, 2, 3, 4] rfl)
        · replace h := ifn h c24
          refine lv_aload_n hx hb dX8_under_27 rfl (lv_at hl 0 rfl) ?_
          refine lv_iload_n hx hb dX8_under_28 rfl (lv_at hl 2 rfl) ?_
          obtain ⟨x29, h29, h⟩ := bi1e h
          refine callVI (b := ad 0) (As := [.int (a2)]) (rest := []) ⟨hx, hb, hml, hown, hts⟩ (c_X8_above l D ad cA n F G a2 h29) (cwV 1 hts gX8_under_X8_above rfl rfl rfl (by decide +kernel) ⟨Nat.le_of_ble_eq_true rfl, Nat.le_of_ble_eq_true rfl⟩) (va_recv hK hP (ci := 8) (q0 := 0) rfl wMg0) hP hK hD hN hS hA rfl hl.1 rfl (Nat.le_of_ble_eq_true rfl) dX8_under_29 ⟨Nat.zero_le _, Nat.zero_le _⟩ (fun H locs hP hD hS => ?_)
          refine lv_iload_n hx hb dX8_under_32 rfl (lv_at hl 1 rfl) ?_
          refine lv_ishr hx hb dX8_under_33 ?_
          refine lv_iconst (v := 1) hx hb dX8_under_34 (by decide) ?_
          refine lv_iand hx hb dX8_under_35 ?_
          refine lv_iconst (v := 1) hx hb dX8_under_36 (by decide) ?_
          refine lv_icmp_ne (tgt := 43) hx hb dX8_under_37 (by decide) (fun c37 => ?_) (fun c37 => ?_)
          · replace h := ifn h c37
            refine lv_aload_n hx hb dX8_under_43 rfl (lv_at hl 0 rfl) ?_
            refine va_get (D := D) (ci := 8) (fs := vX8 ad F) (v := .ref (ad 8)) (C := RX8) (T := TX8) (N := 46) hx hb hts n_8 hown hK hP 0 wMg0 rfl 23 (by decide) k_0 (fun _ h9 => h9) rfl dX8_under_44 ?_
            refine lv_iload_n hx hb dX8_under_47 rfl (lv_at hl 1 rfl) ?_
            obtain ⟨g48, h⟩ := og h
            refine va_iald (D := D) hx hb hK hP 8 0 wMg8 rfl (inB_in g48) dX8_under_48 ?_
            refine lv_iload_n hx hb dX8_under_49 rfl (lv_at hl 2 rfl) ?_
            refine lv_ishr hx hb dX8_under_50 ?_
            refine lv_iconst (v := 1) hx hb dX8_under_51 (by decide) ?_
            refine lv_iand hx hb dX8_under_52 ?_
            refine lv_topi (fun x53 ex53 => ?_)
            replace h := pl h ex53
            refine lv_istore (lv' := [(4, .int (x53)), (0, .ref (ad 0)), (1, .int (a1)), (2, .int (a2)), (3, .int (a3))]) hx hb dX8_under_53 hl (by decide) rfl (fun ls hl => ?_)
            refine lv_aload_n hx hb dX8_under_55 rfl (lv_at hl 1 rfl) ?_
            refine va_get (D := D) (ci := 8) (fs := vX8 ad F) (v := .ref (ad 8)) (C := RX8) (T := TX8) (N := 46) hx hb hts n_8 hown hK hP 0 wMg0 rfl 23 (by decide) k_0 (fun _ h9 => h9) rfl dX8_under_56 ?_
            refine lv_iload_n hx hb dX8_under_59 rfl (lv_at hl 2 rfl) ?_
            refine lv_iload_n hx hb dX8_under_60 rfl (lv_at hl 4 rfl) ?_
            obtain ⟨y61_0, q61, h⟩ := bi1e h
            have J61 : ∀ (wy61_0 : Int32), some (wy61_0) = some (y61_0) → ∀ (H : Heap) (locs : List Loc) (ls : Array Slot), va_P D vwCl (wM ad cA F G) H → va_D A (wM ad cA F G) → va_S A s.heap H locs → lv_has ls 5 [(4, .int (x53)), (0, .ref (ad 0)), (1, .int (a1)), (2, .int (a2)), (3, .int (a3))] → W p l e ({ frames := 2, cells := 0, slots := 0, locals := 43 } : Room) s m args below meth c H locs 0 0 Q (F0 m 89 ls [.int (wy61_0), .int (a1), .ref (ad 8)]) := by
              intro wy61_0 e9 H locs ls hP hD hS hl
              cases e9
              obtain ⟨g89, h⟩ := og h
              obtain ⟨G89, eG89⟩ : ∃ z : tG, z = stG G 7 a1 y61_0 := ⟨_, rfl⟩
              replace h := pl h eG89
              refine va_iast (D := D) hx hb hK hP hD hS 8 0 wMg8 rfl (inB_in g89) dX8_under_89 (fun H locs hP hD hS => ?_)
              rw [wMa7 eG89] at hP hD
              refine lv_iload hx hb dX8_under_90 (lv_at hl 0 rfl) ?_
              exact hret _ _ _ _ _ _ _ dX8_under_92 h hP hD hS
            refine lv_if_eq (tgt := 77) hx hb dX8_under_61 (by decide) (fun c61 => ?_) (fun c61 => ?_)
            · replace q61 := ifp q61 c61
              refine lv_aload_n hx hb dX8_under_77 rfl (lv_at hl 1 rfl) ?_
              refine va_get (D := D) (ci := 8) (fs := vX8 ad F) (v := .ref (ad 8)) (C := RX8) (T := TX8) (N := 46) hx hb hts n_8 hown hK hP 0 wMg0 rfl 23 (by decide) k_0 (fun _ h9 => h9) rfl dX8_under_78 ?_
              refine lv_iload_n hx hb dX8_under_81 rfl (lv_at hl 2 rfl) ?_
              obtain ⟨g82, q61⟩ := og q61
              refine va_iald (D := D) hx hb hK hP 8 0 wMg8 rfl (inB_in g82) dX8_under_82 ?_
              refine lv_iconst (v := 1) hx hb dX8_under_83 (by decide) ?_
              refine lv_iload_n hx hb dX8_under_84 rfl (lv_at hl 3 rfl) ?_
              refine lv_ishl hx hb dX8_under_85 ?_
              refine lv_iconst (v := (-1)) hx hb dX8_under_86 (by decide) ?_
              refine lv_ixor hx hb dX8_under_87 ?_
              refine lv_iand hx hb dX8_under_88 ?_
              exact J61 _ q61 _ _ _ hP hD hS (lv_sub hl [0, 1, 2, 3, 4] rfl)
            · replace q61 := ifn q61 c61
              refine lv_aload_n hx hb dX8_under_64 rfl (lv_at hl 1 rfl) ?_
              refine va_get (D := D) (ci := 8) (fs := vX8 ad F) (v := .ref (ad 8)) (C := RX8) (T := TX8) (N := 46) hx hb hts n_8 hown hK hP 0 wMg0 rfl 23 (by decide) k_0 (fun _ h9 => h9) rfl dX8_under_65 ?_
              refine lv_iload_n hx hb dX8_under_68 rfl (lv_at hl 2 rfl) ?_
              obtain ⟨g69, q61⟩ := og q61
              refine va_iald (D := D) hx hb hK hP 8 0 wMg8 rfl (inB_in g69) dX8_under_69 ?_
              refine lv_iconst (v := 1) hx hb dX8_under_70 (by decide) ?_
              refine lv_iload_n hx hb dX8_under_71 rfl (lv_at hl 3 rfl) ?_
              refine lv_ishl hx hb dX8_under_72 ?_
              refine lv_ior hx hb dX8_under_73 ?_
              refine lv_goto (tgt := 89) hx hb dX8_under_74 (by decide) ?_
              exact J61 _ q61 _ _ _ hP hD hS (lv_sub hl [0, 1, 2, 3, 4] rfl)
          · replace h := ifp h c37
            refine lv_bipush (v := (-5)) hx hb dX8_under_40 (by decide) ?_
            exact hret _ _ _ _ _ _ _ dX8_under_42 h hP hD hS
      · replace h := ifp h c18
        refine lv_iconst (v := (-1)) hx hb dX8_under_21 (by decide) ?_
        exact hret _ _ _ _ _ _ _ dX8_under_22 h hP hD hS

def p_X8_work (F : tF) (G : tG) (a1 : Int32) (a2 : Int32) : Option (Int32 × tF × tG) :=
  bi1 (p_X8_isMan a1) (fun x1 => (if x1 = 0 then some ((-1), F, G) else (if a2 = (-1) then oguard (inB a1 6) (plet (G 4 a1.toNatClampNeg) (fun (x28 : Int32) => bi1 ((if a2 = (-1) then some ((-6)) else some (a2))) (fun (y36_0 : Int32) => oguard (inB a1 6) (plet (stG G 4 a1 y36_0) (fun (G45 : tG) => some (x28, F, G45)))))) else bi1 (p_X8_isThing F a2) (fun x14 => (if x14 = 0 then some ((-1), F, G) else oguard (inB a1 6) (plet (G 4 a1.toNatClampNeg) (fun (x28 : Int32) => bi1 ((if a2 = (-1) then some ((-6)) else some (a2))) (fun (y36_0 : Int32) => oguard (inB a1 6) (plet (stG G 4 a1 y36_0) (fun (G45 : tG) => some (x28, F, G45)))))))))))
set_option maxHeartbeats 4000000 in
set_option maxRecDepth 100000 in
theorem c_X8_work (l : Launch) (D : va_G) (ad : Nat → Nat) (cA : ClassId) (n : Nat) (F : tF) (G : tG) (a1 : Int32) (a2 : Int32) {r : Int32} {F' : tF} {G' : tG} (h : p_X8_work F G a1 a2 = some (r, F', G')) : CI l yX8_work wsX8_work ({ frames := 2, cells := 0, slots := 0, locals := 43 } : Room) D cA (wM ad cA F G) [.ref (ad 0), .int (a1), .int (a2)] r (wM ad cA F' G') := by
  rw [p_X8_work] at h
  refine metIm (w := wM ad cA) (cc := cX8_work) (maxL := 4) (by decide) rfl (Nat.le_of_ble_eq_true rfl) ?_
  intro p e s m args below meth c A ls Q hE hret
  obtain ⟨hx, hb, hts, hown, hml, hP, hK, hD, hN, hA, hl⟩ := hE
  have hown : s.vm.findClass RX8 = some m.cls := hown
  have hl : lv_has ls 4 [(0, .ref (ad 0)), (1, .int (a1)), (2, .int (a2))] := hl
  have hS : va_S A s.heap s.heap [] := va_S.rf
  have k_0 : (Cond.fieldLink RX8 44 "BellBookModel" "workOf" "[I").before args s = true := hts _ (List.mem_of_getElem? (i := 1) rfl)
  have n_8 : ∀ w ∈ u_ws RX8 TX8 46, w ∈ wsX8_work := fun w hw => List.mem_cons_of_mem _ (List.mem_append_right _ hw)
  refine lv_iload_n hx hb dX8_work_0 rfl (lv_at hl 1 rfl) ?_
  obtain ⟨x1, h1, h⟩ := bi1e h
  refine callSI (As := [.int (a1)]) (rest := []) ⟨hx, hb, hml, hown, hts⟩ (c_X8_isMan l D ad cA n F G a1 h1) (va_cwS 1 hts gX8_work_X8_isMan rfl rfl rfl (by decide +kernel) ⟨Nat.le_of_ble_eq_true rfl, Nat.le_of_ble_eq_true rfl⟩) hP hK hD hN hS hA rfl hl.1 rfl (Nat.le_of_ble_eq_true rfl) dX8_work_1 ⟨Nat.zero_le _, Nat.zero_le _⟩ (fun H locs hP hD hS => ?_)
  refine lv_if_eq (tgt := 20) hx hb dX8_work_4 (by decide) (fun c4 => ?_) (fun c4 => ?_)
  · replace h := ifp h c4
    refine lv_iconst (v := (-1)) hx hb dX8_work_20 (by decide) ?_
    exact hret _ _ _ _ _ _ _ dX8_work_21 h hP hD hS
  · replace h := ifn h c4
    refine lv_iload_n hx hb dX8_work_7 rfl (lv_at hl 2 rfl) ?_
    refine lv_iconst (v := (-1)) hx hb dX8_work_8 (by decide) ?_
    refine lv_icmp_eq (tgt := 22) hx hb dX8_work_9 (by decide) (fun c9 => ?_) (fun c9 => ?_)
    · replace h := ifp h c9
      refine lv_aload_n hx hb dX8_work_22 rfl (lv_at hl 0 rfl) ?_
      refine va_get (D := D) (ci := 8) (fs := vX8 ad F) (v := .ref (ad 5)) (C := RX8) (T := TX8) (N := 46) hx hb hts n_8 hown hK hP 0 wMg0 rfl 19 (by decide) k_0 (fun _ h9 => h9) rfl dX8_work_23 ?_
      refine lv_iload_n hx hb dX8_work_26 rfl (lv_at hl 1 rfl) ?_
      obtain ⟨g27, h⟩ := og h
      refine va_iald (D := D) hx hb hK hP 5 0 wMg5 rfl (inB_in g27) dX8_work_27 ?_
      refine lv_topi (fun x28 ex28 => ?_)
      replace h := pl h ex28
      refine lv_istore_n (lv' := [(3, .int (x28)), (0, .ref (ad 0)), (1, .int (a1)), (2, .int (a2))]) hx hb dX8_work_28 rfl hl (by decide) rfl (fun ls hl => ?_)
      refine lv_aload_n hx hb dX8_work_29 rfl (lv_at hl 1 rfl) ?_
      refine va_get (D := D) (ci := 8) (fs := vX8 ad F) (v := .ref (ad 5)) (C := RX8) (T := TX8) (N := 46) hx hb hts n_8 hown hK hP 0 wMg0 rfl 19 (by decide) k_0 (fun _ h9 => h9) rfl dX8_work_30 ?_
      refine lv_iload_n hx hb dX8_work_33 rfl (lv_at hl 2 rfl) ?_
      refine lv_iload_n hx hb dX8_work_34 rfl (lv_at hl 3 rfl) ?_
      refine lv_iconst (v := (-1)) hx hb dX8_work_35 (by decide) ?_
      obtain ⟨y36_0, q36, h⟩ := bi1e h
      have J36 : ∀ (wy36_0 : Int32), some (wy36_0) = some (y36_0) → ∀ (H : Heap) (locs : List Loc) (ls : Array Slot), va_P D vwCl (wM ad cA F G) H → va_D A (wM ad cA F G) → va_S A s.heap H locs → lv_has ls 4 [(3, .int (x28)), (0, .ref (ad 0)), (1, .int (a1)), (2, .int (a2))] → W p l e ({ frames := 2, cells := 0, slots := 0, locals := 43 } : Room) s m args below meth c H locs 0 0 Q (F0 m 45 ls [.int (wy36_0), .int (a1), .ref (ad 5)]) := by
        intro wy36_0 e9 H locs ls hP hD hS hl
        cases e9
        obtain ⟨g45, h⟩ := og h
        obtain ⟨G45, eG45⟩ : ∃ z : tG, z = stG G 4 a1 y36_0 := ⟨_, rfl⟩
        replace h := pl h eG45
        refine va_iast (D := D) hx hb hK hP hD hS 5 0 wMg5 rfl (inB_in g45) dX8_work_45 (fun H locs hP hD hS => ?_)
        rw [wMa4 eG45] at hP hD
        refine lv_iload_n hx hb dX8_work_46 rfl (lv_at hl 0 rfl) ?_
        exact hret _ _ _ _ _ _ _ dX8_work_47 h hP hD hS
      refine lv_icmp_ne (tgt := 44) hx hb dX8_work_36 (by decide) (fun c36 => ?_) (fun c36 => ?_)
      · replace q36 := ifn q36 c36
        refine lv_iload_n hx hb dX8_work_44 rfl (lv_at hl 3 rfl) ?_
        exact J36 _ q36 _ _ _ hP hD hS (lv_sub hl [0, 1, 2, 3] rfl)
      · replace q36 := ifp q36 c36
        refine lv_bipush (v := (-6)) hx hb dX8_work_39 (by decide) ?_
        refine lv_goto (tgt := 45) hx hb dX8_work_41 (by decide) ?_
        exact J36 _ q36 _ _ _ hP hD hS (lv_sub hl [0, 1, 2, 3] rfl)
    · replace h := ifn h c9
      refine lv_aload_n hx hb dX8_work_12 rfl (lv_at hl 0 rfl) ?_
      refine lv_iload_n hx hb dX8_work_13 rfl (lv_at hl 2 rfl) ?_
      obtain ⟨x14, h14, h⟩ := bi1e h
      refine callVI (b := ad 0) (As := [.int (a2)]) (rest := []) ⟨hx, hb, hml, hown, hts⟩ (c_X8_isThing l D ad cA n F G a2 h14) (cwV 1 hts gX8_work_X8_isThing rfl rfl rfl (by decide +kernel) ⟨Nat.le_of_ble_eq_true rfl, Nat.le_of_ble_eq_true rfl⟩) (va_recv hK hP (ci := 8) (q0 := 0) rfl wMg0) hP hK hD hN hS hA rfl hl.1 rfl (Nat.le_of_ble_eq_true rfl) dX8_work_14 ⟨Nat.zero_le _, Nat.zero_le _⟩ (fun H locs hP hD hS => ?_)
      refine lv_if_ne (tgt := 22) hx hb dX8_work_17 (by decide) (fun c17 => ?_) (fun c17 => ?_)
      · replace h := ifn h c17
        refine lv_aload_n hx hb dX8_work_22 rfl (lv_at hl 0 rfl) ?_
        refine va_get (D := D) (ci := 8) (fs := vX8 ad F) (v := .ref (ad 5)) (C := RX8) (T := TX8) (N := 46) hx hb hts n_8 hown hK hP 0 wMg0 rfl 19 (by decide) k_0 (fun _ h9 => h9) rfl dX8_work_23 ?_
        refine lv_iload_n hx hb dX8_work_26 rfl (lv_at hl 1 rfl) ?_
        obtain ⟨g27, h⟩ := og h
        refine va_iald (D := D) hx hb hK hP 5 0 wMg5 rfl (inB_in g27) dX8_work_27 ?_
        refine lv_topi (fun x28 ex28 => ?_)
        replace h := pl h ex28
        refine lv_istore_n (lv' := [(3, .int (x28)), (0, .ref (ad 0)), (1, .int (a1)), (2, .int (a2))]) hx hb dX8_work_28 rfl hl (by decide) rfl (fun ls hl => ?_)
        refine lv_aload_n hx hb dX8_work_29 rfl (lv_at hl 1 rfl) ?_
        refine va_get (D := D) (ci := 8) (fs := vX8 ad F) (v := .ref (ad 5)) (C := RX8) (T := TX8) (N := 46) hx hb hts n_8 hown hK hP 0 wMg0 rfl 19 (by decide) k_0 (fun _ h9 => h9) rfl dX8_work_30 ?_
        refine lv_iload_n hx hb dX8_work_33 rfl (lv_at hl 2 rfl) ?_
        refine lv_iload_n hx hb dX8_work_34 rfl (lv_at hl 3 rfl) ?_
        refine lv_iconst (v := (-1)) hx hb dX8_work_35 (by decide) ?_
        obtain ⟨y36_0, q36, h⟩ := bi1e h
        have J36 : ∀ (wy36_0 : Int32), some (wy36_0) = some (y36_0) → ∀ (H : Heap) (locs : List Loc) (ls : Array Slot), va_P D vwCl (wM ad cA F G) H → va_D A (wM ad cA F G) → va_S A s.heap H locs → lv_has ls 4 [(3, .int (x28)), (0, .ref (ad 0)), (1, .int (a1)), (2, .int (a2))] → W p l e ({ frames := 2, cells := 0, slots := 0, locals := 43 } : Room) s m args below meth c H locs 0 0 Q (F0 m 45 ls [.int (wy36_0), .int (a1), .ref (ad 5)]) := by
          intro wy36_0 e9 H locs ls hP hD hS hl
          cases e9
          obtain ⟨g45, h⟩ := og h
          obtain ⟨G45, eG45⟩ : ∃ z : tG, z = stG G 4 a1 y36_0 := ⟨_, rfl⟩
          replace h := pl h eG45
          refine va_iast (D := D) hx hb hK hP hD hS 5 0 wMg5 rfl (inB_in g45) dX8_work_45 (fun H locs hP hD hS => ?_)
          rw [wMa4 eG45] at hP hD
          refine lv_iload_n hx hb dX8_work_46 rfl (lv_at hl 0 rfl) ?_
          exact hret _ _ _ _ _ _ _ dX8_work_47 h hP hD hS
        refine lv_icmp_ne (tgt := 44) hx hb dX8_work_36 (by decide) (fun c36 => ?_) (fun c36 => ?_)
        · replace q36 := ifn q36 c36
          refine lv_iload_n hx hb dX8_work_44 rfl (lv_at hl 3 rfl) ?_
          exact J36 _ q36 _ _ _ hP hD hS (lv_sub hl [0, 1, 2, 3] rfl)
        · replace q36 := ifp q36 c36
          refine lv_bipush (v := (-6)) hx hb dX8_work_39 (by decide) ?_
          refine lv_goto (tgt := 45) hx hb dX8_work_41 (by decide) ?_
          exact J36 _ q36 _ _ _ hP hD hS (lv_sub hl [0, 1, 2, 3] rfl)
      · replace h := ifp h c17
        refine lv_iconst (v := (-1)) hx hb dX8_work_20 (by decide) ?_
        exact hret _ _ _ _ _ _ _ dX8_work_21 h hP hD hS
