def p_X8_man (G : tG) (a1 : Int32) (a2 : Int32) : Option (Int32) :=
  bi1 (p_X8_isMan a1) (fun x1 => (if x1 = 0 then some (-1) else oguard (inB a1 6) (bi1 ((if (G 0 a1.toNatClampNeg) = 2 then some (1) else some (0))) (fun (y16_0 : Int32) => (if a2 = 0 then oguard (inB a1 6) (some (G 0 a1.toNatClampNeg)) else (if a2 = 1 then bi1 ((if y16_0 = 0 then some ((-6)) else oguard (inB a1 6) (some ((G 1 a1.toNatClampNeg))))) (fun (y68_0 : Int32) => some y68_0) else (if a2 = 2 then bi1 ((if y16_0 = 0 then some ((-6)) else oguard (inB a1 6) (some ((G 2 a1.toNatClampNeg))))) (fun (y84_0 : Int32) => some y84_0) else (if a2 = 3 then bi1 ((if y16_0 = 0 then some (0) else oguard (inB a1 6) (some ((G 3 a1.toNatClampNeg))))) (fun (y100_0 : Int32) => some y100_0) else (if a2 = 4 then oguard (inB a1 6) (some (G 4 a1.toNatClampNeg)) else some (-2))))))))))
set_option maxHeartbeats 4000000 in
set_option maxRecDepth 100000 in
theorem c_X8_man (l : Launch) (D : va_G) (ad : Nat → Nat) (cA : ClassId) (n : Nat) (F : tF) (G : tG) (a1 : Int32) (a2 : Int32) {r : Int32} (h : p_X8_man G a1 a2 = some r) : CI l yX8_man wsX8_man ({ frames := 2, cells := 0, slots := 0, locals := 42 } : Room) D cA (wM ad cA F G) [.ref (ad 0), .int (a1), .int (a2)] r (wM ad cA F G) := by
  rw [p_X8_man] at h
  refine metIr (w := wM ad cA) (cc := cX8_man) (maxL := 4) (by decide) rfl (Nat.le_of_ble_eq_true rfl) ?_
  intro p e s m args below meth c A ls Q hE hret
  obtain ⟨hx, hb, hts, hown, hml, hP, hK, hD, hN, hA, hl⟩ := hE
  have hown : s.vm.findClass RX8 = some m.cls := hown
  have hl : lv_has ls 4 [(0, .ref (ad 0)), (1, .int (a1)), (2, .int (a2))] := hl
  have hS : va_S A s.heap s.heap [] := va_S.rf
  have k_0 : (Cond.fieldLink RX8 31 "BellBookModel" "where" "[I").before args s = true := hts _ (List.mem_of_getElem? (i := 1) rfl)
  have n_8 : ∀ w ∈ u_ws RX8 TX8 46, w ∈ wsX8_man := fun w hw => List.mem_cons_of_mem _ (List.mem_append_right _ hw)
  have k_2 : (Cond.fieldLink RX8 35 "BellBookModel" "square" "[I").before args s = true := hts _ (List.mem_of_getElem? (i := 2) rfl)
  have k_3 : (Cond.fieldLink RX8 38 "BellBookModel" "hoseOf" "[I").before args s = true := hts _ (List.mem_of_getElem? (i := 3) rfl)
  have k_4 : (Cond.fieldLink RX8 41 "BellBookModel" "count" "[I").before args s = true := hts _ (List.mem_of_getElem? (i := 4) rfl)
  have k_5 : (Cond.fieldLink RX8 44 "BellBookModel" "workOf" "[I").before args s = true := hts _ (List.mem_of_getElem? (i := 5) rfl)
  refine lv_iload_n hx hb dX8_man_0 rfl (lv_at hl 1 rfl) ?_
  obtain ⟨x1, h1, h⟩ := bi1e h
  refine callSI (As := [.int (a1)]) (rest := []) ⟨hx, hb, hml, hown, hts⟩ (c_X8_isMan l D ad cA n F G a1 h1) (va_cwS 1 hts gX8_man_X8_isMan rfl rfl rfl (by decide +kernel) ⟨Nat.le_of_ble_eq_true rfl, Nat.le_of_ble_eq_true rfl⟩) hP hK hD hN hS hA rfl hl.1 rfl (Nat.le_of_ble_eq_true rfl) dX8_man_1 ⟨Nat.zero_le _, Nat.zero_le _⟩ (fun H locs hP hD hS => ?_)
  refine lv_if_ne (tgt := 9) hx hb dX8_man_4 (by decide) (fun c4 => ?_) (fun c4 => ?_)
  · replace h := ifn h c4
    refine lv_aload_n hx hb dX8_man_9 rfl (lv_at hl 0 rfl) ?_
    refine va_get (D := D) (ci := 8) (fs := vX8 ad F) (v := .ref (ad 1)) (C := RX8) (T := TX8) (N := 46) hx hb hts n_8 hown hK hP 0 wMg0 rfl 15 (by decide) k_0 (fun _ h9 => h9) rfl dX8_man_10 ?_
    refine lv_iload_n hx hb dX8_man_13 rfl (lv_at hl 1 rfl) ?_
    obtain ⟨g14, h⟩ := og h
    refine va_iald (D := D) hx hb hK hP 1 0 wMg1 rfl (inB_in g14) dX8_man_14 ?_
    refine lv_iconst (v := 2) hx hb dX8_man_15 (by decide) ?_
    obtain ⟨y16_0, q16, h⟩ := bi1e h
    have J16 : ∀ (wy16_0 : Int32), some (wy16_0) = some (y16_0) → ∀ (H : Heap) (locs : List Loc) (ls : Array Slot), va_P D vwCl (wM ad cA F G) H → va_D A (wM ad cA F G) → va_S A s.heap H locs → lv_has ls 4 [(0, .ref (ad 0)), (1, .int (a1)), (2, .int (a2))] → W p l e ({ frames := 2, cells := 0, slots := 0, locals := 42 } : Room) s m args below meth c H locs 0 0 Q (F0 m 24 ls [.int (wy16_0)]) := by
      intro wy16_0 e9 H locs ls hP hD hS hl
      cases e9
      refine lv_istore_n (lv' := [(3, .int (y16_0)), (0, .ref (ad 0)), (1, .int (a1)), (2, .int (a2))]) hx hb dX8_man_24 rfl hl (by decide) rfl (fun ls hl => ?_)
      refine lv_iload_n hx hb dX8_man_25 rfl (lv_at hl 3 rfl) ?_
      by_cases c26_0 : a2 = 0
      · replace h := ifp h c26_0
        refine lv_tableIn (off := 34) (tgt := 60) hx hb dX8_man_26 (by rw [c26_0]; decide) (by rw [c26_0]; decide) (by rw [c26_0]; decide) (by decide) ?_
        refine lv_aload_n hx hb dX8_man_60 rfl (lv_at hl 1 rfl) ?_
        refine va_get (D := D) (ci := 8) (fs := vX8 ad F) (v := .ref (ad 1)) (C := RX8) (T := TX8) (N := 46) hx hb hts n_8 hown hK hP 0 wMg0 rfl 15 (by decide) k_0 (fun _ h9 => h9) rfl dX8_man_61 ?_
        refine lv_iload_n hx hb dX8_man_64 rfl (lv_at hl 2 rfl) ?_
        obtain ⟨g65, h⟩ := og h
        refine va_iald (D := D) hx hb hK hP 1 0 wMg1 rfl (inB_in g65) dX8_man_65 ?_
        exact hret _ _ _ _ _ dX8_man_66 h hP hD hS
      replace h := ifn h c26_0
      by_cases c26_1 : a2 = 1
      · replace h := ifp h c26_1
        refine lv_tableIn (off := 41) (tgt := 67) hx hb dX8_man_26 (by rw [c26_1]; decide) (by rw [c26_1]; decide) (by rw [c26_1]; decide) (by decide) ?_
        refine lv_iload_n hx hb dX8_man_67 rfl (lv_at hl 0 rfl) ?_
        obtain ⟨y68_0, q68, h⟩ := bi1e h
        have J68 : ∀ (wy68_0 : Int32), some (wy68_0) = some (y68_0) → ∀ (H : Heap) (locs : List Loc) (ls : Array Slot), va_P D vwCl (wM ad cA F G) H → va_D A (wM ad cA F G) → va_S A s.heap H locs → lv_has ls 4 [(3, .int (y16_0)), (0, .ref (ad 0)), (1, .int (a1)), (2, .int (a2))] → W p l e ({ frames := 2, cells := 0, slots := 0, locals := 42 } : Room) s m args below meth c H locs 0 0 Q (F0 m 82 ls [.int (wy68_0)]) := by
          intro wy68_0 e9 H locs ls hP hD hS hl
          cases e9
          exact hret _ _ _ _ _ dX8_man_82 h hP hD hS
        refine lv_if_eq (tgt := 80) hx hb dX8_man_68 (by decide) (fun c68 => ?_) (fun c68 => ?_)
        · replace q68 := ifp q68 c68
          refine lv_bipush (v := (-6)) hx hb dX8_man_80 (by decide) ?_
          exact J68 _ q68 _ _ _ hP hD hS (lv_sub hl [0, 1, 2, 3] rfl)
        · replace q68 := ifn q68 c68
          refine lv_aload_n hx hb dX8_man_71 rfl (lv_at hl 1 rfl) ?_
          refine va_get (D := D) (ci := 8) (fs := vX8 ad F) (v := .ref (ad 2)) (C := RX8) (T := TX8) (N := 46) hx hb hts n_8 hown hK hP 0 wMg0 rfl 16 (by decide) k_2 (fun _ h9 => h9) rfl dX8_man_72 ?_
          refine lv_iload_n hx hb dX8_man_75 rfl (lv_at hl 2 rfl) ?_
          obtain ⟨g76, q68⟩ := og q68
          refine va_iald (D := D) hx hb hK hP 2 0 wMg2 rfl (inB_in g76) dX8_man_76 ?_
          refine lv_goto (tgt := 82) hx hb dX8_man_77 (by decide) ?_
          exact J68 _ q68 _ _ _ hP hD hS (lv_sub hl [0, 1, 2, 3] rfl)
      replace h := ifn h c26_1
      by_cases c26_2 : a2 = 2
      · replace h := ifp h c26_2
        refine lv_tableIn (off := 57) (tgt := 83) hx hb dX8_man_26 (by rw [c26_2]; decide) (by rw [c26_2]; decide) (by rw [c26_2]; decide) (by decide) ?_
        refine lv_iload_n hx hb dX8_man_83 rfl (lv_at hl 0 rfl) ?_
        obtain ⟨y84_0, q84, h⟩ := bi1e h
        have J84 : ∀ (wy84_0 : Int32), some (wy84_0) = some (y84_0) → ∀ (H : Heap) (locs : List Loc) (ls : Array Slot), va_P D vwCl (wM ad cA F G) H → va_D A (wM ad cA F G) → va_S A s.heap H locs → lv_has ls 4 [(3, .int (y16_0)), (0, .ref (ad 0)), (1, .int (a1)), (2, .int (a2))] → W p l e ({ frames := 2, cells := 0, slots := 0, locals := 42 } : Room) s m args below meth c H locs 0 0 Q (F0 m 98 ls [.int (wy84_0)]) := by
          intro wy84_0 e9 H locs ls hP hD hS hl
          cases e9
          exact hret _ _ _ _ _ dX8_man_98 h hP hD hS
        refine lv_if_eq (tgt := 96) hx hb dX8_man_84 (by decide) (fun c84 => ?_) (fun c84 => ?_)
        · replace q84 := ifp q84 c84
          refine lv_bipush (v := (-6)) hx hb dX8_man_96 (by decide) ?_
          exact J84 _ q84 _ _ _ hP hD hS (lv_sub hl [0, 1, 2, 3] rfl)
        · replace q84 := ifn q84 c84
          refine lv_aload_n hx hb dX8_man_87 rfl (lv_at hl 1 rfl) ?_
          refine va_get (D := D) (ci := 8) (fs := vX8 ad F) (v := .ref (ad 3)) (C := RX8) (T := TX8) (N := 46) hx hb hts n_8 hown hK hP 0 wMg0 rfl 17 (by decide) k_3 (fun _ h9 => h9) rfl dX8_man_88 ?_
          refine lv_iload_n hx hb dX8_man_91 rfl (lv_at hl 2 rfl) ?_
          obtain ⟨g92, q84⟩ := og q84
          refine va_iald (D := D) hx hb hK hP 3 0 wMg3 rfl (inB_in g92) dX8_man_92 ?_
          refine lv_goto (tgt := 98) hx hb dX8_man_93 (by decide) ?_
          exact J84 _ q84 _ _ _ hP hD hS (lv_sub hl [0, 1, 2, 3] rfl)
      replace h := ifn h c26_2
      by_cases c26_3 : a2 = 3
      · replace h := ifp h c26_3
        refine lv_tableIn (off := 73) (tgt := 99) hx hb dX8_man_26 (by rw [c26_3]; decide) (by rw [c26_3]; decide) (by rw [c26_3]; decide) (by decide) ?_
        refine lv_iload_n hx hb dX8_man_99 rfl (lv_at hl 0 rfl) ?_
        obtain ⟨y100_0, q100, h⟩ := bi1e h
        have J100 : ∀ (wy100_0 : Int32), some (wy100_0) = some (y100_0) → ∀ (H : Heap) (locs : List Loc) (ls : Array Slot), va_P D vwCl (wM ad cA F G) H → va_D A (wM ad cA F G) → va_S A s.heap H locs → lv_has ls 4 [(3, .int (y16_0)), (0, .ref (ad 0)), (1, .int (a1)), (2, .int (a2))] → W p l e ({ frames := 2, cells := 0, slots := 0, locals := 42 } : Room) s m args below meth c H locs 0 0 Q (F0 m 113 ls [.int (wy100_0)]) := by
          intro wy100_0 e9 H locs ls hP hD hS hl
          cases e9
          exact hret _ _ _ _ _ dX8_man_113 h hP hD hS
        refine lv_if_eq (tgt := 112) hx hb dX8_man_100 (by decide) (fun c100 => ?_) (fun c100 => ?_)
        · replace q100 := ifp q100 c100
          refine lv_iconst (v := 0) hx hb dX8_man_112 (by decide) ?_
          exact J100 _ q100 _ _ _ hP hD hS (lv_sub hl [0, 1, 2, 3] rfl)
        · replace q100 := ifn q100 c100
          refine lv_aload_n hx hb dX8_man_103 rfl (lv_at hl 1 rfl) ?_
          refine va_get (D := D) (ci := 8) (fs := vX8 ad F) (v := .ref (ad 4)) (C := RX8) (T := TX8) (N := 46) hx hb hts n_8 hown hK hP 0 wMg0 rfl 18 (by decide) k_4 (fun _ h9 => h9) rfl dX8_man_104 ?_
          refine lv_iload_n hx hb dX8_man_107 rfl (lv_at hl 2 rfl) ?_
          obtain ⟨g108, q100⟩ := og q100
          refine va_iald (D := D) hx hb hK hP 4 0 wMg4 rfl (inB_in g108) dX8_man_108 ?_
          refine lv_goto (tgt := 113) hx hb dX8_man_109 (by decide) ?_
          exact J100 _ q100 _ _ _ hP hD hS (lv_sub hl [0, 1, 2, 3] rfl)
      replace h := ifn h c26_3
      by_cases c26_4 : a2 = 4
      · replace h := ifp h c26_4
        refine lv_tableIn (off := 88) (tgt := 114) hx hb dX8_man_26 (by rw [c26_4]; decide) (by rw [c26_4]; decide) (by rw [c26_4]; decide) (by decide) ?_
        refine lv_aload_n hx hb dX8_man_114 rfl (lv_at hl 1 rfl) ?_
        refine va_get (D := D) (ci := 8) (fs := vX8 ad F) (v := .ref (ad 5)) (C := RX8) (T := TX8) (N := 46) hx hb hts n_8 hown hK hP 0 wMg0 rfl 19 (by decide) k_5 (fun _ h9 => h9) rfl dX8_man_115 ?_
        refine lv_iload_n hx hb dX8_man_118 rfl (lv_at hl 2 rfl) ?_
        obtain ⟨g119, h⟩ := og h
        refine va_iald (D := D) hx hb hK hP 5 0 wMg5 rfl (inB_in g119) dX8_man_119 ?_
        exact hret _ _ _ _ _ dX8_man_120 h hP hD hS
      replace h := ifn h c26_4
      have ic26_0 : a2.toInt ≠ 0 := ne_toInt c26_0
      have ic26_1 : a2.toInt ≠ 1 := ne_toInt c26_1
      have ic26_2 : a2.toInt ≠ 2 := ne_toInt c26_2
      have ic26_3 : a2.toInt ≠ 3 := ne_toInt c26_3
      have ic26_4 : a2.toInt ≠ 4 := ne_toInt c26_4
      refine lv_tableOut (tgt := 121) hx hb dX8_man_26 (by omega) (by decide) ?_
      refine lv_bipush (v := (-2)) hx hb dX8_man_121 (by decide) ?_
      exact hret _ _ _ _ _ dX8_man_123 h hP hD hS
    refine lv_icmp_ne (tgt := 23) hx hb dX8_man_16 (by decide) (fun c16 => ?_) (fun c16 => ?_)
    · replace q16 := ifn q16 c16
      refine lv_iconst (v := 0) hx hb dX8_man_23 (by decide) ?_
      exact J16 _ q16 _ _ _ hP hD hS (lv_sub hl [0, 1, 2] rfl)
    · replace q16 := ifp q16 c16
      refine lv_iconst (v := 1) hx hb dX8_man_19 (by decide) ?_
      refine lv_goto (tgt := 24) hx hb dX8_man_20 (by decide) ?_
      exact J16 _ q16 _ _ _ hP hD hS (lv_sub hl [0, 1, 2] rfl)
  · replace h := ifp h c4
    refine lv_iconst (v := (-1)) hx hb dX8_man_7 (by decide) ?_
    exact hret _ _ _ _ _ dX8_man_8 h hP hD hS

def p_X8_minutes_L26 (n : Nat) (K26 : Int32 → Int32 → tF → tG → Option (Int32 × tF × tG)) : Nat → Int32 → Int32 → tF → tG → Option (Int32 × tF × tG)
  | 0, _, _, _, _ => none
  | k26 + 1, z26_0, z26_1, F26l, G26l => (if 6 ≤ z26_0 then K26 z26_0 z26_1 F26l G26l else oguard (inB z26_0 6) (bi3 ((if (G26l 0 z26_0.toNatClampNeg) = 0 then some (0, F26l, G26l) else bi3 (p_X8_live n F26l G26l z26_0) (fun x51 F51 G51 => some (x51, F51, G51)))) (fun (y41_0 : Int32) (F41j : tF) (G41j : tG) => plet (z26_1 + y41_0) (fun (x55 : Int32) => plet (z26_0 + 1) (fun (x56 : Int32) => p_X8_minutes_L26 n K26 k26 x56 x55 F41j G41j)))))
theorem p_X8_minutes_L26_k {n : Nat} {K0 : Int32 → Int32 → tF → tG → Option (Int32 × tF × tG)} {k : Nat} {z26_0 : Int32} {z26_1 : Int32} {F26l : tF} {G26l : tG} {x : Int32 × tF × tG} (h : p_X8_minutes_L26 n K0 k z26_0 z26_1 F26l G26l = some x) : ∃ K, K = K0 ∧ p_X8_minutes_L26 n K k z26_0 z26_1 F26l G26l = some x := ⟨K0, rfl, h⟩
def p_X8_minutes_L18 (n : Nat) (a1 : Int32) (K18 : Int32 → Int32 → tF → tG → Option (Int32 × tF × tG)) : Nat → Int32 → Int32 → tF → tG → Option (Int32 × tF × tG)
  | 0, _, _, _, _ => none
  | k18 + 1, z18_0, z18_1, F18l, G18l => (if a1 ≤ z18_0 then K18 z18_0 z18_1 F18l G18l else p_X8_minutes_L26 n (fun (z26_0 : Int32) (z26_1 : Int32) (F26l : tF) (G26l : tG) => plet (z18_0 + 1) (fun (x62 : Int32) => p_X8_minutes_L18 n a1 K18 k18 x62 z26_1 F26l G26l)) n 0 z18_1 F18l G18l)
theorem p_X8_minutes_L18_k {n : Nat} {a1 : Int32} {K0 : Int32 → Int32 → tF → tG → Option (Int32 × tF × tG)} {k : Nat} {z18_0 : Int32} {z18_1 : Int32} {F18l : tF} {G18l : tG} {x : Int32 × tF × tG} (h : p_X8_minutes_L18 n a1 K0 k z18_0 z18_1 F18l G18l = some x) : ∃ K, K = K0 ∧ p_X8_minutes_L18 n a1 K k z18_0 z18_1 F18l G18l = some x := ⟨K0, rfl, h⟩
def p_X8_minutes (n : Nat) (F : tF) (G : tG) (a1 : Int32) : Option (Int32 × tF × tG) :=
  bi1 (p_X8_in a1 1 200) (fun x5 => (if x5 = 0 then some ((-2), F, G) else p_X8_minutes_L18 n a1 (fun (z18_0 : Int32) (z18_1 : Int32) (F18l : tF) (G18l : tG) => plet (upd F18l 13 ((F18l 13) + a1)) (fun (F75 : tF) => some (z18_1, F75, G18l))) n 0 0 F G))
set_option maxHeartbeats 4000000 in
set_option maxRecDepth 100000 in
theorem c_X8_minutes (l : Launch) (D : va_G) (ad : Nat → Nat) (cA : ClassId) (n : Nat) (F : tF) (G : tG) (a1 : Int32) {r : Int32} {F' : tF} {G' : tG} (h : p_X8_minutes n F G a1 = some (r, F', G')) : CI l yX8_minutes wsX8_minutes ({ frames := 3, cells := 0, slots := 0, locals := 67 } : Room) D cA (wM ad cA F G) [.ref (ad 0), .int (a1)] r (wM ad cA F' G') := by
  rw [p_X8_minutes] at h
  refine metIm (w := wM ad cA) (cc := cX8_minutes) (maxL := 5) (by decide) rfl (Nat.le_of_ble_eq_true rfl) ?_
  intro p e s m args below meth c A ls Q hE hret
  obtain ⟨hx, hb, hts, hown, hml, hP, hK, hD, hN, hA, hl⟩ := hE
  have hown : s.vm.findClass RX8 = some m.cls := hown
  have hl : lv_has ls 5 [(0, .ref (ad 0)), (1, .int (a1))] := hl
  have hS : va_S A s.heap s.heap [] := va_S.rf
  have k_0 : (Cond.fieldLink RX8 31 "BellBookModel" "where" "[I").before args s = true := hts _ (List.mem_of_getElem? (i := 1) rfl)
  have n_8 : ∀ w ∈ u_ws RX8 TX8 46, w ∈ wsX8_minutes := fun w hw => List.mem_cons_of_mem _ (List.mem_append_right _ hw)
  have k_2 : (Cond.fieldLink RX8 151 "BellBookModel" "minute" "I").before args s = true := hts _ (List.mem_of_getElem? (i := 2) rfl)
  refine lv_iload_n hx hb dX8_minutes_0 rfl (lv_at hl 1 rfl) ?_
  refine lv_iconst (v := 1) hx hb dX8_minutes_1 (by decide) ?_
  refine lv_sipush (v := 200) hx hb dX8_minutes_2 (by decide) ?_
  obtain ⟨x5, h5, h⟩ := bi1e h
  refine callSI (As := [.int (a1), .int (1), .int (200)]) (rest := []) ⟨hx, hb, hml, hown, hts⟩ (c_X8_in l D ad cA n F G a1 1 200 h5) (va_cwS 3 hts gX8_minutes_X8_in rfl rfl rfl (by decide +kernel) ⟨Nat.le_of_ble_eq_true rfl, Nat.le_of_ble_eq_true rfl⟩) hP hK hD hN hS hA rfl hl.1 rfl (Nat.le_of_ble_eq_true rfl) dX8_minutes_5 ⟨Nat.zero_le _, Nat.zero_le _⟩ (fun H locs hP hD hS => ?_)
  refine lv_if_ne (tgt := 14) hx hb dX8_minutes_8 (by decide) (fun c8 => ?_) (fun c8 => ?_)
  · replace h := ifn h c8
    refine lv_iconst (v := 0) hx hb dX8_minutes_14 (by decide) ?_
    refine lv_istore_n (lv' := [(2, .int (0)), (0, .ref (ad 0)), (1, .int (a1))]) hx hb dX8_minutes_15 rfl hl (by decide) rfl (fun ls hl => ?_)
    refine lv_iconst (v := 0) hx hb dX8_minutes_16 (by decide) ?_
    refine lv_istore_n (lv' := [(3, .int (0)), (2, .int (0)), (0, .ref (ad 0)), (1, .int (a1))]) hx hb dX8_minutes_17 rfl hl (by decide) rfl (fun ls hl => ?_)
    obtain ⟨K18, eK18, h⟩ := p_X8_minutes_L18_k h
    have JE18 : ∀ (z18_0 : Int32) (z18_1 : Int32) (F18l : tF) (G18l : tG) (H : Heap) (locs : List Loc) (ls : Array Slot), K18 z18_0 z18_1 F18l G18l = some (r, F', G') → va_P D vwCl (wM ad cA F18l G18l) H → va_D A (wM ad cA F18l G18l) → va_S A s.heap H locs → lv_has ls 5 [(3, .int (z18_0)), (2, .int (z18_1)), (0, .ref (ad 0)), (1, .int (a1))] → W p l e ({ frames := 3, cells := 0, slots := 0, locals := 67 } : Room) s m args below meth c H locs 0 0 Q (F0 m 68 ls []) := by
      intro z18_0 z18_1 F18l G18l H locs ls h hP hD hS hl
      rw [eK18] at h
      refine lv_aload_n hx hb dX8_minutes_68 rfl (lv_at hl 2 rfl) ?_
      refine lv_dup hx hb dX8_minutes_69 rfl ?_
      refine va_get (D := D) (ci := 8) (fs := vX8 ad F18l) (v := .int ((F18l 13))) (C := RX8) (T := TX8) (N := 46) hx hb hts n_8 hown hK hP 0 wMg0 rfl 13 (by decide) k_2 (fun _ h9 => h9) rfl dX8_minutes_70 ?_
      refine lv_iload_n hx hb dX8_minutes_73 rfl (lv_at hl 3 rfl) ?_
      refine lv_iadd hx hb dX8_minutes_74 ?_
      obtain ⟨F75, eF75⟩ : ∃ f : tF, f = upd F18l 13 ((F18l 13) + a1) := ⟨_, rfl⟩
      replace h := pl h eF75
      refine va_put (D := D) (ci := 8) (fs := vX8 ad F18l) (v := .int (((F18l 13) + a1))) (ty := .int) (C := RX8) (T := TX8) (N := 46) hx hb hts n_8 tyX8 tyX8_ok nmX8 hown hK hP hD hS 0 wMg0 rfl 13 (by decide) k_2 (fun _ h9 => h9) rfl (tyX8_ok 13 (by decide)) rfl rfl (Nat.le_of_ble_eq_true rfl) dX8_minutes_75 (fun H locs hP hD hS => ?_)
      rw [wMp13 eF75] at hP hD
      refine lv_iload_n hx hb dX8_minutes_78 rfl (lv_at hl 1 rfl) ?_
      exact hret _ _ _ _ _ _ _ dX8_minutes_79 h hP hD hS
    have LL18 : ∀ (k : Nat) (z18_0 : Int32) (z18_1 : Int32) (F18l : tF) (G18l : tG) (H : Heap) (locs : List Loc) (ls : Array Slot), p_X8_minutes_L18 n a1 K18 k z18_0 z18_1 F18l G18l = some (r, F', G') → va_P D vwCl (wM ad cA F18l G18l) H → va_D A (wM ad cA F18l G18l) → va_S A s.heap H locs → lv_has ls 5 [(3, .int (z18_0)), (2, .int (z18_1)), (0, .ref (ad 0)), (1, .int (a1))] → W p l e ({ frames := 3, cells := 0, slots := 0, locals := 67 } : Room) s m args below meth c H locs 0 0 Q (F0 m 18 ls []) := by
      intro k
      induction k with
      | zero =>
        intro z18_0 z18_1 F18l G18l H locs ls h hP hD hS hl
        rw [p_X8_minutes_L18] at h
        cases h
      | succ k18 ih18 =>
        intro z18_0 z18_1 F18l G18l H locs ls h hP hD hS hl
        rw [p_X8_minutes_L18] at h
        refine lv_iload_n hx hb dX8_minutes_18 rfl (lv_at hl 0 rfl) ?_
        refine lv_iload_n hx hb dX8_minutes_19 rfl (lv_at hl 3 rfl) ?_
        refine lv_icmp_ge (tgt := 68) hx hb dX8_minutes_20 (by decide) (fun c20 => ?_) (fun c20 => ?_)
        · replace h := ifp h c20
          exact JE18 _ _ _ _ _ _ _ h hP hD hS (lv_sub hl [0, 1, 2, 3] rfl)
        · replace h := ifn h c20
          refine lv_iconst (v := 0) hx hb dX8_minutes_23 (by decide) ?_
          refine lv_istore (lv' := [(4, .int (0)), (3, .int (z18_0)), (2, .int (z18_1)), (0, .ref (ad 0)), (1, .int (a1))]) hx hb dX8_minutes_24 hl (by decide) rfl (fun ls hl => ?_)
          obtain ⟨K26, eK26, h⟩ := p_X8_minutes_L26_k h
          have JE26 : ∀ (z26_0 : Int32) (z26_1 : Int32) (F26l : tF) (G26l : tG) (H : Heap) (locs : List Loc) (ls : Array Slot), K26 z26_0 z26_1 F26l G26l = some (r, F', G') → va_P D vwCl (wM ad cA F26l G26l) H → va_D A (wM ad cA F26l G26l) → va_S A s.heap H locs → lv_has ls 5 [(4, .int (z26_0)), (3, .int (z18_0)), (2, .int (z26_1)), (0, .ref (ad 0)), (1, .int (a1))] → W p l e ({ frames := 3, cells := 0, slots := 0, locals := 67 } : Room) s m args below meth c H locs 0 0 Q (F0 m 62 ls []) := by
            intro z26_0 z26_1 F26l G26l H locs ls h hP hD hS hl
            rw [eK26] at h
            obtain ⟨x62, ex62⟩ : ∃ z : Int32, z = (z18_0 + 1) := ⟨_, rfl⟩
            replace h := pl h ex62
            refine lv_iinc (v := x62) (lv' := [(3, .int (x62)), (4, .int (z26_0)), (2, .int (z26_1)), (0, .ref (ad 0)), (1, .int (a1))]) hx hb dX8_minutes_62 hl (k := 1) rfl (by rw [ex62]; rfl) (by decide) rfl (fun ls hl => ?_)
            refine lv_goto (tgt := 18) hx hb dX8_minutes_65 (by decide) ?_
            exact ih18 _ _ _ _ _ _ _ h hP hD hS (lv_sub hl [0, 2, 3, 4] rfl)
          have LL26 : ∀ (k : Nat) (z26_0 : Int32) (z26_1 : Int32) (F26l : tF) (G26l : tG) (H : Heap) (locs : List Loc) (ls : Array Slot), p_X8_minutes_L26 n K26 k z26_0 z26_1 F26l G26l = some (r, F', G') → va_P D vwCl (wM ad cA F26l G26l) H → va_D A (wM ad cA F26l G26l) → va_S A s.heap H locs → lv_has ls 5 [(4, .int (z26_0)), (3, .int (z18_0)), (2, .int (z26_1)), (0, .ref (ad 0)), (1, .int (a1))] → W p l e ({ frames := 3, cells := 0, slots := 0, locals := 67 } : Room) s m args below meth c H locs 0 0 Q (F0 m 26 ls []) := by
            intro k
            induction k with
            | zero =>
              intro z26_0 z26_1 F26l G26l H locs ls h hP hD hS hl
              rw [p_X8_minutes_L26] at h
              cases h
            | succ k26 ih26 =>
              intro z26_0 z26_1 F26l G26l H locs ls h hP hD hS hl
              rw [p_X8_minutes_L26] at h
              refine lv_iload hx hb dX8_minutes_26 (lv_at hl 0 rfl) ?_
              refine lv_bipush (v := 6) hx hb dX8_minutes_28 (by decide) ?_
              refine lv_icmp_ge (tgt := 62) hx hb dX8_minutes_30 (by decide) (fun c30 => ?_) (fun c30 => ?_)
              · replace h := ifp h c30
                exact JE26 _ _ _ _ _ _ _ h hP hD hS (lv_sub hl [0, 1, 2, 3, 4] rfl)
              · replace h := ifn h c30
                refine lv_iload_n hx hb dX8_minutes_33 rfl (lv_at hl 2 rfl) ?_
                refine lv_aload_n hx hb dX8_minutes_34 rfl (lv_at hl 3 rfl) ?_
                refine va_get (D := D) (ci := 8) (fs := vX8 ad F26l) (v := .ref (ad 1)) (C := RX8) (T := TX8) (N := 46) hx hb hts n_8 hown hK hP 0 wMg0 rfl 15 (by decide) k_0 (fun _ h9 => h9) rfl dX8_minutes_35 ?_
                refine lv_iload hx hb dX8_minutes_38 (lv_at hl 0 rfl) ?_
                obtain ⟨g40, h⟩ := og h
                refine va_iald (D := D) hx hb hK hP 1 0 wMg1 rfl (inB_in g40) dX8_minutes_40 ?_
                obtain ⟨y41_0, F41j, G41j, q41, h⟩ := bi3e h
                have J41 : ∀ (wy41_0 : Int32) (wF41j : tF) (wG41j : tG), some (wy41_0, wF41j, wG41j) = some (y41_0, F41j, G41j) → ∀ (H : Heap) (locs : List Loc) (ls : Array Slot), va_P D vwCl (wM ad cA wF41j wG41j) H → va_D A (wM ad cA wF41j wG41j) → va_S A s.heap H locs → lv_has ls 5 [(4, .int (z26_0)), (3, .int (z18_0)), (2, .int (z26_1)), (0, .ref (ad 0)), (1, .int (a1))] → W p l e ({ frames := 3, cells := 0, slots := 0, locals := 67 } : Room) s m args below meth c H locs 0 0 Q (F0 m 54 ls [.int (wy41_0), .int (z26_1)]) := by
                  intro wy41_0 wF41j wG41j e9 H locs ls hP hD hS hl
                  cases e9
                  refine lv_iadd hx hb dX8_minutes_54 ?_
                  refine lv_topi (fun x55 ex55 => ?_)
                  replace h := pl h ex55
                  refine lv_istore_n (lv' := [(2, .int (x55)), (4, .int (z26_0)), (3, .int (z18_0)), (0, .ref (ad 0)), (1, .int (a1))]) hx hb dX8_minutes_55 rfl hl (by decide) rfl (fun ls hl => ?_)
                  obtain ⟨x56, ex56⟩ : ∃ z : Int32, z = (z26_0 + 1) := ⟨_, rfl⟩
                  replace h := pl h ex56
                  refine lv_iinc (v := x56) (lv' := [(4, .int (x56)), (2, .int (x55)), (3, .int (z18_0)), (0, .ref (ad 0)), (1, .int (a1))]) hx hb dX8_minutes_56 hl (k := 1) rfl (by rw [ex56]; rfl) (by decide) rfl (fun ls hl => ?_)
                  refine lv_goto (tgt := 26) hx hb dX8_minutes_59 (by decide) ?_
                  exact ih26 _ _ _ _ _ _ _ h hP hD hS (lv_sub hl [0, 2, 1, 3, 4] rfl)
                refine lv_if_ne (tgt := 48) hx hb dX8_minutes_41 (by decide) (fun c41 => ?_) (fun c41 => ?_)
                · replace q41 := ifn q41 c41
                  refine lv_aload_n hx hb dX8_minutes_48 rfl (lv_at hl 3 rfl) ?_
                  refine lv_iload hx hb dX8_minutes_49 (lv_at hl 0 rfl) ?_
                  obtain ⟨x51, F51, G51, h51, q41⟩ := bi3e q41
                  refine callVI (b := ad 0) (As := [.int (z26_0)]) (rest := [.int (z26_1)]) ⟨hx, hb, hml, hown, hts⟩ (c_X8_live l D ad cA n F26l G26l z26_0 h51) (cwV 1 hts gX8_minutes_X8_live rfl rfl rfl (by decide +kernel) ⟨Nat.le_of_ble_eq_true rfl, Nat.le_of_ble_eq_true rfl⟩) (va_recv hK hP (ci := 8) (q0 := 0) rfl wMg0) hP hK hD hN hS hA rfl hl.1 rfl (Nat.le_of_ble_eq_true rfl) dX8_minutes_51 ⟨Nat.zero_le _, Nat.zero_le _⟩ (fun H locs hP hD hS => ?_)
                  exact J41 _ _ _ q41 _ _ _ hP hD hS (lv_sub hl [0, 1, 2, 3, 4] rfl)
                · replace q41 := ifp q41 c41
                  refine lv_iconst (v := 0) hx hb dX8_minutes_44 (by decide) ?_
                  refine lv_goto (tgt := 54) hx hb dX8_minutes_45 (by decide) ?_
                  exact J41 _ _ _ q41 _ _ _ hP hD hS (lv_sub hl [0, 1, 2, 3, 4] rfl)
          exact LL26 n 0 z18_1 F18l G18l _ _ _ h hP hD hS (lv_sub hl [0, 1, 2, 3, 4] rfl)
    exact LL18 n 0 0 F G _ _ _ h hP hD hS (lv_sub hl [0, 1, 2, 3] rfl)
  · replace h := ifp h c8
    refine lv_bipush (v := (-2)) hx hb dX8_minutes_11 (by decide) ?_
    exact hret _ _ _ _ _ _ _ dX8_minutes_13 h hP hD hS

def p_X8_ofThing (F : tF) (G : tG) (a1 : Int32) (a2 : Int32) : Option (Int32) :=
  bi1 (p_X8_isThing F a1) (fun x2 => (if x2 = 0 then some (-1) else bi1 (p_X8_in a2 0 4) (fun x13 => (if x13 = 0 then (if a2 = 5 then some (((F 16) >>> (a1 &&& 31)) &&& 1) else (if a2 = 6 then bi1 (p_X8_isFree F G a1) (fun x71 => bi1 ((if x71 = 0 then some (0) else some (1))) (fun (y74_0 : Int32) => some y74_0)) else (if a2 = 7 then some (((F 17) >>> (a1 &&& 31)) &&& 1) else (if a2 = 8 then oguard (inB a1 12) (some (G 7 a1.toNatClampNeg)) else some (-2))))) else oguard (inB ((5 * a1) + a2) 60) (some (G 6 ((5 * a1) + a2).toNatClampNeg))))))
set_option maxHeartbeats 4000000 in
set_option maxRecDepth 100000 in
theorem c_X8_ofThing (l : Launch) (D : va_G) (ad : Nat → Nat) (cA : ClassId) (n : Nat) (F : tF) (G : tG) (a1 : Int32) (a2 : Int32) {r : Int32} (h : p_X8_ofThing F G a1 a2 = some r) : CI l yX8_ofThing wsX8_ofThing ({ frames := 2, cells := 0, slots := 0, locals := 43 } : Room) D cA (wM ad cA F G) [.ref (ad 0), .int (a1), .int (a2)] r (wM ad cA F G) := by
  rw [p_X8_ofThing] at h
  refine metIr (w := wM ad cA) (cc := cX8_ofThing) (maxL := 3) (by decide) rfl (Nat.le_of_ble_eq_true rfl) ?_
  intro p e s m args below meth c A ls Q hE hret
  obtain ⟨hx, hb, hts, hown, hml, hP, hK, hD, hN, hA, hl⟩ := hE
  have hown : s.vm.findClass RX8 = some m.cls := hown
  have hl : lv_has ls 3 [(0, .ref (ad 0)), (1, .int (a1)), (2, .int (a2))] := hl
  have hS : va_S A s.heap s.heap [] := va_S.rf
  have k_0 : (Cond.fieldLink RX8 138 "BellBookModel" "raised" "I").before args s = true := hts _ (List.mem_of_getElem? (i := 2) rfl)
  have n_8 : ∀ w ∈ u_ws RX8 TX8 46, w ∈ wsX8_ofThing := fun w hw => List.mem_cons_of_mem _ (List.mem_append_right _ hw)
  have k_2 : (Cond.fieldLink RX8 145 "BellBookModel" "tangled" "I").before args s = true := hts _ (List.mem_of_getElem? (i := 3) rfl)
  have k_3 : (Cond.fieldLink RX8 53 "BellBookModel" "under" "[I").before args s = true := hts _ (List.mem_of_getElem? (i := 4) rfl)
  have k_4 : (Cond.fieldLink RX8 50 "BellBookModel" "thing" "[I").before args s = true := hts _ (List.mem_of_getElem? (i := 1) rfl)
  refine lv_aload_n hx hb dX8_ofThing_0 rfl (lv_at hl 0 rfl) ?_
  refine lv_iload_n hx hb dX8_ofThing_1 rfl (lv_at hl 1 rfl) ?_
  obtain ⟨x2, h2, h⟩ := bi1e h
  refine callVI (b := ad 0) (As := [.int (a1)]) (rest := []) ⟨hx, hb, hml, hown, hts⟩ (c_X8_isThing l D ad cA n F G a1 h2) (cwV 1 hts gX8_ofThing_X8_isThing rfl rfl rfl (by decide +kernel) ⟨Nat.le_of_ble_eq_true rfl, Nat.le_of_ble_eq_true rfl⟩) (va_recv hK hP (ci := 8) (q0 := 0) rfl wMg0) hP hK hD hN hS hA rfl hl.1 rfl (Nat.le_of_ble_eq_true rfl) dX8_ofThing_2 ⟨Nat.zero_le _, Nat.zero_le _⟩ (fun H locs hP hD hS => ?_)
  refine lv_if_ne (tgt := 10) hx hb dX8_ofThing_5 (by decide) (fun c5 => ?_) (fun c5 => ?_)
  · replace h := ifn h c5
    refine lv_iload_n hx hb dX8_ofThing_10 rfl (lv_at hl 2 rfl) ?_
    refine lv_iconst (v := 0) hx hb dX8_ofThing_11 (by decide) ?_
    refine lv_iconst (v := 4) hx hb dX8_ofThing_12 (by decide) ?_
    obtain ⟨x13, h13, h⟩ := bi1e h
    refine callSI (As := [.int (a2), .int (0), .int (4)]) (rest := []) ⟨hx, hb, hml, hown, hts⟩ (c_X8_in l D ad cA n F G a2 0 4 h13) (va_cwS 3 hts gX8_ofThing_X8_in rfl rfl rfl (by decide +kernel) ⟨Nat.le_of_ble_eq_true rfl, Nat.le_of_ble_eq_true rfl⟩) hP hK hD hN hS hA rfl hl.1 rfl (Nat.le_of_ble_eq_true rfl) dX8_ofThing_13 ⟨Nat.zero_le _, Nat.zero_le _⟩ (fun H locs hP hD hS => ?_)
    refine lv_if_eq (tgt := 30) hx hb dX8_ofThing_16 (by decide) (fun c16 => ?_) (fun c16 => ?_)
    · replace h := ifp h c16
      refine lv_iload_n hx hb dX8_ofThing_30 rfl (lv_at hl 2 rfl) ?_
      by_cases c31_0 : a2 = 5
      · replace h := ifp h c31_0
        refine lv_tableIn (off := 29) (tgt := 60) hx hb dX8_ofThing_31 (by rw [c31_0]; decide) (by rw [c31_0]; decide) (by rw [c31_0]; decide) (by decide) ?_
        refine lv_aload_n hx hb dX8_ofThing_60 rfl (lv_at hl 0 rfl) ?_
        refine va_get (D := D) (ci := 8) (fs := vX8 ad F) (v := .int ((F 16))) (C := RX8) (T := TX8) (N := 46) hx hb hts n_8 hown hK hP 0 wMg0 rfl 24 (by decide) k_0 (fun _ h9 => h9) rfl dX8_ofThing_61 ?_
        refine lv_iload_n hx hb dX8_ofThing_64 rfl (lv_at hl 1 rfl) ?_
        refine lv_ishr hx hb dX8_ofThing_65 ?_
        refine lv_iconst (v := 1) hx hb dX8_ofThing_66 (by decide) ?_
        refine lv_iand hx hb dX8_ofThing_67 ?_
        exact hret _ _ _ _ _ dX8_ofThing_68 h hP hD hS
      replace h := ifn h c31_0
      by_cases c31_1 : a2 = 6
      · replace h := ifp h c31_1
        refine lv_tableIn (off := 38) (tgt := 69) hx hb dX8_ofThing_31 (by rw [c31_1]; decide) (by rw [c31_1]; decide) (by rw [c31_1]; decide) (by decide) ?_
        refine lv_aload_n hx hb dX8_ofThing_69 rfl (lv_at hl 0 rfl) ?_
        refine lv_iload_n hx hb dX8_ofThing_70 rfl (lv_at hl 1 rfl) ?_
        obtain ⟨x71, h71, h⟩ := bi1e h
        refine callVI (b := ad 0) (As := [.int (a1)]) (rest := []) ⟨hx, hb, hml, hown, hts⟩ (c_X8_isFree l D ad cA n F G a1 h71) (cwV 1 hts gX8_ofThing_X8_isFree rfl rfl rfl (by decide +kernel) ⟨Nat.le_of_ble_eq_true rfl, Nat.le_of_ble_eq_true rfl⟩) (va_recv hK hP (ci := 8) (q0 := 0) rfl wMg0) hP hK hD hN hS hA rfl hl.1 rfl (Nat.le_of_ble_eq_true rfl) dX8_ofThing_71 ⟨Nat.zero_le _, Nat.zero_le _⟩ (fun H locs hP hD hS => ?_)
        obtain ⟨y74_0, q74, h⟩ := bi1e h
        have J74 : ∀ (wy74_0 : Int32), some (wy74_0) = some (y74_0) → ∀ (H : Heap) (locs : List Loc) (ls : Array Slot), va_P D vwCl (wM ad cA F G) H → va_D A (wM ad cA F G) → va_S A s.heap H locs → lv_has ls 3 [(0, .ref (ad 0)), (1, .int (a1)), (2, .int (a2))] → W p l e ({ frames := 2, cells := 0, slots := 0, locals := 43 } : Room) s m args below meth c H locs 0 0 Q (F0 m 82 ls [.int (wy74_0)]) := by
          intro wy74_0 e9 H locs ls hP hD hS hl
          cases e9
          exact hret _ _ _ _ _ dX8_ofThing_82 h hP hD hS
        refine lv_if_eq (tgt := 81) hx hb dX8_ofThing_74 (by decide) (fun c74 => ?_) (fun c74 => ?_)
        · replace q74 := ifp q74 c74
          refine lv_iconst (v := 0) hx hb dX8_ofThing_81 (by decide) ?_
          exact J74 _ q74 _ _ _ hP hD hS (lv_sub hl [0, 1, 2] rfl)
        · replace q74 := ifn q74 c74
          refine lv_iconst (v := 1) hx hb dX8_ofThing_77 (by decide) ?_
          refine lv_goto (tgt := 82) hx hb dX8_ofThing_78 (by decide) ?_
          exact J74 _ q74 _ _ _ hP hD hS (lv_sub hl [0, 1, 2] rfl)
      replace h := ifn h c31_1
      by_cases c31_2 : a2 = 7
      · replace h := ifp h c31_2
        refine lv_tableIn (off := 52) (tgt := 83) hx hb dX8_ofThing_31 (by rw [c31_2]; decide) (by rw [c31_2]; decide) (by rw [c31_2]; decide) (by decide) ?_
        refine lv_aload_n hx hb dX8_ofThing_83 rfl (lv_at hl 0 rfl) ?_
        refine va_get (D := D) (ci := 8) (fs := vX8 ad F) (v := .int ((F 17))) (C := RX8) (T := TX8) (N := 46) hx hb hts n_8 hown hK hP 0 wMg0 rfl 25 (by decide) k_2 (fun _ h9 => h9) rfl dX8_ofThing_84 ?_
        refine lv_iload_n hx hb dX8_ofThing_87 rfl (lv_at hl 1 rfl) ?_
        refine lv_ishr hx hb dX8_ofThing_88 ?_
        refine lv_iconst (v := 1) hx hb dX8_ofThing_89 (by decide) ?_
        refine lv_iand hx hb dX8_ofThing_90 ?_
        exact hret _ _ _ _ _ dX8_ofThing_91 h hP hD hS
      replace h := ifn h c31_2
      by_cases c31_3 : a2 = 8
      · replace h := ifp h c31_3
        refine lv_tableIn (off := 61) (tgt := 92) hx hb dX8_ofThing_31 (by rw [c31_3]; decide) (by rw [c31_3]; decide) (by rw [c31_3]; decide) (by decide) ?_
        refine lv_aload_n hx hb dX8_ofThing_92 rfl (lv_at hl 0 rfl) ?_
        refine va_get (D := D) (ci := 8) (fs := vX8 ad F) (v := .ref (ad 8)) (C := RX8) (T := TX8) (N := 46) hx hb hts n_8 hown hK hP 0 wMg0 rfl 23 (by decide) k_3 (fun _ h9 => h9) rfl dX8_ofThing_93 ?_
        refine lv_iload_n hx hb dX8_ofThing_96 rfl (lv_at hl 1 rfl) ?_
        obtain ⟨g97, h⟩ := og h
        refine va_iald (D := D) hx hb hK hP 8 0 wMg8 rfl (inB_in g97) dX8_ofThing_97 ?_
        exact hret _ _ _ _ _ dX8_ofThing_98 h hP hD hS
      replace h := ifn h c31_3
      have ic31_0 : a2.toInt ≠ 5 := ne_toInt c31_0
      have ic31_1 : a2.toInt ≠ 6 := ne_toInt c31_1
      have ic31_2 : a2.toInt ≠ 7 := ne_toInt c31_2
      have ic31_3 : a2.toInt ≠ 8 := ne_toInt c31_3
      refine lv_tableOut (tgt := 99) hx hb dX8_ofThing_31 (by omega) (by decide) ?_
      refine lv_bipush (v := (-2)) hx hb dX8_ofThing_99 (by decide) ?_
      exact hret _ _ _ _ _ dX8_ofThing_101 h hP hD hS
    · replace h := ifn h c16
      refine lv_aload_n hx hb dX8_ofThing_19 rfl (lv_at hl 0 rfl) ?_
      refine va_get (D := D) (ci := 8) (fs := vX8 ad F) (v := .ref (ad 7)) (C := RX8) (T := TX8) (N := 46) hx hb hts n_8 hown hK hP 0 wMg0 rfl 22 (by decide) k_4 (fun _ h9 => h9) rfl dX8_ofThing_20 ?_
      refine lv_iconst (v := 5) hx hb dX8_ofThing_23 (by decide) ?_
      refine lv_iload_n hx hb dX8_ofThing_24 rfl (lv_at hl 1 rfl) ?_
      refine lv_imul hx hb dX8_ofThing_25 ?_
      refine lv_iload_n hx hb dX8_ofThing_26 rfl (lv_at hl 2 rfl) ?_
      refine lv_iadd hx hb dX8_ofThing_27 ?_
      obtain ⟨g28, h⟩ := og h
      refine va_iald (D := D) hx hb hK hP 7 0 wMg7 rfl (inB_in g28) dX8_ofThing_28 ?_
      exact hret _ _ _ _ _ dX8_ofThing_29 h hP hD hS
  · replace h := ifp h c5
    refine lv_iconst (v := (-1)) hx hb dX8_ofThing_8 (by decide) ?_
    exact hret _ _ _ _ _ dX8_ofThing_9 h hP hD hS

def p_X8_out (n : Nat) (F : tF) (G : tG) (a1 : Int32) (a2 : Int32) (a3 : Int32) : Option (Int32 × tF × tG) :=
  bi1 (p_X8_isMan a1) (fun x1 => (if x1 = 0 then some ((-1), F, G) else bi1 (p_X8_isHose a2) (fun x8 => (if x8 = 0 then some ((-1), F, G) else bi1 (p_X8_isSquare a3) (fun x15 => (if x15 = 0 then some ((-1), F, G) else oguard (inB a1 6) ((if (G 0 a1.toNatClampNeg) = 0 then some ((-3), F, G) else oguard (inB a1 6) ((if (G 0 a1.toNatClampNeg) = 2 then oguard (inB a1 6) ((if (G 2 a1.toNatClampNeg) = a2 then oguard (inB a1 6) ((if (G 0 a1.toNatClampNeg) = 1 then bi1 (p_X8_onHose n G a2) (fun x67 => (if x67 = 2 then some ((-4), F, G) else bi1 (p_X8_size ((a3 - a3 / 7 * 7) - ((F 14) - (F 14) / 7 * 7))) (fun x89 => bi1 (p_X8_size ((a3 / 7) - ((F 14) / 7))) (fun x104 => oguard (inB a2 3) ((if (x89 + x104) ≤ (G 5 a2.toNatClampNeg) then oguard (inB a1 6) (bi1 ((if (G 0 a1.toNatClampNeg) = 1 then some (0) else oguard (inB a1 6) (some ((G 3 a1.toNatClampNeg))))) (fun (y132_0 : Int32) => oguard (inB a1 6) (plet (stG G 3 a1 y132_0) (fun (G145 : tG) => oguard (inB a1 6) (plet (stG G145 0 a1 2) (fun (G152 : tG) => oguard (inB a1 6) (plet (stG G152 2 a1 a2) (fun (G159 : tG) => oguard (inB a1 6) (plet (stG G159 1 a1 a3) (fun (G166 : tG) => some (1, F, G166))))))))))) else some ((-5), F, G))))))) else bi1 (p_X8_size ((a3 - a3 / 7 * 7) - ((F 14) - (F 14) / 7 * 7))) (fun x89 => bi1 (p_X8_size ((a3 / 7) - ((F 14) / 7))) (fun x104 => oguard (inB a2 3) ((if (x89 + x104) ≤ (G 5 a2.toNatClampNeg) then oguard (inB a1 6) (bi1 ((if (G 0 a1.toNatClampNeg) = 1 then some (0) else oguard (inB a1 6) (some ((G 3 a1.toNatClampNeg))))) (fun (y132_0 : Int32) => oguard (inB a1 6) (plet (stG G 3 a1 y132_0) (fun (G145 : tG) => oguard (inB a1 6) (plet (stG G145 0 a1 2) (fun (G152 : tG) => oguard (inB a1 6) (plet (stG G152 2 a1 a2) (fun (G159 : tG) => oguard (inB a1 6) (plet (stG G159 1 a1 a3) (fun (G166 : tG) => some (1, F, G166))))))))))) else some ((-5), F, G))))))) else some ((-3), F, G))) else oguard (inB a1 6) ((if (G 0 a1.toNatClampNeg) = 1 then bi1 (p_X8_onHose n G a2) (fun x67 => (if x67 = 2 then some ((-4), F, G) else bi1 (p_X8_size ((a3 - a3 / 7 * 7) - ((F 14) - (F 14) / 7 * 7))) (fun x89 => bi1 (p_X8_size ((a3 / 7) - ((F 14) / 7))) (fun x104 => oguard (inB a2 3) ((if (x89 + x104) ≤ (G 5 a2.toNatClampNeg) then oguard (inB a1 6) (bi1 ((if (G 0 a1.toNatClampNeg) = 1 then some (0) else oguard (inB a1 6) (some ((G 3 a1.toNatClampNeg))))) (fun (y132_0 : Int32) => oguard (inB a1 6) (plet (stG G 3 a1 y132_0) (fun (G145 : tG) => oguard (inB a1 6) (plet (stG G145 0 a1 2) (fun (G152 : tG) => oguard (inB a1 6) (plet (stG G152 2 a1 a2) (fun (G159 : tG) => oguard (inB a1 6) (plet (stG G159 1 a1 a3) (fun (G166 : tG) => some (1, F, G166))))))))))) else some ((-5), F, G))))))) else bi1 (p_X8_size ((a3 - a3 / 7 * 7) - ((F 14) - (F 14) / 7 * 7))) (fun x89 => bi1 (p_X8_size ((a3 / 7) - ((F 14) / 7))) (fun x104 => oguard (inB a2 3) ((if (x89 + x104) ≤ (G 5 a2.toNatClampNeg) then oguard (inB a1 6) (bi1 ((if (G 0 a1.toNatClampNeg) = 1 then some (0) else oguard (inB a1 6) (some ((G 3 a1.toNatClampNeg))))) (fun (y132_0 : Int32) => oguard (inB a1 6) (plet (stG G 3 a1 y132_0) (fun (G145 : tG) => oguard (inB a1 6) (plet (stG G145 0 a1 2) (fun (G152 : tG) => oguard (inB a1 6) (plet (stG G152 2 a1 a2) (fun (G159 : tG) => oguard (inB a1 6) (plet (stG G159 1 a1 a3) (fun (G166 : tG) => some (1, F, G166))))))))))) else some ((-5), F, G)))))))))))))))))
set_option maxHeartbeats 4000000 in
set_option maxRecDepth 100000 in
theorem c_X8_out (l : Launch) (D : va_G) (ad : Nat → Nat) (cA : ClassId) (n : Nat) (F : tF) (G : tG) (a1 : Int32) (a2 : Int32) (a3 : Int32) {r : Int32} {F' : tF} {G' : tG} (h : p_X8_out n F G a1 a2 a3 = some (r, F', G')) : CI l yX8_out wsX8_out ({ frames := 2, cells := 0, slots := 0, locals := 42 } : Room) D cA (wM ad cA F G) [.ref (ad 0), .int (a1), .int (a2), .int (a3)] r (wM ad cA F' G') := by
  rw [p_X8_out] at h
  refine metIm (w := wM ad cA) (cc := cX8_out) (maxL := 4) (by decide) rfl (Nat.le_of_ble_eq_true rfl) ?_
  intro p e s m args below meth c A ls Q hE hret
  obtain ⟨hx, hb, hts, hown, hml, hP, hK, hD, hN, hA, hl⟩ := hE
  have hown : s.vm.findClass RX8 = some m.cls := hown
  have hl : lv_has ls 4 [(0, .ref (ad 0)), (1, .int (a1)), (2, .int (a2)), (3, .int (a3))] := hl
  have hS : va_S A s.heap s.heap [] := va_S.rf
  have k_0 : (Cond.fieldLink RX8 31 "BellBookModel" "where" "[I").before args s = true := hts _ (List.mem_of_getElem? (i := 1) rfl)
  have n_8 : ∀ w ∈ u_ws RX8 TX8 46, w ∈ wsX8_out := fun w hw => List.mem_cons_of_mem _ (List.mem_append_right _ hw)
  have k_2 : (Cond.fieldLink RX8 28 "BellBookModel" "bell" "I").before args s = true := hts _ (List.mem_of_getElem? (i := 3) rfl)
  have k_3 : (Cond.fieldLink RX8 47 "BellBookModel" "length" "[I").before args s = true := hts _ (List.mem_of_getElem? (i := 4) rfl)
  have k_4 : (Cond.fieldLink RX8 41 "BellBookModel" "count" "[I").before args s = true := hts _ (List.mem_of_getElem? (i := 5) rfl)
  have k_5 : (Cond.fieldLink RX8 38 "BellBookModel" "hoseOf" "[I").before args s = true := hts _ (List.mem_of_getElem? (i := 2) rfl)
  have k_6 : (Cond.fieldLink RX8 35 "BellBookModel" "square" "[I").before args s = true := hts _ (List.mem_of_getElem? (i := 6) rfl)
  refine lv_iload_n hx hb dX8_out_0 rfl (lv_at hl 1 rfl) ?_
  obtain ⟨x1, h1, h⟩ := bi1e h
  refine callSI (As := [.int (a1)]) (rest := []) ⟨hx, hb, hml, hown, hts⟩ (c_X8_isMan l D ad cA n F G a1 h1) (va_cwS 1 hts gX8_out_X8_isMan rfl rfl rfl (by decide +kernel) ⟨Nat.le_of_ble_eq_true rfl, Nat.le_of_ble_eq_true rfl⟩) hP hK hD hN hS hA rfl hl.1 rfl (Nat.le_of_ble_eq_true rfl) dX8_out_1 ⟨Nat.zero_le _, Nat.zero_le _⟩ (fun H locs hP hD hS => ?_)
  refine lv_if_eq (tgt := 21) hx hb dX8_out_4 (by decide) (fun c4 => ?_) (fun c4 => ?_)
  · replace h := ifp h c4
    refine lv_iconst (v := (-1)) hx hb dX8_out_21 (by decide) ?_
    exact hret _ _ _ _ _ _ _ dX8_out_22 h hP hD hS
  · replace h := ifn h c4
    refine lv_iload_n hx hb dX8_out_7 rfl (lv_at hl 2 rfl) ?_
    obtain ⟨x8, h8, h⟩ := bi1e h
    refine callSI (As := [.int (a2)]) (rest := []) ⟨hx, hb, hml, hown, hts⟩ (c_X8_isHose l D ad cA n F G a2 h8) (va_cwS 1 hts gX8_out_X8_isHose rfl rfl rfl (by decide +kernel) ⟨Nat.le_of_ble_eq_true rfl, Nat.le_of_ble_eq_true rfl⟩) hP hK hD hN hS hA rfl hl.1 rfl (Nat.le_of_ble_eq_true rfl) dX8_out_8 ⟨Nat.zero_le _, Nat.zero_le _⟩ (fun H locs hP hD hS => ?_)
    refine lv_if_eq (tgt := 21) hx hb dX8_out_11 (by decide) (fun c11 => ?_) (fun c11 => ?_)
    · replace h := ifp h c11
      refine lv_iconst (v := (-1)) hx hb dX8_out_21 (by decide) ?_
      exact hret _ _ _ _ _ _ _ dX8_out_22 h hP hD hS
    · replace h := ifn h c11
      refine lv_iload_n hx hb dX8_out_14 rfl (lv_at hl 3 rfl) ?_
      obtain ⟨x15, h15, h⟩ := bi1e h
      refine callSI (As := [.int (a3)]) (rest := []) ⟨hx, hb, hml, hown, hts⟩ (c_X8_isSquare l D ad cA n F G a3 h15) (va_cwS 1 hts gX8_out_X8_isSquare rfl rfl rfl (by decide +kernel) ⟨Nat.le_of_ble_eq_true rfl, Nat.le_of_ble_eq_true rfl⟩) hP hK hD hN hS hA rfl hl.1 rfl (Nat.le_of_ble_eq_true rfl) dX8_out_15 ⟨Nat.zero_le _, Nat.zero_le _⟩ (fun H locs hP hD hS => ?_)
      refine lv_if_ne (tgt := 23) hx hb dX8_out_18 (by decide) (fun c18 => ?_) (fun c18 => ?_)
      · replace h := ifn h c18
        refine lv_aload_n hx hb dX8_out_23 rfl (lv_at hl 0 rfl) ?_
        refine va_get (D := D) (ci := 8) (fs := vX8 ad F) (v := .ref (ad 1)) (C := RX8) (T := TX8) (N := 46) hx hb hts n_8 hown hK hP 0 wMg0 rfl 15 (by decide) k_0 (fun _ h9 => h9) rfl dX8_out_24 ?_
        refine lv_iload_n hx hb dX8_out_27 rfl (lv_at hl 1 rfl) ?_
        obtain ⟨g28, h⟩ := og h
        refine va_iald (D := D) hx hb hK hP 1 0 wMg1 rfl (inB_in g28) dX8_out_28 ?_
        refine lv_if_eq (tgt := 52) hx hb dX8_out_29 (by decide) (fun c29 => ?_) (fun c29 => ?_)
        · replace h := ifp h c29
          refine lv_bipush (v := (-3)) hx hb dX8_out_52 (by decide) ?_
          exact hret _ _ _ _ _ _ _ dX8_out_54 h hP hD hS
        · replace h := ifn h c29
          refine lv_aload_n hx hb dX8_out_32 rfl (lv_at hl 0 rfl) ?_
          refine va_get (D := D) (ci := 8) (fs := vX8 ad F) (v := .ref (ad 1)) (C := RX8) (T := TX8) (N := 46) hx hb hts n_8 hown hK hP 0 wMg0 rfl 15 (by decide) k_0 (fun _ h9 => h9) rfl dX8_out_33 ?_
          refine lv_iload_n hx hb dX8_out_36 rfl (lv_at hl 1 rfl) ?_
          obtain ⟨g37, h⟩ := og h
          refine va_iald (D := D) hx hb hK hP 1 0 wMg1 rfl (inB_in g37) dX8_out_37 ?_
          refine lv_iconst (v := 2) hx hb dX8_out_38 (by decide) ?_
          refine lv_icmp_ne (tgt := 55) hx hb dX8_out_39 (by decide) (fun c39 => ?_) (fun c39 => ?_)
          · replace h := ifn h c39
            refine lv_aload_n hx hb dX8_out_55 rfl (lv_at hl 0 rfl) ?_
            refine va_get (D := D) (ci := 8) (fs := vX8 ad F) (v := .ref (ad 1)) (C := RX8) (T := TX8) (N := 46) hx hb hts n_8 hown hK hP 0 wMg0 rfl 15 (by decide) k_0 (fun _ h9 => h9) rfl dX8_out_56 ?_
            refine lv_iload_n hx hb dX8_out_59 rfl (lv_at hl 1 rfl) ?_
            obtain ⟨g60, h⟩ := og h
            refine va_iald (D := D) hx hb hK hP 1 0 wMg1 rfl (inB_in g60) dX8_out_60 ?_
            refine lv_iconst (v := 1) hx hb dX8_out_61 (by decide) ?_
            refine lv_icmp_ne (tgt := 77) hx hb dX8_out_62 (by decide) (fun c62 => ?_) (fun c62 => ?_)
            · replace h := ifn h c62
              refine lv_iload_n hx hb dX8_out_77 rfl (lv_at hl 3 rfl) ?_
              refine lv_bipush (v := 7) hx hb dX8_out_78 (by decide) ?_
              refine lv_irem hx hb dX8_out_80 (by decide) ?_
              refine lv_aload_n hx hb dX8_out_81 rfl (lv_at hl 0 rfl) ?_
              refine va_get (D := D) (ci := 8) (fs := vX8 ad F) (v := .int ((F 14))) (C := RX8) (T := TX8) (N := 46) hx hb hts n_8 hown hK hP 0 wMg0 rfl 14 (by decide) k_2 (fun _ h9 => h9) rfl dX8_out_82 ?_
              refine lv_bipush (v := 7) hx hb dX8_out_85 (by decide) ?_
              refine lv_irem hx hb dX8_out_87 (by decide) ?_
              refine lv_isub hx hb dX8_out_88 ?_
              obtain ⟨x89, h89, h⟩ := bi1e h
              refine callSI (As := [.int (((a3 - a3 / 7 * 7) - ((F 14) - (F 14) / 7 * 7)))]) (rest := []) ⟨hx, hb, hml, hown, hts⟩ (c_X8_size l D ad cA n F G ((a3 - a3 / 7 * 7) - ((F 14) - (F 14) / 7 * 7)) h89) (va_cwS 1 hts gX8_out_X8_size rfl rfl rfl (by decide +kernel) ⟨Nat.le_of_ble_eq_true rfl, Nat.le_of_ble_eq_true rfl⟩) hP hK hD hN hS hA rfl hl.1 rfl (Nat.le_of_ble_eq_true rfl) dX8_out_89 ⟨Nat.zero_le _, Nat.zero_le _⟩ (fun H locs hP hD hS => ?_)
              refine lv_iload_n hx hb dX8_out_92 rfl (lv_at hl 3 rfl) ?_
              refine lv_bipush (v := 7) hx hb dX8_out_93 (by decide) ?_
              refine lv_idiv hx hb dX8_out_95 (by decide) ?_
              refine lv_aload_n hx hb dX8_out_96 rfl (lv_at hl 0 rfl) ?_
              refine va_get (D := D) (ci := 8) (fs := vX8 ad F) (v := .int ((F 14))) (C := RX8) (T := TX8) (N := 46) hx hb hts n_8 hown hK hP 0 wMg0 rfl 14 (by decide) k_2 (fun _ h9 => h9) rfl dX8_out_97 ?_
              refine lv_bipush (v := 7) hx hb dX8_out_100 (by decide) ?_
              refine lv_idiv hx hb dX8_out_102 (by decide) ?_
              refine lv_isub hx hb dX8_out_103 ?_
              obtain ⟨x104, h104, h⟩ := bi1e h
              refine callSI (As := [.int (((a3 / 7) - ((F 14) / 7)))]) (rest := [.int (x89)]) ⟨hx, hb, hml, hown, hts⟩ (c_X8_size l D ad cA n F G ((a3 / 7) - ((F 14) / 7)) h104) (va_cwS 1 hts gX8_out_X8_size rfl rfl rfl (by decide +kernel) ⟨Nat.le_of_ble_eq_true rfl, Nat.le_of_ble_eq_true rfl⟩) hP hK hD hN hS hA rfl hl.1 rfl (Nat.le_of_ble_eq_true rfl) dX8_out_104 ⟨Nat.zero_le _, Nat.zero_le _⟩ (fun H locs hP hD hS => ?_)
              refine lv_iadd hx hb dX8_out_107 ?_
              refine lv_aload_n hx hb dX8_out_108 rfl (lv_at hl 0 rfl) ?_
              refine va_get (D := D) (ci := 8) (fs := vX8 ad F) (v := .ref (ad 6)) (C := RX8) (T := TX8) (N := 46) hx hb hts n_8 hown hK hP 0 wMg0 rfl 20 (by decide) k_3 (fun _ h9 => h9) rfl dX8_out_109 ?_
              refine lv_iload_n hx hb dX8_out_112 rfl (lv_at hl 2 rfl) ?_
              obtain ⟨g113, h⟩ := og h
              refine va_iald (D := D) hx hb hK hP 6 0 wMg6 rfl (inB_in g113) dX8_out_113 ?_
              refine lv_icmp_le (tgt := 120) hx hb dX8_out_114 (by decide) (fun c114 => ?_) (fun c114 => ?_)
              · replace h := ifp h c114
                refine lv_aload_n hx hb dX8_out_120 rfl (lv_at hl 0 rfl) ?_
                refine va_get (D := D) (ci := 8) (fs := vX8 ad F) (v := .ref (ad 4)) (C := RX8) (T := TX8) (N := 46) hx hb hts n_8 hown hK hP 0 wMg0 rfl 18 (by decide) k_4 (fun _ h9 => h9) rfl dX8_out_121 ?_
                refine lv_iload_n hx hb dX8_out_124 rfl (lv_at hl 1 rfl) ?_
                refine lv_aload_n hx hb dX8_out_125 rfl (lv_at hl 0 rfl) ?_
                refine va_get (D := D) (ci := 8) (fs := vX8 ad F) (v := .ref (ad 1)) (C := RX8) (T := TX8) (N := 46) hx hb hts n_8 hown hK hP 0 wMg0 rfl 15 (by decide) k_0 (fun _ h9 => h9) rfl dX8_out_126 ?_
                refine lv_iload_n hx hb dX8_out_129 rfl (lv_at hl 1 rfl) ?_
                obtain ⟨g130, h⟩ := og h
                refine va_iald (D := D) hx hb hK hP 1 0 wMg1 rfl (inB_in g130) dX8_out_130 ?_
                refine lv_iconst (v := 1) hx hb dX8_out_131 (by decide) ?_
                obtain ⟨y132_0, q132, h⟩ := bi1e h
                have J132 : ∀ (wy132_0 : Int32), some (wy132_0) = some (y132_0) → ∀ (H : Heap) (locs : List Loc) (ls : Array Slot), va_P D vwCl (wM ad cA F G) H → va_D A (wM ad cA F G) → va_S A s.heap H locs → lv_has ls 4 [(0, .ref (ad 0)), (1, .int (a1)), (2, .int (a2)), (3, .int (a3))] → W p l e ({ frames := 2, cells := 0, slots := 0, locals := 42 } : Room) s m args below meth c H locs 0 0 Q (F0 m 145 ls [.int (wy132_0), .int (a1), .ref (ad 4)]) := by
                  intro wy132_0 e9 H locs ls hP hD hS hl
                  cases e9
                  obtain ⟨g145, h⟩ := og h
                  obtain ⟨G145, eG145⟩ : ∃ z : tG, z = stG G 3 a1 y132_0 := ⟨_, rfl⟩
                  replace h := pl h eG145
                  refine va_iast (D := D) hx hb hK hP hD hS 4 0 wMg4 rfl (inB_in g145) dX8_out_145 (fun H locs hP hD hS => ?_)
                  rw [wMa3 eG145] at hP hD
                  refine lv_aload_n hx hb dX8_out_146 rfl (lv_at hl 0 rfl) ?_
                  refine va_get (D := D) (ci := 8) (fs := vX8 ad F) (v := .ref (ad 1)) (C := RX8) (T := TX8) (N := 46) hx hb hts n_8 hown hK hP 0 wMg0 rfl 15 (by decide) k_0 (fun _ h9 => h9) rfl dX8_out_147 ?_
                  refine lv_iload_n hx hb dX8_out_150 rfl (lv_at hl 1 rfl) ?_
                  refine lv_iconst (v := 2) hx hb dX8_out_151 (by decide) ?_
                  obtain ⟨g152, h⟩ := og h
                  obtain ⟨G152, eG152⟩ : ∃ z : tG, z = stG G145 0 a1 2 := ⟨_, rfl⟩
                  replace h := pl h eG152
                  refine va_iast (D := D) hx hb hK hP hD hS 1 0 wMg1 rfl (inB_in g152) dX8_out_152 (fun H locs hP hD hS => ?_)
                  rw [wMa0 eG152] at hP hD
                  refine lv_aload_n hx hb dX8_out_153 rfl (lv_at hl 0 rfl) ?_
                  refine va_get (D := D) (ci := 8) (fs := vX8 ad F) (v := .ref (ad 3)) (C := RX8) (T := TX8) (N := 46) hx hb hts n_8 hown hK hP 0 wMg0 rfl 17 (by decide) k_5 (fun _ h9 => h9) rfl dX8_out_154 ?_
                  refine lv_iload_n hx hb dX8_out_157 rfl (lv_at hl 1 rfl) ?_
                  refine lv_iload_n hx hb dX8_out_158 rfl (lv_at hl 2 rfl) ?_
                  obtain ⟨g159, h⟩ := og h
                  obtain ⟨G159, eG159⟩ : ∃ z : tG, z = stG G152 2 a1 a2 := ⟨_, rfl⟩
                  replace h := pl h eG159
                  refine va_iast (D := D) hx hb hK hP hD hS 3 0 wMg3 rfl (inB_in g159) dX8_out_159 (fun H locs hP hD hS => ?_)
                  rw [wMa2 eG159] at hP hD
                  refine lv_aload_n hx hb dX8_out_160 rfl (lv_at hl 0 rfl) ?_
                  refine va_get (D := D) (ci := 8) (fs := vX8 ad F) (v := .ref (ad 2)) (C := RX8) (T := TX8) (N := 46) hx hb hts n_8 hown hK hP 0 wMg0 rfl 16 (by decide) k_6 (fun _ h9 => h9) rfl dX8_out_161 ?_
                  refine lv_iload_n hx hb dX8_out_164 rfl (lv_at hl 1 rfl) ?_
                  refine lv_iload_n hx hb dX8_out_165 rfl (lv_at hl 3 rfl) ?_
                  obtain ⟨g166, h⟩ := og h
                  obtain ⟨G166, eG166⟩ : ∃ z : tG, z = stG G159 1 a1 a3 := ⟨_, rfl⟩
                  replace h := pl h eG166
                  refine va_iast (D := D) hx hb hK hP hD hS 2 0 wMg2 rfl (inB_in g166) dX8_out_166 (fun H locs hP hD hS => ?_)
                  rw [wMa1 eG166] at hP hD
                  refine lv_iconst (v := 1) hx hb dX8_out_167 (by decide) ?_
                  exact hret _ _ _ _ _ _ _ dX8_out_168 h hP hD hS
                refine lv_icmp_ne (tgt := 139) hx hb dX8_out_132 (by decide) (fun c132 => ?_) (fun c132 => ?_)
                · replace q132 := ifn q132 c132
                  refine lv_aload_n hx hb dX8_out_139 rfl (lv_at hl 0 rfl) ?_
                  refine va_get (D := D) (ci := 8) (fs := vX8 ad F) (v := .ref (ad 4)) (C := RX8) (T := TX8) (N := 46) hx hb hts n_8 hown hK hP 0 wMg0 rfl 18 (by decide) k_4 (fun _ h9 => h9) rfl dX8_out_140 ?_
                  refine lv_iload_n hx hb dX8_out_143 rfl (lv_at hl 1 rfl) ?_
                  obtain ⟨g144, q132⟩ := og q132
                  refine va_iald (D := D) hx hb hK hP 4 0 wMg4 rfl (inB_in g144) dX8_out_144 ?_
                  exact J132 _ q132 _ _ _ hP hD hS (lv_sub hl [0, 1, 2, 3] rfl)
                · replace q132 := ifp q132 c132
                  refine lv_iconst (v := 0) hx hb dX8_out_135 (by decide) ?_
                  refine lv_goto (tgt := 145) hx hb dX8_out_136 (by decide) ?_
                  exact J132 _ q132 _ _ _ hP hD hS (lv_sub hl [0, 1, 2, 3] rfl)
              · replace h := ifn h c114
                refine lv_bipush (v := (-5)) hx hb dX8_out_117 (by decide) ?_
                exact hret _ _ _ _ _ _ _ dX8_out_119 h hP hD hS
            · replace h := ifp h c62
              refine lv_aload_n hx hb dX8_out_65 rfl (lv_at hl 0 rfl) ?_
              refine lv_iload_n hx hb dX8_out_66 rfl (lv_at hl 2 rfl) ?_
              obtain ⟨x67, h67, h⟩ := bi1e h
              refine callVI (b := ad 0) (As := [.int (a2)]) (rest := []) ⟨hx, hb, hml, hown, hts⟩ (c_X8_onHose l D ad cA n F G a2 h67) (cwV 1 hts gX8_out_X8_onHose rfl rfl rfl (by decide +kernel) ⟨Nat.le_of_ble_eq_true rfl, Nat.le_of_ble_eq_true rfl⟩) (va_recv hK hP (ci := 8) (q0 := 0) rfl wMg0) hP hK hD hN hS hA rfl hl.1 rfl (Nat.le_of_ble_eq_true rfl) dX8_out_67 ⟨Nat.zero_le _, Nat.zero_le _⟩ (fun H locs hP hD hS => ?_)
              refine lv_iconst (v := 2) hx hb dX8_out_70 (by decide) ?_
              refine lv_icmp_ne (tgt := 77) hx hb dX8_out_71 (by decide) (fun c71 => ?_) (fun c71 => ?_)
              · replace h := ifn h c71
                refine lv_iload_n hx hb dX8_out_77 rfl (lv_at hl 3 rfl) ?_
                refine lv_bipush (v := 7) hx hb dX8_out_78 (by decide) ?_
                refine lv_irem hx hb dX8_out_80 (by decide) ?_
                refine lv_aload_n hx hb dX8_out_81 rfl (lv_at hl 0 rfl) ?_
                refine va_get (D := D) (ci := 8) (fs := vX8 ad F) (v := .int ((F 14))) (C := RX8) (T := TX8) (N := 46) hx hb hts n_8 hown hK hP 0 wMg0 rfl 14 (by decide) k_2 (fun _ h9 => h9) rfl dX8_out_82 ?_
                refine lv_bipush (v := 7) hx hb dX8_out_85 (by decide) ?_
                refine lv_irem hx hb dX8_out_87 (by decide) ?_
                refine lv_isub hx hb dX8_out_88 ?_
                obtain ⟨x89, h89, h⟩ := bi1e h
                refine callSI (As := [.int (((a3 - a3 / 7 * 7) - ((F 14) - (F 14) / 7 * 7)))]) (rest := []) ⟨hx, hb, hml, hown, hts⟩ (c_X8_size l D ad cA n F G ((a3 - a3 / 7 * 7) - ((F 14) - (F 14) / 7 * 7)) h89) (va_cwS 1 hts gX8_out_X8_size rfl rfl rfl (by decide +kernel) ⟨Nat.le_of_ble_eq_true rfl, Nat.le_of_ble_eq_true rfl⟩) hP hK hD hN hS hA rfl hl.1 rfl (Nat.le_of_ble_eq_true rfl) dX8_out_89 ⟨Nat.zero_le _, Nat.zero_le _⟩ (fun H locs hP hD hS => ?_)
                refine lv_iload_n hx hb dX8_out_92 rfl (lv_at hl 3 rfl) ?_
                refine lv_bipush (v := 7) hx hb dX8_out_93 (by decide) ?_
                refine lv_idiv hx hb dX8_out_95 (by decide) ?_
                refine lv_aload_n hx hb dX8_out_96 rfl (lv_at hl 0 rfl) ?_
                refine va_get (D := D) (ci := 8) (fs := vX8 ad F) (v := .int ((F 14))) (C := RX8) (T := TX8) (N := 46) hx hb hts n_8 hown hK hP 0 wMg0 rfl 14 (by decide) k_2 (fun _ h9 => h9) rfl dX8_out_97 ?_
                refine lv_bipush (v := 7) hx hb dX8_out_100 (by decide) ?_
                refine lv_idiv hx hb dX8_out_102 (by decide) ?_
                refine lv_isub hx hb dX8_out_103 ?_
                obtain ⟨x104, h104, h⟩ := bi1e h
                refine callSI (As := [.int (((a3 / 7) - ((F 14) / 7)))]) (rest := [.int (x89)]) ⟨hx, hb, hml, hown, hts⟩ (c_X8_size l D ad cA n F G ((a3 / 7) - ((F 14) / 7)) h104) (va_cwS 1 hts gX8_out_X8_size rfl rfl rfl (by decide +kernel) ⟨Nat.le_of_ble_eq_true rfl, Nat.le_of_ble_eq_true rfl⟩) hP hK hD hN hS hA rfl hl.1 rfl (Nat.le_of_ble_eq_true rfl) dX8_out_104 ⟨Nat.zero_le _, Nat.zero_le _⟩ (fun H locs hP hD hS => ?_)
                refine lv_iadd hx hb dX8_out_107 ?_
                refine lv_aload_n hx hb dX8_out_108 rfl (lv_at hl 0 rfl) ?_
                refine va_get (D := D) (ci := 8) (fs := vX8 ad F) (v := .ref (ad 6)) (C := RX8) (T := TX8) (N := 46) hx hb hts n_8 hown hK hP 0 wMg0 rfl 20 (by decide) k_3 (fun _ h9 => h9) rfl dX8_out_109 ?_
                refine lv_iload_n hx hb dX8_out_112 rfl (lv_at hl 2 rfl) ?_
                obtain ⟨g113, h⟩ := og h
                refine va_iald (D := D) hx hb hK hP 6 0 wMg6 rfl (inB_in g113) dX8_out_113 ?_
                refine lv_icmp_le (tgt := 120) hx hb dX8_out_114 (by decide) (fun c114 => ?_) (fun c114 => ?_)
                · replace h := ifp h c114
                  refine lv_aload_n hx hb dX8_out_120 rfl (lv_at hl 0 rfl) ?_
                  refine va_get (D := D) (ci := 8) (fs := vX8 ad F) (v := .ref (ad 4)) (C := RX8) (T := TX8) (N := 46) hx hb hts n_8 hown hK hP 0 wMg0 rfl 18 (by decide) k_4 (fun _ h9 => h9) rfl dX8_out_121 ?_
                  refine lv_iload_n hx hb dX8_out_124 rfl (lv_at hl 1 rfl) ?_
                  refine lv_aload_n hx hb dX8_out_125 rfl (lv_at hl 0 rfl) ?_
                  refine va_get (D := D) (ci := 8) (fs := vX8 ad F) (v := .ref (ad 1)) (C := RX8) (T := TX8) (N := 46) hx hb hts n_8 hown hK hP 0 wMg0 rfl 15 (by decide) k_0 (fun _ h9 => h9) rfl dX8_out_126 ?_
                  refine lv_iload_n hx hb dX8_out_129 rfl (lv_at hl 1 rfl) ?_
                  obtain ⟨g130, h⟩ := og h
                  refine va_iald (D := D) hx hb hK hP 1 0 wMg1 rfl (inB_in g130) dX8_out_130 ?_
                  refine lv_iconst (v := 1) hx hb dX8_out_131 (by decide) ?_
                  obtain ⟨y132_0, q132, h⟩ := bi1e h
                  have J132 : ∀ (wy132_0 : Int32), some (wy132_0) = some (y132_0) → ∀ (H : Heap) (locs : List Loc) (ls : Array Slot), va_P D vwCl (wM ad cA F G) H → va_D A (wM ad cA F G) → va_S A s.heap H locs → lv_has ls 4 [(0, .ref (ad 0)), (1, .int (a1)), (2, .int (a2)), (3, .int (a3))] → W p l e ({ frames := 2, cells := 0, slots := 0, locals := 42 } : Room) s m args below meth c H locs 0 0 Q (F0 m 145 ls [.int (wy132_0), .int (a1), .ref (ad 4)]) := by
                    intro wy132_0 e9 H locs ls hP hD hS hl
                    cases e9
                    obtain ⟨g145, h⟩ := og h
                    obtain ⟨G145, eG145⟩ : ∃ z : tG, z = stG G 3 a1 y132_0 := ⟨_, rfl⟩
                    replace h := pl h eG145
                    refine va_iast (D := D) hx hb hK hP hD hS 4 0 wMg4 rfl (inB_in g145) dX8_out_145 (fun H locs hP hD hS => ?_)
                    rw [wMa3 eG145] at hP hD
                    refine lv_aload_n hx hb dX8_out_146 rfl (lv_at hl 0 rfl) ?_
                    refine va_get (D := D) (ci := 8) (fs := vX8 ad F) (v := .ref (ad 1)) (C := RX8) (T := TX8) (N := 46) hx hb hts n_8 hown hK hP 0 wMg0 rfl 15 (by decide) k_0 (fun _ h9 => h9) rfl dX8_out_147 ?_
                    refine lv_iload_n hx hb dX8_out_150 rfl (lv_at hl 1 rfl) ?_
                    refine lv_iconst (v := 2) hx hb dX8_out_151 (by decide) ?_
                    obtain ⟨g152, h⟩ := og h
                    obtain ⟨G152, eG152⟩ : ∃ z : tG, z = stG G145 0 a1 2 := ⟨_, rfl⟩
                    replace h := pl h eG152
                    refine va_iast (D := D) hx hb hK hP hD hS 1 0 wMg1 rfl (inB_in g152) dX8_out_152 (fun H locs hP hD hS => ?_)
                    rw [wMa0 eG152] at hP hD
                    refine lv_aload_n hx hb dX8_out_153 rfl (lv_at hl 0 rfl) ?_
                    refine va_get (D := D) (ci := 8) (fs := vX8 ad F) (v := .ref (ad 3)) (C := RX8) (T := TX8) (N := 46) hx hb hts n_8 hown hK hP 0 wMg0 rfl 17 (by decide) k_5 (fun _ h9 => h9) rfl dX8_out_154 ?_
                    refine lv_iload_n hx hb dX8_out_157 rfl (lv_at hl 1 rfl) ?_
                    refine lv_iload_n hx hb dX8_out_158 rfl (lv_at hl 2 rfl) ?_
                    obtain ⟨g159, h⟩ := og h
                    obtain ⟨G159, eG159⟩ : ∃ z : tG, z = stG G152 2 a1 a2 := ⟨_, rfl⟩
                    replace h := pl h eG159
                    refine va_iast (D := D) hx hb hK hP hD hS 3 0 wMg3 rfl (inB_in g159) dX8_out_159 (fun H locs hP hD hS => ?_)
                    rw [wMa2 eG159] at hP hD
                    refine lv_aload_n hx hb dX8_out_160 rfl (lv_at hl 0 rfl) ?_
                    refine va_get (D := D) (ci := 8) (fs := vX8 ad F) (v := .ref (ad 2)) (C := RX8) (T := TX8) (N := 46) hx hb hts n_8 hown hK hP 0 wMg0 rfl 16 (by decide) k_6 (fun _ h9 => h9) rfl dX8_out_161 ?_
                    refine lv_iload_n hx hb dX8_out_164 rfl (lv_at hl 1 rfl) ?_
                    refine lv_iload_n hx hb dX8_out_165 rfl (lv_at hl 3 rfl) ?_
                    obtain ⟨g166, h⟩ := og h
                    obtain ⟨G166, eG166⟩ : ∃ z : tG, z = stG G159 1 a1 a3 := ⟨_, rfl⟩
                    replace h := pl h eG166
                    refine va_iast (D := D) hx hb hK hP hD hS 2 0 wMg2 rfl (inB_in g166) dX8_out_166 (fun H locs hP hD hS => ?_)
                    rw [wMa1 eG166] at hP hD
                    refine lv_iconst (v := 1) hx hb dX8_out_167 (by decide) ?_
                    exact hret _ _ _ _ _ _ _ dX8_out_168 h hP hD hS
                  refine lv_icmp_ne (tgt := 139) hx hb dX8_out_132 (by decide) (fun c132 => ?_) (fun c132 => ?_)
                  · replace q132 := ifn q132 c132
                    refine lv_aload_n hx hb dX8_out_139 rfl (lv_at hl 0 rfl) ?_
                    refine va_get (D := D) (ci := 8) (fs := vX8 ad F) (v := .ref (ad 4)) (C := RX8) (T := TX8) (N := 46) hx hb hts n_8 hown hK hP 0 wMg0 rfl 18 (by decide) k_4 (fun _ h9 => h9) rfl dX8_out_140 ?_
                    refine lv_iload_n hx hb dX8_out_143 rfl (lv_at hl 1 rfl) ?_
                    obtain ⟨g144, q132⟩ := og q132
                    refine va_iald (D := D) hx hb hK hP 4 0 wMg4 rfl (inB_in g144) dX8_out_144 ?_
                    exact J132 _ q132 _ _ _ hP hD hS (lv_sub hl [0, 1, 2, 3] rfl)
                  · replace q132 := ifp q132 c132
                    refine lv_iconst (v := 0) hx hb dX8_out_135 (by decide) ?_
                    refine lv_goto (tgt := 145) hx hb dX8_out_136 (by decide) ?_
                    exact J132 _ q132 _ _ _ hP hD hS (lv_sub hl [0, 1, 2, 3] rfl)
                · replace h := ifn h c114
                  refine lv_bipush (v := (-5)) hx hb dX8_out_117 (by decide) ?_
                  exact hret _ _ _ _ _ _ _ dX8_out_119 h hP hD hS
              · replace h := ifp h c71
                refine lv_bipush (v := (-4)) hx hb dX8_out_74 (by decide) ?_
                exact hret _ _ _ _ _ _ _ dX8_out_76 h hP hD hS
          · replace h := ifp h c39
            refine lv_aload_n hx hb dX8_out_42 rfl (lv_at hl 0 rfl) ?_
            refine va_get (D := D) (ci := 8) (fs := vX8 ad F) (v := .ref (ad 3)) (C := RX8) (T := TX8) (N := 46) hx hb hts n_8 hown hK hP 0 wMg0 rfl 17 (by decide) k_5 (fun _ h9 => h9) rfl dX8_out_43 ?_
            refine lv_iload_n hx hb dX8_out_46 rfl (lv_at hl 1 rfl) ?_
            obtain ⟨g47, h⟩ := og h
            refine va_iald (D := D) hx hb hK hP 3 0 wMg3 rfl (inB_in g47) dX8_out_47 ?_
            refine lv_iload_n hx hb dX8_out_48 rfl (lv_at hl 2 rfl) ?_
            refine lv_icmp_eq (tgt := 55) hx hb dX8_out_49 (by decide) (fun c49 => ?_) (fun c49 => ?_)
            · replace h := ifp h c49
              refine lv_aload_n hx hb dX8_out_55 rfl (lv_at hl 0 rfl) ?_
              refine va_get (D := D) (ci := 8) (fs := vX8 ad F) (v := .ref (ad 1)) (C := RX8) (T := TX8) (N := 46) hx hb hts n_8 hown hK hP 0 wMg0 rfl 15 (by decide) k_0 (fun _ h9 => h9) rfl dX8_out_56 ?_
              refine lv_iload_n hx hb dX8_out_59 rfl (lv_at hl 1 rfl) ?_
              obtain ⟨g60, h⟩ := og h
              refine va_iald (D := D) hx hb hK hP 1 0 wMg1 rfl (inB_in g60) dX8_out_60 ?_
              refine lv_iconst (v := 1) hx hb dX8_out_61 (by decide) ?_
              refine lv_icmp_ne (tgt := 77) hx hb dX8_out_62 (by decide) (fun c62 => ?_) (fun c62 => ?_)
              · replace h := ifn h c62
                refine lv_iload_n hx hb dX8_out_77 rfl (lv_at hl 3 rfl) ?_
                refine lv_bipush (v := 7) hx hb dX8_out_78 (by decide) ?_
                refine lv_irem hx hb dX8_out_80 (by decide) ?_
                refine lv_aload_n hx hb dX8_out_81 rfl (lv_at hl 0 rfl) ?_
                refine va_get (D := D) (ci := 8) (fs := vX8 ad F) (v := .int ((F 14))) (C := RX8) (T := TX8) (N := 46) hx hb hts n_8 hown hK hP 0 wMg0 rfl 14 (by decide) k_2 (fun _ h9 => h9) rfl dX8_out_82 ?_
                refine lv_bipush (v := 7) hx hb dX8_out_85 (by decide) ?_
                refine lv_irem hx hb dX8_out_87 (by decide) ?_
                refine lv_isub hx hb dX8_out_88 ?_
                obtain ⟨x89, h89, h⟩ := bi1e h
                refine callSI (As := [.int (((a3 - a3 / 7 * 7) - ((F 14) - (F 14) / 7 * 7)))]) (rest := []) ⟨hx, hb, hml, hown, hts⟩ (c_X8_size l D ad cA n F G ((a3 - a3 / 7 * 7) - ((F 14) - (F 14) / 7 * 7)) h89) (va_cwS 1 hts gX8_out_X8_size rfl rfl rfl (by decide +kernel) ⟨Nat.le_of_ble_eq_true rfl, Nat.le_of_ble_eq_true rfl⟩) hP hK hD hN hS hA rfl hl.1 rfl (Nat.le_of_ble_eq_true rfl) dX8_out_89 ⟨Nat.zero_le _, Nat.zero_le _⟩ (fun H locs hP hD hS => ?_)
                refine lv_iload_n hx hb dX8_out_92 rfl (lv_at hl 3 rfl) ?_
                refine lv_bipush (v := 7) hx hb dX8_out_93 (by decide) ?_
                refine lv_idiv hx hb dX8_out_95 (by decide) ?_
                refine lv_aload_n hx hb dX8_out_96 rfl (lv_at hl 0 rfl) ?_
                refine va_get (D := D) (ci := 8) (fs := vX8 ad F) (v := .int ((F 14))) (C := RX8) (T := TX8) (N := 46) hx hb hts n_8 hown hK hP 0 wMg0 rfl 14 (by decide) k_2 (fun _ h9 => h9) rfl dX8_out_97 ?_
                refine lv_bipush (v := 7) hx hb dX8_out_100 (by decide) ?_
                refine lv_idiv hx hb dX8_out_102 (by decide) ?_
                refine lv_isub hx hb dX8_out_103 ?_
                obtain ⟨x104, h104, h⟩ := bi1e h
                refine callSI (As := [.int (((a3 / 7) - ((F 14) / 7)))]) (rest := [.int (x89)]) ⟨hx, hb, hml, hown, hts⟩ (c_X8_size l D ad cA n F G ((a3 / 7) - ((F 14) / 7)) h104) (va_cwS 1 hts gX8_out_X8_size rfl rfl rfl (by decide +kernel) ⟨Nat.le_of_ble_eq_true rfl, Nat.le_of_ble_eq_true rfl⟩) hP hK hD hN hS hA rfl hl.1 rfl (Nat.le_of_ble_eq_true rfl) dX8_out_104 ⟨Nat.zero_le _, Nat.zero_le _⟩ (fun H locs hP hD hS => ?_)
                refine lv_iadd hx hb dX8_out_107 ?_
                refine lv_aload_n hx hb dX8_out_108 rfl (lv_at hl 0 rfl) ?_
                refine va_get (D := D) (ci := 8) (fs := vX8 ad F) (v := .ref (ad 6)) (C := RX8) (T := TX8) (N := 46) hx hb hts n_8 hown hK hP 0 wMg0 rfl 20 (by decide) k_3 (fun _ h9 => h9) rfl dX8_out_109 ?_
                refine lv_iload_n hx hb dX8_out_112 rfl (lv_at hl 2 rfl) ?_
                obtain ⟨g113, h⟩ := og h
                refine va_iald (D := D) hx hb hK hP 6 0 wMg6 rfl (inB_in g113) dX8_out_113 ?_
                refine lv_icmp_le (tgt := 120) hx hb dX8_out_114 (by decide) (fun c114 => ?_) (fun c114 => ?_)
                · replace h := ifp h c114
                  refine lv_aload_n hx hb dX8_out_120 rfl (lv_at hl 0 rfl) ?_
                  refine va_get (D := D) (ci := 8) (fs := vX8 ad F) (v := .ref (ad 4)) (C := RX8) (T := TX8) (N := 46) hx hb hts n_8 hown hK hP 0 wMg0 rfl 18 (by decide) k_4 (fun _ h9 => h9) rfl dX8_out_121 ?_
                  refine lv_iload_n hx hb dX8_out_124 rfl (lv_at hl 1 rfl) ?_
                  refine lv_aload_n hx hb dX8_out_125 rfl (lv_at hl 0 rfl) ?_
                  refine va_get (D := D) (ci := 8) (fs := vX8 ad F) (v := .ref (ad 1)) (C := RX8) (T := TX8) (N := 46) hx hb hts n_8 hown hK hP 0 wMg0 rfl 15 (by decide) k_0 (fun _ h9 => h9) rfl dX8_out_126 ?_
                  refine lv_iload_n hx hb dX8_out_129 rfl (lv_at hl 1 rfl) ?_
                  obtain ⟨g130, h⟩ := og h
                  refine va_iald (D := D) hx hb hK hP 1 0 wMg1 rfl (inB_in g130) dX8_out_130 ?_
                  refine lv_iconst (v := 1) hx hb dX8_out_131 (by decide) ?_
                  obtain ⟨y132_0, q132, h⟩ := bi1e h
                  have J132 : ∀ (wy132_0 : Int32), some (wy132_0) = some (y132_0) → ∀ (H : Heap) (locs : List Loc) (ls : Array Slot), va_P D vwCl (wM ad cA F G) H → va_D A (wM ad cA F G) → va_S A s.heap H locs → lv_has ls 4 [(0, .ref (ad 0)), (1, .int (a1)), (2, .int (a2)), (3, .int (a3))] → W p l e ({ frames := 2, cells := 0, slots := 0, locals := 42 } : Room) s m args below meth c H locs 0 0 Q (F0 m 145 ls [.int (wy132_0), .int (a1), .ref (ad 4)]) := by
                    intro wy132_0 e9 H locs ls hP hD hS hl
                    cases e9
                    obtain ⟨g145, h⟩ := og h
                    obtain ⟨G145, eG145⟩ : ∃ z : tG, z = stG G 3 a1 y132_0 := ⟨_, rfl⟩
                    replace h := pl h eG145
                    refine va_iast (D := D) hx hb hK hP hD hS 4 0 wMg4 rfl (inB_in g145) dX8_out_145 (fun H locs hP hD hS => ?_)
                    rw [wMa3 eG145] at hP hD
                    refine lv_aload_n hx hb dX8_out_146 rfl (lv_at hl 0 rfl) ?_
                    refine va_get (D := D) (ci := 8) (fs := vX8 ad F) (v := .ref (ad 1)) (C := RX8) (T := TX8) (N := 46) hx hb hts n_8 hown hK hP 0 wMg0 rfl 15 (by decide) k_0 (fun _ h9 => h9) rfl dX8_out_147 ?_
                    refine lv_iload_n hx hb dX8_out_150 rfl (lv_at hl 1 rfl) ?_
                    refine lv_iconst (v := 2) hx hb dX8_out_151 (by decide) ?_
                    obtain ⟨g152, h⟩ := og h
                    obtain ⟨G152, eG152⟩ : ∃ z : tG, z = stG G145 0 a1 2 := ⟨_, rfl⟩
                    replace h := pl h eG152
                    refine va_iast (D := D) hx hb hK hP hD hS 1 0 wMg1 rfl (inB_in g152) dX8_out_152 (fun H locs hP hD hS => ?_)
                    rw [wMa0 eG152] at hP hD
                    refine lv_aload_n hx hb dX8_out_153 rfl (lv_at hl 0 rfl) ?_
                    refine va_get (D := D) (ci := 8) (fs := vX8 ad F) (v := .ref (ad 3)) (C := RX8) (T := TX8) (N := 46) hx hb hts n_8 hown hK hP 0 wMg0 rfl 17 (by decide) k_5 (fun _ h9 => h9) rfl dX8_out_154 ?_
                    refine lv_iload_n hx hb dX8_out_157 rfl (lv_at hl 1 rfl) ?_
                    refine lv_iload_n hx hb dX8_out_158 rfl (lv_at hl 2 rfl) ?_
                    obtain ⟨g159, h⟩ := og h
                    obtain ⟨G159, eG159⟩ : ∃ z : tG, z = stG G152 2 a1 a2 := ⟨_, rfl⟩
                    replace h := pl h eG159
                    refine va_iast (D := D) hx hb hK hP hD hS 3 0 wMg3 rfl (inB_in g159) dX8_out_159 (fun H locs hP hD hS => ?_)
                    rw [wMa2 eG159] at hP hD
                    refine lv_aload_n hx hb dX8_out_160 rfl (lv_at hl 0 rfl) ?_
                    refine va_get (D := D) (ci := 8) (fs := vX8 ad F) (v := .ref (ad 2)) (C := RX8) (T := TX8) (N := 46) hx hb hts n_8 hown hK hP 0 wMg0 rfl 16 (by decide) k_6 (fun _ h9 => h9) rfl dX8_out_161 ?_
                    refine lv_iload_n hx hb dX8_out_164 rfl (lv_at hl 1 rfl) ?_
                    refine lv_iload_n hx hb dX8_out_165 rfl (lv_at hl 3 rfl) ?_
                    obtain ⟨g166, h⟩ := og h
                    obtain ⟨G166, eG166⟩ : ∃ z : tG, z = stG G159 1 a1 a3 := ⟨_, rfl⟩
                    replace h := pl h eG166
                    refine va_iast (D := D) hx hb hK hP hD hS 2 0 wMg2 rfl (inB_in g166) dX8_out_166 (fun H locs hP hD hS => ?_)
                    rw [wMa1 eG166] at hP hD
                    refine lv_iconst (v := 1) hx hb dX8_out_167 (by decide) ?_
                    exact hret _ _ _ _ _ _ _ dX8_out_168 h hP hD hS
                  refine lv_icmp_ne (tgt := 139) hx hb dX8_out_132 (by decide) (fun c132 => ?_) (fun c132 => ?_)
                  · replace q132 := ifn q132 c132
                    refine lv_aload_n hx hb dX8_out_139 rfl (lv_at hl 0 rfl) ?_
                    refine va_get (D := D) (ci := 8) (fs := vX8 ad F) (v := .ref (ad 4)) (C := RX8) (T := TX8) (N := 46) hx hb hts n_8 hown hK hP 0 wMg0 rfl 18 (by decide) k_4 (fun _ h9 => h9) rfl dX8_out_140 ?_
                    refine lv_iload_n hx hb dX8_out_143 rfl (lv_at hl 1 rfl) ?_
                    obtain ⟨g144, q132⟩ := og q132
                    refine va_iald (D := D) hx hb hK hP 4 0 wMg4 rfl (inB_in g144) dX8_out_144 ?_
                    exact J132 _ q132 _ _ _ hP hD hS (lv_sub hl [0, 1, 2, 3] rfl)
                  · replace q132 := ifp q132 c132
                    refine lv_iconst (v := 0) hx hb dX8_out_135 (by decide) ?_
                    refine lv_goto (tgt := 145) hx hb dX8_out_136 (by decide) ?_
                    exact J132 _ q132 _ _ _ hP hD hS (lv_sub hl [0, 1, 2, 3] rfl)
                · replace h := ifn h c114
                  refine lv_bipush (v := (-5)) hx hb dX8_out_117 (by decide) ?_
                  exact hret _ _ _ _ _ _ _ dX8_out_119 h hP hD hS
              · replace h := ifp h c62
                refine lv_aload_n hx hb dX8_out_65 rfl (lv_at hl 0 rfl) ?_
                refine lv_iload_n hx hb dX8_out_66 rfl (lv_at hl 2 rfl) ?_
                obtain ⟨x67, h67, h⟩ := bi1e h
                refine callVI (b := ad 0) (As := [.int (a2)]) (rest := []) ⟨hx, hb, hml, hown, hts⟩ (c_X8_onHose l D ad cA n F G a2 h67) (cwV 1 hts gX8_out_X8_onHose rfl rfl rfl (by decide +kernel) ⟨Nat.le_of_ble_eq_true rfl, Nat.le_of_ble_eq_true rfl⟩) (va_recv hK hP (ci := 8) (q0 := 0) rfl wMg0) hP hK hD hN hS hA rfl hl.1 rfl (Nat.le_of_ble_eq_true rfl) dX8_out_67 ⟨Nat.zero_le _, Nat.zero_le _⟩ (fun H locs hP hD hS => ?_)
                refine lv_iconst (v := 2) hx hb dX8_out_70 (by decide) ?_
                refine lv_icmp_ne (tgt := 77) hx hb dX8_out_71 (by decide) (fun c71 => ?_) (fun c71 => ?_)
                · replace h := ifn h c71
                  refine lv_iload_n hx hb dX8_out_77 rfl (lv_at hl 3 rfl) ?_
                  refine lv_bipush (v := 7) hx hb dX8_out_78 (by decide) ?_
                  refine lv_irem hx hb dX8_out_80 (by decide) ?_
                  refine lv_aload_n hx hb dX8_out_81 rfl (lv_at hl 0 rfl) ?_
                  refine va_get (D := D) (ci := 8) (fs := vX8 ad F) (v := .int ((F 14))) (C := RX8) (T := TX8) (N := 46) hx hb hts n_8 hown hK hP 0 wMg0 rfl 14 (by decide) k_2 (fun _ h9 => h9) rfl dX8_out_82 ?_
                  refine lv_bipush (v := 7) hx hb dX8_out_85 (by decide) ?_
                  refine lv_irem hx hb dX8_out_87 (by decide) ?_
                  refine lv_isub hx hb dX8_out_88 ?_
                  obtain ⟨x89, h89, h⟩ := bi1e h
                  refine callSI (As := [.int (((a3 - a3 / 7 * 7) - ((F 14) - (F 14) / 7 * 7)))]) (rest := []) ⟨hx, hb, hml, hown, hts⟩ (c_X8_size l D ad cA n F G ((a3 - a3 / 7 * 7) - ((F 14) - (F 14) / 7 * 7)) h89) (va_cwS 1 hts gX8_out_X8_size rfl rfl rfl (by decide +kernel) ⟨Nat.le_of_ble_eq_true rfl, Nat.le_of_ble_eq_true rfl⟩) hP hK hD hN hS hA rfl hl.1 rfl (Nat.le_of_ble_eq_true rfl) dX8_out_89 ⟨Nat.zero_le _, Nat.zero_le _⟩ (fun H locs hP hD hS => ?_)
                  refine lv_iload_n hx hb dX8_out_92 rfl (lv_at hl 3 rfl) ?_
                  refine lv_bipush (v := 7) hx hb dX8_out_93 (by decide) ?_
                  refine lv_idiv hx hb dX8_out_95 (by decide) ?_
                  refine lv_aload_n hx hb dX8_out_96 rfl (lv_at hl 0 rfl) ?_
                  refine va_get (D := D) (ci := 8) (fs := vX8 ad F) (v := .int ((F 14))) (C := RX8) (T := TX8) (N := 46) hx hb hts n_8 hown hK hP 0 wMg0 rfl 14 (by decide) k_2 (fun _ h9 => h9) rfl dX8_out_97 ?_
                  refine lv_bipush (v := 7) hx hb dX8_out_100 (by decide) ?_
                  refine lv_idiv hx hb dX8_out_102 (by decide) ?_
                  refine lv_isub hx hb dX8_out_103 ?_
                  obtain ⟨x104, h104, h⟩ := bi1e h
                  refine callSI (As := [.int (((a3 / 7) - ((F 14) / 7)))]) (rest := [.int (x89)]) ⟨hx, hb, hml, hown, hts⟩ (c_X8_size l D ad cA n F G ((a3 / 7) - ((F 14) / 7)) h104) (va_cwS 1 hts gX8_out_X8_size rfl rfl rfl (by decide +kernel) ⟨Nat.le_of_ble_eq_true rfl, Nat.le_of_ble_eq_true rfl⟩) hP hK hD hN hS hA rfl hl.1 rfl (Nat.le_of_ble_eq_true rfl) dX8_out_104 ⟨Nat.zero_le _, Nat.zero_le _⟩ (fun H locs hP hD hS => ?_)
                  refine lv_iadd hx hb dX8_out_107 ?_
                  refine lv_aload_n hx hb dX8_out_108 rfl (lv_at hl 0 rfl) ?_
                  refine va_get (D := D) (ci := 8) (fs := vX8 ad F) (v := .ref (ad 6)) (C := RX8) (T := TX8) (N := 46) hx hb hts n_8 hown hK hP 0 wMg0 rfl 20 (by decide) k_3 (fun _ h9 => h9) rfl dX8_out_109 ?_
                  refine lv_iload_n hx hb dX8_out_112 rfl (lv_at hl 2 rfl) ?_
                  obtain ⟨g113, h⟩ := og h
                  refine va_iald (D := D) hx hb hK hP 6 0 wMg6 rfl (inB_in g113) dX8_out_113 ?_
                  refine lv_icmp_le (tgt := 120) hx hb dX8_out_114 (by decide) (fun c114 => ?_) (fun c114 => ?_)
                  · replace h := ifp h c114
                    refine lv_aload_n hx hb dX8_out_120 rfl (lv_at hl 0 rfl) ?_
                    refine va_get (D := D) (ci := 8) (fs := vX8 ad F) (v := .ref (ad 4)) (C := RX8) (T := TX8) (N := 46) hx hb hts n_8 hown hK hP 0 wMg0 rfl 18 (by decide) k_4 (fun _ h9 => h9) rfl dX8_out_121 ?_
                    refine lv_iload_n hx hb dX8_out_124 rfl (lv_at hl 1 rfl) ?_
                    refine lv_aload_n hx hb dX8_out_125 rfl (lv_at hl 0 rfl) ?_
                    refine va_get (D := D) (ci := 8) (fs := vX8 ad F) (v := .ref (ad 1)) (C := RX8) (T := TX8) (N := 46) hx hb hts n_8 hown hK hP 0 wMg0 rfl 15 (by decide) k_0 (fun _ h9 => h9) rfl dX8_out_126 ?_
                    refine lv_iload_n hx hb dX8_out_129 rfl (lv_at hl 1 rfl) ?_
                    obtain ⟨g130, h⟩ := og h
                    refine va_iald (D := D) hx hb hK hP 1 0 wMg1 rfl (inB_in g130) dX8_out_130 ?_
                    refine lv_iconst (v := 1) hx hb dX8_out_131 (by decide) ?_
                    obtain ⟨y132_0, q132, h⟩ := bi1e h
                    have J132 : ∀ (wy132_0 : Int32), some (wy132_0) = some (y132_0) → ∀ (H : Heap) (locs : List Loc) (ls : Array Slot), va_P D vwCl (wM ad cA F G) H → va_D A (wM ad cA F G) → va_S A s.heap H locs → lv_has ls 4 [(0, .ref (ad 0)), (1, .int (a1)), (2, .int (a2)), (3, .int (a3))] → W p l e ({ frames := 2, cells := 0, slots := 0, locals := 42 } : Room) s m args below meth c H locs 0 0 Q (F0 m 145 ls [.int (wy132_0), .int (a1), .ref (ad 4)]) := by
                      intro wy132_0 e9 H locs ls hP hD hS hl
                      cases e9
                      obtain ⟨g145, h⟩ := og h
                      obtain ⟨G145, eG145⟩ : ∃ z : tG, z = stG G 3 a1 y132_0 := ⟨_, rfl⟩
                      replace h := pl h eG145
                      refine va_iast (D := D) hx hb hK hP hD hS 4 0 wMg4 rfl (inB_in g145) dX8_out_145 (fun H locs hP hD hS => ?_)
                      rw [wMa3 eG145] at hP hD
                      refine lv_aload_n hx hb dX8_out_146 rfl (lv_at hl 0 rfl) ?_
                      refine va_get (D := D) (ci := 8) (fs := vX8 ad F) (v := .ref (ad 1)) (C := RX8) (T := TX8) (N := 46) hx hb hts n_8 hown hK hP 0 wMg0 rfl 15 (by decide) k_0 (fun _ h9 => h9) rfl dX8_out_147 ?_
                      refine lv_iload_n hx hb dX8_out_150 rfl (lv_at hl 1 rfl) ?_
                      refine lv_iconst (v := 2) hx hb dX8_out_151 (by decide) ?_
                      obtain ⟨g152, h⟩ := og h
                      obtain ⟨G152, eG152⟩ : ∃ z : tG, z = stG G145 0 a1 2 := ⟨_, rfl⟩
                      replace h := pl h eG152
                      refine va_iast (D := D) hx hb hK hP hD hS 1 0 wMg1 rfl (inB_in g152) dX8_out_152 (fun H locs hP hD hS => ?_)
                      rw [wMa0 eG152] at hP hD
                      refine lv_aload_n hx hb dX8_out_153 rfl (lv_at hl 0 rfl) ?_
                      refine va_get (D := D) (ci := 8) (fs := vX8 ad F) (v := .ref (ad 3)) (C := RX8) (T := TX8) (N := 46) hx hb hts n_8 hown hK hP 0 wMg0 rfl 17 (by decide) k_5 (fun _ h9 => h9) rfl dX8_out_154 ?_
                      refine lv_iload_n hx hb dX8_out_157 rfl (lv_at hl 1 rfl) ?_
                      refine lv_iload_n hx hb dX8_out_158 rfl (lv_at hl 2 rfl) ?_
                      obtain ⟨g159, h⟩ := og h
                      obtain ⟨G159, eG159⟩ : ∃ z : tG, z = stG G152 2 a1 a2 := ⟨_, rfl⟩
                      replace h := pl h eG159
                      refine va_iast (D := D) hx hb hK hP hD hS 3 0 wMg3 rfl (inB_in g159) dX8_out_159 (fun H locs hP hD hS => ?_)
                      rw [wMa2 eG159] at hP hD
                      refine lv_aload_n hx hb dX8_out_160 rfl (lv_at hl 0 rfl) ?_
                      refine va_get (D := D) (ci := 8) (fs := vX8 ad F) (v := .ref (ad 2)) (C := RX8) (T := TX8) (N := 46) hx hb hts n_8 hown hK hP 0 wMg0 rfl 16 (by decide) k_6 (fun _ h9 => h9) rfl dX8_out_161 ?_
                      refine lv_iload_n hx hb dX8_out_164 rfl (lv_at hl 1 rfl) ?_
                      refine lv_iload_n hx hb dX8_out_165 rfl (lv_at hl 3 rfl) ?_
                      obtain ⟨g166, h⟩ := og h
                      obtain ⟨G166, eG166⟩ : ∃ z : tG, z = stG G159 1 a1 a3 := ⟨_, rfl⟩
                      replace h := pl h eG166
                      refine va_iast (D := D) hx hb hK hP hD hS 2 0 wMg2 rfl (inB_in g166) dX8_out_166 (fun H locs hP hD hS => ?_)
                      rw [wMa1 eG166] at hP hD
                      refine lv_iconst (v := 1) hx hb dX8_out_167 (by decide) ?_
                      exact hret _ _ _ _ _ _ _ dX8_out_168 h hP hD hS
                    refine lv_icmp_ne (tgt := 139) hx hb dX8_out_132 (by decide) (fun c132 => ?_) (fun c132 => ?_)
                    · replace q132 := ifn q132 c132
                      refine lv_aload_n hx hb dX8_out_139 rfl (lv_at hl 0 rfl) ?_
                      refine va_get (D := D) (ci := 8) (fs := vX8 ad F) (v := .ref (ad 4)) (C := RX8) (T := TX8) (N := 46) hx hb hts n_8 hown hK hP 0 wMg0 rfl 18 (by decide) k_4 (fun _ h9 => h9) rfl dX8_out_140 ?_
                      refine lv_iload_n hx hb dX8_out_143 rfl (lv_at hl 1 rfl) ?_
                      obtain ⟨g144, q132⟩ := og q132
                      refine va_iald (D := D) hx hb hK hP 4 0 wMg4 rfl (inB_in g144) dX8_out_144 ?_
                      exact J132 _ q132 _ _ _ hP hD hS (lv_sub hl [0, 1, 2, 3] rfl)
                    · replace q132 := ifp q132 c132
                      refine lv_iconst (v := 0) hx hb dX8_out_135 (by decide) ?_
                      refine lv_goto (tgt := 145) hx hb dX8_out_136 (by decide) ?_
                      exact J132 _ q132 _ _ _ hP hD hS (lv_sub hl [0, 1, 2, 3] rfl)
                  · replace h := ifn h c114
                    refine lv_bipush (v := (-5)) hx hb dX8_out_117 (by decide) ?_
                    exact hret _ _ _ _ _ _ _ dX8_out_119 h hP hD hS
                · replace h := ifp h c71
                  refine lv_bipush (v := (-4)) hx hb dX8_out_74 (by decide) ?_
                  exact hret _ _ _ _ _ _ _ dX8_out_76 h hP hD hS
            · replace h := ifn h c49
              refine lv_bipush (v := (-3)) hx hb dX8_out_52 (by decide) ?_
              exact hret _ _ _ _ _ _ _ dX8_out_54 h hP hD hS
      · replace h := ifp h c18
        refine lv_iconst (v := (-1)) hx hb dX8_out_21 (by decide) ?_
        exact hret _ _ _ _ _ _ _ dX8_out_22 h hP hD hS

def p_X8_room (n : Nat) (F : tF) (G : tG) (a1 : Int32) : Option (Int32 × tF × tG) :=
  bi1 (p_X8_in a1 100 5000) (fun x6 => (if x6 = 0 then some ((-2), F, G) else bi1 (p_X8_breathing n G) (fun x16 => (if 0 < x16 then some ((-3), F, G) else (if (F 1) ≤ 0 then plet (F 0) (fun (x36 : Int32) => plet (upd F 0 a1) (fun (F39 : tF) => plet (upd F39 2 a1) (fun (F44 : tF) => plet (upd F44 3 0) (fun (F49 : tF) => plet (upd F49 4 a1) (fun (F54 : tF) => plet (upd F54 5 0) (fun (F59 : tF) => plet (upd F59 6 0) (fun (F64 : tF) => plet (upd F64 7 0) (fun (F69 : tF) => plet (upd F69 8 0) (fun (F74 : tF) => plet (upd F74 9 0) (fun (F79 : tF) => some (x36, F79, G))))))))))) else some ((-3), F, G))))))
set_option maxHeartbeats 4000000 in
set_option maxRecDepth 100000 in
theorem c_X8_room (l : Launch) (D : va_G) (ad : Nat → Nat) (cA : ClassId) (n : Nat) (F : tF) (G : tG) (a1 : Int32) {r : Int32} {F' : tF} {G' : tG} (h : p_X8_room n F G a1 = some (r, F', G')) : CI l yX8_room wsX8_room ({ frames := 1, cells := 0, slots := 0, locals := 22 } : Room) D cA (wM ad cA F G) [.ref (ad 0), .int (a1)] r (wM ad cA F' G') := by
  rw [p_X8_room] at h
  refine metIm (w := wM ad cA) (cc := cX8_room) (maxL := 3) (by decide) rfl (Nat.le_of_ble_eq_true rfl) ?_
  intro p e s m args below meth c A ls Q hE hret
  obtain ⟨hx, hb, hts, hown, hml, hP, hK, hD, hN, hA, hl⟩ := hE
  have hown : s.vm.findClass RX8 = some m.cls := hown
  have hl : lv_has ls 3 [(0, .ref (ad 0)), (1, .int (a1))] := hl
  have hS : va_S A s.heap s.heap [] := va_S.rf
  have k_0 : (Cond.fieldLink RX8 89 "BellBookModel" "depth" "I").before args s = true := hts _ (List.mem_of_getElem? (i := 1) rfl)
  have n_8 : ∀ w ∈ u_ws RX8 TX8 46, w ∈ wsX8_room := fun w hw => List.mem_cons_of_mem _ (List.mem_append_right _ hw)
  have k_2 : (Cond.fieldLink RX8 7 "BellBookModel" "room" "I").before args s = true := hts _ (List.mem_of_getElem? (i := 2) rfl)
  have k_3 : (Cond.fieldLink RX8 13 "BellBookModel" "fresh" "I").before args s = true := hts _ (List.mem_of_getElem? (i := 3) rfl)
  have k_4 : (Cond.fieldLink RX8 92 "BellBookModel" "foul" "I").before args s = true := hts _ (List.mem_of_getElem? (i := 4) rfl)
  have k_5 : (Cond.fieldLink RX8 16 "BellBookModel" "sent" "I").before args s = true := hts _ (List.mem_of_getElem? (i := 5) rfl)
  have k_6 : (Cond.fieldLink RX8 109 "BellBookModel" "breathed" "I").before args s = true := hts _ (List.mem_of_getElem? (i := 6) rfl)
  have k_7 : (Cond.fieldLink RX8 99 "BellBookModel" "spilled" "I").before args s = true := hts _ (List.mem_of_getElem? (i := 7) rfl)
  have k_8 : (Cond.fieldLink RX8 112 "BellBookModel" "barrels" "I").before args s = true := hts _ (List.mem_of_getElem? (i := 8) rfl)
  have k_9 : (Cond.fieldLink RX8 115 "BellBookModel" "lacks" "I").before args s = true := hts _ (List.mem_of_getElem? (i := 9) rfl)
  have k_10 : (Cond.fieldLink RX8 118 "BellBookModel" "lacksBeyond" "I").before args s = true := hts _ (List.mem_of_getElem? (i := 10) rfl)
  refine lv_iload_n hx hb dX8_room_0 rfl (lv_at hl 1 rfl) ?_
  refine lv_bipush (v := 100) hx hb dX8_room_1 (by decide) ?_
  refine lv_sipush (v := 5000) hx hb dX8_room_3 (by decide) ?_
  obtain ⟨x6, h6, h⟩ := bi1e h
  refine callSI (As := [.int (a1), .int (100), .int (5000)]) (rest := []) ⟨hx, hb, hml, hown, hts⟩ (c_X8_in l D ad cA n F G a1 100 5000 h6) (va_cwS 3 hts gX8_room_X8_in rfl rfl rfl (by decide +kernel) ⟨Nat.le_of_ble_eq_true rfl, Nat.le_of_ble_eq_true rfl⟩) hP hK hD hN hS hA rfl hl.1 rfl (Nat.le_of_ble_eq_true rfl) dX8_room_6 ⟨Nat.zero_le _, Nat.zero_le _⟩ (fun H locs hP hD hS => ?_)
  refine lv_if_ne (tgt := 15) hx hb dX8_room_9 (by decide) (fun c9 => ?_) (fun c9 => ?_)
  · replace h := ifn h c9
    refine lv_aload_n hx hb dX8_room_15 rfl (lv_at hl 0 rfl) ?_
    obtain ⟨x16, h16, h⟩ := bi1e h
    refine callVI (b := ad 0) (As := []) (rest := []) ⟨hx, hb, hml, hown, hts⟩ (c_X8_breathing l D ad cA n F G h16) (cwV 0 hts gX8_room_X8_breathing rfl rfl rfl (by decide +kernel) ⟨Nat.le_of_ble_eq_true rfl, Nat.le_of_ble_eq_true rfl⟩) (va_recv hK hP (ci := 8) (q0 := 0) rfl wMg0) hP hK hD hN hS hA rfl hl.1 rfl (Nat.le_of_ble_eq_true rfl) dX8_room_16 ⟨Nat.zero_le _, Nat.zero_le _⟩ (fun H locs hP hD hS => ?_)
    refine lv_if_gt (tgt := 29) hx hb dX8_room_19 (by decide) (fun c19 => ?_) (fun c19 => ?_)
    · replace h := ifp h c19
      refine lv_bipush (v := (-3)) hx hb dX8_room_29 (by decide) ?_
      exact hret _ _ _ _ _ _ _ dX8_room_31 h hP hD hS
    · replace h := ifn h c19
      refine lv_aload_n hx hb dX8_room_22 rfl (lv_at hl 0 rfl) ?_
      refine va_get (D := D) (ci := 8) (fs := vX8 ad F) (v := .int ((F 1))) (C := RX8) (T := TX8) (N := 46) hx hb hts n_8 hown hK hP 0 wMg0 rfl 1 (by decide) k_0 (fun _ h9 => h9) rfl dX8_room_23 ?_
      refine lv_if_le (tgt := 32) hx hb dX8_room_26 (by decide) (fun c26 => ?_) (fun c26 => ?_)
      · replace h := ifp h c26
        refine lv_aload_n hx hb dX8_room_32 rfl (lv_at hl 0 rfl) ?_
        refine va_get (D := D) (ci := 8) (fs := vX8 ad F) (v := .int ((F 0))) (C := RX8) (T := TX8) (N := 46) hx hb hts n_8 hown hK hP 0 wMg0 rfl 0 (by decide) k_2 (fun _ h9 => h9) rfl dX8_room_33 ?_
        refine lv_topi (fun x36 ex36 => ?_)
        replace h := pl h ex36
        refine lv_istore_n (lv' := [(2, .int (x36)), (0, .ref (ad 0)), (1, .int (a1))]) hx hb dX8_room_36 rfl hl (by decide) rfl (fun ls hl => ?_)
        refine lv_aload_n hx hb dX8_room_37 rfl (lv_at hl 1 rfl) ?_
        refine lv_iload_n hx hb dX8_room_38 rfl (lv_at hl 2 rfl) ?_
        obtain ⟨F39, eF39⟩ : ∃ f : tF, f = upd F 0 a1 := ⟨_, rfl⟩
        replace h := pl h eF39
        refine va_put (D := D) (ci := 8) (fs := vX8 ad F) (v := .int (a1)) (ty := .int) (C := RX8) (T := TX8) (N := 46) hx hb hts n_8 tyX8 tyX8_ok nmX8 hown hK hP hD hS 0 wMg0 rfl 0 (by decide) k_2 (fun _ h9 => h9) rfl (tyX8_ok 0 (by decide)) rfl rfl (Nat.le_of_ble_eq_true rfl) dX8_room_39 (fun H locs hP hD hS => ?_)
        rw [wMp0 eF39] at hP hD
        refine lv_aload_n hx hb dX8_room_42 rfl (lv_at hl 1 rfl) ?_
        refine lv_iload_n hx hb dX8_room_43 rfl (lv_at hl 2 rfl) ?_
        obtain ⟨F44, eF44⟩ : ∃ f : tF, f = upd F39 2 a1 := ⟨_, rfl⟩
        replace h := pl h eF44
        refine va_put (D := D) (ci := 8) (fs := vX8 ad F39) (v := .int (a1)) (ty := .int) (C := RX8) (T := TX8) (N := 46) hx hb hts n_8 tyX8 tyX8_ok nmX8 hown hK hP hD hS 0 wMg0 rfl 2 (by decide) k_3 (fun _ h9 => h9) rfl (tyX8_ok 2 (by decide)) rfl rfl (Nat.le_of_ble_eq_true rfl) dX8_room_44 (fun H locs hP hD hS => ?_)
        rw [wMp2 eF44] at hP hD
        refine lv_aload_n hx hb dX8_room_47 rfl (lv_at hl 1 rfl) ?_
        refine lv_iconst (v := 0) hx hb dX8_room_48 (by decide) ?_
        obtain ⟨F49, eF49⟩ : ∃ f : tF, f = upd F44 3 0 := ⟨_, rfl⟩
        replace h := pl h eF49
        refine va_put (D := D) (ci := 8) (fs := vX8 ad F44) (v := .int (0)) (ty := .int) (C := RX8) (T := TX8) (N := 46) hx hb hts n_8 tyX8 tyX8_ok nmX8 hown hK hP hD hS 0 wMg0 rfl 3 (by decide) k_4 (fun _ h9 => h9) rfl (tyX8_ok 3 (by decide)) rfl rfl (Nat.le_of_ble_eq_true rfl) dX8_room_49 (fun H locs hP hD hS => ?_)
        rw [wMp3 eF49] at hP hD
        refine lv_aload_n hx hb dX8_room_52 rfl (lv_at hl 1 rfl) ?_
        refine lv_iload_n hx hb dX8_room_53 rfl (lv_at hl 2 rfl) ?_
        obtain ⟨F54, eF54⟩ : ∃ f : tF, f = upd F49 4 a1 := ⟨_, rfl⟩
        replace h := pl h eF54
        refine va_put (D := D) (ci := 8) (fs := vX8 ad F49) (v := .int (a1)) (ty := .int) (C := RX8) (T := TX8) (N := 46) hx hb hts n_8 tyX8 tyX8_ok nmX8 hown hK hP hD hS 0 wMg0 rfl 4 (by decide) k_5 (fun _ h9 => h9) rfl (tyX8_ok 4 (by decide)) rfl rfl (Nat.le_of_ble_eq_true rfl) dX8_room_54 (fun H locs hP hD hS => ?_)
        rw [wMp4 eF54] at hP hD
        refine lv_aload_n hx hb dX8_room_57 rfl (lv_at hl 1 rfl) ?_
        refine lv_iconst (v := 0) hx hb dX8_room_58 (by decide) ?_
        obtain ⟨F59, eF59⟩ : ∃ f : tF, f = upd F54 5 0 := ⟨_, rfl⟩
        replace h := pl h eF59
        refine va_put (D := D) (ci := 8) (fs := vX8 ad F54) (v := .int (0)) (ty := .int) (C := RX8) (T := TX8) (N := 46) hx hb hts n_8 tyX8 tyX8_ok nmX8 hown hK hP hD hS 0 wMg0 rfl 5 (by decide) k_6 (fun _ h9 => h9) rfl (tyX8_ok 5 (by decide)) rfl rfl (Nat.le_of_ble_eq_true rfl) dX8_room_59 (fun H locs hP hD hS => ?_)
        rw [wMp5 eF59] at hP hD
        refine lv_aload_n hx hb dX8_room_62 rfl (lv_at hl 1 rfl) ?_
        refine lv_iconst (v := 0) hx hb dX8_room_63 (by decide) ?_
        obtain ⟨F64, eF64⟩ : ∃ f : tF, f = upd F59 6 0 := ⟨_, rfl⟩
        replace h := pl h eF64
        refine va_put (D := D) (ci := 8) (fs := vX8 ad F59) (v := .int (0)) (ty := .int) (C := RX8) (T := TX8) (N := 46) hx hb hts n_8 tyX8 tyX8_ok nmX8 hown hK hP hD hS 0 wMg0 rfl 6 (by decide) k_7 (fun _ h9 => h9) rfl (tyX8_ok 6 (by decide)) rfl rfl (Nat.le_of_ble_eq_true rfl) dX8_room_64 (fun H locs hP hD hS => ?_)
        rw [wMp6 eF64] at hP hD
        refine lv_aload_n hx hb dX8_room_67 rfl (lv_at hl 1 rfl) ?_
        refine lv_iconst (v := 0) hx hb dX8_room_68 (by decide) ?_
        obtain ⟨F69, eF69⟩ : ∃ f : tF, f = upd F64 7 0 := ⟨_, rfl⟩
        replace h := pl h eF69
        refine va_put (D := D) (ci := 8) (fs := vX8 ad F64) (v := .int (0)) (ty := .int) (C := RX8) (T := TX8) (N := 46) hx hb hts n_8 tyX8 tyX8_ok nmX8 hown hK hP hD hS 0 wMg0 rfl 7 (by decide) k_8 (fun _ h9 => h9) rfl (tyX8_ok 7 (by decide)) rfl rfl (Nat.le_of_ble_eq_true rfl) dX8_room_69 (fun H locs hP hD hS => ?_)
        rw [wMp7 eF69] at hP hD
        refine lv_aload_n hx hb dX8_room_72 rfl (lv_at hl 1 rfl) ?_
        refine lv_iconst (v := 0) hx hb dX8_room_73 (by decide) ?_
        obtain ⟨F74, eF74⟩ : ∃ f : tF, f = upd F69 8 0 := ⟨_, rfl⟩
        replace h := pl h eF74
        refine va_put (D := D) (ci := 8) (fs := vX8 ad F69) (v := .int (0)) (ty := .int) (C := RX8) (T := TX8) (N := 46) hx hb hts n_8 tyX8 tyX8_ok nmX8 hown hK hP hD hS 0 wMg0 rfl 8 (by decide) k_9 (fun _ h9 => h9) rfl (tyX8_ok 8 (by decide)) rfl rfl (Nat.le_of_ble_eq_true rfl) dX8_room_74 (fun H locs hP hD hS => ?_)
        rw [wMp8 eF74] at hP hD
        refine lv_aload_n hx hb dX8_room_77 rfl (lv_at hl 1 rfl) ?_
        refine lv_iconst (v := 0) hx hb dX8_room_78 (by decide) ?_
        obtain ⟨F79, eF79⟩ : ∃ f : tF, f = upd F74 9 0 := ⟨_, rfl⟩
        replace h := pl h eF79
        refine va_put (D := D) (ci := 8) (fs := vX8 ad F74) (v := .int (0)) (ty := .int) (C := RX8) (T := TX8) (N := 46) hx hb hts n_8 tyX8 tyX8_ok nmX8 hown hK hP hD hS 0 wMg0 rfl 9 (by decide) k_10 (fun _ h9 => h9) rfl (tyX8_ok 9 (by decide)) rfl rfl (Nat.le_of_ble_eq_true rfl) dX8_room_79 (fun H locs hP hD hS => ?_)
        rw [wMp9 eF79] at hP hD
        refine lv_iload_n hx hb dX8_room_82 rfl (lv_at hl 0 rfl) ?_
        exact hret _ _ _ _ _ _ _ dX8_room_83 h hP hD hS
      · replace h := ifn h c26
        refine lv_bipush (v := (-3)) hx hb dX8_room_29 (by decide) ?_
        exact hret _ _ _ _ _ _ _ dX8_room_31 h hP hD hS
  · replace h := ifp h c9
    refine lv_bipush (v := (-2)) hx hb dX8_room_12 (by decide) ?_
    exact hret _ _ _ _ _ _ _ dX8_room_14 h hP hD hS

def p_X8_sign_L58 (F : tF) (G : tG) (a1 : Int32) (a2 : Int32) (a3 : Int32) (y13_0 : Int32) (K58 : Int32 → Option (Int32 × tF × tG)) : Nat → Int32 → Option (Int32 × tF × tG)
  | 0, _ => none
  | k58 + 1, z58_0 => (if 12 ≤ z58_0 then K58 z58_0 else (if y13_0 = 0 then (if z58_0 = a1 then plet (z58_0 + 1) (fun (x101 : Int32) => p_X8_sign_L58 F G a1 a2 a3 y13_0 K58 k58 x101) else oguard (inB z58_0 12) ((if (G 9 z58_0.toNatClampNeg) = a2 then oguard (inB z58_0 12) ((if (G 10 z58_0.toNatClampNeg) = a3 then some ((-5), F, G) else plet (z58_0 + 1) (fun (x101 : Int32) => p_X8_sign_L58 F G a1 a2 a3 y13_0 K58 k58 x101))) else plet (z58_0 + 1) (fun (x101 : Int32) => p_X8_sign_L58 F G a1 a2 a3 y13_0 K58 k58 x101)))) else K58 z58_0))
theorem p_X8_sign_L58_k {F : tF} {G : tG} {a1 : Int32} {a2 : Int32} {a3 : Int32} {y13_0 : Int32} {K0 : Int32 → Option (Int32 × tF × tG)} {k : Nat} {z58_0 : Int32} {x : Int32 × tF × tG} (h : p_X8_sign_L58 F G a1 a2 a3 y13_0 K0 k z58_0 = some x) : ∃ K, K = K0 ∧ p_X8_sign_L58 F G a1 a2 a3 y13_0 K k z58_0 = some x := ⟨K0, rfl, h⟩
def p_X8_sign (n : Nat) (F : tF) (G : tG) (a1 : Int32) (a2 : Int32) (a3 : Int32) : Option (Int32 × tF × tG) :=
  bi1 (p_X8_in a1 0 11) (fun x4 => (if x4 = 0 then some ((-1), F, G) else bi1 ((if a2 = 0 then (if a3 = 0 then some (1) else some (0)) else some (0))) (fun (y13_0 : Int32) => (if y13_0 = 0 then bi1 (p_X8_in a2 1 6) (fun x36 => (if x36 = 0 then some ((-2), F, G) else bi1 (p_X8_in a3 1 6) (fun x46 => (if x46 = 0 then some ((-2), F, G) else p_X8_sign_L58 F G a1 a2 a3 y13_0 (fun (z58_0 : Int32) => oguard (inB a1 12) (plet (stG G 9 a1 a2) (fun (G113 : tG) => oguard (inB a1 12) (plet (stG G113 10 a1 a3) (fun (G120 : tG) => some (1, F, G120)))))) n 0)))) else p_X8_sign_L58 F G a1 a2 a3 y13_0 (fun (z58_0 : Int32) => oguard (inB a1 12) (plet (stG G 9 a1 a2) (fun (G113 : tG) => oguard (inB a1 12) (plet (stG G113 10 a1 a3) (fun (G120 : tG) => some (1, F, G120)))))) n 0))))
set_option maxHeartbeats 4000000 in
set_option maxRecDepth 100000 in
theorem c_X8_sign (l : Launch) (D : va_G) (ad : Nat → Nat) (cA : ClassId) (n : Nat) (F : tF) (G : tG) (a1 : Int32) (a2 : Int32) (a3 : Int32) {r : Int32} {F' : tF} {G' : tG} (h : p_X8_sign n F G a1 a2 a3 = some (r, F', G')) : CI l yX8_sign wsX8_sign ({ frames := 1, cells := 0, slots := 0, locals := 22 } : Room) D cA (wM ad cA F G) [.ref (ad 0), .int (a1), .int (a2), .int (a3)] r (wM ad cA F' G') := by
  rw [p_X8_sign] at h
  refine metIm (w := wM ad cA) (cc := cX8_sign) (maxL := 6) (by decide) rfl (Nat.le_of_ble_eq_true rfl) ?_
  intro p e s m args below meth c A ls Q hE hret
  obtain ⟨hx, hb, hts, hown, hml, hP, hK, hD, hN, hA, hl⟩ := hE
  have hown : s.vm.findClass RX8 = some m.cls := hown
  have hl : lv_has ls 6 [(0, .ref (ad 0)), (1, .int (a1)), (2, .int (a2)), (3, .int (a3))] := hl
  have hS : va_S A s.heap s.heap [] := va_S.rf
  have k_0 : (Cond.fieldLink RX8 59 "BellBookModel" "tugsA" "[I").before args s = true := hts _ (List.mem_of_getElem? (i := 1) rfl)
  have n_8 : ∀ w ∈ u_ws RX8 TX8 46, w ∈ wsX8_sign := fun w hw => List.mem_cons_of_mem _ (List.mem_append_right _ hw)
  have k_2 : (Cond.fieldLink RX8 62 "BellBookModel" "tugsB" "[I").before args s = true := hts _ (List.mem_of_getElem? (i := 2) rfl)
  refine lv_iload_n hx hb dX8_sign_0 rfl (lv_at hl 1 rfl) ?_
  refine lv_iconst (v := 0) hx hb dX8_sign_1 (by decide) ?_
  refine lv_bipush (v := 11) hx hb dX8_sign_2 (by decide) ?_
  obtain ⟨x4, h4, h⟩ := bi1e h
  refine callSI (As := [.int (a1), .int (0), .int (11)]) (rest := []) ⟨hx, hb, hml, hown, hts⟩ (c_X8_in l D ad cA n F G a1 0 11 h4) (va_cwS 3 hts gX8_sign_X8_in rfl rfl rfl (by decide +kernel) ⟨Nat.le_of_ble_eq_true rfl, Nat.le_of_ble_eq_true rfl⟩) hP hK hD hN hS hA rfl hl.1 rfl (Nat.le_of_ble_eq_true rfl) dX8_sign_4 ⟨Nat.zero_le _, Nat.zero_le _⟩ (fun H locs hP hD hS => ?_)
  refine lv_if_ne (tgt := 12) hx hb dX8_sign_7 (by decide) (fun c7 => ?_) (fun c7 => ?_)
  · replace h := ifn h c7
    refine lv_iload_n hx hb dX8_sign_12 rfl (lv_at hl 2 rfl) ?_
    obtain ⟨y13_0, q13, h⟩ := bi1e h
    have J13 : ∀ (wy13_0 : Int32), some (wy13_0) = some (y13_0) → ∀ (H : Heap) (locs : List Loc) (ls : Array Slot), va_P D vwCl (wM ad cA F G) H → va_D A (wM ad cA F G) → va_S A s.heap H locs → lv_has ls 6 [(0, .ref (ad 0)), (1, .int (a1)), (2, .int (a2)), (3, .int (a3))] → W p l e ({ frames := 1, cells := 0, slots := 0, locals := 22 } : Room) s m args below meth c H locs 0 0 Q (F0 m 25 ls [.int (wy13_0)]) := by
      intro wy13_0 e9 H locs ls hP hD hS hl
      cases e9
      refine lv_istore (lv' := [(4, .int (y13_0)), (0, .ref (ad 0)), (1, .int (a1)), (2, .int (a2)), (3, .int (a3))]) hx hb dX8_sign_25 hl (by decide) rfl (fun ls hl => ?_)
      refine lv_iload hx hb dX8_sign_27 (lv_at hl 0 rfl) ?_
      refine lv_if_ne (tgt := 55) hx hb dX8_sign_29 (by decide) (fun c29 => ?_) (fun c29 => ?_)
      · replace h := ifn h c29
        refine lv_iconst (v := 0) hx hb dX8_sign_55 (by decide) ?_
        refine lv_istore (lv' := [(5, .int (0)), (4, .int (y13_0)), (0, .ref (ad 0)), (1, .int (a1)), (2, .int (a2)), (3, .int (a3))]) hx hb dX8_sign_56 hl (by decide) rfl (fun ls hl => ?_)
        obtain ⟨K58, eK58, h⟩ := p_X8_sign_L58_k h
        have JE58 : ∀ (z58_0 : Int32) (H : Heap) (locs : List Loc) (ls : Array Slot), K58 z58_0 = some (r, F', G') → va_P D vwCl (wM ad cA F G) H → va_D A (wM ad cA F G) → va_S A s.heap H locs → lv_has ls 6 [(5, .int (z58_0)), (4, .int (y13_0)), (0, .ref (ad 0)), (1, .int (a1)), (2, .int (a2)), (3, .int (a3))] → W p l e ({ frames := 1, cells := 0, slots := 0, locals := 22 } : Room) s m args below meth c H locs 0 0 Q (F0 m 107 ls []) := by
          intro z58_0 H locs ls h hP hD hS hl
          rw [eK58] at h
          refine lv_aload_n hx hb dX8_sign_107 rfl (lv_at hl 2 rfl) ?_
          refine va_get (D := D) (ci := 8) (fs := vX8 ad F) (v := .ref (ad 10)) (C := RX8) (T := TX8) (N := 46) hx hb hts n_8 hown hK hP 0 wMg0 rfl 28 (by decide) k_0 (fun _ h9 => h9) rfl dX8_sign_108 ?_
          refine lv_iload_n hx hb dX8_sign_111 rfl (lv_at hl 3 rfl) ?_
          refine lv_iload_n hx hb dX8_sign_112 rfl (lv_at hl 4 rfl) ?_
          obtain ⟨g113, h⟩ := og h
          obtain ⟨G113, eG113⟩ : ∃ z : tG, z = stG G 9 a1 a2 := ⟨_, rfl⟩
          replace h := pl h eG113
          refine va_iast (D := D) hx hb hK hP hD hS 10 0 wMg10 rfl (inB_in g113) dX8_sign_113 (fun H locs hP hD hS => ?_)
          rw [wMa9 eG113] at hP hD
          refine lv_aload_n hx hb dX8_sign_114 rfl (lv_at hl 2 rfl) ?_
          refine va_get (D := D) (ci := 8) (fs := vX8 ad F) (v := .ref (ad 11)) (C := RX8) (T := TX8) (N := 46) hx hb hts n_8 hown hK hP 0 wMg0 rfl 29 (by decide) k_2 (fun _ h9 => h9) rfl dX8_sign_115 ?_
          refine lv_iload_n hx hb dX8_sign_118 rfl (lv_at hl 3 rfl) ?_
          refine lv_iload_n hx hb dX8_sign_119 rfl (lv_at hl 5 rfl) ?_
          obtain ⟨g120, h⟩ := og h
          obtain ⟨G120, eG120⟩ : ∃ z : tG, z = stG G113 10 a1 a3 := ⟨_, rfl⟩
          replace h := pl h eG120
          refine va_iast (D := D) hx hb hK hP hD hS 11 0 wMg11 rfl (inB_in g120) dX8_sign_120 (fun H locs hP hD hS => ?_)
          rw [wMa10 eG120] at hP hD
          refine lv_iconst (v := 1) hx hb dX8_sign_121 (by decide) ?_
          exact hret _ _ _ _ _ _ _ dX8_sign_122 h hP hD hS
        have LL58 : ∀ (k : Nat) (z58_0 : Int32) (H : Heap) (locs : List Loc) (ls : Array Slot), p_X8_sign_L58 F G a1 a2 a3 y13_0 K58 k z58_0 = some (r, F', G') → va_P D vwCl (wM ad cA F G) H → va_D A (wM ad cA F G) → va_S A s.heap H locs → lv_has ls 6 [(5, .int (z58_0)), (4, .int (y13_0)), (0, .ref (ad 0)), (1, .int (a1)), (2, .int (a2)), (3, .int (a3))] → W p l e ({ frames := 1, cells := 0, slots := 0, locals := 22 } : Room) s m args below meth c H locs 0 0 Q (F0 m 58 ls []) := by
          intro k
          induction k with
          | zero =>
            intro z58_0 H locs ls h hP hD hS hl
            rw [p_X8_sign_L58] at h
            cases h
          | succ k58 ih58 =>
            intro z58_0 H locs ls h hP hD hS hl
            rw [p_X8_sign_L58] at h
            refine lv_iload hx hb dX8_sign_58 (lv_at hl 0 rfl) ?_
            refine lv_bipush (v := 12) hx hb dX8_sign_60 (by decide) ?_
            refine lv_icmp_ge (tgt := 107) hx hb dX8_sign_62 (by decide) (fun c62 => ?_) (fun c62 => ?_)
            · replace h := ifp h c62
              exact JE58 _ _ _ _ h hP hD hS (lv_sub hl [0, 1, 2, 3, 4, 5] rfl)
            · replace h := ifn h c62
              refine lv_iload hx hb dX8_sign_65 (lv_at hl 1 rfl) ?_
              refine lv_if_ne (tgt := 107) hx hb dX8_sign_67 (by decide) (fun c67 => ?_) (fun c67 => ?_)
              · replace h := ifn h c67
                exact JE58 _ _ _ _ h hP hD hS (lv_sub hl [0, 1, 2, 3, 4, 5] rfl)
              · replace h := ifp h c67
                refine lv_iload hx hb dX8_sign_70 (lv_at hl 0 rfl) ?_
                refine lv_iload_n hx hb dX8_sign_72 rfl (lv_at hl 3 rfl) ?_
                refine lv_icmp_eq (tgt := 101) hx hb dX8_sign_73 (by decide) (fun c73 => ?_) (fun c73 => ?_)
                · replace h := ifp h c73
                  obtain ⟨x101, ex101⟩ : ∃ z : Int32, z = (z58_0 + 1) := ⟨_, rfl⟩
                  replace h := pl h ex101
                  refine lv_iinc (v := x101) (lv' := [(5, .int (x101)), (4, .int (y13_0)), (0, .ref (ad 0)), (1, .int (a1)), (2, .int (a2)), (3, .int (a3))]) hx hb dX8_sign_101 hl (k := 0) rfl (by rw [ex101]; rfl) (by decide) rfl (fun ls hl => ?_)
                  refine lv_goto (tgt := 58) hx hb dX8_sign_104 (by decide) ?_
                  exact ih58 _ _ _ _ h hP hD hS (lv_sub hl [0, 1, 2, 3, 4, 5] rfl)
                · replace h := ifn h c73
                  refine lv_aload_n hx hb dX8_sign_76 rfl (lv_at hl 2 rfl) ?_
                  refine va_get (D := D) (ci := 8) (fs := vX8 ad F) (v := .ref (ad 10)) (C := RX8) (T := TX8) (N := 46) hx hb hts n_8 hown hK hP 0 wMg0 rfl 28 (by decide) k_0 (fun _ h9 => h9) rfl dX8_sign_77 ?_
                  refine lv_iload hx hb dX8_sign_80 (lv_at hl 0 rfl) ?_
                  obtain ⟨g82, h⟩ := og h
                  refine va_iald (D := D) hx hb hK hP 10 0 wMg10 rfl (inB_in g82) dX8_sign_82 ?_
                  refine lv_iload_n hx hb dX8_sign_83 rfl (lv_at hl 4 rfl) ?_
                  refine lv_icmp_ne (tgt := 101) hx hb dX8_sign_84 (by decide) (fun c84 => ?_) (fun c84 => ?_)
                  · replace h := ifn h c84
                    obtain ⟨x101, ex101⟩ : ∃ z : Int32, z = (z58_0 + 1) := ⟨_, rfl⟩
                    replace h := pl h ex101
                    refine lv_iinc (v := x101) (lv' := [(5, .int (x101)), (4, .int (y13_0)), (0, .ref (ad 0)), (1, .int (a1)), (2, .int (a2)), (3, .int (a3))]) hx hb dX8_sign_101 hl (k := 0) rfl (by rw [ex101]; rfl) (by decide) rfl (fun ls hl => ?_)
                    refine lv_goto (tgt := 58) hx hb dX8_sign_104 (by decide) ?_
                    exact ih58 _ _ _ _ h hP hD hS (lv_sub hl [0, 1, 2, 3, 4, 5] rfl)
                  · replace h := ifp h c84
                    refine lv_aload_n hx hb dX8_sign_87 rfl (lv_at hl 2 rfl) ?_
                    refine va_get (D := D) (ci := 8) (fs := vX8 ad F) (v := .ref (ad 11)) (C := RX8) (T := TX8) (N := 46) hx hb hts n_8 hown hK hP 0 wMg0 rfl 29 (by decide) k_2 (fun _ h9 => h9) rfl dX8_sign_88 ?_
                    refine lv_iload hx hb dX8_sign_91 (lv_at hl 0 rfl) ?_
                    obtain ⟨g93, h⟩ := og h
                    refine va_iald (D := D) hx hb hK hP 11 0 wMg11 rfl (inB_in g93) dX8_sign_93 ?_
                    refine lv_iload_n hx hb dX8_sign_94 rfl (lv_at hl 5 rfl) ?_
                    refine lv_icmp_ne (tgt := 101) hx hb dX8_sign_95 (by decide) (fun c95 => ?_) (fun c95 => ?_)
                    · replace h := ifn h c95
                      obtain ⟨x101, ex101⟩ : ∃ z : Int32, z = (z58_0 + 1) := ⟨_, rfl⟩
                      replace h := pl h ex101
                      refine lv_iinc (v := x101) (lv' := [(5, .int (x101)), (4, .int (y13_0)), (0, .ref (ad 0)), (1, .int (a1)), (2, .int (a2)), (3, .int (a3))]) hx hb dX8_sign_101 hl (k := 0) rfl (by rw [ex101]; rfl) (by decide) rfl (fun ls hl => ?_)
                      refine lv_goto (tgt := 58) hx hb dX8_sign_104 (by decide) ?_
                      exact ih58 _ _ _ _ h hP hD hS (lv_sub hl [0, 1, 2, 3, 4, 5] rfl)
                    · replace h := ifp h c95
                      refine lv_bipush (v := (-5)) hx hb dX8_sign_98 (by decide) ?_
                      exact hret _ _ _ _ _ _ _ dX8_sign_100 h hP hD hS
        exact LL58 n 0 _ _ _ h hP hD hS (lv_sub hl [0, 1, 2, 3, 4, 5] rfl)
      · replace h := ifp h c29
        refine lv_iload_n hx hb dX8_sign_32 rfl (lv_at hl 3 rfl) ?_
        refine lv_iconst (v := 1) hx hb dX8_sign_33 (by decide) ?_
        refine lv_bipush (v := 6) hx hb dX8_sign_34 (by decide) ?_
        obtain ⟨x36, h36, h⟩ := bi1e h
        refine callSI (As := [.int (a2), .int (1), .int (6)]) (rest := []) ⟨hx, hb, hml, hown, hts⟩ (c_X8_in l D ad cA n F G a2 1 6 h36) (va_cwS 3 hts gX8_sign_X8_in rfl rfl rfl (by decide +kernel) ⟨Nat.le_of_ble_eq_true rfl, Nat.le_of_ble_eq_true rfl⟩) hP hK hD hN hS hA rfl hl.1 rfl (Nat.le_of_ble_eq_true rfl) dX8_sign_36 ⟨Nat.zero_le _, Nat.zero_le _⟩ (fun H locs hP hD hS => ?_)
        refine lv_if_eq (tgt := 52) hx hb dX8_sign_39 (by decide) (fun c39 => ?_) (fun c39 => ?_)
        · replace h := ifp h c39
          refine lv_bipush (v := (-2)) hx hb dX8_sign_52 (by decide) ?_
          exact hret _ _ _ _ _ _ _ dX8_sign_54 h hP hD hS
        · replace h := ifn h c39
          refine lv_iload_n hx hb dX8_sign_42 rfl (lv_at hl 4 rfl) ?_
          refine lv_iconst (v := 1) hx hb dX8_sign_43 (by decide) ?_
          refine lv_bipush (v := 6) hx hb dX8_sign_44 (by decide) ?_
          obtain ⟨x46, h46, h⟩ := bi1e h
          refine callSI (As := [.int (a3), .int (1), .int (6)]) (rest := []) ⟨hx, hb, hml, hown, hts⟩ (c_X8_in l D ad cA n F G a3 1 6 h46) (va_cwS 3 hts gX8_sign_X8_in rfl rfl rfl (by decide +kernel) ⟨Nat.le_of_ble_eq_true rfl, Nat.le_of_ble_eq_true rfl⟩) hP hK hD hN hS hA rfl hl.1 rfl (Nat.le_of_ble_eq_true rfl) dX8_sign_46 ⟨Nat.zero_le _, Nat.zero_le _⟩ (fun H locs hP hD hS => ?_)
          refine lv_if_ne (tgt := 55) hx hb dX8_sign_49 (by decide) (fun c49 => ?_) (fun c49 => ?_)
          · replace h := ifn h c49
            refine lv_iconst (v := 0) hx hb dX8_sign_55 (by decide) ?_
            refine lv_istore (lv' := [(5, .int (0)), (4, .int (y13_0)), (0, .ref (ad 0)), (1, .int (a1)), (2, .int (a2)), (3, .int (a3))]) hx hb dX8_sign_56 hl (by decide) rfl (fun ls hl => ?_)
            obtain ⟨K58, eK58, h⟩ := p_X8_sign_L58_k h
            have JE58 : ∀ (z58_0 : Int32) (H : Heap) (locs : List Loc) (ls : Array Slot), K58 z58_0 = some (r, F', G') → va_P D vwCl (wM ad cA F G) H → va_D A (wM ad cA F G) → va_S A s.heap H locs → lv_has ls 6 [(5, .int (z58_0)), (4, .int (y13_0)), (0, .ref (ad 0)), (1, .int (a1)), (2, .int (a2)), (3, .int (a3))] → W p l e ({ frames := 1, cells := 0, slots := 0, locals := 22 } : Room) s m args below meth c H locs 0 0 Q (F0 m 107 ls []) := by
              intro z58_0 H locs ls h hP hD hS hl
              rw [eK58] at h
              refine lv_aload_n hx hb dX8_sign_107 rfl (lv_at hl 2 rfl) ?_
              refine va_get (D := D) (ci := 8) (fs := vX8 ad F) (v := .ref (ad 10)) (C := RX8) (T := TX8) (N := 46) hx hb hts n_8 hown hK hP 0 wMg0 rfl 28 (by decide) k_0 (fun _ h9 => h9) rfl dX8_sign_108 ?_
              refine lv_iload_n hx hb dX8_sign_111 rfl (lv_at hl 3 rfl) ?_
              refine lv_iload_n hx hb dX8_sign_112 rfl (lv_at hl 4 rfl) ?_
              obtain ⟨g113, h⟩ := og h
              obtain ⟨G113, eG113⟩ : ∃ z : tG, z = stG G 9 a1 a2 := ⟨_, rfl⟩
              replace h := pl h eG113
              refine va_iast (D := D) hx hb hK hP hD hS 10 0 wMg10 rfl (inB_in g113) dX8_sign_113 (fun H locs hP hD hS => ?_)
              rw [wMa9 eG113] at hP hD
              refine lv_aload_n hx hb dX8_sign_114 rfl (lv_at hl 2 rfl) ?_
              refine va_get (D := D) (ci := 8) (fs := vX8 ad F) (v := .ref (ad 11)) (C := RX8) (T := TX8) (N := 46) hx hb hts n_8 hown hK hP 0 wMg0 rfl 29 (by decide) k_2 (fun _ h9 => h9) rfl dX8_sign_115 ?_
              refine lv_iload_n hx hb dX8_sign_118 rfl (lv_at hl 3 rfl) ?_
              refine lv_iload_n hx hb dX8_sign_119 rfl (lv_at hl 5 rfl) ?_
              obtain ⟨g120, h⟩ := og h
              obtain ⟨G120, eG120⟩ : ∃ z : tG, z = stG G113 10 a1 a3 := ⟨_, rfl⟩
              replace h := pl h eG120
              refine va_iast (D := D) hx hb hK hP hD hS 11 0 wMg11 rfl (inB_in g120) dX8_sign_120 (fun H locs hP hD hS => ?_)
              rw [wMa10 eG120] at hP hD
              refine lv_iconst (v := 1) hx hb dX8_sign_121 (by decide) ?_
              exact hret _ _ _ _ _ _ _ dX8_sign_122 h hP hD hS
            have LL58 : ∀ (k : Nat) (z58_0 : Int32) (H : Heap) (locs : List Loc) (ls : Array Slot), p_X8_sign_L58 F G a1 a2 a3 y13_0 K58 k z58_0 = some (r, F', G') → va_P D vwCl (wM ad cA F G) H → va_D A (wM ad cA F G) → va_S A s.heap H locs → lv_has ls 6 [(5, .int (z58_0)), (4, .int (y13_0)), (0, .ref (ad 0)), (1, .int (a1)), (2, .int (a2)), (3, .int (a3))] → W p l e ({ frames := 1, cells := 0, slots := 0, locals := 22 } : Room) s m args below meth c H locs 0 0 Q (F0 m 58 ls []) := by
              intro k
              induction k with
              | zero =>
                intro z58_0 H locs ls h hP hD hS hl
                rw [p_X8_sign_L58] at h
                cases h
              | succ k58 ih58 =>
                intro z58_0 H locs ls h hP hD hS hl
                rw [p_X8_sign_L58] at h
                refine lv_iload hx hb dX8_sign_58 (lv_at hl 0 rfl) ?_
                refine lv_bipush (v := 12) hx hb dX8_sign_60 (by decide) ?_
                refine lv_icmp_ge (tgt := 107) hx hb dX8_sign_62 (by decide) (fun c62 => ?_) (fun c62 => ?_)
                · replace h := ifp h c62
                  exact JE58 _ _ _ _ h hP hD hS (lv_sub hl [0, 1, 2, 3, 4, 5] rfl)
                · replace h := ifn h c62
                  refine lv_iload hx hb dX8_sign_65 (lv_at hl 1 rfl) ?_
                  refine lv_if_ne (tgt := 107) hx hb dX8_sign_67 (by decide) (fun c67 => ?_) (fun c67 => ?_)
                  · replace h := ifn h c67
                    exact JE58 _ _ _ _ h hP hD hS (lv_sub hl [0, 1, 2, 3, 4, 5] rfl)
                  · replace h := ifp h c67
                    refine lv_iload hx hb dX8_sign_70 (lv_at hl 0 rfl) ?_
                    refine lv_iload_n hx hb dX8_sign_72 rfl (lv_at hl 3 rfl) ?_
                    refine lv_icmp_eq (tgt := 101) hx hb dX8_sign_73 (by decide) (fun c73 => ?_) (fun c73 => ?_)
                    · replace h := ifp h c73
                      obtain ⟨x101, ex101⟩ : ∃ z : Int32, z = (z58_0 + 1) := ⟨_, rfl⟩
                      replace h := pl h ex101
                      refine lv_iinc (v := x101) (lv' := [(5, .int (x101)), (4, .int (y13_0)), (0, .ref (ad 0)), (1, .int (a1)), (2, .int (a2)), (3, .int (a3))]) hx hb dX8_sign_101 hl (k := 0) rfl (by rw [ex101]; rfl) (by decide) rfl (fun ls hl => ?_)
                      refine lv_goto (tgt := 58) hx hb dX8_sign_104 (by decide) ?_
                      exact ih58 _ _ _ _ h hP hD hS (lv_sub hl [0, 1, 2, 3, 4, 5] rfl)
                    · replace h := ifn h c73
                      refine lv_aload_n hx hb dX8_sign_76 rfl (lv_at hl 2 rfl) ?_
                      refine va_get (D := D) (ci := 8) (fs := vX8 ad F) (v := .ref (ad 10)) (C := RX8) (T := TX8) (N := 46) hx hb hts n_8 hown hK hP 0 wMg0 rfl 28 (by decide) k_0 (fun _ h9 => h9) rfl dX8_sign_77 ?_
                      refine lv_iload hx hb dX8_sign_80 (lv_at hl 0 rfl) ?_
                      obtain ⟨g82, h⟩ := og h
                      refine va_iald (D := D) hx hb hK hP 10 0 wMg10 rfl (inB_in g82) dX8_sign_82 ?_
                      refine lv_iload_n hx hb dX8_sign_83 rfl (lv_at hl 4 rfl) ?_
                      refine lv_icmp_ne (tgt := 101) hx hb dX8_sign_84 (by decide) (fun c84 => ?_) (fun c84 => ?_)
                      · replace h := ifn h c84
                        obtain ⟨x101, ex101⟩ : ∃ z : Int32, z = (z58_0 + 1) := ⟨_, rfl⟩
                        replace h := pl h ex101
                        refine lv_iinc (v := x101) (lv' := [(5, .int (x101)), (4, .int (y13_0)), (0, .ref (ad 0)), (1, .int (a1)), (2, .int (a2)), (3, .int (a3))]) hx hb dX8_sign_101 hl (k := 0) rfl (by rw [ex101]; rfl) (by decide) rfl (fun ls hl => ?_)
                        refine lv_goto (tgt := 58) hx hb dX8_sign_104 (by decide) ?_
                        exact ih58 _ _ _ _ h hP hD hS (lv_sub hl [0, 1, 2, 3, 4, 5] rfl)
                      · replace h := ifp h c84
                        refine lv_aload_n hx hb dX8_sign_87 rfl (lv_at hl 2 rfl) ?_
                        refine va_get (D := D) (ci := 8) (fs := vX8 ad F) (v := .ref (ad 11)) (C := RX8) (T := TX8) (N := 46) hx hb hts n_8 hown hK hP 0 wMg0 rfl 29 (by decide) k_2 (fun _ h9 => h9) rfl dX8_sign_88 ?_
                        refine lv_iload hx hb dX8_sign_91 (lv_at hl 0 rfl) ?_
                        obtain ⟨g93, h⟩ := og h
                        refine va_iald (D := D) hx hb hK hP 11 0 wMg11 rfl (inB_in g93) dX8_sign_93 ?_
                        refine lv_iload_n hx hb dX8_sign_94 rfl (lv_at hl 5 rfl) ?_
                        refine lv_icmp_ne (tgt := 101) hx hb dX8_sign_95 (by decide) (fun c95 => ?_) (fun c95 => ?_)
                        · replace h := ifn h c95
                          obtain ⟨x101, ex101⟩ : ∃ z : Int32, z = (z58_0 + 1) := ⟨_, rfl⟩
                          replace h := pl h ex101
                          refine lv_iinc (v := x101) (lv' := [(5, .int (x101)), (4, .int (y13_0)), (0, .ref (ad 0)), (1, .int (a1)), (2, .int (a2)), (3, .int (a3))]) hx hb dX8_sign_101 hl (k := 0) rfl (by rw [ex101]; rfl) (by decide) rfl (fun ls hl => ?_)
                          refine lv_goto (tgt := 58) hx hb dX8_sign_104 (by decide) ?_
                          exact ih58 _ _ _ _ h hP hD hS (lv_sub hl [0, 1, 2, 3, 4, 5] rfl)
                        · replace h := ifp h c95
                          refine lv_bipush (v := (-5)) hx hb dX8_sign_98 (by decide) ?_
                          exact hret _ _ _ _ _ _ _ dX8_sign_100 h hP hD hS
            exact LL58 n 0 _ _ _ h hP hD hS (lv_sub hl [0, 1, 2, 3, 4, 5] rfl)
          · replace h := ifp h c49
            refine lv_bipush (v := (-2)) hx hb dX8_sign_52 (by decide) ?_
            exact hret _ _ _ _ _ _ _ dX8_sign_54 h hP hD hS
    refine lv_if_ne (tgt := 24) hx hb dX8_sign_13 (by decide) (fun c13 => ?_) (fun c13 => ?_)
    · replace q13 := ifn q13 c13
      refine lv_iconst (v := 0) hx hb dX8_sign_24 (by decide) ?_
      exact J13 _ q13 _ _ _ hP hD hS (lv_sub hl [0, 1, 2, 3] rfl)
    · replace q13 := ifp q13 c13
      refine lv_iload_n hx hb dX8_sign_16 rfl (lv_at hl 3 rfl) ?_
      refine lv_if_ne (tgt := 24) hx hb dX8_sign_17 (by decide) (fun c17 => ?_) (fun c17 => ?_)
      · replace q13 := ifn q13 c17
        refine lv_iconst (v := 0) hx hb dX8_sign_24 (by decide) ?_
        exact J13 _ q13 _ _ _ hP hD hS (lv_sub hl [0, 1, 2, 3] rfl)
      · replace q13 := ifp q13 c17
        refine lv_iconst (v := 1) hx hb dX8_sign_20 (by decide) ?_
        refine lv_goto (tgt := 25) hx hb dX8_sign_21 (by decide) ?_
        exact J13 _ q13 _ _ _ hP hD hS (lv_sub hl [0, 1, 2, 3] rfl)
  · replace h := ifp h c7
    refine lv_iconst (v := (-1)) hx hb dX8_sign_10 (by decide) ?_
    exact hret _ _ _ _ _ _ _ dX8_sign_11 h hP hD hS

def p_X8_stay (F : tF) (G : tG) (a1 : Int32) : Option (Int32 × tF × tG) :=
  bi1 (p_X8_in a1 1 60) (fun x4 => (if x4 = 0 then some ((-2), F, G) else plet (F 12) (fun (x17 : Int32) => plet (upd F 12 a1) (fun (F20 : tF) => some (x17, F20, G)))))
set_option maxHeartbeats 4000000 in
set_option maxRecDepth 100000 in
theorem c_X8_stay (l : Launch) (D : va_G) (ad : Nat → Nat) (cA : ClassId) (n : Nat) (F : tF) (G : tG) (a1 : Int32) {r : Int32} {F' : tF} {G' : tG} (h : p_X8_stay F G a1 = some (r, F', G')) : CI l yX8_stay wsX8_stay ({ frames := 1, cells := 0, slots := 0, locals := 22 } : Room) D cA (wM ad cA F G) [.ref (ad 0), .int (a1)] r (wM ad cA F' G') := by
  rw [p_X8_stay] at h
  refine metIm (w := wM ad cA) (cc := cX8_stay) (maxL := 3) (by decide) rfl (Nat.le_of_ble_eq_true rfl) ?_
  intro p e s m args below meth c A ls Q hE hret
  obtain ⟨hx, hb, hts, hown, hml, hP, hK, hD, hN, hA, hl⟩ := hE
  have hown : s.vm.findClass RX8 = some m.cls := hown
  have hl : lv_has ls 3 [(0, .ref (ad 0)), (1, .int (a1))] := hl
  have hS : va_S A s.heap s.heap [] := va_S.rf
  have k_0 : (Cond.fieldLink RX8 25 "BellBookModel" "stay" "I").before args s = true := hts _ (List.mem_of_getElem? (i := 1) rfl)
  have n_8 : ∀ w ∈ u_ws RX8 TX8 46, w ∈ wsX8_stay := fun w hw => List.mem_cons_of_mem _ (List.mem_append_right _ hw)
  refine lv_iload_n hx hb dX8_stay_0 rfl (lv_at hl 1 rfl) ?_
  refine lv_iconst (v := 1) hx hb dX8_stay_1 (by decide) ?_
  refine lv_bipush (v := 60) hx hb dX8_stay_2 (by decide) ?_
  obtain ⟨x4, h4, h⟩ := bi1e h
  refine callSI (As := [.int (a1), .int (1), .int (60)]) (rest := []) ⟨hx, hb, hml, hown, hts⟩ (c_X8_in l D ad cA n F G a1 1 60 h4) (va_cwS 3 hts gX8_stay_X8_in rfl rfl rfl (by decide +kernel) ⟨Nat.le_of_ble_eq_true rfl, Nat.le_of_ble_eq_true rfl⟩) hP hK hD hN hS hA rfl hl.1 rfl (Nat.le_of_ble_eq_true rfl) dX8_stay_4 ⟨Nat.zero_le _, Nat.zero_le _⟩ (fun H locs hP hD hS => ?_)
  refine lv_if_ne (tgt := 13) hx hb dX8_stay_7 (by decide) (fun c7 => ?_) (fun c7 => ?_)
  · replace h := ifn h c7
    refine lv_aload_n hx hb dX8_stay_13 rfl (lv_at hl 0 rfl) ?_
    refine va_get (D := D) (ci := 8) (fs := vX8 ad F) (v := .int ((F 12))) (C := RX8) (T := TX8) (N := 46) hx hb hts n_8 hown hK hP 0 wMg0 rfl 12 (by decide) k_0 (fun _ h9 => h9) rfl dX8_stay_14 ?_
    refine lv_topi (fun x17 ex17 => ?_)
    replace h := pl h ex17
    refine lv_istore_n (lv' := [(2, .int (x17)), (0, .ref (ad 0)), (1, .int (a1))]) hx hb dX8_stay_17 rfl hl (by decide) rfl (fun ls hl => ?_)
    refine lv_aload_n hx hb dX8_stay_18 rfl (lv_at hl 1 rfl) ?_
    refine lv_iload_n hx hb dX8_stay_19 rfl (lv_at hl 2 rfl) ?_
    obtain ⟨F20, eF20⟩ : ∃ f : tF, f = upd F 12 a1 := ⟨_, rfl⟩
    replace h := pl h eF20
    refine va_put (D := D) (ci := 8) (fs := vX8 ad F) (v := .int (a1)) (ty := .int) (C := RX8) (T := TX8) (N := 46) hx hb hts n_8 tyX8 tyX8_ok nmX8 hown hK hP hD hS 0 wMg0 rfl 12 (by decide) k_0 (fun _ h9 => h9) rfl (tyX8_ok 12 (by decide)) rfl rfl (Nat.le_of_ble_eq_true rfl) dX8_stay_20 (fun H locs hP hD hS => ?_)
    rw [wMp12 eF20] at hP hD
    refine lv_iload_n hx hb dX8_stay_23 rfl (lv_at hl 0 rfl) ?_
    exact hret _ _ _ _ _ _ _ dX8_stay_24 h hP hD hS
  · replace h := ifp h c7
    refine lv_bipush (v := (-2)) hx hb dX8_stay_10 (by decide) ?_
    exact hret _ _ _ _ _ _ _ dX8_stay_12 h hP hD hS
