def p_X8_air (n : Nat) (F : tF) (G : tG) (a1 : Int32) : Option (Int32) :=
  bi1 (p_X8_all F) (fun x1 => oguard (nzB (10 + (F 1))) (plet ((x1 * 10) / (10 + (F 1))) (fun (x15 : Int32) => (if a1 = 0 then some (F 2) else (if a1 = 1 then some (F 3) else (if a1 = 2 then some (F 4) else (if a1 = 3 then some (F 5) else (if a1 = 4 then some (F 6) else (if a1 = 5 then some x15 else (if a1 = 6 then some ((F 0) - x15) else (if a1 = 7 then bi1 (p_X8_foulness F) (fun x119 => some x119) else (if a1 = 8 then bi1 (p_X8_last n F G) (fun x124 => some x124) else (if a1 = 9 then bi1 (p_X8_most F) (fun x129 => some x129) else (if a1 = 10 then some (F 7) else (if a1 = 11 then some (F 8) else (if a1 = 12 then some (F 9) else some (-2)))))))))))))))))
set_option maxHeartbeats 4000000 in
set_option maxRecDepth 100000 in
theorem c_X8_air (l : Launch) (D : va_G) (ad : Nat → Nat) (cA : ClassId) (n : Nat) (F : tF) (G : tG) (a1 : Int32) {r : Int32} (h : p_X8_air n F G a1 = some r) : CI l yX8_air wsX8_air ({ frames := 2, cells := 0, slots := 0, locals := 43 } : Room) D cA (wM ad cA F G) [.ref (ad 0), .int (a1)] r (wM ad cA F G) := by
  rw [p_X8_air] at h
  refine metIr (w := wM ad cA) (cc := cX8_air) (maxL := 3) (by decide) rfl (Nat.le_of_ble_eq_true rfl) ?_
  intro p e s m args below meth c A ls Q hE hret
  obtain ⟨hx, hb, hts, hown, hml, hP, hK, hD, hN, hA, hl⟩ := hE
  have hown : s.vm.findClass RX8 = some m.cls := hown
  have hl : lv_has ls 3 [(0, .ref (ad 0)), (1, .int (a1))] := hl
  have hS : va_S A s.heap s.heap [] := va_S.rf
  have k_0 : (Cond.fieldLink RX8 89 "BellBookModel" "depth" "I").before args s = true := hts _ (List.mem_of_getElem? (i := 1) rfl)
  have n_8 : ∀ w ∈ u_ws RX8 TX8 46, w ∈ wsX8_air := fun w hw => List.mem_cons_of_mem _ (List.mem_append_right _ hw)
  have k_2 : (Cond.fieldLink RX8 13 "BellBookModel" "fresh" "I").before args s = true := hts _ (List.mem_of_getElem? (i := 2) rfl)
  have k_3 : (Cond.fieldLink RX8 92 "BellBookModel" "foul" "I").before args s = true := hts _ (List.mem_of_getElem? (i := 3) rfl)
  have k_4 : (Cond.fieldLink RX8 16 "BellBookModel" "sent" "I").before args s = true := hts _ (List.mem_of_getElem? (i := 4) rfl)
  have k_5 : (Cond.fieldLink RX8 109 "BellBookModel" "breathed" "I").before args s = true := hts _ (List.mem_of_getElem? (i := 5) rfl)
  have k_6 : (Cond.fieldLink RX8 99 "BellBookModel" "spilled" "I").before args s = true := hts _ (List.mem_of_getElem? (i := 6) rfl)
  have k_7 : (Cond.fieldLink RX8 7 "BellBookModel" "room" "I").before args s = true := hts _ (List.mem_of_getElem? (i := 7) rfl)
  have k_8 : (Cond.fieldLink RX8 112 "BellBookModel" "barrels" "I").before args s = true := hts _ (List.mem_of_getElem? (i := 8) rfl)
  have k_9 : (Cond.fieldLink RX8 115 "BellBookModel" "lacks" "I").before args s = true := hts _ (List.mem_of_getElem? (i := 9) rfl)
  have k_10 : (Cond.fieldLink RX8 118 "BellBookModel" "lacksBeyond" "I").before args s = true := hts _ (List.mem_of_getElem? (i := 10) rfl)
  refine lv_aload_n hx hb dX8_air_0 rfl (lv_at hl 0 rfl) ?_
  obtain ⟨x1, h1, h⟩ := bi1e h
  refine callVI (b := ad 0) (As := []) (rest := []) ⟨hx, hb, hml, hown, hts⟩ (c_X8_all l D ad cA n F G h1) (cwV 0 hts gX8_air_X8_all rfl rfl rfl (by decide +kernel) ⟨Nat.le_of_ble_eq_true rfl, Nat.le_of_ble_eq_true rfl⟩) (va_recv hK hP (ci := 8) (q0 := 0) rfl wMg0) hP hK hD hN hS hA rfl hl.1 rfl (Nat.le_of_ble_eq_true rfl) dX8_air_1 ⟨Nat.zero_le _, Nat.zero_le _⟩ (fun H locs hP hD hS => ?_)
  refine lv_bipush (v := 10) hx hb dX8_air_4 (by decide) ?_
  refine lv_imul hx hb dX8_air_6 ?_
  refine lv_bipush (v := 10) hx hb dX8_air_7 (by decide) ?_
  refine lv_aload_n hx hb dX8_air_9 rfl (lv_at hl 0 rfl) ?_
  refine va_get (D := D) (ci := 8) (fs := vX8 ad F) (v := .int ((F 1))) (C := RX8) (T := TX8) (N := 46) hx hb hts n_8 hown hK hP 0 wMg0 rfl 1 (by decide) k_0 (fun _ h9 => h9) rfl dX8_air_10 ?_
  refine lv_iadd hx hb dX8_air_13 ?_
  obtain ⟨g14, h⟩ := og h
  refine lv_idiv hx hb dX8_air_14 (nzB_ne g14) ?_
  refine lv_topi (fun x15 ex15 => ?_)
  replace h := pl h ex15
  refine lv_istore_n (lv' := [(2, .int (x15)), (0, .ref (ad 0)), (1, .int (a1))]) hx hb dX8_air_15 rfl hl (by decide) rfl (fun ls hl => ?_)
  refine lv_iload_n hx hb dX8_air_16 rfl (lv_at hl 2 rfl) ?_
  by_cases c17_0 : a1 = 0
  · replace h := ifp h c17_0
    refine lv_tableIn (off := 67) (tgt := 84) hx hb dX8_air_17 (by rw [c17_0]; decide) (by rw [c17_0]; decide) (by rw [c17_0]; decide) (by decide) ?_
    refine lv_aload_n hx hb dX8_air_84 rfl (lv_at hl 1 rfl) ?_
    refine va_get (D := D) (ci := 8) (fs := vX8 ad F) (v := .int ((F 2))) (C := RX8) (T := TX8) (N := 46) hx hb hts n_8 hown hK hP 0 wMg0 rfl 2 (by decide) k_2 (fun _ h9 => h9) rfl dX8_air_85 ?_
    exact hret _ _ _ _ _ dX8_air_88 h hP hD hS
  replace h := ifn h c17_0
  by_cases c17_1 : a1 = 1
  · replace h := ifp h c17_1
    refine lv_tableIn (off := 72) (tgt := 89) hx hb dX8_air_17 (by rw [c17_1]; decide) (by rw [c17_1]; decide) (by rw [c17_1]; decide) (by decide) ?_
    refine lv_aload_n hx hb dX8_air_89 rfl (lv_at hl 1 rfl) ?_
    refine va_get (D := D) (ci := 8) (fs := vX8 ad F) (v := .int ((F 3))) (C := RX8) (T := TX8) (N := 46) hx hb hts n_8 hown hK hP 0 wMg0 rfl 3 (by decide) k_3 (fun _ h9 => h9) rfl dX8_air_90 ?_
    exact hret _ _ _ _ _ dX8_air_93 h hP hD hS
  replace h := ifn h c17_1
  by_cases c17_2 : a1 = 2
  · replace h := ifp h c17_2
    refine lv_tableIn (off := 77) (tgt := 94) hx hb dX8_air_17 (by rw [c17_2]; decide) (by rw [c17_2]; decide) (by rw [c17_2]; decide) (by decide) ?_
    refine lv_aload_n hx hb dX8_air_94 rfl (lv_at hl 1 rfl) ?_
    refine va_get (D := D) (ci := 8) (fs := vX8 ad F) (v := .int ((F 4))) (C := RX8) (T := TX8) (N := 46) hx hb hts n_8 hown hK hP 0 wMg0 rfl 4 (by decide) k_4 (fun _ h9 => h9) rfl dX8_air_95 ?_
    exact hret _ _ _ _ _ dX8_air_98 h hP hD hS
  replace h := ifn h c17_2
  by_cases c17_3 : a1 = 3
  · replace h := ifp h c17_3
    refine lv_tableIn (off := 82) (tgt := 99) hx hb dX8_air_17 (by rw [c17_3]; decide) (by rw [c17_3]; decide) (by rw [c17_3]; decide) (by decide) ?_
    refine lv_aload_n hx hb dX8_air_99 rfl (lv_at hl 1 rfl) ?_
    refine va_get (D := D) (ci := 8) (fs := vX8 ad F) (v := .int ((F 5))) (C := RX8) (T := TX8) (N := 46) hx hb hts n_8 hown hK hP 0 wMg0 rfl 5 (by decide) k_5 (fun _ h9 => h9) rfl dX8_air_100 ?_
    exact hret _ _ _ _ _ dX8_air_103 h hP hD hS
  replace h := ifn h c17_3
  by_cases c17_4 : a1 = 4
  · replace h := ifp h c17_4
    refine lv_tableIn (off := 87) (tgt := 104) hx hb dX8_air_17 (by rw [c17_4]; decide) (by rw [c17_4]; decide) (by rw [c17_4]; decide) (by decide) ?_
    refine lv_aload_n hx hb dX8_air_104 rfl (lv_at hl 1 rfl) ?_
    refine va_get (D := D) (ci := 8) (fs := vX8 ad F) (v := .int ((F 6))) (C := RX8) (T := TX8) (N := 46) hx hb hts n_8 hown hK hP 0 wMg0 rfl 6 (by decide) k_6 (fun _ h9 => h9) rfl dX8_air_105 ?_
    exact hret _ _ _ _ _ dX8_air_108 h hP hD hS
  replace h := ifn h c17_4
  by_cases c17_5 : a1 = 5
  · replace h := ifp h c17_5
    refine lv_tableIn (off := 92) (tgt := 109) hx hb dX8_air_17 (by rw [c17_5]; decide) (by rw [c17_5]; decide) (by rw [c17_5]; decide) (by decide) ?_
    refine lv_iload_n hx hb dX8_air_109 rfl (lv_at hl 0 rfl) ?_
    exact hret _ _ _ _ _ dX8_air_110 h hP hD hS
  replace h := ifn h c17_5
  by_cases c17_6 : a1 = 6
  · replace h := ifp h c17_6
    refine lv_tableIn (off := 94) (tgt := 111) hx hb dX8_air_17 (by rw [c17_6]; decide) (by rw [c17_6]; decide) (by rw [c17_6]; decide) (by decide) ?_
    refine lv_aload_n hx hb dX8_air_111 rfl (lv_at hl 1 rfl) ?_
    refine va_get (D := D) (ci := 8) (fs := vX8 ad F) (v := .int ((F 0))) (C := RX8) (T := TX8) (N := 46) hx hb hts n_8 hown hK hP 0 wMg0 rfl 0 (by decide) k_7 (fun _ h9 => h9) rfl dX8_air_112 ?_
    refine lv_iload_n hx hb dX8_air_115 rfl (lv_at hl 0 rfl) ?_
    refine lv_isub hx hb dX8_air_116 ?_
    exact hret _ _ _ _ _ dX8_air_117 h hP hD hS
  replace h := ifn h c17_6
  by_cases c17_7 : a1 = 7
  · replace h := ifp h c17_7
    refine lv_tableIn (off := 101) (tgt := 118) hx hb dX8_air_17 (by rw [c17_7]; decide) (by rw [c17_7]; decide) (by rw [c17_7]; decide) (by decide) ?_
    refine lv_aload_n hx hb dX8_air_118 rfl (lv_at hl 1 rfl) ?_
    obtain ⟨x119, h119, h⟩ := bi1e h
    refine callVI (b := ad 0) (As := []) (rest := []) ⟨hx, hb, hml, hown, hts⟩ (c_X8_foulness l D ad cA n F G h119) (cwV 0 hts gX8_air_X8_foulness rfl rfl rfl (by decide +kernel) ⟨Nat.le_of_ble_eq_true rfl, Nat.le_of_ble_eq_true rfl⟩) (va_recv hK hP (ci := 8) (q0 := 0) rfl wMg0) hP hK hD hN hS hA rfl hl.1 rfl (Nat.le_of_ble_eq_true rfl) dX8_air_119 ⟨Nat.zero_le _, Nat.zero_le _⟩ (fun H locs hP hD hS => ?_)
    exact hret _ _ _ _ _ dX8_air_122 h hP hD hS
  replace h := ifn h c17_7
  by_cases c17_8 : a1 = 8
  · replace h := ifp h c17_8
    refine lv_tableIn (off := 106) (tgt := 123) hx hb dX8_air_17 (by rw [c17_8]; decide) (by rw [c17_8]; decide) (by rw [c17_8]; decide) (by decide) ?_
    refine lv_aload_n hx hb dX8_air_123 rfl (lv_at hl 1 rfl) ?_
    obtain ⟨x124, h124, h⟩ := bi1e h
    refine callVI (b := ad 0) (As := []) (rest := []) ⟨hx, hb, hml, hown, hts⟩ (c_X8_last l D ad cA n F G h124) (cwV 0 hts gX8_air_X8_last rfl rfl rfl (by decide +kernel) ⟨Nat.le_of_ble_eq_true rfl, Nat.le_of_ble_eq_true rfl⟩) (va_recv hK hP (ci := 8) (q0 := 0) rfl wMg0) hP hK hD hN hS hA rfl hl.1 rfl (Nat.le_of_ble_eq_true rfl) dX8_air_124 ⟨Nat.zero_le _, Nat.zero_le _⟩ (fun H locs hP hD hS => ?_)
    exact hret _ _ _ _ _ dX8_air_127 h hP hD hS
  replace h := ifn h c17_8
  by_cases c17_9 : a1 = 9
  · replace h := ifp h c17_9
    refine lv_tableIn (off := 111) (tgt := 128) hx hb dX8_air_17 (by rw [c17_9]; decide) (by rw [c17_9]; decide) (by rw [c17_9]; decide) (by decide) ?_
    refine lv_aload_n hx hb dX8_air_128 rfl (lv_at hl 1 rfl) ?_
    obtain ⟨x129, h129, h⟩ := bi1e h
    refine callVI (b := ad 0) (As := []) (rest := []) ⟨hx, hb, hml, hown, hts⟩ (c_X8_most l D ad cA n F G h129) (cwV 0 hts gX8_air_X8_most rfl rfl rfl (by decide +kernel) ⟨Nat.le_of_ble_eq_true rfl, Nat.le_of_ble_eq_true rfl⟩) (va_recv hK hP (ci := 8) (q0 := 0) rfl wMg0) hP hK hD hN hS hA rfl hl.1 rfl (Nat.le_of_ble_eq_true rfl) dX8_air_129 ⟨Nat.zero_le _, Nat.zero_le _⟩ (fun H locs hP hD hS => ?_)
    exact hret _ _ _ _ _ dX8_air_132 h hP hD hS
  replace h := ifn h c17_9
  by_cases c17_10 : a1 = 10
  · replace h := ifp h c17_10
    refine lv_tableIn (off := 116) (tgt := 133) hx hb dX8_air_17 (by rw [c17_10]; decide) (by rw [c17_10]; decide) (by rw [c17_10]; decide) (by decide) ?_
    refine lv_aload_n hx hb dX8_air_133 rfl (lv_at hl 1 rfl) ?_
    refine va_get (D := D) (ci := 8) (fs := vX8 ad F) (v := .int ((F 7))) (C := RX8) (T := TX8) (N := 46) hx hb hts n_8 hown hK hP 0 wMg0 rfl 7 (by decide) k_8 (fun _ h9 => h9) rfl dX8_air_134 ?_
    exact hret _ _ _ _ _ dX8_air_137 h hP hD hS
  replace h := ifn h c17_10
  by_cases c17_11 : a1 = 11
  · replace h := ifp h c17_11
    refine lv_tableIn (off := 121) (tgt := 138) hx hb dX8_air_17 (by rw [c17_11]; decide) (by rw [c17_11]; decide) (by rw [c17_11]; decide) (by decide) ?_
    refine lv_aload_n hx hb dX8_air_138 rfl (lv_at hl 1 rfl) ?_
    refine va_get (D := D) (ci := 8) (fs := vX8 ad F) (v := .int ((F 8))) (C := RX8) (T := TX8) (N := 46) hx hb hts n_8 hown hK hP 0 wMg0 rfl 8 (by decide) k_9 (fun _ h9 => h9) rfl dX8_air_139 ?_
    exact hret _ _ _ _ _ dX8_air_142 h hP hD hS
  replace h := ifn h c17_11
  by_cases c17_12 : a1 = 12
  · replace h := ifp h c17_12
    refine lv_tableIn (off := 126) (tgt := 143) hx hb dX8_air_17 (by rw [c17_12]; decide) (by rw [c17_12]; decide) (by rw [c17_12]; decide) (by decide) ?_
    refine lv_aload_n hx hb dX8_air_143 rfl (lv_at hl 1 rfl) ?_
    refine va_get (D := D) (ci := 8) (fs := vX8 ad F) (v := .int ((F 9))) (C := RX8) (T := TX8) (N := 46) hx hb hts n_8 hown hK hP 0 wMg0 rfl 9 (by decide) k_10 (fun _ h9 => h9) rfl dX8_air_144 ?_
    exact hret _ _ _ _ _ dX8_air_147 h hP hD hS
  replace h := ifn h c17_12
  have ic17_0 : a1.toInt ≠ 0 := ne_toInt c17_0
  have ic17_1 : a1.toInt ≠ 1 := ne_toInt c17_1
  have ic17_2 : a1.toInt ≠ 2 := ne_toInt c17_2
  have ic17_3 : a1.toInt ≠ 3 := ne_toInt c17_3
  have ic17_4 : a1.toInt ≠ 4 := ne_toInt c17_4
  have ic17_5 : a1.toInt ≠ 5 := ne_toInt c17_5
  have ic17_6 : a1.toInt ≠ 6 := ne_toInt c17_6
  have ic17_7 : a1.toInt ≠ 7 := ne_toInt c17_7
  have ic17_8 : a1.toInt ≠ 8 := ne_toInt c17_8
  have ic17_9 : a1.toInt ≠ 9 := ne_toInt c17_9
  have ic17_10 : a1.toInt ≠ 10 := ne_toInt c17_10
  have ic17_11 : a1.toInt ≠ 11 := ne_toInt c17_11
  have ic17_12 : a1.toInt ≠ 12 := ne_toInt c17_12
  refine lv_tableOut (tgt := 148) hx hb dX8_air_17 (by omega) (by decide) ?_
  refine lv_bipush (v := (-2)) hx hb dX8_air_148 (by decide) ?_
  exact hret _ _ _ _ _ dX8_air_150 h hP hD hS

def p_X8_size (a0 : Int32) : Option (Int32) :=
  bi1 ((if 0 ≤ a0 then some (a0) else some ((-a0)))) (fun (y1_0 : Int32) => some y1_0)
set_option maxHeartbeats 4000000 in
set_option maxRecDepth 100000 in
theorem c_X8_size (l : Launch) (D : va_G) (ad : Nat → Nat) (cA : ClassId) (n : Nat) (F : tF) (G : tG) (a0 : Int32) {r : Int32} (h : p_X8_size a0 = some r) : CI l yX8_size wsX8_size ({ frames := 0, cells := 0, slots := 0, locals := 0 } : Room) D cA (wM ad cA F G) [.int (a0)] r (wM ad cA F G) := by
  rw [p_X8_size] at h
  refine metIr (w := wM ad cA) (cc := cX8_size) (maxL := 1) (by decide) rfl (Nat.le_of_ble_eq_true rfl) ?_
  intro p e s m args below meth c A ls Q hE hret
  obtain ⟨hx, hb, hts, hown, hml, hP, hK, hD, hN, hA, hl⟩ := hE
  have hown : s.vm.findClass RX8 = some m.cls := hown
  have hl : lv_has ls 1 [(0, .int (a0))] := hl
  have hS : va_S A s.heap s.heap [] := va_S.rf
  refine lv_iload_n hx hb dX8_size_0 rfl (lv_at hl 0 rfl) ?_
  obtain ⟨y1_0, q1, h⟩ := bi1e h
  have J1 : ∀ (wy1_0 : Int32), some (wy1_0) = some (y1_0) → ∀ (H : Heap) (locs : List Loc) (ls : Array Slot), va_P D vwCl (wM ad cA F G) H → va_D A (wM ad cA F G) → va_S A s.heap H locs → lv_has ls 1 [(0, .int (a0))] → W p l e ({ frames := 0, cells := 0, slots := 0, locals := 0 } : Room) s m args below meth c H locs 0 0 Q (F0 m 10 ls [.int (wy1_0)]) := by
    intro wy1_0 e9 H locs ls hP hD hS hl
    cases e9
    exact hret _ _ _ _ _ dX8_size_10 h hP hD hS
  refine lv_if_ge (tgt := 9) hx hb dX8_size_1 (by decide) (fun c1 => ?_) (fun c1 => ?_)
  · replace q1 := ifp q1 c1
    refine lv_iload_n hx hb dX8_size_9 rfl (lv_at hl 0 rfl) ?_
    exact J1 _ q1 _ _ _ hP hD hS (lv_sub hl [0] rfl)
  · replace q1 := ifn q1 c1
    refine lv_iload_n hx hb dX8_size_4 rfl (lv_at hl 0 rfl) ?_
    refine lv_ineg hx hb dX8_size_5 ?_
    refine lv_goto (tgt := 10) hx hb dX8_size_6 (by decide) ?_
    exact J1 _ q1 _ _ _ hP hD hS (lv_sub hl [0] rfl)

def p_X8_apart (G : tG) (a1 : Int32) (a2 : Int32) (a3 : Int32) : Option (Int32) :=
  oguard (inB a1 12) (bi1 (p_X8_size ((G 9 a1.toNatClampNeg) - a2)) (fun x8 => oguard (inB a1 12) (bi1 (p_X8_size ((G 10 a1.toNatClampNeg) - a3)) (fun x19 => some (x8 + x19)))))
set_option maxHeartbeats 4000000 in
set_option maxRecDepth 100000 in
theorem c_X8_apart (l : Launch) (D : va_G) (ad : Nat → Nat) (cA : ClassId) (n : Nat) (F : tF) (G : tG) (a1 : Int32) (a2 : Int32) (a3 : Int32) {r : Int32} (h : p_X8_apart G a1 a2 a3 = some r) : CI l yX8_apart wsX8_apart ({ frames := 1, cells := 0, slots := 0, locals := 20 } : Room) D cA (wM ad cA F G) [.ref (ad 0), .int (a1), .int (a2), .int (a3)] r (wM ad cA F G) := by
  rw [p_X8_apart] at h
  refine metIr (w := wM ad cA) (cc := cX8_apart) (maxL := 4) (by decide) rfl (Nat.le_of_ble_eq_true rfl) ?_
  intro p e s m args below meth c A ls Q hE hret
  obtain ⟨hx, hb, hts, hown, hml, hP, hK, hD, hN, hA, hl⟩ := hE
  have hown : s.vm.findClass RX8 = some m.cls := hown
  have hl : lv_has ls 4 [(0, .ref (ad 0)), (1, .int (a1)), (2, .int (a2)), (3, .int (a3))] := hl
  have hS : va_S A s.heap s.heap [] := va_S.rf
  have k_0 : (Cond.fieldLink RX8 59 "BellBookModel" "tugsA" "[I").before args s = true := hts _ (List.mem_of_getElem? (i := 1) rfl)
  have n_8 : ∀ w ∈ u_ws RX8 TX8 46, w ∈ wsX8_apart := fun w hw => List.mem_cons_of_mem _ (List.mem_append_right _ hw)
  have k_2 : (Cond.fieldLink RX8 62 "BellBookModel" "tugsB" "[I").before args s = true := hts _ (List.mem_of_getElem? (i := 2) rfl)
  refine lv_aload_n hx hb dX8_apart_0 rfl (lv_at hl 0 rfl) ?_
  refine va_get (D := D) (ci := 8) (fs := vX8 ad F) (v := .ref (ad 10)) (C := RX8) (T := TX8) (N := 46) hx hb hts n_8 hown hK hP 0 wMg0 rfl 28 (by decide) k_0 (fun _ h9 => h9) rfl dX8_apart_1 ?_
  refine lv_iload_n hx hb dX8_apart_4 rfl (lv_at hl 1 rfl) ?_
  obtain ⟨g5, h⟩ := og h
  refine va_iald (D := D) hx hb hK hP 10 0 wMg10 rfl (inB_in g5) dX8_apart_5 ?_
  refine lv_iload_n hx hb dX8_apart_6 rfl (lv_at hl 2 rfl) ?_
  refine lv_isub hx hb dX8_apart_7 ?_
  obtain ⟨x8, h8, h⟩ := bi1e h
  refine callSI (As := [.int (((G 9 a1.toNatClampNeg) - a2))]) (rest := []) ⟨hx, hb, hml, hown, hts⟩ (c_X8_size l D ad cA n F G ((G 9 a1.toNatClampNeg) - a2) h8) (va_cwS 1 hts gX8_apart_X8_size rfl rfl rfl (by decide +kernel) ⟨Nat.le_of_ble_eq_true rfl, Nat.le_of_ble_eq_true rfl⟩) hP hK hD hN hS hA rfl hl.1 rfl (Nat.le_of_ble_eq_true rfl) dX8_apart_8 ⟨Nat.zero_le _, Nat.zero_le _⟩ (fun H locs hP hD hS => ?_)
  refine lv_aload_n hx hb dX8_apart_11 rfl (lv_at hl 0 rfl) ?_
  refine va_get (D := D) (ci := 8) (fs := vX8 ad F) (v := .ref (ad 11)) (C := RX8) (T := TX8) (N := 46) hx hb hts n_8 hown hK hP 0 wMg0 rfl 29 (by decide) k_2 (fun _ h9 => h9) rfl dX8_apart_12 ?_
  refine lv_iload_n hx hb dX8_apart_15 rfl (lv_at hl 1 rfl) ?_
  obtain ⟨g16, h⟩ := og h
  refine va_iald (D := D) hx hb hK hP 11 0 wMg11 rfl (inB_in g16) dX8_apart_16 ?_
  refine lv_iload_n hx hb dX8_apart_17 rfl (lv_at hl 3 rfl) ?_
  refine lv_isub hx hb dX8_apart_18 ?_
  obtain ⟨x19, h19, h⟩ := bi1e h
  refine callSI (As := [.int (((G 10 a1.toNatClampNeg) - a3))]) (rest := [.int (x8)]) ⟨hx, hb, hml, hown, hts⟩ (c_X8_size l D ad cA n F G ((G 10 a1.toNatClampNeg) - a3) h19) (va_cwS 1 hts gX8_apart_X8_size rfl rfl rfl (by decide +kernel) ⟨Nat.le_of_ble_eq_true rfl, Nat.le_of_ble_eq_true rfl⟩) hP hK hD hN hS hA rfl hl.1 rfl (Nat.le_of_ble_eq_true rfl) dX8_apart_19 ⟨Nat.zero_le _, Nat.zero_le _⟩ (fun H locs hP hD hS => ?_)
  refine lv_iadd hx hb dX8_apart_22 ?_
  exact hret _ _ _ _ _ dX8_apart_23 h hP hD hS

def p_X8_in (a0 : Int32) (a1 : Int32) (a2 : Int32) : Option (Int32) :=
  bi1 ((if a0 < a1 then some (0) else (if a2 < a0 then some (0) else some (1)))) (fun (y2_0 : Int32) => oguard (btB y2_0) (some y2_0))
set_option maxHeartbeats 4000000 in
set_option maxRecDepth 100000 in
theorem c_X8_in (l : Launch) (D : va_G) (ad : Nat → Nat) (cA : ClassId) (n : Nat) (F : tF) (G : tG) (a0 : Int32) (a1 : Int32) (a2 : Int32) {r : Int32} (h : p_X8_in a0 a1 a2 = some r) : CI l yX8_in wsX8_in ({ frames := 0, cells := 0, slots := 0, locals := 0 } : Room) D cA (wM ad cA F G) [.int (a0), .int (a1), .int (a2)] r (wM ad cA F G) := by
  rw [p_X8_in] at h
  refine metZr (w := wM ad cA) (cc := cX8_in) (maxL := 3) (by decide) rfl (Nat.le_of_ble_eq_true rfl) ?_
  intro p e s m args below meth c A ls Q hE hret
  obtain ⟨hx, hb, hts, hown, hml, hP, hK, hD, hN, hA, hl⟩ := hE
  have hown : s.vm.findClass RX8 = some m.cls := hown
  have hl : lv_has ls 3 [(0, .int (a0)), (1, .int (a1)), (2, .int (a2))] := hl
  have hS : va_S A s.heap s.heap [] := va_S.rf
  refine lv_iload_n hx hb dX8_in_0 rfl (lv_at hl 0 rfl) ?_
  refine lv_iload_n hx hb dX8_in_1 rfl (lv_at hl 1 rfl) ?_
  obtain ⟨y2_0, q2, h⟩ := bi1e h
  have J2 : ∀ (wy2_0 : Int32), some (wy2_0) = some (y2_0) → ∀ (H : Heap) (locs : List Loc) (ls : Array Slot), va_P D vwCl (wM ad cA F G) H → va_D A (wM ad cA F G) → va_S A s.heap H locs → lv_has ls 3 [(0, .int (a0)), (1, .int (a1)), (2, .int (a2))] → W p l e ({ frames := 0, cells := 0, slots := 0, locals := 0 } : Room) s m args below meth c H locs 0 0 Q (F0 m 15 ls [.int (wy2_0)]) := by
    intro wy2_0 e9 H locs ls hP hD hS hl
    cases e9
    obtain ⟨g15, h⟩ := og h
    exact hret _ _ _ _ _ dX8_in_15 g15 h hP hD hS
  refine lv_icmp_lt (tgt := 14) hx hb dX8_in_2 (by decide) (fun c2 => ?_) (fun c2 => ?_)
  · replace q2 := ifp q2 c2
    refine lv_iconst (v := 0) hx hb dX8_in_14 (by decide) ?_
    exact J2 _ q2 _ _ _ hP hD hS (lv_sub hl [0, 1, 2] rfl)
  · replace q2 := ifn q2 c2
    refine lv_iload_n hx hb dX8_in_5 rfl (lv_at hl 0 rfl) ?_
    refine lv_iload_n hx hb dX8_in_6 rfl (lv_at hl 2 rfl) ?_
    refine lv_icmp_gt (tgt := 14) hx hb dX8_in_7 (by decide) (fun c7 => ?_) (fun c7 => ?_)
    · replace q2 := ifp q2 c7
      refine lv_iconst (v := 0) hx hb dX8_in_14 (by decide) ?_
      exact J2 _ q2 _ _ _ hP hD hS (lv_sub hl [0, 1, 2] rfl)
    · replace q2 := ifn q2 c7
      refine lv_iconst (v := 1) hx hb dX8_in_10 (by decide) ?_
      refine lv_goto (tgt := 15) hx hb dX8_in_11 (by decide) ?_
      exact J2 _ q2 _ _ _ hP hD hS (lv_sub hl [0, 1, 2] rfl)

def p_X8_spill (F : tF) (G : tG) (a1 : Int32) : Option (Int32 × tF × tG) :=
  (if 0 < a1 then bi1 (p_X8_all F) (fun x13 => oguard (nzB x13) (plet ((a1 * (F 3)) / x13) (fun (x17 : Int32) => plet (upd F 3 ((F 3) - x17)) (fun (F25 : tF) => plet (upd F25 2 ((F25 2) - (a1 - x17))) (fun (F37 : tF) => plet (upd F37 6 ((F37 6) + a1)) (fun (F47 : tF) => some (a1, F47, G))))))) else some (0, F, G))
set_option maxHeartbeats 4000000 in
set_option maxRecDepth 100000 in
theorem c_X8_spill (l : Launch) (D : va_G) (ad : Nat → Nat) (cA : ClassId) (n : Nat) (F : tF) (G : tG) (a1 : Int32) {r : Int32} {F' : tF} {G' : tG} (h : p_X8_spill F G a1 = some (r, F', G')) : CI l yX8_spill wsX8_spill ({ frames := 1, cells := 0, slots := 0, locals := 20 } : Room) D cA (wM ad cA F G) [.ref (ad 0), .int (a1)] r (wM ad cA F' G') := by
  rw [p_X8_spill] at h
  refine metIm (w := wM ad cA) (cc := cX8_spill) (maxL := 3) (by decide) rfl (Nat.le_of_ble_eq_true rfl) ?_
  intro p e s m args below meth c A ls Q hE hret
  obtain ⟨hx, hb, hts, hown, hml, hP, hK, hD, hN, hA, hl⟩ := hE
  have hown : s.vm.findClass RX8 = some m.cls := hown
  have hl : lv_has ls 3 [(0, .ref (ad 0)), (1, .int (a1))] := hl
  have hS : va_S A s.heap s.heap [] := va_S.rf
  have k_0 : (Cond.fieldLink RX8 92 "BellBookModel" "foul" "I").before args s = true := hts _ (List.mem_of_getElem? (i := 1) rfl)
  have n_8 : ∀ w ∈ u_ws RX8 TX8 46, w ∈ wsX8_spill := fun w hw => List.mem_cons_of_mem _ (List.mem_append_right _ hw)
  have k_2 : (Cond.fieldLink RX8 13 "BellBookModel" "fresh" "I").before args s = true := hts _ (List.mem_of_getElem? (i := 2) rfl)
  have k_3 : (Cond.fieldLink RX8 99 "BellBookModel" "spilled" "I").before args s = true := hts _ (List.mem_of_getElem? (i := 3) rfl)
  refine lv_iload_n hx hb dX8_spill_0 rfl (lv_at hl 1 rfl) ?_
  refine lv_if_gt (tgt := 6) hx hb dX8_spill_1 (by decide) (fun c1 => ?_) (fun c1 => ?_)
  · replace h := ifp h c1
    refine lv_iload_n hx hb dX8_spill_6 rfl (lv_at hl 1 rfl) ?_
    refine lv_aload_n hx hb dX8_spill_7 rfl (lv_at hl 0 rfl) ?_
    refine va_get (D := D) (ci := 8) (fs := vX8 ad F) (v := .int ((F 3))) (C := RX8) (T := TX8) (N := 46) hx hb hts n_8 hown hK hP 0 wMg0 rfl 3 (by decide) k_0 (fun _ h9 => h9) rfl dX8_spill_8 ?_
    refine lv_imul hx hb dX8_spill_11 ?_
    refine lv_aload_n hx hb dX8_spill_12 rfl (lv_at hl 0 rfl) ?_
    obtain ⟨x13, h13, h⟩ := bi1e h
    refine callVI (b := ad 0) (As := []) (rest := [.int ((a1 * (F 3)))]) ⟨hx, hb, hml, hown, hts⟩ (c_X8_all l D ad cA n F G h13) (cwV 0 hts gX8_spill_X8_all rfl rfl rfl (by decide +kernel) ⟨Nat.le_of_ble_eq_true rfl, Nat.le_of_ble_eq_true rfl⟩) (va_recv hK hP (ci := 8) (q0 := 0) rfl wMg0) hP hK hD hN hS hA rfl hl.1 rfl (Nat.le_of_ble_eq_true rfl) dX8_spill_13 ⟨Nat.zero_le _, Nat.zero_le _⟩ (fun H locs hP hD hS => ?_)
    obtain ⟨g16, h⟩ := og h
    refine lv_idiv hx hb dX8_spill_16 (nzB_ne g16) ?_
    refine lv_topi (fun x17 ex17 => ?_)
    replace h := pl h ex17
    refine lv_istore_n (lv' := [(2, .int (x17)), (0, .ref (ad 0)), (1, .int (a1))]) hx hb dX8_spill_17 rfl hl (by decide) rfl (fun ls hl => ?_)
    refine lv_aload_n hx hb dX8_spill_18 rfl (lv_at hl 1 rfl) ?_
    refine lv_dup hx hb dX8_spill_19 rfl ?_
    refine va_get (D := D) (ci := 8) (fs := vX8 ad F) (v := .int ((F 3))) (C := RX8) (T := TX8) (N := 46) hx hb hts n_8 hown hK hP 0 wMg0 rfl 3 (by decide) k_0 (fun _ h9 => h9) rfl dX8_spill_20 ?_
    refine lv_iload_n hx hb dX8_spill_23 rfl (lv_at hl 0 rfl) ?_
    refine lv_isub hx hb dX8_spill_24 ?_
    obtain ⟨F25, eF25⟩ : ∃ f : tF, f = upd F 3 ((F 3) - x17) := ⟨_, rfl⟩
    replace h := pl h eF25
    refine va_put (D := D) (ci := 8) (fs := vX8 ad F) (v := .int (((F 3) - x17))) (ty := .int) (C := RX8) (T := TX8) (N := 46) hx hb hts n_8 tyX8 tyX8_ok nmX8 hown hK hP hD hS 0 wMg0 rfl 3 (by decide) k_0 (fun _ h9 => h9) rfl (tyX8_ok 3 (by decide)) rfl rfl (Nat.le_of_ble_eq_true rfl) dX8_spill_25 (fun H locs hP hD hS => ?_)
    rw [wMp3 eF25] at hP hD
    refine lv_aload_n hx hb dX8_spill_28 rfl (lv_at hl 1 rfl) ?_
    refine lv_dup hx hb dX8_spill_29 rfl ?_
    refine va_get (D := D) (ci := 8) (fs := vX8 ad F25) (v := .int ((F25 2))) (C := RX8) (T := TX8) (N := 46) hx hb hts n_8 hown hK hP 0 wMg0 rfl 2 (by decide) k_2 (fun _ h9 => h9) rfl dX8_spill_30 ?_
    refine lv_iload_n hx hb dX8_spill_33 rfl (lv_at hl 2 rfl) ?_
    refine lv_iload_n hx hb dX8_spill_34 rfl (lv_at hl 0 rfl) ?_
    refine lv_isub hx hb dX8_spill_35 ?_
    refine lv_isub hx hb dX8_spill_36 ?_
    obtain ⟨F37, eF37⟩ : ∃ f : tF, f = upd F25 2 ((F25 2) - (a1 - x17)) := ⟨_, rfl⟩
    replace h := pl h eF37
    refine va_put (D := D) (ci := 8) (fs := vX8 ad F25) (v := .int (((F25 2) - (a1 - x17)))) (ty := .int) (C := RX8) (T := TX8) (N := 46) hx hb hts n_8 tyX8 tyX8_ok nmX8 hown hK hP hD hS 0 wMg0 rfl 2 (by decide) k_2 (fun _ h9 => h9) rfl (tyX8_ok 2 (by decide)) rfl rfl (Nat.le_of_ble_eq_true rfl) dX8_spill_37 (fun H locs hP hD hS => ?_)
    rw [wMp2 eF37] at hP hD
    refine lv_aload_n hx hb dX8_spill_40 rfl (lv_at hl 1 rfl) ?_
    refine lv_dup hx hb dX8_spill_41 rfl ?_
    refine va_get (D := D) (ci := 8) (fs := vX8 ad F37) (v := .int ((F37 6))) (C := RX8) (T := TX8) (N := 46) hx hb hts n_8 hown hK hP 0 wMg0 rfl 6 (by decide) k_3 (fun _ h9 => h9) rfl dX8_spill_42 ?_
    refine lv_iload_n hx hb dX8_spill_45 rfl (lv_at hl 2 rfl) ?_
    refine lv_iadd hx hb dX8_spill_46 ?_
    obtain ⟨F47, eF47⟩ : ∃ f : tF, f = upd F37 6 ((F37 6) + a1) := ⟨_, rfl⟩
    replace h := pl h eF47
    refine va_put (D := D) (ci := 8) (fs := vX8 ad F37) (v := .int (((F37 6) + a1))) (ty := .int) (C := RX8) (T := TX8) (N := 46) hx hb hts n_8 tyX8 tyX8_ok nmX8 hown hK hP hD hS 0 wMg0 rfl 6 (by decide) k_3 (fun _ h9 => h9) rfl (tyX8_ok 6 (by decide)) rfl rfl (Nat.le_of_ble_eq_true rfl) dX8_spill_47 (fun H locs hP hD hS => ?_)
    rw [wMp6 eF47] at hP hD
    refine lv_iload_n hx hb dX8_spill_50 rfl (lv_at hl 2 rfl) ?_
    exact hret _ _ _ _ _ _ _ dX8_spill_51 h hP hD hS
  · replace h := ifn h c1
    refine lv_iconst (v := 0) hx hb dX8_spill_4 (by decide) ?_
    exact hret _ _ _ _ _ _ _ dX8_spill_5 h hP hD hS

def p_X8_barrel (F : tF) (G : tG) (a1 : Int32) : Option (Int32 × tF × tG) :=
  bi1 (p_X8_in a1 1 500) (fun x5 => (if x5 = 0 then some ((-2), F, G) else (if (F 7) = 40 then some ((-4), F, G) else plet (upd F 7 ((F 7) + 1)) (fun (F33 : tF) => plet (upd F33 4 ((F33 4) + a1)) (fun (F43 : tF) => plet (upd F43 2 ((F43 2) + a1)) (fun (F53 : tF) => bi1 (p_X8_all F53) (fun x58 => bi1 (p_X8_most F53) (fun x62 => bi3 (p_X8_spill F53 G (x58 - x62)) (fun x66 F66 G66 => some (x66, F66, G66))))))))))
set_option maxHeartbeats 4000000 in
set_option maxRecDepth 100000 in
theorem c_X8_barrel (l : Launch) (D : va_G) (ad : Nat → Nat) (cA : ClassId) (n : Nat) (F : tF) (G : tG) (a1 : Int32) {r : Int32} {F' : tF} {G' : tG} (h : p_X8_barrel F G a1 = some (r, F', G')) : CI l yX8_barrel wsX8_barrel ({ frames := 2, cells := 0, slots := 0, locals := 42 } : Room) D cA (wM ad cA F G) [.ref (ad 0), .int (a1)] r (wM ad cA F' G') := by
  rw [p_X8_barrel] at h
  refine metIm (w := wM ad cA) (cc := cX8_barrel) (maxL := 2) (by decide) rfl (Nat.le_of_ble_eq_true rfl) ?_
  intro p e s m args below meth c A ls Q hE hret
  obtain ⟨hx, hb, hts, hown, hml, hP, hK, hD, hN, hA, hl⟩ := hE
  have hown : s.vm.findClass RX8 = some m.cls := hown
  have hl : lv_has ls 2 [(0, .ref (ad 0)), (1, .int (a1))] := hl
  have hS : va_S A s.heap s.heap [] := va_S.rf
  have k_0 : (Cond.fieldLink RX8 112 "BellBookModel" "barrels" "I").before args s = true := hts _ (List.mem_of_getElem? (i := 1) rfl)
  have n_8 : ∀ w ∈ u_ws RX8 TX8 46, w ∈ wsX8_barrel := fun w hw => List.mem_cons_of_mem _ (List.mem_append_right _ hw)
  have k_2 : (Cond.fieldLink RX8 16 "BellBookModel" "sent" "I").before args s = true := hts _ (List.mem_of_getElem? (i := 2) rfl)
  have k_3 : (Cond.fieldLink RX8 13 "BellBookModel" "fresh" "I").before args s = true := hts _ (List.mem_of_getElem? (i := 3) rfl)
  refine lv_iload_n hx hb dX8_barrel_0 rfl (lv_at hl 1 rfl) ?_
  refine lv_iconst (v := 1) hx hb dX8_barrel_1 (by decide) ?_
  refine lv_sipush (v := 500) hx hb dX8_barrel_2 (by decide) ?_
  obtain ⟨x5, h5, h⟩ := bi1e h
  refine callSI (As := [.int (a1), .int (1), .int (500)]) (rest := []) ⟨hx, hb, hml, hown, hts⟩ (c_X8_in l D ad cA n F G a1 1 500 h5) (va_cwS 3 hts gX8_barrel_X8_in rfl rfl rfl (by decide +kernel) ⟨Nat.le_of_ble_eq_true rfl, Nat.le_of_ble_eq_true rfl⟩) hP hK hD hN hS hA rfl hl.1 rfl (Nat.le_of_ble_eq_true rfl) dX8_barrel_5 ⟨Nat.zero_le _, Nat.zero_le _⟩ (fun H locs hP hD hS => ?_)
  refine lv_if_ne (tgt := 14) hx hb dX8_barrel_8 (by decide) (fun c8 => ?_) (fun c8 => ?_)
  · replace h := ifn h c8
    refine lv_aload_n hx hb dX8_barrel_14 rfl (lv_at hl 0 rfl) ?_
    refine va_get (D := D) (ci := 8) (fs := vX8 ad F) (v := .int ((F 7))) (C := RX8) (T := TX8) (N := 46) hx hb hts n_8 hown hK hP 0 wMg0 rfl 7 (by decide) k_0 (fun _ h9 => h9) rfl dX8_barrel_15 ?_
    refine lv_bipush (v := 40) hx hb dX8_barrel_18 (by decide) ?_
    refine lv_icmp_ne (tgt := 26) hx hb dX8_barrel_20 (by decide) (fun c20 => ?_) (fun c20 => ?_)
    · replace h := ifn h c20
      refine lv_aload_n hx hb dX8_barrel_26 rfl (lv_at hl 0 rfl) ?_
      refine lv_dup hx hb dX8_barrel_27 rfl ?_
      refine va_get (D := D) (ci := 8) (fs := vX8 ad F) (v := .int ((F 7))) (C := RX8) (T := TX8) (N := 46) hx hb hts n_8 hown hK hP 0 wMg0 rfl 7 (by decide) k_0 (fun _ h9 => h9) rfl dX8_barrel_28 ?_
      refine lv_iconst (v := 1) hx hb dX8_barrel_31 (by decide) ?_
      refine lv_iadd hx hb dX8_barrel_32 ?_
      obtain ⟨F33, eF33⟩ : ∃ f : tF, f = upd F 7 ((F 7) + 1) := ⟨_, rfl⟩
      replace h := pl h eF33
      refine va_put (D := D) (ci := 8) (fs := vX8 ad F) (v := .int (((F 7) + 1))) (ty := .int) (C := RX8) (T := TX8) (N := 46) hx hb hts n_8 tyX8 tyX8_ok nmX8 hown hK hP hD hS 0 wMg0 rfl 7 (by decide) k_0 (fun _ h9 => h9) rfl (tyX8_ok 7 (by decide)) rfl rfl (Nat.le_of_ble_eq_true rfl) dX8_barrel_33 (fun H locs hP hD hS => ?_)
      rw [wMp7 eF33] at hP hD
      refine lv_aload_n hx hb dX8_barrel_36 rfl (lv_at hl 0 rfl) ?_
      refine lv_dup hx hb dX8_barrel_37 rfl ?_
      refine va_get (D := D) (ci := 8) (fs := vX8 ad F33) (v := .int ((F33 4))) (C := RX8) (T := TX8) (N := 46) hx hb hts n_8 hown hK hP 0 wMg0 rfl 4 (by decide) k_2 (fun _ h9 => h9) rfl dX8_barrel_38 ?_
      refine lv_iload_n hx hb dX8_barrel_41 rfl (lv_at hl 1 rfl) ?_
      refine lv_iadd hx hb dX8_barrel_42 ?_
      obtain ⟨F43, eF43⟩ : ∃ f : tF, f = upd F33 4 ((F33 4) + a1) := ⟨_, rfl⟩
      replace h := pl h eF43
      refine va_put (D := D) (ci := 8) (fs := vX8 ad F33) (v := .int (((F33 4) + a1))) (ty := .int) (C := RX8) (T := TX8) (N := 46) hx hb hts n_8 tyX8 tyX8_ok nmX8 hown hK hP hD hS 0 wMg0 rfl 4 (by decide) k_2 (fun _ h9 => h9) rfl (tyX8_ok 4 (by decide)) rfl rfl (Nat.le_of_ble_eq_true rfl) dX8_barrel_43 (fun H locs hP hD hS => ?_)
      rw [wMp4 eF43] at hP hD
      refine lv_aload_n hx hb dX8_barrel_46 rfl (lv_at hl 0 rfl) ?_
      refine lv_dup hx hb dX8_barrel_47 rfl ?_
      refine va_get (D := D) (ci := 8) (fs := vX8 ad F43) (v := .int ((F43 2))) (C := RX8) (T := TX8) (N := 46) hx hb hts n_8 hown hK hP 0 wMg0 rfl 2 (by decide) k_3 (fun _ h9 => h9) rfl dX8_barrel_48 ?_
      refine lv_iload_n hx hb dX8_barrel_51 rfl (lv_at hl 1 rfl) ?_
      refine lv_iadd hx hb dX8_barrel_52 ?_
      obtain ⟨F53, eF53⟩ : ∃ f : tF, f = upd F43 2 ((F43 2) + a1) := ⟨_, rfl⟩
      replace h := pl h eF53
      refine va_put (D := D) (ci := 8) (fs := vX8 ad F43) (v := .int (((F43 2) + a1))) (ty := .int) (C := RX8) (T := TX8) (N := 46) hx hb hts n_8 tyX8 tyX8_ok nmX8 hown hK hP hD hS 0 wMg0 rfl 2 (by decide) k_3 (fun _ h9 => h9) rfl (tyX8_ok 2 (by decide)) rfl rfl (Nat.le_of_ble_eq_true rfl) dX8_barrel_53 (fun H locs hP hD hS => ?_)
      rw [wMp2 eF53] at hP hD
      refine lv_aload_n hx hb dX8_barrel_56 rfl (lv_at hl 0 rfl) ?_
      refine lv_aload_n hx hb dX8_barrel_57 rfl (lv_at hl 0 rfl) ?_
      obtain ⟨x58, h58, h⟩ := bi1e h
      refine callVI (b := ad 0) (As := []) (rest := [.ref (ad 0)]) ⟨hx, hb, hml, hown, hts⟩ (c_X8_all l D ad cA n F53 G h58) (cwV 0 hts gX8_barrel_X8_all rfl rfl rfl (by decide +kernel) ⟨Nat.le_of_ble_eq_true rfl, Nat.le_of_ble_eq_true rfl⟩) (va_recv hK hP (ci := 8) (q0 := 0) rfl wMg0) hP hK hD hN hS hA rfl hl.1 rfl (Nat.le_of_ble_eq_true rfl) dX8_barrel_58 ⟨Nat.zero_le _, Nat.zero_le _⟩ (fun H locs hP hD hS => ?_)
      refine lv_aload_n hx hb dX8_barrel_61 rfl (lv_at hl 0 rfl) ?_
      obtain ⟨x62, h62, h⟩ := bi1e h
      refine callVI (b := ad 0) (As := []) (rest := [.int (x58), .ref (ad 0)]) ⟨hx, hb, hml, hown, hts⟩ (c_X8_most l D ad cA n F53 G h62) (cwV 0 hts gX8_barrel_X8_most rfl rfl rfl (by decide +kernel) ⟨Nat.le_of_ble_eq_true rfl, Nat.le_of_ble_eq_true rfl⟩) (va_recv hK hP (ci := 8) (q0 := 0) rfl wMg0) hP hK hD hN hS hA rfl hl.1 rfl (Nat.le_of_ble_eq_true rfl) dX8_barrel_62 ⟨Nat.zero_le _, Nat.zero_le _⟩ (fun H locs hP hD hS => ?_)
      refine lv_isub hx hb dX8_barrel_65 ?_
      obtain ⟨x66, F66, G66, h66, h⟩ := bi3e h
      refine callVI (b := ad 0) (As := [.int ((x58 - x62))]) (rest := []) ⟨hx, hb, hml, hown, hts⟩ (c_X8_spill l D ad cA n F53 G (x58 - x62) h66) (cwV 1 hts gX8_barrel_X8_spill rfl rfl rfl (by decide +kernel) ⟨Nat.le_of_ble_eq_true rfl, Nat.le_of_ble_eq_true rfl⟩) (va_recv hK hP (ci := 8) (q0 := 0) rfl wMg0) hP hK hD hN hS hA rfl hl.1 rfl (Nat.le_of_ble_eq_true rfl) dX8_barrel_66 ⟨Nat.zero_le _, Nat.zero_le _⟩ (fun H locs hP hD hS => ?_)
      exact hret _ _ _ _ _ _ _ dX8_barrel_69 h hP hD hS
    · replace h := ifp h c20
      refine lv_bipush (v := (-4)) hx hb dX8_barrel_23 (by decide) ?_
      exact hret _ _ _ _ _ _ _ dX8_barrel_25 h hP hD hS
  · replace h := ifp h c8
    refine lv_bipush (v := (-2)) hx hb dX8_barrel_11 (by decide) ?_
    exact hret _ _ _ _ _ _ _ dX8_barrel_13 h hP hD hS

def p_X8_left (G : tG) (a1 : Int32) : Option (Int32) :=
  oguard (inB ((5 * a1) + 2) 60) (oguard (inB ((5 * a1) + 4) 60) (some ((G 6 ((5 * a1) + 2).toNatClampNeg) - (G 6 ((5 * a1) + 4).toNatClampNeg))))
set_option maxHeartbeats 4000000 in
set_option maxRecDepth 100000 in
theorem c_X8_left (l : Launch) (D : va_G) (ad : Nat → Nat) (cA : ClassId) (n : Nat) (F : tF) (G : tG) (a1 : Int32) {r : Int32} (h : p_X8_left G a1 = some r) : CI l yX8_left wsX8_left ({ frames := 0, cells := 0, slots := 0, locals := 0 } : Room) D cA (wM ad cA F G) [.ref (ad 0), .int (a1)] r (wM ad cA F G) := by
  rw [p_X8_left] at h
  refine metIr (w := wM ad cA) (cc := cX8_left) (maxL := 2) (by decide) rfl (Nat.le_of_ble_eq_true rfl) ?_
  intro p e s m args below meth c A ls Q hE hret
  obtain ⟨hx, hb, hts, hown, hml, hP, hK, hD, hN, hA, hl⟩ := hE
  have hown : s.vm.findClass RX8 = some m.cls := hown
  have hl : lv_has ls 2 [(0, .ref (ad 0)), (1, .int (a1))] := hl
  have hS : va_S A s.heap s.heap [] := va_S.rf
  have k_0 : (Cond.fieldLink RX8 50 "BellBookModel" "thing" "[I").before args s = true := hts _ (List.mem_of_getElem? (i := 1) rfl)
  have n_8 : ∀ w ∈ u_ws RX8 TX8 46, w ∈ wsX8_left := fun w hw => List.mem_cons_of_mem _ (List.mem_append_right _ hw)
  refine lv_aload_n hx hb dX8_left_0 rfl (lv_at hl 0 rfl) ?_
  refine va_get (D := D) (ci := 8) (fs := vX8 ad F) (v := .ref (ad 7)) (C := RX8) (T := TX8) (N := 46) hx hb hts n_8 hown hK hP 0 wMg0 rfl 22 (by decide) k_0 (fun _ h9 => h9) rfl dX8_left_1 ?_
  refine lv_iconst (v := 5) hx hb dX8_left_4 (by decide) ?_
  refine lv_iload_n hx hb dX8_left_5 rfl (lv_at hl 1 rfl) ?_
  refine lv_imul hx hb dX8_left_6 ?_
  refine lv_iconst (v := 2) hx hb dX8_left_7 (by decide) ?_
  refine lv_iadd hx hb dX8_left_8 ?_
  obtain ⟨g9, h⟩ := og h
  refine va_iald (D := D) hx hb hK hP 7 0 wMg7 rfl (inB_in g9) dX8_left_9 ?_
  refine lv_aload_n hx hb dX8_left_10 rfl (lv_at hl 0 rfl) ?_
  refine va_get (D := D) (ci := 8) (fs := vX8 ad F) (v := .ref (ad 7)) (C := RX8) (T := TX8) (N := 46) hx hb hts n_8 hown hK hP 0 wMg0 rfl 22 (by decide) k_0 (fun _ h9 => h9) rfl dX8_left_11 ?_
  refine lv_iconst (v := 5) hx hb dX8_left_14 (by decide) ?_
  refine lv_iload_n hx hb dX8_left_15 rfl (lv_at hl 1 rfl) ?_
  refine lv_imul hx hb dX8_left_16 ?_
  refine lv_iconst (v := 4) hx hb dX8_left_17 (by decide) ?_
  refine lv_iadd hx hb dX8_left_18 ?_
  obtain ⟨g19, h⟩ := og h
  refine va_iald (D := D) hx hb hK hP 7 0 wMg7 rfl (inB_in g19) dX8_left_19 ?_
  refine lv_isub hx hb dX8_left_20 ?_
  exact hret _ _ _ _ _ dX8_left_21 h hP hD hS

def p_X8_endWith_L13 (F : tF) (G : tG) (a2 : Int32) (K13 : Int32 → Int32 → Option (Int32)) : Nat → Int32 → Int32 → Option (Int32)
  | 0, _, _ => none
  | k13 + 1, z13_0, z13_1 => (if (F 18) ≤ z13_1 then K13 z13_0 z13_1 else bi1 (p_X8_left G a2) (fun x25 => oguard (inB z13_1 5) ((if (z13_0 + x25) ≤ (G 8 z13_1.toNatClampNeg) then K13 z13_0 z13_1 else plet (z13_1 + 1) (fun (x38 : Int32) => p_X8_endWith_L13 F G a2 K13 k13 0 x38)))))
theorem p_X8_endWith_L13_k {F : tF} {G : tG} {a2 : Int32} {K0 : Int32 → Int32 → Option (Int32)} {k : Nat} {z13_0 : Int32} {z13_1 : Int32} {x : Int32} (h : p_X8_endWith_L13 F G a2 K0 k z13_0 z13_1 = some x) : ∃ K, K = K0 ∧ p_X8_endWith_L13 F G a2 K k z13_0 z13_1 = some x := ⟨K0, rfl, h⟩
def p_X8_endWith (n : Nat) (F : tF) (G : tG) (a1 : Int32) (a2 : Int32) : Option (Int32) :=
  plet (a1 / 1000) (fun (x5 : Int32) => plet (a1 - a1 / 1000 * 1000) (fun (x11 : Int32) => p_X8_endWith_L13 F G a2 (fun (z13_0 : Int32) (z13_1 : Int32) => bi1 ((if z13_1 < (F 18) then bi1 (p_X8_left G a2) (fun x70 => some ((((1000 * z13_1) + z13_0) + x70))) else some (100000))) (fun (y52_0 : Int32) => some y52_0)) n x11 x5))
set_option maxHeartbeats 4000000 in
set_option maxRecDepth 100000 in
theorem c_X8_endWith (l : Launch) (D : va_G) (ad : Nat → Nat) (cA : ClassId) (n : Nat) (F : tF) (G : tG) (a1 : Int32) (a2 : Int32) {r : Int32} (h : p_X8_endWith n F G a1 a2 = some r) : CI l yX8_endWith wsX8_endWith ({ frames := 1, cells := 0, slots := 0, locals := 21 } : Room) D cA (wM ad cA F G) [.ref (ad 0), .int (a1), .int (a2)] r (wM ad cA F G) := by
  rw [p_X8_endWith] at h
  refine metIr (w := wM ad cA) (cc := cX8_endWith) (maxL := 5) (by decide) rfl (Nat.le_of_ble_eq_true rfl) ?_
  intro p e s m args below meth c A ls Q hE hret
  obtain ⟨hx, hb, hts, hown, hml, hP, hK, hD, hN, hA, hl⟩ := hE
  have hown : s.vm.findClass RX8 = some m.cls := hown
  have hl : lv_has ls 5 [(0, .ref (ad 0)), (1, .int (a1)), (2, .int (a2))] := hl
  have hS : va_S A s.heap s.heap [] := va_S.rf
  have k_0 : (Cond.fieldLink RX8 182 "BellBookModel" "tides" "I").before args s = true := hts _ (List.mem_of_getElem? (i := 1) rfl)
  have n_8 : ∀ w ∈ u_ws RX8 TX8 46, w ∈ wsX8_endWith := fun w hw => List.mem_cons_of_mem _ (List.mem_append_right _ hw)
  have k_2 : (Cond.fieldLink RX8 56 "BellBookModel" "tide" "[I").before args s = true := hts _ (List.mem_of_getElem? (i := 2) rfl)
  have k_3 : (Cond.constant RX8 154 (100000)).before args s = true := hts _ (List.mem_of_getElem? (i := 3) rfl)
  refine lv_iload_n hx hb dX8_endWith_0 rfl (lv_at hl 1 rfl) ?_
  refine lv_sipush (v := 1000) hx hb dX8_endWith_1 (by decide) ?_
  refine lv_idiv hx hb dX8_endWith_4 (by decide) ?_
  refine lv_topi (fun x5 ex5 => ?_)
  replace h := pl h ex5
  refine lv_istore_n (lv' := [(3, .int (x5)), (0, .ref (ad 0)), (1, .int (a1)), (2, .int (a2))]) hx hb dX8_endWith_5 rfl hl (by decide) rfl (fun ls hl => ?_)
  refine lv_iload_n hx hb dX8_endWith_6 rfl (lv_at hl 2 rfl) ?_
  refine lv_sipush (v := 1000) hx hb dX8_endWith_7 (by decide) ?_
  refine lv_irem hx hb dX8_endWith_10 (by decide) ?_
  refine lv_topi (fun x11 ex11 => ?_)
  replace h := pl h ex11
  refine lv_istore (lv' := [(4, .int (x11)), (3, .int (x5)), (0, .ref (ad 0)), (1, .int (a1)), (2, .int (a2))]) hx hb dX8_endWith_11 hl (by decide) rfl (fun ls hl => ?_)
  obtain ⟨K13, eK13, h⟩ := p_X8_endWith_L13_k h
  have JE13 : ∀ (z13_0 : Int32) (z13_1 : Int32) (H : Heap) (locs : List Loc) (ls : Array Slot), K13 z13_0 z13_1 = some r → va_P D vwCl (wM ad cA F G) H → va_D A (wM ad cA F G) → va_S A s.heap H locs → lv_has ls 5 [(4, .int (z13_0)), (3, .int (z13_1)), (0, .ref (ad 0)), (1, .int (a1)), (2, .int (a2))] → W p l e ({ frames := 1, cells := 0, slots := 0, locals := 21 } : Room) s m args below meth c H locs 0 0 Q (F0 m 47 ls []) := by
    intro z13_0 z13_1 H locs ls h hP hD hS hl
    rw [eK13] at h
    refine lv_iload_n hx hb dX8_endWith_47 rfl (lv_at hl 1 rfl) ?_
    refine lv_aload_n hx hb dX8_endWith_48 rfl (lv_at hl 2 rfl) ?_
    refine va_get (D := D) (ci := 8) (fs := vX8 ad F) (v := .int ((F 18))) (C := RX8) (T := TX8) (N := 46) hx hb hts n_8 hown hK hP 0 wMg0 rfl 26 (by decide) k_0 (fun _ h9 => h9) rfl dX8_endWith_49 ?_
    obtain ⟨y52_0, q52, h⟩ := bi1e h
    have J52 : ∀ (wy52_0 : Int32), some (wy52_0) = some (y52_0) → ∀ (H : Heap) (locs : List Loc) (ls : Array Slot), va_P D vwCl (wM ad cA F G) H → va_D A (wM ad cA F G) → va_S A s.heap H locs → lv_has ls 5 [(4, .int (z13_0)), (3, .int (z13_1)), (0, .ref (ad 0)), (1, .int (a1)), (2, .int (a2))] → W p l e ({ frames := 1, cells := 0, slots := 0, locals := 21 } : Room) s m args below meth c H locs 0 0 Q (F0 m 74 ls [.int (wy52_0)]) := by
      intro wy52_0 e9 H locs ls hP hD hS hl
      cases e9
      exact hret _ _ _ _ _ dX8_endWith_74 h hP hD hS
    refine lv_icmp_lt (tgt := 60) hx hb dX8_endWith_52 (by decide) (fun c52 => ?_) (fun c52 => ?_)
    · replace q52 := ifp q52 c52
      refine lv_sipush (v := 1000) hx hb dX8_endWith_60 (by decide) ?_
      refine lv_iload_n hx hb dX8_endWith_63 rfl (lv_at hl 1 rfl) ?_
      refine lv_imul hx hb dX8_endWith_64 ?_
      refine lv_iload hx hb dX8_endWith_65 (lv_at hl 0 rfl) ?_
      refine lv_iadd hx hb dX8_endWith_67 ?_
      refine lv_aload_n hx hb dX8_endWith_68 rfl (lv_at hl 2 rfl) ?_
      refine lv_iload_n hx hb dX8_endWith_69 rfl (lv_at hl 4 rfl) ?_
      obtain ⟨x70, h70, q52⟩ := bi1e q52
      refine callVI (b := ad 0) (As := [.int (a2)]) (rest := [.int (((1000 * z13_1) + z13_0))]) ⟨hx, hb, hml, hown, hts⟩ (c_X8_left l D ad cA n F G a2 h70) (cwV 1 hts gX8_endWith_X8_left rfl rfl rfl (by decide +kernel) ⟨Nat.le_of_ble_eq_true rfl, Nat.le_of_ble_eq_true rfl⟩) (va_recv hK hP (ci := 8) (q0 := 0) rfl wMg0) hP hK hD hN hS hA rfl hl.1 rfl (Nat.le_of_ble_eq_true rfl) dX8_endWith_70 ⟨Nat.zero_le _, Nat.zero_le _⟩ (fun H locs hP hD hS => ?_)
      refine lv_iadd hx hb dX8_endWith_73 ?_
      exact J52 _ q52 _ _ _ hP hD hS (lv_sub hl [0, 1, 2, 3, 4] rfl)
    · replace q52 := ifn q52 c52
      refine lv_ldc (v := 100000) hx hb hown k_3 dX8_endWith_55 ?_
      refine lv_goto (tgt := 74) hx hb dX8_endWith_57 (by decide) ?_
      exact J52 _ q52 _ _ _ hP hD hS (lv_sub hl [0, 1, 2, 3, 4] rfl)
  have LL13 : ∀ (k : Nat) (z13_0 : Int32) (z13_1 : Int32) (H : Heap) (locs : List Loc) (ls : Array Slot), p_X8_endWith_L13 F G a2 K13 k z13_0 z13_1 = some r → va_P D vwCl (wM ad cA F G) H → va_D A (wM ad cA F G) → va_S A s.heap H locs → lv_has ls 5 [(4, .int (z13_0)), (3, .int (z13_1)), (0, .ref (ad 0)), (1, .int (a1)), (2, .int (a2))] → W p l e ({ frames := 1, cells := 0, slots := 0, locals := 21 } : Room) s m args below meth c H locs 0 0 Q (F0 m 13 ls []) := by
    intro k
    induction k with
    | zero =>
      intro z13_0 z13_1 H locs ls h hP hD hS hl
      rw [p_X8_endWith_L13] at h
      cases h
    | succ k13 ih13 =>
      intro z13_0 z13_1 H locs ls h hP hD hS hl
      rw [p_X8_endWith_L13] at h
      refine lv_iload_n hx hb dX8_endWith_13 rfl (lv_at hl 1 rfl) ?_
      refine lv_aload_n hx hb dX8_endWith_14 rfl (lv_at hl 2 rfl) ?_
      refine va_get (D := D) (ci := 8) (fs := vX8 ad F) (v := .int ((F 18))) (C := RX8) (T := TX8) (N := 46) hx hb hts n_8 hown hK hP 0 wMg0 rfl 26 (by decide) k_0 (fun _ h9 => h9) rfl dX8_endWith_15 ?_
      refine lv_icmp_ge (tgt := 47) hx hb dX8_endWith_18 (by decide) (fun c18 => ?_) (fun c18 => ?_)
      · replace h := ifp h c18
        exact JE13 _ _ _ _ _ h hP hD hS (lv_sub hl [0, 1, 2, 3, 4] rfl)
      · replace h := ifn h c18
        refine lv_iload hx hb dX8_endWith_21 (lv_at hl 0 rfl) ?_
        refine lv_aload_n hx hb dX8_endWith_23 rfl (lv_at hl 2 rfl) ?_
        refine lv_iload_n hx hb dX8_endWith_24 rfl (lv_at hl 4 rfl) ?_
        obtain ⟨x25, h25, h⟩ := bi1e h
        refine callVI (b := ad 0) (As := [.int (a2)]) (rest := [.int (z13_0)]) ⟨hx, hb, hml, hown, hts⟩ (c_X8_left l D ad cA n F G a2 h25) (cwV 1 hts gX8_endWith_X8_left rfl rfl rfl (by decide +kernel) ⟨Nat.le_of_ble_eq_true rfl, Nat.le_of_ble_eq_true rfl⟩) (va_recv hK hP (ci := 8) (q0 := 0) rfl wMg0) hP hK hD hN hS hA rfl hl.1 rfl (Nat.le_of_ble_eq_true rfl) dX8_endWith_25 ⟨Nat.zero_le _, Nat.zero_le _⟩ (fun H locs hP hD hS => ?_)
        refine lv_iadd hx hb dX8_endWith_28 ?_
        refine lv_aload_n hx hb dX8_endWith_29 rfl (lv_at hl 2 rfl) ?_
        refine va_get (D := D) (ci := 8) (fs := vX8 ad F) (v := .ref (ad 9)) (C := RX8) (T := TX8) (N := 46) hx hb hts n_8 hown hK hP 0 wMg0 rfl 27 (by decide) k_2 (fun _ h9 => h9) rfl dX8_endWith_30 ?_
        refine lv_iload_n hx hb dX8_endWith_33 rfl (lv_at hl 1 rfl) ?_
        obtain ⟨g34, h⟩ := og h
        refine va_iald (D := D) hx hb hK hP 9 0 wMg9 rfl (inB_in g34) dX8_endWith_34 ?_
        refine lv_icmp_le (tgt := 47) hx hb dX8_endWith_35 (by decide) (fun c35 => ?_) (fun c35 => ?_)
        · replace h := ifp h c35
          exact JE13 _ _ _ _ _ h hP hD hS (lv_sub hl [0, 1, 2, 3, 4] rfl)
        · replace h := ifn h c35
          obtain ⟨x38, ex38⟩ : ∃ z : Int32, z = (z13_1 + 1) := ⟨_, rfl⟩
          replace h := pl h ex38
          refine lv_iinc (v := x38) (lv' := [(3, .int (x38)), (4, .int (z13_0)), (0, .ref (ad 0)), (1, .int (a1)), (2, .int (a2))]) hx hb dX8_endWith_38 hl (k := 1) rfl (by rw [ex38]; rfl) (by decide) rfl (fun ls hl => ?_)
          refine lv_iconst (v := 0) hx hb dX8_endWith_41 (by decide) ?_
          refine lv_istore (lv' := [(4, .int (0)), (3, .int (x38)), (0, .ref (ad 0)), (1, .int (a1)), (2, .int (a2))]) hx hb dX8_endWith_42 hl (by decide) rfl (fun ls hl => ?_)
          refine lv_goto (tgt := 13) hx hb dX8_endWith_44 (by decide) ?_
          exact ih13 _ _ _ _ _ h hP hD hS (lv_sub hl [0, 1, 2, 3, 4] rfl)
  exact LL13 n x11 x5 _ _ _ h hP hD hS (lv_sub hl [0, 1, 2, 3, 4] rfl)

def p_X8_layEnds_L50 (n : Nat) (F : tF) (z37_0 : Int32) (K50 : Int32 → tG → Option (tF × tG)) : Nat → Int32 → tG → Option (tF × tG)
  | 0, _, _ => none
  | k50 + 1, z50_0, G50l => (if (F 15) ≤ z50_0 then K50 z50_0 G50l else oguard (inB z37_0 4096) ((if 100000 ≤ (G50l 16 z37_0.toNatClampNeg) then K50 z50_0 G50l else bi1 ((if ((((z37_0 ||| (F 16)) ||| (F 17)) >>> (z50_0 &&& 31)) &&& 1) = 0 then oguard (inB z50_0 12) ((if (((G50l 7 z50_0.toNatClampNeg) &&& ((F 16) ^^^ (-1))) &&& (z37_0 ^^^ (-1))) = 0 then some (1) else some (0))) else some (0))) (fun (y86_0 : Int32) => bi1 ((if y86_0 = 0 then some (G50l) else oguard (inB z37_0 4096) (bi1 (p_X8_endWith n F G50l (G50l 16 z37_0.toNatClampNeg) z50_0) (fun x131 => plet (z37_0 ||| (1 <<< (z50_0 &&& 31))) (fun (x142 : Int32) => oguard (inB x142 4096) (bi1 ((if (G50l 16 x142.toNatClampNeg) ≤ x131 then oguard (inB x142 4096) (some ((G50l 16 x142.toNatClampNeg))) else some (x131))) (fun (y159_0 : Int32) => oguard (inB x142 4096) (plet (stG G50l 16 x142 y159_0) (fun (G174 : tG) => some (G174)))))))))) (fun (G119j : tG) => plet (z50_0 + 1) (fun (x175 : Int32) => p_X8_layEnds_L50 n F z37_0 K50 k50 x175 G119j))))))
theorem p_X8_layEnds_L50_k {n : Nat} {F : tF} {z37_0 : Int32} {K0 : Int32 → tG → Option (tF × tG)} {k : Nat} {z50_0 : Int32} {G50l : tG} {x : tF × tG} (h : p_X8_layEnds_L50 n F z37_0 K0 k z50_0 G50l = some x) : ∃ K, K = K0 ∧ p_X8_layEnds_L50 n F z37_0 K k z50_0 G50l = some x := ⟨K0, rfl, h⟩
def p_X8_layEnds_L37 (n : Nat) (F : tF) (K37 : Int32 → tG → Option (tF × tG)) : Nat → Int32 → tG → Option (tF × tG)
  | 0, _, _ => none
  | k37 + 1, z37_0, G37l => (if (1 <<< ((F 15) &&& 31)) ≤ z37_0 then K37 z37_0 G37l else p_X8_layEnds_L50 n F z37_0 (fun (z50_0 : Int32) (G50l : tG) => plet (z37_0 + 1) (fun (x181 : Int32) => p_X8_layEnds_L37 n F K37 k37 x181 G50l)) n 0 G37l)
theorem p_X8_layEnds_L37_k {n : Nat} {F : tF} {K0 : Int32 → tG → Option (tF × tG)} {k : Nat} {z37_0 : Int32} {G37l : tG} {x : tF × tG} (h : p_X8_layEnds_L37 n F K0 k z37_0 G37l = some x) : ∃ K, K = K0 ∧ p_X8_layEnds_L37 n F K k z37_0 G37l = some x := ⟨K0, rfl, h⟩
def p_X8_layEnds_L2 (F : tF) (a1 : Int32) (a2 : Int32) (K2 : Int32 → tG → Option (tF × tG)) : Nat → Int32 → tG → Option (tF × tG)
  | 0, _, _ => none
  | k2 + 1, z2_0, G2l => (if (1 <<< ((F 15) &&& 31)) ≤ z2_0 then K2 z2_0 G2l else bi1 ((if z2_0 = a1 then some (a2) else some (100000))) (fun (y19_0 : Int32) => oguard (inB z2_0 4096) (plet (stG G2l 16 z2_0 y19_0) (fun (G28 : tG) => plet (z2_0 + 1) (fun (x29 : Int32) => p_X8_layEnds_L2 F a1 a2 K2 k2 x29 G28)))))
theorem p_X8_layEnds_L2_k {F : tF} {a1 : Int32} {a2 : Int32} {K0 : Int32 → tG → Option (tF × tG)} {k : Nat} {z2_0 : Int32} {G2l : tG} {x : tF × tG} (h : p_X8_layEnds_L2 F a1 a2 K0 k z2_0 G2l = some x) : ∃ K, K = K0 ∧ p_X8_layEnds_L2 F a1 a2 K k z2_0 G2l = some x := ⟨K0, rfl, h⟩
def p_X8_layEnds (n : Nat) (F : tF) (G : tG) (a1 : Int32) (a2 : Int32) : Option (tF × tG) :=
  p_X8_layEnds_L2 F a1 a2 (fun (z2_0 : Int32) (G2l : tG) => p_X8_layEnds_L37 n F (fun (z37_0 : Int32) (G37l : tG) => some (F, G37l)) n 0 G2l) n 0 G
set_option maxHeartbeats 4000000 in
set_option maxRecDepth 100000 in
theorem c_X8_layEnds (l : Launch) (D : va_G) (ad : Nat → Nat) (cA : ClassId) (n : Nat) (F : tF) (G : tG) (a1 : Int32) (a2 : Int32) {F' : tF} {G' : tG} (h : p_X8_layEnds n F G a1 a2 = some (F', G')) : CV l yX8_layEnds wsX8_layEnds ({ frames := 2, cells := 0, slots := 0, locals := 45 } : Room) D cA (wM ad cA F G) [.ref (ad 0), .int (a1), .int (a2)] (wM ad cA F' G') := by
  rw [p_X8_layEnds] at h
  refine metVm (w := wM ad cA) (cc := cX8_layEnds) (maxL := 8) (by decide) rfl (Nat.le_of_ble_eq_true rfl) ?_
  intro p e s m args below meth c A ls Q hE hret
  obtain ⟨hx, hb, hts, hown, hml, hP, hK, hD, hN, hA, hl⟩ := hE
  have hown : s.vm.findClass RX8 = some m.cls := hown
  have hl : lv_has ls 8 [(0, .ref (ad 0)), (1, .int (a1)), (2, .int (a2))] := hl
  have hS : va_S A s.heap s.heap [] := va_S.rf
  have k_0 : (Cond.fieldLink RX8 173 "BellBookModel" "things" "I").before args s = true := hts _ (List.mem_of_getElem? (i := 1) rfl)
  have n_8 : ∀ w ∈ u_ws RX8 TX8 46, w ∈ wsX8_layEnds := fun w hw => List.mem_cons_of_mem _ (List.mem_append_right _ hw)
  have k_2 : (Cond.fieldLink RX8 80 "BellBookModel" "end" "[I").before args s = true := hts _ (List.mem_of_getElem? (i := 2) rfl)
  have k_3 : (Cond.constant RX8 154 (100000)).before args s = true := hts _ (List.mem_of_getElem? (i := 3) rfl)
  have k_4 : (Cond.fieldLink RX8 138 "BellBookModel" "raised" "I").before args s = true := hts _ (List.mem_of_getElem? (i := 4) rfl)
  have k_5 : (Cond.fieldLink RX8 145 "BellBookModel" "tangled" "I").before args s = true := hts _ (List.mem_of_getElem? (i := 5) rfl)
  have k_6 : (Cond.fieldLink RX8 53 "BellBookModel" "under" "[I").before args s = true := hts _ (List.mem_of_getElem? (i := 6) rfl)
  refine lv_iconst (v := 0) hx hb dX8_layEnds_0 (by decide) ?_
  refine lv_istore_n (lv' := [(3, .int (0)), (0, .ref (ad 0)), (1, .int (a1)), (2, .int (a2))]) hx hb dX8_layEnds_1 rfl hl (by decide) rfl (fun ls hl => ?_)
  obtain ⟨K2, eK2, h⟩ := p_X8_layEnds_L2_k h
  have JE2 : ∀ (z2_0 : Int32) (G2l : tG) (H : Heap) (locs : List Loc) (ls : Array Slot), K2 z2_0 G2l = some (F', G') → va_P D vwCl (wM ad cA F G2l) H → va_D A (wM ad cA F G2l) → va_S A s.heap H locs → lv_has ls 8 [(3, .int (z2_0)), (0, .ref (ad 0)), (1, .int (a1)), (2, .int (a2))] → W p l e ({ frames := 2, cells := 0, slots := 0, locals := 45 } : Room) s m args below meth c H locs 0 0 Q (F0 m 35 ls []) := by
    intro z2_0 G2l H locs ls h hP hD hS hl
    rw [eK2] at h
    refine lv_iconst (v := 0) hx hb dX8_layEnds_35 (by decide) ?_
    refine lv_istore_n (lv' := [(3, .int (0)), (0, .ref (ad 0)), (1, .int (a1)), (2, .int (a2))]) hx hb dX8_layEnds_36 rfl hl (by decide) rfl (fun ls hl => ?_)
    obtain ⟨K37, eK37, h⟩ := p_X8_layEnds_L37_k h
    have JE37 : ∀ (z37_0 : Int32) (G37l : tG) (H : Heap) (locs : List Loc) (ls : Array Slot), K37 z37_0 G37l = some (F', G') → va_P D vwCl (wM ad cA F G37l) H → va_D A (wM ad cA F G37l) → va_S A s.heap H locs → lv_has ls 8 [(3, .int (z37_0)), (0, .ref (ad 0)), (1, .int (a1)), (2, .int (a2))] → W p l e ({ frames := 2, cells := 0, slots := 0, locals := 45 } : Room) s m args below meth c H locs 0 0 Q (F0 m 187 ls []) := by
      intro z37_0 G37l H locs ls h hP hD hS hl
      rw [eK37] at h
      exact hret _ _ _ _ _ _ dX8_layEnds_187 h hP hD hS
    have LL37 : ∀ (k : Nat) (z37_0 : Int32) (G37l : tG) (H : Heap) (locs : List Loc) (ls : Array Slot), p_X8_layEnds_L37 n F K37 k z37_0 G37l = some (F', G') → va_P D vwCl (wM ad cA F G37l) H → va_D A (wM ad cA F G37l) → va_S A s.heap H locs → lv_has ls 8 [(3, .int (z37_0)), (0, .ref (ad 0)), (1, .int (a1)), (2, .int (a2))] → W p l e ({ frames := 2, cells := 0, slots := 0, locals := 45 } : Room) s m args below meth c H locs 0 0 Q (F0 m 37 ls []) := by
      intro k
      induction k with
      | zero =>
        intro z37_0 G37l H locs ls h hP hD hS hl
        rw [p_X8_layEnds_L37] at h
        cases h
      | succ k37 ih37 =>
        intro z37_0 G37l H locs ls h hP hD hS hl
        rw [p_X8_layEnds_L37] at h
        refine lv_iload_n hx hb dX8_layEnds_37 rfl (lv_at hl 0 rfl) ?_
        refine lv_iconst (v := 1) hx hb dX8_layEnds_38 (by decide) ?_
        refine lv_aload_n hx hb dX8_layEnds_39 rfl (lv_at hl 1 rfl) ?_
        refine va_get (D := D) (ci := 8) (fs := vX8 ad F) (v := .int ((F 15))) (C := RX8) (T := TX8) (N := 46) hx hb hts n_8 hown hK hP 0 wMg0 rfl 21 (by decide) k_0 (fun _ h9 => h9) rfl dX8_layEnds_40 ?_
        refine lv_ishl hx hb dX8_layEnds_43 ?_
        refine lv_icmp_ge (tgt := 187) hx hb dX8_layEnds_44 (by decide) (fun c44 => ?_) (fun c44 => ?_)
        · replace h := ifp h c44
          exact JE37 _ _ _ _ _ h hP hD hS (lv_sub hl [0, 1, 2, 3] rfl)
        · replace h := ifn h c44
          refine lv_iconst (v := 0) hx hb dX8_layEnds_47 (by decide) ?_
          refine lv_istore (lv' := [(4, .int (0)), (3, .int (z37_0)), (0, .ref (ad 0)), (1, .int (a1)), (2, .int (a2))]) hx hb dX8_layEnds_48 hl (by decide) rfl (fun ls hl => ?_)
          obtain ⟨K50, eK50, h⟩ := p_X8_layEnds_L50_k h
          have JE50 : ∀ (z50_0 : Int32) (G50l : tG) (H : Heap) (locs : List Loc) (ls : Array Slot), K50 z50_0 G50l = some (F', G') → va_P D vwCl (wM ad cA F G50l) H → va_D A (wM ad cA F G50l) → va_S A s.heap H locs → lv_has ls 8 [(4, .int (z50_0)), (3, .int (z37_0)), (0, .ref (ad 0)), (1, .int (a1)), (2, .int (a2))] → W p l e ({ frames := 2, cells := 0, slots := 0, locals := 45 } : Room) s m args below meth c H locs 0 0 Q (F0 m 181 ls []) := by
            intro z50_0 G50l H locs ls h hP hD hS hl
            rw [eK50] at h
            obtain ⟨x181, ex181⟩ : ∃ z : Int32, z = (z37_0 + 1) := ⟨_, rfl⟩
            replace h := pl h ex181
            refine lv_iinc (v := x181) (lv' := [(3, .int (x181)), (4, .int (z50_0)), (0, .ref (ad 0)), (1, .int (a1)), (2, .int (a2))]) hx hb dX8_layEnds_181 hl (k := 1) rfl (by rw [ex181]; rfl) (by decide) rfl (fun ls hl => ?_)
            refine lv_goto (tgt := 37) hx hb dX8_layEnds_184 (by decide) ?_
            exact ih37 _ _ _ _ _ h hP hD hS (lv_sub hl [0, 2, 3, 4] rfl)
          have LL50 : ∀ (k : Nat) (z50_0 : Int32) (G50l : tG) (H : Heap) (locs : List Loc) (ls : Array Slot), p_X8_layEnds_L50 n F z37_0 K50 k z50_0 G50l = some (F', G') → va_P D vwCl (wM ad cA F G50l) H → va_D A (wM ad cA F G50l) → va_S A s.heap H locs → lv_has ls 8 [(4, .int (z50_0)), (3, .int (z37_0)), (0, .ref (ad 0)), (1, .int (a1)), (2, .int (a2))] → W p l e ({ frames := 2, cells := 0, slots := 0, locals := 45 } : Room) s m args below meth c H locs 0 0 Q (F0 m 50 ls []) := by
            intro k
            induction k with
            | zero =>
              intro z50_0 G50l H locs ls h hP hD hS hl
              rw [p_X8_layEnds_L50] at h
              cases h
            | succ k50 ih50 =>
              intro z50_0 G50l H locs ls h hP hD hS hl
              rw [p_X8_layEnds_L50] at h
              refine lv_iload hx hb dX8_layEnds_50 (lv_at hl 0 rfl) ?_
              refine lv_aload_n hx hb dX8_layEnds_52 rfl (lv_at hl 2 rfl) ?_
              refine va_get (D := D) (ci := 8) (fs := vX8 ad F) (v := .int ((F 15))) (C := RX8) (T := TX8) (N := 46) hx hb hts n_8 hown hK hP 0 wMg0 rfl 21 (by decide) k_0 (fun _ h9 => h9) rfl dX8_layEnds_53 ?_
              refine lv_icmp_ge (tgt := 181) hx hb dX8_layEnds_56 (by decide) (fun c56 => ?_) (fun c56 => ?_)
              · replace h := ifp h c56
                exact JE50 _ _ _ _ _ h hP hD hS (lv_sub hl [0, 1, 2, 3, 4] rfl)
              · replace h := ifn h c56
                refine lv_aload_n hx hb dX8_layEnds_59 rfl (lv_at hl 2 rfl) ?_
                refine va_get (D := D) (ci := 8) (fs := vX8 ad F) (v := .ref (ad 17)) (C := RX8) (T := TX8) (N := 46) hx hb hts n_8 hown hK hP 0 wMg0 rfl 37 (by decide) k_2 (fun _ h9 => h9) rfl dX8_layEnds_60 ?_
                refine lv_iload_n hx hb dX8_layEnds_63 rfl (lv_at hl 1 rfl) ?_
                obtain ⟨g64, h⟩ := og h
                refine va_iald (D := D) hx hb hK hP 17 0 wMg17 rfl (inB_in g64) dX8_layEnds_64 ?_
                refine lv_ldc (v := 100000) hx hb hown k_3 dX8_layEnds_65 ?_
                refine lv_icmp_ge (tgt := 181) hx hb dX8_layEnds_67 (by decide) (fun c67 => ?_) (fun c67 => ?_)
                · replace h := ifp h c67
                  exact JE50 _ _ _ _ _ h hP hD hS (lv_sub hl [0, 1, 2, 3, 4] rfl)
                · replace h := ifn h c67
                  refine lv_iload_n hx hb dX8_layEnds_70 rfl (lv_at hl 1 rfl) ?_
                  refine lv_aload_n hx hb dX8_layEnds_71 rfl (lv_at hl 2 rfl) ?_
                  refine va_get (D := D) (ci := 8) (fs := vX8 ad F) (v := .int ((F 16))) (C := RX8) (T := TX8) (N := 46) hx hb hts n_8 hown hK hP 0 wMg0 rfl 24 (by decide) k_4 (fun _ h9 => h9) rfl dX8_layEnds_72 ?_
                  refine lv_ior hx hb dX8_layEnds_75 ?_
                  refine lv_aload_n hx hb dX8_layEnds_76 rfl (lv_at hl 2 rfl) ?_
                  refine va_get (D := D) (ci := 8) (fs := vX8 ad F) (v := .int ((F 17))) (C := RX8) (T := TX8) (N := 46) hx hb hts n_8 hown hK hP 0 wMg0 rfl 25 (by decide) k_5 (fun _ h9 => h9) rfl dX8_layEnds_77 ?_
                  refine lv_ior hx hb dX8_layEnds_80 ?_
                  refine lv_iload hx hb dX8_layEnds_81 (lv_at hl 0 rfl) ?_
                  refine lv_ishr hx hb dX8_layEnds_83 ?_
                  refine lv_iconst (v := 1) hx hb dX8_layEnds_84 (by decide) ?_
                  refine lv_iand hx hb dX8_layEnds_85 ?_
                  obtain ⟨y86_0, q86, h⟩ := bi1e h
                  have J86 : ∀ (wy86_0 : Int32), some (wy86_0) = some (y86_0) → ∀ (H : Heap) (locs : List Loc) (ls : Array Slot), va_P D vwCl (wM ad cA F G50l) H → va_D A (wM ad cA F G50l) → va_S A s.heap H locs → lv_has ls 8 [(4, .int (z50_0)), (3, .int (z37_0)), (0, .ref (ad 0)), (1, .int (a1)), (2, .int (a2))] → W p l e ({ frames := 2, cells := 0, slots := 0, locals := 45 } : Room) s m args below meth c H locs 0 0 Q (F0 m 115 ls [.int (wy86_0)]) := by
                    intro wy86_0 e9 H locs ls hP hD hS hl
                    cases e9
                    refine lv_istore (lv' := [(5, .int (y86_0)), (4, .int (z50_0)), (3, .int (z37_0)), (0, .ref (ad 0)), (1, .int (a1)), (2, .int (a2))]) hx hb dX8_layEnds_115 hl (by decide) rfl (fun ls hl => ?_)
                    refine lv_iload hx hb dX8_layEnds_117 (lv_at hl 0 rfl) ?_
                    obtain ⟨G119j, q119, h⟩ := bi1e h
                    have J119 : ∀ (wG119j : tG), some (wG119j) = some (G119j) → ∀ (H : Heap) (locs : List Loc) (ls : Array Slot), va_P D vwCl (wM ad cA F wG119j) H → va_D A (wM ad cA F wG119j) → va_S A s.heap H locs → lv_has ls 8 [(5, .int (y86_0)), (4, .int (z50_0)), (3, .int (z37_0)), (0, .ref (ad 0)), (1, .int (a1)), (2, .int (a2))] → W p l e ({ frames := 2, cells := 0, slots := 0, locals := 45 } : Room) s m args below meth c H locs 0 0 Q (F0 m 175 ls []) := by
                      intro wG119j e9 H locs ls hP hD hS hl
                      cases e9
                      obtain ⟨x175, ex175⟩ : ∃ z : Int32, z = (z50_0 + 1) := ⟨_, rfl⟩
                      replace h := pl h ex175
                      refine lv_iinc (v := x175) (lv' := [(4, .int (x175)), (5, .int (y86_0)), (3, .int (z37_0)), (0, .ref (ad 0)), (1, .int (a1)), (2, .int (a2))]) hx hb dX8_layEnds_175 hl (k := 1) rfl (by rw [ex175]; rfl) (by decide) rfl (fun ls hl => ?_)
                      refine lv_goto (tgt := 50) hx hb dX8_layEnds_178 (by decide) ?_
                      exact ih50 _ _ _ _ _ h hP hD hS (lv_sub hl [0, 2, 3, 4, 5] rfl)
                    refine lv_if_eq (tgt := 175) hx hb dX8_layEnds_119 (by decide) (fun c119 => ?_) (fun c119 => ?_)
                    · replace q119 := ifp q119 c119
                      exact J119 _ q119 _ _ _ hP hD hS (lv_sub hl [0, 1, 2, 3, 4, 5] rfl)
                    · replace q119 := ifn q119 c119
                      refine lv_aload_n hx hb dX8_layEnds_122 rfl (lv_at hl 3 rfl) ?_
                      refine lv_aload_n hx hb dX8_layEnds_123 rfl (lv_at hl 3 rfl) ?_
                      refine va_get (D := D) (ci := 8) (fs := vX8 ad F) (v := .ref (ad 17)) (C := RX8) (T := TX8) (N := 46) hx hb hts n_8 hown hK hP 0 wMg0 rfl 37 (by decide) k_2 (fun _ h9 => h9) rfl dX8_layEnds_124 ?_
                      refine lv_iload_n hx hb dX8_layEnds_127 rfl (lv_at hl 2 rfl) ?_
                      obtain ⟨g128, q119⟩ := og q119
                      refine va_iald (D := D) hx hb hK hP 17 0 wMg17 rfl (inB_in g128) dX8_layEnds_128 ?_
                      refine lv_iload hx hb dX8_layEnds_129 (lv_at hl 1 rfl) ?_
                      obtain ⟨x131, h131, q119⟩ := bi1e q119
                      refine callVI (b := ad 0) (As := [.int ((G50l 16 z37_0.toNatClampNeg)), .int (z50_0)]) (rest := []) ⟨hx, hb, hml, hown, hts⟩ (c_X8_endWith l D ad cA n F G50l (G50l 16 z37_0.toNatClampNeg) z50_0 h131) (cwV 2 hts gX8_layEnds_X8_endWith rfl rfl rfl (by decide +kernel) ⟨Nat.le_of_ble_eq_true rfl, Nat.le_of_ble_eq_true rfl⟩) (va_recv hK hP (ci := 8) (q0 := 0) rfl wMg0) hP hK hD hN hS hA rfl hl.1 rfl (Nat.le_of_ble_eq_true rfl) dX8_layEnds_131 ⟨Nat.zero_le _, Nat.zero_le _⟩ (fun H locs hP hD hS => ?_)
                      refine lv_istore (lv' := [(6, .int (x131)), (5, .int (y86_0)), (4, .int (z50_0)), (3, .int (z37_0)), (0, .ref (ad 0)), (1, .int (a1)), (2, .int (a2))]) hx hb dX8_layEnds_134 hl (by decide) rfl (fun ls hl => ?_)
                      refine lv_iload_n hx hb dX8_layEnds_136 rfl (lv_at hl 3 rfl) ?_
                      refine lv_iconst (v := 1) hx hb dX8_layEnds_137 (by decide) ?_
                      refine lv_iload hx hb dX8_layEnds_138 (lv_at hl 2 rfl) ?_
                      refine lv_ishl hx hb dX8_layEnds_140 ?_
                      refine lv_ior hx hb dX8_layEnds_141 ?_
                      refine lv_topi (fun x142 ex142 => ?_)
                      replace q119 := pl q119 ex142
                      refine lv_istore (lv' := [(7, .int (x142)), (6, .int (x131)), (5, .int (y86_0)), (4, .int (z50_0)), (3, .int (z37_0)), (0, .ref (ad 0)), (1, .int (a1)), (2, .int (a2))]) hx hb dX8_layEnds_142 hl (by decide) rfl (fun ls hl => ?_)
                      refine lv_aload_n hx hb dX8_layEnds_144 rfl (lv_at hl 5 rfl) ?_
                      refine va_get (D := D) (ci := 8) (fs := vX8 ad F) (v := .ref (ad 17)) (C := RX8) (T := TX8) (N := 46) hx hb hts n_8 hown hK hP 0 wMg0 rfl 37 (by decide) k_2 (fun _ h9 => h9) rfl dX8_layEnds_145 ?_
                      refine lv_iload hx hb dX8_layEnds_148 (lv_at hl 0 rfl) ?_
                      refine lv_iload hx hb dX8_layEnds_150 (lv_at hl 1 rfl) ?_
                      refine lv_aload_n hx hb dX8_layEnds_152 rfl (lv_at hl 5 rfl) ?_
                      refine va_get (D := D) (ci := 8) (fs := vX8 ad F) (v := .ref (ad 17)) (C := RX8) (T := TX8) (N := 46) hx hb hts n_8 hown hK hP 0 wMg0 rfl 37 (by decide) k_2 (fun _ h9 => h9) rfl dX8_layEnds_153 ?_
                      refine lv_iload hx hb dX8_layEnds_156 (lv_at hl 0 rfl) ?_
                      obtain ⟨g158, q119⟩ := og q119
                      refine va_iald (D := D) hx hb hK hP 17 0 wMg17 rfl (inB_in g158) dX8_layEnds_158 ?_
                      obtain ⟨y159_0, q159, q119⟩ := bi1e q119
                      have J159 : ∀ (wy159_0 : Int32), some (wy159_0) = some (y159_0) → ∀ (H : Heap) (locs : List Loc) (ls : Array Slot), va_P D vwCl (wM ad cA F G50l) H → va_D A (wM ad cA F G50l) → va_S A s.heap H locs → lv_has ls 8 [(7, .int (x142)), (6, .int (x131)), (5, .int (y86_0)), (4, .int (z50_0)), (3, .int (z37_0)), (0, .ref (ad 0)), (1, .int (a1)), (2, .int (a2))] → W p l e ({ frames := 2, cells := 0, slots := 0, locals := 45 } : Room) s m args below meth c H locs 0 0 Q (F0 m 174 ls [.int (wy159_0), .int (x142), .ref (ad 17)]) := by
                        intro wy159_0 e9 H locs ls hP hD hS hl
                        cases e9
                        obtain ⟨g174, q119⟩ := og q119
                        obtain ⟨G174, eG174⟩ : ∃ z : tG, z = stG G50l 16 x142 y159_0 := ⟨_, rfl⟩
                        replace q119 := pl q119 eG174
                        refine va_iast (D := D) hx hb hK hP hD hS 17 0 wMg17 rfl (inB_in g174) dX8_layEnds_174 (fun H locs hP hD hS => ?_)
                        rw [wMa16 eG174] at hP hD
                        exact J119 _ q119 _ _ _ hP hD hS (lv_sub hl [2, 3, 4, 5, 6, 7] rfl)
                      refine lv_icmp_ge (tgt := 167) hx hb dX8_layEnds_159 (by decide) (fun c159 => ?_) (fun c159 => ?_)
                      · replace q159 := ifp q159 c159
                        refine lv_aload_n hx hb dX8_layEnds_167 rfl (lv_at hl 5 rfl) ?_
                        refine va_get (D := D) (ci := 8) (fs := vX8 ad F) (v := .ref (ad 17)) (C := RX8) (T := TX8) (N := 46) hx hb hts n_8 hown hK hP 0 wMg0 rfl 37 (by decide) k_2 (fun _ h9 => h9) rfl dX8_layEnds_168 ?_
                        refine lv_iload hx hb dX8_layEnds_171 (lv_at hl 0 rfl) ?_
                        obtain ⟨g173, q159⟩ := og q159
                        refine va_iald (D := D) hx hb hK hP 17 0 wMg17 rfl (inB_in g173) dX8_layEnds_173 ?_
                        exact J159 _ q159 _ _ _ hP hD hS (lv_sub hl [0, 1, 2, 3, 4, 5, 6, 7] rfl)
                      · replace q159 := ifn q159 c159
                        refine lv_iload hx hb dX8_layEnds_162 (lv_at hl 1 rfl) ?_
                        refine lv_goto (tgt := 174) hx hb dX8_layEnds_164 (by decide) ?_
                        exact J159 _ q159 _ _ _ hP hD hS (lv_sub hl [0, 1, 2, 3, 4, 5, 6, 7] rfl)
                  refine lv_if_ne (tgt := 114) hx hb dX8_layEnds_86 (by decide) (fun c86 => ?_) (fun c86 => ?_)
                  · replace q86 := ifn q86 c86
                    refine lv_iconst (v := 0) hx hb dX8_layEnds_114 (by decide) ?_
                    exact J86 _ q86 _ _ _ hP hD hS (lv_sub hl [0, 1, 2, 3, 4] rfl)
                  · replace q86 := ifp q86 c86
                    refine lv_aload_n hx hb dX8_layEnds_89 rfl (lv_at hl 2 rfl) ?_
                    refine va_get (D := D) (ci := 8) (fs := vX8 ad F) (v := .ref (ad 8)) (C := RX8) (T := TX8) (N := 46) hx hb hts n_8 hown hK hP 0 wMg0 rfl 23 (by decide) k_6 (fun _ h9 => h9) rfl dX8_layEnds_90 ?_
                    refine lv_iload hx hb dX8_layEnds_93 (lv_at hl 0 rfl) ?_
                    obtain ⟨g95, q86⟩ := og q86
                    refine va_iald (D := D) hx hb hK hP 8 0 wMg8 rfl (inB_in g95) dX8_layEnds_95 ?_
                    refine lv_aload_n hx hb dX8_layEnds_96 rfl (lv_at hl 2 rfl) ?_
                    refine va_get (D := D) (ci := 8) (fs := vX8 ad F) (v := .int ((F 16))) (C := RX8) (T := TX8) (N := 46) hx hb hts n_8 hown hK hP 0 wMg0 rfl 24 (by decide) k_4 (fun _ h9 => h9) rfl dX8_layEnds_97 ?_
                    refine lv_iconst (v := (-1)) hx hb dX8_layEnds_100 (by decide) ?_
                    refine lv_ixor hx hb dX8_layEnds_101 ?_
                    refine lv_iand hx hb dX8_layEnds_102 ?_
                    refine lv_iload_n hx hb dX8_layEnds_103 rfl (lv_at hl 1 rfl) ?_
                    refine lv_iconst (v := (-1)) hx hb dX8_layEnds_104 (by decide) ?_
                    refine lv_ixor hx hb dX8_layEnds_105 ?_
                    refine lv_iand hx hb dX8_layEnds_106 ?_
                    refine lv_if_ne (tgt := 114) hx hb dX8_layEnds_107 (by decide) (fun c107 => ?_) (fun c107 => ?_)
                    · replace q86 := ifn q86 c107
                      refine lv_iconst (v := 0) hx hb dX8_layEnds_114 (by decide) ?_
                      exact J86 _ q86 _ _ _ hP hD hS (lv_sub hl [0, 1, 2, 3, 4] rfl)
                    · replace q86 := ifp q86 c107
                      refine lv_iconst (v := 1) hx hb dX8_layEnds_110 (by decide) ?_
                      refine lv_goto (tgt := 115) hx hb dX8_layEnds_111 (by decide) ?_
                      exact J86 _ q86 _ _ _ hP hD hS (lv_sub hl [0, 1, 2, 3, 4] rfl)
          exact LL50 n 0 G37l _ _ _ h hP hD hS (lv_sub hl [0, 1, 2, 3, 4] rfl)
    exact LL37 n 0 G2l _ _ _ h hP hD hS (lv_sub hl [0, 1, 2, 3] rfl)
  have LL2 : ∀ (k : Nat) (z2_0 : Int32) (G2l : tG) (H : Heap) (locs : List Loc) (ls : Array Slot), p_X8_layEnds_L2 F a1 a2 K2 k z2_0 G2l = some (F', G') → va_P D vwCl (wM ad cA F G2l) H → va_D A (wM ad cA F G2l) → va_S A s.heap H locs → lv_has ls 8 [(3, .int (z2_0)), (0, .ref (ad 0)), (1, .int (a1)), (2, .int (a2))] → W p l e ({ frames := 2, cells := 0, slots := 0, locals := 45 } : Room) s m args below meth c H locs 0 0 Q (F0 m 2 ls []) := by
    intro k
    induction k with
    | zero =>
      intro z2_0 G2l H locs ls h hP hD hS hl
      rw [p_X8_layEnds_L2] at h
      cases h
    | succ k2 ih2 =>
      intro z2_0 G2l H locs ls h hP hD hS hl
      rw [p_X8_layEnds_L2] at h
      refine lv_iload_n hx hb dX8_layEnds_2 rfl (lv_at hl 0 rfl) ?_
      refine lv_iconst (v := 1) hx hb dX8_layEnds_3 (by decide) ?_
      refine lv_aload_n hx hb dX8_layEnds_4 rfl (lv_at hl 1 rfl) ?_
      refine va_get (D := D) (ci := 8) (fs := vX8 ad F) (v := .int ((F 15))) (C := RX8) (T := TX8) (N := 46) hx hb hts n_8 hown hK hP 0 wMg0 rfl 21 (by decide) k_0 (fun _ h9 => h9) rfl dX8_layEnds_5 ?_
      refine lv_ishl hx hb dX8_layEnds_8 ?_
      refine lv_icmp_ge (tgt := 35) hx hb dX8_layEnds_9 (by decide) (fun c9 => ?_) (fun c9 => ?_)
      · replace h := ifp h c9
        exact JE2 _ _ _ _ _ h hP hD hS (lv_sub hl [0, 1, 2, 3] rfl)
      · replace h := ifn h c9
        refine lv_aload_n hx hb dX8_layEnds_12 rfl (lv_at hl 1 rfl) ?_
        refine va_get (D := D) (ci := 8) (fs := vX8 ad F) (v := .ref (ad 17)) (C := RX8) (T := TX8) (N := 46) hx hb hts n_8 hown hK hP 0 wMg0 rfl 37 (by decide) k_2 (fun _ h9 => h9) rfl dX8_layEnds_13 ?_
        refine lv_iload_n hx hb dX8_layEnds_16 rfl (lv_at hl 0 rfl) ?_
        refine lv_iload_n hx hb dX8_layEnds_17 rfl (lv_at hl 0 rfl) ?_
        refine lv_iload_n hx hb dX8_layEnds_18 rfl (lv_at hl 2 rfl) ?_
        obtain ⟨y19_0, q19, h⟩ := bi1e h
        have J19 : ∀ (wy19_0 : Int32), some (wy19_0) = some (y19_0) → ∀ (H : Heap) (locs : List Loc) (ls : Array Slot), va_P D vwCl (wM ad cA F G2l) H → va_D A (wM ad cA F G2l) → va_S A s.heap H locs → lv_has ls 8 [(3, .int (z2_0)), (0, .ref (ad 0)), (1, .int (a1)), (2, .int (a2))] → W p l e ({ frames := 2, cells := 0, slots := 0, locals := 45 } : Room) s m args below meth c H locs 0 0 Q (F0 m 28 ls [.int (wy19_0), .int (z2_0), .ref (ad 17)]) := by
          intro wy19_0 e9 H locs ls hP hD hS hl
          cases e9
          obtain ⟨g28, h⟩ := og h
          obtain ⟨G28, eG28⟩ : ∃ z : tG, z = stG G2l 16 z2_0 y19_0 := ⟨_, rfl⟩
          replace h := pl h eG28
          refine va_iast (D := D) hx hb hK hP hD hS 17 0 wMg17 rfl (inB_in g28) dX8_layEnds_28 (fun H locs hP hD hS => ?_)
          rw [wMa16 eG28] at hP hD
          obtain ⟨x29, ex29⟩ : ∃ z : Int32, z = (z2_0 + 1) := ⟨_, rfl⟩
          replace h := pl h ex29
          refine lv_iinc (v := x29) (lv' := [(3, .int (x29)), (0, .ref (ad 0)), (1, .int (a1)), (2, .int (a2))]) hx hb dX8_layEnds_29 hl (k := 0) rfl (by rw [ex29]; rfl) (by decide) rfl (fun ls hl => ?_)
          refine lv_goto (tgt := 2) hx hb dX8_layEnds_32 (by decide) ?_
          exact ih2 _ _ _ _ _ h hP hD hS (lv_sub hl [0, 1, 2, 3] rfl)
        refine lv_icmp_ne (tgt := 26) hx hb dX8_layEnds_19 (by decide) (fun c19 => ?_) (fun c19 => ?_)
        · replace q19 := ifn q19 c19
          refine lv_ldc (v := 100000) hx hb hown k_3 dX8_layEnds_26 ?_
          exact J19 _ q19 _ _ _ hP hD hS (lv_sub hl [0, 1, 2, 3] rfl)
        · replace q19 := ifp q19 c19
          refine lv_iload_n hx hb dX8_layEnds_22 rfl (lv_at hl 3 rfl) ?_
          refine lv_goto (tgt := 28) hx hb dX8_layEnds_23 (by decide) ?_
          exact J19 _ q19 _ _ _ hP hD hS (lv_sub hl [0, 1, 2, 3] rfl)
  exact LL2 n 0 G _ _ _ h hP hD hS (lv_sub hl [0, 1, 2, 3] rfl)

def p_X8_hopeOf_L4 (F : tF) (G : tG) (a1 : Int32) (K4 : Int32 → Int32 → Option (Int32)) : Nat → Int32 → Int32 → Option (Int32)
  | 0, _, _ => none
  | k4 + 1, z4_0, z4_1 => (if (F 15) ≤ z4_0 then K4 z4_0 z4_1 else oguard (inB ((5 * z4_0) + 1) 60) (oguard (inB ((5 * z4_0) + 3) 60) (plet (z4_1 + ((((a1 >>> (z4_0 &&& 31)) &&& 1) * (G 6 ((5 * z4_0) + 1).toNatClampNeg)) * (G 6 ((5 * z4_0) + 3).toNatClampNeg))) (fun (x41 : Int32) => plet (z4_0 + 1) (fun (x42 : Int32) => p_X8_hopeOf_L4 F G a1 K4 k4 x42 x41)))))
theorem p_X8_hopeOf_L4_k {F : tF} {G : tG} {a1 : Int32} {K0 : Int32 → Int32 → Option (Int32)} {k : Nat} {z4_0 : Int32} {z4_1 : Int32} {x : Int32} (h : p_X8_hopeOf_L4 F G a1 K0 k z4_0 z4_1 = some x) : ∃ K, K = K0 ∧ p_X8_hopeOf_L4 F G a1 K k z4_0 z4_1 = some x := ⟨K0, rfl, h⟩
def p_X8_hopeOf (n : Nat) (F : tF) (G : tG) (a1 : Int32) : Option (Int32) :=
  p_X8_hopeOf_L4 F G a1 (fun (z4_0 : Int32) (z4_1 : Int32) => some z4_1) n 0 0
set_option maxHeartbeats 4000000 in
set_option maxRecDepth 100000 in
theorem c_X8_hopeOf (l : Launch) (D : va_G) (ad : Nat → Nat) (cA : ClassId) (n : Nat) (F : tF) (G : tG) (a1 : Int32) {r : Int32} (h : p_X8_hopeOf n F G a1 = some r) : CI l yX8_hopeOf wsX8_hopeOf ({ frames := 0, cells := 0, slots := 0, locals := 0 } : Room) D cA (wM ad cA F G) [.ref (ad 0), .int (a1)] r (wM ad cA F G) := by
  rw [p_X8_hopeOf] at h
  refine metIr (w := wM ad cA) (cc := cX8_hopeOf) (maxL := 4) (by decide) rfl (Nat.le_of_ble_eq_true rfl) ?_
  intro p e s m args below meth c A ls Q hE hret
  obtain ⟨hx, hb, hts, hown, hml, hP, hK, hD, hN, hA, hl⟩ := hE
  have hown : s.vm.findClass RX8 = some m.cls := hown
  have hl : lv_has ls 4 [(0, .ref (ad 0)), (1, .int (a1))] := hl
  have hS : va_S A s.heap s.heap [] := va_S.rf
  have k_0 : (Cond.fieldLink RX8 173 "BellBookModel" "things" "I").before args s = true := hts _ (List.mem_of_getElem? (i := 1) rfl)
  have n_8 : ∀ w ∈ u_ws RX8 TX8 46, w ∈ wsX8_hopeOf := fun w hw => List.mem_cons_of_mem _ (List.mem_append_right _ hw)
  have k_2 : (Cond.fieldLink RX8 50 "BellBookModel" "thing" "[I").before args s = true := hts _ (List.mem_of_getElem? (i := 2) rfl)
  refine lv_iconst (v := 0) hx hb dX8_hopeOf_0 (by decide) ?_
  refine lv_istore_n (lv' := [(2, .int (0)), (0, .ref (ad 0)), (1, .int (a1))]) hx hb dX8_hopeOf_1 rfl hl (by decide) rfl (fun ls hl => ?_)
  refine lv_iconst (v := 0) hx hb dX8_hopeOf_2 (by decide) ?_
  refine lv_istore_n (lv' := [(3, .int (0)), (2, .int (0)), (0, .ref (ad 0)), (1, .int (a1))]) hx hb dX8_hopeOf_3 rfl hl (by decide) rfl (fun ls hl => ?_)
  obtain ⟨K4, eK4, h⟩ := p_X8_hopeOf_L4_k h
  have JE4 : ∀ (z4_0 : Int32) (z4_1 : Int32) (H : Heap) (locs : List Loc) (ls : Array Slot), K4 z4_0 z4_1 = some r → va_P D vwCl (wM ad cA F G) H → va_D A (wM ad cA F G) → va_S A s.heap H locs → lv_has ls 4 [(3, .int (z4_0)), (2, .int (z4_1)), (0, .ref (ad 0)), (1, .int (a1))] → W p l e ({ frames := 0, cells := 0, slots := 0, locals := 0 } : Room) s m args below meth c H locs 0 0 Q (F0 m 48 ls []) := by
    intro z4_0 z4_1 H locs ls h hP hD hS hl
    rw [eK4] at h
    refine lv_iload_n hx hb dX8_hopeOf_48 rfl (lv_at hl 1 rfl) ?_
    exact hret _ _ _ _ _ dX8_hopeOf_49 h hP hD hS
  have LL4 : ∀ (k : Nat) (z4_0 : Int32) (z4_1 : Int32) (H : Heap) (locs : List Loc) (ls : Array Slot), p_X8_hopeOf_L4 F G a1 K4 k z4_0 z4_1 = some r → va_P D vwCl (wM ad cA F G) H → va_D A (wM ad cA F G) → va_S A s.heap H locs → lv_has ls 4 [(3, .int (z4_0)), (2, .int (z4_1)), (0, .ref (ad 0)), (1, .int (a1))] → W p l e ({ frames := 0, cells := 0, slots := 0, locals := 0 } : Room) s m args below meth c H locs 0 0 Q (F0 m 4 ls []) := by
    intro k
    induction k with
    | zero =>
      intro z4_0 z4_1 H locs ls h hP hD hS hl
      rw [p_X8_hopeOf_L4] at h
      cases h
    | succ k4 ih4 =>
      intro z4_0 z4_1 H locs ls h hP hD hS hl
      rw [p_X8_hopeOf_L4] at h
      refine lv_iload_n hx hb dX8_hopeOf_4 rfl (lv_at hl 0 rfl) ?_
      refine lv_aload_n hx hb dX8_hopeOf_5 rfl (lv_at hl 2 rfl) ?_
      refine va_get (D := D) (ci := 8) (fs := vX8 ad F) (v := .int ((F 15))) (C := RX8) (T := TX8) (N := 46) hx hb hts n_8 hown hK hP 0 wMg0 rfl 21 (by decide) k_0 (fun _ h9 => h9) rfl dX8_hopeOf_6 ?_
      refine lv_icmp_ge (tgt := 48) hx hb dX8_hopeOf_9 (by decide) (fun c9 => ?_) (fun c9 => ?_)
      · replace h := ifp h c9
        exact JE4 _ _ _ _ _ h hP hD hS (lv_sub hl [0, 1, 2, 3] rfl)
      · replace h := ifn h c9
        refine lv_iload_n hx hb dX8_hopeOf_12 rfl (lv_at hl 1 rfl) ?_
        refine lv_iload_n hx hb dX8_hopeOf_13 rfl (lv_at hl 3 rfl) ?_
        refine lv_iload_n hx hb dX8_hopeOf_14 rfl (lv_at hl 0 rfl) ?_
        refine lv_ishr hx hb dX8_hopeOf_15 ?_
        refine lv_iconst (v := 1) hx hb dX8_hopeOf_16 (by decide) ?_
        refine lv_iand hx hb dX8_hopeOf_17 ?_
        refine lv_aload_n hx hb dX8_hopeOf_18 rfl (lv_at hl 2 rfl) ?_
        refine va_get (D := D) (ci := 8) (fs := vX8 ad F) (v := .ref (ad 7)) (C := RX8) (T := TX8) (N := 46) hx hb hts n_8 hown hK hP 0 wMg0 rfl 22 (by decide) k_2 (fun _ h9 => h9) rfl dX8_hopeOf_19 ?_
        refine lv_iconst (v := 5) hx hb dX8_hopeOf_22 (by decide) ?_
        refine lv_iload_n hx hb dX8_hopeOf_23 rfl (lv_at hl 0 rfl) ?_
        refine lv_imul hx hb dX8_hopeOf_24 ?_
        refine lv_iconst (v := 1) hx hb dX8_hopeOf_25 (by decide) ?_
        refine lv_iadd hx hb dX8_hopeOf_26 ?_
        obtain ⟨g27, h⟩ := og h
        refine va_iald (D := D) hx hb hK hP 7 0 wMg7 rfl (inB_in g27) dX8_hopeOf_27 ?_
        refine lv_imul hx hb dX8_hopeOf_28 ?_
        refine lv_aload_n hx hb dX8_hopeOf_29 rfl (lv_at hl 2 rfl) ?_
        refine va_get (D := D) (ci := 8) (fs := vX8 ad F) (v := .ref (ad 7)) (C := RX8) (T := TX8) (N := 46) hx hb hts n_8 hown hK hP 0 wMg0 rfl 22 (by decide) k_2 (fun _ h9 => h9) rfl dX8_hopeOf_30 ?_
        refine lv_iconst (v := 5) hx hb dX8_hopeOf_33 (by decide) ?_
        refine lv_iload_n hx hb dX8_hopeOf_34 rfl (lv_at hl 0 rfl) ?_
        refine lv_imul hx hb dX8_hopeOf_35 ?_
        refine lv_iconst (v := 3) hx hb dX8_hopeOf_36 (by decide) ?_
        refine lv_iadd hx hb dX8_hopeOf_37 ?_
        obtain ⟨g38, h⟩ := og h
        refine va_iald (D := D) hx hb hK hP 7 0 wMg7 rfl (inB_in g38) dX8_hopeOf_38 ?_
        refine lv_imul hx hb dX8_hopeOf_39 ?_
        refine lv_iadd hx hb dX8_hopeOf_40 ?_
        refine lv_topi (fun x41 ex41 => ?_)
        replace h := pl h ex41
        refine lv_istore_n (lv' := [(2, .int (x41)), (3, .int (z4_0)), (0, .ref (ad 0)), (1, .int (a1))]) hx hb dX8_hopeOf_41 rfl hl (by decide) rfl (fun ls hl => ?_)
        obtain ⟨x42, ex42⟩ : ∃ z : Int32, z = (z4_0 + 1) := ⟨_, rfl⟩
        replace h := pl h ex42
        refine lv_iinc (v := x42) (lv' := [(3, .int (x42)), (2, .int (x41)), (0, .ref (ad 0)), (1, .int (a1))]) hx hb dX8_hopeOf_42 hl (k := 1) rfl (by rw [ex42]; rfl) (by decide) rfl (fun ls hl => ?_)
        refine lv_goto (tgt := 4) hx hb dX8_hopeOf_45 (by decide) ?_
        exact ih4 _ _ _ _ _ h hP hD hS (lv_sub hl [0, 1, 2, 3] rfl)
  exact LL4 n 0 0 _ _ _ h hP hD hS (lv_sub hl [0, 1, 2, 3] rfl)

def p_X8_workOfSet_L4 (F : tF) (G : tG) (a1 : Int32) (K4 : Int32 → Int32 → Option (Int32)) : Nat → Int32 → Int32 → Option (Int32)
  | 0, _, _ => none
  | k4 + 1, z4_0, z4_1 => (if (F 15) ≤ z4_0 then K4 z4_0 z4_1 else bi1 (p_X8_left G z4_0) (fun x20 => plet (z4_1 + (((a1 >>> (z4_0 &&& 31)) &&& 1) * x20)) (fun (x25 : Int32) => plet (z4_0 + 1) (fun (x26 : Int32) => p_X8_workOfSet_L4 F G a1 K4 k4 x26 x25))))
theorem p_X8_workOfSet_L4_k {F : tF} {G : tG} {a1 : Int32} {K0 : Int32 → Int32 → Option (Int32)} {k : Nat} {z4_0 : Int32} {z4_1 : Int32} {x : Int32} (h : p_X8_workOfSet_L4 F G a1 K0 k z4_0 z4_1 = some x) : ∃ K, K = K0 ∧ p_X8_workOfSet_L4 F G a1 K k z4_0 z4_1 = some x := ⟨K0, rfl, h⟩
def p_X8_workOfSet (n : Nat) (F : tF) (G : tG) (a1 : Int32) : Option (Int32) :=
  p_X8_workOfSet_L4 F G a1 (fun (z4_0 : Int32) (z4_1 : Int32) => some z4_1) n 0 0
set_option maxHeartbeats 4000000 in
set_option maxRecDepth 100000 in
theorem c_X8_workOfSet (l : Launch) (D : va_G) (ad : Nat → Nat) (cA : ClassId) (n : Nat) (F : tF) (G : tG) (a1 : Int32) {r : Int32} (h : p_X8_workOfSet n F G a1 = some r) : CI l yX8_workOfSet wsX8_workOfSet ({ frames := 1, cells := 0, slots := 0, locals := 21 } : Room) D cA (wM ad cA F G) [.ref (ad 0), .int (a1)] r (wM ad cA F G) := by
  rw [p_X8_workOfSet] at h
  refine metIr (w := wM ad cA) (cc := cX8_workOfSet) (maxL := 4) (by decide) rfl (Nat.le_of_ble_eq_true rfl) ?_
  intro p e s m args below meth c A ls Q hE hret
  obtain ⟨hx, hb, hts, hown, hml, hP, hK, hD, hN, hA, hl⟩ := hE
  have hown : s.vm.findClass RX8 = some m.cls := hown
  have hl : lv_has ls 4 [(0, .ref (ad 0)), (1, .int (a1))] := hl
  have hS : va_S A s.heap s.heap [] := va_S.rf
  have k_0 : (Cond.fieldLink RX8 173 "BellBookModel" "things" "I").before args s = true := hts _ (List.mem_of_getElem? (i := 1) rfl)
  have n_8 : ∀ w ∈ u_ws RX8 TX8 46, w ∈ wsX8_workOfSet := fun w hw => List.mem_cons_of_mem _ (List.mem_append_right _ hw)
  refine lv_iconst (v := 0) hx hb dX8_workOfSet_0 (by decide) ?_
  refine lv_istore_n (lv' := [(2, .int (0)), (0, .ref (ad 0)), (1, .int (a1))]) hx hb dX8_workOfSet_1 rfl hl (by decide) rfl (fun ls hl => ?_)
  refine lv_iconst (v := 0) hx hb dX8_workOfSet_2 (by decide) ?_
  refine lv_istore_n (lv' := [(3, .int (0)), (2, .int (0)), (0, .ref (ad 0)), (1, .int (a1))]) hx hb dX8_workOfSet_3 rfl hl (by decide) rfl (fun ls hl => ?_)
  obtain ⟨K4, eK4, h⟩ := p_X8_workOfSet_L4_k h
  have JE4 : ∀ (z4_0 : Int32) (z4_1 : Int32) (H : Heap) (locs : List Loc) (ls : Array Slot), K4 z4_0 z4_1 = some r → va_P D vwCl (wM ad cA F G) H → va_D A (wM ad cA F G) → va_S A s.heap H locs → lv_has ls 4 [(3, .int (z4_0)), (2, .int (z4_1)), (0, .ref (ad 0)), (1, .int (a1))] → W p l e ({ frames := 1, cells := 0, slots := 0, locals := 21 } : Room) s m args below meth c H locs 0 0 Q (F0 m 32 ls []) := by
    intro z4_0 z4_1 H locs ls h hP hD hS hl
    rw [eK4] at h
    refine lv_iload_n hx hb dX8_workOfSet_32 rfl (lv_at hl 1 rfl) ?_
    exact hret _ _ _ _ _ dX8_workOfSet_33 h hP hD hS
  have LL4 : ∀ (k : Nat) (z4_0 : Int32) (z4_1 : Int32) (H : Heap) (locs : List Loc) (ls : Array Slot), p_X8_workOfSet_L4 F G a1 K4 k z4_0 z4_1 = some r → va_P D vwCl (wM ad cA F G) H → va_D A (wM ad cA F G) → va_S A s.heap H locs → lv_has ls 4 [(3, .int (z4_0)), (2, .int (z4_1)), (0, .ref (ad 0)), (1, .int (a1))] → W p l e ({ frames := 1, cells := 0, slots := 0, locals := 21 } : Room) s m args below meth c H locs 0 0 Q (F0 m 4 ls []) := by
    intro k
    induction k with
    | zero =>
      intro z4_0 z4_1 H locs ls h hP hD hS hl
      rw [p_X8_workOfSet_L4] at h
      cases h
    | succ k4 ih4 =>
      intro z4_0 z4_1 H locs ls h hP hD hS hl
      rw [p_X8_workOfSet_L4] at h
      refine lv_iload_n hx hb dX8_workOfSet_4 rfl (lv_at hl 0 rfl) ?_
      refine lv_aload_n hx hb dX8_workOfSet_5 rfl (lv_at hl 2 rfl) ?_
      refine va_get (D := D) (ci := 8) (fs := vX8 ad F) (v := .int ((F 15))) (C := RX8) (T := TX8) (N := 46) hx hb hts n_8 hown hK hP 0 wMg0 rfl 21 (by decide) k_0 (fun _ h9 => h9) rfl dX8_workOfSet_6 ?_
      refine lv_icmp_ge (tgt := 32) hx hb dX8_workOfSet_9 (by decide) (fun c9 => ?_) (fun c9 => ?_)
      · replace h := ifp h c9
        exact JE4 _ _ _ _ _ h hP hD hS (lv_sub hl [0, 1, 2, 3] rfl)
      · replace h := ifn h c9
        refine lv_iload_n hx hb dX8_workOfSet_12 rfl (lv_at hl 1 rfl) ?_
        refine lv_iload_n hx hb dX8_workOfSet_13 rfl (lv_at hl 3 rfl) ?_
        refine lv_iload_n hx hb dX8_workOfSet_14 rfl (lv_at hl 0 rfl) ?_
        refine lv_ishr hx hb dX8_workOfSet_15 ?_
        refine lv_iconst (v := 1) hx hb dX8_workOfSet_16 (by decide) ?_
        refine lv_iand hx hb dX8_workOfSet_17 ?_
        refine lv_aload_n hx hb dX8_workOfSet_18 rfl (lv_at hl 2 rfl) ?_
        refine lv_iload_n hx hb dX8_workOfSet_19 rfl (lv_at hl 0 rfl) ?_
        obtain ⟨x20, h20, h⟩ := bi1e h
        refine callVI (b := ad 0) (As := [.int (z4_0)]) (rest := [.int (((a1 >>> (z4_0 &&& 31)) &&& 1)), .int (z4_1)]) ⟨hx, hb, hml, hown, hts⟩ (c_X8_left l D ad cA n F G z4_0 h20) (cwV 1 hts gX8_workOfSet_X8_left rfl rfl rfl (by decide +kernel) ⟨Nat.le_of_ble_eq_true rfl, Nat.le_of_ble_eq_true rfl⟩) (va_recv hK hP (ci := 8) (q0 := 0) rfl wMg0) hP hK hD hN hS hA rfl hl.1 rfl (Nat.le_of_ble_eq_true rfl) dX8_workOfSet_20 ⟨Nat.zero_le _, Nat.zero_le _⟩ (fun H locs hP hD hS => ?_)
        refine lv_imul hx hb dX8_workOfSet_23 ?_
        refine lv_iadd hx hb dX8_workOfSet_24 ?_
        refine lv_topi (fun x25 ex25 => ?_)
        replace h := pl h ex25
        refine lv_istore_n (lv' := [(2, .int (x25)), (3, .int (z4_0)), (0, .ref (ad 0)), (1, .int (a1))]) hx hb dX8_workOfSet_25 rfl hl (by decide) rfl (fun ls hl => ?_)
        obtain ⟨x26, ex26⟩ : ∃ z : Int32, z = (z4_0 + 1) := ⟨_, rfl⟩
        replace h := pl h ex26
        refine lv_iinc (v := x26) (lv' := [(3, .int (x26)), (2, .int (x25)), (0, .ref (ad 0)), (1, .int (a1))]) hx hb dX8_workOfSet_26 hl (k := 1) rfl (by rw [ex26]; rfl) (by decide) rfl (fun ls hl => ?_)
        refine lv_goto (tgt := 4) hx hb dX8_workOfSet_29 (by decide) ?_
        exact ih4 _ _ _ _ _ h hP hD hS (lv_sub hl [0, 1, 2, 3] rfl)
  exact LL4 n 0 0 _ _ _ h hP hD hS (lv_sub hl [0, 1, 2, 3] rfl)

def p_X8_layBest_L118 (n : Nat) (z100_0 : Int32) (z100_1 : Int32) (K118 : Int32 → Int32 → Int32 → tF → tG → Option (tF × tG)) : Nat → Int32 → Int32 → Int32 → tF → tG → Option (tF × tG)
  | 0, _, _, _, _, _ => none
  | k118 + 1, z118_0, z118_1, z118_2, F118l, G118l => (if (F118l 15) ≤ z118_0 then K118 z118_0 z118_1 z118_2 F118l G118l else (if 0 ≤ z118_2 then K118 z118_0 z118_1 z118_2 F118l G118l else bi1 ((if (((F118l 21) >>> (z118_0 &&& 31)) &&& 1) = 1 then (if ((z100_1 >>> (z118_0 &&& 31)) &&& 1) = 0 then oguard (inB z118_0 12) ((if (((G118l 7 z118_0.toNatClampNeg) &&& ((F118l 16) ^^^ (-1))) &&& (z100_1 ^^^ (-1))) = 0 then some (1) else some (0))) else some (0)) else some (0))) (fun (y141_0 : Int32) => bi4 ((if y141_0 = 0 then some (z118_1, z118_2, F118l, G118l) else bi1 (p_X8_endWith n F118l G118l z100_0 z118_0) (fun x190 => bi2 (p_X8_layEnds n F118l G118l (z100_1 ||| (1 <<< (z118_0 &&& 31))) x190) (fun F204 G204 => bi1 ((if 100000 ≤ x190 then some ((-6)) else oguard (inB (F204 21) 4096) ((if 100000 ≤ (G204 16 (F204 21).toNatClampNeg) then some ((-6)) else some (z118_0))))) (fun (y211_0 : Int32) => some (x190, y211_0, F204, G204)))))) (fun (y183_0 : Int32) (y183_1 : Int32) (F183j : tF) (G183j : tG) => plet (z118_0 + 1) (fun (x236 : Int32) => p_X8_layBest_L118 n z100_0 z100_1 K118 k118 x236 y183_0 y183_1 F183j G183j)))))
theorem p_X8_layBest_L118_k {n : Nat} {z100_0 : Int32} {z100_1 : Int32} {K0 : Int32 → Int32 → Int32 → tF → tG → Option (tF × tG)} {k : Nat} {z118_0 : Int32} {z118_1 : Int32} {z118_2 : Int32} {F118l : tF} {G118l : tG} {x : tF × tG} (h : p_X8_layBest_L118 n z100_0 z100_1 K0 k z118_0 z118_1 z118_2 F118l G118l = some x) : ∃ K, K = K0 ∧ p_X8_layBest_L118 n z100_0 z100_1 K k z118_0 z118_1 z118_2 F118l G118l = some x := ⟨K0, rfl, h⟩
def p_X8_layBest_L100 (n : Nat) (K100 : Int32 → Int32 → tF → tG → Option (tF × tG)) : Nat → Int32 → Int32 → tF → tG → Option (tF × tG)
  | 0, _, _, _, _ => none
  | k100 + 1, z100_0, z100_1, F100l, G100l => (if z100_1 = (F100l 21) then K100 z100_0 z100_1 F100l G100l else p_X8_layBest_L118 n z100_0 z100_1 (fun (z118_0 : Int32) (z118_1 : Int32) (z118_2 : Int32) (F118l : tF) (G118l : tG) => oguard (inB (F118l 22) 12) (plet (stG G118l 17 (F118l 22) z118_2) (fun (G251 : tG) => oguard (inB (F118l 22) 12) (plet (stG G251 18 (F118l 22) (z118_1 / 1000)) (fun (G266 : tG) => plet (upd F118l 22 ((F118l 22) + 1)) (fun (F274 : tF) => plet (z100_1 ||| (1 <<< (z118_2 &&& 31))) (fun (x282 : Int32) => p_X8_layBest_L100 n K100 k100 z118_1 x282 F274 G266))))))) n 0 100000 (-6) F100l G100l)
theorem p_X8_layBest_L100_k {n : Nat} {K0 : Int32 → Int32 → tF → tG → Option (tF × tG)} {k : Nat} {z100_0 : Int32} {z100_1 : Int32} {F100l : tF} {G100l : tG} {x : tF × tG} (h : p_X8_layBest_L100 n K0 k z100_0 z100_1 F100l G100l = some x) : ∃ K, K = K0 ∧ p_X8_layBest_L100 n K k z100_0 z100_1 F100l G100l = some x := ⟨K0, rfl, h⟩
def p_X8_layBest_L13 (n : Nat) (G3 : tG) (K13 : Int32 → tF → Option (tF × tG)) : Nat → Int32 → tF → Option (tF × tG)
  | 0, _, _ => none
  | k13 + 1, z13_0, F13l => (if (1 <<< ((F13l 15) &&& 31)) ≤ z13_0 then K13 z13_0 F13l else oguard (inB z13_0 4096) (bi1 ((if 100000 ≤ (G3 16 z13_0.toNatClampNeg) then some (F13l) else bi1 (p_X8_hopeOf n F13l G3 z13_0) (fun x36 => bi1 (p_X8_hopeOf n F13l G3 (F13l 21)) (fun x44 => plet (x36 - x44) (fun (x48 : Int32) => bi1 ((if 0 < x48 then some (z13_0) else (if x48 = 0 then bi1 (p_X8_workOfSet n F13l G3 z13_0) (fun x60 => bi1 (p_X8_workOfSet n F13l G3 (F13l 21)) (fun x68 => (if x68 ≤ x60 then some ((F13l 21)) else some (z13_0)))) else some ((F13l 21))))) (fun (y51_0 : Int32) => plet (upd F13l 21 y51_0) (fun (F82 : tF) => some (F82)))))))) (fun (F31j : tF) => plet (z13_0 + 1) (fun (x85 : Int32) => p_X8_layBest_L13 n G3 K13 k13 x85 F31j))))
theorem p_X8_layBest_L13_k {n : Nat} {G3 : tG} {K0 : Int32 → tF → Option (tF × tG)} {k : Nat} {z13_0 : Int32} {F13l : tF} {x : tF × tG} (h : p_X8_layBest_L13 n G3 K0 k z13_0 F13l = some x) : ∃ K, K = K0 ∧ p_X8_layBest_L13 n G3 K k z13_0 F13l = some x := ⟨K0, rfl, h⟩
def p_X8_layBest (n : Nat) (F : tF) (G : tG) : Option (tF × tG) :=
  bi2 (p_X8_layEnds n F G 0 0) (fun F3 G3 => plet (upd F3 21 0) (fun (F8 : tF) => p_X8_layBest_L13 n G3 (fun (z13_0 : Int32) (F13l : tF) => plet (upd F13l 22 0) (fun (F93 : tF) => p_X8_layBest_L100 n (fun (z100_0 : Int32) (z100_1 : Int32) (F100l : tF) (G100l : tG) => some (F100l, G100l)) n 0 0 F93 G3)) n 1 F8))
set_option maxHeartbeats 4000000 in
set_option maxRecDepth 100000 in
theorem c_X8_layBest (l : Launch) (D : va_G) (ad : Nat → Nat) (cA : ClassId) (n : Nat) (F : tF) (G : tG) {F' : tF} {G' : tG} (h : p_X8_layBest n F G = some (F', G')) : CV l yX8_layBest wsX8_layBest ({ frames := 3, cells := 0, slots := 0, locals := 72 } : Room) D cA (wM ad cA F G) [.ref (ad 0)] (wM ad cA F' G') := by
  rw [p_X8_layBest] at h
  refine metVm (w := wM ad cA) (cc := cX8_layBest) (maxL := 7) (by decide) rfl (Nat.le_of_ble_eq_true rfl) ?_
  intro p e s m args below meth c A ls Q hE hret
  obtain ⟨hx, hb, hts, hown, hml, hP, hK, hD, hN, hA, hl⟩ := hE
  have hown : s.vm.findClass RX8 = some m.cls := hown
  have hl : lv_has ls 7 [(0, .ref (ad 0))] := hl
  have hS : va_S A s.heap s.heap [] := va_S.rf
  have k_0 : (Cond.fieldLink RX8 196 "BellBookModel" "bestSet" "I").before args s = true := hts _ (List.mem_of_getElem? (i := 1) rfl)
  have n_8 : ∀ w ∈ u_ws RX8 TX8 46, w ∈ wsX8_layBest := fun w hw => List.mem_cons_of_mem _ (List.mem_append_right _ hw)
  have k_2 : (Cond.fieldLink RX8 173 "BellBookModel" "things" "I").before args s = true := hts _ (List.mem_of_getElem? (i := 2) rfl)
  have k_3 : (Cond.fieldLink RX8 80 "BellBookModel" "end" "[I").before args s = true := hts _ (List.mem_of_getElem? (i := 3) rfl)
  have k_4 : (Cond.constant RX8 154 (100000)).before args s = true := hts _ (List.mem_of_getElem? (i := 4) rfl)
  have k_5 : (Cond.fieldLink RX8 205 "BellBookModel" "many" "I").before args s = true := hts _ (List.mem_of_getElem? (i := 5) rfl)
  have k_6 : (Cond.fieldLink RX8 53 "BellBookModel" "under" "[I").before args s = true := hts _ (List.mem_of_getElem? (i := 6) rfl)
  have k_7 : (Cond.fieldLink RX8 138 "BellBookModel" "raised" "I").before args s = true := hts _ (List.mem_of_getElem? (i := 7) rfl)
  have k_8 : (Cond.fieldLink RX8 83 "BellBookModel" "order" "[I").before args s = true := hts _ (List.mem_of_getElem? (i := 8) rfl)
  have k_9 : (Cond.fieldLink RX8 86 "BellBookModel" "inTide" "[I").before args s = true := hts _ (List.mem_of_getElem? (i := 9) rfl)
  refine lv_aload_n hx hb dX8_layBest_0 rfl (lv_at hl 0 rfl) ?_
  refine lv_iconst (v := 0) hx hb dX8_layBest_1 (by decide) ?_
  refine lv_iconst (v := 0) hx hb dX8_layBest_2 (by decide) ?_
  obtain ⟨F3, G3, h3, h⟩ := bi2e h
  refine callVV (b := ad 0) (As := [.int (0), .int (0)]) (rest := []) ⟨hx, hb, hml, hown, hts⟩ (c_X8_layEnds l D ad cA n F G 0 0 h3) (cwV 2 hts gX8_layBest_X8_layEnds rfl rfl rfl (by decide +kernel) ⟨Nat.le_of_ble_eq_true rfl, Nat.le_of_ble_eq_true rfl⟩) (va_recv hK hP (ci := 8) (q0 := 0) rfl wMg0) hP hK hD hN hS hA rfl hl.1 rfl (Nat.le_of_ble_eq_true rfl) dX8_layBest_3 ⟨Nat.zero_le _, Nat.zero_le _⟩ (fun H locs hP hD hS => ?_)
  refine lv_aload_n hx hb dX8_layBest_6 rfl (lv_at hl 0 rfl) ?_
  refine lv_iconst (v := 0) hx hb dX8_layBest_7 (by decide) ?_
  obtain ⟨F8, eF8⟩ : ∃ f : tF, f = upd F3 21 0 := ⟨_, rfl⟩
  replace h := pl h eF8
  refine va_put (D := D) (ci := 8) (fs := vX8 ad F3) (v := .int (0)) (ty := .int) (C := RX8) (T := TX8) (N := 46) hx hb hts n_8 tyX8 tyX8_ok nmX8 hown hK hP hD hS 0 wMg0 rfl 38 (by decide) k_0 (fun _ h9 => h9) rfl (tyX8_ok 38 (by decide)) rfl rfl (Nat.le_of_ble_eq_true rfl) dX8_layBest_8 (fun H locs hP hD hS => ?_)
  rw [wMp21 eF8] at hP hD
  refine lv_iconst (v := 1) hx hb dX8_layBest_11 (by decide) ?_
  refine lv_istore_n (lv' := [(1, .int (1)), (0, .ref (ad 0))]) hx hb dX8_layBest_12 rfl hl (by decide) rfl (fun ls hl => ?_)
  obtain ⟨K13, eK13, h⟩ := p_X8_layBest_L13_k h
  have JE13 : ∀ (z13_0 : Int32) (F13l : tF) (H : Heap) (locs : List Loc) (ls : Array Slot), K13 z13_0 F13l = some (F', G') → va_P D vwCl (wM ad cA F13l G3) H → va_D A (wM ad cA F13l G3) → va_S A s.heap H locs → lv_has ls 7 [(1, .int (z13_0)), (0, .ref (ad 0))] → W p l e ({ frames := 3, cells := 0, slots := 0, locals := 72 } : Room) s m args below meth c H locs 0 0 Q (F0 m 91 ls []) := by
    intro z13_0 F13l H locs ls h hP hD hS hl
    rw [eK13] at h
    refine lv_aload_n hx hb dX8_layBest_91 rfl (lv_at hl 1 rfl) ?_
    refine lv_iconst (v := 0) hx hb dX8_layBest_92 (by decide) ?_
    obtain ⟨F93, eF93⟩ : ∃ f : tF, f = upd F13l 22 0 := ⟨_, rfl⟩
    replace h := pl h eF93
    refine va_put (D := D) (ci := 8) (fs := vX8 ad F13l) (v := .int (0)) (ty := .int) (C := RX8) (T := TX8) (N := 46) hx hb hts n_8 tyX8 tyX8_ok nmX8 hown hK hP hD hS 0 wMg0 rfl 39 (by decide) k_5 (fun _ h9 => h9) rfl (tyX8_ok 39 (by decide)) rfl rfl (Nat.le_of_ble_eq_true rfl) dX8_layBest_93 (fun H locs hP hD hS => ?_)
    rw [wMp22 eF93] at hP hD
    refine lv_iconst (v := 0) hx hb dX8_layBest_96 (by decide) ?_
    refine lv_istore_n (lv' := [(1, .int (0)), (0, .ref (ad 0))]) hx hb dX8_layBest_97 rfl hl (by decide) rfl (fun ls hl => ?_)
    refine lv_iconst (v := 0) hx hb dX8_layBest_98 (by decide) ?_
    refine lv_istore_n (lv' := [(2, .int (0)), (1, .int (0)), (0, .ref (ad 0))]) hx hb dX8_layBest_99 rfl hl (by decide) rfl (fun ls hl => ?_)
    obtain ⟨K100, eK100, h⟩ := p_X8_layBest_L100_k h
    have JE100 : ∀ (z100_0 : Int32) (z100_1 : Int32) (F100l : tF) (G100l : tG) (H : Heap) (locs : List Loc) (ls : Array Slot), K100 z100_0 z100_1 F100l G100l = some (F', G') → va_P D vwCl (wM ad cA F100l G100l) H → va_D A (wM ad cA F100l G100l) → va_S A s.heap H locs → lv_has ls 7 [(2, .int (z100_0)), (1, .int (z100_1)), (0, .ref (ad 0))] → W p l e ({ frames := 3, cells := 0, slots := 0, locals := 72 } : Room) s m args below meth c H locs 0 0 Q (F0 m 289 ls []) := by
      intro z100_0 z100_1 F100l G100l H locs ls h hP hD hS hl
      rw [eK100] at h
      exact hret _ _ _ _ _ _ dX8_layBest_289 h hP hD hS
    have LL100 : ∀ (k : Nat) (z100_0 : Int32) (z100_1 : Int32) (F100l : tF) (G100l : tG) (H : Heap) (locs : List Loc) (ls : Array Slot), p_X8_layBest_L100 n K100 k z100_0 z100_1 F100l G100l = some (F', G') → va_P D vwCl (wM ad cA F100l G100l) H → va_D A (wM ad cA F100l G100l) → va_S A s.heap H locs → lv_has ls 7 [(2, .int (z100_0)), (1, .int (z100_1)), (0, .ref (ad 0))] → W p l e ({ frames := 3, cells := 0, slots := 0, locals := 72 } : Room) s m args below meth c H locs 0 0 Q (F0 m 100 ls []) := by
      intro k
      induction k with
      | zero =>
        intro z100_0 z100_1 F100l G100l H locs ls h hP hD hS hl
        rw [p_X8_layBest_L100] at h
        cases h
      | succ k100 ih100 =>
        intro z100_0 z100_1 F100l G100l H locs ls h hP hD hS hl
        rw [p_X8_layBest_L100] at h
        refine lv_iload_n hx hb dX8_layBest_100 rfl (lv_at hl 1 rfl) ?_
        refine lv_aload_n hx hb dX8_layBest_101 rfl (lv_at hl 2 rfl) ?_
        refine va_get (D := D) (ci := 8) (fs := vX8 ad F100l) (v := .int ((F100l 21))) (C := RX8) (T := TX8) (N := 46) hx hb hts n_8 hown hK hP 0 wMg0 rfl 38 (by decide) k_0 (fun _ h9 => h9) rfl dX8_layBest_102 ?_
        refine lv_icmp_eq (tgt := 289) hx hb dX8_layBest_105 (by decide) (fun c105 => ?_) (fun c105 => ?_)
        · replace h := ifp h c105
          exact JE100 _ _ _ _ _ _ _ h hP hD hS (lv_sub hl [0, 1, 2] rfl)
        · replace h := ifn h c105
          refine lv_bipush (v := (-6)) hx hb dX8_layBest_108 (by decide) ?_
          refine lv_istore_n (lv' := [(3, .int ((-6))), (2, .int (z100_0)), (1, .int (z100_1)), (0, .ref (ad 0))]) hx hb dX8_layBest_110 rfl hl (by decide) rfl (fun ls hl => ?_)
          refine lv_ldc (v := 100000) hx hb hown k_4 dX8_layBest_111 ?_
          refine lv_istore (lv' := [(4, .int (100000)), (3, .int ((-6))), (2, .int (z100_0)), (1, .int (z100_1)), (0, .ref (ad 0))]) hx hb dX8_layBest_113 hl (by decide) rfl (fun ls hl => ?_)
          refine lv_iconst (v := 0) hx hb dX8_layBest_115 (by decide) ?_
          refine lv_istore (lv' := [(5, .int (0)), (4, .int (100000)), (3, .int ((-6))), (2, .int (z100_0)), (1, .int (z100_1)), (0, .ref (ad 0))]) hx hb dX8_layBest_116 hl (by decide) rfl (fun ls hl => ?_)
          obtain ⟨K118, eK118, h⟩ := p_X8_layBest_L118_k h
          have JE118 : ∀ (z118_0 : Int32) (z118_1 : Int32) (z118_2 : Int32) (F118l : tF) (G118l : tG) (H : Heap) (locs : List Loc) (ls : Array Slot), K118 z118_0 z118_1 z118_2 F118l G118l = some (F', G') → va_P D vwCl (wM ad cA F118l G118l) H → va_D A (wM ad cA F118l G118l) → va_S A s.heap H locs → lv_has ls 7 [(5, .int (z118_0)), (4, .int (z118_1)), (3, .int (z118_2)), (2, .int (z100_0)), (1, .int (z100_1)), (0, .ref (ad 0))] → W p l e ({ frames := 3, cells := 0, slots := 0, locals := 72 } : Room) s m args below meth c H locs 0 0 Q (F0 m 242 ls []) := by
            intro z118_0 z118_1 z118_2 F118l G118l H locs ls h hP hD hS hl
            rw [eK118] at h
            refine lv_aload_n hx hb dX8_layBest_242 rfl (lv_at hl 5 rfl) ?_
            refine va_get (D := D) (ci := 8) (fs := vX8 ad F118l) (v := .ref (ad 18)) (C := RX8) (T := TX8) (N := 46) hx hb hts n_8 hown hK hP 0 wMg0 rfl 40 (by decide) k_8 (fun _ h9 => h9) rfl dX8_layBest_243 ?_
            refine lv_aload_n hx hb dX8_layBest_246 rfl (lv_at hl 5 rfl) ?_
            refine va_get (D := D) (ci := 8) (fs := vX8 ad F118l) (v := .int ((F118l 22))) (C := RX8) (T := TX8) (N := 46) hx hb hts n_8 hown hK hP 0 wMg0 rfl 39 (by decide) k_5 (fun _ h9 => h9) rfl dX8_layBest_247 ?_
            refine lv_iload_n hx hb dX8_layBest_250 rfl (lv_at hl 2 rfl) ?_
            obtain ⟨g251, h⟩ := og h
            obtain ⟨G251, eG251⟩ : ∃ z : tG, z = stG G118l 17 (F118l 22) z118_2 := ⟨_, rfl⟩
            replace h := pl h eG251
            refine va_iast (D := D) hx hb hK hP hD hS 18 0 wMg18 rfl (inB_in g251) dX8_layBest_251 (fun H locs hP hD hS => ?_)
            rw [wMa17 eG251] at hP hD
            refine lv_aload_n hx hb dX8_layBest_252 rfl (lv_at hl 5 rfl) ?_
            refine va_get (D := D) (ci := 8) (fs := vX8 ad F118l) (v := .ref (ad 19)) (C := RX8) (T := TX8) (N := 46) hx hb hts n_8 hown hK hP 0 wMg0 rfl 41 (by decide) k_9 (fun _ h9 => h9) rfl dX8_layBest_253 ?_
            refine lv_aload_n hx hb dX8_layBest_256 rfl (lv_at hl 5 rfl) ?_
            refine va_get (D := D) (ci := 8) (fs := vX8 ad F118l) (v := .int ((F118l 22))) (C := RX8) (T := TX8) (N := 46) hx hb hts n_8 hown hK hP 0 wMg0 rfl 39 (by decide) k_5 (fun _ h9 => h9) rfl dX8_layBest_257 ?_
            refine lv_iload hx hb dX8_layBest_260 (lv_at hl 1 rfl) ?_
            refine lv_sipush (v := 1000) hx hb dX8_layBest_262 (by decide) ?_
            refine lv_idiv hx hb dX8_layBest_265 (by decide) ?_
            obtain ⟨g266, h⟩ := og h
            obtain ⟨G266, eG266⟩ : ∃ z : tG, z = stG G251 18 (F118l 22) (z118_1 / 1000) := ⟨_, rfl⟩
            replace h := pl h eG266
            refine va_iast (D := D) hx hb hK hP hD hS 19 0 wMg19 rfl (inB_in g266) dX8_layBest_266 (fun H locs hP hD hS => ?_)
            rw [wMa18 eG266] at hP hD
            refine lv_aload_n hx hb dX8_layBest_267 rfl (lv_at hl 5 rfl) ?_
            refine lv_dup hx hb dX8_layBest_268 rfl ?_
            refine va_get (D := D) (ci := 8) (fs := vX8 ad F118l) (v := .int ((F118l 22))) (C := RX8) (T := TX8) (N := 46) hx hb hts n_8 hown hK hP 0 wMg0 rfl 39 (by decide) k_5 (fun _ h9 => h9) rfl dX8_layBest_269 ?_
            refine lv_iconst (v := 1) hx hb dX8_layBest_272 (by decide) ?_
            refine lv_iadd hx hb dX8_layBest_273 ?_
            obtain ⟨F274, eF274⟩ : ∃ f : tF, f = upd F118l 22 ((F118l 22) + 1) := ⟨_, rfl⟩
            replace h := pl h eF274
            refine va_put (D := D) (ci := 8) (fs := vX8 ad F118l) (v := .int (((F118l 22) + 1))) (ty := .int) (C := RX8) (T := TX8) (N := 46) hx hb hts n_8 tyX8 tyX8_ok nmX8 hown hK hP hD hS 0 wMg0 rfl 39 (by decide) k_5 (fun _ h9 => h9) rfl (tyX8_ok 39 (by decide)) rfl rfl (Nat.le_of_ble_eq_true rfl) dX8_layBest_274 (fun H locs hP hD hS => ?_)
            rw [wMp22 eF274] at hP hD
            refine lv_iload_n hx hb dX8_layBest_277 rfl (lv_at hl 4 rfl) ?_
            refine lv_iconst (v := 1) hx hb dX8_layBest_278 (by decide) ?_
            refine lv_iload_n hx hb dX8_layBest_279 rfl (lv_at hl 2 rfl) ?_
            refine lv_ishl hx hb dX8_layBest_280 ?_
            refine lv_ior hx hb dX8_layBest_281 ?_
            refine lv_topi (fun x282 ex282 => ?_)
            replace h := pl h ex282
            refine lv_istore_n (lv' := [(1, .int (x282)), (5, .int (z118_0)), (4, .int (z118_1)), (3, .int (z118_2)), (2, .int (z100_0)), (0, .ref (ad 0))]) hx hb dX8_layBest_282 rfl hl (by decide) rfl (fun ls hl => ?_)
            refine lv_iload hx hb dX8_layBest_283 (lv_at hl 2 rfl) ?_
            refine lv_istore_n (lv' := [(2, .int (z118_1)), (1, .int (x282)), (5, .int (z118_0)), (4, .int (z118_1)), (3, .int (z118_2)), (0, .ref (ad 0))]) hx hb dX8_layBest_285 rfl hl (by decide) rfl (fun ls hl => ?_)
            refine lv_goto (tgt := 100) hx hb dX8_layBest_286 (by decide) ?_
            exact ih100 _ _ _ _ _ _ _ h hP hD hS (lv_sub hl [0, 1, 5] rfl)
          have LL118 : ∀ (k : Nat) (z118_0 : Int32) (z118_1 : Int32) (z118_2 : Int32) (F118l : tF) (G118l : tG) (H : Heap) (locs : List Loc) (ls : Array Slot), p_X8_layBest_L118 n z100_0 z100_1 K118 k z118_0 z118_1 z118_2 F118l G118l = some (F', G') → va_P D vwCl (wM ad cA F118l G118l) H → va_D A (wM ad cA F118l G118l) → va_S A s.heap H locs → lv_has ls 7 [(5, .int (z118_0)), (4, .int (z118_1)), (3, .int (z118_2)), (2, .int (z100_0)), (1, .int (z100_1)), (0, .ref (ad 0))] → W p l e ({ frames := 3, cells := 0, slots := 0, locals := 72 } : Room) s m args below meth c H locs 0 0 Q (F0 m 118 ls []) := by
            intro k
            induction k with
            | zero =>
              intro z118_0 z118_1 z118_2 F118l G118l H locs ls h hP hD hS hl
              rw [p_X8_layBest_L118] at h
              cases h
            | succ k118 ih118 =>
              intro z118_0 z118_1 z118_2 F118l G118l H locs ls h hP hD hS hl
              rw [p_X8_layBest_L118] at h
              refine lv_iload hx hb dX8_layBest_118 (lv_at hl 0 rfl) ?_
              refine lv_aload_n hx hb dX8_layBest_120 rfl (lv_at hl 5 rfl) ?_
              refine va_get (D := D) (ci := 8) (fs := vX8 ad F118l) (v := .int ((F118l 15))) (C := RX8) (T := TX8) (N := 46) hx hb hts n_8 hown hK hP 0 wMg0 rfl 21 (by decide) k_2 (fun _ h9 => h9) rfl dX8_layBest_121 ?_
              refine lv_icmp_ge (tgt := 242) hx hb dX8_layBest_124 (by decide) (fun c124 => ?_) (fun c124 => ?_)
              · replace h := ifp h c124
                exact JE118 _ _ _ _ _ _ _ _ h hP hD hS (lv_sub hl [0, 1, 2, 3, 4, 5] rfl)
              · replace h := ifn h c124
                refine lv_iload_n hx hb dX8_layBest_127 rfl (lv_at hl 2 rfl) ?_
                refine lv_if_ge (tgt := 242) hx hb dX8_layBest_128 (by decide) (fun c128 => ?_) (fun c128 => ?_)
                · replace h := ifp h c128
                  exact JE118 _ _ _ _ _ _ _ _ h hP hD hS (lv_sub hl [0, 1, 2, 3, 4, 5] rfl)
                · replace h := ifn h c128
                  refine lv_aload_n hx hb dX8_layBest_131 rfl (lv_at hl 5 rfl) ?_
                  refine va_get (D := D) (ci := 8) (fs := vX8 ad F118l) (v := .int ((F118l 21))) (C := RX8) (T := TX8) (N := 46) hx hb hts n_8 hown hK hP 0 wMg0 rfl 38 (by decide) k_0 (fun _ h9 => h9) rfl dX8_layBest_132 ?_
                  refine lv_iload hx hb dX8_layBest_135 (lv_at hl 0 rfl) ?_
                  refine lv_ishr hx hb dX8_layBest_137 ?_
                  refine lv_iconst (v := 1) hx hb dX8_layBest_138 (by decide) ?_
                  refine lv_iand hx hb dX8_layBest_139 ?_
                  refine lv_iconst (v := 1) hx hb dX8_layBest_140 (by decide) ?_
                  obtain ⟨y141_0, q141, h⟩ := bi1e h
                  have J141 : ∀ (wy141_0 : Int32), some (wy141_0) = some (y141_0) → ∀ (H : Heap) (locs : List Loc) (ls : Array Slot), va_P D vwCl (wM ad cA F118l G118l) H → va_D A (wM ad cA F118l G118l) → va_S A s.heap H locs → lv_has ls 7 [(5, .int (z118_0)), (4, .int (z118_1)), (3, .int (z118_2)), (2, .int (z100_0)), (1, .int (z100_1)), (0, .ref (ad 0))] → W p l e ({ frames := 3, cells := 0, slots := 0, locals := 72 } : Room) s m args below meth c H locs 0 0 Q (F0 m 179 ls [.int (wy141_0)]) := by
                    intro wy141_0 e9 H locs ls hP hD hS hl
                    cases e9
                    refine lv_istore (lv' := [(6, .int (y141_0)), (5, .int (z118_0)), (4, .int (z118_1)), (3, .int (z118_2)), (2, .int (z100_0)), (1, .int (z100_1)), (0, .ref (ad 0))]) hx hb dX8_layBest_179 hl (by decide) rfl (fun ls hl => ?_)
                    refine lv_iload hx hb dX8_layBest_181 (lv_at hl 0 rfl) ?_
                    obtain ⟨y183_0, y183_1, F183j, G183j, q183, h⟩ := bi4e h
                    have J183 : ∀ (wy183_0 : Int32) (wy183_1 : Int32) (wF183j : tF) (wG183j : tG), some (wy183_0, wy183_1, wF183j, wG183j) = some (y183_0, y183_1, F183j, G183j) → ∀ (H : Heap) (locs : List Loc) (ls : Array Slot), va_P D vwCl (wM ad cA wF183j wG183j) H → va_D A (wM ad cA wF183j wG183j) → va_S A s.heap H locs → lv_has ls 7 [(6, .int (y141_0)), (5, .int (z118_0)), (4, .int (wy183_0)), (3, .int (wy183_1)), (2, .int (z100_0)), (1, .int (z100_1)), (0, .ref (ad 0))] → W p l e ({ frames := 3, cells := 0, slots := 0, locals := 72 } : Room) s m args below meth c H locs 0 0 Q (F0 m 236 ls []) := by
                      intro wy183_0 wy183_1 wF183j wG183j e9 H locs ls hP hD hS hl
                      cases e9
                      obtain ⟨x236, ex236⟩ : ∃ z : Int32, z = (z118_0 + 1) := ⟨_, rfl⟩
                      replace h := pl h ex236
                      refine lv_iinc (v := x236) (lv' := [(5, .int (x236)), (6, .int (y141_0)), (4, .int (y183_0)), (3, .int (y183_1)), (2, .int (z100_0)), (1, .int (z100_1)), (0, .ref (ad 0))]) hx hb dX8_layBest_236 hl (k := 1) rfl (by rw [ex236]; rfl) (by decide) rfl (fun ls hl => ?_)
                      refine lv_goto (tgt := 118) hx hb dX8_layBest_239 (by decide) ?_
                      exact ih118 _ _ _ _ _ _ _ _ h hP hD hS (lv_sub hl [0, 2, 3, 4, 5, 6] rfl)
                    refine lv_if_eq (tgt := 236) hx hb dX8_layBest_183 (by decide) (fun c183 => ?_) (fun c183 => ?_)
                    · replace q183 := ifp q183 c183
                      exact J183 _ _ _ _ q183 _ _ _ hP hD hS (lv_sub hl [0, 1, 2, 3, 4, 5, 6] rfl)
                    · replace q183 := ifn q183 c183
                      refine lv_aload_n hx hb dX8_layBest_186 rfl (lv_at hl 6 rfl) ?_
                      refine lv_iload_n hx hb dX8_layBest_187 rfl (lv_at hl 4 rfl) ?_
                      refine lv_iload hx hb dX8_layBest_188 (lv_at hl 1 rfl) ?_
                      obtain ⟨x190, h190, q183⟩ := bi1e q183
                      refine callVI (b := ad 0) (As := [.int (z100_0), .int (z118_0)]) (rest := []) ⟨hx, hb, hml, hown, hts⟩ (c_X8_endWith l D ad cA n F118l G118l z100_0 z118_0 h190) (cwV 2 hts gX8_layBest_X8_endWith rfl rfl rfl (by decide +kernel) ⟨Nat.le_of_ble_eq_true rfl, Nat.le_of_ble_eq_true rfl⟩) (va_recv hK hP (ci := 8) (q0 := 0) rfl wMg0) hP hK hD hN hS hA rfl hl.1 rfl (Nat.le_of_ble_eq_true rfl) dX8_layBest_190 ⟨Nat.zero_le _, Nat.zero_le _⟩ (fun H locs hP hD hS => ?_)
                      refine lv_istore (lv' := [(4, .int (x190)), (6, .int (y141_0)), (5, .int (z118_0)), (3, .int (z118_2)), (2, .int (z100_0)), (1, .int (z100_1)), (0, .ref (ad 0))]) hx hb dX8_layBest_193 hl (by decide) rfl (fun ls hl => ?_)
                      refine lv_aload_n hx hb dX8_layBest_195 rfl (lv_at hl 6 rfl) ?_
                      refine lv_iload_n hx hb dX8_layBest_196 rfl (lv_at hl 5 rfl) ?_
                      refine lv_iconst (v := 1) hx hb dX8_layBest_197 (by decide) ?_
                      refine lv_iload hx hb dX8_layBest_198 (lv_at hl 2 rfl) ?_
                      refine lv_ishl hx hb dX8_layBest_200 ?_
                      refine lv_ior hx hb dX8_layBest_201 ?_
                      refine lv_iload hx hb dX8_layBest_202 (lv_at hl 0 rfl) ?_
                      obtain ⟨F204, G204, h204, q183⟩ := bi2e q183
                      refine callVV (b := ad 0) (As := [.int ((z100_1 ||| (1 <<< (z118_0 &&& 31)))), .int (x190)]) (rest := []) ⟨hx, hb, hml, hown, hts⟩ (c_X8_layEnds l D ad cA n F118l G118l (z100_1 ||| (1 <<< (z118_0 &&& 31))) x190 h204) (cwV 2 hts gX8_layBest_X8_layEnds rfl rfl rfl (by decide +kernel) ⟨Nat.le_of_ble_eq_true rfl, Nat.le_of_ble_eq_true rfl⟩) (va_recv hK hP (ci := 8) (q0 := 0) rfl wMg0) hP hK hD hN hS hA rfl hl.1 rfl (Nat.le_of_ble_eq_true rfl) dX8_layBest_204 ⟨Nat.zero_le _, Nat.zero_le _⟩ (fun H locs hP hD hS => ?_)
                      refine lv_iload hx hb dX8_layBest_207 (lv_at hl 0 rfl) ?_
                      refine lv_ldc (v := 100000) hx hb hown k_4 dX8_layBest_209 ?_
                      obtain ⟨y211_0, q211, q183⟩ := bi1e q183
                      have J211 : ∀ (wy211_0 : Int32), some (wy211_0) = some (y211_0) → ∀ (H : Heap) (locs : List Loc) (ls : Array Slot), va_P D vwCl (wM ad cA F204 G204) H → va_D A (wM ad cA F204 G204) → va_S A s.heap H locs → lv_has ls 7 [(4, .int (x190)), (6, .int (y141_0)), (5, .int (z118_0)), (3, .int (z118_2)), (2, .int (z100_0)), (1, .int (z100_1)), (0, .ref (ad 0))] → W p l e ({ frames := 3, cells := 0, slots := 0, locals := 72 } : Room) s m args below meth c H locs 0 0 Q (F0 m 235 ls [.int (wy211_0)]) := by
                        intro wy211_0 e9 H locs ls hP hD hS hl
                        cases e9
                        refine lv_istore_n (lv' := [(3, .int (y211_0)), (4, .int (x190)), (6, .int (y141_0)), (5, .int (z118_0)), (2, .int (z100_0)), (1, .int (z100_1)), (0, .ref (ad 0))]) hx hb dX8_layBest_235 rfl hl (by decide) rfl (fun ls hl => ?_)
                        exact J183 _ _ _ _ q183 _ _ _ hP hD hS (lv_sub hl [2, 3, 1, 0, 4, 5, 6] rfl)
                      refine lv_icmp_ge (tgt := 233) hx hb dX8_layBest_211 (by decide) (fun c211 => ?_) (fun c211 => ?_)
                      · replace q211 := ifp q211 c211
                        refine lv_bipush (v := (-6)) hx hb dX8_layBest_233 (by decide) ?_
                        exact J211 _ q211 _ _ _ hP hD hS (lv_sub hl [0, 1, 2, 3, 4, 5, 6] rfl)
                      · replace q211 := ifn q211 c211
                        refine lv_aload_n hx hb dX8_layBest_214 rfl (lv_at hl 6 rfl) ?_
                        refine va_get (D := D) (ci := 8) (fs := vX8 ad F204) (v := .ref (ad 17)) (C := RX8) (T := TX8) (N := 46) hx hb hts n_8 hown hK hP 0 wMg0 rfl 37 (by decide) k_3 (fun _ h9 => h9) rfl dX8_layBest_215 ?_
                        refine lv_aload_n hx hb dX8_layBest_218 rfl (lv_at hl 6 rfl) ?_
                        refine va_get (D := D) (ci := 8) (fs := vX8 ad F204) (v := .int ((F204 21))) (C := RX8) (T := TX8) (N := 46) hx hb hts n_8 hown hK hP 0 wMg0 rfl 38 (by decide) k_0 (fun _ h9 => h9) rfl dX8_layBest_219 ?_
                        obtain ⟨g222, q211⟩ := og q211
                        refine va_iald (D := D) hx hb hK hP 17 0 wMg17 rfl (inB_in g222) dX8_layBest_222 ?_
                        refine lv_ldc (v := 100000) hx hb hown k_4 dX8_layBest_223 ?_
                        refine lv_icmp_ge (tgt := 233) hx hb dX8_layBest_225 (by decide) (fun c225 => ?_) (fun c225 => ?_)
                        · replace q211 := ifp q211 c225
                          refine lv_bipush (v := (-6)) hx hb dX8_layBest_233 (by decide) ?_
                          exact J211 _ q211 _ _ _ hP hD hS (lv_sub hl [0, 1, 2, 3, 4, 5, 6] rfl)
                        · replace q211 := ifn q211 c225
                          refine lv_iload hx hb dX8_layBest_228 (lv_at hl 2 rfl) ?_
                          refine lv_goto (tgt := 235) hx hb dX8_layBest_230 (by decide) ?_
                          exact J211 _ q211 _ _ _ hP hD hS (lv_sub hl [0, 1, 2, 3, 4, 5, 6] rfl)
                  refine lv_icmp_ne (tgt := 178) hx hb dX8_layBest_141 (by decide) (fun c141 => ?_) (fun c141 => ?_)
                  · replace q141 := ifn q141 c141
                    refine lv_iconst (v := 0) hx hb dX8_layBest_178 (by decide) ?_
                    exact J141 _ q141 _ _ _ hP hD hS (lv_sub hl [0, 1, 2, 3, 4, 5] rfl)
                  · replace q141 := ifp q141 c141
                    refine lv_iload_n hx hb dX8_layBest_144 rfl (lv_at hl 4 rfl) ?_
                    refine lv_iload hx hb dX8_layBest_145 (lv_at hl 0 rfl) ?_
                    refine lv_ishr hx hb dX8_layBest_147 ?_
                    refine lv_iconst (v := 1) hx hb dX8_layBest_148 (by decide) ?_
                    refine lv_iand hx hb dX8_layBest_149 ?_
                    refine lv_if_ne (tgt := 178) hx hb dX8_layBest_150 (by decide) (fun c150 => ?_) (fun c150 => ?_)
                    · replace q141 := ifn q141 c150
                      refine lv_iconst (v := 0) hx hb dX8_layBest_178 (by decide) ?_
                      exact J141 _ q141 _ _ _ hP hD hS (lv_sub hl [0, 1, 2, 3, 4, 5] rfl)
                    · replace q141 := ifp q141 c150
                      refine lv_aload_n hx hb dX8_layBest_153 rfl (lv_at hl 5 rfl) ?_
                      refine va_get (D := D) (ci := 8) (fs := vX8 ad F118l) (v := .ref (ad 8)) (C := RX8) (T := TX8) (N := 46) hx hb hts n_8 hown hK hP 0 wMg0 rfl 23 (by decide) k_6 (fun _ h9 => h9) rfl dX8_layBest_154 ?_
                      refine lv_iload hx hb dX8_layBest_157 (lv_at hl 0 rfl) ?_
                      obtain ⟨g159, q141⟩ := og q141
                      refine va_iald (D := D) hx hb hK hP 8 0 wMg8 rfl (inB_in g159) dX8_layBest_159 ?_
                      refine lv_aload_n hx hb dX8_layBest_160 rfl (lv_at hl 5 rfl) ?_
                      refine va_get (D := D) (ci := 8) (fs := vX8 ad F118l) (v := .int ((F118l 16))) (C := RX8) (T := TX8) (N := 46) hx hb hts n_8 hown hK hP 0 wMg0 rfl 24 (by decide) k_7 (fun _ h9 => h9) rfl dX8_layBest_161 ?_
                      refine lv_iconst (v := (-1)) hx hb dX8_layBest_164 (by decide) ?_
                      refine lv_ixor hx hb dX8_layBest_165 ?_
                      refine lv_iand hx hb dX8_layBest_166 ?_
                      refine lv_iload_n hx hb dX8_layBest_167 rfl (lv_at hl 4 rfl) ?_
                      refine lv_iconst (v := (-1)) hx hb dX8_layBest_168 (by decide) ?_
                      refine lv_ixor hx hb dX8_layBest_169 ?_
                      refine lv_iand hx hb dX8_layBest_170 ?_
                      refine lv_if_ne (tgt := 178) hx hb dX8_layBest_171 (by decide) (fun c171 => ?_) (fun c171 => ?_)
                      · replace q141 := ifn q141 c171
                        refine lv_iconst (v := 0) hx hb dX8_layBest_178 (by decide) ?_
                        exact J141 _ q141 _ _ _ hP hD hS (lv_sub hl [0, 1, 2, 3, 4, 5] rfl)
                      · replace q141 := ifp q141 c171
                        refine lv_iconst (v := 1) hx hb dX8_layBest_174 (by decide) ?_
                        refine lv_goto (tgt := 179) hx hb dX8_layBest_175 (by decide) ?_
                        exact J141 _ q141 _ _ _ hP hD hS (lv_sub hl [0, 1, 2, 3, 4, 5] rfl)
          exact LL118 n 0 100000 (-6) F100l G100l _ _ _ h hP hD hS (lv_sub hl [0, 1, 2, 3, 4, 5] rfl)
    exact LL100 n 0 0 F93 G3 _ _ _ h hP hD hS (lv_sub hl [0, 1, 2] rfl)
  have LL13 : ∀ (k : Nat) (z13_0 : Int32) (F13l : tF) (H : Heap) (locs : List Loc) (ls : Array Slot), p_X8_layBest_L13 n G3 K13 k z13_0 F13l = some (F', G') → va_P D vwCl (wM ad cA F13l G3) H → va_D A (wM ad cA F13l G3) → va_S A s.heap H locs → lv_has ls 7 [(1, .int (z13_0)), (0, .ref (ad 0))] → W p l e ({ frames := 3, cells := 0, slots := 0, locals := 72 } : Room) s m args below meth c H locs 0 0 Q (F0 m 13 ls []) := by
    intro k
    induction k with
    | zero =>
      intro z13_0 F13l H locs ls h hP hD hS hl
      rw [p_X8_layBest_L13] at h
      cases h
    | succ k13 ih13 =>
      intro z13_0 F13l H locs ls h hP hD hS hl
      rw [p_X8_layBest_L13] at h
      refine lv_iload_n hx hb dX8_layBest_13 rfl (lv_at hl 0 rfl) ?_
      refine lv_iconst (v := 1) hx hb dX8_layBest_14 (by decide) ?_
      refine lv_aload_n hx hb dX8_layBest_15 rfl (lv_at hl 1 rfl) ?_
      refine va_get (D := D) (ci := 8) (fs := vX8 ad F13l) (v := .int ((F13l 15))) (C := RX8) (T := TX8) (N := 46) hx hb hts n_8 hown hK hP 0 wMg0 rfl 21 (by decide) k_2 (fun _ h9 => h9) rfl dX8_layBest_16 ?_
      refine lv_ishl hx hb dX8_layBest_19 ?_
      refine lv_icmp_ge (tgt := 91) hx hb dX8_layBest_20 (by decide) (fun c20 => ?_) (fun c20 => ?_)
      · replace h := ifp h c20
        exact JE13 _ _ _ _ _ h hP hD hS (lv_sub hl [0, 1] rfl)
      · replace h := ifn h c20
        refine lv_aload_n hx hb dX8_layBest_23 rfl (lv_at hl 1 rfl) ?_
        refine va_get (D := D) (ci := 8) (fs := vX8 ad F13l) (v := .ref (ad 17)) (C := RX8) (T := TX8) (N := 46) hx hb hts n_8 hown hK hP 0 wMg0 rfl 37 (by decide) k_3 (fun _ h9 => h9) rfl dX8_layBest_24 ?_
        refine lv_iload_n hx hb dX8_layBest_27 rfl (lv_at hl 0 rfl) ?_
        obtain ⟨g28, h⟩ := og h
        refine va_iald (D := D) hx hb hK hP 17 0 wMg17 rfl (inB_in g28) dX8_layBest_28 ?_
        refine lv_ldc (v := 100000) hx hb hown k_4 dX8_layBest_29 ?_
        obtain ⟨F31j, q31, h⟩ := bi1e h
        have J31 : ∀ (wF31j : tF), some (wF31j) = some (F31j) → ∀ (H : Heap) (locs : List Loc) (ls : Array Slot), va_P D vwCl (wM ad cA wF31j G3) H → va_D A (wM ad cA wF31j G3) → va_S A s.heap H locs → lv_has ls 7 [(1, .int (z13_0)), (0, .ref (ad 0))] → W p l e ({ frames := 3, cells := 0, slots := 0, locals := 72 } : Room) s m args below meth c H locs 0 0 Q (F0 m 85 ls []) := by
          intro wF31j e9 H locs ls hP hD hS hl
          cases e9
          obtain ⟨x85, ex85⟩ : ∃ z : Int32, z = (z13_0 + 1) := ⟨_, rfl⟩
          replace h := pl h ex85
          refine lv_iinc (v := x85) (lv' := [(1, .int (x85)), (0, .ref (ad 0))]) hx hb dX8_layBest_85 hl (k := 0) rfl (by rw [ex85]; rfl) (by decide) rfl (fun ls hl => ?_)
          refine lv_goto (tgt := 13) hx hb dX8_layBest_88 (by decide) ?_
          exact ih13 _ _ _ _ _ h hP hD hS (lv_sub hl [0, 1] rfl)
        refine lv_icmp_ge (tgt := 85) hx hb dX8_layBest_31 (by decide) (fun c31 => ?_) (fun c31 => ?_)
        · replace q31 := ifp q31 c31
          exact J31 _ q31 _ _ _ hP hD hS (lv_sub hl [0, 1] rfl)
        · replace q31 := ifn q31 c31
          refine lv_aload_n hx hb dX8_layBest_34 rfl (lv_at hl 1 rfl) ?_
          refine lv_iload_n hx hb dX8_layBest_35 rfl (lv_at hl 0 rfl) ?_
          obtain ⟨x36, h36, q31⟩ := bi1e q31
          refine callVI (b := ad 0) (As := [.int (z13_0)]) (rest := []) ⟨hx, hb, hml, hown, hts⟩ (c_X8_hopeOf l D ad cA n F13l G3 z13_0 h36) (cwV 1 hts gX8_layBest_X8_hopeOf rfl rfl rfl (by decide +kernel) ⟨Nat.le_of_ble_eq_true rfl, Nat.le_of_ble_eq_true rfl⟩) (va_recv hK hP (ci := 8) (q0 := 0) rfl wMg0) hP hK hD hN hS hA rfl hl.1 rfl (Nat.le_of_ble_eq_true rfl) dX8_layBest_36 ⟨Nat.zero_le _, Nat.zero_le _⟩ (fun H locs hP hD hS => ?_)
          refine lv_aload_n hx hb dX8_layBest_39 rfl (lv_at hl 1 rfl) ?_
          refine lv_aload_n hx hb dX8_layBest_40 rfl (lv_at hl 1 rfl) ?_
          refine va_get (D := D) (ci := 8) (fs := vX8 ad F13l) (v := .int ((F13l 21))) (C := RX8) (T := TX8) (N := 46) hx hb hts n_8 hown hK hP 0 wMg0 rfl 38 (by decide) k_0 (fun _ h9 => h9) rfl dX8_layBest_41 ?_
          obtain ⟨x44, h44, q31⟩ := bi1e q31
          refine callVI (b := ad 0) (As := [.int ((F13l 21))]) (rest := [.int (x36)]) ⟨hx, hb, hml, hown, hts⟩ (c_X8_hopeOf l D ad cA n F13l G3 (F13l 21) h44) (cwV 1 hts gX8_layBest_X8_hopeOf rfl rfl rfl (by decide +kernel) ⟨Nat.le_of_ble_eq_true rfl, Nat.le_of_ble_eq_true rfl⟩) (va_recv hK hP (ci := 8) (q0 := 0) rfl wMg0) hP hK hD hN hS hA rfl hl.1 rfl (Nat.le_of_ble_eq_true rfl) dX8_layBest_44 ⟨Nat.zero_le _, Nat.zero_le _⟩ (fun H locs hP hD hS => ?_)
          refine lv_isub hx hb dX8_layBest_47 ?_
          refine lv_topi (fun x48 ex48 => ?_)
          replace q31 := pl q31 ex48
          refine lv_istore_n (lv' := [(2, .int (x48)), (1, .int (z13_0)), (0, .ref (ad 0))]) hx hb dX8_layBest_48 rfl hl (by decide) rfl (fun ls hl => ?_)
          refine lv_aload_n hx hb dX8_layBest_49 rfl (lv_at hl 2 rfl) ?_
          refine lv_iload_n hx hb dX8_layBest_50 rfl (lv_at hl 0 rfl) ?_
          obtain ⟨y51_0, q51, q31⟩ := bi1e q31
          have J51 : ∀ (wy51_0 : Int32), some (wy51_0) = some (y51_0) → ∀ (H : Heap) (locs : List Loc) (ls : Array Slot), va_P D vwCl (wM ad cA F13l G3) H → va_D A (wM ad cA F13l G3) → va_S A s.heap H locs → lv_has ls 7 [(2, .int (x48)), (1, .int (z13_0)), (0, .ref (ad 0))] → W p l e ({ frames := 3, cells := 0, slots := 0, locals := 72 } : Room) s m args below meth c H locs 0 0 Q (F0 m 82 ls [.int (wy51_0), .ref (ad 0)]) := by
            intro wy51_0 e9 H locs ls hP hD hS hl
            cases e9
            obtain ⟨F82, eF82⟩ : ∃ f : tF, f = upd F13l 21 y51_0 := ⟨_, rfl⟩
            replace q31 := pl q31 eF82
            refine va_put (D := D) (ci := 8) (fs := vX8 ad F13l) (v := .int (y51_0)) (ty := .int) (C := RX8) (T := TX8) (N := 46) hx hb hts n_8 tyX8 tyX8_ok nmX8 hown hK hP hD hS 0 wMg0 rfl 38 (by decide) k_0 (fun _ h9 => h9) rfl (tyX8_ok 38 (by decide)) rfl rfl (Nat.le_of_ble_eq_true rfl) dX8_layBest_82 (fun H locs hP hD hS => ?_)
            rw [wMp21 eF82] at hP hD
            exact J31 _ q31 _ _ _ hP hD hS (lv_sub hl [1, 2] rfl)
          refine lv_if_gt (tgt := 74) hx hb dX8_layBest_51 (by decide) (fun c51 => ?_) (fun c51 => ?_)
          · replace q51 := ifp q51 c51
            refine lv_iload_n hx hb dX8_layBest_74 rfl (lv_at hl 1 rfl) ?_
            refine lv_goto (tgt := 82) hx hb dX8_layBest_75 (by decide) ?_
            exact J51 _ q51 _ _ _ hP hD hS (lv_sub hl [0, 1, 2] rfl)
          · replace q51 := ifn q51 c51
            refine lv_iload_n hx hb dX8_layBest_54 rfl (lv_at hl 0 rfl) ?_
            refine lv_if_ne (tgt := 78) hx hb dX8_layBest_55 (by decide) (fun c55 => ?_) (fun c55 => ?_)
            · replace q51 := ifn q51 c55
              refine lv_aload_n hx hb dX8_layBest_78 rfl (lv_at hl 2 rfl) ?_
              refine va_get (D := D) (ci := 8) (fs := vX8 ad F13l) (v := .int ((F13l 21))) (C := RX8) (T := TX8) (N := 46) hx hb hts n_8 hown hK hP 0 wMg0 rfl 38 (by decide) k_0 (fun _ h9 => h9) rfl dX8_layBest_79 ?_
              exact J51 _ q51 _ _ _ hP hD hS (lv_sub hl [0, 1, 2] rfl)
            · replace q51 := ifp q51 c55
              refine lv_aload_n hx hb dX8_layBest_58 rfl (lv_at hl 2 rfl) ?_
              refine lv_iload_n hx hb dX8_layBest_59 rfl (lv_at hl 1 rfl) ?_
              obtain ⟨x60, h60, q51⟩ := bi1e q51
              refine callVI (b := ad 0) (As := [.int (z13_0)]) (rest := [.ref (ad 0)]) ⟨hx, hb, hml, hown, hts⟩ (c_X8_workOfSet l D ad cA n F13l G3 z13_0 h60) (cwV 1 hts gX8_layBest_X8_workOfSet rfl rfl rfl (by decide +kernel) ⟨Nat.le_of_ble_eq_true rfl, Nat.le_of_ble_eq_true rfl⟩) (va_recv hK hP (ci := 8) (q0 := 0) rfl wMg0) hP hK hD hN hS hA rfl hl.1 rfl (Nat.le_of_ble_eq_true rfl) dX8_layBest_60 ⟨Nat.zero_le _, Nat.zero_le _⟩ (fun H locs hP hD hS => ?_)
              refine lv_aload_n hx hb dX8_layBest_63 rfl (lv_at hl 2 rfl) ?_
              refine lv_aload_n hx hb dX8_layBest_64 rfl (lv_at hl 2 rfl) ?_
              refine va_get (D := D) (ci := 8) (fs := vX8 ad F13l) (v := .int ((F13l 21))) (C := RX8) (T := TX8) (N := 46) hx hb hts n_8 hown hK hP 0 wMg0 rfl 38 (by decide) k_0 (fun _ h9 => h9) rfl dX8_layBest_65 ?_
              obtain ⟨x68, h68, q51⟩ := bi1e q51
              refine callVI (b := ad 0) (As := [.int ((F13l 21))]) (rest := [.int (x60), .ref (ad 0)]) ⟨hx, hb, hml, hown, hts⟩ (c_X8_workOfSet l D ad cA n F13l G3 (F13l 21) h68) (cwV 1 hts gX8_layBest_X8_workOfSet rfl rfl rfl (by decide +kernel) ⟨Nat.le_of_ble_eq_true rfl, Nat.le_of_ble_eq_true rfl⟩) (va_recv hK hP (ci := 8) (q0 := 0) rfl wMg0) hP hK hD hN hS hA rfl hl.1 rfl (Nat.le_of_ble_eq_true rfl) dX8_layBest_68 ⟨Nat.zero_le _, Nat.zero_le _⟩ (fun H locs hP hD hS => ?_)
              refine lv_icmp_ge (tgt := 78) hx hb dX8_layBest_71 (by decide) (fun c71 => ?_) (fun c71 => ?_)
              · replace q51 := ifp q51 c71
                refine lv_aload_n hx hb dX8_layBest_78 rfl (lv_at hl 2 rfl) ?_
                refine va_get (D := D) (ci := 8) (fs := vX8 ad F13l) (v := .int ((F13l 21))) (C := RX8) (T := TX8) (N := 46) hx hb hts n_8 hown hK hP 0 wMg0 rfl 38 (by decide) k_0 (fun _ h9 => h9) rfl dX8_layBest_79 ?_
                exact J51 _ q51 _ _ _ hP hD hS (lv_sub hl [0, 1, 2] rfl)
              · replace q51 := ifn q51 c71
                refine lv_iload_n hx hb dX8_layBest_74 rfl (lv_at hl 1 rfl) ?_
                refine lv_goto (tgt := 82) hx hb dX8_layBest_75 (by decide) ?_
                exact J51 _ q51 _ _ _ hP hD hS (lv_sub hl [0, 1, 2] rfl)
  exact LL13 n 1 F8 _ _ _ h hP hD hS (lv_sub hl [0, 1] rfl)
