def p_X0_beginAnew (F : tF) (G : tG) (a1 : Int32) : Option (tF × tG) :=
  plet (upd F 1 a1) (fun (F2 : tF) => plet (upd F2 3 a1) (fun (F7 : tF) => plet (upd F7 4 0) (fun (F12 : tF) => plet (upd F12 5 a1) (fun (F17 : tF) => plet (upd F17 6 0) (fun (F22 : tF) => plet (upd F22 7 0) (fun (F27 : tF) => plet (upd F27 8 0) (fun (F32 : tF) => plet (upd F32 9 0) (fun (F37 : tF) => plet (upd F37 10 0) (fun (F42 : tF) => some (F42, G))))))))))
set_option maxHeartbeats 4000000 in
set_option maxRecDepth 100000 in
theorem c_X0_beginAnew (l : Launch) (D : va_G) (ad : Nat → Nat) (cA : ClassId) (n : Nat) (F : tF) (G : tG) (a1 : Int32) {F' : tF} {G' : tG} (h : p_X0_beginAnew F G a1 = some (F', G')) : CV l yX0_beginAnew wsX0_beginAnew ({ frames := 0, cells := 0, slots := 0, locals := 0 } : Room) D cA (wC ad cA F G) [.ref (ad 1), .int (a1)] (wC ad cA F' G') := by
  rw [p_X0_beginAnew] at h
  refine metVm (w := wC ad cA) (cc := cX0_beginAnew) (maxL := 2) (by decide) rfl (Nat.le_of_ble_eq_true rfl) ?_
  intro p e s m args below meth c A ls Q hE hret
  obtain ⟨hx, hb, hts, hown, hml, hP, hK, hD, hN, hA, hl⟩ := hE
  have hown : s.vm.findClass RX0 = some m.cls := hown
  have hl : lv_has ls 2 [(0, .ref (ad 1)), (1, .int (a1))] := hl
  have hS : va_S A s.heap s.heap [] := va_S.rf
  have k_0 : (Cond.fieldLink RX0 25 "BellBook$Bell" "room" "I").before args s = true := hts _ (List.mem_of_getElem? (i := 1) rfl)
  have n_0 : ∀ w ∈ u_ws RX0 TX0 12, w ∈ wsX0_beginAnew := fun w hw => List.mem_cons_of_mem _ (List.mem_append_right _ hw)
  have k_2 : (Cond.fieldLink RX0 28 "BellBook$Bell" "fresh" "I").before args s = true := hts _ (List.mem_of_getElem? (i := 2) rfl)
  have k_3 : (Cond.fieldLink RX0 31 "BellBook$Bell" "foul" "I").before args s = true := hts _ (List.mem_of_getElem? (i := 3) rfl)
  have k_4 : (Cond.fieldLink RX0 34 "BellBook$Bell" "sent" "I").before args s = true := hts _ (List.mem_of_getElem? (i := 4) rfl)
  have k_5 : (Cond.fieldLink RX0 37 "BellBook$Bell" "breathed" "I").before args s = true := hts _ (List.mem_of_getElem? (i := 5) rfl)
  have k_6 : (Cond.fieldLink RX0 40 "BellBook$Bell" "spilled" "I").before args s = true := hts _ (List.mem_of_getElem? (i := 6) rfl)
  have k_7 : (Cond.fieldLink RX0 43 "BellBook$Bell" "barrels" "I").before args s = true := hts _ (List.mem_of_getElem? (i := 7) rfl)
  have k_8 : (Cond.fieldLink RX0 46 "BellBook$Bell" "breathLacks" "I").before args s = true := hts _ (List.mem_of_getElem? (i := 8) rfl)
  have k_9 : (Cond.fieldLink RX0 49 "BellBook$Bell" "stayLacks" "I").before args s = true := hts _ (List.mem_of_getElem? (i := 9) rfl)
  refine lv_aload_n hx hb dX0_beginAnew_0 rfl (lv_at hl 0 rfl) ?_
  refine lv_iload_n hx hb dX0_beginAnew_1 rfl (lv_at hl 1 rfl) ?_
  obtain ⟨F2, eF2⟩ : ∃ f : tF, f = upd F 1 a1 := ⟨_, rfl⟩
  replace h := pl h eF2
  refine va_put (D := D) (ci := 0) (fs := vX0 ad F) (v := .int (a1)) (ty := .int) (C := RX0) (T := TX0) (N := 12) hx hb hts n_0 tyX0 tyX0_ok nmX0 hown hK hP hD hS 1 wCg1 rfl 0 (by decide) k_0 (fun _ h9 => h9) rfl (tyX0_ok 0 (by decide)) rfl rfl (Nat.le_of_ble_eq_true rfl) dX0_beginAnew_2 (fun H locs hP hD hS => ?_)
  rw [wCp1 eF2] at hP hD
  refine lv_aload_n hx hb dX0_beginAnew_5 rfl (lv_at hl 0 rfl) ?_
  refine lv_iload_n hx hb dX0_beginAnew_6 rfl (lv_at hl 1 rfl) ?_
  obtain ⟨F7, eF7⟩ : ∃ f : tF, f = upd F2 3 a1 := ⟨_, rfl⟩
  replace h := pl h eF7
  refine va_put (D := D) (ci := 0) (fs := vX0 ad F2) (v := .int (a1)) (ty := .int) (C := RX0) (T := TX0) (N := 12) hx hb hts n_0 tyX0 tyX0_ok nmX0 hown hK hP hD hS 1 wCg1 rfl 2 (by decide) k_2 (fun _ h9 => h9) rfl (tyX0_ok 2 (by decide)) rfl rfl (Nat.le_of_ble_eq_true rfl) dX0_beginAnew_7 (fun H locs hP hD hS => ?_)
  rw [wCp3 eF7] at hP hD
  refine lv_aload_n hx hb dX0_beginAnew_10 rfl (lv_at hl 0 rfl) ?_
  refine lv_iconst (v := 0) hx hb dX0_beginAnew_11 (by decide) ?_
  obtain ⟨F12, eF12⟩ : ∃ f : tF, f = upd F7 4 0 := ⟨_, rfl⟩
  replace h := pl h eF12
  refine va_put (D := D) (ci := 0) (fs := vX0 ad F7) (v := .int (0)) (ty := .int) (C := RX0) (T := TX0) (N := 12) hx hb hts n_0 tyX0 tyX0_ok nmX0 hown hK hP hD hS 1 wCg1 rfl 3 (by decide) k_3 (fun _ h9 => h9) rfl (tyX0_ok 3 (by decide)) rfl rfl (Nat.le_of_ble_eq_true rfl) dX0_beginAnew_12 (fun H locs hP hD hS => ?_)
  rw [wCp4 eF12] at hP hD
  refine lv_aload_n hx hb dX0_beginAnew_15 rfl (lv_at hl 0 rfl) ?_
  refine lv_iload_n hx hb dX0_beginAnew_16 rfl (lv_at hl 1 rfl) ?_
  obtain ⟨F17, eF17⟩ : ∃ f : tF, f = upd F12 5 a1 := ⟨_, rfl⟩
  replace h := pl h eF17
  refine va_put (D := D) (ci := 0) (fs := vX0 ad F12) (v := .int (a1)) (ty := .int) (C := RX0) (T := TX0) (N := 12) hx hb hts n_0 tyX0 tyX0_ok nmX0 hown hK hP hD hS 1 wCg1 rfl 4 (by decide) k_4 (fun _ h9 => h9) rfl (tyX0_ok 4 (by decide)) rfl rfl (Nat.le_of_ble_eq_true rfl) dX0_beginAnew_17 (fun H locs hP hD hS => ?_)
  rw [wCp5 eF17] at hP hD
  refine lv_aload_n hx hb dX0_beginAnew_20 rfl (lv_at hl 0 rfl) ?_
  refine lv_iconst (v := 0) hx hb dX0_beginAnew_21 (by decide) ?_
  obtain ⟨F22, eF22⟩ : ∃ f : tF, f = upd F17 6 0 := ⟨_, rfl⟩
  replace h := pl h eF22
  refine va_put (D := D) (ci := 0) (fs := vX0 ad F17) (v := .int (0)) (ty := .int) (C := RX0) (T := TX0) (N := 12) hx hb hts n_0 tyX0 tyX0_ok nmX0 hown hK hP hD hS 1 wCg1 rfl 5 (by decide) k_5 (fun _ h9 => h9) rfl (tyX0_ok 5 (by decide)) rfl rfl (Nat.le_of_ble_eq_true rfl) dX0_beginAnew_22 (fun H locs hP hD hS => ?_)
  rw [wCp6 eF22] at hP hD
  refine lv_aload_n hx hb dX0_beginAnew_25 rfl (lv_at hl 0 rfl) ?_
  refine lv_iconst (v := 0) hx hb dX0_beginAnew_26 (by decide) ?_
  obtain ⟨F27, eF27⟩ : ∃ f : tF, f = upd F22 7 0 := ⟨_, rfl⟩
  replace h := pl h eF27
  refine va_put (D := D) (ci := 0) (fs := vX0 ad F22) (v := .int (0)) (ty := .int) (C := RX0) (T := TX0) (N := 12) hx hb hts n_0 tyX0 tyX0_ok nmX0 hown hK hP hD hS 1 wCg1 rfl 6 (by decide) k_6 (fun _ h9 => h9) rfl (tyX0_ok 6 (by decide)) rfl rfl (Nat.le_of_ble_eq_true rfl) dX0_beginAnew_27 (fun H locs hP hD hS => ?_)
  rw [wCp7 eF27] at hP hD
  refine lv_aload_n hx hb dX0_beginAnew_30 rfl (lv_at hl 0 rfl) ?_
  refine lv_iconst (v := 0) hx hb dX0_beginAnew_31 (by decide) ?_
  obtain ⟨F32, eF32⟩ : ∃ f : tF, f = upd F27 8 0 := ⟨_, rfl⟩
  replace h := pl h eF32
  refine va_put (D := D) (ci := 0) (fs := vX0 ad F27) (v := .int (0)) (ty := .int) (C := RX0) (T := TX0) (N := 12) hx hb hts n_0 tyX0 tyX0_ok nmX0 hown hK hP hD hS 1 wCg1 rfl 7 (by decide) k_7 (fun _ h9 => h9) rfl (tyX0_ok 7 (by decide)) rfl rfl (Nat.le_of_ble_eq_true rfl) dX0_beginAnew_32 (fun H locs hP hD hS => ?_)
  rw [wCp8 eF32] at hP hD
  refine lv_aload_n hx hb dX0_beginAnew_35 rfl (lv_at hl 0 rfl) ?_
  refine lv_iconst (v := 0) hx hb dX0_beginAnew_36 (by decide) ?_
  obtain ⟨F37, eF37⟩ : ∃ f : tF, f = upd F32 9 0 := ⟨_, rfl⟩
  replace h := pl h eF37
  refine va_put (D := D) (ci := 0) (fs := vX0 ad F32) (v := .int (0)) (ty := .int) (C := RX0) (T := TX0) (N := 12) hx hb hts n_0 tyX0 tyX0_ok nmX0 hown hK hP hD hS 1 wCg1 rfl 8 (by decide) k_8 (fun _ h9 => h9) rfl (tyX0_ok 8 (by decide)) rfl rfl (Nat.le_of_ble_eq_true rfl) dX0_beginAnew_37 (fun H locs hP hD hS => ?_)
  rw [wCp9 eF37] at hP hD
  refine lv_aload_n hx hb dX0_beginAnew_40 rfl (lv_at hl 0 rfl) ?_
  refine lv_iconst (v := 0) hx hb dX0_beginAnew_41 (by decide) ?_
  obtain ⟨F42, eF42⟩ : ∃ f : tF, f = upd F37 10 0 := ⟨_, rfl⟩
  replace h := pl h eF42
  refine va_put (D := D) (ci := 0) (fs := vX0 ad F37) (v := .int (0)) (ty := .int) (C := RX0) (T := TX0) (N := 12) hx hb hts n_0 tyX0 tyX0_ok nmX0 hown hK hP hD hS 1 wCg1 rfl 9 (by decide) k_9 (fun _ h9 => h9) rfl (tyX0_ok 9 (by decide)) rfl rfl (Nat.le_of_ble_eq_true rfl) dX0_beginAnew_42 (fun H locs hP hD hS => ?_)
  rw [wCp10 eF42] at hP hD
  exact hret _ _ _ _ _ _ dX0_beginAnew_45 h hP hD hS

def p_X0_breathe (F : tF) (G : tG) : Option (tF × tG) :=
  plet (if (F 3) < (F 11) then (F 3) else (F 11)) (fun (x11 : Int32) => plet (upd F 3 ((F 3) - x11)) (fun (F19 : tF) => plet (upd F19 4 ((F19 4) + x11)) (fun (F29 : tF) => plet (upd F29 6 ((F29 6) + x11)) (fun (F39 : tF) => bi1 ((if (F39 11) ≤ x11 then some (F39) else plet (upd F39 9 ((F39 9) + 1)) (fun (F57 : tF) => some (F57)))) (fun (F47j : tF) => some (F47j, G))))))
set_option maxHeartbeats 4000000 in
set_option maxRecDepth 100000 in
theorem c_X0_breathe (l : Launch) (D : va_G) (ad : Nat → Nat) (cA : ClassId) (n : Nat) (F : tF) (G : tG) {F' : tF} {G' : tG} (h : p_X0_breathe F G = some (F', G')) : CV l yX0_breathe wsX0_breathe ({ frames := 1, cells := 0, slots := 0, locals := 21 } : Room) D cA (wC ad cA F G) [.ref (ad 1)] (wC ad cA F' G') := by
  rw [p_X0_breathe] at h
  refine metVm (w := wC ad cA) (cc := cX0_breathe) (maxL := 2) (by decide) rfl (Nat.le_of_ble_eq_true rfl) ?_
  intro p e s m args below meth c A ls Q hE hret
  obtain ⟨hx, hb, hts, hown, hml, hP, hK, hD, hN, hA, hl⟩ := hE
  have hown : s.vm.findClass RX0 = some m.cls := hown
  have hl : lv_has ls 2 [(0, .ref (ad 1))] := hl
  have hS : va_S A s.heap s.heap [] := va_S.rf
  have k_0 : (Cond.fieldLink RX0 15 "BellBook$Bell" "breath" "I").before args s = true := hts _ (List.mem_of_getElem? (i := 1) rfl)
  have n_0 : ∀ w ∈ u_ws RX0 TX0 12, w ∈ wsX0_breathe := fun w hw => List.mem_cons_of_mem _ (List.mem_append_right _ hw)
  have k_2 : (Cond.fieldLink RX0 28 "BellBook$Bell" "fresh" "I").before args s = true := hts _ (List.mem_of_getElem? (i := 2) rfl)
  have k_3 : (Cond.methodLink RX0 76 Lib.Math.min.name).before args s = true := hts _ (List.mem_of_getElem? (i := 3) rfl)
  have k_4 : (Cond.static Lib.Math.min.name).before args s = true := hts _ (List.mem_of_getElem? (i := 4) rfl)
  have k_5 : (Cond.initialized "java/lang/Math").before args s = true := hts _ (List.mem_of_getElem? (i := 5) rfl)
  have k_6 : (Cond.code Lib.Math.min.name Lib.Math.min.code 2 (some .int)).before args s = true := hts _ (List.mem_of_getElem? (i := 6) rfl)
  have k_7 : (Cond.fieldLink RX0 31 "BellBook$Bell" "foul" "I").before args s = true := hts _ (List.mem_of_getElem? (i := 7) rfl)
  have k_8 : (Cond.fieldLink RX0 37 "BellBook$Bell" "breathed" "I").before args s = true := hts _ (List.mem_of_getElem? (i := 8) rfl)
  have k_9 : (Cond.fieldLink RX0 46 "BellBook$Bell" "breathLacks" "I").before args s = true := hts _ (List.mem_of_getElem? (i := 9) rfl)
  refine lv_aload_n hx hb dX0_breathe_0 rfl (lv_at hl 0 rfl) ?_
  refine va_get (D := D) (ci := 0) (fs := vX0 ad F) (v := .int ((F 11))) (C := RX0) (T := TX0) (N := 12) hx hb hts n_0 hown hK hP 1 wCg1 rfl 10 (by decide) k_0 (fun _ h9 => h9) rfl dX0_breathe_1 ?_
  refine lv_aload_n hx hb dX0_breathe_4 rfl (lv_at hl 0 rfl) ?_
  refine va_get (D := D) (ci := 0) (fs := vX0 ad F) (v := .int ((F 3))) (C := RX0) (T := TX0) (N := 12) hx hb hts n_0 hown hK hP 1 wCg1 rfl 2 (by decide) k_2 (fun _ h9 => h9) rfl dX0_breathe_5 ?_
  refine va_mmin hx hb (hml.trans hl.1.symm) hown k_3 k_4 k_5 k_6 (Nat.le_of_ble_eq_true rfl) (Nat.le_of_ble_eq_true rfl) (Nat.zero_le _) (Nat.zero_le _) dX0_breathe_8 ?_
  refine lv_topi (fun x11 ex11 => ?_)
  replace h := pl h ex11
  refine lv_istore_n (lv' := [(1, .int (x11)), (0, .ref (ad 1))]) hx hb dX0_breathe_11 rfl hl (by decide) rfl (fun ls hl => ?_)
  refine lv_aload_n hx hb dX0_breathe_12 rfl (lv_at hl 1 rfl) ?_
  refine lv_dup hx hb dX0_breathe_13 rfl ?_
  refine va_get (D := D) (ci := 0) (fs := vX0 ad F) (v := .int ((F 3))) (C := RX0) (T := TX0) (N := 12) hx hb hts n_0 hown hK hP 1 wCg1 rfl 2 (by decide) k_2 (fun _ h9 => h9) rfl dX0_breathe_14 ?_
  refine lv_iload_n hx hb dX0_breathe_17 rfl (lv_at hl 0 rfl) ?_
  refine lv_isub hx hb dX0_breathe_18 ?_
  obtain ⟨F19, eF19⟩ : ∃ f : tF, f = upd F 3 ((F 3) - x11) := ⟨_, rfl⟩
  replace h := pl h eF19
  refine va_put (D := D) (ci := 0) (fs := vX0 ad F) (v := .int (((F 3) - x11))) (ty := .int) (C := RX0) (T := TX0) (N := 12) hx hb hts n_0 tyX0 tyX0_ok nmX0 hown hK hP hD hS 1 wCg1 rfl 2 (by decide) k_2 (fun _ h9 => h9) rfl (tyX0_ok 2 (by decide)) rfl rfl (Nat.le_of_ble_eq_true rfl) dX0_breathe_19 (fun H locs hP hD hS => ?_)
  rw [wCp3 eF19] at hP hD
  refine lv_aload_n hx hb dX0_breathe_22 rfl (lv_at hl 1 rfl) ?_
  refine lv_dup hx hb dX0_breathe_23 rfl ?_
  refine va_get (D := D) (ci := 0) (fs := vX0 ad F19) (v := .int ((F19 4))) (C := RX0) (T := TX0) (N := 12) hx hb hts n_0 hown hK hP 1 wCg1 rfl 3 (by decide) k_7 (fun _ h9 => h9) rfl dX0_breathe_24 ?_
  refine lv_iload_n hx hb dX0_breathe_27 rfl (lv_at hl 0 rfl) ?_
  refine lv_iadd hx hb dX0_breathe_28 ?_
  obtain ⟨F29, eF29⟩ : ∃ f : tF, f = upd F19 4 ((F19 4) + x11) := ⟨_, rfl⟩
  replace h := pl h eF29
  refine va_put (D := D) (ci := 0) (fs := vX0 ad F19) (v := .int (((F19 4) + x11))) (ty := .int) (C := RX0) (T := TX0) (N := 12) hx hb hts n_0 tyX0 tyX0_ok nmX0 hown hK hP hD hS 1 wCg1 rfl 3 (by decide) k_7 (fun _ h9 => h9) rfl (tyX0_ok 3 (by decide)) rfl rfl (Nat.le_of_ble_eq_true rfl) dX0_breathe_29 (fun H locs hP hD hS => ?_)
  rw [wCp4 eF29] at hP hD
  refine lv_aload_n hx hb dX0_breathe_32 rfl (lv_at hl 1 rfl) ?_
  refine lv_dup hx hb dX0_breathe_33 rfl ?_
  refine va_get (D := D) (ci := 0) (fs := vX0 ad F29) (v := .int ((F29 6))) (C := RX0) (T := TX0) (N := 12) hx hb hts n_0 hown hK hP 1 wCg1 rfl 5 (by decide) k_8 (fun _ h9 => h9) rfl dX0_breathe_34 ?_
  refine lv_iload_n hx hb dX0_breathe_37 rfl (lv_at hl 0 rfl) ?_
  refine lv_iadd hx hb dX0_breathe_38 ?_
  obtain ⟨F39, eF39⟩ : ∃ f : tF, f = upd F29 6 ((F29 6) + x11) := ⟨_, rfl⟩
  replace h := pl h eF39
  refine va_put (D := D) (ci := 0) (fs := vX0 ad F29) (v := .int (((F29 6) + x11))) (ty := .int) (C := RX0) (T := TX0) (N := 12) hx hb hts n_0 tyX0 tyX0_ok nmX0 hown hK hP hD hS 1 wCg1 rfl 5 (by decide) k_8 (fun _ h9 => h9) rfl (tyX0_ok 5 (by decide)) rfl rfl (Nat.le_of_ble_eq_true rfl) dX0_breathe_39 (fun H locs hP hD hS => ?_)
  rw [wCp6 eF39] at hP hD
  refine lv_iload_n hx hb dX0_breathe_42 rfl (lv_at hl 0 rfl) ?_
  refine lv_aload_n hx hb dX0_breathe_43 rfl (lv_at hl 1 rfl) ?_
  refine va_get (D := D) (ci := 0) (fs := vX0 ad F39) (v := .int ((F39 11))) (C := RX0) (T := TX0) (N := 12) hx hb hts n_0 hown hK hP 1 wCg1 rfl 10 (by decide) k_0 (fun _ h9 => h9) rfl dX0_breathe_44 ?_
  obtain ⟨F47j, q47, h⟩ := bi1e h
  have J47 : ∀ (wF47j : tF), some (wF47j) = some (F47j) → ∀ (H : Heap) (locs : List Loc) (ls : Array Slot), va_P D vwCl (wC ad cA wF47j G) H → va_D A (wC ad cA wF47j G) → va_S A s.heap H locs → lv_has ls 2 [(1, .int (x11)), (0, .ref (ad 1))] → W p l e ({ frames := 1, cells := 0, slots := 0, locals := 21 } : Room) s m args below meth c H locs 0 0 Q (F0 m 60 ls []) := by
    intro wF47j e9 H locs ls hP hD hS hl
    cases e9
    exact hret _ _ _ _ _ _ dX0_breathe_60 h hP hD hS
  refine lv_icmp_ge (tgt := 60) hx hb dX0_breathe_47 (by decide) (fun c47 => ?_) (fun c47 => ?_)
  · replace q47 := ifp q47 c47
    exact J47 _ q47 _ _ _ hP hD hS (lv_sub hl [0, 1] rfl)
  · replace q47 := ifn q47 c47
    refine lv_aload_n hx hb dX0_breathe_50 rfl (lv_at hl 1 rfl) ?_
    refine lv_dup hx hb dX0_breathe_51 rfl ?_
    refine va_get (D := D) (ci := 0) (fs := vX0 ad F39) (v := .int ((F39 9))) (C := RX0) (T := TX0) (N := 12) hx hb hts n_0 hown hK hP 1 wCg1 rfl 8 (by decide) k_9 (fun _ h9 => h9) rfl dX0_breathe_52 ?_
    refine lv_iconst (v := 1) hx hb dX0_breathe_55 (by decide) ?_
    refine lv_iadd hx hb dX0_breathe_56 ?_
    obtain ⟨F57, eF57⟩ : ∃ f : tF, f = upd F39 9 ((F39 9) + 1) := ⟨_, rfl⟩
    replace q47 := pl q47 eF57
    refine va_put (D := D) (ci := 0) (fs := vX0 ad F39) (v := .int (((F39 9) + 1))) (ty := .int) (C := RX0) (T := TX0) (N := 12) hx hb hts n_0 tyX0 tyX0_ok nmX0 hown hK hP hD hS 1 wCg1 rfl 8 (by decide) k_9 (fun _ h9 => h9) rfl (tyX0_ok 8 (by decide)) rfl rfl (Nat.le_of_ble_eq_true rfl) dX0_breathe_57 (fun H locs hP hD hS => ?_)
    rw [wCp9 eF57] at hP hD
    exact J47 _ q47 _ _ _ hP hD hS (lv_sub hl [0, 1] rfl)

def p_X0_shares (F : tF) : Option (Int32) :=
  some ((F 3) + (F 4))
set_option maxHeartbeats 4000000 in
set_option maxRecDepth 100000 in
theorem c_X0_shares (l : Launch) (D : va_G) (ad : Nat → Nat) (cA : ClassId) (n : Nat) (F : tF) (G : tG) {r : Int32} (h : p_X0_shares F = some r) : CI l yX0_shares wsX0_shares ({ frames := 0, cells := 0, slots := 0, locals := 0 } : Room) D cA (wC ad cA F G) [.ref (ad 1)] r (wC ad cA F G) := by
  rw [p_X0_shares] at h
  refine metIr (w := wC ad cA) (cc := cX0_shares) (maxL := 1) (by decide) rfl (Nat.le_of_ble_eq_true rfl) ?_
  intro p e s m args below meth c A ls Q hE hret
  obtain ⟨hx, hb, hts, hown, hml, hP, hK, hD, hN, hA, hl⟩ := hE
  have hown : s.vm.findClass RX0 = some m.cls := hown
  have hl : lv_has ls 1 [(0, .ref (ad 1))] := hl
  have hS : va_S A s.heap s.heap [] := va_S.rf
  have k_0 : (Cond.fieldLink RX0 28 "BellBook$Bell" "fresh" "I").before args s = true := hts _ (List.mem_of_getElem? (i := 1) rfl)
  have n_0 : ∀ w ∈ u_ws RX0 TX0 12, w ∈ wsX0_shares := fun w hw => List.mem_cons_of_mem _ (List.mem_append_right _ hw)
  have k_2 : (Cond.fieldLink RX0 31 "BellBook$Bell" "foul" "I").before args s = true := hts _ (List.mem_of_getElem? (i := 2) rfl)
  refine lv_aload_n hx hb dX0_shares_0 rfl (lv_at hl 0 rfl) ?_
  refine va_get (D := D) (ci := 0) (fs := vX0 ad F) (v := .int ((F 3))) (C := RX0) (T := TX0) (N := 12) hx hb hts n_0 hown hK hP 1 wCg1 rfl 2 (by decide) k_0 (fun _ h9 => h9) rfl dX0_shares_1 ?_
  refine lv_aload_n hx hb dX0_shares_4 rfl (lv_at hl 0 rfl) ?_
  refine va_get (D := D) (ci := 0) (fs := vX0 ad F) (v := .int ((F 4))) (C := RX0) (T := TX0) (N := 12) hx hb hts n_0 hown hK hP 1 wCg1 rfl 3 (by decide) k_2 (fun _ h9 => h9) rfl dX0_shares_5 ?_
  refine lv_iadd hx hb dX0_shares_8 ?_
  exact hret _ _ _ _ _ dX0_shares_9 h hP hD hS

def p_X0_dry (F : tF) : Option (Int32) :=
  bi1 (p_X0_shares F) (fun x1 => oguard (nzB (10 + (F 2))) (some ((x1 * 10) / (10 + (F 2)))))
set_option maxHeartbeats 4000000 in
set_option maxRecDepth 100000 in
theorem c_X0_dry (l : Launch) (D : va_G) (ad : Nat → Nat) (cA : ClassId) (n : Nat) (F : tF) (G : tG) {r : Int32} (h : p_X0_dry F = some r) : CI l yX0_dry wsX0_dry ({ frames := 1, cells := 0, slots := 0, locals := 20 } : Room) D cA (wC ad cA F G) [.ref (ad 1)] r (wC ad cA F G) := by
  rw [p_X0_dry] at h
  refine metIr (w := wC ad cA) (cc := cX0_dry) (maxL := 1) (by decide) rfl (Nat.le_of_ble_eq_true rfl) ?_
  intro p e s m args below meth c A ls Q hE hret
  obtain ⟨hx, hb, hts, hown, hml, hP, hK, hD, hN, hA, hl⟩ := hE
  have hown : s.vm.findClass RX0 = some m.cls := hown
  have hl : lv_has ls 1 [(0, .ref (ad 1))] := hl
  have hS : va_S A s.heap s.heap [] := va_S.rf
  have k_0 : (Cond.fieldLink RX0 9 "BellBook$Bell" "depth" "I").before args s = true := hts _ (List.mem_of_getElem? (i := 1) rfl)
  have n_0 : ∀ w ∈ u_ws RX0 TX0 12, w ∈ wsX0_dry := fun w hw => List.mem_cons_of_mem _ (List.mem_append_right _ hw)
  refine lv_aload_n hx hb dX0_dry_0 rfl (lv_at hl 0 rfl) ?_
  obtain ⟨x1, h1, h⟩ := bi1e h
  refine callVI (b := ad 1) (As := []) (rest := []) ⟨hx, hb, hml, hown, hts⟩ (c_X0_shares l D ad cA n F G h1) (cwV 0 hts gX0_dry_X0_shares rfl rfl rfl (by decide +kernel) ⟨Nat.le_of_ble_eq_true rfl, Nat.le_of_ble_eq_true rfl⟩) (va_recv hK hP (ci := 0) (q0 := 1) rfl wCg1) hP hK hD hN hS hA rfl hl.1 rfl (Nat.le_of_ble_eq_true rfl) dX0_dry_1 ⟨Nat.zero_le _, Nat.zero_le _⟩ (fun H locs hP hD hS => ?_)
  refine lv_bipush (v := 10) hx hb dX0_dry_4 (by decide) ?_
  refine lv_imul hx hb dX0_dry_6 ?_
  refine lv_bipush (v := 10) hx hb dX0_dry_7 (by decide) ?_
  refine lv_aload_n hx hb dX0_dry_9 rfl (lv_at hl 0 rfl) ?_
  refine va_get (D := D) (ci := 0) (fs := vX0 ad F) (v := .int ((F 2))) (C := RX0) (T := TX0) (N := 12) hx hb hts n_0 hown hK hP 1 wCg1 rfl 1 (by decide) k_0 (fun _ h9 => h9) rfl dX0_dry_10 ?_
  refine lv_iadd hx hb dX0_dry_13 ?_
  obtain ⟨g14, h⟩ := og h
  refine lv_idiv hx hb dX0_dry_14 (nzB_ne g14) ?_
  exact hret _ _ _ _ _ dX0_dry_15 h hP hD hS

def p_X0_foulPart (a0 : Int32) (a1 : Int32) (a2 : Int32) : Option (Int32) :=
  plet (a1 + a2) (fun (x3 : Int32) => bi1 ((if 0 < x3 then oguard (nzL x3.toInt64) (some (((a0.toInt64 * a2.toInt64) / x3.toInt64).toInt32)) else some (0))) (fun (y5_0 : Int32) => some y5_0))
set_option maxHeartbeats 4000000 in
set_option maxRecDepth 100000 in
theorem c_X0_foulPart (l : Launch) (D : va_G) (ad : Nat → Nat) (cA : ClassId) (n : Nat) (F : tF) (G : tG) (a0 : Int32) (a1 : Int32) (a2 : Int32) {r : Int32} (h : p_X0_foulPart a0 a1 a2 = some r) : CI l yX0_foulPart wsX0_foulPart ({ frames := 0, cells := 0, slots := 0, locals := 0 } : Room) D cA (wC ad cA F G) [.int (a0), .int (a1), .int (a2)] r (wC ad cA F G) := by
  rw [p_X0_foulPart] at h
  refine metIr (w := wC ad cA) (cc := cX0_foulPart) (maxL := 4) (by decide) rfl (Nat.le_of_ble_eq_true rfl) ?_
  intro p e s m args below meth c A ls Q hE hret
  obtain ⟨hx, hb, hts, hown, hml, hP, hK, hD, hN, hA, hl⟩ := hE
  have hown : s.vm.findClass RX0 = some m.cls := hown
  have hl : lv_has ls 4 [(0, .int (a0)), (1, .int (a1)), (2, .int (a2))] := hl
  have hS : va_S A s.heap s.heap [] := va_S.rf
  refine lv_iload_n hx hb dX0_foulPart_0 rfl (lv_at hl 1 rfl) ?_
  refine lv_iload_n hx hb dX0_foulPart_1 rfl (lv_at hl 2 rfl) ?_
  refine lv_iadd hx hb dX0_foulPart_2 ?_
  refine lv_topi (fun x3 ex3 => ?_)
  replace h := pl h ex3
  refine lv_istore_n (lv' := [(3, .int (x3)), (0, .int (a0)), (1, .int (a1)), (2, .int (a2))]) hx hb dX0_foulPart_3 rfl hl (by decide) rfl (fun ls hl => ?_)
  refine lv_iload_n hx hb dX0_foulPart_4 rfl (lv_at hl 0 rfl) ?_
  obtain ⟨y5_0, q5, h⟩ := bi1e h
  have J5 : ∀ (wy5_0 : Int32), some (wy5_0) = some (y5_0) → ∀ (H : Heap) (locs : List Loc) (ls : Array Slot), va_P D vwCl (wC ad cA F G) H → va_D A (wC ad cA F G) → va_S A s.heap H locs → lv_has ls 4 [(3, .int (x3)), (0, .int (a0)), (1, .int (a1)), (2, .int (a2))] → W p l e ({ frames := 0, cells := 0, slots := 0, locals := 0 } : Room) s m args below meth c H locs 0 0 Q (F0 m 21 ls [.int (wy5_0)]) := by
    intro wy5_0 e9 H locs ls hP hD hS hl
    cases e9
    exact hret _ _ _ _ _ dX0_foulPart_21 h hP hD hS
  refine lv_if_gt (tgt := 12) hx hb dX0_foulPart_5 (by decide) (fun c5 => ?_) (fun c5 => ?_)
  · replace q5 := ifp q5 c5
    refine lv_iload_n hx hb dX0_foulPart_12 rfl (lv_at hl 1 rfl) ?_
    refine lv_i2l (v := a0.toInt64) hx hb dX0_foulPart_13 rfl ?_
    refine lv_iload_n hx hb dX0_foulPart_14 rfl (lv_at hl 3 rfl) ?_
    refine lv_i2l (v := a2.toInt64) hx hb dX0_foulPart_15 rfl ?_
    refine lv_lmul hx hb dX0_foulPart_16 ?_
    refine lv_iload_n hx hb dX0_foulPart_17 rfl (lv_at hl 0 rfl) ?_
    refine lv_i2l (v := x3.toInt64) hx hb dX0_foulPart_18 rfl ?_
    obtain ⟨g19, q5⟩ := og q5
    refine lv_ldiv hx hb dX0_foulPart_19 (nzL_ne g19) ?_
    refine lv_l2i (v := ((a0.toInt64 * a2.toInt64) / x3.toInt64).toInt32) hx hb dX0_foulPart_20 rfl ?_
    exact J5 _ q5 _ _ _ hP hD hS (lv_sub hl [0, 1, 2, 3] rfl)
  · replace q5 := ifn q5 c5
    refine lv_iconst (v := 0) hx hb dX0_foulPart_8 (by decide) ?_
    refine lv_goto (tgt := 21) hx hb dX0_foulPart_9 (by decide) ?_
    exact J5 _ q5 _ _ _ hP hD hS (lv_sub hl [0, 1, 2, 3] rfl)

def p_X0_foulness (a0 : Int32) (a1 : Int32) : Option (Int32) :=
  bi1 (p_X0_foulPart 100 a0 a1) (fun x4 => some x4)
set_option maxHeartbeats 4000000 in
set_option maxRecDepth 100000 in
theorem c_X0_foulness (l : Launch) (D : va_G) (ad : Nat → Nat) (cA : ClassId) (n : Nat) (F : tF) (G : tG) (a0 : Int32) (a1 : Int32) {r : Int32} (h : p_X0_foulness a0 a1 = some r) : CI l yX0_foulness wsX0_foulness ({ frames := 1, cells := 0, slots := 0, locals := 23 } : Room) D cA (wC ad cA F G) [.int (a0), .int (a1)] r (wC ad cA F G) := by
  rw [p_X0_foulness] at h
  refine metIr (w := wC ad cA) (cc := cX0_foulness) (maxL := 2) (by decide) rfl (Nat.le_of_ble_eq_true rfl) ?_
  intro p e s m args below meth c A ls Q hE hret
  obtain ⟨hx, hb, hts, hown, hml, hP, hK, hD, hN, hA, hl⟩ := hE
  have hown : s.vm.findClass RX0 = some m.cls := hown
  have hl : lv_has ls 2 [(0, .int (a0)), (1, .int (a1))] := hl
  have hS : va_S A s.heap s.heap [] := va_S.rf
  refine lv_bipush (v := 100) hx hb dX0_foulness_0 (by decide) ?_
  refine lv_iload_n hx hb dX0_foulness_2 rfl (lv_at hl 0 rfl) ?_
  refine lv_iload_n hx hb dX0_foulness_3 rfl (lv_at hl 1 rfl) ?_
  obtain ⟨x4, h4, h⟩ := bi1e h
  refine callSI (As := [.int (100), .int (a0), .int (a1)]) (rest := []) ⟨hx, hb, hml, hown, hts⟩ (c_X0_foulPart l D ad cA n F G 100 a0 a1 h4) (va_cwS 3 hts gX0_foulness_X0_foulPart rfl rfl rfl (by decide +kernel) ⟨Nat.le_of_ble_eq_true rfl, Nat.le_of_ble_eq_true rfl⟩) hP hK hD hN hS hA rfl hl.1 rfl (Nat.le_of_ble_eq_true rfl) dX0_foulness_4 ⟨Nat.zero_le _, Nat.zero_le _⟩ (fun H locs hP hD hS => ?_)
  exact hret _ _ _ _ _ dX0_foulness_7 h hP hD hS

def p_X0_most (F : tF) : Option (Int32) :=
  some (((F 1) * (10 + (F 2))) / 10)
set_option maxHeartbeats 4000000 in
set_option maxRecDepth 100000 in
theorem c_X0_most (l : Launch) (D : va_G) (ad : Nat → Nat) (cA : ClassId) (n : Nat) (F : tF) (G : tG) {r : Int32} (h : p_X0_most F = some r) : CI l yX0_most wsX0_most ({ frames := 0, cells := 0, slots := 0, locals := 0 } : Room) D cA (wC ad cA F G) [.ref (ad 1)] r (wC ad cA F G) := by
  rw [p_X0_most] at h
  refine metIr (w := wC ad cA) (cc := cX0_most) (maxL := 1) (by decide) rfl (Nat.le_of_ble_eq_true rfl) ?_
  intro p e s m args below meth c A ls Q hE hret
  obtain ⟨hx, hb, hts, hown, hml, hP, hK, hD, hN, hA, hl⟩ := hE
  have hown : s.vm.findClass RX0 = some m.cls := hown
  have hl : lv_has ls 1 [(0, .ref (ad 1))] := hl
  have hS : va_S A s.heap s.heap [] := va_S.rf
  have k_0 : (Cond.fieldLink RX0 25 "BellBook$Bell" "room" "I").before args s = true := hts _ (List.mem_of_getElem? (i := 1) rfl)
  have n_0 : ∀ w ∈ u_ws RX0 TX0 12, w ∈ wsX0_most := fun w hw => List.mem_cons_of_mem _ (List.mem_append_right _ hw)
  have k_2 : (Cond.fieldLink RX0 9 "BellBook$Bell" "depth" "I").before args s = true := hts _ (List.mem_of_getElem? (i := 2) rfl)
  refine lv_aload_n hx hb dX0_most_0 rfl (lv_at hl 0 rfl) ?_
  refine va_get (D := D) (ci := 0) (fs := vX0 ad F) (v := .int ((F 1))) (C := RX0) (T := TX0) (N := 12) hx hb hts n_0 hown hK hP 1 wCg1 rfl 0 (by decide) k_0 (fun _ h9 => h9) rfl dX0_most_1 ?_
  refine lv_bipush (v := 10) hx hb dX0_most_4 (by decide) ?_
  refine lv_aload_n hx hb dX0_most_6 rfl (lv_at hl 0 rfl) ?_
  refine va_get (D := D) (ci := 0) (fs := vX0 ad F) (v := .int ((F 2))) (C := RX0) (T := TX0) (N := 12) hx hb hts n_0 hown hK hP 1 wCg1 rfl 1 (by decide) k_2 (fun _ h9 => h9) rfl dX0_most_7 ?_
  refine lv_iadd hx hb dX0_most_10 ?_
  refine lv_imul hx hb dX0_most_11 ?_
  refine lv_bipush (v := 10) hx hb dX0_most_12 (by decide) ?_
  refine lv_idiv hx hb dX0_most_14 (by decide) ?_
  exact hret _ _ _ _ _ dX0_most_15 h hP hD hS

def p_X0_fewestBarrels_L13 (F : tF) (a1 : Int32) (K13 : Int32 → Int32 → Int32 → Option (Int32)) : Nat → Int32 → Int32 → Int32 → Option (Int32)
  | 0, _, _, _ => none
  | k13 + 1, z13_0, z13_1, z13_2 => (if 40 < z13_0 then K13 z13_0 z13_1 z13_2 else bi1 (p_X0_foulness z13_2 z13_1) (fun x22 => (if (F 12) < x22 then plet (z13_2 + a1) (fun (x38 : Int32) => bi1 (p_X0_most F) (fun x44 => plet (if 0 < ((x38 + z13_1) - x44) then ((x38 + z13_1) - x44) else 0) (fun (x51 : Int32) => bi1 (p_X0_foulPart x51 x38 z13_1) (fun x57 => plet (z13_1 - x57) (fun (x66 : Int32) => plet (x38 - (x51 - x57)) (fun (x74 : Int32) => plet (z13_0 + 1) (fun (x75 : Int32) => p_X0_fewestBarrels_L13 F a1 K13 k13 x75 x66 x74))))))) else some z13_0)))
theorem p_X0_fewestBarrels_L13_k {F : tF} {a1 : Int32} {K0 : Int32 → Int32 → Int32 → Option (Int32)} {k : Nat} {z13_0 : Int32} {z13_1 : Int32} {z13_2 : Int32} {x : Int32} (h : p_X0_fewestBarrels_L13 F a1 K0 k z13_0 z13_1 z13_2 = some x) : ∃ K, K = K0 ∧ p_X0_fewestBarrels_L13 F a1 K k z13_0 z13_1 z13_2 = some x := ⟨K0, rfl, h⟩
def p_X0_fewestBarrels (n : Nat) (F : tF) (a1 : Int32) : Option (Int32) :=
  plet (F 3) (fun (x4 : Int32) => plet (F 4) (fun (x9 : Int32) => p_X0_fewestBarrels_L13 F a1 (fun (z13_0 : Int32) (z13_1 : Int32) (z13_2 : Int32) => some (-6)) n 0 x9 x4))
set_option maxHeartbeats 4000000 in
set_option maxRecDepth 100000 in
theorem c_X0_fewestBarrels (l : Launch) (D : va_G) (ad : Nat → Nat) (cA : ClassId) (n : Nat) (F : tF) (G : tG) (a1 : Int32) {r : Int32} (h : p_X0_fewestBarrels n F a1 = some r) : CI l yX0_fewestBarrels wsX0_fewestBarrels ({ frames := 2, cells := 0, slots := 0, locals := 44 } : Room) D cA (wC ad cA F G) [.ref (ad 1), .int (a1)] r (wC ad cA F G) := by
  rw [p_X0_fewestBarrels] at h
  refine metIr (w := wC ad cA) (cc := cX0_fewestBarrels) (maxL := 7) (by decide) rfl (Nat.le_of_ble_eq_true rfl) ?_
  intro p e s m args below meth c A ls Q hE hret
  obtain ⟨hx, hb, hts, hown, hml, hP, hK, hD, hN, hA, hl⟩ := hE
  have hown : s.vm.findClass RX0 = some m.cls := hown
  have hl : lv_has ls 7 [(0, .ref (ad 1)), (1, .int (a1))] := hl
  have hS : va_S A s.heap s.heap [] := va_S.rf
  have k_0 : (Cond.fieldLink RX0 28 "BellBook$Bell" "fresh" "I").before args s = true := hts _ (List.mem_of_getElem? (i := 1) rfl)
  have n_0 : ∀ w ∈ u_ws RX0 TX0 12, w ∈ wsX0_fewestBarrels := fun w hw => List.mem_cons_of_mem _ (List.mem_append_right _ hw)
  have k_2 : (Cond.fieldLink RX0 31 "BellBook$Bell" "foul" "I").before args s = true := hts _ (List.mem_of_getElem? (i := 2) rfl)
  have k_3 : (Cond.fieldLink RX0 18 "BellBook$Bell" "limit" "I").before args s = true := hts _ (List.mem_of_getElem? (i := 3) rfl)
  have k_4 : (Cond.methodLink RX0 63 Lib.Math.max.name).before args s = true := hts _ (List.mem_of_getElem? (i := 4) rfl)
  have k_5 : (Cond.static Lib.Math.max.name).before args s = true := hts _ (List.mem_of_getElem? (i := 5) rfl)
  have k_6 : (Cond.initialized "java/lang/Math").before args s = true := hts _ (List.mem_of_getElem? (i := 6) rfl)
  have k_7 : (Cond.code Lib.Math.max.name Lib.Math.max.code 2 (some .int)).before args s = true := hts _ (List.mem_of_getElem? (i := 7) rfl)
  refine lv_aload_n hx hb dX0_fewestBarrels_0 rfl (lv_at hl 0 rfl) ?_
  refine va_get (D := D) (ci := 0) (fs := vX0 ad F) (v := .int ((F 3))) (C := RX0) (T := TX0) (N := 12) hx hb hts n_0 hown hK hP 1 wCg1 rfl 2 (by decide) k_0 (fun _ h9 => h9) rfl dX0_fewestBarrels_1 ?_
  refine lv_topi (fun x4 ex4 => ?_)
  replace h := pl h ex4
  refine lv_istore_n (lv' := [(2, .int (x4)), (0, .ref (ad 1)), (1, .int (a1))]) hx hb dX0_fewestBarrels_4 rfl hl (by decide) rfl (fun ls hl => ?_)
  refine lv_aload_n hx hb dX0_fewestBarrels_5 rfl (lv_at hl 1 rfl) ?_
  refine va_get (D := D) (ci := 0) (fs := vX0 ad F) (v := .int ((F 4))) (C := RX0) (T := TX0) (N := 12) hx hb hts n_0 hown hK hP 1 wCg1 rfl 3 (by decide) k_2 (fun _ h9 => h9) rfl dX0_fewestBarrels_6 ?_
  refine lv_topi (fun x9 ex9 => ?_)
  replace h := pl h ex9
  refine lv_istore_n (lv' := [(3, .int (x9)), (2, .int (x4)), (0, .ref (ad 1)), (1, .int (a1))]) hx hb dX0_fewestBarrels_9 rfl hl (by decide) rfl (fun ls hl => ?_)
  refine lv_iconst (v := 0) hx hb dX0_fewestBarrels_10 (by decide) ?_
  refine lv_istore (lv' := [(4, .int (0)), (3, .int (x9)), (2, .int (x4)), (0, .ref (ad 1)), (1, .int (a1))]) hx hb dX0_fewestBarrels_11 hl (by decide) rfl (fun ls hl => ?_)
  obtain ⟨K13, eK13, h⟩ := p_X0_fewestBarrels_L13_k h
  have JE13 : ∀ (z13_0 : Int32) (z13_1 : Int32) (z13_2 : Int32) (H : Heap) (locs : List Loc) (ls : Array Slot), K13 z13_0 z13_1 z13_2 = some r → va_P D vwCl (wC ad cA F G) H → va_D A (wC ad cA F G) → va_S A s.heap H locs → lv_has ls 7 [(4, .int (z13_0)), (3, .int (z13_1)), (2, .int (z13_2)), (0, .ref (ad 1)), (1, .int (a1))] → W p l e ({ frames := 2, cells := 0, slots := 0, locals := 44 } : Room) s m args below meth c H locs 0 0 Q (F0 m 81 ls []) := by
    intro z13_0 z13_1 z13_2 H locs ls h hP hD hS hl
    rw [eK13] at h
    refine lv_bipush (v := (-6)) hx hb dX0_fewestBarrels_81 (by decide) ?_
    exact hret _ _ _ _ _ dX0_fewestBarrels_83 h hP hD hS
  have LL13 : ∀ (k : Nat) (z13_0 : Int32) (z13_1 : Int32) (z13_2 : Int32) (H : Heap) (locs : List Loc) (ls : Array Slot), p_X0_fewestBarrels_L13 F a1 K13 k z13_0 z13_1 z13_2 = some r → va_P D vwCl (wC ad cA F G) H → va_D A (wC ad cA F G) → va_S A s.heap H locs → lv_has ls 7 [(4, .int (z13_0)), (3, .int (z13_1)), (2, .int (z13_2)), (0, .ref (ad 1)), (1, .int (a1))] → W p l e ({ frames := 2, cells := 0, slots := 0, locals := 44 } : Room) s m args below meth c H locs 0 0 Q (F0 m 13 ls []) := by
    intro k
    induction k with
    | zero =>
      intro z13_0 z13_1 z13_2 H locs ls h hP hD hS hl
      rw [p_X0_fewestBarrels_L13] at h
      cases h
    | succ k13 ih13 =>
      intro z13_0 z13_1 z13_2 H locs ls h hP hD hS hl
      rw [p_X0_fewestBarrels_L13] at h
      refine lv_iload hx hb dX0_fewestBarrels_13 (lv_at hl 0 rfl) ?_
      refine lv_bipush (v := 40) hx hb dX0_fewestBarrels_15 (by decide) ?_
      refine lv_icmp_gt (tgt := 81) hx hb dX0_fewestBarrels_17 (by decide) (fun c17 => ?_) (fun c17 => ?_)
      · replace h := ifp h c17
        exact JE13 _ _ _ _ _ _ h hP hD hS (lv_sub hl [0, 1, 2, 3, 4] rfl)
      · replace h := ifn h c17
        refine lv_iload_n hx hb dX0_fewestBarrels_20 rfl (lv_at hl 2 rfl) ?_
        refine lv_iload_n hx hb dX0_fewestBarrels_21 rfl (lv_at hl 1 rfl) ?_
        obtain ⟨x22, h22, h⟩ := bi1e h
        refine callSI (As := [.int (z13_2), .int (z13_1)]) (rest := []) ⟨hx, hb, hml, hown, hts⟩ (c_X0_foulness l D ad cA n F G z13_2 z13_1 h22) (va_cwS 2 hts gX0_fewestBarrels_X0_foulness rfl rfl rfl (by decide +kernel) ⟨Nat.le_of_ble_eq_true rfl, Nat.le_of_ble_eq_true rfl⟩) hP hK hD hN hS hA rfl hl.1 rfl (Nat.le_of_ble_eq_true rfl) dX0_fewestBarrels_22 ⟨Nat.zero_le _, Nat.zero_le _⟩ (fun H locs hP hD hS => ?_)
        refine lv_aload_n hx hb dX0_fewestBarrels_25 rfl (lv_at hl 3 rfl) ?_
        refine va_get (D := D) (ci := 0) (fs := vX0 ad F) (v := .int ((F 12))) (C := RX0) (T := TX0) (N := 12) hx hb hts n_0 hown hK hP 1 wCg1 rfl 11 (by decide) k_3 (fun _ h9 => h9) rfl dX0_fewestBarrels_26 ?_
        refine lv_icmp_gt (tgt := 35) hx hb dX0_fewestBarrels_29 (by decide) (fun c29 => ?_) (fun c29 => ?_)
        · replace h := ifp h c29
          refine lv_iload_n hx hb dX0_fewestBarrels_35 rfl (lv_at hl 2 rfl) ?_
          refine lv_iload_n hx hb dX0_fewestBarrels_36 rfl (lv_at hl 4 rfl) ?_
          refine lv_iadd hx hb dX0_fewestBarrels_37 ?_
          refine lv_topi (fun x38 ex38 => ?_)
          replace h := pl h ex38
          refine lv_istore_n (lv' := [(2, .int (x38)), (4, .int (z13_0)), (3, .int (z13_1)), (0, .ref (ad 1)), (1, .int (a1))]) hx hb dX0_fewestBarrels_38 rfl hl (by decide) rfl (fun ls hl => ?_)
          refine lv_iconst (v := 0) hx hb dX0_fewestBarrels_39 (by decide) ?_
          refine lv_iload_n hx hb dX0_fewestBarrels_40 rfl (lv_at hl 0 rfl) ?_
          refine lv_iload_n hx hb dX0_fewestBarrels_41 rfl (lv_at hl 2 rfl) ?_
          refine lv_iadd hx hb dX0_fewestBarrels_42 ?_
          refine lv_aload_n hx hb dX0_fewestBarrels_43 rfl (lv_at hl 3 rfl) ?_
          obtain ⟨x44, h44, h⟩ := bi1e h
          refine callVI (b := ad 1) (As := []) (rest := [.int ((x38 + z13_1)), .int (0)]) ⟨hx, hb, hml, hown, hts⟩ (c_X0_most l D ad cA n F G h44) (cwV 0 hts gX0_fewestBarrels_X0_most rfl rfl rfl (by decide +kernel) ⟨Nat.le_of_ble_eq_true rfl, Nat.le_of_ble_eq_true rfl⟩) (va_recv hK hP (ci := 0) (q0 := 1) rfl wCg1) hP hK hD hN hS hA rfl hl.1 rfl (Nat.le_of_ble_eq_true rfl) dX0_fewestBarrels_44 ⟨Nat.zero_le _, Nat.zero_le _⟩ (fun H locs hP hD hS => ?_)
          refine lv_isub hx hb dX0_fewestBarrels_47 ?_
          refine va_mmax hx hb (hml.trans hl.1.symm) hown k_4 k_5 k_6 k_7 (Nat.le_of_ble_eq_true rfl) (Nat.le_of_ble_eq_true rfl) (Nat.zero_le _) (Nat.zero_le _) dX0_fewestBarrels_48 ?_
          refine lv_topi (fun x51 ex51 => ?_)
          replace h := pl h ex51
          refine lv_istore (lv' := [(5, .int (x51)), (2, .int (x38)), (4, .int (z13_0)), (3, .int (z13_1)), (0, .ref (ad 1)), (1, .int (a1))]) hx hb dX0_fewestBarrels_51 hl (by decide) rfl (fun ls hl => ?_)
          refine lv_iload hx hb dX0_fewestBarrels_53 (lv_at hl 0 rfl) ?_
          refine lv_iload_n hx hb dX0_fewestBarrels_55 rfl (lv_at hl 1 rfl) ?_
          refine lv_iload_n hx hb dX0_fewestBarrels_56 rfl (lv_at hl 3 rfl) ?_
          obtain ⟨x57, h57, h⟩ := bi1e h
          refine callSI (As := [.int (x51), .int (x38), .int (z13_1)]) (rest := []) ⟨hx, hb, hml, hown, hts⟩ (c_X0_foulPart l D ad cA n F G x51 x38 z13_1 h57) (va_cwS 3 hts gX0_fewestBarrels_X0_foulPart rfl rfl rfl (by decide +kernel) ⟨Nat.le_of_ble_eq_true rfl, Nat.le_of_ble_eq_true rfl⟩) hP hK hD hN hS hA rfl hl.1 rfl (Nat.le_of_ble_eq_true rfl) dX0_fewestBarrels_57 ⟨Nat.zero_le _, Nat.zero_le _⟩ (fun H locs hP hD hS => ?_)
          refine lv_istore (lv' := [(6, .int (x57)), (5, .int (x51)), (2, .int (x38)), (4, .int (z13_0)), (3, .int (z13_1)), (0, .ref (ad 1)), (1, .int (a1))]) hx hb dX0_fewestBarrels_60 hl (by decide) rfl (fun ls hl => ?_)
          refine lv_iload_n hx hb dX0_fewestBarrels_62 rfl (lv_at hl 4 rfl) ?_
          refine lv_iload hx hb dX0_fewestBarrels_63 (lv_at hl 0 rfl) ?_
          refine lv_isub hx hb dX0_fewestBarrels_65 ?_
          refine lv_topi (fun x66 ex66 => ?_)
          replace h := pl h ex66
          refine lv_istore_n (lv' := [(3, .int (x66)), (6, .int (x57)), (5, .int (x51)), (2, .int (x38)), (4, .int (z13_0)), (0, .ref (ad 1)), (1, .int (a1))]) hx hb dX0_fewestBarrels_66 rfl hl (by decide) rfl (fun ls hl => ?_)
          refine lv_iload_n hx hb dX0_fewestBarrels_67 rfl (lv_at hl 3 rfl) ?_
          refine lv_iload hx hb dX0_fewestBarrels_68 (lv_at hl 2 rfl) ?_
          refine lv_iload hx hb dX0_fewestBarrels_70 (lv_at hl 1 rfl) ?_
          refine lv_isub hx hb dX0_fewestBarrels_72 ?_
          refine lv_isub hx hb dX0_fewestBarrels_73 ?_
          refine lv_topi (fun x74 ex74 => ?_)
          replace h := pl h ex74
          refine lv_istore_n (lv' := [(2, .int (x74)), (3, .int (x66)), (6, .int (x57)), (5, .int (x51)), (4, .int (z13_0)), (0, .ref (ad 1)), (1, .int (a1))]) hx hb dX0_fewestBarrels_74 rfl hl (by decide) rfl (fun ls hl => ?_)
          obtain ⟨x75, ex75⟩ : ∃ z : Int32, z = (z13_0 + 1) := ⟨_, rfl⟩
          replace h := pl h ex75
          refine lv_iinc (v := x75) (lv' := [(4, .int (x75)), (2, .int (x74)), (3, .int (x66)), (6, .int (x57)), (5, .int (x51)), (0, .ref (ad 1)), (1, .int (a1))]) hx hb dX0_fewestBarrels_75 hl (k := 4) rfl (by rw [ex75]; rfl) (by decide) rfl (fun ls hl => ?_)
          refine lv_goto (tgt := 13) hx hb dX0_fewestBarrels_78 (by decide) ?_
          exact ih13 _ _ _ _ _ _ h hP hD hS (lv_sub hl [0, 2, 1, 5, 6] rfl)
        · replace h := ifn h c29
          refine lv_iload hx hb dX0_fewestBarrels_32 (lv_at hl 0 rfl) ?_
          exact hret _ _ _ _ _ dX0_fewestBarrels_34 h hP hD hS
  exact LL13 n 0 x9 x4 _ _ _ h hP hD hS (lv_sub hl [0, 1, 2, 3, 4] rfl)

def p_X0_lasts (F : tF) (a1 : Int32) : Option (Int32) :=
  plet (a1 * (F 11)) (fun (x6 : Int32) => bi1 ((if 0 < x6 then oguard (nzB x6) (some (((F 3) / x6))) else some (100000))) (fun (y8_0 : Int32) => some y8_0))
set_option maxHeartbeats 4000000 in
set_option maxRecDepth 100000 in
theorem c_X0_lasts (l : Launch) (D : va_G) (ad : Nat → Nat) (cA : ClassId) (n : Nat) (F : tF) (G : tG) (a1 : Int32) {r : Int32} (h : p_X0_lasts F a1 = some r) : CI l yX0_lasts wsX0_lasts ({ frames := 0, cells := 0, slots := 0, locals := 0 } : Room) D cA (wC ad cA F G) [.ref (ad 1), .int (a1)] r (wC ad cA F G) := by
  rw [p_X0_lasts] at h
  refine metIr (w := wC ad cA) (cc := cX0_lasts) (maxL := 3) (by decide) rfl (Nat.le_of_ble_eq_true rfl) ?_
  intro p e s m args below meth c A ls Q hE hret
  obtain ⟨hx, hb, hts, hown, hml, hP, hK, hD, hN, hA, hl⟩ := hE
  have hown : s.vm.findClass RX0 = some m.cls := hown
  have hl : lv_has ls 3 [(0, .ref (ad 1)), (1, .int (a1))] := hl
  have hS : va_S A s.heap s.heap [] := va_S.rf
  have k_0 : (Cond.fieldLink RX0 15 "BellBook$Bell" "breath" "I").before args s = true := hts _ (List.mem_of_getElem? (i := 1) rfl)
  have n_0 : ∀ w ∈ u_ws RX0 TX0 12, w ∈ wsX0_lasts := fun w hw => List.mem_cons_of_mem _ (List.mem_append_right _ hw)
  have k_2 : (Cond.fieldLink RX0 28 "BellBook$Bell" "fresh" "I").before args s = true := hts _ (List.mem_of_getElem? (i := 3) rfl)
  have k_3 : (Cond.constant RX0 79 (100000)).before args s = true := hts _ (List.mem_of_getElem? (i := 2) rfl)
  refine lv_iload_n hx hb dX0_lasts_0 rfl (lv_at hl 1 rfl) ?_
  refine lv_aload_n hx hb dX0_lasts_1 rfl (lv_at hl 0 rfl) ?_
  refine va_get (D := D) (ci := 0) (fs := vX0 ad F) (v := .int ((F 11))) (C := RX0) (T := TX0) (N := 12) hx hb hts n_0 hown hK hP 1 wCg1 rfl 10 (by decide) k_0 (fun _ h9 => h9) rfl dX0_lasts_2 ?_
  refine lv_imul hx hb dX0_lasts_5 ?_
  refine lv_topi (fun x6 ex6 => ?_)
  replace h := pl h ex6
  refine lv_istore_n (lv' := [(2, .int (x6)), (0, .ref (ad 1)), (1, .int (a1))]) hx hb dX0_lasts_6 rfl hl (by decide) rfl (fun ls hl => ?_)
  refine lv_iload_n hx hb dX0_lasts_7 rfl (lv_at hl 0 rfl) ?_
  obtain ⟨y8_0, q8, h⟩ := bi1e h
  have J8 : ∀ (wy8_0 : Int32), some (wy8_0) = some (y8_0) → ∀ (H : Heap) (locs : List Loc) (ls : Array Slot), va_P D vwCl (wC ad cA F G) H → va_D A (wC ad cA F G) → va_S A s.heap H locs → lv_has ls 3 [(2, .int (x6)), (0, .ref (ad 1)), (1, .int (a1))] → W p l e ({ frames := 0, cells := 0, slots := 0, locals := 0 } : Room) s m args below meth c H locs 0 0 Q (F0 m 22 ls [.int (wy8_0)]) := by
    intro wy8_0 e9 H locs ls hP hD hS hl
    cases e9
    exact hret _ _ _ _ _ dX0_lasts_22 h hP hD hS
  refine lv_if_gt (tgt := 16) hx hb dX0_lasts_8 (by decide) (fun c8 => ?_) (fun c8 => ?_)
  · replace q8 := ifp q8 c8
    refine lv_aload_n hx hb dX0_lasts_16 rfl (lv_at hl 1 rfl) ?_
    refine va_get (D := D) (ci := 0) (fs := vX0 ad F) (v := .int ((F 3))) (C := RX0) (T := TX0) (N := 12) hx hb hts n_0 hown hK hP 1 wCg1 rfl 2 (by decide) k_2 (fun _ h9 => h9) rfl dX0_lasts_17 ?_
    refine lv_iload_n hx hb dX0_lasts_20 rfl (lv_at hl 0 rfl) ?_
    obtain ⟨g21, q8⟩ := og q8
    refine lv_idiv hx hb dX0_lasts_21 (nzB_ne g21) ?_
    exact J8 _ q8 _ _ _ hP hD hS (lv_sub hl [0, 1, 2] rfl)
  · replace q8 := ifn q8 c8
    refine lv_ldc (v := 100000) hx hb hown k_3 dX0_lasts_11 ?_
    refine lv_goto (tgt := 22) hx hb dX0_lasts_13 (by decide) ?_
    exact J8 _ q8 _ _ _ hP hD hS (lv_sub hl [0, 1, 2] rfl)

def p_X0_spill (F : tF) (G : tG) (a1 : Int32) : Option (Int32 × tF × tG) :=
  bi1 (p_X0_foulPart a1 (F 3) (F 4)) (fun x9 => plet (upd F 4 ((F 4) - x9)) (fun (F20 : tF) => plet (upd F20 3 ((F20 3) - (a1 - x9))) (fun (F32 : tF) => plet (upd F32 7 ((F32 7) + a1)) (fun (F42 : tF) => some (a1, F42, G)))))
set_option maxHeartbeats 4000000 in
set_option maxRecDepth 100000 in
theorem c_X0_spill (l : Launch) (D : va_G) (ad : Nat → Nat) (cA : ClassId) (n : Nat) (F : tF) (G : tG) (a1 : Int32) {r : Int32} {F' : tF} {G' : tG} (h : p_X0_spill F G a1 = some (r, F', G')) : CI l yX0_spill wsX0_spill ({ frames := 1, cells := 0, slots := 0, locals := 23 } : Room) D cA (wC ad cA F G) [.ref (ad 1), .int (a1)] r (wC ad cA F' G') := by
  rw [p_X0_spill] at h
  refine metIm (w := wC ad cA) (cc := cX0_spill) (maxL := 3) (by decide) rfl (Nat.le_of_ble_eq_true rfl) ?_
  intro p e s m args below meth c A ls Q hE hret
  obtain ⟨hx, hb, hts, hown, hml, hP, hK, hD, hN, hA, hl⟩ := hE
  have hown : s.vm.findClass RX0 = some m.cls := hown
  have hl : lv_has ls 3 [(0, .ref (ad 1)), (1, .int (a1))] := hl
  have hS : va_S A s.heap s.heap [] := va_S.rf
  have k_0 : (Cond.fieldLink RX0 28 "BellBook$Bell" "fresh" "I").before args s = true := hts _ (List.mem_of_getElem? (i := 1) rfl)
  have n_0 : ∀ w ∈ u_ws RX0 TX0 12, w ∈ wsX0_spill := fun w hw => List.mem_cons_of_mem _ (List.mem_append_right _ hw)
  have k_2 : (Cond.fieldLink RX0 31 "BellBook$Bell" "foul" "I").before args s = true := hts _ (List.mem_of_getElem? (i := 2) rfl)
  have k_3 : (Cond.fieldLink RX0 40 "BellBook$Bell" "spilled" "I").before args s = true := hts _ (List.mem_of_getElem? (i := 3) rfl)
  refine lv_iload_n hx hb dX0_spill_0 rfl (lv_at hl 1 rfl) ?_
  refine lv_aload_n hx hb dX0_spill_1 rfl (lv_at hl 0 rfl) ?_
  refine va_get (D := D) (ci := 0) (fs := vX0 ad F) (v := .int ((F 3))) (C := RX0) (T := TX0) (N := 12) hx hb hts n_0 hown hK hP 1 wCg1 rfl 2 (by decide) k_0 (fun _ h9 => h9) rfl dX0_spill_2 ?_
  refine lv_aload_n hx hb dX0_spill_5 rfl (lv_at hl 0 rfl) ?_
  refine va_get (D := D) (ci := 0) (fs := vX0 ad F) (v := .int ((F 4))) (C := RX0) (T := TX0) (N := 12) hx hb hts n_0 hown hK hP 1 wCg1 rfl 3 (by decide) k_2 (fun _ h9 => h9) rfl dX0_spill_6 ?_
  obtain ⟨x9, h9, h⟩ := bi1e h
  refine callSI (As := [.int (a1), .int ((F 3)), .int ((F 4))]) (rest := []) ⟨hx, hb, hml, hown, hts⟩ (c_X0_foulPart l D ad cA n F G a1 (F 3) (F 4) h9) (va_cwS 3 hts gX0_spill_X0_foulPart rfl rfl rfl (by decide +kernel) ⟨Nat.le_of_ble_eq_true rfl, Nat.le_of_ble_eq_true rfl⟩) hP hK hD hN hS hA rfl hl.1 rfl (Nat.le_of_ble_eq_true rfl) dX0_spill_9 ⟨Nat.zero_le _, Nat.zero_le _⟩ (fun H locs hP hD hS => ?_)
  refine lv_istore_n (lv' := [(2, .int (x9)), (0, .ref (ad 1)), (1, .int (a1))]) hx hb dX0_spill_12 rfl hl (by decide) rfl (fun ls hl => ?_)
  refine lv_aload_n hx hb dX0_spill_13 rfl (lv_at hl 1 rfl) ?_
  refine lv_dup hx hb dX0_spill_14 rfl ?_
  refine va_get (D := D) (ci := 0) (fs := vX0 ad F) (v := .int ((F 4))) (C := RX0) (T := TX0) (N := 12) hx hb hts n_0 hown hK hP 1 wCg1 rfl 3 (by decide) k_2 (fun _ h9 => h9) rfl dX0_spill_15 ?_
  refine lv_iload_n hx hb dX0_spill_18 rfl (lv_at hl 0 rfl) ?_
  refine lv_isub hx hb dX0_spill_19 ?_
  obtain ⟨F20, eF20⟩ : ∃ f : tF, f = upd F 4 ((F 4) - x9) := ⟨_, rfl⟩
  replace h := pl h eF20
  refine va_put (D := D) (ci := 0) (fs := vX0 ad F) (v := .int (((F 4) - x9))) (ty := .int) (C := RX0) (T := TX0) (N := 12) hx hb hts n_0 tyX0 tyX0_ok nmX0 hown hK hP hD hS 1 wCg1 rfl 3 (by decide) k_2 (fun _ h9 => h9) rfl (tyX0_ok 3 (by decide)) rfl rfl (Nat.le_of_ble_eq_true rfl) dX0_spill_20 (fun H locs hP hD hS => ?_)
  rw [wCp4 eF20] at hP hD
  refine lv_aload_n hx hb dX0_spill_23 rfl (lv_at hl 1 rfl) ?_
  refine lv_dup hx hb dX0_spill_24 rfl ?_
  refine va_get (D := D) (ci := 0) (fs := vX0 ad F20) (v := .int ((F20 3))) (C := RX0) (T := TX0) (N := 12) hx hb hts n_0 hown hK hP 1 wCg1 rfl 2 (by decide) k_0 (fun _ h9 => h9) rfl dX0_spill_25 ?_
  refine lv_iload_n hx hb dX0_spill_28 rfl (lv_at hl 2 rfl) ?_
  refine lv_iload_n hx hb dX0_spill_29 rfl (lv_at hl 0 rfl) ?_
  refine lv_isub hx hb dX0_spill_30 ?_
  refine lv_isub hx hb dX0_spill_31 ?_
  obtain ⟨F32, eF32⟩ : ∃ f : tF, f = upd F20 3 ((F20 3) - (a1 - x9)) := ⟨_, rfl⟩
  replace h := pl h eF32
  refine va_put (D := D) (ci := 0) (fs := vX0 ad F20) (v := .int (((F20 3) - (a1 - x9)))) (ty := .int) (C := RX0) (T := TX0) (N := 12) hx hb hts n_0 tyX0 tyX0_ok nmX0 hown hK hP hD hS 1 wCg1 rfl 2 (by decide) k_0 (fun _ h9 => h9) rfl (tyX0_ok 2 (by decide)) rfl rfl (Nat.le_of_ble_eq_true rfl) dX0_spill_32 (fun H locs hP hD hS => ?_)
  rw [wCp3 eF32] at hP hD
  refine lv_aload_n hx hb dX0_spill_35 rfl (lv_at hl 1 rfl) ?_
  refine lv_dup hx hb dX0_spill_36 rfl ?_
  refine va_get (D := D) (ci := 0) (fs := vX0 ad F32) (v := .int ((F32 7))) (C := RX0) (T := TX0) (N := 12) hx hb hts n_0 hown hK hP 1 wCg1 rfl 6 (by decide) k_3 (fun _ h9 => h9) rfl dX0_spill_37 ?_
  refine lv_iload_n hx hb dX0_spill_40 rfl (lv_at hl 2 rfl) ?_
  refine lv_iadd hx hb dX0_spill_41 ?_
  obtain ⟨F42, eF42⟩ : ∃ f : tF, f = upd F32 7 ((F32 7) + a1) := ⟨_, rfl⟩
  replace h := pl h eF42
  refine va_put (D := D) (ci := 0) (fs := vX0 ad F32) (v := .int (((F32 7) + a1))) (ty := .int) (C := RX0) (T := TX0) (N := 12) hx hb hts n_0 tyX0 tyX0_ok nmX0 hown hK hP hD hS 1 wCg1 rfl 6 (by decide) k_3 (fun _ h9 => h9) rfl (tyX0_ok 6 (by decide)) rfl rfl (Nat.le_of_ble_eq_true rfl) dX0_spill_42 (fun H locs hP hD hS => ?_)
  rw [wCp7 eF42] at hP hD
  refine lv_iload_n hx hb dX0_spill_45 rfl (lv_at hl 2 rfl) ?_
  exact hret _ _ _ _ _ _ _ dX0_spill_46 h hP hD hS

def p_X0_spillOver (F : tF) (G : tG) : Option (Int32 × tF × tG) :=
  bi1 (p_X0_shares F) (fun x3 => bi1 (p_X0_most F) (fun x7 => bi3 (p_X0_spill F G (if 0 < (x3 - x7) then (x3 - x7) else 0)) (fun x14 F14 G14 => some (x14, F14, G14))))
set_option maxHeartbeats 4000000 in
set_option maxRecDepth 100000 in
theorem c_X0_spillOver (l : Launch) (D : va_G) (ad : Nat → Nat) (cA : ClassId) (n : Nat) (F : tF) (G : tG) {r : Int32} {F' : tF} {G' : tG} (h : p_X0_spillOver F G = some (r, F', G')) : CI l yX0_spillOver wsX0_spillOver ({ frames := 2, cells := 0, slots := 0, locals := 45 } : Room) D cA (wC ad cA F G) [.ref (ad 1)] r (wC ad cA F' G') := by
  rw [p_X0_spillOver] at h
  refine metIm (w := wC ad cA) (cc := cX0_spillOver) (maxL := 1) (by decide) rfl (Nat.le_of_ble_eq_true rfl) ?_
  intro p e s m args below meth c A ls Q hE hret
  obtain ⟨hx, hb, hts, hown, hml, hP, hK, hD, hN, hA, hl⟩ := hE
  have hown : s.vm.findClass RX0 = some m.cls := hown
  have hl : lv_has ls 1 [(0, .ref (ad 1))] := hl
  have hS : va_S A s.heap s.heap [] := va_S.rf
  have k_0 : (Cond.methodLink RX0 63 Lib.Math.max.name).before args s = true := hts _ (List.mem_of_getElem? (i := 1) rfl)
  have k_1 : (Cond.static Lib.Math.max.name).before args s = true := hts _ (List.mem_of_getElem? (i := 2) rfl)
  have k_2 : (Cond.initialized "java/lang/Math").before args s = true := hts _ (List.mem_of_getElem? (i := 3) rfl)
  have k_3 : (Cond.code Lib.Math.max.name Lib.Math.max.code 2 (some .int)).before args s = true := hts _ (List.mem_of_getElem? (i := 4) rfl)
  refine lv_aload_n hx hb dX0_spillOver_0 rfl (lv_at hl 0 rfl) ?_
  refine lv_iconst (v := 0) hx hb dX0_spillOver_1 (by decide) ?_
  refine lv_aload_n hx hb dX0_spillOver_2 rfl (lv_at hl 0 rfl) ?_
  obtain ⟨x3, h3, h⟩ := bi1e h
  refine callVI (b := ad 1) (As := []) (rest := [.int (0), .ref (ad 1)]) ⟨hx, hb, hml, hown, hts⟩ (c_X0_shares l D ad cA n F G h3) (cwV 0 hts gX0_spillOver_X0_shares rfl rfl rfl (by decide +kernel) ⟨Nat.le_of_ble_eq_true rfl, Nat.le_of_ble_eq_true rfl⟩) (va_recv hK hP (ci := 0) (q0 := 1) rfl wCg1) hP hK hD hN hS hA rfl hl.1 rfl (Nat.le_of_ble_eq_true rfl) dX0_spillOver_3 ⟨Nat.zero_le _, Nat.zero_le _⟩ (fun H locs hP hD hS => ?_)
  refine lv_aload_n hx hb dX0_spillOver_6 rfl (lv_at hl 0 rfl) ?_
  obtain ⟨x7, h7, h⟩ := bi1e h
  refine callVI (b := ad 1) (As := []) (rest := [.int (x3), .int (0), .ref (ad 1)]) ⟨hx, hb, hml, hown, hts⟩ (c_X0_most l D ad cA n F G h7) (cwV 0 hts gX0_spillOver_X0_most rfl rfl rfl (by decide +kernel) ⟨Nat.le_of_ble_eq_true rfl, Nat.le_of_ble_eq_true rfl⟩) (va_recv hK hP (ci := 0) (q0 := 1) rfl wCg1) hP hK hD hN hS hA rfl hl.1 rfl (Nat.le_of_ble_eq_true rfl) dX0_spillOver_7 ⟨Nat.zero_le _, Nat.zero_le _⟩ (fun H locs hP hD hS => ?_)
  refine lv_isub hx hb dX0_spillOver_10 ?_
  refine va_mmax hx hb (hml.trans hl.1.symm) hown k_0 k_1 k_2 k_3 (Nat.le_of_ble_eq_true rfl) (Nat.le_of_ble_eq_true rfl) (Nat.zero_le _) (Nat.zero_le _) dX0_spillOver_11 ?_
  obtain ⟨x14, F14, G14, h14, h⟩ := bi3e h
  refine callVI (b := ad 1) (As := [.int ((if 0 < (x3 - x7) then (x3 - x7) else 0))]) (rest := []) ⟨hx, hb, hml, hown, hts⟩ (c_X0_spill l D ad cA n F G (if 0 < (x3 - x7) then (x3 - x7) else 0) h14) (cwV 1 hts gX0_spillOver_X0_spill rfl rfl rfl (by decide +kernel) ⟨Nat.le_of_ble_eq_true rfl, Nat.le_of_ble_eq_true rfl⟩) (va_recv hK hP (ci := 0) (q0 := 1) rfl wCg1) hP hK hD hN hS hA rfl hl.1 rfl (Nat.le_of_ble_eq_true rfl) dX0_spillOver_14 ⟨Nat.zero_le _, Nat.zero_le _⟩ (fun H locs hP hD hS => ?_)
  exact hret _ _ _ _ _ _ _ dX0_spillOver_17 h hP hD hS

def p_X0_letIn (F : tF) (G : tG) (a1 : Int32) : Option (Int32 × tF × tG) :=
  plet (upd F 8 ((F 8) + 1)) (fun (F7 : tF) => plet (upd F7 5 ((F7 5) + a1)) (fun (F17 : tF) => plet (upd F17 3 ((F17 3) + a1)) (fun (F27 : tF) => bi3 (p_X0_spillOver F27 G) (fun x31 F31 G31 => some (x31, F31, G31)))))
set_option maxHeartbeats 4000000 in
set_option maxRecDepth 100000 in
theorem c_X0_letIn (l : Launch) (D : va_G) (ad : Nat → Nat) (cA : ClassId) (n : Nat) (F : tF) (G : tG) (a1 : Int32) {r : Int32} {F' : tF} {G' : tG} (h : p_X0_letIn F G a1 = some (r, F', G')) : CI l yX0_letIn wsX0_letIn ({ frames := 3, cells := 0, slots := 0, locals := 65 } : Room) D cA (wC ad cA F G) [.ref (ad 1), .int (a1)] r (wC ad cA F' G') := by
  rw [p_X0_letIn] at h
  refine metIm (w := wC ad cA) (cc := cX0_letIn) (maxL := 2) (by decide) rfl (Nat.le_of_ble_eq_true rfl) ?_
  intro p e s m args below meth c A ls Q hE hret
  obtain ⟨hx, hb, hts, hown, hml, hP, hK, hD, hN, hA, hl⟩ := hE
  have hown : s.vm.findClass RX0 = some m.cls := hown
  have hl : lv_has ls 2 [(0, .ref (ad 1)), (1, .int (a1))] := hl
  have hS : va_S A s.heap s.heap [] := va_S.rf
  have k_0 : (Cond.fieldLink RX0 43 "BellBook$Bell" "barrels" "I").before args s = true := hts _ (List.mem_of_getElem? (i := 1) rfl)
  have n_0 : ∀ w ∈ u_ws RX0 TX0 12, w ∈ wsX0_letIn := fun w hw => List.mem_cons_of_mem _ (List.mem_append_right _ hw)
  have k_2 : (Cond.fieldLink RX0 34 "BellBook$Bell" "sent" "I").before args s = true := hts _ (List.mem_of_getElem? (i := 2) rfl)
  have k_3 : (Cond.fieldLink RX0 28 "BellBook$Bell" "fresh" "I").before args s = true := hts _ (List.mem_of_getElem? (i := 3) rfl)
  refine lv_aload_n hx hb dX0_letIn_0 rfl (lv_at hl 0 rfl) ?_
  refine lv_dup hx hb dX0_letIn_1 rfl ?_
  refine va_get (D := D) (ci := 0) (fs := vX0 ad F) (v := .int ((F 8))) (C := RX0) (T := TX0) (N := 12) hx hb hts n_0 hown hK hP 1 wCg1 rfl 7 (by decide) k_0 (fun _ h9 => h9) rfl dX0_letIn_2 ?_
  refine lv_iconst (v := 1) hx hb dX0_letIn_5 (by decide) ?_
  refine lv_iadd hx hb dX0_letIn_6 ?_
  obtain ⟨F7, eF7⟩ : ∃ f : tF, f = upd F 8 ((F 8) + 1) := ⟨_, rfl⟩
  replace h := pl h eF7
  refine va_put (D := D) (ci := 0) (fs := vX0 ad F) (v := .int (((F 8) + 1))) (ty := .int) (C := RX0) (T := TX0) (N := 12) hx hb hts n_0 tyX0 tyX0_ok nmX0 hown hK hP hD hS 1 wCg1 rfl 7 (by decide) k_0 (fun _ h9 => h9) rfl (tyX0_ok 7 (by decide)) rfl rfl (Nat.le_of_ble_eq_true rfl) dX0_letIn_7 (fun H locs hP hD hS => ?_)
  rw [wCp8 eF7] at hP hD
  refine lv_aload_n hx hb dX0_letIn_10 rfl (lv_at hl 0 rfl) ?_
  refine lv_dup hx hb dX0_letIn_11 rfl ?_
  refine va_get (D := D) (ci := 0) (fs := vX0 ad F7) (v := .int ((F7 5))) (C := RX0) (T := TX0) (N := 12) hx hb hts n_0 hown hK hP 1 wCg1 rfl 4 (by decide) k_2 (fun _ h9 => h9) rfl dX0_letIn_12 ?_
  refine lv_iload_n hx hb dX0_letIn_15 rfl (lv_at hl 1 rfl) ?_
  refine lv_iadd hx hb dX0_letIn_16 ?_
  obtain ⟨F17, eF17⟩ : ∃ f : tF, f = upd F7 5 ((F7 5) + a1) := ⟨_, rfl⟩
  replace h := pl h eF17
  refine va_put (D := D) (ci := 0) (fs := vX0 ad F7) (v := .int (((F7 5) + a1))) (ty := .int) (C := RX0) (T := TX0) (N := 12) hx hb hts n_0 tyX0 tyX0_ok nmX0 hown hK hP hD hS 1 wCg1 rfl 4 (by decide) k_2 (fun _ h9 => h9) rfl (tyX0_ok 4 (by decide)) rfl rfl (Nat.le_of_ble_eq_true rfl) dX0_letIn_17 (fun H locs hP hD hS => ?_)
  rw [wCp5 eF17] at hP hD
  refine lv_aload_n hx hb dX0_letIn_20 rfl (lv_at hl 0 rfl) ?_
  refine lv_dup hx hb dX0_letIn_21 rfl ?_
  refine va_get (D := D) (ci := 0) (fs := vX0 ad F17) (v := .int ((F17 3))) (C := RX0) (T := TX0) (N := 12) hx hb hts n_0 hown hK hP 1 wCg1 rfl 2 (by decide) k_3 (fun _ h9 => h9) rfl dX0_letIn_22 ?_
  refine lv_iload_n hx hb dX0_letIn_25 rfl (lv_at hl 1 rfl) ?_
  refine lv_iadd hx hb dX0_letIn_26 ?_
  obtain ⟨F27, eF27⟩ : ∃ f : tF, f = upd F17 3 ((F17 3) + a1) := ⟨_, rfl⟩
  replace h := pl h eF27
  refine va_put (D := D) (ci := 0) (fs := vX0 ad F17) (v := .int (((F17 3) + a1))) (ty := .int) (C := RX0) (T := TX0) (N := 12) hx hb hts n_0 tyX0 tyX0_ok nmX0 hown hK hP hD hS 1 wCg1 rfl 2 (by decide) k_3 (fun _ h9 => h9) rfl (tyX0_ok 2 (by decide)) rfl rfl (Nat.le_of_ble_eq_true rfl) dX0_letIn_27 (fun H locs hP hD hS => ?_)
  rw [wCp3 eF27] at hP hD
  refine lv_aload_n hx hb dX0_letIn_30 rfl (lv_at hl 0 rfl) ?_
  obtain ⟨x31, F31, G31, h31, h⟩ := bi3e h
  refine callVI (b := ad 1) (As := []) (rest := []) ⟨hx, hb, hml, hown, hts⟩ (c_X0_spillOver l D ad cA n F27 G h31) (cwV 0 hts gX0_letIn_X0_spillOver rfl rfl rfl (by decide +kernel) ⟨Nat.le_of_ble_eq_true rfl, Nat.le_of_ble_eq_true rfl⟩) (va_recv hK hP (ci := 0) (q0 := 1) rfl wCg1) hP hK hD hN hS hA rfl hl.1 rfl (Nat.le_of_ble_eq_true rfl) dX0_letIn_31 ⟨Nat.zero_le _, Nat.zero_le _⟩ (fun H locs hP hD hS => ?_)
  exact hret _ _ _ _ _ _ _ dX0_letIn_34 h hP hD hS

def p_X1_add (F : tF) (G : tG) (a1 : Int32) (a2 : Int32) (a3 : Int32) : Option (Int32 × tF × tG) :=
  plet (F 24) (fun (x4 : Int32) => oguard (inB x4 40) (plet (stG G 20 x4 a1) (fun (G13 : tG) => oguard (inB x4 40) (plet (stG G13 21 x4 a2) (fun (G21 : tG) => oguard (inB x4 40) (plet (stG G21 22 x4 a3) (fun (G29 : tG) => plet (upd F 24 ((F 24) + 1)) (fun (F37 : tF) => some (x4, F37, G29)))))))))
set_option maxHeartbeats 4000000 in
set_option maxRecDepth 100000 in
theorem c_X1_add (l : Launch) (D : va_G) (ad : Nat → Nat) (cA : ClassId) (n : Nat) (F : tF) (G : tG) (a1 : Int32) (a2 : Int32) (a3 : Int32) {r : Int32} {F' : tF} {G' : tG} (h : p_X1_add F G a1 a2 a3 = some (r, F', G')) : CI l yX1_add wsX1_add ({ frames := 0, cells := 0, slots := 0, locals := 0 } : Room) D cA (wC ad cA F G) [.ref (ad 27), .int (a1), .int (a2), .int (a3)] r (wC ad cA F' G') := by
  rw [p_X1_add] at h
  refine metIm (w := wC ad cA) (cc := cX1_add) (maxL := 5) (by decide) rfl (Nat.le_of_ble_eq_true rfl) ?_
  intro p e s m args below meth c A ls Q hE hret
  obtain ⟨hx, hb, hts, hown, hml, hP, hK, hD, hN, hA, hl⟩ := hE
  have hown : s.vm.findClass RX1 = some m.cls := hown
  have hl : lv_has ls 5 [(0, .ref (ad 27)), (1, .int (a1)), (2, .int (a2)), (3, .int (a3))] := hl
  have hS : va_S A s.heap s.heap [] := va_S.rf
  have k_0 : (Cond.fieldLink RX1 21 "BellBook$Book" "count" "I").before args s = true := hts _ (List.mem_of_getElem? (i := 1) rfl)
  have n_1 : ∀ w ∈ u_ws RX1 TX1 11, w ∈ wsX1_add := fun w hw => List.mem_cons_of_mem _ (List.mem_append_right _ hw)
  have k_2 : (Cond.fieldLink RX1 11 "BellBook$Book" "minutes" "[I").before args s = true := hts _ (List.mem_of_getElem? (i := 2) rfl)
  have k_3 : (Cond.fieldLink RX1 15 "BellBook$Book" "men" "[I").before args s = true := hts _ (List.mem_of_getElem? (i := 3) rfl)
  have k_4 : (Cond.fieldLink RX1 18 "BellBook$Book" "places" "[I").before args s = true := hts _ (List.mem_of_getElem? (i := 4) rfl)
  refine lv_aload_n hx hb dX1_add_0 rfl (lv_at hl 0 rfl) ?_
  refine va_get (D := D) (ci := 1) (fs := vX1 ad F) (v := .int ((F 24))) (C := RX1) (T := TX1) (N := 11) hx hb hts n_1 hown hK hP 27 wCg27 rfl 3 (by decide) k_0 (fun _ h9 => h9) rfl dX1_add_1 ?_
  refine lv_topi (fun x4 ex4 => ?_)
  replace h := pl h ex4
  refine lv_istore (lv' := [(4, .int (x4)), (0, .ref (ad 27)), (1, .int (a1)), (2, .int (a2)), (3, .int (a3))]) hx hb dX1_add_4 hl (by decide) rfl (fun ls hl => ?_)
  refine lv_aload_n hx hb dX1_add_6 rfl (lv_at hl 1 rfl) ?_
  refine va_get (D := D) (ci := 1) (fs := vX1 ad F) (v := .ref (ad 28)) (C := RX1) (T := TX1) (N := 11) hx hb hts n_1 hown hK hP 27 wCg27 rfl 0 (by decide) k_2 (fun _ h9 => h9) rfl dX1_add_7 ?_
  refine lv_iload hx hb dX1_add_10 (lv_at hl 0 rfl) ?_
  refine lv_iload_n hx hb dX1_add_12 rfl (lv_at hl 2 rfl) ?_
  obtain ⟨g13, h⟩ := og h
  obtain ⟨G13, eG13⟩ : ∃ z : tG, z = stG G 20 x4 a1 := ⟨_, rfl⟩
  replace h := pl h eG13
  refine va_iast (D := D) hx hb hK hP hD hS 28 0 wCg28 rfl (inB_in g13) dX1_add_13 (fun H locs hP hD hS => ?_)
  rw [wCa20 eG13] at hP hD
  refine lv_aload_n hx hb dX1_add_14 rfl (lv_at hl 1 rfl) ?_
  refine va_get (D := D) (ci := 1) (fs := vX1 ad F) (v := .ref (ad 29)) (C := RX1) (T := TX1) (N := 11) hx hb hts n_1 hown hK hP 27 wCg27 rfl 1 (by decide) k_3 (fun _ h9 => h9) rfl dX1_add_15 ?_
  refine lv_iload hx hb dX1_add_18 (lv_at hl 0 rfl) ?_
  refine lv_iload_n hx hb dX1_add_20 rfl (lv_at hl 3 rfl) ?_
  obtain ⟨g21, h⟩ := og h
  obtain ⟨G21, eG21⟩ : ∃ z : tG, z = stG G13 21 x4 a2 := ⟨_, rfl⟩
  replace h := pl h eG21
  refine va_iast (D := D) hx hb hK hP hD hS 29 0 wCg29 rfl (inB_in g21) dX1_add_21 (fun H locs hP hD hS => ?_)
  rw [wCa21 eG21] at hP hD
  refine lv_aload_n hx hb dX1_add_22 rfl (lv_at hl 1 rfl) ?_
  refine va_get (D := D) (ci := 1) (fs := vX1 ad F) (v := .ref (ad 30)) (C := RX1) (T := TX1) (N := 11) hx hb hts n_1 hown hK hP 27 wCg27 rfl 2 (by decide) k_4 (fun _ h9 => h9) rfl dX1_add_23 ?_
  refine lv_iload hx hb dX1_add_26 (lv_at hl 0 rfl) ?_
  refine lv_iload_n hx hb dX1_add_28 rfl (lv_at hl 4 rfl) ?_
  obtain ⟨g29, h⟩ := og h
  obtain ⟨G29, eG29⟩ : ∃ z : tG, z = stG G21 22 x4 a3 := ⟨_, rfl⟩
  replace h := pl h eG29
  refine va_iast (D := D) hx hb hK hP hD hS 30 0 wCg30 rfl (inB_in g29) dX1_add_29 (fun H locs hP hD hS => ?_)
  rw [wCa22 eG29] at hP hD
  refine lv_aload_n hx hb dX1_add_30 rfl (lv_at hl 1 rfl) ?_
  refine lv_dup hx hb dX1_add_31 rfl ?_
  refine va_get (D := D) (ci := 1) (fs := vX1 ad F) (v := .int ((F 24))) (C := RX1) (T := TX1) (N := 11) hx hb hts n_1 hown hK hP 27 wCg27 rfl 3 (by decide) k_0 (fun _ h9 => h9) rfl dX1_add_32 ?_
  refine lv_iconst (v := 1) hx hb dX1_add_35 (by decide) ?_
  refine lv_iadd hx hb dX1_add_36 ?_
  obtain ⟨F37, eF37⟩ : ∃ f : tF, f = upd F 24 ((F 24) + 1) := ⟨_, rfl⟩
  replace h := pl h eF37
  refine va_put (D := D) (ci := 1) (fs := vX1 ad F) (v := .int (((F 24) + 1))) (ty := .int) (C := RX1) (T := TX1) (N := 11) hx hb hts n_1 tyX1 tyX1_ok nmX1 hown hK hP hD hS 27 wCg27 rfl 3 (by decide) k_0 (fun _ h9 => h9) rfl (tyX1_ok 3 (by decide)) rfl rfl (Nat.le_of_ble_eq_true rfl) dX1_add_37 (fun H locs hP hD hS => ?_)
  rw [wCp24 eF37] at hP hD
  refine lv_iload hx hb dX1_add_40 (lv_at hl 0 rfl) ?_
  exact hret _ _ _ _ _ _ _ dX1_add_42 h hP hD hS

def p_X1_growMaybe (F : tF) (G : tG) (a1 : Int32) : Option (tF × tG) :=
  plet (upd F 31 ((F 31) + a1)) (fun (F7 : tF) => plet (upd F7 29 (if (F7 29) < (F7 31) then (F7 31) else (F7 29))) (fun (F22 : tF) => some (F22, G)))
set_option maxHeartbeats 4000000 in
set_option maxRecDepth 100000 in
theorem c_X1_growMaybe (l : Launch) (D : va_G) (ad : Nat → Nat) (cA : ClassId) (n : Nat) (F : tF) (G : tG) (a1 : Int32) {F' : tF} {G' : tG} (h : p_X1_growMaybe F G a1 = some (F', G')) : CV l yX1_growMaybe wsX1_growMaybe ({ frames := 1, cells := 0, slots := 0, locals := 21 } : Room) D cA (wC ad cA F G) [.ref (ad 27), .int (a1)] (wC ad cA F' G') := by
  rw [p_X1_growMaybe] at h
  refine metVm (w := wC ad cA) (cc := cX1_growMaybe) (maxL := 2) (by decide) rfl (Nat.le_of_ble_eq_true rfl) ?_
  intro p e s m args below meth c A ls Q hE hret
  obtain ⟨hx, hb, hts, hown, hml, hP, hK, hD, hN, hA, hl⟩ := hE
  have hown : s.vm.findClass RX1 = some m.cls := hown
  have hl : lv_has ls 2 [(0, .ref (ad 27)), (1, .int (a1))] := hl
  have hS : va_S A s.heap s.heap [] := va_S.rf
  have k_0 : (Cond.fieldLink RX1 54 "BellBook$Book" "maybeRow" "I").before args s = true := hts _ (List.mem_of_getElem? (i := 1) rfl)
  have n_1 : ∀ w ∈ u_ws RX1 TX1 11, w ∈ wsX1_growMaybe := fun w hw => List.mem_cons_of_mem _ (List.mem_append_right _ hw)
  have k_2 : (Cond.fieldLink RX1 48 "BellBook$Book" "longestMaybe" "I").before args s = true := hts _ (List.mem_of_getElem? (i := 2) rfl)
  have k_3 : (Cond.methodLink RX1 64 Lib.Math.max.name).before args s = true := hts _ (List.mem_of_getElem? (i := 3) rfl)
  have k_4 : (Cond.static Lib.Math.max.name).before args s = true := hts _ (List.mem_of_getElem? (i := 4) rfl)
  have k_5 : (Cond.initialized "java/lang/Math").before args s = true := hts _ (List.mem_of_getElem? (i := 5) rfl)
  have k_6 : (Cond.code Lib.Math.max.name Lib.Math.max.code 2 (some .int)).before args s = true := hts _ (List.mem_of_getElem? (i := 6) rfl)
  refine lv_aload_n hx hb dX1_growMaybe_0 rfl (lv_at hl 0 rfl) ?_
  refine lv_dup hx hb dX1_growMaybe_1 rfl ?_
  refine va_get (D := D) (ci := 1) (fs := vX1 ad F) (v := .int ((F 31))) (C := RX1) (T := TX1) (N := 11) hx hb hts n_1 hown hK hP 27 wCg27 rfl 10 (by decide) k_0 (fun _ h9 => h9) rfl dX1_growMaybe_2 ?_
  refine lv_iload_n hx hb dX1_growMaybe_5 rfl (lv_at hl 1 rfl) ?_
  refine lv_iadd hx hb dX1_growMaybe_6 ?_
  obtain ⟨F7, eF7⟩ : ∃ f : tF, f = upd F 31 ((F 31) + a1) := ⟨_, rfl⟩
  replace h := pl h eF7
  refine va_put (D := D) (ci := 1) (fs := vX1 ad F) (v := .int (((F 31) + a1))) (ty := .int) (C := RX1) (T := TX1) (N := 11) hx hb hts n_1 tyX1 tyX1_ok nmX1 hown hK hP hD hS 27 wCg27 rfl 10 (by decide) k_0 (fun _ h9 => h9) rfl (tyX1_ok 10 (by decide)) rfl rfl (Nat.le_of_ble_eq_true rfl) dX1_growMaybe_7 (fun H locs hP hD hS => ?_)
  rw [wCp31 eF7] at hP hD
  refine lv_aload_n hx hb dX1_growMaybe_10 rfl (lv_at hl 0 rfl) ?_
  refine lv_aload_n hx hb dX1_growMaybe_11 rfl (lv_at hl 0 rfl) ?_
  refine va_get (D := D) (ci := 1) (fs := vX1 ad F7) (v := .int ((F7 29))) (C := RX1) (T := TX1) (N := 11) hx hb hts n_1 hown hK hP 27 wCg27 rfl 8 (by decide) k_2 (fun _ h9 => h9) rfl dX1_growMaybe_12 ?_
  refine lv_aload_n hx hb dX1_growMaybe_15 rfl (lv_at hl 0 rfl) ?_
  refine va_get (D := D) (ci := 1) (fs := vX1 ad F7) (v := .int ((F7 31))) (C := RX1) (T := TX1) (N := 11) hx hb hts n_1 hown hK hP 27 wCg27 rfl 10 (by decide) k_0 (fun _ h9 => h9) rfl dX1_growMaybe_16 ?_
  refine va_mmax hx hb (hml.trans hl.1.symm) hown k_3 k_4 k_5 k_6 (Nat.le_of_ble_eq_true rfl) (Nat.le_of_ble_eq_true rfl) (Nat.zero_le _) (Nat.zero_le _) dX1_growMaybe_19 ?_
  obtain ⟨F22, eF22⟩ : ∃ f : tF, f = upd F7 29 (if (F7 29) < (F7 31) then (F7 31) else (F7 29)) := ⟨_, rfl⟩
  replace h := pl h eF22
  refine va_put (D := D) (ci := 1) (fs := vX1 ad F7) (v := .int ((if (F7 29) < (F7 31) then (F7 31) else (F7 29)))) (ty := .int) (C := RX1) (T := TX1) (N := 11) hx hb hts n_1 tyX1 tyX1_ok nmX1 hown hK hP hD hS 27 wCg27 rfl 8 (by decide) k_2 (fun _ h9 => h9) rfl (tyX1_ok 8 (by decide)) rfl rfl (Nat.le_of_ble_eq_true rfl) dX1_growMaybe_22 (fun H locs hP hD hS => ?_)
  rw [wCp29 eF22] at hP hD
  exact hret _ _ _ _ _ _ dX1_growMaybe_25 h hP hD hS

def p_X1_addDark (F : tF) (G : tG) (a1 : Int32) : Option (tF × tG) :=
  plet (upd F 27 ((F 27) + a1)) (fun (F7 : tF) => plet (upd F7 30 0) (fun (F12 : tF) => bi2 (p_X1_growMaybe F12 G a1) (fun F17 G17 => some (F17, G17))))
set_option maxHeartbeats 4000000 in
set_option maxRecDepth 100000 in
theorem c_X1_addDark (l : Launch) (D : va_G) (ad : Nat → Nat) (cA : ClassId) (n : Nat) (F : tF) (G : tG) (a1 : Int32) {F' : tF} {G' : tG} (h : p_X1_addDark F G a1 = some (F', G')) : CV l yX1_addDark wsX1_addDark ({ frames := 2, cells := 0, slots := 0, locals := 42 } : Room) D cA (wC ad cA F G) [.ref (ad 27), .int (a1)] (wC ad cA F' G') := by
  rw [p_X1_addDark] at h
  refine metVm (w := wC ad cA) (cc := cX1_addDark) (maxL := 2) (by decide) rfl (Nat.le_of_ble_eq_true rfl) ?_
  intro p e s m args below meth c A ls Q hE hret
  obtain ⟨hx, hb, hts, hown, hml, hP, hK, hD, hN, hA, hl⟩ := hE
  have hown : s.vm.findClass RX1 = some m.cls := hown
  have hl : lv_has ls 2 [(0, .ref (ad 27)), (1, .int (a1))] := hl
  have hS : va_S A s.heap s.heap [] := va_S.rf
  have k_0 : (Cond.fieldLink RX1 42 "BellBook$Book" "dark" "I").before args s = true := hts _ (List.mem_of_getElem? (i := 1) rfl)
  have n_1 : ∀ w ∈ u_ws RX1 TX1 11, w ∈ wsX1_addDark := fun w hw => List.mem_cons_of_mem _ (List.mem_append_right _ hw)
  have k_2 : (Cond.fieldLink RX1 51 "BellBook$Book" "sureRow" "I").before args s = true := hts _ (List.mem_of_getElem? (i := 2) rfl)
  refine lv_aload_n hx hb dX1_addDark_0 rfl (lv_at hl 0 rfl) ?_
  refine lv_dup hx hb dX1_addDark_1 rfl ?_
  refine va_get (D := D) (ci := 1) (fs := vX1 ad F) (v := .int ((F 27))) (C := RX1) (T := TX1) (N := 11) hx hb hts n_1 hown hK hP 27 wCg27 rfl 6 (by decide) k_0 (fun _ h9 => h9) rfl dX1_addDark_2 ?_
  refine lv_iload_n hx hb dX1_addDark_5 rfl (lv_at hl 1 rfl) ?_
  refine lv_iadd hx hb dX1_addDark_6 ?_
  obtain ⟨F7, eF7⟩ : ∃ f : tF, f = upd F 27 ((F 27) + a1) := ⟨_, rfl⟩
  replace h := pl h eF7
  refine va_put (D := D) (ci := 1) (fs := vX1 ad F) (v := .int (((F 27) + a1))) (ty := .int) (C := RX1) (T := TX1) (N := 11) hx hb hts n_1 tyX1 tyX1_ok nmX1 hown hK hP hD hS 27 wCg27 rfl 6 (by decide) k_0 (fun _ h9 => h9) rfl (tyX1_ok 6 (by decide)) rfl rfl (Nat.le_of_ble_eq_true rfl) dX1_addDark_7 (fun H locs hP hD hS => ?_)
  rw [wCp27 eF7] at hP hD
  refine lv_aload_n hx hb dX1_addDark_10 rfl (lv_at hl 0 rfl) ?_
  refine lv_iconst (v := 0) hx hb dX1_addDark_11 (by decide) ?_
  obtain ⟨F12, eF12⟩ : ∃ f : tF, f = upd F7 30 0 := ⟨_, rfl⟩
  replace h := pl h eF12
  refine va_put (D := D) (ci := 1) (fs := vX1 ad F7) (v := .int (0)) (ty := .int) (C := RX1) (T := TX1) (N := 11) hx hb hts n_1 tyX1 tyX1_ok nmX1 hown hK hP hD hS 27 wCg27 rfl 9 (by decide) k_2 (fun _ h9 => h9) rfl (tyX1_ok 9 (by decide)) rfl rfl (Nat.le_of_ble_eq_true rfl) dX1_addDark_12 (fun H locs hP hD hS => ?_)
  rw [wCp30 eF12] at hP hD
  refine lv_aload_n hx hb dX1_addDark_15 rfl (lv_at hl 0 rfl) ?_
  refine lv_iload_n hx hb dX1_addDark_16 rfl (lv_at hl 1 rfl) ?_
  obtain ⟨F17, G17, h17, h⟩ := bi2e h
  refine callVV (b := ad 27) (As := [.int (a1)]) (rest := []) ⟨hx, hb, hml, hown, hts⟩ (c_X1_growMaybe l D ad cA n F12 G a1 h17) (cwV 1 hts gX1_addDark_X1_growMaybe rfl rfl rfl (by decide +kernel) ⟨Nat.le_of_ble_eq_true rfl, Nat.le_of_ble_eq_true rfl⟩) (va_recv hK hP (ci := 1) (q0 := 27) rfl wCg27) hP hK hD hN hS hA rfl hl.1 rfl (Nat.le_of_ble_eq_true rfl) dX1_addDark_17 ⟨Nat.zero_le _, Nat.zero_le _⟩ (fun H locs hP hD hS => ?_)
  exact hret _ _ _ _ _ _ dX1_addDark_20 h hP hD hS

def p_X1_addSure (F : tF) (G : tG) (a1 : Int32) : Option (tF × tG) :=
  plet (upd F 26 ((F 26) + a1)) (fun (F7 : tF) => plet (upd F7 30 ((F7 30) + a1)) (fun (F17 : tF) => plet (upd F17 28 (if (F17 28) < (F17 30) then (F17 30) else (F17 28))) (fun (F32 : tF) => bi2 (p_X1_growMaybe F32 G a1) (fun F37 G37 => some (F37, G37)))))
set_option maxHeartbeats 4000000 in
set_option maxRecDepth 100000 in
theorem c_X1_addSure (l : Launch) (D : va_G) (ad : Nat → Nat) (cA : ClassId) (n : Nat) (F : tF) (G : tG) (a1 : Int32) {F' : tF} {G' : tG} (h : p_X1_addSure F G a1 = some (F', G')) : CV l yX1_addSure wsX1_addSure ({ frames := 2, cells := 0, slots := 0, locals := 42 } : Room) D cA (wC ad cA F G) [.ref (ad 27), .int (a1)] (wC ad cA F' G') := by
  rw [p_X1_addSure] at h
  refine metVm (w := wC ad cA) (cc := cX1_addSure) (maxL := 2) (by decide) rfl (Nat.le_of_ble_eq_true rfl) ?_
  intro p e s m args below meth c A ls Q hE hret
  obtain ⟨hx, hb, hts, hown, hml, hP, hK, hD, hN, hA, hl⟩ := hE
  have hown : s.vm.findClass RX1 = some m.cls := hown
  have hl : lv_has ls 2 [(0, .ref (ad 27)), (1, .int (a1))] := hl
  have hS : va_S A s.heap s.heap [] := va_S.rf
  have k_0 : (Cond.fieldLink RX1 39 "BellBook$Book" "sure" "I").before args s = true := hts _ (List.mem_of_getElem? (i := 1) rfl)
  have n_1 : ∀ w ∈ u_ws RX1 TX1 11, w ∈ wsX1_addSure := fun w hw => List.mem_cons_of_mem _ (List.mem_append_right _ hw)
  have k_2 : (Cond.fieldLink RX1 51 "BellBook$Book" "sureRow" "I").before args s = true := hts _ (List.mem_of_getElem? (i := 2) rfl)
  have k_3 : (Cond.fieldLink RX1 45 "BellBook$Book" "longestSure" "I").before args s = true := hts _ (List.mem_of_getElem? (i := 3) rfl)
  have k_4 : (Cond.methodLink RX1 64 Lib.Math.max.name).before args s = true := hts _ (List.mem_of_getElem? (i := 4) rfl)
  have k_5 : (Cond.static Lib.Math.max.name).before args s = true := hts _ (List.mem_of_getElem? (i := 5) rfl)
  have k_6 : (Cond.initialized "java/lang/Math").before args s = true := hts _ (List.mem_of_getElem? (i := 6) rfl)
  have k_7 : (Cond.code Lib.Math.max.name Lib.Math.max.code 2 (some .int)).before args s = true := hts _ (List.mem_of_getElem? (i := 7) rfl)
  refine lv_aload_n hx hb dX1_addSure_0 rfl (lv_at hl 0 rfl) ?_
  refine lv_dup hx hb dX1_addSure_1 rfl ?_
  refine va_get (D := D) (ci := 1) (fs := vX1 ad F) (v := .int ((F 26))) (C := RX1) (T := TX1) (N := 11) hx hb hts n_1 hown hK hP 27 wCg27 rfl 5 (by decide) k_0 (fun _ h9 => h9) rfl dX1_addSure_2 ?_
  refine lv_iload_n hx hb dX1_addSure_5 rfl (lv_at hl 1 rfl) ?_
  refine lv_iadd hx hb dX1_addSure_6 ?_
  obtain ⟨F7, eF7⟩ : ∃ f : tF, f = upd F 26 ((F 26) + a1) := ⟨_, rfl⟩
  replace h := pl h eF7
  refine va_put (D := D) (ci := 1) (fs := vX1 ad F) (v := .int (((F 26) + a1))) (ty := .int) (C := RX1) (T := TX1) (N := 11) hx hb hts n_1 tyX1 tyX1_ok nmX1 hown hK hP hD hS 27 wCg27 rfl 5 (by decide) k_0 (fun _ h9 => h9) rfl (tyX1_ok 5 (by decide)) rfl rfl (Nat.le_of_ble_eq_true rfl) dX1_addSure_7 (fun H locs hP hD hS => ?_)
  rw [wCp26 eF7] at hP hD
  refine lv_aload_n hx hb dX1_addSure_10 rfl (lv_at hl 0 rfl) ?_
  refine lv_dup hx hb dX1_addSure_11 rfl ?_
  refine va_get (D := D) (ci := 1) (fs := vX1 ad F7) (v := .int ((F7 30))) (C := RX1) (T := TX1) (N := 11) hx hb hts n_1 hown hK hP 27 wCg27 rfl 9 (by decide) k_2 (fun _ h9 => h9) rfl dX1_addSure_12 ?_
  refine lv_iload_n hx hb dX1_addSure_15 rfl (lv_at hl 1 rfl) ?_
  refine lv_iadd hx hb dX1_addSure_16 ?_
  obtain ⟨F17, eF17⟩ : ∃ f : tF, f = upd F7 30 ((F7 30) + a1) := ⟨_, rfl⟩
  replace h := pl h eF17
  refine va_put (D := D) (ci := 1) (fs := vX1 ad F7) (v := .int (((F7 30) + a1))) (ty := .int) (C := RX1) (T := TX1) (N := 11) hx hb hts n_1 tyX1 tyX1_ok nmX1 hown hK hP hD hS 27 wCg27 rfl 9 (by decide) k_2 (fun _ h9 => h9) rfl (tyX1_ok 9 (by decide)) rfl rfl (Nat.le_of_ble_eq_true rfl) dX1_addSure_17 (fun H locs hP hD hS => ?_)
  rw [wCp30 eF17] at hP hD
  refine lv_aload_n hx hb dX1_addSure_20 rfl (lv_at hl 0 rfl) ?_
  refine lv_aload_n hx hb dX1_addSure_21 rfl (lv_at hl 0 rfl) ?_
  refine va_get (D := D) (ci := 1) (fs := vX1 ad F17) (v := .int ((F17 28))) (C := RX1) (T := TX1) (N := 11) hx hb hts n_1 hown hK hP 27 wCg27 rfl 7 (by decide) k_3 (fun _ h9 => h9) rfl dX1_addSure_22 ?_
  refine lv_aload_n hx hb dX1_addSure_25 rfl (lv_at hl 0 rfl) ?_
  refine va_get (D := D) (ci := 1) (fs := vX1 ad F17) (v := .int ((F17 30))) (C := RX1) (T := TX1) (N := 11) hx hb hts n_1 hown hK hP 27 wCg27 rfl 9 (by decide) k_2 (fun _ h9 => h9) rfl dX1_addSure_26 ?_
  refine va_mmax hx hb (hml.trans hl.1.symm) hown k_4 k_5 k_6 k_7 (Nat.le_of_ble_eq_true rfl) (Nat.le_of_ble_eq_true rfl) (Nat.zero_le _) (Nat.zero_le _) dX1_addSure_29 ?_
  obtain ⟨F32, eF32⟩ : ∃ f : tF, f = upd F17 28 (if (F17 28) < (F17 30) then (F17 30) else (F17 28)) := ⟨_, rfl⟩
  replace h := pl h eF32
  refine va_put (D := D) (ci := 1) (fs := vX1 ad F17) (v := .int ((if (F17 28) < (F17 30) then (F17 30) else (F17 28)))) (ty := .int) (C := RX1) (T := TX1) (N := 11) hx hb hts n_1 tyX1 tyX1_ok nmX1 hown hK hP hD hS 27 wCg27 rfl 7 (by decide) k_3 (fun _ h9 => h9) rfl (tyX1_ok 7 (by decide)) rfl rfl (Nat.le_of_ble_eq_true rfl) dX1_addSure_32 (fun H locs hP hD hS => ?_)
  rw [wCp28 eF32] at hP hD
  refine lv_aload_n hx hb dX1_addSure_35 rfl (lv_at hl 0 rfl) ?_
  refine lv_iload_n hx hb dX1_addSure_36 rfl (lv_at hl 1 rfl) ?_
  obtain ⟨F37, G37, h37, h⟩ := bi2e h
  refine callVV (b := ad 27) (As := [.int (a1)]) (rest := []) ⟨hx, hb, hml, hown, hts⟩ (c_X1_growMaybe l D ad cA n F32 G a1 h37) (cwV 1 hts gX1_addSure_X1_growMaybe rfl rfl rfl (by decide +kernel) ⟨Nat.le_of_ble_eq_true rfl, Nat.le_of_ble_eq_true rfl⟩) (va_recv hK hP (ci := 1) (q0 := 27) rfl wCg27) hP hK hD hN hS hA rfl hl.1 rfl (Nat.le_of_ble_eq_true rfl) dX1_addSure_37 ⟨Nat.zero_le _, Nat.zero_le _⟩ (fun H locs hP hD hS => ?_)
  exact hret _ _ _ _ _ _ dX1_addSure_40 h hP hD hS

def p_X1_forgetReading (F : tF) (G : tG) : Option (tF × tG) :=
  plet (upd F 25 0) (fun (F2 : tF) => plet (upd F2 26 0) (fun (F7 : tF) => plet (upd F7 27 0) (fun (F12 : tF) => plet (upd F12 28 0) (fun (F17 : tF) => plet (upd F17 29 0) (fun (F22 : tF) => plet (upd F22 30 0) (fun (F27 : tF) => plet (upd F27 31 0) (fun (F32 : tF) => some (F32, G))))))))
set_option maxHeartbeats 4000000 in
set_option maxRecDepth 100000 in
theorem c_X1_forgetReading (l : Launch) (D : va_G) (ad : Nat → Nat) (cA : ClassId) (n : Nat) (F : tF) (G : tG) {F' : tF} {G' : tG} (h : p_X1_forgetReading F G = some (F', G')) : CV l yX1_forgetReading wsX1_forgetReading ({ frames := 0, cells := 0, slots := 0, locals := 0 } : Room) D cA (wC ad cA F G) [.ref (ad 27)] (wC ad cA F' G') := by
  rw [p_X1_forgetReading] at h
  refine metVm (w := wC ad cA) (cc := cX1_forgetReading) (maxL := 1) (by decide) rfl (Nat.le_of_ble_eq_true rfl) ?_
  intro p e s m args below meth c A ls Q hE hret
  obtain ⟨hx, hb, hts, hown, hml, hP, hK, hD, hN, hA, hl⟩ := hE
  have hown : s.vm.findClass RX1 = some m.cls := hown
  have hl : lv_has ls 1 [(0, .ref (ad 27))] := hl
  have hS : va_S A s.heap s.heap [] := va_S.rf
  have k_0 : (Cond.fieldLink RX1 36 "BellBook$Book" "seen" "I").before args s = true := hts _ (List.mem_of_getElem? (i := 1) rfl)
  have n_1 : ∀ w ∈ u_ws RX1 TX1 11, w ∈ wsX1_forgetReading := fun w hw => List.mem_cons_of_mem _ (List.mem_append_right _ hw)
  have k_2 : (Cond.fieldLink RX1 39 "BellBook$Book" "sure" "I").before args s = true := hts _ (List.mem_of_getElem? (i := 2) rfl)
  have k_3 : (Cond.fieldLink RX1 42 "BellBook$Book" "dark" "I").before args s = true := hts _ (List.mem_of_getElem? (i := 3) rfl)
  have k_4 : (Cond.fieldLink RX1 45 "BellBook$Book" "longestSure" "I").before args s = true := hts _ (List.mem_of_getElem? (i := 4) rfl)
  have k_5 : (Cond.fieldLink RX1 48 "BellBook$Book" "longestMaybe" "I").before args s = true := hts _ (List.mem_of_getElem? (i := 5) rfl)
  have k_6 : (Cond.fieldLink RX1 51 "BellBook$Book" "sureRow" "I").before args s = true := hts _ (List.mem_of_getElem? (i := 6) rfl)
  have k_7 : (Cond.fieldLink RX1 54 "BellBook$Book" "maybeRow" "I").before args s = true := hts _ (List.mem_of_getElem? (i := 7) rfl)
  refine lv_aload_n hx hb dX1_forgetReading_0 rfl (lv_at hl 0 rfl) ?_
  refine lv_iconst (v := 0) hx hb dX1_forgetReading_1 (by decide) ?_
  obtain ⟨F2, eF2⟩ : ∃ f : tF, f = upd F 25 0 := ⟨_, rfl⟩
  replace h := pl h eF2
  refine va_put (D := D) (ci := 1) (fs := vX1 ad F) (v := .int (0)) (ty := .int) (C := RX1) (T := TX1) (N := 11) hx hb hts n_1 tyX1 tyX1_ok nmX1 hown hK hP hD hS 27 wCg27 rfl 4 (by decide) k_0 (fun _ h9 => h9) rfl (tyX1_ok 4 (by decide)) rfl rfl (Nat.le_of_ble_eq_true rfl) dX1_forgetReading_2 (fun H locs hP hD hS => ?_)
  rw [wCp25 eF2] at hP hD
  refine lv_aload_n hx hb dX1_forgetReading_5 rfl (lv_at hl 0 rfl) ?_
  refine lv_iconst (v := 0) hx hb dX1_forgetReading_6 (by decide) ?_
  obtain ⟨F7, eF7⟩ : ∃ f : tF, f = upd F2 26 0 := ⟨_, rfl⟩
  replace h := pl h eF7
  refine va_put (D := D) (ci := 1) (fs := vX1 ad F2) (v := .int (0)) (ty := .int) (C := RX1) (T := TX1) (N := 11) hx hb hts n_1 tyX1 tyX1_ok nmX1 hown hK hP hD hS 27 wCg27 rfl 5 (by decide) k_2 (fun _ h9 => h9) rfl (tyX1_ok 5 (by decide)) rfl rfl (Nat.le_of_ble_eq_true rfl) dX1_forgetReading_7 (fun H locs hP hD hS => ?_)
  rw [wCp26 eF7] at hP hD
  refine lv_aload_n hx hb dX1_forgetReading_10 rfl (lv_at hl 0 rfl) ?_
  refine lv_iconst (v := 0) hx hb dX1_forgetReading_11 (by decide) ?_
  obtain ⟨F12, eF12⟩ : ∃ f : tF, f = upd F7 27 0 := ⟨_, rfl⟩
  replace h := pl h eF12
  refine va_put (D := D) (ci := 1) (fs := vX1 ad F7) (v := .int (0)) (ty := .int) (C := RX1) (T := TX1) (N := 11) hx hb hts n_1 tyX1 tyX1_ok nmX1 hown hK hP hD hS 27 wCg27 rfl 6 (by decide) k_3 (fun _ h9 => h9) rfl (tyX1_ok 6 (by decide)) rfl rfl (Nat.le_of_ble_eq_true rfl) dX1_forgetReading_12 (fun H locs hP hD hS => ?_)
  rw [wCp27 eF12] at hP hD
  refine lv_aload_n hx hb dX1_forgetReading_15 rfl (lv_at hl 0 rfl) ?_
  refine lv_iconst (v := 0) hx hb dX1_forgetReading_16 (by decide) ?_
  obtain ⟨F17, eF17⟩ : ∃ f : tF, f = upd F12 28 0 := ⟨_, rfl⟩
  replace h := pl h eF17
  refine va_put (D := D) (ci := 1) (fs := vX1 ad F12) (v := .int (0)) (ty := .int) (C := RX1) (T := TX1) (N := 11) hx hb hts n_1 tyX1 tyX1_ok nmX1 hown hK hP hD hS 27 wCg27 rfl 7 (by decide) k_4 (fun _ h9 => h9) rfl (tyX1_ok 7 (by decide)) rfl rfl (Nat.le_of_ble_eq_true rfl) dX1_forgetReading_17 (fun H locs hP hD hS => ?_)
  rw [wCp28 eF17] at hP hD
  refine lv_aload_n hx hb dX1_forgetReading_20 rfl (lv_at hl 0 rfl) ?_
  refine lv_iconst (v := 0) hx hb dX1_forgetReading_21 (by decide) ?_
  obtain ⟨F22, eF22⟩ : ∃ f : tF, f = upd F17 29 0 := ⟨_, rfl⟩
  replace h := pl h eF22
  refine va_put (D := D) (ci := 1) (fs := vX1 ad F17) (v := .int (0)) (ty := .int) (C := RX1) (T := TX1) (N := 11) hx hb hts n_1 tyX1 tyX1_ok nmX1 hown hK hP hD hS 27 wCg27 rfl 8 (by decide) k_5 (fun _ h9 => h9) rfl (tyX1_ok 8 (by decide)) rfl rfl (Nat.le_of_ble_eq_true rfl) dX1_forgetReading_22 (fun H locs hP hD hS => ?_)
  rw [wCp29 eF22] at hP hD
  refine lv_aload_n hx hb dX1_forgetReading_25 rfl (lv_at hl 0 rfl) ?_
  refine lv_iconst (v := 0) hx hb dX1_forgetReading_26 (by decide) ?_
  obtain ⟨F27, eF27⟩ : ∃ f : tF, f = upd F22 30 0 := ⟨_, rfl⟩
  replace h := pl h eF27
  refine va_put (D := D) (ci := 1) (fs := vX1 ad F22) (v := .int (0)) (ty := .int) (C := RX1) (T := TX1) (N := 11) hx hb hts n_1 tyX1 tyX1_ok nmX1 hown hK hP hD hS 27 wCg27 rfl 9 (by decide) k_6 (fun _ h9 => h9) rfl (tyX1_ok 9 (by decide)) rfl rfl (Nat.le_of_ble_eq_true rfl) dX1_forgetReading_27 (fun H locs hP hD hS => ?_)
  rw [wCp30 eF27] at hP hD
  refine lv_aload_n hx hb dX1_forgetReading_30 rfl (lv_at hl 0 rfl) ?_
  refine lv_iconst (v := 0) hx hb dX1_forgetReading_31 (by decide) ?_
  obtain ⟨F32, eF32⟩ : ∃ f : tF, f = upd F27 31 0 := ⟨_, rfl⟩
  replace h := pl h eF32
  refine va_put (D := D) (ci := 1) (fs := vX1 ad F27) (v := .int (0)) (ty := .int) (C := RX1) (T := TX1) (N := 11) hx hb hts n_1 tyX1 tyX1_ok nmX1 hown hK hP hD hS 27 wCg27 rfl 10 (by decide) k_7 (fun _ h9 => h9) rfl (tyX1_ok 10 (by decide)) rfl rfl (Nat.le_of_ble_eq_true rfl) dX1_forgetReading_32 (fun H locs hP hD hS => ?_)
  rw [wCp31 eF32] at hP hD
  exact hret _ _ _ _ _ _ dX1_forgetReading_35 h hP hD hS

def p_X1_mayFollow_L2 (F : tF) (G : tG) (a1 : Int32) (a2 : Int32) (K2 : Int32 → Option (Int32)) : Nat → Int32 → Option (Int32)
  | 0, _ => none
  | k2 + 1, z2_0 => (if (F 24) ≤ z2_0 then K2 z2_0 else oguard (inB z2_0 40) ((if (G 20 z2_0.toNatClampNeg) ≤ a1 then oguard (inB z2_0 40) ((if (G 20 z2_0.toNatClampNeg) = a1 then oguard (inB z2_0 40) ((if (G 21 z2_0.toNatClampNeg) = a2 then some 0 else plet (z2_0 + 1) (fun (x44 : Int32) => p_X1_mayFollow_L2 F G a1 a2 K2 k2 x44))) else plet (z2_0 + 1) (fun (x44 : Int32) => p_X1_mayFollow_L2 F G a1 a2 K2 k2 x44))) else some 0)))
theorem p_X1_mayFollow_L2_k {F : tF} {G : tG} {a1 : Int32} {a2 : Int32} {K0 : Int32 → Option (Int32)} {k : Nat} {z2_0 : Int32} {x : Int32} (h : p_X1_mayFollow_L2 F G a1 a2 K0 k z2_0 = some x) : ∃ K, K = K0 ∧ p_X1_mayFollow_L2 F G a1 a2 K k z2_0 = some x := ⟨K0, rfl, h⟩
def p_X1_mayFollow (n : Nat) (F : tF) (G : tG) (a1 : Int32) (a2 : Int32) : Option (Int32) :=
  p_X1_mayFollow_L2 F G a1 a2 (fun (z2_0 : Int32) => some 1) n 0
set_option maxHeartbeats 4000000 in
set_option maxRecDepth 100000 in
theorem c_X1_mayFollow (l : Launch) (D : va_G) (ad : Nat → Nat) (cA : ClassId) (n : Nat) (F : tF) (G : tG) (a1 : Int32) (a2 : Int32) {r : Int32} (h : p_X1_mayFollow n F G a1 a2 = some r) : CI l yX1_mayFollow wsX1_mayFollow ({ frames := 0, cells := 0, slots := 0, locals := 0 } : Room) D cA (wC ad cA F G) [.ref (ad 27), .int (a1), .int (a2)] r (wC ad cA F G) := by
  rw [p_X1_mayFollow] at h
  refine metZr (w := wC ad cA) (cc := cX1_mayFollow) (maxL := 4) (by decide) rfl (Nat.le_of_ble_eq_true rfl) ?_
  intro p e s m args below meth c A ls Q hE hret
  obtain ⟨hx, hb, hts, hown, hml, hP, hK, hD, hN, hA, hl⟩ := hE
  have hown : s.vm.findClass RX1 = some m.cls := hown
  have hl : lv_has ls 4 [(0, .ref (ad 27)), (1, .int (a1)), (2, .int (a2))] := hl
  have hS : va_S A s.heap s.heap [] := va_S.rf
  have k_0 : (Cond.fieldLink RX1 21 "BellBook$Book" "count" "I").before args s = true := hts _ (List.mem_of_getElem? (i := 1) rfl)
  have n_1 : ∀ w ∈ u_ws RX1 TX1 11, w ∈ wsX1_mayFollow := fun w hw => List.mem_cons_of_mem _ (List.mem_append_right _ hw)
  have k_2 : (Cond.fieldLink RX1 11 "BellBook$Book" "minutes" "[I").before args s = true := hts _ (List.mem_of_getElem? (i := 2) rfl)
  have k_3 : (Cond.fieldLink RX1 15 "BellBook$Book" "men" "[I").before args s = true := hts _ (List.mem_of_getElem? (i := 3) rfl)
  refine lv_iconst (v := 0) hx hb dX1_mayFollow_0 (by decide) ?_
  refine lv_istore_n (lv' := [(3, .int (0)), (0, .ref (ad 27)), (1, .int (a1)), (2, .int (a2))]) hx hb dX1_mayFollow_1 rfl hl (by decide) rfl (fun ls hl => ?_)
  obtain ⟨K2, eK2, h⟩ := p_X1_mayFollow_L2_k h
  have JE2 : ∀ (z2_0 : Int32) (H : Heap) (locs : List Loc) (ls : Array Slot), K2 z2_0 = some r → va_P D vwCl (wC ad cA F G) H → va_D A (wC ad cA F G) → va_S A s.heap H locs → lv_has ls 4 [(3, .int (z2_0)), (0, .ref (ad 27)), (1, .int (a1)), (2, .int (a2))] → W p l e ({ frames := 0, cells := 0, slots := 0, locals := 0 } : Room) s m args below meth c H locs 0 0 Q (F0 m 50 ls []) := by
    intro z2_0 H locs ls h hP hD hS hl
    rw [eK2] at h
    refine lv_iconst (v := 1) hx hb dX1_mayFollow_50 (by decide) ?_
    exact hret _ _ _ _ _ dX1_mayFollow_51 rfl h hP hD hS
  have LL2 : ∀ (k : Nat) (z2_0 : Int32) (H : Heap) (locs : List Loc) (ls : Array Slot), p_X1_mayFollow_L2 F G a1 a2 K2 k z2_0 = some r → va_P D vwCl (wC ad cA F G) H → va_D A (wC ad cA F G) → va_S A s.heap H locs → lv_has ls 4 [(3, .int (z2_0)), (0, .ref (ad 27)), (1, .int (a1)), (2, .int (a2))] → W p l e ({ frames := 0, cells := 0, slots := 0, locals := 0 } : Room) s m args below meth c H locs 0 0 Q (F0 m 2 ls []) := by
    intro k
    induction k with
    | zero =>
      intro z2_0 H locs ls h hP hD hS hl
      rw [p_X1_mayFollow_L2] at h
      cases h
    | succ k2 ih2 =>
      intro z2_0 H locs ls h hP hD hS hl
      rw [p_X1_mayFollow_L2] at h
      refine lv_iload_n hx hb dX1_mayFollow_2 rfl (lv_at hl 0 rfl) ?_
      refine lv_aload_n hx hb dX1_mayFollow_3 rfl (lv_at hl 1 rfl) ?_
      refine va_get (D := D) (ci := 1) (fs := vX1 ad F) (v := .int ((F 24))) (C := RX1) (T := TX1) (N := 11) hx hb hts n_1 hown hK hP 27 wCg27 rfl 3 (by decide) k_0 (fun _ h9 => h9) rfl dX1_mayFollow_4 ?_
      refine lv_icmp_ge (tgt := 50) hx hb dX1_mayFollow_7 (by decide) (fun c7 => ?_) (fun c7 => ?_)
      · replace h := ifp h c7
        exact JE2 _ _ _ _ h hP hD hS (lv_sub hl [0, 1, 2, 3] rfl)
      · replace h := ifn h c7
        refine lv_aload_n hx hb dX1_mayFollow_10 rfl (lv_at hl 1 rfl) ?_
        refine va_get (D := D) (ci := 1) (fs := vX1 ad F) (v := .ref (ad 28)) (C := RX1) (T := TX1) (N := 11) hx hb hts n_1 hown hK hP 27 wCg27 rfl 0 (by decide) k_2 (fun _ h9 => h9) rfl dX1_mayFollow_11 ?_
        refine lv_iload_n hx hb dX1_mayFollow_14 rfl (lv_at hl 0 rfl) ?_
        obtain ⟨g15, h⟩ := og h
        refine va_iald (D := D) hx hb hK hP 28 0 wCg28 rfl (inB_in g15) dX1_mayFollow_15 ?_
        refine lv_iload_n hx hb dX1_mayFollow_16 rfl (lv_at hl 2 rfl) ?_
        refine lv_icmp_le (tgt := 22) hx hb dX1_mayFollow_17 (by decide) (fun c17 => ?_) (fun c17 => ?_)
        · replace h := ifp h c17
          refine lv_aload_n hx hb dX1_mayFollow_22 rfl (lv_at hl 1 rfl) ?_
          refine va_get (D := D) (ci := 1) (fs := vX1 ad F) (v := .ref (ad 28)) (C := RX1) (T := TX1) (N := 11) hx hb hts n_1 hown hK hP 27 wCg27 rfl 0 (by decide) k_2 (fun _ h9 => h9) rfl dX1_mayFollow_23 ?_
          refine lv_iload_n hx hb dX1_mayFollow_26 rfl (lv_at hl 0 rfl) ?_
          obtain ⟨g27, h⟩ := og h
          refine va_iald (D := D) hx hb hK hP 28 0 wCg28 rfl (inB_in g27) dX1_mayFollow_27 ?_
          refine lv_iload_n hx hb dX1_mayFollow_28 rfl (lv_at hl 2 rfl) ?_
          refine lv_icmp_ne (tgt := 44) hx hb dX1_mayFollow_29 (by decide) (fun c29 => ?_) (fun c29 => ?_)
          · replace h := ifn h c29
            obtain ⟨x44, ex44⟩ : ∃ z : Int32, z = (z2_0 + 1) := ⟨_, rfl⟩
            replace h := pl h ex44
            refine lv_iinc (v := x44) (lv' := [(3, .int (x44)), (0, .ref (ad 27)), (1, .int (a1)), (2, .int (a2))]) hx hb dX1_mayFollow_44 hl (k := 0) rfl (by rw [ex44]; rfl) (by decide) rfl (fun ls hl => ?_)
            refine lv_goto (tgt := 2) hx hb dX1_mayFollow_47 (by decide) ?_
            exact ih2 _ _ _ _ h hP hD hS (lv_sub hl [0, 1, 2, 3] rfl)
          · replace h := ifp h c29
            refine lv_aload_n hx hb dX1_mayFollow_32 rfl (lv_at hl 1 rfl) ?_
            refine va_get (D := D) (ci := 1) (fs := vX1 ad F) (v := .ref (ad 29)) (C := RX1) (T := TX1) (N := 11) hx hb hts n_1 hown hK hP 27 wCg27 rfl 1 (by decide) k_3 (fun _ h9 => h9) rfl dX1_mayFollow_33 ?_
            refine lv_iload_n hx hb dX1_mayFollow_36 rfl (lv_at hl 0 rfl) ?_
            obtain ⟨g37, h⟩ := og h
            refine va_iald (D := D) hx hb hK hP 29 0 wCg29 rfl (inB_in g37) dX1_mayFollow_37 ?_
            refine lv_iload_n hx hb dX1_mayFollow_38 rfl (lv_at hl 3 rfl) ?_
            refine lv_icmp_ne (tgt := 44) hx hb dX1_mayFollow_39 (by decide) (fun c39 => ?_) (fun c39 => ?_)
            · replace h := ifn h c39
              obtain ⟨x44, ex44⟩ : ∃ z : Int32, z = (z2_0 + 1) := ⟨_, rfl⟩
              replace h := pl h ex44
              refine lv_iinc (v := x44) (lv' := [(3, .int (x44)), (0, .ref (ad 27)), (1, .int (a1)), (2, .int (a2))]) hx hb dX1_mayFollow_44 hl (k := 0) rfl (by rw [ex44]; rfl) (by decide) rfl (fun ls hl => ?_)
              refine lv_goto (tgt := 2) hx hb dX1_mayFollow_47 (by decide) ?_
              exact ih2 _ _ _ _ h hP hD hS (lv_sub hl [0, 1, 2, 3] rfl)
            · replace h := ifp h c39
              refine lv_iconst (v := 0) hx hb dX1_mayFollow_42 (by decide) ?_
              exact hret _ _ _ _ _ dX1_mayFollow_43 rfl h hP hD hS
        · replace h := ifn h c17
          refine lv_iconst (v := 0) hx hb dX1_mayFollow_20 (by decide) ?_
          exact hret _ _ _ _ _ dX1_mayFollow_21 rfl h hP hD hS
  exact LL2 n 0 _ _ _ h hP hD hS (lv_sub hl [0, 1, 2, 3] rfl)

def p_X1_readGap (F : tF) (G : tG) (a1 : Int32) (a2 : Int32) : Option (tF × tG) :=
  bi2 ((if a2 = 0 then bi2 (p_X1_addDark F G a1) (fun F14 G14 => some (F14, G14)) else bi2 (p_X1_addSure F G a1) (fun F6 G6 => some (F6, G6)))) (fun (F1j : tF) (G1j : tG) => some (F1j, G1j))
set_option maxHeartbeats 4000000 in
set_option maxRecDepth 100000 in
theorem c_X1_readGap (l : Launch) (D : va_G) (ad : Nat → Nat) (cA : ClassId) (n : Nat) (F : tF) (G : tG) (a1 : Int32) (a2 : Int32) {F' : tF} {G' : tG} (h : p_X1_readGap F G a1 a2 = some (F', G')) : CV l yX1_readGap wsX1_readGap ({ frames := 3, cells := 0, slots := 0, locals := 63 } : Room) D cA (wC ad cA F G) [.ref (ad 27), .int (a1), .int (a2)] (wC ad cA F' G') := by
  rw [p_X1_readGap] at h
  refine metVm (w := wC ad cA) (cc := cX1_readGap) (maxL := 3) (by decide) rfl (Nat.le_of_ble_eq_true rfl) ?_
  intro p e s m args below meth c A ls Q hE hret
  obtain ⟨hx, hb, hts, hown, hml, hP, hK, hD, hN, hA, hl⟩ := hE
  have hown : s.vm.findClass RX1 = some m.cls := hown
  have hl : lv_has ls 3 [(0, .ref (ad 27)), (1, .int (a1)), (2, .int (a2))] := hl
  have hS : va_S A s.heap s.heap [] := va_S.rf
  refine lv_iload_n hx hb dX1_readGap_0 rfl (lv_at hl 2 rfl) ?_
  obtain ⟨F1j, G1j, q1, h⟩ := bi2e h
  have J1 : ∀ (wF1j : tF) (wG1j : tG), some (wF1j, wG1j) = some (F1j, G1j) → ∀ (H : Heap) (locs : List Loc) (ls : Array Slot), va_P D vwCl (wC ad cA wF1j wG1j) H → va_D A (wC ad cA wF1j wG1j) → va_S A s.heap H locs → lv_has ls 3 [(0, .ref (ad 27)), (1, .int (a1)), (2, .int (a2))] → W p l e ({ frames := 3, cells := 0, slots := 0, locals := 63 } : Room) s m args below meth c H locs 0 0 Q (F0 m 17 ls []) := by
    intro wF1j wG1j e9 H locs ls hP hD hS hl
    cases e9
    exact hret _ _ _ _ _ _ dX1_readGap_17 h hP hD hS
  refine lv_if_eq (tgt := 12) hx hb dX1_readGap_1 (by decide) (fun c1 => ?_) (fun c1 => ?_)
  · replace q1 := ifp q1 c1
    refine lv_aload_n hx hb dX1_readGap_12 rfl (lv_at hl 0 rfl) ?_
    refine lv_iload_n hx hb dX1_readGap_13 rfl (lv_at hl 1 rfl) ?_
    obtain ⟨F14, G14, h14, q1⟩ := bi2e q1
    refine callVV (b := ad 27) (As := [.int (a1)]) (rest := []) ⟨hx, hb, hml, hown, hts⟩ (c_X1_addDark l D ad cA n F G a1 h14) (cwV 1 hts gX1_readGap_X1_addDark rfl rfl rfl (by decide +kernel) ⟨Nat.le_of_ble_eq_true rfl, Nat.le_of_ble_eq_true rfl⟩) (va_recv hK hP (ci := 1) (q0 := 27) rfl wCg27) hP hK hD hN hS hA rfl hl.1 rfl (Nat.le_of_ble_eq_true rfl) dX1_readGap_14 ⟨Nat.zero_le _, Nat.zero_le _⟩ (fun H locs hP hD hS => ?_)
    exact J1 _ _ q1 _ _ _ hP hD hS (lv_sub hl [0, 1, 2] rfl)
  · replace q1 := ifn q1 c1
    refine lv_aload_n hx hb dX1_readGap_4 rfl (lv_at hl 0 rfl) ?_
    refine lv_iload_n hx hb dX1_readGap_5 rfl (lv_at hl 1 rfl) ?_
    obtain ⟨F6, G6, h6, q1⟩ := bi2e q1
    refine callVV (b := ad 27) (As := [.int (a1)]) (rest := []) ⟨hx, hb, hml, hown, hts⟩ (c_X1_addSure l D ad cA n F G a1 h6) (cwV 1 hts gX1_readGap_X1_addSure rfl rfl rfl (by decide +kernel) ⟨Nat.le_of_ble_eq_true rfl, Nat.le_of_ble_eq_true rfl⟩) (va_recv hK hP (ci := 1) (q0 := 27) rfl wCg27) hP hK hD hN hS hA rfl hl.1 rfl (Nat.le_of_ble_eq_true rfl) dX1_readGap_6 ⟨Nat.zero_le _, Nat.zero_le _⟩ (fun H locs hP hD hS => ?_)
    refine lv_goto (tgt := 17) hx hb dX1_readGap_9 (by decide) ?_
    exact J1 _ _ q1 _ _ _ hP hD hS (lv_sub hl [0, 1, 2] rfl)

def p_X1_readEntry (F : tF) (G : tG) (a1 : Int32) : Option (tF × tG) :=
  plet (upd F 25 ((F 25) + 1)) (fun (F7 : tF) => bi2 ((if a1 = 0 then plet (upd F7 30 0) (fun (F24 : tF) => plet (upd F24 31 0) (fun (F29 : tF) => some (F29, G))) else bi2 (p_X1_addSure F7 G 1) (fun F16 G16 => some (F16, G16)))) (fun (F11j : tF) (G11j : tG) => some (F11j, G11j)))
set_option maxHeartbeats 4000000 in
set_option maxRecDepth 100000 in
theorem c_X1_readEntry (l : Launch) (D : va_G) (ad : Nat → Nat) (cA : ClassId) (n : Nat) (F : tF) (G : tG) (a1 : Int32) {F' : tF} {G' : tG} (h : p_X1_readEntry F G a1 = some (F', G')) : CV l yX1_readEntry wsX1_readEntry ({ frames := 3, cells := 0, slots := 0, locals := 63 } : Room) D cA (wC ad cA F G) [.ref (ad 27), .int (a1)] (wC ad cA F' G') := by
  rw [p_X1_readEntry] at h
  refine metVm (w := wC ad cA) (cc := cX1_readEntry) (maxL := 2) (by decide) rfl (Nat.le_of_ble_eq_true rfl) ?_
  intro p e s m args below meth c A ls Q hE hret
  obtain ⟨hx, hb, hts, hown, hml, hP, hK, hD, hN, hA, hl⟩ := hE
  have hown : s.vm.findClass RX1 = some m.cls := hown
  have hl : lv_has ls 2 [(0, .ref (ad 27)), (1, .int (a1))] := hl
  have hS : va_S A s.heap s.heap [] := va_S.rf
  have k_0 : (Cond.fieldLink RX1 36 "BellBook$Book" "seen" "I").before args s = true := hts _ (List.mem_of_getElem? (i := 1) rfl)
  have n_1 : ∀ w ∈ u_ws RX1 TX1 11, w ∈ wsX1_readEntry := fun w hw => List.mem_cons_of_mem _ (List.mem_append_right _ hw)
  have k_2 : (Cond.fieldLink RX1 51 "BellBook$Book" "sureRow" "I").before args s = true := hts _ (List.mem_of_getElem? (i := 2) rfl)
  have k_3 : (Cond.fieldLink RX1 54 "BellBook$Book" "maybeRow" "I").before args s = true := hts _ (List.mem_of_getElem? (i := 3) rfl)
  refine lv_aload_n hx hb dX1_readEntry_0 rfl (lv_at hl 0 rfl) ?_
  refine lv_dup hx hb dX1_readEntry_1 rfl ?_
  refine va_get (D := D) (ci := 1) (fs := vX1 ad F) (v := .int ((F 25))) (C := RX1) (T := TX1) (N := 11) hx hb hts n_1 hown hK hP 27 wCg27 rfl 4 (by decide) k_0 (fun _ h9 => h9) rfl dX1_readEntry_2 ?_
  refine lv_iconst (v := 1) hx hb dX1_readEntry_5 (by decide) ?_
  refine lv_iadd hx hb dX1_readEntry_6 ?_
  obtain ⟨F7, eF7⟩ : ∃ f : tF, f = upd F 25 ((F 25) + 1) := ⟨_, rfl⟩
  replace h := pl h eF7
  refine va_put (D := D) (ci := 1) (fs := vX1 ad F) (v := .int (((F 25) + 1))) (ty := .int) (C := RX1) (T := TX1) (N := 11) hx hb hts n_1 tyX1 tyX1_ok nmX1 hown hK hP hD hS 27 wCg27 rfl 4 (by decide) k_0 (fun _ h9 => h9) rfl (tyX1_ok 4 (by decide)) rfl rfl (Nat.le_of_ble_eq_true rfl) dX1_readEntry_7 (fun H locs hP hD hS => ?_)
  rw [wCp25 eF7] at hP hD
  refine lv_iload_n hx hb dX1_readEntry_10 rfl (lv_at hl 1 rfl) ?_
  obtain ⟨F11j, G11j, q11, h⟩ := bi2e h
  have J11 : ∀ (wF11j : tF) (wG11j : tG), some (wF11j, wG11j) = some (F11j, G11j) → ∀ (H : Heap) (locs : List Loc) (ls : Array Slot), va_P D vwCl (wC ad cA wF11j wG11j) H → va_D A (wC ad cA wF11j wG11j) → va_S A s.heap H locs → lv_has ls 2 [(0, .ref (ad 27)), (1, .int (a1))] → W p l e ({ frames := 3, cells := 0, slots := 0, locals := 63 } : Room) s m args below meth c H locs 0 0 Q (F0 m 32 ls []) := by
    intro wF11j wG11j e9 H locs ls hP hD hS hl
    cases e9
    exact hret _ _ _ _ _ _ dX1_readEntry_32 h hP hD hS
  refine lv_if_eq (tgt := 22) hx hb dX1_readEntry_11 (by decide) (fun c11 => ?_) (fun c11 => ?_)
  · replace q11 := ifp q11 c11
    refine lv_aload_n hx hb dX1_readEntry_22 rfl (lv_at hl 0 rfl) ?_
    refine lv_iconst (v := 0) hx hb dX1_readEntry_23 (by decide) ?_
    obtain ⟨F24, eF24⟩ : ∃ f : tF, f = upd F7 30 0 := ⟨_, rfl⟩
    replace q11 := pl q11 eF24
    refine va_put (D := D) (ci := 1) (fs := vX1 ad F7) (v := .int (0)) (ty := .int) (C := RX1) (T := TX1) (N := 11) hx hb hts n_1 tyX1 tyX1_ok nmX1 hown hK hP hD hS 27 wCg27 rfl 9 (by decide) k_2 (fun _ h9 => h9) rfl (tyX1_ok 9 (by decide)) rfl rfl (Nat.le_of_ble_eq_true rfl) dX1_readEntry_24 (fun H locs hP hD hS => ?_)
    rw [wCp30 eF24] at hP hD
    refine lv_aload_n hx hb dX1_readEntry_27 rfl (lv_at hl 0 rfl) ?_
    refine lv_iconst (v := 0) hx hb dX1_readEntry_28 (by decide) ?_
    obtain ⟨F29, eF29⟩ : ∃ f : tF, f = upd F24 31 0 := ⟨_, rfl⟩
    replace q11 := pl q11 eF29
    refine va_put (D := D) (ci := 1) (fs := vX1 ad F24) (v := .int (0)) (ty := .int) (C := RX1) (T := TX1) (N := 11) hx hb hts n_1 tyX1 tyX1_ok nmX1 hown hK hP hD hS 27 wCg27 rfl 10 (by decide) k_3 (fun _ h9 => h9) rfl (tyX1_ok 10 (by decide)) rfl rfl (Nat.le_of_ble_eq_true rfl) dX1_readEntry_29 (fun H locs hP hD hS => ?_)
    rw [wCp31 eF29] at hP hD
    exact J11 _ _ q11 _ _ _ hP hD hS (lv_sub hl [0, 1] rfl)
  · replace q11 := ifn q11 c11
    refine lv_aload_n hx hb dX1_readEntry_14 rfl (lv_at hl 0 rfl) ?_
    refine lv_iconst (v := 1) hx hb dX1_readEntry_15 (by decide) ?_
    obtain ⟨F16, G16, h16, q11⟩ := bi2e q11
    refine callVV (b := ad 27) (As := [.int (1)]) (rest := []) ⟨hx, hb, hml, hown, hts⟩ (c_X1_addSure l D ad cA n F7 G 1 h16) (cwV 1 hts gX1_readEntry_X1_addSure rfl rfl rfl (by decide +kernel) ⟨Nat.le_of_ble_eq_true rfl, Nat.le_of_ble_eq_true rfl⟩) (va_recv hK hP (ci := 1) (q0 := 27) rfl wCg27) hP hK hD hN hS hA rfl hl.1 rfl (Nat.le_of_ble_eq_true rfl) dX1_readEntry_16 ⟨Nat.zero_le _, Nat.zero_le _⟩ (fun H locs hP hD hS => ?_)
    refine lv_goto (tgt := 32) hx hb dX1_readEntry_19 (by decide) ?_
    exact J11 _ _ q11 _ _ _ hP hD hS (lv_sub hl [0, 1] rfl)

def p_X1_read_L9 (a1 : Int32) (K9 : Int32 → Int32 → tF → tG → Option (tF × tG)) : Nat → Int32 → Int32 → tF → tG → Option (tF × tG)
  | 0, _, _, _, _ => none
  | k9 + 1, z9_0, z9_1, F9l, G9l => (if (F9l 24) ≤ z9_0 then K9 z9_0 z9_1 F9l G9l else oguard (inB z9_0 40) (bi3 ((if (G9l 21 z9_0.toNatClampNeg) = a1 then bi2 ((if z9_1 = (-6) then some (F9l, G9l) else oguard (inB z9_0 40) (oguard (inB z9_1 40) (oguard (inB z9_1 40) (bi1 ((if (G9l 22 z9_1.toNatClampNeg) = 2 then oguard (inB z9_0 40) ((if (G9l 22 z9_0.toNatClampNeg) = 2 then some (1) else some (0))) else some (0))) (fun (y59_0 : Int32) => bi2 (p_X1_readGap F9l G9l (((G9l 20 z9_0.toNatClampNeg) - (G9l 20 z9_1.toNatClampNeg)) - 1) y59_0) (fun F77 G77 => some (F77, G77)))))))) (fun (F33j : tF) (G33j : tG) => oguard (inB z9_0 40) (bi1 ((if (G33j 22 z9_0.toNatClampNeg) = 2 then some (1) else some (0))) (fun (y88_0 : Int32) => bi2 (p_X1_readEntry F33j G33j y88_0) (fun F96 G96 => some (z9_0, F96, G96))))) else some (z9_1, F9l, G9l))) (fun (y24_0 : Int32) (F24j : tF) (G24j : tG) => plet (z9_0 + 1) (fun (x101 : Int32) => p_X1_read_L9 a1 K9 k9 x101 y24_0 F24j G24j))))
theorem p_X1_read_L9_k {a1 : Int32} {K0 : Int32 → Int32 → tF → tG → Option (tF × tG)} {k : Nat} {z9_0 : Int32} {z9_1 : Int32} {F9l : tF} {G9l : tG} {x : tF × tG} (h : p_X1_read_L9 a1 K0 k z9_0 z9_1 F9l G9l = some x) : ∃ K, K = K0 ∧ p_X1_read_L9 a1 K k z9_0 z9_1 F9l G9l = some x := ⟨K0, rfl, h⟩
def p_X1_read (n : Nat) (F : tF) (G : tG) (a1 : Int32) : Option (tF × tG) :=
  bi2 (p_X1_forgetReading F G) (fun F1 G1 => p_X1_read_L9 a1 (fun (z9_0 : Int32) (z9_1 : Int32) (F9l : tF) (G9l : tG) => some (F9l, G9l)) n 0 (-6) F1 G1)
set_option maxHeartbeats 4000000 in
set_option maxRecDepth 100000 in
theorem c_X1_read (l : Launch) (D : va_G) (ad : Nat → Nat) (cA : ClassId) (n : Nat) (F : tF) (G : tG) (a1 : Int32) {F' : tF} {G' : tG} (h : p_X1_read n F G a1 = some (F', G')) : CV l yX1_read wsX1_read ({ frames := 4, cells := 0, slots := 0, locals := 85 } : Room) D cA (wC ad cA F G) [.ref (ad 27), .int (a1)] (wC ad cA F' G') := by
  rw [p_X1_read] at h
  refine metVm (w := wC ad cA) (cc := cX1_read) (maxL := 4) (by decide) rfl (Nat.le_of_ble_eq_true rfl) ?_
  intro p e s m args below meth c A ls Q hE hret
  obtain ⟨hx, hb, hts, hown, hml, hP, hK, hD, hN, hA, hl⟩ := hE
  have hown : s.vm.findClass RX1 = some m.cls := hown
  have hl : lv_has ls 4 [(0, .ref (ad 27)), (1, .int (a1))] := hl
  have hS : va_S A s.heap s.heap [] := va_S.rf
  have k_0 : (Cond.fieldLink RX1 21 "BellBook$Book" "count" "I").before args s = true := hts _ (List.mem_of_getElem? (i := 1) rfl)
  have n_1 : ∀ w ∈ u_ws RX1 TX1 11, w ∈ wsX1_read := fun w hw => List.mem_cons_of_mem _ (List.mem_append_right _ hw)
  have k_2 : (Cond.fieldLink RX1 15 "BellBook$Book" "men" "[I").before args s = true := hts _ (List.mem_of_getElem? (i := 2) rfl)
  have k_3 : (Cond.fieldLink RX1 11 "BellBook$Book" "minutes" "[I").before args s = true := hts _ (List.mem_of_getElem? (i := 3) rfl)
  have k_4 : (Cond.fieldLink RX1 18 "BellBook$Book" "places" "[I").before args s = true := hts _ (List.mem_of_getElem? (i := 4) rfl)
  refine lv_aload_n hx hb dX1_read_0 rfl (lv_at hl 0 rfl) ?_
  obtain ⟨F1, G1, h1, h⟩ := bi2e h
  refine callVV (b := ad 27) (As := []) (rest := []) ⟨hx, hb, hml, hown, hts⟩ (c_X1_forgetReading l D ad cA n F G h1) (cwV 0 hts gX1_read_X1_forgetReading rfl rfl rfl (by decide +kernel) ⟨Nat.le_of_ble_eq_true rfl, Nat.le_of_ble_eq_true rfl⟩) (va_recv hK hP (ci := 1) (q0 := 27) rfl wCg27) hP hK hD hN hS hA rfl hl.1 rfl (Nat.le_of_ble_eq_true rfl) dX1_read_1 ⟨Nat.zero_le _, Nat.zero_le _⟩ (fun H locs hP hD hS => ?_)
  refine lv_bipush (v := (-6)) hx hb dX1_read_4 (by decide) ?_
  refine lv_istore_n (lv' := [(2, .int ((-6))), (0, .ref (ad 27)), (1, .int (a1))]) hx hb dX1_read_6 rfl hl (by decide) rfl (fun ls hl => ?_)
  refine lv_iconst (v := 0) hx hb dX1_read_7 (by decide) ?_
  refine lv_istore_n (lv' := [(3, .int (0)), (2, .int ((-6))), (0, .ref (ad 27)), (1, .int (a1))]) hx hb dX1_read_8 rfl hl (by decide) rfl (fun ls hl => ?_)
  obtain ⟨K9, eK9, h⟩ := p_X1_read_L9_k h
  have JE9 : ∀ (z9_0 : Int32) (z9_1 : Int32) (F9l : tF) (G9l : tG) (H : Heap) (locs : List Loc) (ls : Array Slot), K9 z9_0 z9_1 F9l G9l = some (F', G') → va_P D vwCl (wC ad cA F9l G9l) H → va_D A (wC ad cA F9l G9l) → va_S A s.heap H locs → lv_has ls 4 [(3, .int (z9_0)), (2, .int (z9_1)), (0, .ref (ad 27)), (1, .int (a1))] → W p l e ({ frames := 4, cells := 0, slots := 0, locals := 85 } : Room) s m args below meth c H locs 0 0 Q (F0 m 107 ls []) := by
    intro z9_0 z9_1 F9l G9l H locs ls h hP hD hS hl
    rw [eK9] at h
    exact hret _ _ _ _ _ _ dX1_read_107 h hP hD hS
  have LL9 : ∀ (k : Nat) (z9_0 : Int32) (z9_1 : Int32) (F9l : tF) (G9l : tG) (H : Heap) (locs : List Loc) (ls : Array Slot), p_X1_read_L9 a1 K9 k z9_0 z9_1 F9l G9l = some (F', G') → va_P D vwCl (wC ad cA F9l G9l) H → va_D A (wC ad cA F9l G9l) → va_S A s.heap H locs → lv_has ls 4 [(3, .int (z9_0)), (2, .int (z9_1)), (0, .ref (ad 27)), (1, .int (a1))] → W p l e ({ frames := 4, cells := 0, slots := 0, locals := 85 } : Room) s m args below meth c H locs 0 0 Q (F0 m 9 ls []) := by
    intro k
    induction k with
    | zero =>
      intro z9_0 z9_1 F9l G9l H locs ls h hP hD hS hl
      rw [p_X1_read_L9] at h
      cases h
    | succ k9 ih9 =>
      intro z9_0 z9_1 F9l G9l H locs ls h hP hD hS hl
      rw [p_X1_read_L9] at h
      refine lv_iload_n hx hb dX1_read_9 rfl (lv_at hl 0 rfl) ?_
      refine lv_aload_n hx hb dX1_read_10 rfl (lv_at hl 2 rfl) ?_
      refine va_get (D := D) (ci := 1) (fs := vX1 ad F9l) (v := .int ((F9l 24))) (C := RX1) (T := TX1) (N := 11) hx hb hts n_1 hown hK hP 27 wCg27 rfl 3 (by decide) k_0 (fun _ h9 => h9) rfl dX1_read_11 ?_
      refine lv_icmp_ge (tgt := 107) hx hb dX1_read_14 (by decide) (fun c14 => ?_) (fun c14 => ?_)
      · replace h := ifp h c14
        exact JE9 _ _ _ _ _ _ _ h hP hD hS (lv_sub hl [0, 1, 2, 3] rfl)
      · replace h := ifn h c14
        refine lv_aload_n hx hb dX1_read_17 rfl (lv_at hl 2 rfl) ?_
        refine va_get (D := D) (ci := 1) (fs := vX1 ad F9l) (v := .ref (ad 29)) (C := RX1) (T := TX1) (N := 11) hx hb hts n_1 hown hK hP 27 wCg27 rfl 1 (by decide) k_2 (fun _ h9 => h9) rfl dX1_read_18 ?_
        refine lv_iload_n hx hb dX1_read_21 rfl (lv_at hl 0 rfl) ?_
        obtain ⟨g22, h⟩ := og h
        refine va_iald (D := D) hx hb hK hP 29 0 wCg29 rfl (inB_in g22) dX1_read_22 ?_
        refine lv_iload_n hx hb dX1_read_23 rfl (lv_at hl 3 rfl) ?_
        obtain ⟨y24_0, F24j, G24j, q24, h⟩ := bi3e h
        have J24 : ∀ (wy24_0 : Int32) (wF24j : tF) (wG24j : tG), some (wy24_0, wF24j, wG24j) = some (y24_0, F24j, G24j) → ∀ (H : Heap) (locs : List Loc) (ls : Array Slot), va_P D vwCl (wC ad cA wF24j wG24j) H → va_D A (wC ad cA wF24j wG24j) → va_S A s.heap H locs → lv_has ls 4 [(3, .int (z9_0)), (2, .int (wy24_0)), (0, .ref (ad 27)), (1, .int (a1))] → W p l e ({ frames := 4, cells := 0, slots := 0, locals := 85 } : Room) s m args below meth c H locs 0 0 Q (F0 m 101 ls []) := by
          intro wy24_0 wF24j wG24j e9 H locs ls hP hD hS hl
          cases e9
          obtain ⟨x101, ex101⟩ : ∃ z : Int32, z = (z9_0 + 1) := ⟨_, rfl⟩
          replace h := pl h ex101
          refine lv_iinc (v := x101) (lv' := [(3, .int (x101)), (2, .int (y24_0)), (0, .ref (ad 27)), (1, .int (a1))]) hx hb dX1_read_101 hl (k := 0) rfl (by rw [ex101]; rfl) (by decide) rfl (fun ls hl => ?_)
          refine lv_goto (tgt := 9) hx hb dX1_read_104 (by decide) ?_
          exact ih9 _ _ _ _ _ _ _ h hP hD hS (lv_sub hl [0, 1, 2, 3] rfl)
        refine lv_icmp_eq (tgt := 30) hx hb dX1_read_24 (by decide) (fun c24 => ?_) (fun c24 => ?_)
        · replace q24 := ifp q24 c24
          refine lv_iload_n hx hb dX1_read_30 rfl (lv_at hl 1 rfl) ?_
          refine lv_bipush (v := (-6)) hx hb dX1_read_31 (by decide) ?_
          obtain ⟨F33j, G33j, q33, q24⟩ := bi2e q24
          have J33 : ∀ (wF33j : tF) (wG33j : tG), some (wF33j, wG33j) = some (F33j, G33j) → ∀ (H : Heap) (locs : List Loc) (ls : Array Slot), va_P D vwCl (wC ad cA wF33j wG33j) H → va_D A (wC ad cA wF33j wG33j) → va_S A s.heap H locs → lv_has ls 4 [(3, .int (z9_0)), (2, .int (z9_1)), (0, .ref (ad 27)), (1, .int (a1))] → W p l e ({ frames := 4, cells := 0, slots := 0, locals := 85 } : Room) s m args below meth c H locs 0 0 Q (F0 m 80 ls []) := by
            intro wF33j wG33j e9 H locs ls hP hD hS hl
            cases e9
            refine lv_aload_n hx hb dX1_read_80 rfl (lv_at hl 2 rfl) ?_
            refine lv_aload_n hx hb dX1_read_81 rfl (lv_at hl 2 rfl) ?_
            refine va_get (D := D) (ci := 1) (fs := vX1 ad F33j) (v := .ref (ad 30)) (C := RX1) (T := TX1) (N := 11) hx hb hts n_1 hown hK hP 27 wCg27 rfl 2 (by decide) k_4 (fun _ h9 => h9) rfl dX1_read_82 ?_
            refine lv_iload_n hx hb dX1_read_85 rfl (lv_at hl 0 rfl) ?_
            obtain ⟨g86, q24⟩ := og q24
            refine va_iald (D := D) hx hb hK hP 30 0 wCg30 rfl (inB_in g86) dX1_read_86 ?_
            refine lv_iconst (v := 2) hx hb dX1_read_87 (by decide) ?_
            obtain ⟨y88_0, q88, q24⟩ := bi1e q24
            have J88 : ∀ (wy88_0 : Int32), some (wy88_0) = some (y88_0) → ∀ (H : Heap) (locs : List Loc) (ls : Array Slot), va_P D vwCl (wC ad cA F33j G33j) H → va_D A (wC ad cA F33j G33j) → va_S A s.heap H locs → lv_has ls 4 [(3, .int (z9_0)), (2, .int (z9_1)), (0, .ref (ad 27)), (1, .int (a1))] → W p l e ({ frames := 4, cells := 0, slots := 0, locals := 85 } : Room) s m args below meth c H locs 0 0 Q (F0 m 96 ls [.int (wy88_0), .ref (ad 27)]) := by
              intro wy88_0 e9 H locs ls hP hD hS hl
              cases e9
              obtain ⟨F96, G96, h96, q24⟩ := bi2e q24
              refine callVV (b := ad 27) (As := [.int (y88_0)]) (rest := []) ⟨hx, hb, hml, hown, hts⟩ (c_X1_readEntry l D ad cA n F33j G33j y88_0 h96) (cwV 1 hts gX1_read_X1_readEntry rfl rfl rfl (by decide +kernel) ⟨Nat.le_of_ble_eq_true rfl, Nat.le_of_ble_eq_true rfl⟩) (va_recv hK hP (ci := 1) (q0 := 27) rfl wCg27) hP hK hD hN hS hA rfl hl.1 rfl (Nat.le_of_ble_eq_true rfl) dX1_read_96 ⟨Nat.zero_le _, Nat.zero_le _⟩ (fun H locs hP hD hS => ?_)
              refine lv_iload_n hx hb dX1_read_99 rfl (lv_at hl 0 rfl) ?_
              refine lv_istore_n (lv' := [(2, .int (z9_0)), (3, .int (z9_0)), (0, .ref (ad 27)), (1, .int (a1))]) hx hb dX1_read_100 rfl hl (by decide) rfl (fun ls hl => ?_)
              exact J24 _ _ _ q24 _ _ _ hP hD hS (lv_sub hl [1, 0, 2, 3] rfl)
            refine lv_icmp_ne (tgt := 95) hx hb dX1_read_88 (by decide) (fun c88 => ?_) (fun c88 => ?_)
            · replace q88 := ifn q88 c88
              refine lv_iconst (v := 0) hx hb dX1_read_95 (by decide) ?_
              exact J88 _ q88 _ _ _ hP hD hS (lv_sub hl [0, 1, 2, 3] rfl)
            · replace q88 := ifp q88 c88
              refine lv_iconst (v := 1) hx hb dX1_read_91 (by decide) ?_
              refine lv_goto (tgt := 96) hx hb dX1_read_92 (by decide) ?_
              exact J88 _ q88 _ _ _ hP hD hS (lv_sub hl [0, 1, 2, 3] rfl)
          refine lv_icmp_eq (tgt := 80) hx hb dX1_read_33 (by decide) (fun c33 => ?_) (fun c33 => ?_)
          · replace q33 := ifp q33 c33
            exact J33 _ _ q33 _ _ _ hP hD hS (lv_sub hl [0, 1, 2, 3] rfl)
          · replace q33 := ifn q33 c33
            refine lv_aload_n hx hb dX1_read_36 rfl (lv_at hl 2 rfl) ?_
            refine lv_aload_n hx hb dX1_read_37 rfl (lv_at hl 2 rfl) ?_
            refine va_get (D := D) (ci := 1) (fs := vX1 ad F9l) (v := .ref (ad 28)) (C := RX1) (T := TX1) (N := 11) hx hb hts n_1 hown hK hP 27 wCg27 rfl 0 (by decide) k_3 (fun _ h9 => h9) rfl dX1_read_38 ?_
            refine lv_iload_n hx hb dX1_read_41 rfl (lv_at hl 0 rfl) ?_
            obtain ⟨g42, q33⟩ := og q33
            refine va_iald (D := D) hx hb hK hP 28 0 wCg28 rfl (inB_in g42) dX1_read_42 ?_
            refine lv_aload_n hx hb dX1_read_43 rfl (lv_at hl 2 rfl) ?_
            refine va_get (D := D) (ci := 1) (fs := vX1 ad F9l) (v := .ref (ad 28)) (C := RX1) (T := TX1) (N := 11) hx hb hts n_1 hown hK hP 27 wCg27 rfl 0 (by decide) k_3 (fun _ h9 => h9) rfl dX1_read_44 ?_
            refine lv_iload_n hx hb dX1_read_47 rfl (lv_at hl 1 rfl) ?_
            obtain ⟨g48, q33⟩ := og q33
            refine va_iald (D := D) hx hb hK hP 28 0 wCg28 rfl (inB_in g48) dX1_read_48 ?_
            refine lv_isub hx hb dX1_read_49 ?_
            refine lv_iconst (v := 1) hx hb dX1_read_50 (by decide) ?_
            refine lv_isub hx hb dX1_read_51 ?_
            refine lv_aload_n hx hb dX1_read_52 rfl (lv_at hl 2 rfl) ?_
            refine va_get (D := D) (ci := 1) (fs := vX1 ad F9l) (v := .ref (ad 30)) (C := RX1) (T := TX1) (N := 11) hx hb hts n_1 hown hK hP 27 wCg27 rfl 2 (by decide) k_4 (fun _ h9 => h9) rfl dX1_read_53 ?_
            refine lv_iload_n hx hb dX1_read_56 rfl (lv_at hl 1 rfl) ?_
            obtain ⟨g57, q33⟩ := og q33
            refine va_iald (D := D) hx hb hK hP 30 0 wCg30 rfl (inB_in g57) dX1_read_57 ?_
            refine lv_iconst (v := 2) hx hb dX1_read_58 (by decide) ?_
            obtain ⟨y59_0, q59, q33⟩ := bi1e q33
            have J59 : ∀ (wy59_0 : Int32), some (wy59_0) = some (y59_0) → ∀ (H : Heap) (locs : List Loc) (ls : Array Slot), va_P D vwCl (wC ad cA F9l G9l) H → va_D A (wC ad cA F9l G9l) → va_S A s.heap H locs → lv_has ls 4 [(3, .int (z9_0)), (2, .int (z9_1)), (0, .ref (ad 27)), (1, .int (a1))] → W p l e ({ frames := 4, cells := 0, slots := 0, locals := 85 } : Room) s m args below meth c H locs 0 0 Q (F0 m 77 ls [.int (wy59_0), .int ((((G9l 20 z9_0.toNatClampNeg) - (G9l 20 z9_1.toNatClampNeg)) - 1)), .ref (ad 27)]) := by
              intro wy59_0 e9 H locs ls hP hD hS hl
              cases e9
              obtain ⟨F77, G77, h77, q33⟩ := bi2e q33
              refine callVV (b := ad 27) (As := [.int ((((G9l 20 z9_0.toNatClampNeg) - (G9l 20 z9_1.toNatClampNeg)) - 1)), .int (y59_0)]) (rest := []) ⟨hx, hb, hml, hown, hts⟩ (c_X1_readGap l D ad cA n F9l G9l (((G9l 20 z9_0.toNatClampNeg) - (G9l 20 z9_1.toNatClampNeg)) - 1) y59_0 h77) (cwV 2 hts gX1_read_X1_readGap rfl rfl rfl (by decide +kernel) ⟨Nat.le_of_ble_eq_true rfl, Nat.le_of_ble_eq_true rfl⟩) (va_recv hK hP (ci := 1) (q0 := 27) rfl wCg27) hP hK hD hN hS hA rfl hl.1 rfl (Nat.le_of_ble_eq_true rfl) dX1_read_77 ⟨Nat.zero_le _, Nat.zero_le _⟩ (fun H locs hP hD hS => ?_)
              exact J33 _ _ q33 _ _ _ hP hD hS (lv_sub hl [0, 1, 2, 3] rfl)
            refine lv_icmp_ne (tgt := 76) hx hb dX1_read_59 (by decide) (fun c59 => ?_) (fun c59 => ?_)
            · replace q59 := ifn q59 c59
              refine lv_iconst (v := 0) hx hb dX1_read_76 (by decide) ?_
              exact J59 _ q59 _ _ _ hP hD hS (lv_sub hl [0, 1, 2, 3] rfl)
            · replace q59 := ifp q59 c59
              refine lv_aload_n hx hb dX1_read_62 rfl (lv_at hl 2 rfl) ?_
              refine va_get (D := D) (ci := 1) (fs := vX1 ad F9l) (v := .ref (ad 30)) (C := RX1) (T := TX1) (N := 11) hx hb hts n_1 hown hK hP 27 wCg27 rfl 2 (by decide) k_4 (fun _ h9 => h9) rfl dX1_read_63 ?_
              refine lv_iload_n hx hb dX1_read_66 rfl (lv_at hl 0 rfl) ?_
              obtain ⟨g67, q59⟩ := og q59
              refine va_iald (D := D) hx hb hK hP 30 0 wCg30 rfl (inB_in g67) dX1_read_67 ?_
              refine lv_iconst (v := 2) hx hb dX1_read_68 (by decide) ?_
              refine lv_icmp_ne (tgt := 76) hx hb dX1_read_69 (by decide) (fun c69 => ?_) (fun c69 => ?_)
              · replace q59 := ifn q59 c69
                refine lv_iconst (v := 0) hx hb dX1_read_76 (by decide) ?_
                exact J59 _ q59 _ _ _ hP hD hS (lv_sub hl [0, 1, 2, 3] rfl)
              · replace q59 := ifp q59 c69
                refine lv_iconst (v := 1) hx hb dX1_read_72 (by decide) ?_
                refine lv_goto (tgt := 77) hx hb dX1_read_73 (by decide) ?_
                exact J59 _ q59 _ _ _ hP hD hS (lv_sub hl [0, 1, 2, 3] rfl)
        · replace q24 := ifn q24 c24
          refine lv_goto (tgt := 101) hx hb dX1_read_27 (by decide) ?_
          exact J24 _ _ _ q24 _ _ _ hP hD hS (lv_sub hl [0, 1, 2, 3] rfl)
  exact LL9 n 0 (-6) F1 G1 _ _ _ h hP hD hS (lv_sub hl [0, 1, 2, 3] rfl)

def p_X1_verdict (F : tF) (a1 : Int32) : Option (Int32) :=
  (if (F 28) ≤ a1 then bi1 ((if (F 29) ≤ a1 then some (0) else some (1))) (fun (y15_0 : Int32) => some y15_0) else some 2)
set_option maxHeartbeats 4000000 in
set_option maxRecDepth 100000 in
theorem c_X1_verdict (l : Launch) (D : va_G) (ad : Nat → Nat) (cA : ClassId) (n : Nat) (F : tF) (G : tG) (a1 : Int32) {r : Int32} (h : p_X1_verdict F a1 = some r) : CI l yX1_verdict wsX1_verdict ({ frames := 0, cells := 0, slots := 0, locals := 0 } : Room) D cA (wC ad cA F G) [.ref (ad 27), .int (a1)] r (wC ad cA F G) := by
  rw [p_X1_verdict] at h
  refine metIr (w := wC ad cA) (cc := cX1_verdict) (maxL := 2) (by decide) rfl (Nat.le_of_ble_eq_true rfl) ?_
  intro p e s m args below meth c A ls Q hE hret
  obtain ⟨hx, hb, hts, hown, hml, hP, hK, hD, hN, hA, hl⟩ := hE
  have hown : s.vm.findClass RX1 = some m.cls := hown
  have hl : lv_has ls 2 [(0, .ref (ad 27)), (1, .int (a1))] := hl
  have hS : va_S A s.heap s.heap [] := va_S.rf
  have k_0 : (Cond.fieldLink RX1 45 "BellBook$Book" "longestSure" "I").before args s = true := hts _ (List.mem_of_getElem? (i := 1) rfl)
  have n_1 : ∀ w ∈ u_ws RX1 TX1 11, w ∈ wsX1_verdict := fun w hw => List.mem_cons_of_mem _ (List.mem_append_right _ hw)
  have k_2 : (Cond.fieldLink RX1 48 "BellBook$Book" "longestMaybe" "I").before args s = true := hts _ (List.mem_of_getElem? (i := 2) rfl)
  refine lv_aload_n hx hb dX1_verdict_0 rfl (lv_at hl 0 rfl) ?_
  refine va_get (D := D) (ci := 1) (fs := vX1 ad F) (v := .int ((F 28))) (C := RX1) (T := TX1) (N := 11) hx hb hts n_1 hown hK hP 27 wCg27 rfl 7 (by decide) k_0 (fun _ h9 => h9) rfl dX1_verdict_1 ?_
  refine lv_iload_n hx hb dX1_verdict_4 rfl (lv_at hl 1 rfl) ?_
  refine lv_icmp_le (tgt := 10) hx hb dX1_verdict_5 (by decide) (fun c5 => ?_) (fun c5 => ?_)
  · replace h := ifp h c5
    refine lv_aload_n hx hb dX1_verdict_10 rfl (lv_at hl 0 rfl) ?_
    refine va_get (D := D) (ci := 1) (fs := vX1 ad F) (v := .int ((F 29))) (C := RX1) (T := TX1) (N := 11) hx hb hts n_1 hown hK hP 27 wCg27 rfl 8 (by decide) k_2 (fun _ h9 => h9) rfl dX1_verdict_11 ?_
    refine lv_iload_n hx hb dX1_verdict_14 rfl (lv_at hl 1 rfl) ?_
    obtain ⟨y15_0, q15, h⟩ := bi1e h
    have J15 : ∀ (wy15_0 : Int32), some (wy15_0) = some (y15_0) → ∀ (H : Heap) (locs : List Loc) (ls : Array Slot), va_P D vwCl (wC ad cA F G) H → va_D A (wC ad cA F G) → va_S A s.heap H locs → lv_has ls 2 [(0, .ref (ad 27)), (1, .int (a1))] → W p l e ({ frames := 0, cells := 0, slots := 0, locals := 0 } : Room) s m args below meth c H locs 0 0 Q (F0 m 23 ls [.int (wy15_0)]) := by
      intro wy15_0 e9 H locs ls hP hD hS hl
      cases e9
      exact hret _ _ _ _ _ dX1_verdict_23 h hP hD hS
    refine lv_icmp_le (tgt := 22) hx hb dX1_verdict_15 (by decide) (fun c15 => ?_) (fun c15 => ?_)
    · replace q15 := ifp q15 c15
      refine lv_iconst (v := 0) hx hb dX1_verdict_22 (by decide) ?_
      exact J15 _ q15 _ _ _ hP hD hS (lv_sub hl [0, 1] rfl)
    · replace q15 := ifn q15 c15
      refine lv_iconst (v := 1) hx hb dX1_verdict_18 (by decide) ?_
      refine lv_goto (tgt := 23) hx hb dX1_verdict_19 (by decide) ?_
      exact J15 _ q15 _ _ _ hP hD hS (lv_sub hl [0, 1] rfl)
  · replace h := ifn h c5
    refine lv_iconst (v := 2) hx hb dX1_verdict_8 (by decide) ?_
    exact hret _ _ _ _ _ dX1_verdict_9 h hP hD hS

def p_X2_anyOut_L2 (G : tG) (K2 : Int32 → Option (Int32)) : Nat → Int32 → Option (Int32)
  | 0, _ => none
  | k2 + 1, z2_0 => (if 6 ≤ z2_0 then K2 z2_0 else oguard (inB z2_0 6) ((if (G 0 z2_0.toNatClampNeg) = 2 then some 1 else plet (z2_0 + 1) (fun (x20 : Int32) => p_X2_anyOut_L2 G K2 k2 x20))))
theorem p_X2_anyOut_L2_k {G : tG} {K0 : Int32 → Option (Int32)} {k : Nat} {z2_0 : Int32} {x : Int32} (h : p_X2_anyOut_L2 G K0 k z2_0 = some x) : ∃ K, K = K0 ∧ p_X2_anyOut_L2 G K k z2_0 = some x := ⟨K0, rfl, h⟩
def p_X2_anyOut (n : Nat) (G : tG) : Option (Int32) :=
  p_X2_anyOut_L2 G (fun (z2_0 : Int32) => some 0) n 0
set_option maxHeartbeats 4000000 in
set_option maxRecDepth 100000 in
theorem c_X2_anyOut (l : Launch) (D : va_G) (ad : Nat → Nat) (cA : ClassId) (n : Nat) (F : tF) (G : tG) {r : Int32} (h : p_X2_anyOut n G = some r) : CI l yX2_anyOut wsX2_anyOut ({ frames := 0, cells := 0, slots := 0, locals := 0 } : Room) D cA (wC ad cA F G) [.ref (ad 2)] r (wC ad cA F G) := by
  rw [p_X2_anyOut] at h
  refine metZr (w := wC ad cA) (cc := cX2_anyOut) (maxL := 2) (by decide) rfl (Nat.le_of_ble_eq_true rfl) ?_
  intro p e s m args below meth c A ls Q hE hret
  obtain ⟨hx, hb, hts, hown, hml, hP, hK, hD, hN, hA, hl⟩ := hE
  have hown : s.vm.findClass RX2 = some m.cls := hown
  have hl : lv_has ls 2 [(0, .ref (ad 2))] := hl
  have hS : va_S A s.heap s.heap [] := va_S.rf
  have k_0 : (Cond.fieldLink RX2 9 "BellBook$Crew" "where" "[I").before args s = true := hts _ (List.mem_of_getElem? (i := 1) rfl)
  have n_2 : ∀ w ∈ u_ws RX2 TX2 8, w ∈ wsX2_anyOut := fun w hw => List.mem_cons_of_mem _ (List.mem_append_right _ hw)
  refine lv_iconst (v := 0) hx hb dX2_anyOut_0 (by decide) ?_
  refine lv_istore_n (lv' := [(1, .int (0)), (0, .ref (ad 2))]) hx hb dX2_anyOut_1 rfl hl (by decide) rfl (fun ls hl => ?_)
  obtain ⟨K2, eK2, h⟩ := p_X2_anyOut_L2_k h
  have JE2 : ∀ (z2_0 : Int32) (H : Heap) (locs : List Loc) (ls : Array Slot), K2 z2_0 = some r → va_P D vwCl (wC ad cA F G) H → va_D A (wC ad cA F G) → va_S A s.heap H locs → lv_has ls 2 [(1, .int (z2_0)), (0, .ref (ad 2))] → W p l e ({ frames := 0, cells := 0, slots := 0, locals := 0 } : Room) s m args below meth c H locs 0 0 Q (F0 m 26 ls []) := by
    intro z2_0 H locs ls h hP hD hS hl
    rw [eK2] at h
    refine lv_iconst (v := 0) hx hb dX2_anyOut_26 (by decide) ?_
    exact hret _ _ _ _ _ dX2_anyOut_27 rfl h hP hD hS
  have LL2 : ∀ (k : Nat) (z2_0 : Int32) (H : Heap) (locs : List Loc) (ls : Array Slot), p_X2_anyOut_L2 G K2 k z2_0 = some r → va_P D vwCl (wC ad cA F G) H → va_D A (wC ad cA F G) → va_S A s.heap H locs → lv_has ls 2 [(1, .int (z2_0)), (0, .ref (ad 2))] → W p l e ({ frames := 0, cells := 0, slots := 0, locals := 0 } : Room) s m args below meth c H locs 0 0 Q (F0 m 2 ls []) := by
    intro k
    induction k with
    | zero =>
      intro z2_0 H locs ls h hP hD hS hl
      rw [p_X2_anyOut_L2] at h
      cases h
    | succ k2 ih2 =>
      intro z2_0 H locs ls h hP hD hS hl
      rw [p_X2_anyOut_L2] at h
      refine lv_iload_n hx hb dX2_anyOut_2 rfl (lv_at hl 0 rfl) ?_
      refine lv_bipush (v := 6) hx hb dX2_anyOut_3 (by decide) ?_
      refine lv_icmp_ge (tgt := 26) hx hb dX2_anyOut_5 (by decide) (fun c5 => ?_) (fun c5 => ?_)
      · replace h := ifp h c5
        exact JE2 _ _ _ _ h hP hD hS (lv_sub hl [0, 1] rfl)
      · replace h := ifn h c5
        refine lv_aload_n hx hb dX2_anyOut_8 rfl (lv_at hl 1 rfl) ?_
        refine va_get (D := D) (ci := 2) (fs := vX2 ad F) (v := .ref (ad 3)) (C := RX2) (T := TX2) (N := 8) hx hb hts n_2 hown hK hP 2 wCg2 rfl 0 (by decide) k_0 (fun _ h9 => h9) rfl dX2_anyOut_9 ?_
        refine lv_iload_n hx hb dX2_anyOut_12 rfl (lv_at hl 0 rfl) ?_
        obtain ⟨g13, h⟩ := og h
        refine va_iald (D := D) hx hb hK hP 3 0 wCg3 rfl (inB_in g13) dX2_anyOut_13 ?_
        refine lv_iconst (v := 2) hx hb dX2_anyOut_14 (by decide) ?_
        refine lv_icmp_ne (tgt := 20) hx hb dX2_anyOut_15 (by decide) (fun c15 => ?_) (fun c15 => ?_)
        · replace h := ifn h c15
          obtain ⟨x20, ex20⟩ : ∃ z : Int32, z = (z2_0 + 1) := ⟨_, rfl⟩
          replace h := pl h ex20
          refine lv_iinc (v := x20) (lv' := [(1, .int (x20)), (0, .ref (ad 2))]) hx hb dX2_anyOut_20 hl (k := 0) rfl (by rw [ex20]; rfl) (by decide) rfl (fun ls hl => ?_)
          refine lv_goto (tgt := 2) hx hb dX2_anyOut_23 (by decide) ?_
          exact ih2 _ _ _ _ h hP hD hS (lv_sub hl [0, 1] rfl)
        · replace h := ifp h c15
          refine lv_iconst (v := 1) hx hb dX2_anyOut_18 (by decide) ?_
          exact hret _ _ _ _ _ dX2_anyOut_19 rfl h hP hD hS
  exact LL2 n 0 _ _ _ h hP hD hS (lv_sub hl [0, 1] rfl)

def p_X2_bring (F : tF) (G : tG) (a1 : Int32) (a2 : Int32) : Option (tF × tG) :=
  oguard (inB a1 6) (plet (stG G 0 a1 a2) (fun (G6 : tG) => oguard (inB a1 6) (plet (stG G6 1 a1 (-6)) (fun (G14 : tG) => oguard (inB a1 6) (plet (stG G14 2 a1 (-6)) (fun (G22 : tG) => oguard (inB a1 6) (plet (stG G22 3 a1 0) (fun (G29 : tG) => some (F, G29)))))))))
set_option maxHeartbeats 4000000 in
set_option maxRecDepth 100000 in
theorem c_X2_bring (l : Launch) (D : va_G) (ad : Nat → Nat) (cA : ClassId) (n : Nat) (F : tF) (G : tG) (a1 : Int32) (a2 : Int32) {F' : tF} {G' : tG} (h : p_X2_bring F G a1 a2 = some (F', G')) : CV l yX2_bring wsX2_bring ({ frames := 0, cells := 0, slots := 0, locals := 0 } : Room) D cA (wC ad cA F G) [.ref (ad 2), .int (a1), .int (a2)] (wC ad cA F' G') := by
  rw [p_X2_bring] at h
  refine metVm (w := wC ad cA) (cc := cX2_bring) (maxL := 3) (by decide) rfl (Nat.le_of_ble_eq_true rfl) ?_
  intro p e s m args below meth c A ls Q hE hret
  obtain ⟨hx, hb, hts, hown, hml, hP, hK, hD, hN, hA, hl⟩ := hE
  have hown : s.vm.findClass RX2 = some m.cls := hown
  have hl : lv_has ls 3 [(0, .ref (ad 2)), (1, .int (a1)), (2, .int (a2))] := hl
  have hS : va_S A s.heap s.heap [] := va_S.rf
  have k_0 : (Cond.fieldLink RX2 9 "BellBook$Crew" "where" "[I").before args s = true := hts _ (List.mem_of_getElem? (i := 1) rfl)
  have n_2 : ∀ w ∈ u_ws RX2 TX2 8, w ∈ wsX2_bring := fun w hw => List.mem_cons_of_mem _ (List.mem_append_right _ hw)
  have k_2 : (Cond.fieldLink RX2 15 "BellBook$Crew" "square" "[I").before args s = true := hts _ (List.mem_of_getElem? (i := 2) rfl)
  have k_3 : (Cond.fieldLink RX2 18 "BellBook$Crew" "hose" "[I").before args s = true := hts _ (List.mem_of_getElem? (i := 3) rfl)
  have k_4 : (Cond.fieldLink RX2 21 "BellBook$Crew" "stayed" "[I").before args s = true := hts _ (List.mem_of_getElem? (i := 4) rfl)
  refine lv_aload_n hx hb dX2_bring_0 rfl (lv_at hl 0 rfl) ?_
  refine va_get (D := D) (ci := 2) (fs := vX2 ad F) (v := .ref (ad 3)) (C := RX2) (T := TX2) (N := 8) hx hb hts n_2 hown hK hP 2 wCg2 rfl 0 (by decide) k_0 (fun _ h9 => h9) rfl dX2_bring_1 ?_
  refine lv_iload_n hx hb dX2_bring_4 rfl (lv_at hl 1 rfl) ?_
  refine lv_iload_n hx hb dX2_bring_5 rfl (lv_at hl 2 rfl) ?_
  obtain ⟨g6, h⟩ := og h
  obtain ⟨G6, eG6⟩ : ∃ z : tG, z = stG G 0 a1 a2 := ⟨_, rfl⟩
  replace h := pl h eG6
  refine va_iast (D := D) hx hb hK hP hD hS 3 0 wCg3 rfl (inB_in g6) dX2_bring_6 (fun H locs hP hD hS => ?_)
  rw [wCa0 eG6] at hP hD
  refine lv_aload_n hx hb dX2_bring_7 rfl (lv_at hl 0 rfl) ?_
  refine va_get (D := D) (ci := 2) (fs := vX2 ad F) (v := .ref (ad 4)) (C := RX2) (T := TX2) (N := 8) hx hb hts n_2 hown hK hP 2 wCg2 rfl 1 (by decide) k_2 (fun _ h9 => h9) rfl dX2_bring_8 ?_
  refine lv_iload_n hx hb dX2_bring_11 rfl (lv_at hl 1 rfl) ?_
  refine lv_bipush (v := (-6)) hx hb dX2_bring_12 (by decide) ?_
  obtain ⟨g14, h⟩ := og h
  obtain ⟨G14, eG14⟩ : ∃ z : tG, z = stG G6 1 a1 (-6) := ⟨_, rfl⟩
  replace h := pl h eG14
  refine va_iast (D := D) hx hb hK hP hD hS 4 0 wCg4 rfl (inB_in g14) dX2_bring_14 (fun H locs hP hD hS => ?_)
  rw [wCa1 eG14] at hP hD
  refine lv_aload_n hx hb dX2_bring_15 rfl (lv_at hl 0 rfl) ?_
  refine va_get (D := D) (ci := 2) (fs := vX2 ad F) (v := .ref (ad 5)) (C := RX2) (T := TX2) (N := 8) hx hb hts n_2 hown hK hP 2 wCg2 rfl 2 (by decide) k_3 (fun _ h9 => h9) rfl dX2_bring_16 ?_
  refine lv_iload_n hx hb dX2_bring_19 rfl (lv_at hl 1 rfl) ?_
  refine lv_bipush (v := (-6)) hx hb dX2_bring_20 (by decide) ?_
  obtain ⟨g22, h⟩ := og h
  obtain ⟨G22, eG22⟩ : ∃ z : tG, z = stG G14 2 a1 (-6) := ⟨_, rfl⟩
  replace h := pl h eG22
  refine va_iast (D := D) hx hb hK hP hD hS 5 0 wCg5 rfl (inB_in g22) dX2_bring_22 (fun H locs hP hD hS => ?_)
  rw [wCa2 eG22] at hP hD
  refine lv_aload_n hx hb dX2_bring_23 rfl (lv_at hl 0 rfl) ?_
  refine va_get (D := D) (ci := 2) (fs := vX2 ad F) (v := .ref (ad 6)) (C := RX2) (T := TX2) (N := 8) hx hb hts n_2 hown hK hP 2 wCg2 rfl 3 (by decide) k_4 (fun _ h9 => h9) rfl dX2_bring_24 ?_
  refine lv_iload_n hx hb dX2_bring_27 rfl (lv_at hl 1 rfl) ?_
  refine lv_iconst (v := 0) hx hb dX2_bring_28 (by decide) ?_
  obtain ⟨g29, h⟩ := og h
  obtain ⟨G29, eG29⟩ : ∃ z : tG, z = stG G22 3 a1 0 := ⟨_, rfl⟩
  replace h := pl h eG29
  refine va_iast (D := D) hx hb hK hP hD hS 6 0 wCg6 rfl (inB_in g29) dX2_bring_29 (fun H locs hP hD hS => ?_)
  rw [wCa3 eG29] at hP hD
  exact hret _ _ _ _ _ _ dX2_bring_30 h hP hD hS
