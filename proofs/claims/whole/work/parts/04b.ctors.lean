set_option maxHeartbeats 4000000 in
set_option maxRecDepth 100000 in
theorem i_X0_beginAnew (l : Launch) (D : va_G) (h0 sz : Nat) : Met l yX0_beginAnew wsX0_beginAnew ({ frames := 0, cells := 0, slots := 0, locals := 0 } : Room) (va_Pc [.ref h0, .int 1000] (fun U => U.heap.size = sz ∧ va_P D vwCl [(h0, .inr (0, [.int 0, .int (0), .int 0, .int 0, .int 0, .int 0, .int 0, .int 0, .int 0, .int 0, .int (3), .int (40)]))] U.heap ∧ va_K D vwCl [] U ∧ va_D (fun _ => True) [(h0, .inr (0, [.int 0, .int (0), .int 0, .int 0, .int 0, .int 0, .int 0, .int 0, .int 0, .int 0, .int (3), .int (40)]))])) (va_Qv (fun (_ : Unit) => True) (fun (u : Unit) t => va_P D vwCl [(h0, .inr (0, [.int (1000), .int (0), .int (1000), .int (0), .int (1000), .int (0), .int (0), .int (0), .int (0), .int (0), .int (3), .int (40)]))] t.heap ∧ va_K D vwCl [] t ∧ va_D (va_A [(h0, .inr (0, [.int 0, .int (0), .int 0, .int 0, .int 0, .int 0, .int 0, .int 0, .int 0, .int 0, .int (3), .int (40)]))] sz) [(h0, .inr (0, [.int (1000), .int (0), .int (1000), .int (0), .int (1000), .int (0), .int (0), .int (0), .int (0), .int (0), .int (3), .int (40)]))]) (va_A [(h0, .inr (0, [.int 0, .int (0), .int 0, .int 0, .int 0, .int 0, .int 0, .int 0, .int 0, .int 0, .int (3), .int (40)]))] sz)) 0 0 (va_A [(h0, .inr (0, [.int 0, .int (0), .int 0, .int 0, .int 0, .int 0, .int 0, .int 0, .int 0, .int 0, .int (3), .int (40)]))] sz) := by
  refine Met.ofW (cc := cX0_beginAnew) (maxL := 2) (ret := none) (by decide) rfl ?_
  intro p e s m args below meth c s₁ B hml hv
  obtain ⟨rfl, hsz, hP, hK, hD0⟩ := hv
  have hx := B.exec
  have hb := B.bytes
  have hr := B.returns
  have hts := atoms_spec (ws := wsX0_beginAnew) B.pre
  have hown : s.vm.findClass RX0 = some m.cls := findClass_of_methodNamed B.named
  have hlocks := B.notSynchronized
  subst hsz
  have hD := hD0.self (sz := s.heap.size)
  generalize hAe : va_A [(h0, .inr (0, [.int 0, .int (0), .int 0, .int 0, .int 0, .int 0, .int 0, .int 0, .int 0, .int 0, .int (3), .int (40)]))] s.heap.size = A at hD ⊢
  have hA : ∀ q : Nat, s.heap.size ≤ q → A q := fun q h => by rw [← hAe]; exact Or.inr h
  have hS : va_S A s.heap s.heap [] := va_S.rf
  have hP : va_P D vwCl [(h0, .inr (0, [.int 0, .int (0), .int 0, .int 0, .int 0, .int 0, .int 0, .int 0, .int 0, .int 0, .int (3), .int (40)]))] s.heap := hP
  have hl := lv_entry ([.ref h0, .int 1000]) (n := 2) (Nat.le_of_ble_eq_true rfl)
  rw [lg_entry_eq]
  generalize (lg_sl ([.ref h0, .int 1000]) ++ List.replicate (2 - (lg_sl ([.ref h0, .int 1000])).length) Slot.unset).toArray = ls at hl ⊢
  have hl : lv_has ls 2 [(0, .ref h0), (1, .int 1000)] := hl
  have k_0 : (Cond.fieldLink RX0 25 "BellBook$Bell" "room" "I").before [.ref h0, .int 1000].toArray s = true := hts _ (List.mem_of_getElem? (i := 1) rfl)
  have n_0 : ∀ w ∈ u_ws RX0 TX0 12, w ∈ wsX0_beginAnew := fun w hw => List.mem_cons_of_mem _ (List.mem_append_right _ hw)
  have k_2 : (Cond.fieldLink RX0 28 "BellBook$Bell" "fresh" "I").before [.ref h0, .int 1000].toArray s = true := hts _ (List.mem_of_getElem? (i := 2) rfl)
  have k_3 : (Cond.fieldLink RX0 31 "BellBook$Bell" "foul" "I").before [.ref h0, .int 1000].toArray s = true := hts _ (List.mem_of_getElem? (i := 3) rfl)
  have k_4 : (Cond.fieldLink RX0 34 "BellBook$Bell" "sent" "I").before [.ref h0, .int 1000].toArray s = true := hts _ (List.mem_of_getElem? (i := 4) rfl)
  have k_5 : (Cond.fieldLink RX0 37 "BellBook$Bell" "breathed" "I").before [.ref h0, .int 1000].toArray s = true := hts _ (List.mem_of_getElem? (i := 5) rfl)
  have k_6 : (Cond.fieldLink RX0 40 "BellBook$Bell" "spilled" "I").before [.ref h0, .int 1000].toArray s = true := hts _ (List.mem_of_getElem? (i := 6) rfl)
  have k_7 : (Cond.fieldLink RX0 43 "BellBook$Bell" "barrels" "I").before [.ref h0, .int 1000].toArray s = true := hts _ (List.mem_of_getElem? (i := 7) rfl)
  have k_8 : (Cond.fieldLink RX0 46 "BellBook$Bell" "breathLacks" "I").before [.ref h0, .int 1000].toArray s = true := hts _ (List.mem_of_getElem? (i := 8) rfl)
  have k_9 : (Cond.fieldLink RX0 49 "BellBook$Bell" "stayLacks" "I").before [.ref h0, .int 1000].toArray s = true := hts _ (List.mem_of_getElem? (i := 9) rfl)
  refine lv_aload_n hx hb dX0_beginAnew_0 rfl (lv_at hl 0 rfl) ?_
  refine lv_iload_n hx hb dX0_beginAnew_1 rfl (lv_at hl 1 rfl) ?_
  refine va_put (D := D) (ci := 0) (v := .int (1000)) (ty := .int) (C := RX0) (T := TX0) (N := 12) hx hb hts n_0 tyX0 tyX0_ok nmX0 hown hK hP hD hS 0 rfl rfl 0 (by decide) k_0 (fun _ h9 => h9) rfl (tyX0_ok 0 (by decide)) rfl rfl (Nat.le_of_ble_eq_true rfl) dX0_beginAnew_2 (fun H locs hP hD hS => ?_)
  have hP : va_P D vwCl [(h0, .inr (0, [.int (1000), .int (0), .int 0, .int 0, .int 0, .int 0, .int 0, .int 0, .int 0, .int 0, .int (3), .int (40)]))] H := hP
  have hD : va_D A [(h0, .inr (0, [.int (1000), .int (0), .int 0, .int 0, .int 0, .int 0, .int 0, .int 0, .int 0, .int 0, .int (3), .int (40)]))] := hD
  refine lv_aload_n hx hb dX0_beginAnew_5 rfl (lv_at hl 0 rfl) ?_
  refine lv_iload_n hx hb dX0_beginAnew_6 rfl (lv_at hl 1 rfl) ?_
  refine va_put (D := D) (ci := 0) (v := .int (1000)) (ty := .int) (C := RX0) (T := TX0) (N := 12) hx hb hts n_0 tyX0 tyX0_ok nmX0 hown hK hP hD hS 0 rfl rfl 2 (by decide) k_2 (fun _ h9 => h9) rfl (tyX0_ok 2 (by decide)) rfl rfl (Nat.le_of_ble_eq_true rfl) dX0_beginAnew_7 (fun H locs hP hD hS => ?_)
  have hP : va_P D vwCl [(h0, .inr (0, [.int (1000), .int (0), .int (1000), .int 0, .int 0, .int 0, .int 0, .int 0, .int 0, .int 0, .int (3), .int (40)]))] H := hP
  have hD : va_D A [(h0, .inr (0, [.int (1000), .int (0), .int (1000), .int 0, .int 0, .int 0, .int 0, .int 0, .int 0, .int 0, .int (3), .int (40)]))] := hD
  refine lv_aload_n hx hb dX0_beginAnew_10 rfl (lv_at hl 0 rfl) ?_
  refine lv_iconst (v := 0) hx hb dX0_beginAnew_11 (by decide) ?_
  refine va_put (D := D) (ci := 0) (v := .int (0)) (ty := .int) (C := RX0) (T := TX0) (N := 12) hx hb hts n_0 tyX0 tyX0_ok nmX0 hown hK hP hD hS 0 rfl rfl 3 (by decide) k_3 (fun _ h9 => h9) rfl (tyX0_ok 3 (by decide)) rfl rfl (Nat.le_of_ble_eq_true rfl) dX0_beginAnew_12 (fun H locs hP hD hS => ?_)
  have hP : va_P D vwCl [(h0, .inr (0, [.int (1000), .int (0), .int (1000), .int (0), .int 0, .int 0, .int 0, .int 0, .int 0, .int 0, .int (3), .int (40)]))] H := hP
  have hD : va_D A [(h0, .inr (0, [.int (1000), .int (0), .int (1000), .int (0), .int 0, .int 0, .int 0, .int 0, .int 0, .int 0, .int (3), .int (40)]))] := hD
  refine lv_aload_n hx hb dX0_beginAnew_15 rfl (lv_at hl 0 rfl) ?_
  refine lv_iload_n hx hb dX0_beginAnew_16 rfl (lv_at hl 1 rfl) ?_
  refine va_put (D := D) (ci := 0) (v := .int (1000)) (ty := .int) (C := RX0) (T := TX0) (N := 12) hx hb hts n_0 tyX0 tyX0_ok nmX0 hown hK hP hD hS 0 rfl rfl 4 (by decide) k_4 (fun _ h9 => h9) rfl (tyX0_ok 4 (by decide)) rfl rfl (Nat.le_of_ble_eq_true rfl) dX0_beginAnew_17 (fun H locs hP hD hS => ?_)
  have hP : va_P D vwCl [(h0, .inr (0, [.int (1000), .int (0), .int (1000), .int (0), .int (1000), .int 0, .int 0, .int 0, .int 0, .int 0, .int (3), .int (40)]))] H := hP
  have hD : va_D A [(h0, .inr (0, [.int (1000), .int (0), .int (1000), .int (0), .int (1000), .int 0, .int 0, .int 0, .int 0, .int 0, .int (3), .int (40)]))] := hD
  refine lv_aload_n hx hb dX0_beginAnew_20 rfl (lv_at hl 0 rfl) ?_
  refine lv_iconst (v := 0) hx hb dX0_beginAnew_21 (by decide) ?_
  refine va_put (D := D) (ci := 0) (v := .int (0)) (ty := .int) (C := RX0) (T := TX0) (N := 12) hx hb hts n_0 tyX0 tyX0_ok nmX0 hown hK hP hD hS 0 rfl rfl 5 (by decide) k_5 (fun _ h9 => h9) rfl (tyX0_ok 5 (by decide)) rfl rfl (Nat.le_of_ble_eq_true rfl) dX0_beginAnew_22 (fun H locs hP hD hS => ?_)
  have hP : va_P D vwCl [(h0, .inr (0, [.int (1000), .int (0), .int (1000), .int (0), .int (1000), .int (0), .int 0, .int 0, .int 0, .int 0, .int (3), .int (40)]))] H := hP
  have hD : va_D A [(h0, .inr (0, [.int (1000), .int (0), .int (1000), .int (0), .int (1000), .int (0), .int 0, .int 0, .int 0, .int 0, .int (3), .int (40)]))] := hD
  refine lv_aload_n hx hb dX0_beginAnew_25 rfl (lv_at hl 0 rfl) ?_
  refine lv_iconst (v := 0) hx hb dX0_beginAnew_26 (by decide) ?_
  refine va_put (D := D) (ci := 0) (v := .int (0)) (ty := .int) (C := RX0) (T := TX0) (N := 12) hx hb hts n_0 tyX0 tyX0_ok nmX0 hown hK hP hD hS 0 rfl rfl 6 (by decide) k_6 (fun _ h9 => h9) rfl (tyX0_ok 6 (by decide)) rfl rfl (Nat.le_of_ble_eq_true rfl) dX0_beginAnew_27 (fun H locs hP hD hS => ?_)
  have hP : va_P D vwCl [(h0, .inr (0, [.int (1000), .int (0), .int (1000), .int (0), .int (1000), .int (0), .int (0), .int 0, .int 0, .int 0, .int (3), .int (40)]))] H := hP
  have hD : va_D A [(h0, .inr (0, [.int (1000), .int (0), .int (1000), .int (0), .int (1000), .int (0), .int (0), .int 0, .int 0, .int 0, .int (3), .int (40)]))] := hD
  refine lv_aload_n hx hb dX0_beginAnew_30 rfl (lv_at hl 0 rfl) ?_
  refine lv_iconst (v := 0) hx hb dX0_beginAnew_31 (by decide) ?_
  refine va_put (D := D) (ci := 0) (v := .int (0)) (ty := .int) (C := RX0) (T := TX0) (N := 12) hx hb hts n_0 tyX0 tyX0_ok nmX0 hown hK hP hD hS 0 rfl rfl 7 (by decide) k_7 (fun _ h9 => h9) rfl (tyX0_ok 7 (by decide)) rfl rfl (Nat.le_of_ble_eq_true rfl) dX0_beginAnew_32 (fun H locs hP hD hS => ?_)
  have hP : va_P D vwCl [(h0, .inr (0, [.int (1000), .int (0), .int (1000), .int (0), .int (1000), .int (0), .int (0), .int (0), .int 0, .int 0, .int (3), .int (40)]))] H := hP
  have hD : va_D A [(h0, .inr (0, [.int (1000), .int (0), .int (1000), .int (0), .int (1000), .int (0), .int (0), .int (0), .int 0, .int 0, .int (3), .int (40)]))] := hD
  refine lv_aload_n hx hb dX0_beginAnew_35 rfl (lv_at hl 0 rfl) ?_
  refine lv_iconst (v := 0) hx hb dX0_beginAnew_36 (by decide) ?_
  refine va_put (D := D) (ci := 0) (v := .int (0)) (ty := .int) (C := RX0) (T := TX0) (N := 12) hx hb hts n_0 tyX0 tyX0_ok nmX0 hown hK hP hD hS 0 rfl rfl 8 (by decide) k_8 (fun _ h9 => h9) rfl (tyX0_ok 8 (by decide)) rfl rfl (Nat.le_of_ble_eq_true rfl) dX0_beginAnew_37 (fun H locs hP hD hS => ?_)
  have hP : va_P D vwCl [(h0, .inr (0, [.int (1000), .int (0), .int (1000), .int (0), .int (1000), .int (0), .int (0), .int (0), .int (0), .int 0, .int (3), .int (40)]))] H := hP
  have hD : va_D A [(h0, .inr (0, [.int (1000), .int (0), .int (1000), .int (0), .int (1000), .int (0), .int (0), .int (0), .int (0), .int 0, .int (3), .int (40)]))] := hD
  refine lv_aload_n hx hb dX0_beginAnew_40 rfl (lv_at hl 0 rfl) ?_
  refine lv_iconst (v := 0) hx hb dX0_beginAnew_41 (by decide) ?_
  refine va_put (D := D) (ci := 0) (v := .int (0)) (ty := .int) (C := RX0) (T := TX0) (N := 12) hx hb hts n_0 tyX0 tyX0_ok nmX0 hown hK hP hD hS 0 rfl rfl 9 (by decide) k_9 (fun _ h9 => h9) rfl (tyX0_ok 9 (by decide)) rfl rfl (Nat.le_of_ble_eq_true rfl) dX0_beginAnew_42 (fun H locs hP hD hS => ?_)
  have hP : va_P D vwCl [(h0, .inr (0, [.int (1000), .int (0), .int (1000), .int (0), .int (1000), .int (0), .int (0), .int (0), .int (0), .int (0), .int (3), .int (40)]))] H := hP
  have hD : va_D A [(h0, .inr (0, [.int (1000), .int (0), .int (1000), .int (0), .int (1000), .int (0), .int (0), .int (0), .int (0), .int (0), .int (3), .int (40)]))] := hD
  have hP9 := hP.sub (ws' := [(h0, .inr (0, [.int (1000), .int (0), .int (1000), .int (0), .int (1000), .int (0), .int (0), .int (0), .int (0), .int (0), .int (3), .int (40)]))]) [0] rfl
  have hD9 := hD.sub (ws' := [(h0, .inr (0, [.int (1000), .int (0), .int (1000), .int (0), .int (1000), .int (0), .int (0), .int (0), .int (0), .int (0), .int (3), .int (40)]))]) [0] (by decide) rfl
  exact W.vret hx hb hr (fun t ht hW => ⟨⟨(), rfl, trivial, by rw [ht]; exact hP9, va_K.moved hW.alike hK, hD9⟩, hS.F ht⟩) hS.2.2 dX0_beginAnew_45

