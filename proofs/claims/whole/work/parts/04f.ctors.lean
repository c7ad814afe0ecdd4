set_option maxHeartbeats 4000000 in
set_option maxRecDepth 100000 in
theorem i_X4_init (l : Launch) (D : va_G) (h0 sz : Nat) : Met l yX4_init wsX4_init ({ frames := 1, cells := 3, slots := 4120, locals := 20 } : Room) (va_Pc [.ref h0] (fun U => U.heap.size = sz ∧ va_P D vwCl [(h0, .inr (4, [.null, .null, .int 0, .int 0, .int 0, .null]))] U.heap ∧ va_K D vwCl [] U ∧ va_D (fun _ => True) [(h0, .inr (4, [.null, .null, .int 0, .int 0, .int 0, .null]))])) (va_Qv (fun (_ : ClassId × (Nat → Nat)) => True) (fun (u : ClassId × (Nat → Nat)) t => va_P D vwCl [(h0, .inr (4, [.ref (u.2 1), .ref (u.2 2), .int (0), .int (0), .int (0), .ref (u.2 3)])), (u.2 1, .inl (u.1, 12, .inl (fun _ => 0))), (u.2 2, .inl (u.1, 12, .inl (fun _ => 0))), (u.2 3, .inl (u.1, 4096, .inl (fun _ => 0)))] t.heap ∧ va_K D vwCl [(u.1, .int)] t ∧ va_D (va_A [(h0, .inr (4, [.null, .null, .int 0, .int 0, .int 0, .null]))] sz) [(h0, .inr (4, [.ref (u.2 1), .ref (u.2 2), .int (0), .int (0), .int (0), .ref (u.2 3)])), (u.2 1, .inl (u.1, 12, .inl (fun _ => 0))), (u.2 2, .inl (u.1, 12, .inl (fun _ => 0))), (u.2 3, .inl (u.1, 4096, .inl (fun _ => 0)))]) (va_A [(h0, .inr (4, [.null, .null, .int 0, .int 0, .int 0, .null]))] sz)) 3 4120 (va_A [(h0, .inr (4, [.null, .null, .int 0, .int 0, .int 0, .null]))] sz) := by
  refine Met.ofW (cc := cX4_init) (maxL := 1) (ret := none) (by decide) rfl ?_
  intro p e s m args below meth c s₁ B hml hv
  obtain ⟨rfl, hsz, hP, hK, hD0⟩ := hv
  have hx := B.exec
  have hb := B.bytes
  have hr := B.returns
  have hts := atoms_spec (ws := wsX4_init) B.pre
  have hown : s.vm.findClass RX4 = some m.cls := findClass_of_methodNamed B.named
  have hlocks := B.notSynchronized
  have hin : meth.name = "<init>" := (name_of_methodNamed B.named B.method).1
  subst hsz
  have hD := hD0.self (sz := s.heap.size)
  generalize hAe : va_A [(h0, .inr (4, [.null, .null, .int 0, .int 0, .int 0, .null]))] s.heap.size = A at hD ⊢
  have hA : ∀ q : Nat, s.heap.size ≤ q → A q := fun q h => by rw [← hAe]; exact Or.inr h
  have hS : va_S A s.heap s.heap [] := va_S.rf
  have hP : va_P D vwCl [(h0, .inr (4, [.null, .null, .int 0, .int 0, .int 0, .null]))] s.heap := hP
  have hl := lv_entry ([.ref h0]) (n := 1) (Nat.le_of_ble_eq_true rfl)
  rw [lg_entry_eq]
  generalize (lg_sl ([.ref h0]) ++ List.replicate (1 - (lg_sl ([.ref h0])).length) Slot.unset).toArray = ls at hl ⊢
  have hl : lv_has ls 1 [(0, .ref h0)] := hl
  have k_0 : (Cond.methodLink RX4 3 objectInit).before [.ref h0].toArray s = true := hts _ (List.mem_of_getElem? (i := 1) rfl)
  have k_1 : (Cond.instanceMethod objectInit).before [.ref h0].toArray s = true := hts _ (List.mem_of_getElem? (i := 2) rfl)
  have k_2 : (Cond.code objectInit ⟨#[0xb1]⟩ 1 none).before [.ref h0].toArray s = true := hts _ (List.mem_of_getElem? (i := 3) rfl)
  have k_3 : (Cond.arrayClass .int).before [.ref h0].toArray s = true := hts _ (List.mem_of_getElem? (i := 4) rfl)
  have k_4 : (Cond.fieldLink RX4 11 "BellBook$Plan" "order" "[I").before [.ref h0].toArray s = true := hts _ (List.mem_of_getElem? (i := 5) rfl)
  have n_4 : ∀ w ∈ u_ws RX4 TX4 6, w ∈ wsX4_init := fun w hw => List.mem_cons_of_mem _ (List.mem_append_right _ hw)
  have k_6 : (Cond.fieldLink RX4 17 "BellBook$Plan" "when" "[I").before [.ref h0].toArray s = true := hts _ (List.mem_of_getElem? (i := 6) rfl)
  have k_7 : (Cond.fieldLink RX4 20 "BellBook$Plan" "latest" "[I").before [.ref h0].toArray s = true := hts _ (List.mem_of_getElem? (i := 7) rfl)
  have k_8 : (Cond.fieldLink RX4 23 "BellBook$Plan" "count" "I").before [.ref h0].toArray s = true := hts _ (List.mem_of_getElem? (i := 8) rfl)
  have k_9 : (Cond.fieldLink RX4 27 "BellBook$Plan" "hope" "I").before [.ref h0].toArray s = true := hts _ (List.mem_of_getElem? (i := 9) rfl)
  have k_10 : (Cond.fieldLink RX4 30 "BellBook$Plan" "toil" "I").before [.ref h0].toArray s = true := hts _ (List.mem_of_getElem? (i := 10) rfl)
  refine lv_aload_n hx hb dX4_init_0 rfl (lv_at hl 0 rfl) ?_
  refine W.objInit hx hb hown k_0 k_1 k_2 rfl (by rw [hml]; exact hl.1) rfl dX4_init_1 (Nat.le_of_ble_eq_true rfl) (Nat.le_of_ble_eq_true rfl) ?_
  refine W.eq (g2 := F0 m 4 ls []) rfl ?_
  refine lv_aload_n hx hb dX4_init_4 rfl (lv_at hl 0 rfl) ?_
  refine lv_bipush (v := 12) hx hb dX4_init_5 (by decide) ?_
  refine va_newa (D := D) (atype := .int) (a0 := (12, .inl (fun _ => 0))) (N' := 12) (ty := .int) hx hb k_3 rfl hK hP hD hS hA (newa0 12) (by decide) (by decide) (Nat.le_of_ble_eq_true rfl) (Nat.le_of_ble_eq_true rfl) (Nat.le_of_ble_eq_true rfl) dX4_init_7 (fun q7 cA7 H hK hP hD hS => ?_)
  refine W.widen (k := 1) (n := 12) (by omega) (by omega) ?_
  have hK : va_K D vwCl [(cA7, .int)] s := hK
  have hP : va_P D vwCl [(h0, .inr (4, [.null, .null, .int 0, .int 0, .int 0, .null])), (q7, .inl (cA7, 12, .inl (fun _ => 0)))] H := hP
  have hD : va_D A [(h0, .inr (4, [.null, .null, .int 0, .int 0, .int 0, .null])), (q7, .inl (cA7, 12, .inl (fun _ => 0)))] := hD
  refine va_putF (D := D) (ci := 4) (v := .ref (q7)) (ty := .array .int) (C := RX4) (T := TX4) (N := 6) hx hb hts n_4 tyX4 tyX4_ok nmX4 hown hK hP hD hS 0 rfl rfl 0 (by decide) k_4 (fun _ h9 => h9) rfl hin rfl (tyX4_ok 0 (by decide)) rfl rfl (Nat.le_of_ble_eq_true rfl) dX4_init_9 (fun H locs hP hD hS => ?_)
  have hP : va_P D vwCl [(h0, .inr (4, [.ref (q7), .null, .int 0, .int 0, .int 0, .null])), (q7, .inl (cA7, 12, .inl (fun _ => 0)))] H := hP
  have hD : va_D A [(h0, .inr (4, [.ref (q7), .null, .int 0, .int 0, .int 0, .null])), (q7, .inl (cA7, 12, .inl (fun _ => 0)))] := hD
  refine lv_aload_n hx hb dX4_init_12 rfl (lv_at hl 0 rfl) ?_
  refine lv_bipush (v := 12) hx hb dX4_init_13 (by decide) ?_
  refine va_newa (D := D) (atype := .int) (a0 := (12, .inl (fun _ => 0))) (N' := 12) (ty := .int) hx hb k_3 rfl hK hP hD hS hA (newa0 12) (by decide) (by decide) (Nat.le_of_ble_eq_true rfl) (Nat.le_of_ble_eq_true rfl) (Nat.le_of_ble_eq_true rfl) dX4_init_15 (fun q15 cA15 H hK hP hD hS => ?_)
  refine W.widen (k := 2) (n := 24) (by omega) (by omega) ?_
  obtain rfl := raI hK 0 1 rfl rfl
  have hK := hK.sub (tys' := [(cA7, .int)]) [0] rfl
  have hP : va_P D vwCl [(h0, .inr (4, [.ref (q7), .null, .int 0, .int 0, .int 0, .null])), (q7, .inl (cA7, 12, .inl (fun _ => 0))), (q15, .inl (cA7, 12, .inl (fun _ => 0)))] H := hP
  have hD : va_D A [(h0, .inr (4, [.ref (q7), .null, .int 0, .int 0, .int 0, .null])), (q7, .inl (cA7, 12, .inl (fun _ => 0))), (q15, .inl (cA7, 12, .inl (fun _ => 0)))] := hD
  refine va_putF (D := D) (ci := 4) (v := .ref (q15)) (ty := .array .int) (C := RX4) (T := TX4) (N := 6) hx hb hts n_4 tyX4 tyX4_ok nmX4 hown hK hP hD hS 0 rfl rfl 1 (by decide) k_6 (fun _ h9 => h9) rfl hin rfl (tyX4_ok 1 (by decide)) rfl rfl (Nat.le_of_ble_eq_true rfl) dX4_init_17 (fun H locs hP hD hS => ?_)
  have hP : va_P D vwCl [(h0, .inr (4, [.ref (q7), .ref (q15), .int 0, .int 0, .int 0, .null])), (q7, .inl (cA7, 12, .inl (fun _ => 0))), (q15, .inl (cA7, 12, .inl (fun _ => 0)))] H := hP
  have hD : va_D A [(h0, .inr (4, [.ref (q7), .ref (q15), .int 0, .int 0, .int 0, .null])), (q7, .inl (cA7, 12, .inl (fun _ => 0))), (q15, .inl (cA7, 12, .inl (fun _ => 0)))] := hD
  refine lv_aload_n hx hb dX4_init_20 rfl (lv_at hl 0 rfl) ?_
  refine lv_sipush (v := 4096) hx hb dX4_init_21 (by decide) ?_
  refine va_newa (D := D) (atype := .int) (a0 := (4096, .inl (fun _ => 0))) (N' := 4096) (ty := .int) hx hb k_3 rfl hK hP hD hS hA (newa0 4096) (by decide) (by decide) (Nat.le_of_ble_eq_true rfl) (Nat.le_of_ble_eq_true rfl) (Nat.le_of_ble_eq_true rfl) dX4_init_24 (fun q24 cA24 H hK hP hD hS => ?_)
  refine W.widen (k := 3) (n := 4120) (by omega) (by omega) ?_
  obtain rfl := raI hK 0 1 rfl rfl
  have hK := hK.sub (tys' := [(cA7, .int)]) [0] rfl
  have hP : va_P D vwCl [(h0, .inr (4, [.ref (q7), .ref (q15), .int 0, .int 0, .int 0, .null])), (q7, .inl (cA7, 12, .inl (fun _ => 0))), (q15, .inl (cA7, 12, .inl (fun _ => 0))), (q24, .inl (cA7, 4096, .inl (fun _ => 0)))] H := hP
  have hD : va_D A [(h0, .inr (4, [.ref (q7), .ref (q15), .int 0, .int 0, .int 0, .null])), (q7, .inl (cA7, 12, .inl (fun _ => 0))), (q15, .inl (cA7, 12, .inl (fun _ => 0))), (q24, .inl (cA7, 4096, .inl (fun _ => 0)))] := hD
  refine va_putF (D := D) (ci := 4) (v := .ref (q24)) (ty := .array .int) (C := RX4) (T := TX4) (N := 6) hx hb hts n_4 tyX4 tyX4_ok nmX4 hown hK hP hD hS 0 rfl rfl 5 (by decide) k_7 (fun _ h9 => h9) rfl hin rfl (tyX4_ok 5 (by decide)) rfl rfl (Nat.le_of_ble_eq_true rfl) dX4_init_26 (fun H locs hP hD hS => ?_)
  have hP : va_P D vwCl [(h0, .inr (4, [.ref (q7), .ref (q15), .int 0, .int 0, .int 0, .ref (q24)])), (q7, .inl (cA7, 12, .inl (fun _ => 0))), (q15, .inl (cA7, 12, .inl (fun _ => 0))), (q24, .inl (cA7, 4096, .inl (fun _ => 0)))] H := hP
  have hD : va_D A [(h0, .inr (4, [.ref (q7), .ref (q15), .int 0, .int 0, .int 0, .ref (q24)])), (q7, .inl (cA7, 12, .inl (fun _ => 0))), (q15, .inl (cA7, 12, .inl (fun _ => 0))), (q24, .inl (cA7, 4096, .inl (fun _ => 0)))] := hD
  refine lv_aload_n hx hb dX4_init_29 rfl (lv_at hl 0 rfl) ?_
  refine lv_iconst (v := 0) hx hb dX4_init_30 (by decide) ?_
  refine va_put (D := D) (ci := 4) (v := .int (0)) (ty := .int) (C := RX4) (T := TX4) (N := 6) hx hb hts n_4 tyX4 tyX4_ok nmX4 hown hK hP hD hS 0 rfl rfl 2 (by decide) k_8 (fun _ h9 => h9) rfl (tyX4_ok 2 (by decide)) rfl rfl (Nat.le_of_ble_eq_true rfl) dX4_init_31 (fun H locs hP hD hS => ?_)
  have hP : va_P D vwCl [(h0, .inr (4, [.ref (q7), .ref (q15), .int (0), .int 0, .int 0, .ref (q24)])), (q7, .inl (cA7, 12, .inl (fun _ => 0))), (q15, .inl (cA7, 12, .inl (fun _ => 0))), (q24, .inl (cA7, 4096, .inl (fun _ => 0)))] H := hP
  have hD : va_D A [(h0, .inr (4, [.ref (q7), .ref (q15), .int (0), .int 0, .int 0, .ref (q24)])), (q7, .inl (cA7, 12, .inl (fun _ => 0))), (q15, .inl (cA7, 12, .inl (fun _ => 0))), (q24, .inl (cA7, 4096, .inl (fun _ => 0)))] := hD
  refine lv_aload_n hx hb dX4_init_34 rfl (lv_at hl 0 rfl) ?_
  refine lv_iconst (v := 0) hx hb dX4_init_35 (by decide) ?_
  refine va_put (D := D) (ci := 4) (v := .int (0)) (ty := .int) (C := RX4) (T := TX4) (N := 6) hx hb hts n_4 tyX4 tyX4_ok nmX4 hown hK hP hD hS 0 rfl rfl 3 (by decide) k_9 (fun _ h9 => h9) rfl (tyX4_ok 3 (by decide)) rfl rfl (Nat.le_of_ble_eq_true rfl) dX4_init_36 (fun H locs hP hD hS => ?_)
  have hP : va_P D vwCl [(h0, .inr (4, [.ref (q7), .ref (q15), .int (0), .int (0), .int 0, .ref (q24)])), (q7, .inl (cA7, 12, .inl (fun _ => 0))), (q15, .inl (cA7, 12, .inl (fun _ => 0))), (q24, .inl (cA7, 4096, .inl (fun _ => 0)))] H := hP
  have hD : va_D A [(h0, .inr (4, [.ref (q7), .ref (q15), .int (0), .int (0), .int 0, .ref (q24)])), (q7, .inl (cA7, 12, .inl (fun _ => 0))), (q15, .inl (cA7, 12, .inl (fun _ => 0))), (q24, .inl (cA7, 4096, .inl (fun _ => 0)))] := hD
  refine lv_aload_n hx hb dX4_init_39 rfl (lv_at hl 0 rfl) ?_
  refine lv_iconst (v := 0) hx hb dX4_init_40 (by decide) ?_
  refine va_put (D := D) (ci := 4) (v := .int (0)) (ty := .int) (C := RX4) (T := TX4) (N := 6) hx hb hts n_4 tyX4 tyX4_ok nmX4 hown hK hP hD hS 0 rfl rfl 4 (by decide) k_10 (fun _ h9 => h9) rfl (tyX4_ok 4 (by decide)) rfl rfl (Nat.le_of_ble_eq_true rfl) dX4_init_41 (fun H locs hP hD hS => ?_)
  have hP : va_P D vwCl [(h0, .inr (4, [.ref (q7), .ref (q15), .int (0), .int (0), .int (0), .ref (q24)])), (q7, .inl (cA7, 12, .inl (fun _ => 0))), (q15, .inl (cA7, 12, .inl (fun _ => 0))), (q24, .inl (cA7, 4096, .inl (fun _ => 0)))] H := hP
  have hD : va_D A [(h0, .inr (4, [.ref (q7), .ref (q15), .int (0), .int (0), .int (0), .ref (q24)])), (q7, .inl (cA7, 12, .inl (fun _ => 0))), (q15, .inl (cA7, 12, .inl (fun _ => 0))), (q24, .inl (cA7, 4096, .inl (fun _ => 0)))] := hD
  have hP9 := hP.sub (ws' := [(h0, .inr (4, [.ref (q7), .ref (q15), .int (0), .int (0), .int (0), .ref (q24)])), (q7, .inl (cA7, 12, .inl (fun _ => 0))), (q15, .inl (cA7, 12, .inl (fun _ => 0))), (q24, .inl (cA7, 4096, .inl (fun _ => 0)))]) [0, 1, 2, 3] rfl
  have hD9 := hD.sub (ws' := [(h0, .inr (4, [.ref (q7), .ref (q15), .int (0), .int (0), .int (0), .ref (q24)])), (q7, .inl (cA7, 12, .inl (fun _ => 0))), (q15, .inl (cA7, 12, .inl (fun _ => 0))), (q24, .inl (cA7, 4096, .inl (fun _ => 0)))]) [0, 1, 2, 3] (by decide) rfl
  exact W.vret hx hb hr (fun t ht hW => ⟨⟨(cA7, (fun i => [h0, q7, q15, q24].getD i 0)), rfl, trivial, by rw [ht]; exact hP9, va_K.moved hW.alike hK, hD9⟩, hS.F ht⟩) hS.2.2 dX4_init_44

