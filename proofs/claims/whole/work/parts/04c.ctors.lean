set_option maxHeartbeats 4000000 in
set_option maxRecDepth 100000 in
theorem i_X0_init (l : Launch) (D : va_G) (h0 sz : Nat) : Met l yX0_init wsX0_init ({ frames := 1, cells := 0, slots := 0, locals := 21 } : Room) (va_Pc [.ref h0] (fun U => U.heap.size = sz ∧ va_P D vwCl [(h0, .inr (0, [.int 0, .int 0, .int 0, .int 0, .int 0, .int 0, .int 0, .int 0, .int 0, .int 0, .int 0, .int 0]))] U.heap ∧ va_K D vwCl [] U ∧ va_D (fun _ => True) [(h0, .inr (0, [.int 0, .int 0, .int 0, .int 0, .int 0, .int 0, .int 0, .int 0, .int 0, .int 0, .int 0, .int 0]))])) (va_Qv (fun (_ : Unit) => True) (fun (u : Unit) t => va_P D vwCl [(h0, .inr (0, [.int (1000), .int (0), .int (1000), .int (0), .int (1000), .int (0), .int (0), .int (0), .int (0), .int (0), .int (3), .int (40)]))] t.heap ∧ va_K D vwCl [] t ∧ va_D (va_A [(h0, .inr (0, [.int 0, .int 0, .int 0, .int 0, .int 0, .int 0, .int 0, .int 0, .int 0, .int 0, .int 0, .int 0]))] sz) [(h0, .inr (0, [.int (1000), .int (0), .int (1000), .int (0), .int (1000), .int (0), .int (0), .int (0), .int (0), .int (0), .int (3), .int (40)]))]) (va_A [(h0, .inr (0, [.int 0, .int 0, .int 0, .int 0, .int 0, .int 0, .int 0, .int 0, .int 0, .int 0, .int 0, .int 0]))] sz)) 0 0 (va_A [(h0, .inr (0, [.int 0, .int 0, .int 0, .int 0, .int 0, .int 0, .int 0, .int 0, .int 0, .int 0, .int 0, .int 0]))] sz) := by
  refine Met.ofW (cc := cX0_init) (maxL := 1) (ret := none) (by decide) rfl ?_
  intro p e s m args below meth c s₁ B hml hv
  obtain ⟨rfl, hsz, hP, hK, hD0⟩ := hv
  have hx := B.exec
  have hb := B.bytes
  have hr := B.returns
  have hts := atoms_spec (ws := wsX0_init) B.pre
  have hown : s.vm.findClass RX0 = some m.cls := findClass_of_methodNamed B.named
  have hlocks := B.notSynchronized
  have hin : meth.name = "<init>" := (name_of_methodNamed B.named B.method).1
  subst hsz
  have hD := hD0.self (sz := s.heap.size)
  generalize hAe : va_A [(h0, .inr (0, [.int 0, .int 0, .int 0, .int 0, .int 0, .int 0, .int 0, .int 0, .int 0, .int 0, .int 0, .int 0]))] s.heap.size = A at hD ⊢
  have hA : ∀ q : Nat, s.heap.size ≤ q → A q := fun q h => by rw [← hAe]; exact Or.inr h
  have hS : va_S A s.heap s.heap [] := va_S.rf
  have hP : va_P D vwCl [(h0, .inr (0, [.int 0, .int 0, .int 0, .int 0, .int 0, .int 0, .int 0, .int 0, .int 0, .int 0, .int 0, .int 0]))] s.heap := hP
  have hl := lv_entry ([.ref h0]) (n := 1) (Nat.le_of_ble_eq_true rfl)
  rw [lg_entry_eq]
  generalize (lg_sl ([.ref h0]) ++ List.replicate (1 - (lg_sl ([.ref h0])).length) Slot.unset).toArray = ls at hl ⊢
  have hl : lv_has ls 1 [(0, .ref h0)] := hl
  have k_0 : (Cond.methodLink RX0 3 objectInit).before [.ref h0].toArray s = true := hts _ (List.mem_of_getElem? (i := 1) rfl)
  have k_1 : (Cond.instanceMethod objectInit).before [.ref h0].toArray s = true := hts _ (List.mem_of_getElem? (i := 2) rfl)
  have k_2 : (Cond.code objectInit ⟨#[0xb1]⟩ 1 none).before [.ref h0].toArray s = true := hts _ (List.mem_of_getElem? (i := 3) rfl)
  have k_3 : (Cond.fieldLink RX0 9 "BellBook$Bell" "depth" "I").before [.ref h0].toArray s = true := hts _ (List.mem_of_getElem? (i := 4) rfl)
  have n_0 : ∀ w ∈ u_ws RX0 TX0 12, w ∈ wsX0_init := fun w hw => List.mem_cons_of_mem _ (List.mem_append_right _ hw)
  have k_5 : (Cond.fieldLink RX0 15 "BellBook$Bell" "breath" "I").before [.ref h0].toArray s = true := hts _ (List.mem_of_getElem? (i := 5) rfl)
  have k_6 : (Cond.fieldLink RX0 18 "BellBook$Bell" "limit" "I").before [.ref h0].toArray s = true := hts _ (List.mem_of_getElem? (i := 6) rfl)
  refine lv_aload_n hx hb dX0_init_0 rfl (lv_at hl 0 rfl) ?_
  refine W.objInit hx hb hown k_0 k_1 k_2 rfl (by rw [hml]; exact hl.1) rfl dX0_init_1 (Nat.le_of_ble_eq_true rfl) (Nat.le_of_ble_eq_true rfl) ?_
  refine W.eq (g2 := F0 m 4 ls []) rfl ?_
  refine lv_aload_n hx hb dX0_init_4 rfl (lv_at hl 0 rfl) ?_
  refine lv_iconst (v := 0) hx hb dX0_init_5 (by decide) ?_
  refine va_put (D := D) (ci := 0) (v := .int (0)) (ty := .int) (C := RX0) (T := TX0) (N := 12) hx hb hts n_0 tyX0 tyX0_ok nmX0 hown hK hP hD hS 0 rfl rfl 1 (by decide) k_3 (fun _ h9 => h9) rfl (tyX0_ok 1 (by decide)) rfl rfl (Nat.le_of_ble_eq_true rfl) dX0_init_6 (fun H locs hP hD hS => ?_)
  have hP : va_P D vwCl [(h0, .inr (0, [.int 0, .int (0), .int 0, .int 0, .int 0, .int 0, .int 0, .int 0, .int 0, .int 0, .int 0, .int 0]))] H := hP
  have hD : va_D A [(h0, .inr (0, [.int 0, .int (0), .int 0, .int 0, .int 0, .int 0, .int 0, .int 0, .int 0, .int 0, .int 0, .int 0]))] := hD
  refine lv_aload_n hx hb dX0_init_9 rfl (lv_at hl 0 rfl) ?_
  refine lv_iconst (v := 3) hx hb dX0_init_10 (by decide) ?_
  refine va_put (D := D) (ci := 0) (v := .int (3)) (ty := .int) (C := RX0) (T := TX0) (N := 12) hx hb hts n_0 tyX0 tyX0_ok nmX0 hown hK hP hD hS 0 rfl rfl 10 (by decide) k_5 (fun _ h9 => h9) rfl (tyX0_ok 10 (by decide)) rfl rfl (Nat.le_of_ble_eq_true rfl) dX0_init_11 (fun H locs hP hD hS => ?_)
  have hP : va_P D vwCl [(h0, .inr (0, [.int 0, .int (0), .int 0, .int 0, .int 0, .int 0, .int 0, .int 0, .int 0, .int 0, .int (3), .int 0]))] H := hP
  have hD : va_D A [(h0, .inr (0, [.int 0, .int (0), .int 0, .int 0, .int 0, .int 0, .int 0, .int 0, .int 0, .int 0, .int (3), .int 0]))] := hD
  refine lv_aload_n hx hb dX0_init_14 rfl (lv_at hl 0 rfl) ?_
  refine lv_bipush (v := 40) hx hb dX0_init_15 (by decide) ?_
  refine va_put (D := D) (ci := 0) (v := .int (40)) (ty := .int) (C := RX0) (T := TX0) (N := 12) hx hb hts n_0 tyX0 tyX0_ok nmX0 hown hK hP hD hS 0 rfl rfl 11 (by decide) k_6 (fun _ h9 => h9) rfl (tyX0_ok 11 (by decide)) rfl rfl (Nat.le_of_ble_eq_true rfl) dX0_init_17 (fun H locs hP hD hS => ?_)
  have hP : va_P D vwCl [(h0, .inr (0, [.int 0, .int (0), .int 0, .int 0, .int 0, .int 0, .int 0, .int 0, .int 0, .int 0, .int (3), .int (40)]))] H := hP
  have hD : va_D A [(h0, .inr (0, [.int 0, .int (0), .int 0, .int 0, .int 0, .int 0, .int 0, .int 0, .int 0, .int 0, .int (3), .int (40)]))] := hD
  refine lv_aload_n hx hb dX0_init_20 rfl (lv_at hl 0 rfl) ?_
  refine lv_sipush (v := 1000) hx hb dX0_init_21 (by decide) ?_
  have hPc := hP.sub (ws' := [(h0, .inr (0, [.int 0, .int (0), .int 0, .int 0, .int 0, .int 0, .int 0, .int 0, .int 0, .int 0, .int (3), .int (40)]))]) [0] rfl
  have hDc := hD.sub (ws' := [(h0, .inr (0, [.int 0, .int (0), .int 0, .int 0, .int 0, .int 0, .int 0, .int 0, .int 0, .int 0, .int (3), .int (40)]))]) [0] (by decide) rfl
  have hKc := hK.sub (tys' := []) [] rfl
  have hFc := va_free (wc := [(h0, .inr (0, [.int 0, .int (0), .int 0, .int 0, .int 0, .int 0, .int 0, .int 0, .int 0, .int 0, .int (3), .int (40)]))]) hD hS hA [0] rfl
  refine va_callv (va_runV (As := [.int (1000)]) (rest := []) ⟨hx, hb, hml, hown, hts⟩ (i_X0_beginAnew l D h0 H.size) (cwV 1 hts gX0_init_X0_beginAnew rfl rfl rfl (by decide +kernel) ⟨Nat.le_of_ble_eq_true rfl, Nat.le_of_ble_eq_true rfl⟩) ⟨fun a U g mk q => by obtain ⟨q0, q1, qP, qK, qD⟩ := q; exact ⟨q0, q1, qP, va_K.moved (u := U) (U := U.calling g mk a) (Vm.Alike.refl U.vm) qK, qD⟩, va_recv hKc hPc (ci := 0) (q0 := 0) rfl rfl, fun U hU hW => ⟨rfl, by rw [hU], by rw [hU]; exact hPc, va_K.moved hW.alike hKc, hDc.weaken (fun _ _ _ _ => trivial)⟩⟩ rfl rfl hl.1 rfl (lv_room (Nat.le_of_ble_eq_true rfl)) dX0_init_24 ⟨Nat.le_of_ble_eq_true rfl, Nat.le_of_ble_eq_true rfl⟩) hS (fun q _ h => hFc q h) hFc (fun u t H1 locs ht hvm hw hB hz1 hk1 hS => ?_)
  obtain ⟨hP1, hK1, hD1⟩ := hB
  rw [ht] at hP1
  have hK1 := va_K.moved hvm.symm hK1
  obtain ⟨hP, hD⟩ := va_join (wr := []) (w1 := [(h0, .inr (0, [.int (1000), .int (0), .int (1000), .int (0), .int (1000), .int (0), .int (0), .int (0), .int (0), .int (0), .int (3), .int (40)]))]) hP hD [0] [] rfl rfl (by decide) (by decide) hk1 hFc hP1 hD1
  generalize H1 = H at hP hS ⊢
  have hP : va_P D vwCl [(h0, .inr (0, [.int (1000), .int (0), .int (1000), .int (0), .int (1000), .int (0), .int (0), .int (0), .int (0), .int (0), .int (3), .int (40)]))] H := hP
  have hD : va_D A [(h0, .inr (0, [.int (1000), .int (0), .int (1000), .int (0), .int (1000), .int (0), .int (0), .int (0), .int (0), .int (0), .int (3), .int (40)]))] := hD
  refine W.widen (k := 0) (n := 0) (by omega) (by omega) ?_
  have hP9 := hP.sub (ws' := [(h0, .inr (0, [.int (1000), .int (0), .int (1000), .int (0), .int (1000), .int (0), .int (0), .int (0), .int (0), .int (0), .int (3), .int (40)]))]) [0] rfl
  have hD9 := hD.sub (ws' := [(h0, .inr (0, [.int (1000), .int (0), .int (1000), .int (0), .int (1000), .int (0), .int (0), .int (0), .int (0), .int (0), .int (3), .int (40)]))]) [0] (by decide) rfl
  exact W.vret hx hb hr (fun t ht hW => ⟨⟨(), rfl, trivial, by rw [ht]; exact hP9, va_K.moved hW.alike hK, hD9⟩, hS.F ht⟩) hS.2.2 dX0_init_27

