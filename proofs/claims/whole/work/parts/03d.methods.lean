def p_X6_add (F : tF) (G : tG) (a1 : Int32) (a2 : Int32) (a3 : Int32) (a4 : Int32) : Option (Int32 × tF × tG) :=
  plet (F 15) (fun (x4 : Int32) => oguard (inB x4 12) (plet (stG G 6 x4 a1) (fun (G13 : tG) => oguard (inB x4 12) (plet (stG G13 7 x4 a2) (fun (G21 : tG) => oguard (inB x4 12) (plet (stG G21 8 x4 a3) (fun (G29 : tG) => oguard (inB x4 12) (plet (stG G29 9 x4 a4) (fun (G38 : tG) => plet (upd F 15 ((F 15) + 1)) (fun (F46 : tF) => plet (upd F46 18 0) (fun (F51 : tF) => some (x4, F51, G38))))))))))))
set_option maxHeartbeats 4000000 in
set_option maxRecDepth 100000 in
theorem c_X6_add (l : Launch) (D : va_G) (ad : Nat → Nat) (cA : ClassId) (n : Nat) (F : tF) (G : tG) (a1 : Int32) (a2 : Int32) (a3 : Int32) (a4 : Int32) {r : Int32} {F' : tF} {G' : tG} (h : p_X6_add F G a1 a2 a3 a4 = some (r, F', G')) : CI l yX6_add wsX6_add ({ frames := 0, cells := 0, slots := 0, locals := 0 } : Room) D cA (wC ad cA F G) [.ref (ad 9), .int (a1), .int (a2), .int (a3), .int (a4)] r (wC ad cA F' G') := by
  rw [p_X6_add] at h
  refine metIm (w := wC ad cA) (cc := cX6_add) (maxL := 6) (by decide) rfl (Nat.le_of_ble_eq_true rfl) ?_
  intro p e s m args below meth c A ls Q hE hret
  obtain ⟨hx, hb, hts, hown, hml, hP, hK, hD, hN, hA, hl⟩ := hE
  have hown : s.vm.findClass RX6 = some m.cls := hown
  have hl : lv_has ls 6 [(0, .ref (ad 9)), (1, .int (a1)), (2, .int (a2)), (3, .int (a3)), (4, .int (a4))] := hl
  have hS : va_S A s.heap s.heap [] := va_S.rf
  have k_0 : (Cond.fieldLink RX6 42 "BellBook$Wreck" "count" "I").before args s = true := hts _ (List.mem_of_getElem? (i := 1) rfl)
  have n_6 : ∀ w ∈ u_ws RX6 TX6 12, w ∈ wsX6_add := fun w hw => List.mem_cons_of_mem _ (List.mem_append_right _ hw)
  have k_2 : (Cond.fieldLink RX6 9 "BellBook$Wreck" "square" "[I").before args s = true := hts _ (List.mem_of_getElem? (i := 2) rfl)
  have k_3 : (Cond.fieldLink RX6 13 "BellBook$Wreck" "worth" "[I").before args s = true := hts _ (List.mem_of_getElem? (i := 3) rfl)
  have k_4 : (Cond.fieldLink RX6 16 "BellBook$Wreck" "work" "[I").before args s = true := hts _ (List.mem_of_getElem? (i := 4) rfl)
  have k_5 : (Cond.fieldLink RX6 19 "BellBook$Wreck" "odds" "[I").before args s = true := hts _ (List.mem_of_getElem? (i := 5) rfl)
  have k_6 : (Cond.fieldLink RX6 52 "BellBook$Wreck" "planStands" "Z").before args s = true := hts _ (List.mem_of_getElem? (i := 6) rfl)
  refine lv_aload_n hx hb dX6_add_0 rfl (lv_at hl 0 rfl) ?_
  refine va_get (D := D) (ci := 6) (fs := vX6 ad F) (v := .int ((F 15))) (C := RX6) (T := TX6) (N := 12) hx hb hts n_6 hown hK hP 9 wCg9 rfl 8 (by decide) k_0 (fun _ h9 => h9) rfl dX6_add_1 ?_
  refine lv_topi (fun x4 ex4 => ?_)
  replace h := pl h ex4
  refine lv_istore (lv' := [(5, .int (x4)), (0, .ref (ad 9)), (1, .int (a1)), (2, .int (a2)), (3, .int (a3)), (4, .int (a4))]) hx hb dX6_add_4 hl (by decide) rfl (fun ls hl => ?_)
  refine lv_aload_n hx hb dX6_add_6 rfl (lv_at hl 1 rfl) ?_
  refine va_get (D := D) (ci := 6) (fs := vX6 ad F) (v := .ref (ad 10)) (C := RX6) (T := TX6) (N := 12) hx hb hts n_6 hown hK hP 9 wCg9 rfl 0 (by decide) k_2 (fun _ h9 => h9) rfl dX6_add_7 ?_
  refine lv_iload hx hb dX6_add_10 (lv_at hl 0 rfl) ?_
  refine lv_iload_n hx hb dX6_add_12 rfl (lv_at hl 2 rfl) ?_
  obtain ⟨g13, h⟩ := og h
  obtain ⟨G13, eG13⟩ : ∃ z : tG, z = stG G 6 x4 a1 := ⟨_, rfl⟩
  replace h := pl h eG13
  refine va_iast (D := D) hx hb hK hP hD hS 10 0 wCg10 rfl (inB_in g13) dX6_add_13 (fun H locs hP hD hS => ?_)
  rw [wCa6 eG13] at hP hD
  refine lv_aload_n hx hb dX6_add_14 rfl (lv_at hl 1 rfl) ?_
  refine va_get (D := D) (ci := 6) (fs := vX6 ad F) (v := .ref (ad 11)) (C := RX6) (T := TX6) (N := 12) hx hb hts n_6 hown hK hP 9 wCg9 rfl 1 (by decide) k_3 (fun _ h9 => h9) rfl dX6_add_15 ?_
  refine lv_iload hx hb dX6_add_18 (lv_at hl 0 rfl) ?_
  refine lv_iload_n hx hb dX6_add_20 rfl (lv_at hl 3 rfl) ?_
  obtain ⟨g21, h⟩ := og h
  obtain ⟨G21, eG21⟩ : ∃ z : tG, z = stG G13 7 x4 a2 := ⟨_, rfl⟩
  replace h := pl h eG21
  refine va_iast (D := D) hx hb hK hP hD hS 11 0 wCg11 rfl (inB_in g21) dX6_add_21 (fun H locs hP hD hS => ?_)
  rw [wCa7 eG21] at hP hD
  refine lv_aload_n hx hb dX6_add_22 rfl (lv_at hl 1 rfl) ?_
  refine va_get (D := D) (ci := 6) (fs := vX6 ad F) (v := .ref (ad 12)) (C := RX6) (T := TX6) (N := 12) hx hb hts n_6 hown hK hP 9 wCg9 rfl 2 (by decide) k_4 (fun _ h9 => h9) rfl dX6_add_23 ?_
  refine lv_iload hx hb dX6_add_26 (lv_at hl 0 rfl) ?_
  refine lv_iload_n hx hb dX6_add_28 rfl (lv_at hl 4 rfl) ?_
  obtain ⟨g29, h⟩ := og h
  obtain ⟨G29, eG29⟩ : ∃ z : tG, z = stG G21 8 x4 a3 := ⟨_, rfl⟩
  replace h := pl h eG29
  refine va_iast (D := D) hx hb hK hP hD hS 12 0 wCg12 rfl (inB_in g29) dX6_add_29 (fun H locs hP hD hS => ?_)
  rw [wCa8 eG29] at hP hD
  refine lv_aload_n hx hb dX6_add_30 rfl (lv_at hl 1 rfl) ?_
  refine va_get (D := D) (ci := 6) (fs := vX6 ad F) (v := .ref (ad 13)) (C := RX6) (T := TX6) (N := 12) hx hb hts n_6 hown hK hP 9 wCg9 rfl 3 (by decide) k_5 (fun _ h9 => h9) rfl dX6_add_31 ?_
  refine lv_iload hx hb dX6_add_34 (lv_at hl 0 rfl) ?_
  refine lv_iload hx hb dX6_add_36 (lv_at hl 5 rfl) ?_
  obtain ⟨g38, h⟩ := og h
  obtain ⟨G38, eG38⟩ : ∃ z : tG, z = stG G29 9 x4 a4 := ⟨_, rfl⟩
  replace h := pl h eG38
  refine va_iast (D := D) hx hb hK hP hD hS 13 0 wCg13 rfl (inB_in g38) dX6_add_38 (fun H locs hP hD hS => ?_)
  rw [wCa9 eG38] at hP hD
  refine lv_aload_n hx hb dX6_add_39 rfl (lv_at hl 1 rfl) ?_
  refine lv_dup hx hb dX6_add_40 rfl ?_
  refine va_get (D := D) (ci := 6) (fs := vX6 ad F) (v := .int ((F 15))) (C := RX6) (T := TX6) (N := 12) hx hb hts n_6 hown hK hP 9 wCg9 rfl 8 (by decide) k_0 (fun _ h9 => h9) rfl dX6_add_41 ?_
  refine lv_iconst (v := 1) hx hb dX6_add_44 (by decide) ?_
  refine lv_iadd hx hb dX6_add_45 ?_
  obtain ⟨F46, eF46⟩ : ∃ f : tF, f = upd F 15 ((F 15) + 1) := ⟨_, rfl⟩
  replace h := pl h eF46
  refine va_put (D := D) (ci := 6) (fs := vX6 ad F) (v := .int (((F 15) + 1))) (ty := .int) (C := RX6) (T := TX6) (N := 12) hx hb hts n_6 tyX6 tyX6_ok nmX6 hown hK hP hD hS 9 wCg9 rfl 8 (by decide) k_0 (fun _ h9 => h9) rfl (tyX6_ok 8 (by decide)) rfl rfl (Nat.le_of_ble_eq_true rfl) dX6_add_46 (fun H locs hP hD hS => ?_)
  rw [wCp15 eF46] at hP hD
  refine lv_aload_n hx hb dX6_add_49 rfl (lv_at hl 1 rfl) ?_
  refine lv_iconst (v := 0) hx hb dX6_add_50 (by decide) ?_
  obtain ⟨F51, eF51⟩ : ∃ f : tF, f = upd F46 18 0 := ⟨_, rfl⟩
  replace h := pl h eF51
  refine va_put (D := D) (ci := 6) (fs := vX6 ad F46) (v := .int (0)) (ty := .boolean) (C := RX6) (T := TX6) (N := 12) hx hb hts n_6 tyX6 tyX6_ok nmX6 hown hK hP hD hS 9 wCg9 rfl 11 (by decide) k_6 (fun _ h9 => h9) rfl (tyX6_ok 11 (by decide)) (by decide) (by decide) (Nat.le_of_ble_eq_true rfl) dX6_add_51 (fun H locs hP hD hS => ?_)
  rw [wCp18 eF51] at hP hD
  refine lv_iload hx hb dX6_add_54 (lv_at hl 0 rfl) ?_
  exact hret _ _ _ _ _ _ _ dX6_add_56 h hP hD hS

def p_X6_addTide (F : tF) (G : tG) (a1 : Int32) : Option (Int32 × tF × tG) :=
  plet (upd F 18 0) (fun (F2 : tF) => bi3 (p_X5_add F2 G a1) (fun x10 F10 G10 => some (x10, F10, G10)))
set_option maxHeartbeats 4000000 in
set_option maxRecDepth 100000 in
theorem c_X6_addTide (l : Launch) (D : va_G) (ad : Nat → Nat) (cA : ClassId) (n : Nat) (F : tF) (G : tG) (a1 : Int32) {r : Int32} {F' : tF} {G' : tG} (h : p_X6_addTide F G a1 = some (r, F', G')) : CI l yX6_addTide wsX6_addTide ({ frames := 1, cells := 0, slots := 0, locals := 21 } : Room) D cA (wC ad cA F G) [.ref (ad 9), .int (a1)] r (wC ad cA F' G') := by
  rw [p_X6_addTide] at h
  refine metIm (w := wC ad cA) (cc := cX6_addTide) (maxL := 2) (by decide) rfl (Nat.le_of_ble_eq_true rfl) ?_
  intro p e s m args below meth c A ls Q hE hret
  obtain ⟨hx, hb, hts, hown, hml, hP, hK, hD, hN, hA, hl⟩ := hE
  have hown : s.vm.findClass RX6 = some m.cls := hown
  have hl : lv_has ls 2 [(0, .ref (ad 9)), (1, .int (a1))] := hl
  have hS : va_S A s.heap s.heap [] := va_S.rf
  have k_0 : (Cond.fieldLink RX6 52 "BellBook$Wreck" "planStands" "Z").before args s = true := hts _ (List.mem_of_getElem? (i := 1) rfl)
  have n_6 : ∀ w ∈ u_ws RX6 TX6 12, w ∈ wsX6_addTide := fun w hw => List.mem_cons_of_mem _ (List.mem_append_left _ (List.mem_append_right _ hw))
  have k_2 : (Cond.fieldLink RX6 31 "BellBook$Wreck" "tides" "LBellBook$Tides;").before args s = true := hts _ (List.mem_of_getElem? (i := 2) rfl)
  refine lv_aload_n hx hb dX6_addTide_0 rfl (lv_at hl 0 rfl) ?_
  refine lv_iconst (v := 0) hx hb dX6_addTide_1 (by decide) ?_
  obtain ⟨F2, eF2⟩ : ∃ f : tF, f = upd F 18 0 := ⟨_, rfl⟩
  replace h := pl h eF2
  refine va_put (D := D) (ci := 6) (fs := vX6 ad F) (v := .int (0)) (ty := .boolean) (C := RX6) (T := TX6) (N := 12) hx hb hts n_6 tyX6 tyX6_ok nmX6 hown hK hP hD hS 9 wCg9 rfl 11 (by decide) k_0 (fun _ h9 => h9) rfl (tyX6_ok 11 (by decide)) (by decide) (by decide) (Nat.le_of_ble_eq_true rfl) dX6_addTide_2 (fun H locs hP hD hS => ?_)
  rw [wCp18 eF2] at hP hD
  refine lv_aload_n hx hb dX6_addTide_5 rfl (lv_at hl 0 rfl) ?_
  refine va_get (D := D) (ci := 6) (fs := vX6 ad F2) (v := .ref (ad 16)) (C := RX6) (T := TX6) (N := 12) hx hb hts n_6 hown hK hP 9 wCg9 rfl 6 (by decide) k_2 (fun _ h9 => h9) rfl dX6_addTide_6 ?_
  refine lv_iload_n hx hb dX6_addTide_9 rfl (lv_at hl 1 rfl) ?_
  obtain ⟨x10, F10, G10, h10, h⟩ := bi3e h
  refine callVI (b := ad 16) (As := [.int (a1)]) (rest := []) ⟨hx, hb, hml, hown, hts⟩ (c_X5_add l D ad cA n F2 G a1 h10) (cwV 1 hts gX6_addTide_X5_add rfl rfl rfl (by decide +kernel) ⟨Nat.le_of_ble_eq_true rfl, Nat.le_of_ble_eq_true rfl⟩) (va_recv hK hP (ci := 5) (q0 := 16) rfl wCg16) hP hK hD hN hS hA rfl hl.1 rfl (Nat.le_of_ble_eq_true rfl) dX6_addTide_10 ⟨Nat.zero_le _, Nat.zero_le _⟩ (fun H locs hP hD hS => ?_)
  exact hret _ _ _ _ _ _ _ dX6_addTide_13 h hP hD hS

def p_X6_bestPlan (n : Nat) (F : tF) (G : tG) : Option (tF × tG) :=
  bi2 ((if (F 18) = 0 then bi2 (p_X4_make n F G) (fun F12 G12 => some (F12, G12)) else some (F, G))) (fun (F4j : tF) (G4j : tG) => plet (upd F4j 18 1) (fun (F17 : tF) => some (F17, G4j)))
set_option maxHeartbeats 4000000 in
set_option maxRecDepth 100000 in
theorem c_X6_bestPlan (l : Launch) (D : va_G) (ad : Nat → Nat) (cA : ClassId) (n : Nat) (F : tF) (G : tG) {F' : tF} {G' : tG} (h : p_X6_bestPlan n F G = some (F', G')) : CR l yX6_bestPlan wsX6_bestPlan ({ frames := 5, cells := 0, slots := 0, locals := 117 } : Room) D cA (wC ad cA F G) [.ref (ad 9)] (ad 18) (wC ad cA F' G') := by
  rw [p_X6_bestPlan] at h
  refine metRm (w := wC ad cA) (cc := cX6_bestPlan) (maxL := 1) (by decide) rfl (Nat.le_of_ble_eq_true rfl) ?_
  intro p e s m args below meth c A ls Q hE hret
  obtain ⟨hx, hb, hts, hown, hml, hP, hK, hD, hN, hA, hl⟩ := hE
  have hown : s.vm.findClass RX6 = some m.cls := hown
  have hl : lv_has ls 1 [(0, .ref (ad 9))] := hl
  have hS : va_S A s.heap s.heap [] := va_S.rf
  have k_0 : (Cond.fieldLink RX6 52 "BellBook$Wreck" "planStands" "Z").before args s = true := hts _ (List.mem_of_getElem? (i := 1) rfl)
  have n_6 : ∀ w ∈ u_ws RX6 TX6 12, w ∈ wsX6_bestPlan := fun w hw => List.mem_cons_of_mem _ (List.mem_append_left _ (List.mem_append_left _ (List.mem_append_right _ hw)))
  have k_2 : (Cond.fieldLink RX6 38 "BellBook$Wreck" "plan" "LBellBook$Plan;").before args s = true := hts _ (List.mem_of_getElem? (i := 2) rfl)
  refine lv_aload_n hx hb dX6_bestPlan_0 rfl (lv_at hl 0 rfl) ?_
  refine va_get (D := D) (ci := 6) (fs := vX6 ad F) (v := .int ((F 18))) (C := RX6) (T := TX6) (N := 12) hx hb hts n_6 hown hK hP 9 wCg9 rfl 11 (by decide) k_0 (fun _ h9 => h9) rfl dX6_bestPlan_1 ?_
  obtain ⟨F4j, G4j, q4, h⟩ := bi2e h
  have J4 : ∀ (wF4j : tF) (wG4j : tG), some (wF4j, wG4j) = some (F4j, G4j) → ∀ (H : Heap) (locs : List Loc) (ls : Array Slot), va_P D vwCl (wC ad cA wF4j wG4j) H → va_D A (wC ad cA wF4j wG4j) → va_S A s.heap H locs → lv_has ls 1 [(0, .ref (ad 9))] → W p l e ({ frames := 5, cells := 0, slots := 0, locals := 117 } : Room) s m args below meth c H locs 0 0 Q (F0 m 15 ls []) := by
    intro wF4j wG4j e9 H locs ls hP hD hS hl
    cases e9
    refine lv_aload_n hx hb dX6_bestPlan_15 rfl (lv_at hl 0 rfl) ?_
    refine lv_iconst (v := 1) hx hb dX6_bestPlan_16 (by decide) ?_
    obtain ⟨F17, eF17⟩ : ∃ f : tF, f = upd F4j 18 1 := ⟨_, rfl⟩
    replace h := pl h eF17
    refine va_put (D := D) (ci := 6) (fs := vX6 ad F4j) (v := .int (1)) (ty := .boolean) (C := RX6) (T := TX6) (N := 12) hx hb hts n_6 tyX6 tyX6_ok nmX6 hown hK hP hD hS 9 wCg9 rfl 11 (by decide) k_0 (fun _ h9 => h9) rfl (tyX6_ok 11 (by decide)) (by decide) (by decide) (Nat.le_of_ble_eq_true rfl) dX6_bestPlan_17 (fun H locs hP hD hS => ?_)
    rw [wCp18 eF17] at hP hD
    refine lv_aload_n hx hb dX6_bestPlan_20 rfl (lv_at hl 0 rfl) ?_
    refine va_get (D := D) (ci := 6) (fs := vX6 ad F17) (v := .ref (ad 18)) (C := RX6) (T := TX6) (N := 12) hx hb hts n_6 hown hK hP 9 wCg9 rfl 7 (by decide) k_2 (fun _ h9 => h9) rfl dX6_bestPlan_21 ?_
    exact hret _ _ _ _ _ _ dX6_bestPlan_24 h hP hD hS
  refine lv_if_ne (tgt := 15) hx hb dX6_bestPlan_4 (by decide) (fun c4 => ?_) (fun c4 => ?_)
  · replace q4 := ifn q4 c4
    exact J4 _ _ q4 _ _ _ hP hD hS (lv_sub hl [0] rfl)
  · replace q4 := ifp q4 c4
    refine lv_aload_n hx hb dX6_bestPlan_7 rfl (lv_at hl 0 rfl) ?_
    refine va_get (D := D) (ci := 6) (fs := vX6 ad F) (v := .ref (ad 18)) (C := RX6) (T := TX6) (N := 12) hx hb hts n_6 hown hK hP 9 wCg9 rfl 7 (by decide) k_2 (fun _ h9 => h9) rfl dX6_bestPlan_8 ?_
    refine lv_aload_n hx hb dX6_bestPlan_11 rfl (lv_at hl 0 rfl) ?_
    obtain ⟨F12, G12, h12, q4⟩ := bi2e q4
    refine callVV (b := ad 18) (As := [.ref (ad 9)]) (rest := []) ⟨hx, hb, hml, hown, hts⟩ (c_X4_make l D ad cA n F G h12) (cwV 1 hts gX6_bestPlan_X4_make rfl rfl rfl (by decide +kernel) ⟨Nat.le_of_ble_eq_true rfl, Nat.le_of_ble_eq_true rfl⟩) (va_recv hK hP (ci := 4) (q0 := 18) rfl wCg18) hP hK hD hN hS hA rfl hl.1 rfl (Nat.le_of_ble_eq_true rfl) dX6_bestPlan_12 ⟨Nat.zero_le _, Nat.zero_le _⟩ (fun H locs hP hD hS => ?_)
    exact J4 _ _ q4 _ _ _ hP hD hS (lv_sub hl [0] rfl)

def p_X6_isFree (F : tF) (G : tG) (a1 : Int32) : Option (Int32) :=
  oguard (inB a1 12) (bi1 ((if ((G 11 a1.toNatClampNeg) &&& ((F 16) ^^^ (-1))) = 0 then some (1) else some (0))) (fun (y13_0 : Int32) => oguard (btB y13_0) (some y13_0)))
set_option maxHeartbeats 4000000 in
set_option maxRecDepth 100000 in
theorem c_X6_isFree (l : Launch) (D : va_G) (ad : Nat → Nat) (cA : ClassId) (n : Nat) (F : tF) (G : tG) (a1 : Int32) {r : Int32} (h : p_X6_isFree F G a1 = some r) : CI l yX6_isFree wsX6_isFree ({ frames := 0, cells := 0, slots := 0, locals := 0 } : Room) D cA (wC ad cA F G) [.ref (ad 9), .int (a1)] r (wC ad cA F G) := by
  rw [p_X6_isFree] at h
  refine metZr (w := wC ad cA) (cc := cX6_isFree) (maxL := 2) (by decide) rfl (Nat.le_of_ble_eq_true rfl) ?_
  intro p e s m args below meth c A ls Q hE hret
  obtain ⟨hx, hb, hts, hown, hml, hP, hK, hD, hN, hA, hl⟩ := hE
  have hown : s.vm.findClass RX6 = some m.cls := hown
  have hl : lv_has ls 2 [(0, .ref (ad 9)), (1, .int (a1))] := hl
  have hS : va_S A s.heap s.heap [] := va_S.rf
  have k_0 : (Cond.fieldLink RX6 25 "BellBook$Wreck" "under" "[I").before args s = true := hts _ (List.mem_of_getElem? (i := 1) rfl)
  have n_6 : ∀ w ∈ u_ws RX6 TX6 12, w ∈ wsX6_isFree := fun w hw => List.mem_cons_of_mem _ (List.mem_append_right _ hw)
  have k_2 : (Cond.fieldLink RX6 46 "BellBook$Wreck" "raised" "I").before args s = true := hts _ (List.mem_of_getElem? (i := 2) rfl)
  refine lv_aload_n hx hb dX6_isFree_0 rfl (lv_at hl 0 rfl) ?_
  refine va_get (D := D) (ci := 6) (fs := vX6 ad F) (v := .ref (ad 15)) (C := RX6) (T := TX6) (N := 12) hx hb hts n_6 hown hK hP 9 wCg9 rfl 5 (by decide) k_0 (fun _ h9 => h9) rfl dX6_isFree_1 ?_
  refine lv_iload_n hx hb dX6_isFree_4 rfl (lv_at hl 1 rfl) ?_
  obtain ⟨g5, h⟩ := og h
  refine va_iald (D := D) hx hb hK hP 15 0 wCg15 rfl (inB_in g5) dX6_isFree_5 ?_
  refine lv_aload_n hx hb dX6_isFree_6 rfl (lv_at hl 0 rfl) ?_
  refine va_get (D := D) (ci := 6) (fs := vX6 ad F) (v := .int ((F 16))) (C := RX6) (T := TX6) (N := 12) hx hb hts n_6 hown hK hP 9 wCg9 rfl 9 (by decide) k_2 (fun _ h9 => h9) rfl dX6_isFree_7 ?_
  refine lv_iconst (v := (-1)) hx hb dX6_isFree_10 (by decide) ?_
  refine lv_ixor hx hb dX6_isFree_11 ?_
  refine lv_iand hx hb dX6_isFree_12 ?_
  obtain ⟨y13_0, q13, h⟩ := bi1e h
  have J13 : ∀ (wy13_0 : Int32), some (wy13_0) = some (y13_0) → ∀ (H : Heap) (locs : List Loc) (ls : Array Slot), va_P D vwCl (wC ad cA F G) H → va_D A (wC ad cA F G) → va_S A s.heap H locs → lv_has ls 2 [(0, .ref (ad 9)), (1, .int (a1))] → W p l e ({ frames := 0, cells := 0, slots := 0, locals := 0 } : Room) s m args below meth c H locs 0 0 Q (F0 m 21 ls [.int (wy13_0)]) := by
    intro wy13_0 e9 H locs ls hP hD hS hl
    cases e9
    obtain ⟨g21, h⟩ := og h
    exact hret _ _ _ _ _ dX6_isFree_21 g21 h hP hD hS
  refine lv_if_ne (tgt := 20) hx hb dX6_isFree_13 (by decide) (fun c13 => ?_) (fun c13 => ?_)
  · replace q13 := ifn q13 c13
    refine lv_iconst (v := 0) hx hb dX6_isFree_20 (by decide) ?_
    exact J13 _ q13 _ _ _ hP hD hS (lv_sub hl [0, 1] rfl)
  · replace q13 := ifp q13 c13
    refine lv_iconst (v := 1) hx hb dX6_isFree_16 (by decide) ?_
    refine lv_goto (tgt := 21) hx hb dX6_isFree_17 (by decide) ?_
    exact J13 _ q13 _ _ _ hP hD hS (lv_sub hl [0, 1] rfl)

def p_X6_canBeWorked (F : tF) (G : tG) (a1 : Int32) : Option (Int32) :=
  bi1 (p_X6_isFree F G a1) (fun x2 => bi1 ((if x2 = 0 then some (0) else bi1 (p_X7_bit ((F 16) ||| (F 17)) a1) (fun x18 => (if x18 = 0 then some (1) else some (0))))) (fun (y5_0 : Int32) => oguard (btB y5_0) (some y5_0)))
set_option maxHeartbeats 4000000 in
set_option maxRecDepth 100000 in
theorem c_X6_canBeWorked (l : Launch) (D : va_G) (ad : Nat → Nat) (cA : ClassId) (n : Nat) (F : tF) (G : tG) (a1 : Int32) {r : Int32} (h : p_X6_canBeWorked F G a1 = some r) : CI l yX6_canBeWorked wsX6_canBeWorked ({ frames := 1, cells := 0, slots := 0, locals := 21 } : Room) D cA (wC ad cA F G) [.ref (ad 9), .int (a1)] r (wC ad cA F G) := by
  rw [p_X6_canBeWorked] at h
  refine metZr (w := wC ad cA) (cc := cX6_canBeWorked) (maxL := 2) (by decide) rfl (Nat.le_of_ble_eq_true rfl) ?_
  intro p e s m args below meth c A ls Q hE hret
  obtain ⟨hx, hb, hts, hown, hml, hP, hK, hD, hN, hA, hl⟩ := hE
  have hown : s.vm.findClass RX6 = some m.cls := hown
  have hl : lv_has ls 2 [(0, .ref (ad 9)), (1, .int (a1))] := hl
  have hS : va_S A s.heap s.heap [] := va_S.rf
  have k_0 : (Cond.fieldLink RX6 46 "BellBook$Wreck" "raised" "I").before args s = true := hts _ (List.mem_of_getElem? (i := 1) rfl)
  have n_6 : ∀ w ∈ u_ws RX6 TX6 12, w ∈ wsX6_canBeWorked := fun w hw => List.mem_cons_of_mem _ (List.mem_append_right _ hw)
  have k_2 : (Cond.fieldLink RX6 49 "BellBook$Wreck" "tangled" "I").before args s = true := hts _ (List.mem_of_getElem? (i := 2) rfl)
  have k_3 : (Cond.initialized RX7).before args s = true := hts _ (List.mem_of_getElem? (i := 10) rfl)
  have k_4 : (Cond.static yX7_bit).before args s = true := hts _ (List.mem_of_getElem? (i := 9) rfl)
  refine lv_aload_n hx hb dX6_canBeWorked_0 rfl (lv_at hl 0 rfl) ?_
  refine lv_iload_n hx hb dX6_canBeWorked_1 rfl (lv_at hl 1 rfl) ?_
  obtain ⟨x2, h2, h⟩ := bi1e h
  refine callVI (b := ad 9) (As := [.int (a1)]) (rest := []) ⟨hx, hb, hml, hown, hts⟩ (c_X6_isFree l D ad cA n F G a1 h2) (cwV 1 hts gX6_canBeWorked_X6_isFree rfl rfl rfl (by decide +kernel) ⟨Nat.le_of_ble_eq_true rfl, Nat.le_of_ble_eq_true rfl⟩) (va_recv hK hP (ci := 6) (q0 := 9) rfl wCg9) hP hK hD hN hS hA rfl hl.1 rfl (Nat.le_of_ble_eq_true rfl) dX6_canBeWorked_2 ⟨Nat.zero_le _, Nat.zero_le _⟩ (fun H locs hP hD hS => ?_)
  obtain ⟨y5_0, q5, h⟩ := bi1e h
  have J5 : ∀ (wy5_0 : Int32), some (wy5_0) = some (y5_0) → ∀ (H : Heap) (locs : List Loc) (ls : Array Slot), va_P D vwCl (wC ad cA F G) H → va_D A (wC ad cA F G) → va_S A s.heap H locs → lv_has ls 2 [(0, .ref (ad 9)), (1, .int (a1))] → W p l e ({ frames := 1, cells := 0, slots := 0, locals := 21 } : Room) s m args below meth c H locs 0 0 Q (F0 m 29 ls [.int (wy5_0)]) := by
    intro wy5_0 e9 H locs ls hP hD hS hl
    cases e9
    obtain ⟨g29, h⟩ := og h
    exact hret _ _ _ _ _ dX6_canBeWorked_29 g29 h hP hD hS
  refine lv_if_eq (tgt := 28) hx hb dX6_canBeWorked_5 (by decide) (fun c5 => ?_) (fun c5 => ?_)
  · replace q5 := ifp q5 c5
    refine lv_iconst (v := 0) hx hb dX6_canBeWorked_28 (by decide) ?_
    exact J5 _ q5 _ _ _ hP hD hS (lv_sub hl [0, 1] rfl)
  · replace q5 := ifn q5 c5
    refine lv_aload_n hx hb dX6_canBeWorked_8 rfl (lv_at hl 0 rfl) ?_
    refine va_get (D := D) (ci := 6) (fs := vX6 ad F) (v := .int ((F 16))) (C := RX6) (T := TX6) (N := 12) hx hb hts n_6 hown hK hP 9 wCg9 rfl 9 (by decide) k_0 (fun _ h9 => h9) rfl dX6_canBeWorked_9 ?_
    refine lv_aload_n hx hb dX6_canBeWorked_12 rfl (lv_at hl 0 rfl) ?_
    refine va_get (D := D) (ci := 6) (fs := vX6 ad F) (v := .int ((F 17))) (C := RX6) (T := TX6) (N := 12) hx hb hts n_6 hown hK hP 9 wCg9 rfl 10 (by decide) k_2 (fun _ h9 => h9) rfl dX6_canBeWorked_13 ?_
    refine lv_ior hx hb dX6_canBeWorked_16 ?_
    refine lv_iload_n hx hb dX6_canBeWorked_17 rfl (lv_at hl 1 rfl) ?_
    obtain ⟨x18, h18, q5⟩ := bi1e q5
    refine callNI (host := "BellBook") (As := [.int (((F 16) ||| (F 17))), .int (a1)]) (rest := []) ⟨hx, hb, hml, hown, hts⟩ (c_X7_bit l D ad cA n F G ((F 16) ||| (F 17)) a1 h18) ⟨va_cnB 2 hts gX6_canBeWorked_X7_bit_n62 rfl rfl rfl hN.2.1 k_3 (by decide +kernel) ⟨Nat.le_of_ble_eq_true rfl, Nat.le_of_ble_eq_true rfl⟩, k_4, trivial⟩ hP hK hD hN hS hA rfl hl.1 rfl (Nat.le_of_ble_eq_true rfl) dX6_canBeWorked_18 ⟨Nat.zero_le _, Nat.zero_le _⟩ (fun H locs hP hD hS => ?_)
    refine lv_if_ne (tgt := 28) hx hb dX6_canBeWorked_21 (by decide) (fun c21 => ?_) (fun c21 => ?_)
    · replace q5 := ifn q5 c21
      refine lv_iconst (v := 0) hx hb dX6_canBeWorked_28 (by decide) ?_
      exact J5 _ q5 _ _ _ hP hD hS (lv_sub hl [0, 1] rfl)
    · replace q5 := ifp q5 c21
      refine lv_iconst (v := 1) hx hb dX6_canBeWorked_24 (by decide) ?_
      refine lv_goto (tgt := 29) hx hb dX6_canBeWorked_25 (by decide) ?_
      exact J5 _ q5 _ _ _ hP hD hS (lv_sub hl [0, 1] rfl)

def p_X6_dropTides (F : tF) (G : tG) : Option (Int32 × tF × tG) :=
  plet (F 19) (fun (x7 : Int32) => plet (upd F 19 0) (fun (F13 : tF) => plet (upd F13 18 0) (fun (F18 : tF) => some (x7, F18, G))))
set_option maxHeartbeats 4000000 in
set_option maxRecDepth 100000 in
theorem c_X6_dropTides (l : Launch) (D : va_G) (ad : Nat → Nat) (cA : ClassId) (n : Nat) (F : tF) (G : tG) {r : Int32} {F' : tF} {G' : tG} (h : p_X6_dropTides F G = some (r, F', G')) : CI l yX6_dropTides wsX6_dropTides ({ frames := 0, cells := 0, slots := 0, locals := 0 } : Room) D cA (wC ad cA F G) [.ref (ad 9)] r (wC ad cA F' G') := by
  rw [p_X6_dropTides] at h
  refine metIm (w := wC ad cA) (cc := cX6_dropTides) (maxL := 2) (by decide) rfl (Nat.le_of_ble_eq_true rfl) ?_
  intro p e s m args below meth c A ls Q hE hret
  obtain ⟨hx, hb, hts, hown, hml, hP, hK, hD, hN, hA, hl⟩ := hE
  have hown : s.vm.findClass RX6 = some m.cls := hown
  have hl : lv_has ls 2 [(0, .ref (ad 9))] := hl
  have hS : va_S A s.heap s.heap [] := va_S.rf
  have k_0 : (Cond.fieldLink RX6 31 "BellBook$Wreck" "tides" "LBellBook$Tides;").before args s = true := hts _ (List.mem_of_getElem? (i := 1) rfl)
  have n_6 : ∀ w ∈ u_ws RX6 TX6 12, w ∈ wsX6_dropTides := fun w hw => List.mem_cons_of_mem _ (List.mem_append_left _ (List.mem_append_right _ hw))
  have k_2 : (Cond.fieldLink RX6 74 "BellBook$Tides" "count" "I").before args s = true := hts _ (List.mem_of_getElem? (i := 2) rfl)
  have n_5 : ∀ w ∈ u_ws RX5 TX5 2, w ∈ wsX6_dropTides := fun w hw => List.mem_cons_of_mem _ (List.mem_append_right _ hw)
  have k_4 : (Cond.fieldLink RX6 52 "BellBook$Wreck" "planStands" "Z").before args s = true := hts _ (List.mem_of_getElem? (i := 3) rfl)
  refine lv_aload_n hx hb dX6_dropTides_0 rfl (lv_at hl 0 rfl) ?_
  refine va_get (D := D) (ci := 6) (fs := vX6 ad F) (v := .ref (ad 16)) (C := RX6) (T := TX6) (N := 12) hx hb hts n_6 hown hK hP 9 wCg9 rfl 6 (by decide) k_0 (fun _ h9 => h9) rfl dX6_dropTides_1 ?_
  refine va_get (D := D) (ci := 5) (fs := vX5 ad F) (v := .int ((F 19))) (C := RX5) (T := TX5) (N := 2) hx hb hts n_5 hown hK hP 16 wCg16 rfl 1 (by decide) k_2 (fun _ h9 => h9) rfl dX6_dropTides_4 ?_
  refine lv_topi (fun x7 ex7 => ?_)
  replace h := pl h ex7
  refine lv_istore_n (lv' := [(1, .int (x7)), (0, .ref (ad 9))]) hx hb dX6_dropTides_7 rfl hl (by decide) rfl (fun ls hl => ?_)
  refine lv_aload_n hx hb dX6_dropTides_8 rfl (lv_at hl 1 rfl) ?_
  refine va_get (D := D) (ci := 6) (fs := vX6 ad F) (v := .ref (ad 16)) (C := RX6) (T := TX6) (N := 12) hx hb hts n_6 hown hK hP 9 wCg9 rfl 6 (by decide) k_0 (fun _ h9 => h9) rfl dX6_dropTides_9 ?_
  refine lv_iconst (v := 0) hx hb dX6_dropTides_12 (by decide) ?_
  obtain ⟨F13, eF13⟩ : ∃ f : tF, f = upd F 19 0 := ⟨_, rfl⟩
  replace h := pl h eF13
  refine va_put (D := D) (ci := 5) (fs := vX5 ad F) (v := .int (0)) (ty := .int) (C := RX5) (T := TX5) (N := 2) hx hb hts n_5 tyX5 tyX5_ok nmX5 hown hK hP hD hS 16 wCg16 rfl 1 (by decide) k_2 (fun _ h9 => h9) rfl (tyX5_ok 1 (by decide)) rfl rfl (Nat.le_of_ble_eq_true rfl) dX6_dropTides_13 (fun H locs hP hD hS => ?_)
  rw [wCp19 eF13] at hP hD
  refine lv_aload_n hx hb dX6_dropTides_16 rfl (lv_at hl 1 rfl) ?_
  refine lv_iconst (v := 0) hx hb dX6_dropTides_17 (by decide) ?_
  obtain ⟨F18, eF18⟩ : ∃ f : tF, f = upd F13 18 0 := ⟨_, rfl⟩
  replace h := pl h eF18
  refine va_put (D := D) (ci := 6) (fs := vX6 ad F13) (v := .int (0)) (ty := .boolean) (C := RX6) (T := TX6) (N := 12) hx hb hts n_6 tyX6 tyX6_ok nmX6 hown hK hP hD hS 9 wCg9 rfl 11 (by decide) k_4 (fun _ h9 => h9) rfl (tyX6_ok 11 (by decide)) (by decide) (by decide) (Nat.le_of_ble_eq_true rfl) dX6_dropTides_18 (fun H locs hP hD hS => ?_)
  rw [wCp18 eF18] at hP hD
  refine lv_iload_n hx hb dX6_dropTides_21 rfl (lv_at hl 0 rfl) ?_
  exact hret _ _ _ _ _ _ _ dX6_dropTides_22 h hP hD hS

def p_X6_has (F : tF) (a1 : Int32) : Option (Int32) :=
  bi1 (p_X7_within a1 0 ((F 15) - 1)) (fun x8 => oguard (btB x8) (some x8))
set_option maxHeartbeats 4000000 in
set_option maxRecDepth 100000 in
theorem c_X6_has (l : Launch) (D : va_G) (ad : Nat → Nat) (cA : ClassId) (n : Nat) (F : tF) (G : tG) (a1 : Int32) {r : Int32} (h : p_X6_has F a1 = some r) : CI l yX6_has wsX6_has ({ frames := 1, cells := 0, slots := 0, locals := 22 } : Room) D cA (wC ad cA F G) [.ref (ad 9), .int (a1)] r (wC ad cA F G) := by
  rw [p_X6_has] at h
  refine metZr (w := wC ad cA) (cc := cX6_has) (maxL := 2) (by decide) rfl (Nat.le_of_ble_eq_true rfl) ?_
  intro p e s m args below meth c A ls Q hE hret
  obtain ⟨hx, hb, hts, hown, hml, hP, hK, hD, hN, hA, hl⟩ := hE
  have hown : s.vm.findClass RX6 = some m.cls := hown
  have hl : lv_has ls 2 [(0, .ref (ad 9)), (1, .int (a1))] := hl
  have hS : va_S A s.heap s.heap [] := va_S.rf
  have k_0 : (Cond.fieldLink RX6 42 "BellBook$Wreck" "count" "I").before args s = true := hts _ (List.mem_of_getElem? (i := 1) rfl)
  have n_6 : ∀ w ∈ u_ws RX6 TX6 12, w ∈ wsX6_has := fun w hw => List.mem_cons_of_mem _ (List.mem_append_right _ hw)
  have k_2 : (Cond.initialized RX7).before args s = true := hts _ (List.mem_of_getElem? (i := 3) rfl)
  have k_3 : (Cond.static yX7_within).before args s = true := hts _ (List.mem_of_getElem? (i := 2) rfl)
  refine lv_iload_n hx hb dX6_has_0 rfl (lv_at hl 1 rfl) ?_
  refine lv_iconst (v := 0) hx hb dX6_has_1 (by decide) ?_
  refine lv_aload_n hx hb dX6_has_2 rfl (lv_at hl 0 rfl) ?_
  refine va_get (D := D) (ci := 6) (fs := vX6 ad F) (v := .int ((F 15))) (C := RX6) (T := TX6) (N := 12) hx hb hts n_6 hown hK hP 9 wCg9 rfl 8 (by decide) k_0 (fun _ h9 => h9) rfl dX6_has_3 ?_
  refine lv_iconst (v := 1) hx hb dX6_has_6 (by decide) ?_
  refine lv_isub hx hb dX6_has_7 ?_
  obtain ⟨x8, h8, h⟩ := bi1e h
  refine callNI (host := "BellBook") (As := [.int (a1), .int (0), .int (((F 15) - 1))]) (rest := []) ⟨hx, hb, hml, hown, hts⟩ (c_X7_within l D ad cA n F G a1 0 ((F 15) - 1) h8) ⟨va_cnB 3 hts gX6_has_X7_within_n56 rfl rfl rfl hN.1 k_2 (by decide +kernel) ⟨Nat.le_of_ble_eq_true rfl, Nat.le_of_ble_eq_true rfl⟩, k_3, trivial⟩ hP hK hD hN hS hA rfl hl.1 rfl (Nat.le_of_ble_eq_true rfl) dX6_has_8 ⟨Nat.zero_le _, Nat.zero_le _⟩ (fun H locs hP hD hS => ?_)
  obtain ⟨g11, h⟩ := og h
  exact hret _ _ _ _ _ dX6_has_11 g11 h hP hD hS

def p_X6_layUnder (F : tF) (G : tG) (a1 : Int32) (a2 : Int32) (a3 : Int32) : Option (tF × tG) :=
  bi1 ((if a3 = 0 then oguard (inB a1 12) (some (((G 11 a1.toNatClampNeg) &&& ((1 <<< (a2 &&& 31)) ^^^ (-1))))) else oguard (inB a1 12) (some (((G 11 a1.toNatClampNeg) ||| (1 <<< (a2 &&& 31))))))) (fun (y6_0 : Int32) => oguard (inB a1 12) (plet (stG G 11 a1 y6_0) (fun (G34 : tG) => plet (upd F 18 0) (fun (F37 : tF) => some (F37, G34)))))
set_option maxHeartbeats 4000000 in
set_option maxRecDepth 100000 in
theorem c_X6_layUnder (l : Launch) (D : va_G) (ad : Nat → Nat) (cA : ClassId) (n : Nat) (F : tF) (G : tG) (a1 : Int32) (a2 : Int32) (a3 : Int32) {F' : tF} {G' : tG} (h : p_X6_layUnder F G a1 a2 a3 = some (F', G')) : CV l yX6_layUnder wsX6_layUnder ({ frames := 0, cells := 0, slots := 0, locals := 0 } : Room) D cA (wC ad cA F G) [.ref (ad 9), .int (a1), .int (a2), .int (a3)] (wC ad cA F' G') := by
  rw [p_X6_layUnder] at h
  refine metVm (w := wC ad cA) (cc := cX6_layUnder) (maxL := 4) (by decide) rfl (Nat.le_of_ble_eq_true rfl) ?_
  intro p e s m args below meth c A ls Q hE hret
  obtain ⟨hx, hb, hts, hown, hml, hP, hK, hD, hN, hA, hl⟩ := hE
  have hown : s.vm.findClass RX6 = some m.cls := hown
  have hl : lv_has ls 4 [(0, .ref (ad 9)), (1, .int (a1)), (2, .int (a2)), (3, .int (a3))] := hl
  have hS : va_S A s.heap s.heap [] := va_S.rf
  have k_0 : (Cond.fieldLink RX6 25 "BellBook$Wreck" "under" "[I").before args s = true := hts _ (List.mem_of_getElem? (i := 1) rfl)
  have n_6 : ∀ w ∈ u_ws RX6 TX6 12, w ∈ wsX6_layUnder := fun w hw => List.mem_cons_of_mem _ (List.mem_append_right _ hw)
  have k_2 : (Cond.fieldLink RX6 52 "BellBook$Wreck" "planStands" "Z").before args s = true := hts _ (List.mem_of_getElem? (i := 2) rfl)
  refine lv_aload_n hx hb dX6_layUnder_0 rfl (lv_at hl 0 rfl) ?_
  refine va_get (D := D) (ci := 6) (fs := vX6 ad F) (v := .ref (ad 15)) (C := RX6) (T := TX6) (N := 12) hx hb hts n_6 hown hK hP 9 wCg9 rfl 5 (by decide) k_0 (fun _ h9 => h9) rfl dX6_layUnder_1 ?_
  refine lv_iload_n hx hb dX6_layUnder_4 rfl (lv_at hl 1 rfl) ?_
  refine lv_iload_n hx hb dX6_layUnder_5 rfl (lv_at hl 3 rfl) ?_
  obtain ⟨y6_0, q6, h⟩ := bi1e h
  have J6 : ∀ (wy6_0 : Int32), some (wy6_0) = some (y6_0) → ∀ (H : Heap) (locs : List Loc) (ls : Array Slot), va_P D vwCl (wC ad cA F G) H → va_D A (wC ad cA F G) → va_S A s.heap H locs → lv_has ls 4 [(0, .ref (ad 9)), (1, .int (a1)), (2, .int (a2)), (3, .int (a3))] → W p l e ({ frames := 0, cells := 0, slots := 0, locals := 0 } : Room) s m args below meth c H locs 0 0 Q (F0 m 34 ls [.int (wy6_0), .int (a1), .ref (ad 15)]) := by
    intro wy6_0 e9 H locs ls hP hD hS hl
    cases e9
    obtain ⟨g34, h⟩ := og h
    obtain ⟨G34, eG34⟩ : ∃ z : tG, z = stG G 11 a1 y6_0 := ⟨_, rfl⟩
    replace h := pl h eG34
    refine va_iast (D := D) hx hb hK hP hD hS 15 0 wCg15 rfl (inB_in g34) dX6_layUnder_34 (fun H locs hP hD hS => ?_)
    rw [wCa11 eG34] at hP hD
    refine lv_aload_n hx hb dX6_layUnder_35 rfl (lv_at hl 0 rfl) ?_
    refine lv_iconst (v := 0) hx hb dX6_layUnder_36 (by decide) ?_
    obtain ⟨F37, eF37⟩ : ∃ f : tF, f = upd F 18 0 := ⟨_, rfl⟩
    replace h := pl h eF37
    refine va_put (D := D) (ci := 6) (fs := vX6 ad F) (v := .int (0)) (ty := .boolean) (C := RX6) (T := TX6) (N := 12) hx hb hts n_6 tyX6 tyX6_ok nmX6 hown hK hP hD hS 9 wCg9 rfl 11 (by decide) k_2 (fun _ h9 => h9) rfl (tyX6_ok 11 (by decide)) (by decide) (by decide) (Nat.le_of_ble_eq_true rfl) dX6_layUnder_37 (fun H locs hP hD hS => ?_)
    rw [wCp18 eF37] at hP hD
    exact hret _ _ _ _ _ _ dX6_layUnder_40 h hP hD hS
  refine lv_if_eq (tgt := 22) hx hb dX6_layUnder_6 (by decide) (fun c6 => ?_) (fun c6 => ?_)
  · replace q6 := ifp q6 c6
    refine lv_aload_n hx hb dX6_layUnder_22 rfl (lv_at hl 0 rfl) ?_
    refine va_get (D := D) (ci := 6) (fs := vX6 ad F) (v := .ref (ad 15)) (C := RX6) (T := TX6) (N := 12) hx hb hts n_6 hown hK hP 9 wCg9 rfl 5 (by decide) k_0 (fun _ h9 => h9) rfl dX6_layUnder_23 ?_
    refine lv_iload_n hx hb dX6_layUnder_26 rfl (lv_at hl 1 rfl) ?_
    obtain ⟨g27, q6⟩ := og q6
    refine va_iald (D := D) hx hb hK hP 15 0 wCg15 rfl (inB_in g27) dX6_layUnder_27 ?_
    refine lv_iconst (v := 1) hx hb dX6_layUnder_28 (by decide) ?_
    refine lv_iload_n hx hb dX6_layUnder_29 rfl (lv_at hl 2 rfl) ?_
    refine lv_ishl hx hb dX6_layUnder_30 ?_
    refine lv_iconst (v := (-1)) hx hb dX6_layUnder_31 (by decide) ?_
    refine lv_ixor hx hb dX6_layUnder_32 ?_
    refine lv_iand hx hb dX6_layUnder_33 ?_
    exact J6 _ q6 _ _ _ hP hD hS (lv_sub hl [0, 1, 2, 3] rfl)
  · replace q6 := ifn q6 c6
    refine lv_aload_n hx hb dX6_layUnder_9 rfl (lv_at hl 0 rfl) ?_
    refine va_get (D := D) (ci := 6) (fs := vX6 ad F) (v := .ref (ad 15)) (C := RX6) (T := TX6) (N := 12) hx hb hts n_6 hown hK hP 9 wCg9 rfl 5 (by decide) k_0 (fun _ h9 => h9) rfl dX6_layUnder_10 ?_
    refine lv_iload_n hx hb dX6_layUnder_13 rfl (lv_at hl 1 rfl) ?_
    obtain ⟨g14, q6⟩ := og q6
    refine va_iald (D := D) hx hb hK hP 15 0 wCg15 rfl (inB_in g14) dX6_layUnder_14 ?_
    refine lv_iconst (v := 1) hx hb dX6_layUnder_15 (by decide) ?_
    refine lv_iload_n hx hb dX6_layUnder_16 rfl (lv_at hl 2 rfl) ?_
    refine lv_ishl hx hb dX6_layUnder_17 ?_
    refine lv_ior hx hb dX6_layUnder_18 ?_
    refine lv_goto (tgt := 34) hx hb dX6_layUnder_19 (by decide) ?_
    exact J6 _ q6 _ _ _ hP hD hS (lv_sub hl [0, 1, 2, 3] rfl)

def p_X6_liesBelow_L19 (F : tF) (G : tG) (K19 : Int32 → Int32 → Option (Int32)) : Nat → Int32 → Int32 → Option (Int32)
  | 0, _, _ => none
  | k19 + 1, z19_0, z19_1 => (if (F 15) ≤ z19_0 then K19 z19_0 z19_1 else bi1 (p_X7_bit z19_1 z19_0) (fun x31 => bi1 ((if x31 = 1 then oguard (inB z19_0 12) (plet (z19_1 ||| (G 11 z19_0.toNatClampNeg)) (fun (x47 : Int32) => some (x47))) else some (z19_1))) (fun (y35_0 : Int32) => plet (z19_0 + 1) (fun (x48 : Int32) => p_X6_liesBelow_L19 F G K19 k19 x48 y35_0))))
theorem p_X6_liesBelow_L19_k {F : tF} {G : tG} {K0 : Int32 → Int32 → Option (Int32)} {k : Nat} {z19_0 : Int32} {z19_1 : Int32} {x : Int32} (h : p_X6_liesBelow_L19 F G K0 k z19_0 z19_1 = some x) : ∃ K, K = K0 ∧ p_X6_liesBelow_L19 F G K k z19_0 z19_1 = some x := ⟨K0, rfl, h⟩
def p_X6_liesBelow_L7 (n : Nat) (F : tF) (G : tG) (K7 : Int32 → Int32 → Option (Int32)) : Nat → Int32 → Int32 → Option (Int32)
  | 0, _, _ => none
  | k7 + 1, z7_0, z7_1 => (if (F 15) ≤ z7_0 then K7 z7_0 z7_1 else p_X6_liesBelow_L19 F G (fun (z19_0 : Int32) (z19_1 : Int32) => plet (z7_0 + 1) (fun (x54 : Int32) => p_X6_liesBelow_L7 n F G K7 k7 x54 z19_1)) n 0 z7_1)
theorem p_X6_liesBelow_L7_k {n : Nat} {F : tF} {G : tG} {K0 : Int32 → Int32 → Option (Int32)} {k : Nat} {z7_0 : Int32} {z7_1 : Int32} {x : Int32} (h : p_X6_liesBelow_L7 n F G K0 k z7_0 z7_1 = some x) : ∃ K, K = K0 ∧ p_X6_liesBelow_L7 n F G K k z7_0 z7_1 = some x := ⟨K0, rfl, h⟩
def p_X6_liesBelow (n : Nat) (F : tF) (G : tG) (a1 : Int32) (a2 : Int32) : Option (Int32) :=
  plet (1 <<< (a1 &&& 31)) (fun (x3 : Int32) => p_X6_liesBelow_L7 n F G (fun (z7_0 : Int32) (z7_1 : Int32) => bi1 (p_X7_bit z7_1 a2) (fun x62 => bi1 ((if x62 = 1 then some (1) else some (0))) (fun (y66_0 : Int32) => oguard (btB y66_0) (some y66_0)))) n 0 x3)
set_option maxHeartbeats 4000000 in
set_option maxRecDepth 100000 in
theorem c_X6_liesBelow (l : Launch) (D : va_G) (ad : Nat → Nat) (cA : ClassId) (n : Nat) (F : tF) (G : tG) (a1 : Int32) (a2 : Int32) {r : Int32} (h : p_X6_liesBelow n F G a1 a2 = some r) : CI l yX6_liesBelow wsX6_liesBelow ({ frames := 1, cells := 0, slots := 0, locals := 21 } : Room) D cA (wC ad cA F G) [.ref (ad 9), .int (a1), .int (a2)] r (wC ad cA F G) := by
  rw [p_X6_liesBelow] at h
  refine metZr (w := wC ad cA) (cc := cX6_liesBelow) (maxL := 6) (by decide) rfl (Nat.le_of_ble_eq_true rfl) ?_
  intro p e s m args below meth c A ls Q hE hret
  obtain ⟨hx, hb, hts, hown, hml, hP, hK, hD, hN, hA, hl⟩ := hE
  have hown : s.vm.findClass RX6 = some m.cls := hown
  have hl : lv_has ls 6 [(0, .ref (ad 9)), (1, .int (a1)), (2, .int (a2))] := hl
  have hS : va_S A s.heap s.heap [] := va_S.rf
  have k_0 : (Cond.fieldLink RX6 42 "BellBook$Wreck" "count" "I").before args s = true := hts _ (List.mem_of_getElem? (i := 1) rfl)
  have n_6 : ∀ w ∈ u_ws RX6 TX6 12, w ∈ wsX6_liesBelow := fun w hw => List.mem_cons_of_mem _ (List.mem_append_right _ hw)
  have k_2 : (Cond.initialized RX7).before args s = true := hts _ (List.mem_of_getElem? (i := 4) rfl)
  have k_3 : (Cond.static yX7_bit).before args s = true := hts _ (List.mem_of_getElem? (i := 3) rfl)
  have k_4 : (Cond.fieldLink RX6 25 "BellBook$Wreck" "under" "[I").before args s = true := hts _ (List.mem_of_getElem? (i := 2) rfl)
  refine lv_iconst (v := 1) hx hb dX6_liesBelow_0 (by decide) ?_
  refine lv_iload_n hx hb dX6_liesBelow_1 rfl (lv_at hl 1 rfl) ?_
  refine lv_ishl hx hb dX6_liesBelow_2 ?_
  refine lv_topi (fun x3 ex3 => ?_)
  replace h := pl h ex3
  refine lv_istore_n (lv' := [(3, .int (x3)), (0, .ref (ad 9)), (1, .int (a1)), (2, .int (a2))]) hx hb dX6_liesBelow_3 rfl hl (by decide) rfl (fun ls hl => ?_)
  refine lv_iconst (v := 0) hx hb dX6_liesBelow_4 (by decide) ?_
  refine lv_istore (lv' := [(4, .int (0)), (3, .int (x3)), (0, .ref (ad 9)), (1, .int (a1)), (2, .int (a2))]) hx hb dX6_liesBelow_5 hl (by decide) rfl (fun ls hl => ?_)
  obtain ⟨K7, eK7, h⟩ := p_X6_liesBelow_L7_k h
  have JE7 : ∀ (z7_0 : Int32) (z7_1 : Int32) (H : Heap) (locs : List Loc) (ls : Array Slot), K7 z7_0 z7_1 = some r → va_P D vwCl (wC ad cA F G) H → va_D A (wC ad cA F G) → va_S A s.heap H locs → lv_has ls 6 [(4, .int (z7_0)), (3, .int (z7_1)), (0, .ref (ad 9)), (1, .int (a1)), (2, .int (a2))] → W p l e ({ frames := 1, cells := 0, slots := 0, locals := 21 } : Room) s m args below meth c H locs 0 0 Q (F0 m 60 ls []) := by
    intro z7_0 z7_1 H locs ls h hP hD hS hl
    rw [eK7] at h
    refine lv_iload_n hx hb dX6_liesBelow_60 rfl (lv_at hl 1 rfl) ?_
    refine lv_iload_n hx hb dX6_liesBelow_61 rfl (lv_at hl 4 rfl) ?_
    obtain ⟨x62, h62, h⟩ := bi1e h
    refine callNI (host := "BellBook") (As := [.int (z7_1), .int (a2)]) (rest := []) ⟨hx, hb, hml, hown, hts⟩ (c_X7_bit l D ad cA n F G z7_1 a2 h62) ⟨va_cnB 2 hts gX6_liesBelow_X7_bit_n62 rfl rfl rfl hN.2.1 k_2 (by decide +kernel) ⟨Nat.le_of_ble_eq_true rfl, Nat.le_of_ble_eq_true rfl⟩, k_3, trivial⟩ hP hK hD hN hS hA rfl hl.1 rfl (Nat.le_of_ble_eq_true rfl) dX6_liesBelow_62 ⟨Nat.zero_le _, Nat.zero_le _⟩ (fun H locs hP hD hS => ?_)
    refine lv_iconst (v := 1) hx hb dX6_liesBelow_65 (by decide) ?_
    obtain ⟨y66_0, q66, h⟩ := bi1e h
    have J66 : ∀ (wy66_0 : Int32), some (wy66_0) = some (y66_0) → ∀ (H : Heap) (locs : List Loc) (ls : Array Slot), va_P D vwCl (wC ad cA F G) H → va_D A (wC ad cA F G) → va_S A s.heap H locs → lv_has ls 6 [(4, .int (z7_0)), (3, .int (z7_1)), (0, .ref (ad 9)), (1, .int (a1)), (2, .int (a2))] → W p l e ({ frames := 1, cells := 0, slots := 0, locals := 21 } : Room) s m args below meth c H locs 0 0 Q (F0 m 74 ls [.int (wy66_0)]) := by
      intro wy66_0 e9 H locs ls hP hD hS hl
      cases e9
      obtain ⟨g74, h⟩ := og h
      exact hret _ _ _ _ _ dX6_liesBelow_74 g74 h hP hD hS
    refine lv_icmp_ne (tgt := 73) hx hb dX6_liesBelow_66 (by decide) (fun c66 => ?_) (fun c66 => ?_)
    · replace q66 := ifn q66 c66
      refine lv_iconst (v := 0) hx hb dX6_liesBelow_73 (by decide) ?_
      exact J66 _ q66 _ _ _ hP hD hS (lv_sub hl [0, 1, 2, 3, 4] rfl)
    · replace q66 := ifp q66 c66
      refine lv_iconst (v := 1) hx hb dX6_liesBelow_69 (by decide) ?_
      refine lv_goto (tgt := 74) hx hb dX6_liesBelow_70 (by decide) ?_
      exact J66 _ q66 _ _ _ hP hD hS (lv_sub hl [0, 1, 2, 3, 4] rfl)
  have LL7 : ∀ (k : Nat) (z7_0 : Int32) (z7_1 : Int32) (H : Heap) (locs : List Loc) (ls : Array Slot), p_X6_liesBelow_L7 n F G K7 k z7_0 z7_1 = some r → va_P D vwCl (wC ad cA F G) H → va_D A (wC ad cA F G) → va_S A s.heap H locs → lv_has ls 6 [(4, .int (z7_0)), (3, .int (z7_1)), (0, .ref (ad 9)), (1, .int (a1)), (2, .int (a2))] → W p l e ({ frames := 1, cells := 0, slots := 0, locals := 21 } : Room) s m args below meth c H locs 0 0 Q (F0 m 7 ls []) := by
    intro k
    induction k with
    | zero =>
      intro z7_0 z7_1 H locs ls h hP hD hS hl
      rw [p_X6_liesBelow_L7] at h
      cases h
    | succ k7 ih7 =>
      intro z7_0 z7_1 H locs ls h hP hD hS hl
      rw [p_X6_liesBelow_L7] at h
      refine lv_iload hx hb dX6_liesBelow_7 (lv_at hl 0 rfl) ?_
      refine lv_aload_n hx hb dX6_liesBelow_9 rfl (lv_at hl 2 rfl) ?_
      refine va_get (D := D) (ci := 6) (fs := vX6 ad F) (v := .int ((F 15))) (C := RX6) (T := TX6) (N := 12) hx hb hts n_6 hown hK hP 9 wCg9 rfl 8 (by decide) k_0 (fun _ h9 => h9) rfl dX6_liesBelow_10 ?_
      refine lv_icmp_ge (tgt := 60) hx hb dX6_liesBelow_13 (by decide) (fun c13 => ?_) (fun c13 => ?_)
      · replace h := ifp h c13
        exact JE7 _ _ _ _ _ h hP hD hS (lv_sub hl [0, 1, 2, 3, 4] rfl)
      · replace h := ifn h c13
        refine lv_iconst (v := 0) hx hb dX6_liesBelow_16 (by decide) ?_
        refine lv_istore (lv' := [(5, .int (0)), (4, .int (z7_0)), (3, .int (z7_1)), (0, .ref (ad 9)), (1, .int (a1)), (2, .int (a2))]) hx hb dX6_liesBelow_17 hl (by decide) rfl (fun ls hl => ?_)
        obtain ⟨K19, eK19, h⟩ := p_X6_liesBelow_L19_k h
        have JE19 : ∀ (z19_0 : Int32) (z19_1 : Int32) (H : Heap) (locs : List Loc) (ls : Array Slot), K19 z19_0 z19_1 = some r → va_P D vwCl (wC ad cA F G) H → va_D A (wC ad cA F G) → va_S A s.heap H locs → lv_has ls 6 [(5, .int (z19_0)), (4, .int (z7_0)), (3, .int (z19_1)), (0, .ref (ad 9)), (1, .int (a1)), (2, .int (a2))] → W p l e ({ frames := 1, cells := 0, slots := 0, locals := 21 } : Room) s m args below meth c H locs 0 0 Q (F0 m 54 ls []) := by
          intro z19_0 z19_1 H locs ls h hP hD hS hl
          rw [eK19] at h
          obtain ⟨x54, ex54⟩ : ∃ z : Int32, z = (z7_0 + 1) := ⟨_, rfl⟩
          replace h := pl h ex54
          refine lv_iinc (v := x54) (lv' := [(4, .int (x54)), (5, .int (z19_0)), (3, .int (z19_1)), (0, .ref (ad 9)), (1, .int (a1)), (2, .int (a2))]) hx hb dX6_liesBelow_54 hl (k := 1) rfl (by rw [ex54]; rfl) (by decide) rfl (fun ls hl => ?_)
          refine lv_goto (tgt := 7) hx hb dX6_liesBelow_57 (by decide) ?_
          exact ih7 _ _ _ _ _ h hP hD hS (lv_sub hl [0, 2, 3, 4, 5] rfl)
        have LL19 : ∀ (k : Nat) (z19_0 : Int32) (z19_1 : Int32) (H : Heap) (locs : List Loc) (ls : Array Slot), p_X6_liesBelow_L19 F G K19 k z19_0 z19_1 = some r → va_P D vwCl (wC ad cA F G) H → va_D A (wC ad cA F G) → va_S A s.heap H locs → lv_has ls 6 [(5, .int (z19_0)), (4, .int (z7_0)), (3, .int (z19_1)), (0, .ref (ad 9)), (1, .int (a1)), (2, .int (a2))] → W p l e ({ frames := 1, cells := 0, slots := 0, locals := 21 } : Room) s m args below meth c H locs 0 0 Q (F0 m 19 ls []) := by
          intro k
          induction k with
          | zero =>
            intro z19_0 z19_1 H locs ls h hP hD hS hl
            rw [p_X6_liesBelow_L19] at h
            cases h
          | succ k19 ih19 =>
            intro z19_0 z19_1 H locs ls h hP hD hS hl
            rw [p_X6_liesBelow_L19] at h
            refine lv_iload hx hb dX6_liesBelow_19 (lv_at hl 0 rfl) ?_
            refine lv_aload_n hx hb dX6_liesBelow_21 rfl (lv_at hl 3 rfl) ?_
            refine va_get (D := D) (ci := 6) (fs := vX6 ad F) (v := .int ((F 15))) (C := RX6) (T := TX6) (N := 12) hx hb hts n_6 hown hK hP 9 wCg9 rfl 8 (by decide) k_0 (fun _ h9 => h9) rfl dX6_liesBelow_22 ?_
            refine lv_icmp_ge (tgt := 54) hx hb dX6_liesBelow_25 (by decide) (fun c25 => ?_) (fun c25 => ?_)
            · replace h := ifp h c25
              exact JE19 _ _ _ _ _ h hP hD hS (lv_sub hl [0, 1, 2, 3, 4, 5] rfl)
            · replace h := ifn h c25
              refine lv_iload_n hx hb dX6_liesBelow_28 rfl (lv_at hl 2 rfl) ?_
              refine lv_iload hx hb dX6_liesBelow_29 (lv_at hl 0 rfl) ?_
              obtain ⟨x31, h31, h⟩ := bi1e h
              refine callNI (host := "BellBook") (As := [.int (z19_1), .int (z19_0)]) (rest := []) ⟨hx, hb, hml, hown, hts⟩ (c_X7_bit l D ad cA n F G z19_1 z19_0 h31) ⟨va_cnB 2 hts gX6_liesBelow_X7_bit_n62 rfl rfl rfl hN.2.1 k_2 (by decide +kernel) ⟨Nat.le_of_ble_eq_true rfl, Nat.le_of_ble_eq_true rfl⟩, k_3, trivial⟩ hP hK hD hN hS hA rfl hl.1 rfl (Nat.le_of_ble_eq_true rfl) dX6_liesBelow_31 ⟨Nat.zero_le _, Nat.zero_le _⟩ (fun H locs hP hD hS => ?_)
              refine lv_iconst (v := 1) hx hb dX6_liesBelow_34 (by decide) ?_
              obtain ⟨y35_0, q35, h⟩ := bi1e h
              have J35 : ∀ (wy35_0 : Int32), some (wy35_0) = some (y35_0) → ∀ (H : Heap) (locs : List Loc) (ls : Array Slot), va_P D vwCl (wC ad cA F G) H → va_D A (wC ad cA F G) → va_S A s.heap H locs → lv_has ls 6 [(5, .int (z19_0)), (4, .int (z7_0)), (3, .int (wy35_0)), (0, .ref (ad 9)), (1, .int (a1)), (2, .int (a2))] → W p l e ({ frames := 1, cells := 0, slots := 0, locals := 21 } : Room) s m args below meth c H locs 0 0 Q (F0 m 48 ls []) := by
                intro wy35_0 e9 H locs ls hP hD hS hl
                cases e9
                obtain ⟨x48, ex48⟩ : ∃ z : Int32, z = (z19_0 + 1) := ⟨_, rfl⟩
                replace h := pl h ex48
                refine lv_iinc (v := x48) (lv' := [(5, .int (x48)), (4, .int (z7_0)), (3, .int (y35_0)), (0, .ref (ad 9)), (1, .int (a1)), (2, .int (a2))]) hx hb dX6_liesBelow_48 hl (k := 0) rfl (by rw [ex48]; rfl) (by decide) rfl (fun ls hl => ?_)
                refine lv_goto (tgt := 19) hx hb dX6_liesBelow_51 (by decide) ?_
                exact ih19 _ _ _ _ _ h hP hD hS (lv_sub hl [0, 1, 2, 3, 4, 5] rfl)
              refine lv_icmp_ne (tgt := 48) hx hb dX6_liesBelow_35 (by decide) (fun c35 => ?_) (fun c35 => ?_)
              · replace q35 := ifn q35 c35
                exact J35 _ q35 _ _ _ hP hD hS (lv_sub hl [0, 1, 2, 3, 4, 5] rfl)
              · replace q35 := ifp q35 c35
                refine lv_iload_n hx hb dX6_liesBelow_38 rfl (lv_at hl 2 rfl) ?_
                refine lv_aload_n hx hb dX6_liesBelow_39 rfl (lv_at hl 3 rfl) ?_
                refine va_get (D := D) (ci := 6) (fs := vX6 ad F) (v := .ref (ad 15)) (C := RX6) (T := TX6) (N := 12) hx hb hts n_6 hown hK hP 9 wCg9 rfl 5 (by decide) k_4 (fun _ h9 => h9) rfl dX6_liesBelow_40 ?_
                refine lv_iload hx hb dX6_liesBelow_43 (lv_at hl 0 rfl) ?_
                obtain ⟨g45, q35⟩ := og q35
                refine va_iald (D := D) hx hb hK hP 15 0 wCg15 rfl (inB_in g45) dX6_liesBelow_45 ?_
                refine lv_ior hx hb dX6_liesBelow_46 ?_
                refine lv_topi (fun x47 ex47 => ?_)
                replace q35 := pl q35 ex47
                refine lv_istore_n (lv' := [(3, .int (x47)), (5, .int (z19_0)), (4, .int (z7_0)), (0, .ref (ad 9)), (1, .int (a1)), (2, .int (a2))]) hx hb dX6_liesBelow_47 rfl hl (by decide) rfl (fun ls hl => ?_)
                exact J35 _ q35 _ _ _ hP hD hS (lv_sub hl [1, 2, 0, 3, 4, 5] rfl)
        exact LL19 n 0 z7_1 _ _ _ h hP hD hS (lv_sub hl [0, 1, 2, 3, 4, 5] rfl)
  exact LL7 n 0 x3 _ _ _ h hP hD hS (lv_sub hl [0, 1, 2, 3, 4] rfl)

def p_X6_markTangled (F : tF) (G : tG) (a1 : Int32) (a2 : Int32) : Option (tF × tG) :=
  bi1 ((if a2 = 0 then some (((F 17) &&& ((1 <<< (a1 &&& 31)) ^^^ (-1)))) else some (((F 17) ||| (1 <<< (a1 &&& 31)))))) (fun (y2_0 : Int32) => plet (upd F 17 y2_0) (fun (F26 : tF) => plet (upd F26 18 0) (fun (F31 : tF) => some (F31, G))))
set_option maxHeartbeats 4000000 in
set_option maxRecDepth 100000 in
theorem c_X6_markTangled (l : Launch) (D : va_G) (ad : Nat → Nat) (cA : ClassId) (n : Nat) (F : tF) (G : tG) (a1 : Int32) (a2 : Int32) {F' : tF} {G' : tG} (h : p_X6_markTangled F G a1 a2 = some (F', G')) : CV l yX6_markTangled wsX6_markTangled ({ frames := 0, cells := 0, slots := 0, locals := 0 } : Room) D cA (wC ad cA F G) [.ref (ad 9), .int (a1), .int (a2)] (wC ad cA F' G') := by
  rw [p_X6_markTangled] at h
  refine metVm (w := wC ad cA) (cc := cX6_markTangled) (maxL := 3) (by decide) rfl (Nat.le_of_ble_eq_true rfl) ?_
  intro p e s m args below meth c A ls Q hE hret
  obtain ⟨hx, hb, hts, hown, hml, hP, hK, hD, hN, hA, hl⟩ := hE
  have hown : s.vm.findClass RX6 = some m.cls := hown
  have hl : lv_has ls 3 [(0, .ref (ad 9)), (1, .int (a1)), (2, .int (a2))] := hl
  have hS : va_S A s.heap s.heap [] := va_S.rf
  have k_0 : (Cond.fieldLink RX6 49 "BellBook$Wreck" "tangled" "I").before args s = true := hts _ (List.mem_of_getElem? (i := 1) rfl)
  have n_6 : ∀ w ∈ u_ws RX6 TX6 12, w ∈ wsX6_markTangled := fun w hw => List.mem_cons_of_mem _ (List.mem_append_right _ hw)
  have k_2 : (Cond.fieldLink RX6 52 "BellBook$Wreck" "planStands" "Z").before args s = true := hts _ (List.mem_of_getElem? (i := 2) rfl)
  refine lv_aload_n hx hb dX6_markTangled_0 rfl (lv_at hl 0 rfl) ?_
  refine lv_iload_n hx hb dX6_markTangled_1 rfl (lv_at hl 2 rfl) ?_
  obtain ⟨y2_0, q2, h⟩ := bi1e h
  have J2 : ∀ (wy2_0 : Int32), some (wy2_0) = some (y2_0) → ∀ (H : Heap) (locs : List Loc) (ls : Array Slot), va_P D vwCl (wC ad cA F G) H → va_D A (wC ad cA F G) → va_S A s.heap H locs → lv_has ls 3 [(0, .ref (ad 9)), (1, .int (a1)), (2, .int (a2))] → W p l e ({ frames := 0, cells := 0, slots := 0, locals := 0 } : Room) s m args below meth c H locs 0 0 Q (F0 m 26 ls [.int (wy2_0), .ref (ad 9)]) := by
    intro wy2_0 e9 H locs ls hP hD hS hl
    cases e9
    obtain ⟨F26, eF26⟩ : ∃ f : tF, f = upd F 17 y2_0 := ⟨_, rfl⟩
    replace h := pl h eF26
    refine va_put (D := D) (ci := 6) (fs := vX6 ad F) (v := .int (y2_0)) (ty := .int) (C := RX6) (T := TX6) (N := 12) hx hb hts n_6 tyX6 tyX6_ok nmX6 hown hK hP hD hS 9 wCg9 rfl 10 (by decide) k_0 (fun _ h9 => h9) rfl (tyX6_ok 10 (by decide)) rfl rfl (Nat.le_of_ble_eq_true rfl) dX6_markTangled_26 (fun H locs hP hD hS => ?_)
    rw [wCp17 eF26] at hP hD
    refine lv_aload_n hx hb dX6_markTangled_29 rfl (lv_at hl 0 rfl) ?_
    refine lv_iconst (v := 0) hx hb dX6_markTangled_30 (by decide) ?_
    obtain ⟨F31, eF31⟩ : ∃ f : tF, f = upd F26 18 0 := ⟨_, rfl⟩
    replace h := pl h eF31
    refine va_put (D := D) (ci := 6) (fs := vX6 ad F26) (v := .int (0)) (ty := .boolean) (C := RX6) (T := TX6) (N := 12) hx hb hts n_6 tyX6 tyX6_ok nmX6 hown hK hP hD hS 9 wCg9 rfl 11 (by decide) k_2 (fun _ h9 => h9) rfl (tyX6_ok 11 (by decide)) (by decide) (by decide) (Nat.le_of_ble_eq_true rfl) dX6_markTangled_31 (fun H locs hP hD hS => ?_)
    rw [wCp18 eF31] at hP hD
    exact hret _ _ _ _ _ _ dX6_markTangled_34 h hP hD hS
  refine lv_if_eq (tgt := 16) hx hb dX6_markTangled_2 (by decide) (fun c2 => ?_) (fun c2 => ?_)
  · replace q2 := ifp q2 c2
    refine lv_aload_n hx hb dX6_markTangled_16 rfl (lv_at hl 0 rfl) ?_
    refine va_get (D := D) (ci := 6) (fs := vX6 ad F) (v := .int ((F 17))) (C := RX6) (T := TX6) (N := 12) hx hb hts n_6 hown hK hP 9 wCg9 rfl 10 (by decide) k_0 (fun _ h9 => h9) rfl dX6_markTangled_17 ?_
    refine lv_iconst (v := 1) hx hb dX6_markTangled_20 (by decide) ?_
    refine lv_iload_n hx hb dX6_markTangled_21 rfl (lv_at hl 1 rfl) ?_
    refine lv_ishl hx hb dX6_markTangled_22 ?_
    refine lv_iconst (v := (-1)) hx hb dX6_markTangled_23 (by decide) ?_
    refine lv_ixor hx hb dX6_markTangled_24 ?_
    refine lv_iand hx hb dX6_markTangled_25 ?_
    exact J2 _ q2 _ _ _ hP hD hS (lv_sub hl [0, 1, 2] rfl)
  · replace q2 := ifn q2 c2
    refine lv_aload_n hx hb dX6_markTangled_5 rfl (lv_at hl 0 rfl) ?_
    refine va_get (D := D) (ci := 6) (fs := vX6 ad F) (v := .int ((F 17))) (C := RX6) (T := TX6) (N := 12) hx hb hts n_6 hown hK hP 9 wCg9 rfl 10 (by decide) k_0 (fun _ h9 => h9) rfl dX6_markTangled_6 ?_
    refine lv_iconst (v := 1) hx hb dX6_markTangled_9 (by decide) ?_
    refine lv_iload_n hx hb dX6_markTangled_10 rfl (lv_at hl 1 rfl) ?_
    refine lv_ishl hx hb dX6_markTangled_11 ?_
    refine lv_ior hx hb dX6_markTangled_12 ?_
    refine lv_goto (tgt := 26) hx hb dX6_markTangled_13 (by decide) ?_
    exact J2 _ q2 _ _ _ hP hD hS (lv_sub hl [0, 1, 2] rfl)

def p_X6_raisedWorth_L4 (F : tF) (G : tG) (K4 : Int32 → Int32 → Option (Int32)) : Nat → Int32 → Int32 → Option (Int32)
  | 0, _, _ => none
  | k4 + 1, z4_0, z4_1 => (if (F 15) ≤ z4_0 then K4 z4_0 z4_1 else bi1 (p_X7_bit (F 16) z4_0) (fun x18 => oguard (inB z4_0 12) (plet (z4_1 + (x18 * (G 7 z4_0.toNatClampNeg))) (fun (x29 : Int32) => plet (z4_0 + 1) (fun (x30 : Int32) => p_X6_raisedWorth_L4 F G K4 k4 x30 x29)))))
theorem p_X6_raisedWorth_L4_k {F : tF} {G : tG} {K0 : Int32 → Int32 → Option (Int32)} {k : Nat} {z4_0 : Int32} {z4_1 : Int32} {x : Int32} (h : p_X6_raisedWorth_L4 F G K0 k z4_0 z4_1 = some x) : ∃ K, K = K0 ∧ p_X6_raisedWorth_L4 F G K k z4_0 z4_1 = some x := ⟨K0, rfl, h⟩
def p_X6_raisedWorth (n : Nat) (F : tF) (G : tG) : Option (Int32) :=
  p_X6_raisedWorth_L4 F G (fun (z4_0 : Int32) (z4_1 : Int32) => some z4_1) n 0 0
set_option maxHeartbeats 4000000 in
set_option maxRecDepth 100000 in
theorem c_X6_raisedWorth (l : Launch) (D : va_G) (ad : Nat → Nat) (cA : ClassId) (n : Nat) (F : tF) (G : tG) {r : Int32} (h : p_X6_raisedWorth n F G = some r) : CI l yX6_raisedWorth wsX6_raisedWorth ({ frames := 1, cells := 0, slots := 0, locals := 21 } : Room) D cA (wC ad cA F G) [.ref (ad 9)] r (wC ad cA F G) := by
  rw [p_X6_raisedWorth] at h
  refine metIr (w := wC ad cA) (cc := cX6_raisedWorth) (maxL := 3) (by decide) rfl (Nat.le_of_ble_eq_true rfl) ?_
  intro p e s m args below meth c A ls Q hE hret
  obtain ⟨hx, hb, hts, hown, hml, hP, hK, hD, hN, hA, hl⟩ := hE
  have hown : s.vm.findClass RX6 = some m.cls := hown
  have hl : lv_has ls 3 [(0, .ref (ad 9))] := hl
  have hS : va_S A s.heap s.heap [] := va_S.rf
  have k_0 : (Cond.fieldLink RX6 42 "BellBook$Wreck" "count" "I").before args s = true := hts _ (List.mem_of_getElem? (i := 1) rfl)
  have n_6 : ∀ w ∈ u_ws RX6 TX6 12, w ∈ wsX6_raisedWorth := fun w hw => List.mem_cons_of_mem _ (List.mem_append_right _ hw)
  have k_2 : (Cond.fieldLink RX6 46 "BellBook$Wreck" "raised" "I").before args s = true := hts _ (List.mem_of_getElem? (i := 2) rfl)
  have k_3 : (Cond.initialized RX7).before args s = true := hts _ (List.mem_of_getElem? (i := 5) rfl)
  have k_4 : (Cond.static yX7_bit).before args s = true := hts _ (List.mem_of_getElem? (i := 4) rfl)
  have k_5 : (Cond.fieldLink RX6 13 "BellBook$Wreck" "worth" "[I").before args s = true := hts _ (List.mem_of_getElem? (i := 3) rfl)
  refine lv_iconst (v := 0) hx hb dX6_raisedWorth_0 (by decide) ?_
  refine lv_istore_n (lv' := [(1, .int (0)), (0, .ref (ad 9))]) hx hb dX6_raisedWorth_1 rfl hl (by decide) rfl (fun ls hl => ?_)
  refine lv_iconst (v := 0) hx hb dX6_raisedWorth_2 (by decide) ?_
  refine lv_istore_n (lv' := [(2, .int (0)), (1, .int (0)), (0, .ref (ad 9))]) hx hb dX6_raisedWorth_3 rfl hl (by decide) rfl (fun ls hl => ?_)
  obtain ⟨K4, eK4, h⟩ := p_X6_raisedWorth_L4_k h
  have JE4 : ∀ (z4_0 : Int32) (z4_1 : Int32) (H : Heap) (locs : List Loc) (ls : Array Slot), K4 z4_0 z4_1 = some r → va_P D vwCl (wC ad cA F G) H → va_D A (wC ad cA F G) → va_S A s.heap H locs → lv_has ls 3 [(2, .int (z4_0)), (1, .int (z4_1)), (0, .ref (ad 9))] → W p l e ({ frames := 1, cells := 0, slots := 0, locals := 21 } : Room) s m args below meth c H locs 0 0 Q (F0 m 36 ls []) := by
    intro z4_0 z4_1 H locs ls h hP hD hS hl
    rw [eK4] at h
    refine lv_iload_n hx hb dX6_raisedWorth_36 rfl (lv_at hl 1 rfl) ?_
    exact hret _ _ _ _ _ dX6_raisedWorth_37 h hP hD hS
  have LL4 : ∀ (k : Nat) (z4_0 : Int32) (z4_1 : Int32) (H : Heap) (locs : List Loc) (ls : Array Slot), p_X6_raisedWorth_L4 F G K4 k z4_0 z4_1 = some r → va_P D vwCl (wC ad cA F G) H → va_D A (wC ad cA F G) → va_S A s.heap H locs → lv_has ls 3 [(2, .int (z4_0)), (1, .int (z4_1)), (0, .ref (ad 9))] → W p l e ({ frames := 1, cells := 0, slots := 0, locals := 21 } : Room) s m args below meth c H locs 0 0 Q (F0 m 4 ls []) := by
    intro k
    induction k with
    | zero =>
      intro z4_0 z4_1 H locs ls h hP hD hS hl
      rw [p_X6_raisedWorth_L4] at h
      cases h
    | succ k4 ih4 =>
      intro z4_0 z4_1 H locs ls h hP hD hS hl
      rw [p_X6_raisedWorth_L4] at h
      refine lv_iload_n hx hb dX6_raisedWorth_4 rfl (lv_at hl 0 rfl) ?_
      refine lv_aload_n hx hb dX6_raisedWorth_5 rfl (lv_at hl 2 rfl) ?_
      refine va_get (D := D) (ci := 6) (fs := vX6 ad F) (v := .int ((F 15))) (C := RX6) (T := TX6) (N := 12) hx hb hts n_6 hown hK hP 9 wCg9 rfl 8 (by decide) k_0 (fun _ h9 => h9) rfl dX6_raisedWorth_6 ?_
      refine lv_icmp_ge (tgt := 36) hx hb dX6_raisedWorth_9 (by decide) (fun c9 => ?_) (fun c9 => ?_)
      · replace h := ifp h c9
        exact JE4 _ _ _ _ _ h hP hD hS (lv_sub hl [0, 1, 2] rfl)
      · replace h := ifn h c9
        refine lv_iload_n hx hb dX6_raisedWorth_12 rfl (lv_at hl 1 rfl) ?_
        refine lv_aload_n hx hb dX6_raisedWorth_13 rfl (lv_at hl 2 rfl) ?_
        refine va_get (D := D) (ci := 6) (fs := vX6 ad F) (v := .int ((F 16))) (C := RX6) (T := TX6) (N := 12) hx hb hts n_6 hown hK hP 9 wCg9 rfl 9 (by decide) k_2 (fun _ h9 => h9) rfl dX6_raisedWorth_14 ?_
        refine lv_iload_n hx hb dX6_raisedWorth_17 rfl (lv_at hl 0 rfl) ?_
        obtain ⟨x18, h18, h⟩ := bi1e h
        refine callNI (host := "BellBook") (As := [.int ((F 16)), .int (z4_0)]) (rest := [.int (z4_1)]) ⟨hx, hb, hml, hown, hts⟩ (c_X7_bit l D ad cA n F G (F 16) z4_0 h18) ⟨va_cnB 2 hts gX6_raisedWorth_X7_bit_n62 rfl rfl rfl hN.2.1 k_3 (by decide +kernel) ⟨Nat.le_of_ble_eq_true rfl, Nat.le_of_ble_eq_true rfl⟩, k_4, trivial⟩ hP hK hD hN hS hA rfl hl.1 rfl (Nat.le_of_ble_eq_true rfl) dX6_raisedWorth_18 ⟨Nat.zero_le _, Nat.zero_le _⟩ (fun H locs hP hD hS => ?_)
        refine lv_aload_n hx hb dX6_raisedWorth_21 rfl (lv_at hl 2 rfl) ?_
        refine va_get (D := D) (ci := 6) (fs := vX6 ad F) (v := .ref (ad 11)) (C := RX6) (T := TX6) (N := 12) hx hb hts n_6 hown hK hP 9 wCg9 rfl 1 (by decide) k_5 (fun _ h9 => h9) rfl dX6_raisedWorth_22 ?_
        refine lv_iload_n hx hb dX6_raisedWorth_25 rfl (lv_at hl 0 rfl) ?_
        obtain ⟨g26, h⟩ := og h
        refine va_iald (D := D) hx hb hK hP 11 0 wCg11 rfl (inB_in g26) dX6_raisedWorth_26 ?_
        refine lv_imul hx hb dX6_raisedWorth_27 ?_
        refine lv_iadd hx hb dX6_raisedWorth_28 ?_
        refine lv_topi (fun x29 ex29 => ?_)
        replace h := pl h ex29
        refine lv_istore_n (lv' := [(1, .int (x29)), (2, .int (z4_0)), (0, .ref (ad 9))]) hx hb dX6_raisedWorth_29 rfl hl (by decide) rfl (fun ls hl => ?_)
        obtain ⟨x30, ex30⟩ : ∃ z : Int32, z = (z4_0 + 1) := ⟨_, rfl⟩
        replace h := pl h ex30
        refine lv_iinc (v := x30) (lv' := [(2, .int (x30)), (1, .int (x29)), (0, .ref (ad 9))]) hx hb dX6_raisedWorth_30 hl (k := 1) rfl (by rw [ex30]; rfl) (by decide) rfl (fun ls hl => ?_)
        refine lv_goto (tgt := 4) hx hb dX6_raisedWorth_33 (by decide) ?_
        exact ih4 _ _ _ _ _ h hP hD hS (lv_sub hl [0, 1, 2] rfl)
  exact LL4 n 0 0 _ _ _ h hP hD hS (lv_sub hl [0, 1, 2] rfl)

def p_X6_workMinute (F : tF) (G : tG) (a1 : Int32) : Option (tF × tG) :=
  oguard (inB a1 12) (oguard (inB a1 12) (plet (stG G 10 a1 ((G 10 a1.toNatClampNeg) + 1)) (fun (G9 : tG) => oguard (inB a1 12) (oguard (inB a1 12) (bi1 ((if (G9 10 a1.toNatClampNeg) < (G9 8 a1.toNatClampNeg) then some (F) else plet (upd F 16 ((F 16) ||| (1 <<< (a1 &&& 31)))) (fun (F34 : tF) => some (F34)))) (fun (F22j : tF) => plet (upd F22j 18 0) (fun (F39 : tF) => some (F39, G9))))))))
set_option maxHeartbeats 4000000 in
set_option maxRecDepth 100000 in
theorem c_X6_workMinute (l : Launch) (D : va_G) (ad : Nat → Nat) (cA : ClassId) (n : Nat) (F : tF) (G : tG) (a1 : Int32) {F' : tF} {G' : tG} (h : p_X6_workMinute F G a1 = some (F', G')) : CV l yX6_workMinute wsX6_workMinute ({ frames := 0, cells := 0, slots := 0, locals := 0 } : Room) D cA (wC ad cA F G) [.ref (ad 9), .int (a1)] (wC ad cA F' G') := by
  rw [p_X6_workMinute] at h
  refine metVm (w := wC ad cA) (cc := cX6_workMinute) (maxL := 2) (by decide) rfl (Nat.le_of_ble_eq_true rfl) ?_
  intro p e s m args below meth c A ls Q hE hret
  obtain ⟨hx, hb, hts, hown, hml, hP, hK, hD, hN, hA, hl⟩ := hE
  have hown : s.vm.findClass RX6 = some m.cls := hown
  have hl : lv_has ls 2 [(0, .ref (ad 9)), (1, .int (a1))] := hl
  have hS : va_S A s.heap s.heap [] := va_S.rf
  have k_0 : (Cond.fieldLink RX6 22 "BellBook$Wreck" "worked" "[I").before args s = true := hts _ (List.mem_of_getElem? (i := 1) rfl)
  have n_6 : ∀ w ∈ u_ws RX6 TX6 12, w ∈ wsX6_workMinute := fun w hw => List.mem_cons_of_mem _ (List.mem_append_right _ hw)
  have k_2 : (Cond.fieldLink RX6 16 "BellBook$Wreck" "work" "[I").before args s = true := hts _ (List.mem_of_getElem? (i := 2) rfl)
  have k_3 : (Cond.fieldLink RX6 46 "BellBook$Wreck" "raised" "I").before args s = true := hts _ (List.mem_of_getElem? (i := 3) rfl)
  have k_4 : (Cond.fieldLink RX6 52 "BellBook$Wreck" "planStands" "Z").before args s = true := hts _ (List.mem_of_getElem? (i := 4) rfl)
  refine lv_aload_n hx hb dX6_workMinute_0 rfl (lv_at hl 0 rfl) ?_
  refine va_get (D := D) (ci := 6) (fs := vX6 ad F) (v := .ref (ad 14)) (C := RX6) (T := TX6) (N := 12) hx hb hts n_6 hown hK hP 9 wCg9 rfl 4 (by decide) k_0 (fun _ h9 => h9) rfl dX6_workMinute_1 ?_
  refine lv_iload_n hx hb dX6_workMinute_4 rfl (lv_at hl 1 rfl) ?_
  refine lv_dup2_11 hx hb dX6_workMinute_5 rfl rfl ?_
  obtain ⟨g6, h⟩ := og h
  refine va_iald (D := D) hx hb hK hP 14 0 wCg14 rfl (inB_in g6) dX6_workMinute_6 ?_
  refine lv_iconst (v := 1) hx hb dX6_workMinute_7 (by decide) ?_
  refine lv_iadd hx hb dX6_workMinute_8 ?_
  obtain ⟨g9, h⟩ := og h
  obtain ⟨G9, eG9⟩ : ∃ z : tG, z = stG G 10 a1 ((G 10 a1.toNatClampNeg) + 1) := ⟨_, rfl⟩
  replace h := pl h eG9
  refine va_iast (D := D) hx hb hK hP hD hS 14 0 wCg14 rfl (inB_in g9) dX6_workMinute_9 (fun H locs hP hD hS => ?_)
  rw [wCa10 eG9] at hP hD
  refine lv_aload_n hx hb dX6_workMinute_10 rfl (lv_at hl 0 rfl) ?_
  refine va_get (D := D) (ci := 6) (fs := vX6 ad F) (v := .ref (ad 14)) (C := RX6) (T := TX6) (N := 12) hx hb hts n_6 hown hK hP 9 wCg9 rfl 4 (by decide) k_0 (fun _ h9 => h9) rfl dX6_workMinute_11 ?_
  refine lv_iload_n hx hb dX6_workMinute_14 rfl (lv_at hl 1 rfl) ?_
  obtain ⟨g15, h⟩ := og h
  refine va_iald (D := D) hx hb hK hP 14 0 wCg14 rfl (inB_in g15) dX6_workMinute_15 ?_
  refine lv_aload_n hx hb dX6_workMinute_16 rfl (lv_at hl 0 rfl) ?_
  refine va_get (D := D) (ci := 6) (fs := vX6 ad F) (v := .ref (ad 12)) (C := RX6) (T := TX6) (N := 12) hx hb hts n_6 hown hK hP 9 wCg9 rfl 2 (by decide) k_2 (fun _ h9 => h9) rfl dX6_workMinute_17 ?_
  refine lv_iload_n hx hb dX6_workMinute_20 rfl (lv_at hl 1 rfl) ?_
  obtain ⟨g21, h⟩ := og h
  refine va_iald (D := D) hx hb hK hP 12 0 wCg12 rfl (inB_in g21) dX6_workMinute_21 ?_
  obtain ⟨F22j, q22, h⟩ := bi1e h
  have J22 : ∀ (wF22j : tF), some (wF22j) = some (F22j) → ∀ (H : Heap) (locs : List Loc) (ls : Array Slot), va_P D vwCl (wC ad cA wF22j G9) H → va_D A (wC ad cA wF22j G9) → va_S A s.heap H locs → lv_has ls 2 [(0, .ref (ad 9)), (1, .int (a1))] → W p l e ({ frames := 0, cells := 0, slots := 0, locals := 0 } : Room) s m args below meth c H locs 0 0 Q (F0 m 37 ls []) := by
    intro wF22j e9 H locs ls hP hD hS hl
    cases e9
    refine lv_aload_n hx hb dX6_workMinute_37 rfl (lv_at hl 0 rfl) ?_
    refine lv_iconst (v := 0) hx hb dX6_workMinute_38 (by decide) ?_
    obtain ⟨F39, eF39⟩ : ∃ f : tF, f = upd F22j 18 0 := ⟨_, rfl⟩
    replace h := pl h eF39
    refine va_put (D := D) (ci := 6) (fs := vX6 ad F22j) (v := .int (0)) (ty := .boolean) (C := RX6) (T := TX6) (N := 12) hx hb hts n_6 tyX6 tyX6_ok nmX6 hown hK hP hD hS 9 wCg9 rfl 11 (by decide) k_4 (fun _ h9 => h9) rfl (tyX6_ok 11 (by decide)) (by decide) (by decide) (Nat.le_of_ble_eq_true rfl) dX6_workMinute_39 (fun H locs hP hD hS => ?_)
    rw [wCp18 eF39] at hP hD
    exact hret _ _ _ _ _ _ dX6_workMinute_42 h hP hD hS
  refine lv_icmp_lt (tgt := 37) hx hb dX6_workMinute_22 (by decide) (fun c22 => ?_) (fun c22 => ?_)
  · replace q22 := ifp q22 c22
    exact J22 _ q22 _ _ _ hP hD hS (lv_sub hl [0, 1] rfl)
  · replace q22 := ifn q22 c22
    refine lv_aload_n hx hb dX6_workMinute_25 rfl (lv_at hl 0 rfl) ?_
    refine lv_dup hx hb dX6_workMinute_26 rfl ?_
    refine va_get (D := D) (ci := 6) (fs := vX6 ad F) (v := .int ((F 16))) (C := RX6) (T := TX6) (N := 12) hx hb hts n_6 hown hK hP 9 wCg9 rfl 9 (by decide) k_3 (fun _ h9 => h9) rfl dX6_workMinute_27 ?_
    refine lv_iconst (v := 1) hx hb dX6_workMinute_30 (by decide) ?_
    refine lv_iload_n hx hb dX6_workMinute_31 rfl (lv_at hl 1 rfl) ?_
    refine lv_ishl hx hb dX6_workMinute_32 ?_
    refine lv_ior hx hb dX6_workMinute_33 ?_
    obtain ⟨F34, eF34⟩ : ∃ f : tF, f = upd F 16 ((F 16) ||| (1 <<< (a1 &&& 31))) := ⟨_, rfl⟩
    replace q22 := pl q22 eF34
    refine va_put (D := D) (ci := 6) (fs := vX6 ad F) (v := .int (((F 16) ||| (1 <<< (a1 &&& 31))))) (ty := .int) (C := RX6) (T := TX6) (N := 12) hx hb hts n_6 tyX6 tyX6_ok nmX6 hown hK hP hD hS 9 wCg9 rfl 9 (by decide) k_3 (fun _ h9 => h9) rfl (tyX6_ok 9 (by decide)) rfl rfl (Nat.le_of_ble_eq_true rfl) dX6_workMinute_34 (fun H locs hP hD hS => ?_)
    rw [wCp16 eF34] at hP hD
    exact J22 _ q22 _ _ _ hP hD hS (lv_sub hl [0, 1] rfl)

def p_X7_air (n : Nat) (F : tF) (G : tG) (a1 : Int32) : Option (Int32) :=
  (if a1 = 0 then some (F 3) else (if a1 = 1 then some (F 4) else (if a1 = 2 then some (F 5) else (if a1 = 3 then some (F 6) else (if a1 = 4 then some (F 7) else (if a1 = 5 then bi1 (p_X0_dry F) (fun x112 => some x112) else (if a1 = 6 then bi1 (p_X0_dry F) (fun x127 => some ((F 1) - x127)) else (if a1 = 7 then bi1 (p_X0_foulness (F 3) (F 4)) (fun x146 => some x146) else (if a1 = 8 then bi1 (p_X2_countBelow n G) (fun x158 => bi1 (p_X0_lasts F x158) (fun x161 => some x161)) else (if a1 = 9 then bi1 (p_X0_most F) (fun x169 => some x169) else (if a1 = 10 then some (F 8) else (if a1 = 11 then some (F 9) else (if a1 = 12 then some (F 10) else some (-2))))))))))))))
set_option maxHeartbeats 4000000 in
set_option maxRecDepth 100000 in
theorem c_X7_air (l : Launch) (D : va_G) (ad : Nat → Nat) (cA : ClassId) (n : Nat) (F : tF) (G : tG) (a1 : Int32) {r : Int32} (h : p_X7_air n F G a1 = some r) : CI l yX7_air wsX7_air ({ frames := 2, cells := 0, slots := 0, locals := 44 } : Room) D cA (wC ad cA F G) [.ref (ad 0), .int (a1)] r (wC ad cA F G) := by
  rw [p_X7_air] at h
  refine metIr (w := wC ad cA) (cc := cX7_air) (maxL := 2) (by decide) rfl (Nat.le_of_ble_eq_true rfl) ?_
  intro p e s m args below meth c A ls Q hE hret
  obtain ⟨hx, hb, hts, hown, hml, hP, hK, hD, hN, hA, hl⟩ := hE
  have hown : s.vm.findClass RX7 = some m.cls := hown
  have hl : lv_has ls 2 [(0, .ref (ad 0)), (1, .int (a1))] := hl
  have hS : va_S A s.heap s.heap [] := va_S.rf
  have k_0 : (Cond.fieldLink RX7 12 "BellBook" "bell" "LBellBook$Bell;").before args s = true := hts _ (List.mem_of_getElem? (i := 1) rfl)
  have n_7 : ∀ w ∈ u_ws RX7 TX7 6, w ∈ wsX7_air := fun w hw => List.mem_cons_of_mem _ (List.mem_append_left _ (List.mem_append_left _ (List.mem_append_right _ hw)))
  have k_2 : (Cond.fieldLink RX7 101 "BellBook$Bell" "fresh" "I").before args s = true := hts _ (List.mem_of_getElem? (i := 2) rfl)
  have n_0 : ∀ w ∈ u_ws RX0 TX0 12, w ∈ wsX7_air := fun w hw => List.mem_cons_of_mem _ (List.mem_append_left _ (List.mem_append_right _ hw))
  have k_4 : (Cond.fieldLink RX7 104 "BellBook$Bell" "foul" "I").before args s = true := hts _ (List.mem_of_getElem? (i := 3) rfl)
  have k_5 : (Cond.fieldLink RX7 107 "BellBook$Bell" "sent" "I").before args s = true := hts _ (List.mem_of_getElem? (i := 4) rfl)
  have k_6 : (Cond.fieldLink RX7 110 "BellBook$Bell" "breathed" "I").before args s = true := hts _ (List.mem_of_getElem? (i := 5) rfl)
  have k_7 : (Cond.fieldLink RX7 113 "BellBook$Bell" "spilled" "I").before args s = true := hts _ (List.mem_of_getElem? (i := 6) rfl)
  have k_8 : (Cond.fieldLink RX7 59 "BellBook$Bell" "room" "I").before args s = true := hts _ (List.mem_of_getElem? (i := 7) rfl)
  have k_9 : (Cond.fieldLink RX7 19 "BellBook" "crew" "LBellBook$Crew;").before args s = true := hts _ (List.mem_of_getElem? (i := 8) rfl)
  have k_10 : (Cond.fieldLink RX7 80 "BellBook$Bell" "barrels" "I").before args s = true := hts _ (List.mem_of_getElem? (i := 9) rfl)
  have k_11 : (Cond.fieldLink RX7 92 "BellBook$Bell" "breathLacks" "I").before args s = true := hts _ (List.mem_of_getElem? (i := 10) rfl)
  have k_12 : (Cond.fieldLink RX7 95 "BellBook$Bell" "stayLacks" "I").before args s = true := hts _ (List.mem_of_getElem? (i := 11) rfl)
  refine lv_iload_n hx hb dX7_air_0 rfl (lv_at hl 1 rfl) ?_
  by_cases c1_0 : a1 = 0
  · replace h := ifp h c1_0
    refine lv_tableIn (off := 67) (tgt := 68) hx hb dX7_air_1 (by rw [c1_0]; decide) (by rw [c1_0]; decide) (by rw [c1_0]; decide) (by decide) ?_
    refine lv_aload_n hx hb dX7_air_68 rfl (lv_at hl 0 rfl) ?_
    refine va_get (D := D) (ci := 7) (fs := vX7 ad F) (v := .ref (ad 1)) (C := RX7) (T := TX7) (N := 6) hx hb hts n_7 hown hK hP 0 wCg0 rfl 0 (by decide) k_0 (fun _ h9 => h9) rfl dX7_air_69 ?_
    refine va_get (D := D) (ci := 0) (fs := vX0 ad F) (v := .int ((F 3))) (C := RX0) (T := TX0) (N := 12) hx hb hts n_0 hown hK hP 1 wCg1 rfl 2 (by decide) k_2 (fun _ h9 => h9) rfl dX7_air_72 ?_
    exact hret _ _ _ _ _ dX7_air_75 h hP hD hS
  replace h := ifn h c1_0
  by_cases c1_1 : a1 = 1
  · replace h := ifp h c1_1
    refine lv_tableIn (off := 75) (tgt := 76) hx hb dX7_air_1 (by rw [c1_1]; decide) (by rw [c1_1]; decide) (by rw [c1_1]; decide) (by decide) ?_
    refine lv_aload_n hx hb dX7_air_76 rfl (lv_at hl 0 rfl) ?_
    refine va_get (D := D) (ci := 7) (fs := vX7 ad F) (v := .ref (ad 1)) (C := RX7) (T := TX7) (N := 6) hx hb hts n_7 hown hK hP 0 wCg0 rfl 0 (by decide) k_0 (fun _ h9 => h9) rfl dX7_air_77 ?_
    refine va_get (D := D) (ci := 0) (fs := vX0 ad F) (v := .int ((F 4))) (C := RX0) (T := TX0) (N := 12) hx hb hts n_0 hown hK hP 1 wCg1 rfl 3 (by decide) k_4 (fun _ h9 => h9) rfl dX7_air_80 ?_
    exact hret _ _ _ _ _ dX7_air_83 h hP hD hS
  replace h := ifn h c1_1
  by_cases c1_2 : a1 = 2
  · replace h := ifp h c1_2
    refine lv_tableIn (off := 83) (tgt := 84) hx hb dX7_air_1 (by rw [c1_2]; decide) (by rw [c1_2]; decide) (by rw [c1_2]; decide) (by decide) ?_
    refine lv_aload_n hx hb dX7_air_84 rfl (lv_at hl 0 rfl) ?_
    refine va_get (D := D) (ci := 7) (fs := vX7 ad F) (v := .ref (ad 1)) (C := RX7) (T := TX7) (N := 6) hx hb hts n_7 hown hK hP 0 wCg0 rfl 0 (by decide) k_0 (fun _ h9 => h9) rfl dX7_air_85 ?_
    refine va_get (D := D) (ci := 0) (fs := vX0 ad F) (v := .int ((F 5))) (C := RX0) (T := TX0) (N := 12) hx hb hts n_0 hown hK hP 1 wCg1 rfl 4 (by decide) k_5 (fun _ h9 => h9) rfl dX7_air_88 ?_
    exact hret _ _ _ _ _ dX7_air_91 h hP hD hS
  replace h := ifn h c1_2
  by_cases c1_3 : a1 = 3
  · replace h := ifp h c1_3
    refine lv_tableIn (off := 91) (tgt := 92) hx hb dX7_air_1 (by rw [c1_3]; decide) (by rw [c1_3]; decide) (by rw [c1_3]; decide) (by decide) ?_
    refine lv_aload_n hx hb dX7_air_92 rfl (lv_at hl 0 rfl) ?_
    refine va_get (D := D) (ci := 7) (fs := vX7 ad F) (v := .ref (ad 1)) (C := RX7) (T := TX7) (N := 6) hx hb hts n_7 hown hK hP 0 wCg0 rfl 0 (by decide) k_0 (fun _ h9 => h9) rfl dX7_air_93 ?_
    refine va_get (D := D) (ci := 0) (fs := vX0 ad F) (v := .int ((F 6))) (C := RX0) (T := TX0) (N := 12) hx hb hts n_0 hown hK hP 1 wCg1 rfl 5 (by decide) k_6 (fun _ h9 => h9) rfl dX7_air_96 ?_
    exact hret _ _ _ _ _ dX7_air_99 h hP hD hS
  replace h := ifn h c1_3
  by_cases c1_4 : a1 = 4
  · replace h := ifp h c1_4
    refine lv_tableIn (off := 99) (tgt := 100) hx hb dX7_air_1 (by rw [c1_4]; decide) (by rw [c1_4]; decide) (by rw [c1_4]; decide) (by decide) ?_
    refine lv_aload_n hx hb dX7_air_100 rfl (lv_at hl 0 rfl) ?_
    refine va_get (D := D) (ci := 7) (fs := vX7 ad F) (v := .ref (ad 1)) (C := RX7) (T := TX7) (N := 6) hx hb hts n_7 hown hK hP 0 wCg0 rfl 0 (by decide) k_0 (fun _ h9 => h9) rfl dX7_air_101 ?_
    refine va_get (D := D) (ci := 0) (fs := vX0 ad F) (v := .int ((F 7))) (C := RX0) (T := TX0) (N := 12) hx hb hts n_0 hown hK hP 1 wCg1 rfl 6 (by decide) k_7 (fun _ h9 => h9) rfl dX7_air_104 ?_
    exact hret _ _ _ _ _ dX7_air_107 h hP hD hS
  replace h := ifn h c1_4
  by_cases c1_5 : a1 = 5
  · replace h := ifp h c1_5
    refine lv_tableIn (off := 107) (tgt := 108) hx hb dX7_air_1 (by rw [c1_5]; decide) (by rw [c1_5]; decide) (by rw [c1_5]; decide) (by decide) ?_
    refine lv_aload_n hx hb dX7_air_108 rfl (lv_at hl 0 rfl) ?_
    refine va_get (D := D) (ci := 7) (fs := vX7 ad F) (v := .ref (ad 1)) (C := RX7) (T := TX7) (N := 6) hx hb hts n_7 hown hK hP 0 wCg0 rfl 0 (by decide) k_0 (fun _ h9 => h9) rfl dX7_air_109 ?_
    obtain ⟨x112, h112, h⟩ := bi1e h
    refine callVI (b := ad 1) (As := []) (rest := []) ⟨hx, hb, hml, hown, hts⟩ (c_X0_dry l D ad cA n F G h112) (cwV 0 hts gX7_air_X0_dry rfl rfl rfl (by decide +kernel) ⟨Nat.le_of_ble_eq_true rfl, Nat.le_of_ble_eq_true rfl⟩) (va_recv hK hP (ci := 0) (q0 := 1) rfl wCg1) hP hK hD hN hS hA rfl hl.1 rfl (Nat.le_of_ble_eq_true rfl) dX7_air_112 ⟨Nat.zero_le _, Nat.zero_le _⟩ (fun H locs hP hD hS => ?_)
    exact hret _ _ _ _ _ dX7_air_115 h hP hD hS
  replace h := ifn h c1_5
  by_cases c1_6 : a1 = 6
  · replace h := ifp h c1_6
    refine lv_tableIn (off := 115) (tgt := 116) hx hb dX7_air_1 (by rw [c1_6]; decide) (by rw [c1_6]; decide) (by rw [c1_6]; decide) (by decide) ?_
    refine lv_aload_n hx hb dX7_air_116 rfl (lv_at hl 0 rfl) ?_
    refine va_get (D := D) (ci := 7) (fs := vX7 ad F) (v := .ref (ad 1)) (C := RX7) (T := TX7) (N := 6) hx hb hts n_7 hown hK hP 0 wCg0 rfl 0 (by decide) k_0 (fun _ h9 => h9) rfl dX7_air_117 ?_
    refine va_get (D := D) (ci := 0) (fs := vX0 ad F) (v := .int ((F 1))) (C := RX0) (T := TX0) (N := 12) hx hb hts n_0 hown hK hP 1 wCg1 rfl 0 (by decide) k_8 (fun _ h9 => h9) rfl dX7_air_120 ?_
    refine lv_aload_n hx hb dX7_air_123 rfl (lv_at hl 0 rfl) ?_
    refine va_get (D := D) (ci := 7) (fs := vX7 ad F) (v := .ref (ad 1)) (C := RX7) (T := TX7) (N := 6) hx hb hts n_7 hown hK hP 0 wCg0 rfl 0 (by decide) k_0 (fun _ h9 => h9) rfl dX7_air_124 ?_
    obtain ⟨x127, h127, h⟩ := bi1e h
    refine callVI (b := ad 1) (As := []) (rest := [.int ((F 1))]) ⟨hx, hb, hml, hown, hts⟩ (c_X0_dry l D ad cA n F G h127) (cwV 0 hts gX7_air_X0_dry rfl rfl rfl (by decide +kernel) ⟨Nat.le_of_ble_eq_true rfl, Nat.le_of_ble_eq_true rfl⟩) (va_recv hK hP (ci := 0) (q0 := 1) rfl wCg1) hP hK hD hN hS hA rfl hl.1 rfl (Nat.le_of_ble_eq_true rfl) dX7_air_127 ⟨Nat.zero_le _, Nat.zero_le _⟩ (fun H locs hP hD hS => ?_)
    refine lv_isub hx hb dX7_air_130 ?_
    exact hret _ _ _ _ _ dX7_air_131 h hP hD hS
  replace h := ifn h c1_6
  by_cases c1_7 : a1 = 7
  · replace h := ifp h c1_7
    refine lv_tableIn (off := 131) (tgt := 132) hx hb dX7_air_1 (by rw [c1_7]; decide) (by rw [c1_7]; decide) (by rw [c1_7]; decide) (by decide) ?_
    refine lv_aload_n hx hb dX7_air_132 rfl (lv_at hl 0 rfl) ?_
    refine va_get (D := D) (ci := 7) (fs := vX7 ad F) (v := .ref (ad 1)) (C := RX7) (T := TX7) (N := 6) hx hb hts n_7 hown hK hP 0 wCg0 rfl 0 (by decide) k_0 (fun _ h9 => h9) rfl dX7_air_133 ?_
    refine va_get (D := D) (ci := 0) (fs := vX0 ad F) (v := .int ((F 3))) (C := RX0) (T := TX0) (N := 12) hx hb hts n_0 hown hK hP 1 wCg1 rfl 2 (by decide) k_2 (fun _ h9 => h9) rfl dX7_air_136 ?_
    refine lv_aload_n hx hb dX7_air_139 rfl (lv_at hl 0 rfl) ?_
    refine va_get (D := D) (ci := 7) (fs := vX7 ad F) (v := .ref (ad 1)) (C := RX7) (T := TX7) (N := 6) hx hb hts n_7 hown hK hP 0 wCg0 rfl 0 (by decide) k_0 (fun _ h9 => h9) rfl dX7_air_140 ?_
    refine va_get (D := D) (ci := 0) (fs := vX0 ad F) (v := .int ((F 4))) (C := RX0) (T := TX0) (N := 12) hx hb hts n_0 hown hK hP 1 wCg1 rfl 3 (by decide) k_4 (fun _ h9 => h9) rfl dX7_air_143 ?_
    obtain ⟨x146, h146, h⟩ := bi1e h
    refine callSI (As := [.int ((F 3)), .int ((F 4))]) (rest := []) ⟨hx, hb, hml, hown, hts⟩ (c_X0_foulness l D ad cA n F G (F 3) (F 4) h146) (va_cwS 2 hts gX7_air_X0_foulness rfl rfl rfl (by decide +kernel) ⟨Nat.le_of_ble_eq_true rfl, Nat.le_of_ble_eq_true rfl⟩) hP hK hD hN hS hA rfl hl.1 rfl (Nat.le_of_ble_eq_true rfl) dX7_air_146 ⟨Nat.zero_le _, Nat.zero_le _⟩ (fun H locs hP hD hS => ?_)
    exact hret _ _ _ _ _ dX7_air_149 h hP hD hS
  replace h := ifn h c1_7
  by_cases c1_8 : a1 = 8
  · replace h := ifp h c1_8
    refine lv_tableIn (off := 149) (tgt := 150) hx hb dX7_air_1 (by rw [c1_8]; decide) (by rw [c1_8]; decide) (by rw [c1_8]; decide) (by decide) ?_
    refine lv_aload_n hx hb dX7_air_150 rfl (lv_at hl 0 rfl) ?_
    refine va_get (D := D) (ci := 7) (fs := vX7 ad F) (v := .ref (ad 1)) (C := RX7) (T := TX7) (N := 6) hx hb hts n_7 hown hK hP 0 wCg0 rfl 0 (by decide) k_0 (fun _ h9 => h9) rfl dX7_air_151 ?_
    refine lv_aload_n hx hb dX7_air_154 rfl (lv_at hl 0 rfl) ?_
    refine va_get (D := D) (ci := 7) (fs := vX7 ad F) (v := .ref (ad 2)) (C := RX7) (T := TX7) (N := 6) hx hb hts n_7 hown hK hP 0 wCg0 rfl 1 (by decide) k_9 (fun _ h9 => h9) rfl dX7_air_155 ?_
    obtain ⟨x158, h158, h⟩ := bi1e h
    refine callVI (b := ad 2) (As := []) (rest := [.ref (ad 1)]) ⟨hx, hb, hml, hown, hts⟩ (c_X2_countBelow l D ad cA n F G h158) (cwV 0 hts gX7_air_X2_countBelow rfl rfl rfl (by decide +kernel) ⟨Nat.le_of_ble_eq_true rfl, Nat.le_of_ble_eq_true rfl⟩) (va_recv hK hP (ci := 2) (q0 := 2) rfl wCg2) hP hK hD hN hS hA rfl hl.1 rfl (Nat.le_of_ble_eq_true rfl) dX7_air_158 ⟨Nat.zero_le _, Nat.zero_le _⟩ (fun H locs hP hD hS => ?_)
    obtain ⟨x161, h161, h⟩ := bi1e h
    refine callVI (b := ad 1) (As := [.int (x158)]) (rest := []) ⟨hx, hb, hml, hown, hts⟩ (c_X0_lasts l D ad cA n F G x158 h161) (cwV 1 hts gX7_air_X0_lasts rfl rfl rfl (by decide +kernel) ⟨Nat.le_of_ble_eq_true rfl, Nat.le_of_ble_eq_true rfl⟩) (va_recv hK hP (ci := 0) (q0 := 1) rfl wCg1) hP hK hD hN hS hA rfl hl.1 rfl (Nat.le_of_ble_eq_true rfl) dX7_air_161 ⟨Nat.zero_le _, Nat.zero_le _⟩ (fun H locs hP hD hS => ?_)
    exact hret _ _ _ _ _ dX7_air_164 h hP hD hS
  replace h := ifn h c1_8
  by_cases c1_9 : a1 = 9
  · replace h := ifp h c1_9
    refine lv_tableIn (off := 164) (tgt := 165) hx hb dX7_air_1 (by rw [c1_9]; decide) (by rw [c1_9]; decide) (by rw [c1_9]; decide) (by decide) ?_
    refine lv_aload_n hx hb dX7_air_165 rfl (lv_at hl 0 rfl) ?_
    refine va_get (D := D) (ci := 7) (fs := vX7 ad F) (v := .ref (ad 1)) (C := RX7) (T := TX7) (N := 6) hx hb hts n_7 hown hK hP 0 wCg0 rfl 0 (by decide) k_0 (fun _ h9 => h9) rfl dX7_air_166 ?_
    obtain ⟨x169, h169, h⟩ := bi1e h
    refine callVI (b := ad 1) (As := []) (rest := []) ⟨hx, hb, hml, hown, hts⟩ (c_X0_most l D ad cA n F G h169) (cwV 0 hts gX7_air_X0_most rfl rfl rfl (by decide +kernel) ⟨Nat.le_of_ble_eq_true rfl, Nat.le_of_ble_eq_true rfl⟩) (va_recv hK hP (ci := 0) (q0 := 1) rfl wCg1) hP hK hD hN hS hA rfl hl.1 rfl (Nat.le_of_ble_eq_true rfl) dX7_air_169 ⟨Nat.zero_le _, Nat.zero_le _⟩ (fun H locs hP hD hS => ?_)
    exact hret _ _ _ _ _ dX7_air_172 h hP hD hS
  replace h := ifn h c1_9
  by_cases c1_10 : a1 = 10
  · replace h := ifp h c1_10
    refine lv_tableIn (off := 172) (tgt := 173) hx hb dX7_air_1 (by rw [c1_10]; decide) (by rw [c1_10]; decide) (by rw [c1_10]; decide) (by decide) ?_
    refine lv_aload_n hx hb dX7_air_173 rfl (lv_at hl 0 rfl) ?_
    refine va_get (D := D) (ci := 7) (fs := vX7 ad F) (v := .ref (ad 1)) (C := RX7) (T := TX7) (N := 6) hx hb hts n_7 hown hK hP 0 wCg0 rfl 0 (by decide) k_0 (fun _ h9 => h9) rfl dX7_air_174 ?_
    refine va_get (D := D) (ci := 0) (fs := vX0 ad F) (v := .int ((F 8))) (C := RX0) (T := TX0) (N := 12) hx hb hts n_0 hown hK hP 1 wCg1 rfl 7 (by decide) k_10 (fun _ h9 => h9) rfl dX7_air_177 ?_
    exact hret _ _ _ _ _ dX7_air_180 h hP hD hS
  replace h := ifn h c1_10
  by_cases c1_11 : a1 = 11
  · replace h := ifp h c1_11
    refine lv_tableIn (off := 180) (tgt := 181) hx hb dX7_air_1 (by rw [c1_11]; decide) (by rw [c1_11]; decide) (by rw [c1_11]; decide) (by decide) ?_
    refine lv_aload_n hx hb dX7_air_181 rfl (lv_at hl 0 rfl) ?_
    refine va_get (D := D) (ci := 7) (fs := vX7 ad F) (v := .ref (ad 1)) (C := RX7) (T := TX7) (N := 6) hx hb hts n_7 hown hK hP 0 wCg0 rfl 0 (by decide) k_0 (fun _ h9 => h9) rfl dX7_air_182 ?_
    refine va_get (D := D) (ci := 0) (fs := vX0 ad F) (v := .int ((F 9))) (C := RX0) (T := TX0) (N := 12) hx hb hts n_0 hown hK hP 1 wCg1 rfl 8 (by decide) k_11 (fun _ h9 => h9) rfl dX7_air_185 ?_
    exact hret _ _ _ _ _ dX7_air_188 h hP hD hS
  replace h := ifn h c1_11
  by_cases c1_12 : a1 = 12
  · replace h := ifp h c1_12
    refine lv_tableIn (off := 188) (tgt := 189) hx hb dX7_air_1 (by rw [c1_12]; decide) (by rw [c1_12]; decide) (by rw [c1_12]; decide) (by decide) ?_
    refine lv_aload_n hx hb dX7_air_189 rfl (lv_at hl 0 rfl) ?_
    refine va_get (D := D) (ci := 7) (fs := vX7 ad F) (v := .ref (ad 1)) (C := RX7) (T := TX7) (N := 6) hx hb hts n_7 hown hK hP 0 wCg0 rfl 0 (by decide) k_0 (fun _ h9 => h9) rfl dX7_air_190 ?_
    refine va_get (D := D) (ci := 0) (fs := vX0 ad F) (v := .int ((F 10))) (C := RX0) (T := TX0) (N := 12) hx hb hts n_0 hown hK hP 1 wCg1 rfl 9 (by decide) k_12 (fun _ h9 => h9) rfl dX7_air_193 ?_
    exact hret _ _ _ _ _ dX7_air_196 h hP hD hS
  replace h := ifn h c1_12
  have ic1_0 : a1.toInt ≠ 0 := ne_toInt c1_0
  have ic1_1 : a1.toInt ≠ 1 := ne_toInt c1_1
  have ic1_2 : a1.toInt ≠ 2 := ne_toInt c1_2
  have ic1_3 : a1.toInt ≠ 3 := ne_toInt c1_3
  have ic1_4 : a1.toInt ≠ 4 := ne_toInt c1_4
  have ic1_5 : a1.toInt ≠ 5 := ne_toInt c1_5
  have ic1_6 : a1.toInt ≠ 6 := ne_toInt c1_6
  have ic1_7 : a1.toInt ≠ 7 := ne_toInt c1_7
  have ic1_8 : a1.toInt ≠ 8 := ne_toInt c1_8
  have ic1_9 : a1.toInt ≠ 9 := ne_toInt c1_9
  have ic1_10 : a1.toInt ≠ 10 := ne_toInt c1_10
  have ic1_11 : a1.toInt ≠ 11 := ne_toInt c1_11
  have ic1_12 : a1.toInt ≠ 12 := ne_toInt c1_12
  refine lv_tableOut (tgt := 197) hx hb dX7_air_1 (by omega) (by decide) ?_
  refine lv_bipush (v := (-2)) hx hb dX7_air_197 (by decide) ?_
  exact hret _ _ _ _ _ dX7_air_199 h hP hD hS

def p_X7_barrel (F : tF) (G : tG) (a1 : Int32) : Option (Int32 × tF × tG) :=
  bi1 (p_X7_within a1 1 500) (fun x5 => (if x5 = 0 then some ((-2), F, G) else (if (F 8) < 40 then bi3 (p_X0_letIn F G a1) (fun x34 F34 G34 => some (x34, F34, G34)) else some ((-4), F, G))))
set_option maxHeartbeats 4000000 in
set_option maxRecDepth 100000 in
theorem c_X7_barrel (l : Launch) (D : va_G) (ad : Nat → Nat) (cA : ClassId) (n : Nat) (F : tF) (G : tG) (a1 : Int32) {r : Int32} {F' : tF} {G' : tG} (h : p_X7_barrel F G a1 = some (r, F', G')) : CI l yX7_barrel wsX7_barrel ({ frames := 4, cells := 0, slots := 0, locals := 86 } : Room) D cA (wC ad cA F G) [.ref (ad 0), .int (a1)] r (wC ad cA F' G') := by
  rw [p_X7_barrel] at h
  refine metIm (w := wC ad cA) (cc := cX7_barrel) (maxL := 2) (by decide) rfl (Nat.le_of_ble_eq_true rfl) ?_
  intro p e s m args below meth c A ls Q hE hret
  obtain ⟨hx, hb, hts, hown, hml, hP, hK, hD, hN, hA, hl⟩ := hE
  have hown : s.vm.findClass RX7 = some m.cls := hown
  have hl : lv_has ls 2 [(0, .ref (ad 0)), (1, .int (a1))] := hl
  have hS : va_S A s.heap s.heap [] := va_S.rf
  have k_0 : (Cond.fieldLink RX7 12 "BellBook" "bell" "LBellBook$Bell;").before args s = true := hts _ (List.mem_of_getElem? (i := 1) rfl)
  have n_7 : ∀ w ∈ u_ws RX7 TX7 6, w ∈ wsX7_barrel := fun w hw => List.mem_cons_of_mem _ (List.mem_append_left _ (List.mem_append_right _ hw))
  have k_2 : (Cond.fieldLink RX7 80 "BellBook$Bell" "barrels" "I").before args s = true := hts _ (List.mem_of_getElem? (i := 2) rfl)
  have n_0 : ∀ w ∈ u_ws RX0 TX0 12, w ∈ wsX7_barrel := fun w hw => List.mem_cons_of_mem _ (List.mem_append_right _ hw)
  refine lv_iload_n hx hb dX7_barrel_0 rfl (lv_at hl 1 rfl) ?_
  refine lv_iconst (v := 1) hx hb dX7_barrel_1 (by decide) ?_
  refine lv_sipush (v := 500) hx hb dX7_barrel_2 (by decide) ?_
  obtain ⟨x5, h5, h⟩ := bi1e h
  refine callSI (As := [.int (a1), .int (1), .int (500)]) (rest := []) ⟨hx, hb, hml, hown, hts⟩ (c_X7_within l D ad cA n F G a1 1 500 h5) (va_cwS 3 hts gX7_barrel_X7_within rfl rfl rfl (by decide +kernel) ⟨Nat.le_of_ble_eq_true rfl, Nat.le_of_ble_eq_true rfl⟩) hP hK hD hN hS hA rfl hl.1 rfl (Nat.le_of_ble_eq_true rfl) dX7_barrel_5 ⟨Nat.zero_le _, Nat.zero_le _⟩ (fun H locs hP hD hS => ?_)
  refine lv_if_ne (tgt := 14) hx hb dX7_barrel_8 (by decide) (fun c8 => ?_) (fun c8 => ?_)
  · replace h := ifn h c8
    refine lv_aload_n hx hb dX7_barrel_14 rfl (lv_at hl 0 rfl) ?_
    refine va_get (D := D) (ci := 7) (fs := vX7 ad F) (v := .ref (ad 1)) (C := RX7) (T := TX7) (N := 6) hx hb hts n_7 hown hK hP 0 wCg0 rfl 0 (by decide) k_0 (fun _ h9 => h9) rfl dX7_barrel_15 ?_
    refine va_get (D := D) (ci := 0) (fs := vX0 ad F) (v := .int ((F 8))) (C := RX0) (T := TX0) (N := 12) hx hb hts n_0 hown hK hP 1 wCg1 rfl 7 (by decide) k_2 (fun _ h9 => h9) rfl dX7_barrel_18 ?_
    refine lv_bipush (v := 40) hx hb dX7_barrel_21 (by decide) ?_
    refine lv_icmp_lt (tgt := 29) hx hb dX7_barrel_23 (by decide) (fun c23 => ?_) (fun c23 => ?_)
    · replace h := ifp h c23
      refine lv_aload_n hx hb dX7_barrel_29 rfl (lv_at hl 0 rfl) ?_
      refine va_get (D := D) (ci := 7) (fs := vX7 ad F) (v := .ref (ad 1)) (C := RX7) (T := TX7) (N := 6) hx hb hts n_7 hown hK hP 0 wCg0 rfl 0 (by decide) k_0 (fun _ h9 => h9) rfl dX7_barrel_30 ?_
      refine lv_iload_n hx hb dX7_barrel_33 rfl (lv_at hl 1 rfl) ?_
      obtain ⟨x34, F34, G34, h34, h⟩ := bi3e h
      refine callVI (b := ad 1) (As := [.int (a1)]) (rest := []) ⟨hx, hb, hml, hown, hts⟩ (c_X0_letIn l D ad cA n F G a1 h34) (cwV 1 hts gX7_barrel_X0_letIn rfl rfl rfl (by decide +kernel) ⟨Nat.le_of_ble_eq_true rfl, Nat.le_of_ble_eq_true rfl⟩) (va_recv hK hP (ci := 0) (q0 := 1) rfl wCg1) hP hK hD hN hS hA rfl hl.1 rfl (Nat.le_of_ble_eq_true rfl) dX7_barrel_34 ⟨Nat.zero_le _, Nat.zero_le _⟩ (fun H locs hP hD hS => ?_)
      exact hret _ _ _ _ _ _ _ dX7_barrel_37 h hP hD hS
    · replace h := ifn h c23
      refine lv_bipush (v := (-4)) hx hb dX7_barrel_26 (by decide) ?_
      exact hret _ _ _ _ _ _ _ dX7_barrel_28 h hP hD hS
  · replace h := ifp h c8
    refine lv_bipush (v := (-2)) hx hb dX7_barrel_11 (by decide) ?_
    exact hret _ _ _ _ _ _ _ dX7_barrel_13 h hP hD hS

def p_X7_best (n : Nat) (F : tF) (G : tG) (a1 : Int32) : Option (Int32 × tF × tG) :=
  (if (-3) ≤ a1 then bi2 (p_X6_bestPlan n F G) (fun F13 G13 => (if a1 = (-1) then some ((F13 21), F13, G13) else (if a1 = (-2) then some ((F13 22), F13, G13) else (if a1 = (-3) then some ((F13 20), F13, G13) else bi1 ((if (F13 20) ≤ a1 then some ((-6)) else oguard (inB a1 12) (some ((G13 13 a1.toNatClampNeg))))) (fun (y54_0 : Int32) => some (y54_0, F13, G13)))))) else some ((-2), F, G))
set_option maxHeartbeats 4000000 in
set_option maxRecDepth 100000 in
theorem c_X7_best (l : Launch) (D : va_G) (ad : Nat → Nat) (cA : ClassId) (n : Nat) (F : tF) (G : tG) (a1 : Int32) {r : Int32} {F' : tF} {G' : tG} (h : p_X7_best n F G a1 = some (r, F', G')) : CI l yX7_best wsX7_best ({ frames := 6, cells := 0, slots := 0, locals := 137 } : Room) D cA (wC ad cA F G) [.ref (ad 0), .int (a1)] r (wC ad cA F' G') := by
  rw [p_X7_best] at h
  refine metIm (w := wC ad cA) (cc := cX7_best) (maxL := 3) (by decide) rfl (Nat.le_of_ble_eq_true rfl) ?_
  intro p e s m args below meth c A ls Q hE hret
  obtain ⟨hx, hb, hts, hown, hml, hP, hK, hD, hN, hA, hl⟩ := hE
  have hown : s.vm.findClass RX7 = some m.cls := hown
  have hl : lv_has ls 3 [(0, .ref (ad 0)), (1, .int (a1))] := hl
  have hS : va_S A s.heap s.heap [] := va_S.rf
  have k_0 : (Cond.fieldLink RX7 26 "BellBook" "wreck" "LBellBook$Wreck;").before args s = true := hts _ (List.mem_of_getElem? (i := 1) rfl)
  have n_7 : ∀ w ∈ u_ws RX7 TX7 6, w ∈ wsX7_best := fun w hw => List.mem_cons_of_mem _ (List.mem_append_left _ (List.mem_append_left _ (List.mem_append_left _ (List.mem_append_right _ hw))))
  have k_2 : (Cond.fieldLink RX7 259 "BellBook$Plan" "count" "I").before args s = true := hts _ (List.mem_of_getElem? (i := 4) rfl)
  have n_4 : ∀ w ∈ u_ws RX4 TX4 6, w ∈ wsX7_best := fun w hw => List.mem_cons_of_mem _ (List.mem_append_left _ (List.mem_append_left _ (List.mem_append_right _ hw)))
  have k_4 : (Cond.fieldLink RX7 260 "BellBook$Plan" "order" "[I").before args s = true := hts _ (List.mem_of_getElem? (i := 5) rfl)
  have k_5 : (Cond.fieldLink RX7 256 "BellBook$Plan" "toil" "I").before args s = true := hts _ (List.mem_of_getElem? (i := 3) rfl)
  have k_6 : (Cond.fieldLink RX7 251 "BellBook$Plan" "hope" "I").before args s = true := hts _ (List.mem_of_getElem? (i := 2) rfl)
  refine lv_iload_n hx hb dX7_best_0 rfl (lv_at hl 1 rfl) ?_
  refine lv_bipush (v := (-3)) hx hb dX7_best_1 (by decide) ?_
  refine lv_icmp_ge (tgt := 9) hx hb dX7_best_3 (by decide) (fun c3 => ?_) (fun c3 => ?_)
  · replace h := ifp h c3
    refine lv_aload_n hx hb dX7_best_9 rfl (lv_at hl 0 rfl) ?_
    refine va_get (D := D) (ci := 7) (fs := vX7 ad F) (v := .ref (ad 9)) (C := RX7) (T := TX7) (N := 6) hx hb hts n_7 hown hK hP 0 wCg0 rfl 2 (by decide) k_0 (fun _ h9 => h9) rfl dX7_best_10 ?_
    obtain ⟨F13, G13, h13, h⟩ := bi2e h
    refine callVR (b := ad 9) (As := []) (rest := []) ⟨hx, hb, hml, hown, hts⟩ (c_X6_bestPlan l D ad cA n F G h13) (cwV 0 hts gX7_best_X6_bestPlan rfl rfl rfl (by decide +kernel) ⟨Nat.le_of_ble_eq_true rfl, Nat.le_of_ble_eq_true rfl⟩) (va_recv hK hP (ci := 6) (q0 := 9) rfl wCg9) hP hK hD hN hS hA rfl hl.1 rfl (Nat.le_of_ble_eq_true rfl) dX7_best_13 ⟨Nat.zero_le _, Nat.zero_le _⟩ (fun H locs hP hD hS => ?_)
    refine lv_astore_n (lv' := [(2, .ref (ad 18)), (0, .ref (ad 0)), (1, .int (a1))]) hx hb dX7_best_16 rfl hl (by decide) rfl (fun ls hl => ?_)
    refine lv_iload_n hx hb dX7_best_17 rfl (lv_at hl 2 rfl) ?_
    refine lv_iconst (v := (-1)) hx hb dX7_best_18 (by decide) ?_
    refine lv_icmp_ne (tgt := 27) hx hb dX7_best_19 (by decide) (fun c19 => ?_) (fun c19 => ?_)
    · replace h := ifn h c19
      refine lv_iload_n hx hb dX7_best_27 rfl (lv_at hl 2 rfl) ?_
      refine lv_bipush (v := (-2)) hx hb dX7_best_28 (by decide) ?_
      refine lv_icmp_ne (tgt := 38) hx hb dX7_best_30 (by decide) (fun c30 => ?_) (fun c30 => ?_)
      · replace h := ifn h c30
        refine lv_iload_n hx hb dX7_best_38 rfl (lv_at hl 2 rfl) ?_
        refine lv_bipush (v := (-3)) hx hb dX7_best_39 (by decide) ?_
        refine lv_icmp_ne (tgt := 49) hx hb dX7_best_41 (by decide) (fun c41 => ?_) (fun c41 => ?_)
        · replace h := ifn h c41
          refine lv_iload_n hx hb dX7_best_49 rfl (lv_at hl 2 rfl) ?_
          refine lv_aload_n hx hb dX7_best_50 rfl (lv_at hl 0 rfl) ?_
          refine va_get (D := D) (ci := 4) (fs := vX4 ad F13) (v := .int ((F13 20))) (C := RX4) (T := TX4) (N := 6) hx hb hts n_4 hown hK hP 18 wCg18 rfl 2 (by decide) k_2 (fun _ h9 => h9) rfl dX7_best_51 ?_
          obtain ⟨y54_0, q54, h⟩ := bi1e h
          have J54 : ∀ (wy54_0 : Int32), some (wy54_0) = some (y54_0) → ∀ (H : Heap) (locs : List Loc) (ls : Array Slot), va_P D vwCl (wC ad cA F13 G13) H → va_D A (wC ad cA F13 G13) → va_S A s.heap H locs → lv_has ls 3 [(2, .ref (ad 18)), (0, .ref (ad 0)), (1, .int (a1))] → W p l e ({ frames := 6, cells := 0, slots := 0, locals := 137 } : Room) s m args below meth c H locs 0 0 Q (F0 m 68 ls [.int (wy54_0)]) := by
            intro wy54_0 e9 H locs ls hP hD hS hl
            cases e9
            exact hret _ _ _ _ _ _ _ dX7_best_68 h hP hD hS
          refine lv_icmp_ge (tgt := 66) hx hb dX7_best_54 (by decide) (fun c54 => ?_) (fun c54 => ?_)
          · replace q54 := ifp q54 c54
            refine lv_bipush (v := (-6)) hx hb dX7_best_66 (by decide) ?_
            exact J54 _ q54 _ _ _ hP hD hS (lv_sub hl [0, 1, 2] rfl)
          · replace q54 := ifn q54 c54
            refine lv_aload_n hx hb dX7_best_57 rfl (lv_at hl 0 rfl) ?_
            refine va_get (D := D) (ci := 4) (fs := vX4 ad F13) (v := .ref (ad 19)) (C := RX4) (T := TX4) (N := 6) hx hb hts n_4 hown hK hP 18 wCg18 rfl 0 (by decide) k_4 (fun _ h9 => h9) rfl dX7_best_58 ?_
            refine lv_iload_n hx hb dX7_best_61 rfl (lv_at hl 2 rfl) ?_
            obtain ⟨g62, q54⟩ := og q54
            refine va_iald (D := D) hx hb hK hP 19 0 wCg19 rfl (inB_in g62) dX7_best_62 ?_
            refine lv_goto (tgt := 68) hx hb dX7_best_63 (by decide) ?_
            exact J54 _ q54 _ _ _ hP hD hS (lv_sub hl [0, 1, 2] rfl)
        · replace h := ifp h c41
          refine lv_aload_n hx hb dX7_best_44 rfl (lv_at hl 0 rfl) ?_
          refine va_get (D := D) (ci := 4) (fs := vX4 ad F13) (v := .int ((F13 20))) (C := RX4) (T := TX4) (N := 6) hx hb hts n_4 hown hK hP 18 wCg18 rfl 2 (by decide) k_2 (fun _ h9 => h9) rfl dX7_best_45 ?_
          exact hret _ _ _ _ _ _ _ dX7_best_48 h hP hD hS
      · replace h := ifp h c30
        refine lv_aload_n hx hb dX7_best_33 rfl (lv_at hl 0 rfl) ?_
        refine va_get (D := D) (ci := 4) (fs := vX4 ad F13) (v := .int ((F13 22))) (C := RX4) (T := TX4) (N := 6) hx hb hts n_4 hown hK hP 18 wCg18 rfl 4 (by decide) k_5 (fun _ h9 => h9) rfl dX7_best_34 ?_
        exact hret _ _ _ _ _ _ _ dX7_best_37 h hP hD hS
    · replace h := ifp h c19
      refine lv_aload_n hx hb dX7_best_22 rfl (lv_at hl 0 rfl) ?_
      refine va_get (D := D) (ci := 4) (fs := vX4 ad F13) (v := .int ((F13 21))) (C := RX4) (T := TX4) (N := 6) hx hb hts n_4 hown hK hP 18 wCg18 rfl 3 (by decide) k_6 (fun _ h9 => h9) rfl dX7_best_23 ?_
      exact hret _ _ _ _ _ _ _ dX7_best_26 h hP hD hS
  · replace h := ifn h c3
    refine lv_bipush (v := (-2)) hx hb dX7_best_6 (by decide) ?_
    exact hret _ _ _ _ _ _ _ dX7_best_8 h hP hD hS

def p_X7_breath (F : tF) (G : tG) (a1 : Int32) : Option (Int32 × tF × tG) :=
  bi1 (p_X7_within a1 1 30) (fun x4 => (if x4 = 0 then some ((-2), F, G) else plet (F 11) (fun (x20 : Int32) => plet (upd F 11 a1) (fun (F26 : tF) => some (x20, F26, G)))))
set_option maxHeartbeats 4000000 in
set_option maxRecDepth 100000 in
theorem c_X7_breath (l : Launch) (D : va_G) (ad : Nat → Nat) (cA : ClassId) (n : Nat) (F : tF) (G : tG) (a1 : Int32) {r : Int32} {F' : tF} {G' : tG} (h : p_X7_breath F G a1 = some (r, F', G')) : CI l yX7_breath wsX7_breath ({ frames := 1, cells := 0, slots := 0, locals := 22 } : Room) D cA (wC ad cA F G) [.ref (ad 0), .int (a1)] r (wC ad cA F' G') := by
  rw [p_X7_breath] at h
  refine metIm (w := wC ad cA) (cc := cX7_breath) (maxL := 3) (by decide) rfl (Nat.le_of_ble_eq_true rfl) ?_
  intro p e s m args below meth c A ls Q hE hret
  obtain ⟨hx, hb, hts, hown, hml, hP, hK, hD, hN, hA, hl⟩ := hE
  have hown : s.vm.findClass RX7 = some m.cls := hown
  have hl : lv_has ls 3 [(0, .ref (ad 0)), (1, .int (a1))] := hl
  have hS : va_S A s.heap s.heap [] := va_S.rf
  have k_0 : (Cond.fieldLink RX7 12 "BellBook" "bell" "LBellBook$Bell;").before args s = true := hts _ (List.mem_of_getElem? (i := 1) rfl)
  have n_7 : ∀ w ∈ u_ws RX7 TX7 6, w ∈ wsX7_breath := fun w hw => List.mem_cons_of_mem _ (List.mem_append_left _ (List.mem_append_right _ hw))
  have k_2 : (Cond.fieldLink RX7 86 "BellBook$Bell" "breath" "I").before args s = true := hts _ (List.mem_of_getElem? (i := 2) rfl)
  have n_0 : ∀ w ∈ u_ws RX0 TX0 12, w ∈ wsX7_breath := fun w hw => List.mem_cons_of_mem _ (List.mem_append_right _ hw)
  refine lv_iload_n hx hb dX7_breath_0 rfl (lv_at hl 1 rfl) ?_
  refine lv_iconst (v := 1) hx hb dX7_breath_1 (by decide) ?_
  refine lv_bipush (v := 30) hx hb dX7_breath_2 (by decide) ?_
  obtain ⟨x4, h4, h⟩ := bi1e h
  refine callSI (As := [.int (a1), .int (1), .int (30)]) (rest := []) ⟨hx, hb, hml, hown, hts⟩ (c_X7_within l D ad cA n F G a1 1 30 h4) (va_cwS 3 hts gX7_breath_X7_within rfl rfl rfl (by decide +kernel) ⟨Nat.le_of_ble_eq_true rfl, Nat.le_of_ble_eq_true rfl⟩) hP hK hD hN hS hA rfl hl.1 rfl (Nat.le_of_ble_eq_true rfl) dX7_breath_4 ⟨Nat.zero_le _, Nat.zero_le _⟩ (fun H locs hP hD hS => ?_)
  refine lv_if_ne (tgt := 13) hx hb dX7_breath_7 (by decide) (fun c7 => ?_) (fun c7 => ?_)
  · replace h := ifn h c7
    refine lv_aload_n hx hb dX7_breath_13 rfl (lv_at hl 0 rfl) ?_
    refine va_get (D := D) (ci := 7) (fs := vX7 ad F) (v := .ref (ad 1)) (C := RX7) (T := TX7) (N := 6) hx hb hts n_7 hown hK hP 0 wCg0 rfl 0 (by decide) k_0 (fun _ h9 => h9) rfl dX7_breath_14 ?_
    refine va_get (D := D) (ci := 0) (fs := vX0 ad F) (v := .int ((F 11))) (C := RX0) (T := TX0) (N := 12) hx hb hts n_0 hown hK hP 1 wCg1 rfl 10 (by decide) k_2 (fun _ h9 => h9) rfl dX7_breath_17 ?_
    refine lv_topi (fun x20 ex20 => ?_)
    replace h := pl h ex20
    refine lv_istore_n (lv' := [(2, .int (x20)), (0, .ref (ad 0)), (1, .int (a1))]) hx hb dX7_breath_20 rfl hl (by decide) rfl (fun ls hl => ?_)
    refine lv_aload_n hx hb dX7_breath_21 rfl (lv_at hl 1 rfl) ?_
    refine va_get (D := D) (ci := 7) (fs := vX7 ad F) (v := .ref (ad 1)) (C := RX7) (T := TX7) (N := 6) hx hb hts n_7 hown hK hP 0 wCg0 rfl 0 (by decide) k_0 (fun _ h9 => h9) rfl dX7_breath_22 ?_
    refine lv_iload_n hx hb dX7_breath_25 rfl (lv_at hl 2 rfl) ?_
    obtain ⟨F26, eF26⟩ : ∃ f : tF, f = upd F 11 a1 := ⟨_, rfl⟩
    replace h := pl h eF26
    refine va_put (D := D) (ci := 0) (fs := vX0 ad F) (v := .int (a1)) (ty := .int) (C := RX0) (T := TX0) (N := 12) hx hb hts n_0 tyX0 tyX0_ok nmX0 hown hK hP hD hS 1 wCg1 rfl 10 (by decide) k_2 (fun _ h9 => h9) rfl (tyX0_ok 10 (by decide)) rfl rfl (Nat.le_of_ble_eq_true rfl) dX7_breath_26 (fun H locs hP hD hS => ?_)
    rw [wCp11 eF26] at hP hD
    refine lv_iload_n hx hb dX7_breath_29 rfl (lv_at hl 0 rfl) ?_
    exact hret _ _ _ _ _ _ _ dX7_breath_30 h hP hD hS
  · replace h := ifp h c7
    refine lv_bipush (v := (-2)) hx hb dX7_breath_10 (by decide) ?_
    exact hret _ _ _ _ _ _ _ dX7_breath_12 h hP hD hS

def p_X7_calm (F : tF) (G : tG) : Option (Int32 × tF × tG) :=
  bi3 (p_X6_dropTides F G) (fun x4 F4 G4 => some (x4, F4, G4))
set_option maxHeartbeats 4000000 in
set_option maxRecDepth 100000 in
theorem c_X7_calm (l : Launch) (D : va_G) (ad : Nat → Nat) (cA : ClassId) (n : Nat) (F : tF) (G : tG) {r : Int32} {F' : tF} {G' : tG} (h : p_X7_calm F G = some (r, F', G')) : CI l yX7_calm wsX7_calm ({ frames := 1, cells := 0, slots := 0, locals := 21 } : Room) D cA (wC ad cA F G) [.ref (ad 0)] r (wC ad cA F' G') := by
  rw [p_X7_calm] at h
  refine metIm (w := wC ad cA) (cc := cX7_calm) (maxL := 1) (by decide) rfl (Nat.le_of_ble_eq_true rfl) ?_
  intro p e s m args below meth c A ls Q hE hret
  obtain ⟨hx, hb, hts, hown, hml, hP, hK, hD, hN, hA, hl⟩ := hE
  have hown : s.vm.findClass RX7 = some m.cls := hown
  have hl : lv_has ls 1 [(0, .ref (ad 0))] := hl
  have hS : va_S A s.heap s.heap [] := va_S.rf
  have k_0 : (Cond.fieldLink RX7 26 "BellBook" "wreck" "LBellBook$Wreck;").before args s = true := hts _ (List.mem_of_getElem? (i := 1) rfl)
  have n_7 : ∀ w ∈ u_ws RX7 TX7 6, w ∈ wsX7_calm := fun w hw => List.mem_cons_of_mem _ (List.mem_append_left _ (List.mem_append_left _ (List.mem_append_right _ hw)))
  refine lv_aload_n hx hb dX7_calm_0 rfl (lv_at hl 0 rfl) ?_
  refine va_get (D := D) (ci := 7) (fs := vX7 ad F) (v := .ref (ad 9)) (C := RX7) (T := TX7) (N := 6) hx hb hts n_7 hown hK hP 0 wCg0 rfl 2 (by decide) k_0 (fun _ h9 => h9) rfl dX7_calm_1 ?_
  obtain ⟨x4, F4, G4, h4, h⟩ := bi3e h
  refine callVI (b := ad 9) (As := []) (rest := []) ⟨hx, hb, hml, hown, hts⟩ (c_X6_dropTides l D ad cA n F G h4) (cwV 0 hts gX7_calm_X6_dropTides rfl rfl rfl (by decide +kernel) ⟨Nat.le_of_ble_eq_true rfl, Nat.le_of_ble_eq_true rfl⟩) (va_recv hK hP (ci := 6) (q0 := 9) rfl wCg9) hP hK hD hN hS hA rfl hl.1 rfl (Nat.le_of_ble_eq_true rfl) dX7_calm_4 ⟨Nat.zero_le _, Nat.zero_le _⟩ (fun H locs hP hD hS => ?_)
  exact hret _ _ _ _ _ _ _ dX7_calm_7 h hP hD hS

def p_X7_depth (n : Nat) (F : tF) (G : tG) (a1 : Int32) : Option (Int32 × tF × tG) :=
  bi1 (p_X7_within a1 0 90) (fun x4 => (if x4 = 0 then some ((-2), F, G) else bi1 (p_X2_anyOut n G) (fun x17 => (if x17 = 0 then plet (upd F 2 a1) (fun (F31 : tF) => bi3 (p_X0_spillOver F31 G) (fun x38 F38 G38 => some (x38, F38, G38))) else some ((-3), F, G)))))
set_option maxHeartbeats 4000000 in
set_option maxRecDepth 100000 in
theorem c_X7_depth (l : Launch) (D : va_G) (ad : Nat → Nat) (cA : ClassId) (n : Nat) (F : tF) (G : tG) (a1 : Int32) {r : Int32} {F' : tF} {G' : tG} (h : p_X7_depth n F G a1 = some (r, F', G')) : CI l yX7_depth wsX7_depth ({ frames := 3, cells := 0, slots := 0, locals := 65 } : Room) D cA (wC ad cA F G) [.ref (ad 0), .int (a1)] r (wC ad cA F' G') := by
  rw [p_X7_depth] at h
  refine metIm (w := wC ad cA) (cc := cX7_depth) (maxL := 2) (by decide) rfl (Nat.le_of_ble_eq_true rfl) ?_
  intro p e s m args below meth c A ls Q hE hret
  obtain ⟨hx, hb, hts, hown, hml, hP, hK, hD, hN, hA, hl⟩ := hE
  have hown : s.vm.findClass RX7 = some m.cls := hown
  have hl : lv_has ls 2 [(0, .ref (ad 0)), (1, .int (a1))] := hl
  have hS : va_S A s.heap s.heap [] := va_S.rf
  have k_0 : (Cond.fieldLink RX7 19 "BellBook" "crew" "LBellBook$Crew;").before args s = true := hts _ (List.mem_of_getElem? (i := 1) rfl)
  have n_7 : ∀ w ∈ u_ws RX7 TX7 6, w ∈ wsX7_depth := fun w hw => List.mem_cons_of_mem _ (List.mem_append_left _ (List.mem_append_left _ (List.mem_append_right _ hw)))
  have k_2 : (Cond.fieldLink RX7 12 "BellBook" "bell" "LBellBook$Bell;").before args s = true := hts _ (List.mem_of_getElem? (i := 2) rfl)
  have k_3 : (Cond.fieldLink RX7 56 "BellBook$Bell" "depth" "I").before args s = true := hts _ (List.mem_of_getElem? (i := 3) rfl)
  have n_0 : ∀ w ∈ u_ws RX0 TX0 12, w ∈ wsX7_depth := fun w hw => List.mem_cons_of_mem _ (List.mem_append_left _ (List.mem_append_right _ hw))
  refine lv_iload_n hx hb dX7_depth_0 rfl (lv_at hl 1 rfl) ?_
  refine lv_iconst (v := 0) hx hb dX7_depth_1 (by decide) ?_
  refine lv_bipush (v := 90) hx hb dX7_depth_2 (by decide) ?_
  obtain ⟨x4, h4, h⟩ := bi1e h
  refine callSI (As := [.int (a1), .int (0), .int (90)]) (rest := []) ⟨hx, hb, hml, hown, hts⟩ (c_X7_within l D ad cA n F G a1 0 90 h4) (va_cwS 3 hts gX7_depth_X7_within rfl rfl rfl (by decide +kernel) ⟨Nat.le_of_ble_eq_true rfl, Nat.le_of_ble_eq_true rfl⟩) hP hK hD hN hS hA rfl hl.1 rfl (Nat.le_of_ble_eq_true rfl) dX7_depth_4 ⟨Nat.zero_le _, Nat.zero_le _⟩ (fun H locs hP hD hS => ?_)
  refine lv_if_ne (tgt := 13) hx hb dX7_depth_7 (by decide) (fun c7 => ?_) (fun c7 => ?_)
  · replace h := ifn h c7
    refine lv_aload_n hx hb dX7_depth_13 rfl (lv_at hl 0 rfl) ?_
    refine va_get (D := D) (ci := 7) (fs := vX7 ad F) (v := .ref (ad 2)) (C := RX7) (T := TX7) (N := 6) hx hb hts n_7 hown hK hP 0 wCg0 rfl 1 (by decide) k_0 (fun _ h9 => h9) rfl dX7_depth_14 ?_
    obtain ⟨x17, h17, h⟩ := bi1e h
    refine callVI (b := ad 2) (As := []) (rest := []) ⟨hx, hb, hml, hown, hts⟩ (c_X2_anyOut l D ad cA n F G h17) (cwV 0 hts gX7_depth_X2_anyOut rfl rfl rfl (by decide +kernel) ⟨Nat.le_of_ble_eq_true rfl, Nat.le_of_ble_eq_true rfl⟩) (va_recv hK hP (ci := 2) (q0 := 2) rfl wCg2) hP hK hD hN hS hA rfl hl.1 rfl (Nat.le_of_ble_eq_true rfl) dX7_depth_17 ⟨Nat.zero_le _, Nat.zero_le _⟩ (fun H locs hP hD hS => ?_)
    refine lv_if_eq (tgt := 26) hx hb dX7_depth_20 (by decide) (fun c20 => ?_) (fun c20 => ?_)
    · replace h := ifp h c20
      refine lv_aload_n hx hb dX7_depth_26 rfl (lv_at hl 0 rfl) ?_
      refine va_get (D := D) (ci := 7) (fs := vX7 ad F) (v := .ref (ad 1)) (C := RX7) (T := TX7) (N := 6) hx hb hts n_7 hown hK hP 0 wCg0 rfl 0 (by decide) k_2 (fun _ h9 => h9) rfl dX7_depth_27 ?_
      refine lv_iload_n hx hb dX7_depth_30 rfl (lv_at hl 1 rfl) ?_
      obtain ⟨F31, eF31⟩ : ∃ f : tF, f = upd F 2 a1 := ⟨_, rfl⟩
      replace h := pl h eF31
      refine va_put (D := D) (ci := 0) (fs := vX0 ad F) (v := .int (a1)) (ty := .int) (C := RX0) (T := TX0) (N := 12) hx hb hts n_0 tyX0 tyX0_ok nmX0 hown hK hP hD hS 1 wCg1 rfl 1 (by decide) k_3 (fun _ h9 => h9) rfl (tyX0_ok 1 (by decide)) rfl rfl (Nat.le_of_ble_eq_true rfl) dX7_depth_31 (fun H locs hP hD hS => ?_)
      rw [wCp2 eF31] at hP hD
      refine lv_aload_n hx hb dX7_depth_34 rfl (lv_at hl 0 rfl) ?_
      refine va_get (D := D) (ci := 7) (fs := vX7 ad F31) (v := .ref (ad 1)) (C := RX7) (T := TX7) (N := 6) hx hb hts n_7 hown hK hP 0 wCg0 rfl 0 (by decide) k_2 (fun _ h9 => h9) rfl dX7_depth_35 ?_
      obtain ⟨x38, F38, G38, h38, h⟩ := bi3e h
      refine callVI (b := ad 1) (As := []) (rest := []) ⟨hx, hb, hml, hown, hts⟩ (c_X0_spillOver l D ad cA n F31 G h38) (cwV 0 hts gX7_depth_X0_spillOver rfl rfl rfl (by decide +kernel) ⟨Nat.le_of_ble_eq_true rfl, Nat.le_of_ble_eq_true rfl⟩) (va_recv hK hP (ci := 0) (q0 := 1) rfl wCg1) hP hK hD hN hS hA rfl hl.1 rfl (Nat.le_of_ble_eq_true rfl) dX7_depth_38 ⟨Nat.zero_le _, Nat.zero_le _⟩ (fun H locs hP hD hS => ?_)
      exact hret _ _ _ _ _ _ _ dX7_depth_41 h hP hD hS
    · replace h := ifn h c20
      refine lv_bipush (v := (-3)) hx hb dX7_depth_23 (by decide) ?_
      exact hret _ _ _ _ _ _ _ dX7_depth_25 h hP hD hS
  · replace h := ifp h c7
    refine lv_bipush (v := (-2)) hx hb dX7_depth_10 (by decide) ?_
    exact hret _ _ _ _ _ _ _ dX7_depth_12 h hP hD hS

def p_X7_distance (a0 : Int32) (a1 : Int32) : Option (Int32) :=
  bi1 (p_X7_apart (a0 - a0 / 7 * 7) (a0 / 7) (a1 - a1 / 7 * 7) (a1 / 7)) (fun x16 => some x16)
set_option maxHeartbeats 4000000 in
set_option maxRecDepth 100000 in
theorem c_X7_distance (l : Launch) (D : va_G) (ad : Nat → Nat) (cA : ClassId) (n : Nat) (F : tF) (G : tG) (a0 : Int32) (a1 : Int32) {r : Int32} (h : p_X7_distance a0 a1 = some r) : CI l yX7_distance wsX7_distance ({ frames := 2, cells := 0, slots := 0, locals := 44 } : Room) D cA (wC ad cA F G) [.int (a0), .int (a1)] r (wC ad cA F G) := by
  rw [p_X7_distance] at h
  refine metIr (w := wC ad cA) (cc := cX7_distance) (maxL := 2) (by decide) rfl (Nat.le_of_ble_eq_true rfl) ?_
  intro p e s m args below meth c A ls Q hE hret
  obtain ⟨hx, hb, hts, hown, hml, hP, hK, hD, hN, hA, hl⟩ := hE
  have hown : s.vm.findClass RX7 = some m.cls := hown
  have hl : lv_has ls 2 [(0, .int (a0)), (1, .int (a1))] := hl
  have hS : va_S A s.heap s.heap [] := va_S.rf
  refine lv_iload_n hx hb dX7_distance_0 rfl (lv_at hl 0 rfl) ?_
  refine lv_bipush (v := 7) hx hb dX7_distance_1 (by decide) ?_
  refine lv_irem hx hb dX7_distance_3 (by decide) ?_
  refine lv_iload_n hx hb dX7_distance_4 rfl (lv_at hl 0 rfl) ?_
  refine lv_bipush (v := 7) hx hb dX7_distance_5 (by decide) ?_
  refine lv_idiv hx hb dX7_distance_7 (by decide) ?_
  refine lv_iload_n hx hb dX7_distance_8 rfl (lv_at hl 1 rfl) ?_
  refine lv_bipush (v := 7) hx hb dX7_distance_9 (by decide) ?_
  refine lv_irem hx hb dX7_distance_11 (by decide) ?_
  refine lv_iload_n hx hb dX7_distance_12 rfl (lv_at hl 1 rfl) ?_
  refine lv_bipush (v := 7) hx hb dX7_distance_13 (by decide) ?_
  refine lv_idiv hx hb dX7_distance_15 (by decide) ?_
  obtain ⟨x16, h16, h⟩ := bi1e h
  refine callSI (As := [.int ((a0 - a0 / 7 * 7)), .int ((a0 / 7)), .int ((a1 - a1 / 7 * 7)), .int ((a1 / 7))]) (rest := []) ⟨hx, hb, hml, hown, hts⟩ (c_X7_apart l D ad cA n F G (a0 - a0 / 7 * 7) (a0 / 7) (a1 - a1 / 7 * 7) (a1 / 7) h16) (va_cwS 4 hts gX7_distance_X7_apart rfl rfl rfl (by decide +kernel) ⟨Nat.le_of_ble_eq_true rfl, Nat.le_of_ble_eq_true rfl⟩) hP hK hD hN hS hA rfl hl.1 rfl (Nat.le_of_ble_eq_true rfl) dX7_distance_16 ⟨Nat.zero_le _, Nat.zero_le _⟩ (fun H locs hP hD hS => ?_)
  exact hret _ _ _ _ _ dX7_distance_19 h hP hD hS

def p_X7_isMan (a0 : Int32) : Option (Int32) :=
  bi1 (p_X7_within a0 0 5) (fun x3 => oguard (btB x3) (some x3))
set_option maxHeartbeats 4000000 in
set_option maxRecDepth 100000 in
theorem c_X7_isMan (l : Launch) (D : va_G) (ad : Nat → Nat) (cA : ClassId) (n : Nat) (F : tF) (G : tG) (a0 : Int32) {r : Int32} (h : p_X7_isMan a0 = some r) : CI l yX7_isMan wsX7_isMan ({ frames := 1, cells := 0, slots := 0, locals := 22 } : Room) D cA (wC ad cA F G) [.int (a0)] r (wC ad cA F G) := by
  rw [p_X7_isMan] at h
  refine metZr (w := wC ad cA) (cc := cX7_isMan) (maxL := 1) (by decide) rfl (Nat.le_of_ble_eq_true rfl) ?_
  intro p e s m args below meth c A ls Q hE hret
  obtain ⟨hx, hb, hts, hown, hml, hP, hK, hD, hN, hA, hl⟩ := hE
  have hown : s.vm.findClass RX7 = some m.cls := hown
  have hl : lv_has ls 1 [(0, .int (a0))] := hl
  have hS : va_S A s.heap s.heap [] := va_S.rf
  refine lv_iload_n hx hb dX7_isMan_0 rfl (lv_at hl 0 rfl) ?_
  refine lv_iconst (v := 0) hx hb dX7_isMan_1 (by decide) ?_
  refine lv_iconst (v := 5) hx hb dX7_isMan_2 (by decide) ?_
  obtain ⟨x3, h3, h⟩ := bi1e h
  refine callSI (As := [.int (a0), .int (0), .int (5)]) (rest := []) ⟨hx, hb, hml, hown, hts⟩ (c_X7_within l D ad cA n F G a0 0 5 h3) (va_cwS 3 hts gX7_isMan_X7_within rfl rfl rfl (by decide +kernel) ⟨Nat.le_of_ble_eq_true rfl, Nat.le_of_ble_eq_true rfl⟩) hP hK hD hN hS hA rfl hl.1 rfl (Nat.le_of_ble_eq_true rfl) dX7_isMan_3 ⟨Nat.zero_le _, Nat.zero_le _⟩ (fun H locs hP hD hS => ?_)
  obtain ⟨g6, h⟩ := og h
  exact hret _ _ _ _ _ dX7_isMan_6 g6 h hP hD hS

def p_X7_entry (n : Nat) (F : tF) (G : tG) (a1 : Int32) (a2 : Int32) (a3 : Int32) : Option (Int32 × tF × tG) :=
  bi1 (p_X7_isMan a2) (fun x1 => (if x1 = 0 then some ((-1), F, G) else bi1 (p_X7_within a1 0 1000) (fun x14 => (if x14 = 0 then some ((-2), F, G) else bi1 (p_X7_within a3 0 2) (fun x23 => (if x23 = 0 then some ((-2), F, G) else (if (F 24) < 40 then bi1 (p_X1_mayFollow n F G a1 a2) (fun x53 => (if x53 = 0 then some ((-5), F, G) else bi3 (p_X1_add F G a1 a2 a3) (fun x69 F69 G69 => some (x69, F69, G69)))) else some ((-4), F, G))))))))
set_option maxHeartbeats 4000000 in
set_option maxRecDepth 100000 in
theorem c_X7_entry (l : Launch) (D : va_G) (ad : Nat → Nat) (cA : ClassId) (n : Nat) (F : tF) (G : tG) (a1 : Int32) (a2 : Int32) (a3 : Int32) {r : Int32} {F' : tF} {G' : tG} (h : p_X7_entry n F G a1 a2 a3 = some (r, F', G')) : CI l yX7_entry wsX7_entry ({ frames := 2, cells := 0, slots := 0, locals := 42 } : Room) D cA (wC ad cA F G) [.ref (ad 0), .int (a1), .int (a2), .int (a3)] r (wC ad cA F' G') := by
  rw [p_X7_entry] at h
  refine metIm (w := wC ad cA) (cc := cX7_entry) (maxL := 4) (by decide) rfl (Nat.le_of_ble_eq_true rfl) ?_
  intro p e s m args below meth c A ls Q hE hret
  obtain ⟨hx, hb, hts, hown, hml, hP, hK, hD, hN, hA, hl⟩ := hE
  have hown : s.vm.findClass RX7 = some m.cls := hown
  have hl : lv_has ls 4 [(0, .ref (ad 0)), (1, .int (a1)), (2, .int (a2)), (3, .int (a3))] := hl
  have hS : va_S A s.heap s.heap [] := va_S.rf
  have k_0 : (Cond.fieldLink RX7 40 "BellBook" "book" "LBellBook$Book;").before args s = true := hts _ (List.mem_of_getElem? (i := 1) rfl)
  have n_7 : ∀ w ∈ u_ws RX7 TX7 6, w ∈ wsX7_entry := fun w hw => List.mem_cons_of_mem _ (List.mem_append_left _ (List.mem_append_right _ hw))
  have k_2 : (Cond.fieldLink RX7 296 "BellBook$Book" "count" "I").before args s = true := hts _ (List.mem_of_getElem? (i := 2) rfl)
  have n_1 : ∀ w ∈ u_ws RX1 TX1 11, w ∈ wsX7_entry := fun w hw => List.mem_cons_of_mem _ (List.mem_append_right _ hw)
  refine lv_iload_n hx hb dX7_entry_0 rfl (lv_at hl 2 rfl) ?_
  obtain ⟨x1, h1, h⟩ := bi1e h
  refine callSI (As := [.int (a2)]) (rest := []) ⟨hx, hb, hml, hown, hts⟩ (c_X7_isMan l D ad cA n F G a2 h1) (va_cwS 1 hts gX7_entry_X7_isMan rfl rfl rfl (by decide +kernel) ⟨Nat.le_of_ble_eq_true rfl, Nat.le_of_ble_eq_true rfl⟩) hP hK hD hN hS hA rfl hl.1 rfl (Nat.le_of_ble_eq_true rfl) dX7_entry_1 ⟨Nat.zero_le _, Nat.zero_le _⟩ (fun H locs hP hD hS => ?_)
  refine lv_if_ne (tgt := 9) hx hb dX7_entry_4 (by decide) (fun c4 => ?_) (fun c4 => ?_)
  · replace h := ifn h c4
    refine lv_iload_n hx hb dX7_entry_9 rfl (lv_at hl 1 rfl) ?_
    refine lv_iconst (v := 0) hx hb dX7_entry_10 (by decide) ?_
    refine lv_sipush (v := 1000) hx hb dX7_entry_11 (by decide) ?_
    obtain ⟨x14, h14, h⟩ := bi1e h
    refine callSI (As := [.int (a1), .int (0), .int (1000)]) (rest := []) ⟨hx, hb, hml, hown, hts⟩ (c_X7_within l D ad cA n F G a1 0 1000 h14) (va_cwS 3 hts gX7_entry_X7_within rfl rfl rfl (by decide +kernel) ⟨Nat.le_of_ble_eq_true rfl, Nat.le_of_ble_eq_true rfl⟩) hP hK hD hN hS hA rfl hl.1 rfl (Nat.le_of_ble_eq_true rfl) dX7_entry_14 ⟨Nat.zero_le _, Nat.zero_le _⟩ (fun H locs hP hD hS => ?_)
    refine lv_if_eq (tgt := 29) hx hb dX7_entry_17 (by decide) (fun c17 => ?_) (fun c17 => ?_)
    · replace h := ifp h c17
      refine lv_bipush (v := (-2)) hx hb dX7_entry_29 (by decide) ?_
      exact hret _ _ _ _ _ _ _ dX7_entry_31 h hP hD hS
    · replace h := ifn h c17
      refine lv_iload_n hx hb dX7_entry_20 rfl (lv_at hl 3 rfl) ?_
      refine lv_iconst (v := 0) hx hb dX7_entry_21 (by decide) ?_
      refine lv_iconst (v := 2) hx hb dX7_entry_22 (by decide) ?_
      obtain ⟨x23, h23, h⟩ := bi1e h
      refine callSI (As := [.int (a3), .int (0), .int (2)]) (rest := []) ⟨hx, hb, hml, hown, hts⟩ (c_X7_within l D ad cA n F G a3 0 2 h23) (va_cwS 3 hts gX7_entry_X7_within rfl rfl rfl (by decide +kernel) ⟨Nat.le_of_ble_eq_true rfl, Nat.le_of_ble_eq_true rfl⟩) hP hK hD hN hS hA rfl hl.1 rfl (Nat.le_of_ble_eq_true rfl) dX7_entry_23 ⟨Nat.zero_le _, Nat.zero_le _⟩ (fun H locs hP hD hS => ?_)
      refine lv_if_ne (tgt := 32) hx hb dX7_entry_26 (by decide) (fun c26 => ?_) (fun c26 => ?_)
      · replace h := ifn h c26
        refine lv_aload_n hx hb dX7_entry_32 rfl (lv_at hl 0 rfl) ?_
        refine va_get (D := D) (ci := 7) (fs := vX7 ad F) (v := .ref (ad 27)) (C := RX7) (T := TX7) (N := 6) hx hb hts n_7 hown hK hP 0 wCg0 rfl 4 (by decide) k_0 (fun _ h9 => h9) rfl dX7_entry_33 ?_
        refine va_get (D := D) (ci := 1) (fs := vX1 ad F) (v := .int ((F 24))) (C := RX1) (T := TX1) (N := 11) hx hb hts n_1 hown hK hP 27 wCg27 rfl 3 (by decide) k_2 (fun _ h9 => h9) rfl dX7_entry_36 ?_
        refine lv_bipush (v := 40) hx hb dX7_entry_39 (by decide) ?_
        refine lv_icmp_lt (tgt := 47) hx hb dX7_entry_41 (by decide) (fun c41 => ?_) (fun c41 => ?_)
        · replace h := ifp h c41
          refine lv_aload_n hx hb dX7_entry_47 rfl (lv_at hl 0 rfl) ?_
          refine va_get (D := D) (ci := 7) (fs := vX7 ad F) (v := .ref (ad 27)) (C := RX7) (T := TX7) (N := 6) hx hb hts n_7 hown hK hP 0 wCg0 rfl 4 (by decide) k_0 (fun _ h9 => h9) rfl dX7_entry_48 ?_
          refine lv_iload_n hx hb dX7_entry_51 rfl (lv_at hl 1 rfl) ?_
          refine lv_iload_n hx hb dX7_entry_52 rfl (lv_at hl 2 rfl) ?_
          obtain ⟨x53, h53, h⟩ := bi1e h
          refine callVI (b := ad 27) (As := [.int (a1), .int (a2)]) (rest := []) ⟨hx, hb, hml, hown, hts⟩ (c_X1_mayFollow l D ad cA n F G a1 a2 h53) (cwV 2 hts gX7_entry_X1_mayFollow rfl rfl rfl (by decide +kernel) ⟨Nat.le_of_ble_eq_true rfl, Nat.le_of_ble_eq_true rfl⟩) (va_recv hK hP (ci := 1) (q0 := 27) rfl wCg27) hP hK hD hN hS hA rfl hl.1 rfl (Nat.le_of_ble_eq_true rfl) dX7_entry_53 ⟨Nat.zero_le _, Nat.zero_le _⟩ (fun H locs hP hD hS => ?_)
          refine lv_if_ne (tgt := 62) hx hb dX7_entry_56 (by decide) (fun c56 => ?_) (fun c56 => ?_)
          · replace h := ifn h c56
            refine lv_aload_n hx hb dX7_entry_62 rfl (lv_at hl 0 rfl) ?_
            refine va_get (D := D) (ci := 7) (fs := vX7 ad F) (v := .ref (ad 27)) (C := RX7) (T := TX7) (N := 6) hx hb hts n_7 hown hK hP 0 wCg0 rfl 4 (by decide) k_0 (fun _ h9 => h9) rfl dX7_entry_63 ?_
            refine lv_iload_n hx hb dX7_entry_66 rfl (lv_at hl 1 rfl) ?_
            refine lv_iload_n hx hb dX7_entry_67 rfl (lv_at hl 2 rfl) ?_
            refine lv_iload_n hx hb dX7_entry_68 rfl (lv_at hl 3 rfl) ?_
            obtain ⟨x69, F69, G69, h69, h⟩ := bi3e h
            refine callVI (b := ad 27) (As := [.int (a1), .int (a2), .int (a3)]) (rest := []) ⟨hx, hb, hml, hown, hts⟩ (c_X1_add l D ad cA n F G a1 a2 a3 h69) (cwV 3 hts gX7_entry_X1_add rfl rfl rfl (by decide +kernel) ⟨Nat.le_of_ble_eq_true rfl, Nat.le_of_ble_eq_true rfl⟩) (va_recv hK hP (ci := 1) (q0 := 27) rfl wCg27) hP hK hD hN hS hA rfl hl.1 rfl (Nat.le_of_ble_eq_true rfl) dX7_entry_69 ⟨Nat.zero_le _, Nat.zero_le _⟩ (fun H locs hP hD hS => ?_)
            exact hret _ _ _ _ _ _ _ dX7_entry_72 h hP hD hS
          · replace h := ifp h c56
            refine lv_bipush (v := (-5)) hx hb dX7_entry_59 (by decide) ?_
            exact hret _ _ _ _ _ _ _ dX7_entry_61 h hP hD hS
        · replace h := ifn h c41
          refine lv_bipush (v := (-4)) hx hb dX7_entry_44 (by decide) ?_
          exact hret _ _ _ _ _ _ _ dX7_entry_46 h hP hD hS
      · replace h := ifp h c26
        refine lv_bipush (v := (-2)) hx hb dX7_entry_29 (by decide) ?_
        exact hret _ _ _ _ _ _ _ dX7_entry_31 h hP hD hS
  · replace h := ifp h c4
    refine lv_iconst (v := (-1)) hx hb dX7_entry_7 (by decide) ?_
    exact hret _ _ _ _ _ _ _ dX7_entry_8 h hP hD hS

def p_X7_fewest (n : Nat) (F : tF) (a1 : Int32) : Option (Int32) :=
  bi1 (p_X7_within a1 1 500) (fun x5 => (if x5 = 0 then some (-2) else bi1 (p_X0_fewestBarrels n F a1) (fun x19 => some x19)))
set_option maxHeartbeats 4000000 in
set_option maxRecDepth 100000 in
theorem c_X7_fewest (l : Launch) (D : va_G) (ad : Nat → Nat) (cA : ClassId) (n : Nat) (F : tF) (G : tG) (a1 : Int32) {r : Int32} (h : p_X7_fewest n F a1 = some r) : CI l yX7_fewest wsX7_fewest ({ frames := 3, cells := 0, slots := 0, locals := 70 } : Room) D cA (wC ad cA F G) [.ref (ad 0), .int (a1)] r (wC ad cA F G) := by
  rw [p_X7_fewest] at h
  refine metIr (w := wC ad cA) (cc := cX7_fewest) (maxL := 2) (by decide) rfl (Nat.le_of_ble_eq_true rfl) ?_
  intro p e s m args below meth c A ls Q hE hret
  obtain ⟨hx, hb, hts, hown, hml, hP, hK, hD, hN, hA, hl⟩ := hE
  have hown : s.vm.findClass RX7 = some m.cls := hown
  have hl : lv_has ls 2 [(0, .ref (ad 0)), (1, .int (a1))] := hl
  have hS : va_S A s.heap s.heap [] := va_S.rf
  have k_0 : (Cond.fieldLink RX7 12 "BellBook" "bell" "LBellBook$Bell;").before args s = true := hts _ (List.mem_of_getElem? (i := 1) rfl)
  have n_7 : ∀ w ∈ u_ws RX7 TX7 6, w ∈ wsX7_fewest := fun w hw => List.mem_cons_of_mem _ (List.mem_append_left _ (List.mem_append_right _ hw))
  refine lv_iload_n hx hb dX7_fewest_0 rfl (lv_at hl 1 rfl) ?_
  refine lv_iconst (v := 1) hx hb dX7_fewest_1 (by decide) ?_
  refine lv_sipush (v := 500) hx hb dX7_fewest_2 (by decide) ?_
  obtain ⟨x5, h5, h⟩ := bi1e h
  refine callSI (As := [.int (a1), .int (1), .int (500)]) (rest := []) ⟨hx, hb, hml, hown, hts⟩ (c_X7_within l D ad cA n F G a1 1 500 h5) (va_cwS 3 hts gX7_fewest_X7_within rfl rfl rfl (by decide +kernel) ⟨Nat.le_of_ble_eq_true rfl, Nat.le_of_ble_eq_true rfl⟩) hP hK hD hN hS hA rfl hl.1 rfl (Nat.le_of_ble_eq_true rfl) dX7_fewest_5 ⟨Nat.zero_le _, Nat.zero_le _⟩ (fun H locs hP hD hS => ?_)
  refine lv_if_ne (tgt := 14) hx hb dX7_fewest_8 (by decide) (fun c8 => ?_) (fun c8 => ?_)
  · replace h := ifn h c8
    refine lv_aload_n hx hb dX7_fewest_14 rfl (lv_at hl 0 rfl) ?_
    refine va_get (D := D) (ci := 7) (fs := vX7 ad F) (v := .ref (ad 1)) (C := RX7) (T := TX7) (N := 6) hx hb hts n_7 hown hK hP 0 wCg0 rfl 0 (by decide) k_0 (fun _ h9 => h9) rfl dX7_fewest_15 ?_
    refine lv_iload_n hx hb dX7_fewest_18 rfl (lv_at hl 1 rfl) ?_
    obtain ⟨x19, h19, h⟩ := bi1e h
    refine callVI (b := ad 1) (As := [.int (a1)]) (rest := []) ⟨hx, hb, hml, hown, hts⟩ (c_X0_fewestBarrels l D ad cA n F G a1 h19) (cwV 1 hts gX7_fewest_X0_fewestBarrels rfl rfl rfl (by decide +kernel) ⟨Nat.le_of_ble_eq_true rfl, Nat.le_of_ble_eq_true rfl⟩) (va_recv hK hP (ci := 0) (q0 := 1) rfl wCg1) hP hK hD hN hS hA rfl hl.1 rfl (Nat.le_of_ble_eq_true rfl) dX7_fewest_19 ⟨Nat.zero_le _, Nat.zero_le _⟩ (fun H locs hP hD hS => ?_)
    exact hret _ _ _ _ _ dX7_fewest_22 h hP hD hS
  · replace h := ifp h c8
    refine lv_bipush (v := (-2)) hx hb dX7_fewest_11 (by decide) ?_
    exact hret _ _ _ _ _ dX7_fewest_13 h hP hD hS

def p_X7_free (n : Nat) (G : tG) (a1 : Int32) : Option (Int32) :=
  bi1 (p_X7_within a1 1 10) (fun x4 => (if x4 = 0 then some (-2) else bi1 (p_X3_firstFree n G a1) (fun x18 => some x18)))
set_option maxHeartbeats 4000000 in
set_option maxRecDepth 100000 in
theorem c_X7_free (l : Launch) (D : va_G) (ad : Nat → Nat) (cA : ClassId) (n : Nat) (F : tF) (G : tG) (a1 : Int32) {r : Int32} (h : p_X7_free n G a1 = some r) : CI l yX7_free wsX7_free ({ frames := 5, cells := 0, slots := 0, locals := 114 } : Room) D cA (wC ad cA F G) [.ref (ad 0), .int (a1)] r (wC ad cA F G) := by
  rw [p_X7_free] at h
  refine metIr (w := wC ad cA) (cc := cX7_free) (maxL := 2) (by decide) rfl (Nat.le_of_ble_eq_true rfl) ?_
  intro p e s m args below meth c A ls Q hE hret
  obtain ⟨hx, hb, hts, hown, hml, hP, hK, hD, hN, hA, hl⟩ := hE
  have hown : s.vm.findClass RX7 = some m.cls := hown
  have hl : lv_has ls 2 [(0, .ref (ad 0)), (1, .int (a1))] := hl
  have hS : va_S A s.heap s.heap [] := va_S.rf
  have k_0 : (Cond.fieldLink RX7 33 "BellBook" "line" "LBellBook$Line;").before args s = true := hts _ (List.mem_of_getElem? (i := 1) rfl)
  have n_7 : ∀ w ∈ u_ws RX7 TX7 6, w ∈ wsX7_free := fun w hw => List.mem_cons_of_mem _ (List.mem_append_left _ (List.mem_append_right _ hw))
  refine lv_iload_n hx hb dX7_free_0 rfl (lv_at hl 1 rfl) ?_
  refine lv_iconst (v := 1) hx hb dX7_free_1 (by decide) ?_
  refine lv_bipush (v := 10) hx hb dX7_free_2 (by decide) ?_
  obtain ⟨x4, h4, h⟩ := bi1e h
  refine callSI (As := [.int (a1), .int (1), .int (10)]) (rest := []) ⟨hx, hb, hml, hown, hts⟩ (c_X7_within l D ad cA n F G a1 1 10 h4) (va_cwS 3 hts gX7_free_X7_within rfl rfl rfl (by decide +kernel) ⟨Nat.le_of_ble_eq_true rfl, Nat.le_of_ble_eq_true rfl⟩) hP hK hD hN hS hA rfl hl.1 rfl (Nat.le_of_ble_eq_true rfl) dX7_free_4 ⟨Nat.zero_le _, Nat.zero_le _⟩ (fun H locs hP hD hS => ?_)
  refine lv_if_ne (tgt := 13) hx hb dX7_free_7 (by decide) (fun c7 => ?_) (fun c7 => ?_)
  · replace h := ifn h c7
    refine lv_aload_n hx hb dX7_free_13 rfl (lv_at hl 0 rfl) ?_
    refine va_get (D := D) (ci := 7) (fs := vX7 ad F) (v := .ref (ad 22)) (C := RX7) (T := TX7) (N := 6) hx hb hts n_7 hown hK hP 0 wCg0 rfl 3 (by decide) k_0 (fun _ h9 => h9) rfl dX7_free_14 ?_
    refine lv_iload_n hx hb dX7_free_17 rfl (lv_at hl 1 rfl) ?_
    obtain ⟨x18, h18, h⟩ := bi1e h
    refine callVI (b := ad 22) (As := [.int (a1)]) (rest := []) ⟨hx, hb, hml, hown, hts⟩ (c_X3_firstFree l D ad cA n F G a1 h18) (cwV 1 hts gX7_free_X3_firstFree rfl rfl rfl (by decide +kernel) ⟨Nat.le_of_ble_eq_true rfl, Nat.le_of_ble_eq_true rfl⟩) (va_recv hK hP (ci := 3) (q0 := 22) rfl wCg22) hP hK hD hN hS hA rfl hl.1 rfl (Nat.le_of_ble_eq_true rfl) dX7_free_18 ⟨Nat.zero_le _, Nat.zero_le _⟩ (fun H locs hP hD hS => ?_)
    exact hret _ _ _ _ _ dX7_free_21 h hP hD hS
  · replace h := ifp h c7
    refine lv_bipush (v := (-2)) hx hb dX7_free_10 (by decide) ?_
    exact hret _ _ _ _ _ dX7_free_12 h hP hD hS
