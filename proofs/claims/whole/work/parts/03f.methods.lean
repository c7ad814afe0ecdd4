def p_X7_room (n : Nat) (F : tF) (G : tG) (a1 : Int32) : Option (Int32 × tF × tG) :=
  bi1 (p_X7_within a1 100 5000) (fun x6 => (if x6 = 0 then some ((-2), F, G) else bi1 (p_X2_countBelow n G) (fun x19 => (if 0 < x19 then some ((-3), F, G) else (if (F 2) = 0 then plet (F 1) (fun (x45 : Int32) => bi2 (p_X0_beginAnew F G a1) (fun F51 G51 => some (x45, F51, G51))) else some ((-3), F, G))))))
set_option maxHeartbeats 4000000 in
set_option maxRecDepth 100000 in
theorem c_X7_room (l : Launch) (D : va_G) (ad : Nat → Nat) (cA : ClassId) (n : Nat) (F : tF) (G : tG) (a1 : Int32) {r : Int32} {F' : tF} {G' : tG} (h : p_X7_room n F G a1 = some (r, F', G')) : CI l yX7_room wsX7_room ({ frames := 1, cells := 0, slots := 0, locals := 22 } : Room) D cA (wC ad cA F G) [.ref (ad 0), .int (a1)] r (wC ad cA F' G') := by
  rw [p_X7_room] at h
  refine metIm (w := wC ad cA) (cc := cX7_room) (maxL := 3) (by decide) rfl (Nat.le_of_ble_eq_true rfl) ?_
  intro p e s m args below meth c A ls Q hE hret
  obtain ⟨hx, hb, hts, hown, hml, hP, hK, hD, hN, hA, hl⟩ := hE
  have hown : s.vm.findClass RX7 = some m.cls := hown
  have hl : lv_has ls 3 [(0, .ref (ad 0)), (1, .int (a1))] := hl
  have hS : va_S A s.heap s.heap [] := va_S.rf
  have k_0 : (Cond.fieldLink RX7 19 "BellBook" "crew" "LBellBook$Crew;").before args s = true := hts _ (List.mem_of_getElem? (i := 1) rfl)
  have n_7 : ∀ w ∈ u_ws RX7 TX7 6, w ∈ wsX7_room := fun w hw => List.mem_cons_of_mem _ (List.mem_append_left _ (List.mem_append_left _ (List.mem_append_right _ hw)))
  have k_2 : (Cond.fieldLink RX7 12 "BellBook" "bell" "LBellBook$Bell;").before args s = true := hts _ (List.mem_of_getElem? (i := 2) rfl)
  have k_3 : (Cond.fieldLink RX7 56 "BellBook$Bell" "depth" "I").before args s = true := hts _ (List.mem_of_getElem? (i := 3) rfl)
  have n_0 : ∀ w ∈ u_ws RX0 TX0 12, w ∈ wsX7_room := fun w hw => List.mem_cons_of_mem _ (List.mem_append_left _ (List.mem_append_right _ hw))
  have k_5 : (Cond.fieldLink RX7 59 "BellBook$Bell" "room" "I").before args s = true := hts _ (List.mem_of_getElem? (i := 4) rfl)
  refine lv_iload_n hx hb dX7_room_0 rfl (lv_at hl 1 rfl) ?_
  refine lv_bipush (v := 100) hx hb dX7_room_1 (by decide) ?_
  refine lv_sipush (v := 5000) hx hb dX7_room_3 (by decide) ?_
  obtain ⟨x6, h6, h⟩ := bi1e h
  refine callSI (As := [.int (a1), .int (100), .int (5000)]) (rest := []) ⟨hx, hb, hml, hown, hts⟩ (c_X7_within l D ad cA n F G a1 100 5000 h6) (va_cwS 3 hts gX7_room_X7_within rfl rfl rfl (by decide +kernel) ⟨Nat.le_of_ble_eq_true rfl, Nat.le_of_ble_eq_true rfl⟩) hP hK hD hN hS hA rfl hl.1 rfl (Nat.le_of_ble_eq_true rfl) dX7_room_6 ⟨Nat.zero_le _, Nat.zero_le _⟩ (fun H locs hP hD hS => ?_)
  refine lv_if_ne (tgt := 15) hx hb dX7_room_9 (by decide) (fun c9 => ?_) (fun c9 => ?_)
  · replace h := ifn h c9
    refine lv_aload_n hx hb dX7_room_15 rfl (lv_at hl 0 rfl) ?_
    refine va_get (D := D) (ci := 7) (fs := vX7 ad F) (v := .ref (ad 2)) (C := RX7) (T := TX7) (N := 6) hx hb hts n_7 hown hK hP 0 wCg0 rfl 1 (by decide) k_0 (fun _ h9 => h9) rfl dX7_room_16 ?_
    obtain ⟨x19, h19, h⟩ := bi1e h
    refine callVI (b := ad 2) (As := []) (rest := []) ⟨hx, hb, hml, hown, hts⟩ (c_X2_countBelow l D ad cA n F G h19) (cwV 0 hts gX7_room_X2_countBelow rfl rfl rfl (by decide +kernel) ⟨Nat.le_of_ble_eq_true rfl, Nat.le_of_ble_eq_true rfl⟩) (va_recv hK hP (ci := 2) (q0 := 2) rfl wCg2) hP hK hD hN hS hA rfl hl.1 rfl (Nat.le_of_ble_eq_true rfl) dX7_room_19 ⟨Nat.zero_le _, Nat.zero_le _⟩ (fun H locs hP hD hS => ?_)
    refine lv_if_gt (tgt := 35) hx hb dX7_room_22 (by decide) (fun c22 => ?_) (fun c22 => ?_)
    · replace h := ifp h c22
      refine lv_bipush (v := (-3)) hx hb dX7_room_35 (by decide) ?_
      exact hret _ _ _ _ _ _ _ dX7_room_37 h hP hD hS
    · replace h := ifn h c22
      refine lv_aload_n hx hb dX7_room_25 rfl (lv_at hl 0 rfl) ?_
      refine va_get (D := D) (ci := 7) (fs := vX7 ad F) (v := .ref (ad 1)) (C := RX7) (T := TX7) (N := 6) hx hb hts n_7 hown hK hP 0 wCg0 rfl 0 (by decide) k_2 (fun _ h9 => h9) rfl dX7_room_26 ?_
      refine va_get (D := D) (ci := 0) (fs := vX0 ad F) (v := .int ((F 2))) (C := RX0) (T := TX0) (N := 12) hx hb hts n_0 hown hK hP 1 wCg1 rfl 1 (by decide) k_3 (fun _ h9 => h9) rfl dX7_room_29 ?_
      refine lv_if_eq (tgt := 38) hx hb dX7_room_32 (by decide) (fun c32 => ?_) (fun c32 => ?_)
      · replace h := ifp h c32
        refine lv_aload_n hx hb dX7_room_38 rfl (lv_at hl 0 rfl) ?_
        refine va_get (D := D) (ci := 7) (fs := vX7 ad F) (v := .ref (ad 1)) (C := RX7) (T := TX7) (N := 6) hx hb hts n_7 hown hK hP 0 wCg0 rfl 0 (by decide) k_2 (fun _ h9 => h9) rfl dX7_room_39 ?_
        refine va_get (D := D) (ci := 0) (fs := vX0 ad F) (v := .int ((F 1))) (C := RX0) (T := TX0) (N := 12) hx hb hts n_0 hown hK hP 1 wCg1 rfl 0 (by decide) k_5 (fun _ h9 => h9) rfl dX7_room_42 ?_
        refine lv_topi (fun x45 ex45 => ?_)
        replace h := pl h ex45
        refine lv_istore_n (lv' := [(2, .int (x45)), (0, .ref (ad 0)), (1, .int (a1))]) hx hb dX7_room_45 rfl hl (by decide) rfl (fun ls hl => ?_)
        refine lv_aload_n hx hb dX7_room_46 rfl (lv_at hl 1 rfl) ?_
        refine va_get (D := D) (ci := 7) (fs := vX7 ad F) (v := .ref (ad 1)) (C := RX7) (T := TX7) (N := 6) hx hb hts n_7 hown hK hP 0 wCg0 rfl 0 (by decide) k_2 (fun _ h9 => h9) rfl dX7_room_47 ?_
        refine lv_iload_n hx hb dX7_room_50 rfl (lv_at hl 2 rfl) ?_
        obtain ⟨F51, G51, h51, h⟩ := bi2e h
        refine callVV (b := ad 1) (As := [.int (a1)]) (rest := []) ⟨hx, hb, hml, hown, hts⟩ (c_X0_beginAnew l D ad cA n F G a1 h51) (cwV 1 hts gX7_room_X0_beginAnew rfl rfl rfl (by decide +kernel) ⟨Nat.le_of_ble_eq_true rfl, Nat.le_of_ble_eq_true rfl⟩) (va_recv hK hP (ci := 0) (q0 := 1) rfl wCg1) hP hK hD hN hS hA rfl hl.1 rfl (Nat.le_of_ble_eq_true rfl) dX7_room_51 ⟨Nat.zero_le _, Nat.zero_le _⟩ (fun H locs hP hD hS => ?_)
        refine lv_iload_n hx hb dX7_room_54 rfl (lv_at hl 0 rfl) ?_
        exact hret _ _ _ _ _ _ _ dX7_room_55 h hP hD hS
      · replace h := ifn h c32
        refine lv_bipush (v := (-3)) hx hb dX7_room_35 (by decide) ?_
        exact hret _ _ _ _ _ _ _ dX7_room_37 h hP hD hS
  · replace h := ifp h c9
    refine lv_bipush (v := (-2)) hx hb dX7_room_12 (by decide) ?_
    exact hret _ _ _ _ _ _ _ dX7_room_14 h hP hD hS

def p_X7_sign (n : Nat) (F : tF) (G : tG) (a1 : Int32) (a2 : Int32) (a3 : Int32) : Option (Int32 × tF × tG) :=
  bi1 (p_X7_within a1 0 11) (fun x4 => (if x4 = 0 then some ((-1), F, G) else (if a2 = 0 then (if a3 = 0 then bi2 (p_X3_put F G a1 0 0) (fun F27 G27 => some (1, F27, G27)) else bi1 (p_X3_isTugs a2 a3) (fun x34 => (if x34 = 0 then some ((-2), F, G) else bi1 (p_X3_signOf n G a2 a3) (fun x49 => (if x49 = (-6) then bi2 (p_X3_put F G a1 a2 a3) (fun F77 G77 => some (1, F77, G77)) else (if x49 = a1 then bi2 (p_X3_put F G a1 a2 a3) (fun F77 G77 => some (1, F77, G77)) else some ((-5), F, G))))))) else bi1 (p_X3_isTugs a2 a3) (fun x34 => (if x34 = 0 then some ((-2), F, G) else bi1 (p_X3_signOf n G a2 a3) (fun x49 => (if x49 = (-6) then bi2 (p_X3_put F G a1 a2 a3) (fun F77 G77 => some (1, F77, G77)) else (if x49 = a1 then bi2 (p_X3_put F G a1 a2 a3) (fun F77 G77 => some (1, F77, G77)) else some ((-5), F, G)))))))))
set_option maxHeartbeats 4000000 in
set_option maxRecDepth 100000 in
theorem c_X7_sign (l : Launch) (D : va_G) (ad : Nat → Nat) (cA : ClassId) (n : Nat) (F : tF) (G : tG) (a1 : Int32) (a2 : Int32) (a3 : Int32) {r : Int32} {F' : tF} {G' : tG} (h : p_X7_sign n F G a1 a2 a3 = some (r, F', G')) : CI l yX7_sign wsX7_sign ({ frames := 4, cells := 0, slots := 0, locals := 90 } : Room) D cA (wC ad cA F G) [.ref (ad 0), .int (a1), .int (a2), .int (a3)] r (wC ad cA F' G') := by
  rw [p_X7_sign] at h
  refine metIm (w := wC ad cA) (cc := cX7_sign) (maxL := 5) (by decide) rfl (Nat.le_of_ble_eq_true rfl) ?_
  intro p e s m args below meth c A ls Q hE hret
  obtain ⟨hx, hb, hts, hown, hml, hP, hK, hD, hN, hA, hl⟩ := hE
  have hown : s.vm.findClass RX7 = some m.cls := hown
  have hl : lv_has ls 5 [(0, .ref (ad 0)), (1, .int (a1)), (2, .int (a2)), (3, .int (a3))] := hl
  have hS : va_S A s.heap s.heap [] := va_S.rf
  have k_0 : (Cond.fieldLink RX7 33 "BellBook" "line" "LBellBook$Line;").before args s = true := hts _ (List.mem_of_getElem? (i := 1) rfl)
  have n_7 : ∀ w ∈ u_ws RX7 TX7 6, w ∈ wsX7_sign := fun w hw => List.mem_cons_of_mem _ (List.mem_append_left _ (List.mem_append_right _ hw))
  refine lv_iload_n hx hb dX7_sign_0 rfl (lv_at hl 1 rfl) ?_
  refine lv_iconst (v := 0) hx hb dX7_sign_1 (by decide) ?_
  refine lv_bipush (v := 11) hx hb dX7_sign_2 (by decide) ?_
  obtain ⟨x4, h4, h⟩ := bi1e h
  refine callSI (As := [.int (a1), .int (0), .int (11)]) (rest := []) ⟨hx, hb, hml, hown, hts⟩ (c_X7_within l D ad cA n F G a1 0 11 h4) (va_cwS 3 hts gX7_sign_X7_within rfl rfl rfl (by decide +kernel) ⟨Nat.le_of_ble_eq_true rfl, Nat.le_of_ble_eq_true rfl⟩) hP hK hD hN hS hA rfl hl.1 rfl (Nat.le_of_ble_eq_true rfl) dX7_sign_4 ⟨Nat.zero_le _, Nat.zero_le _⟩ (fun H locs hP hD hS => ?_)
  refine lv_if_ne (tgt := 12) hx hb dX7_sign_7 (by decide) (fun c7 => ?_) (fun c7 => ?_)
  · replace h := ifn h c7
    refine lv_iload_n hx hb dX7_sign_12 rfl (lv_at hl 2 rfl) ?_
    refine lv_if_ne (tgt := 32) hx hb dX7_sign_13 (by decide) (fun c13 => ?_) (fun c13 => ?_)
    · replace h := ifn h c13
      refine lv_iload_n hx hb dX7_sign_32 rfl (lv_at hl 2 rfl) ?_
      refine lv_iload_n hx hb dX7_sign_33 rfl (lv_at hl 3 rfl) ?_
      obtain ⟨x34, h34, h⟩ := bi1e h
      refine callSI (As := [.int (a2), .int (a3)]) (rest := []) ⟨hx, hb, hml, hown, hts⟩ (c_X3_isTugs l D ad cA n F G a2 a3 h34) (va_cwS 2 hts gX7_sign_X3_isTugs rfl rfl rfl (by decide +kernel) ⟨Nat.le_of_ble_eq_true rfl, Nat.le_of_ble_eq_true rfl⟩) hP hK hD hN hS hA rfl hl.1 rfl (Nat.le_of_ble_eq_true rfl) dX7_sign_34 ⟨Nat.zero_le _, Nat.zero_le _⟩ (fun H locs hP hD hS => ?_)
      refine lv_if_ne (tgt := 43) hx hb dX7_sign_37 (by decide) (fun c37 => ?_) (fun c37 => ?_)
      · replace h := ifn h c37
        refine lv_aload_n hx hb dX7_sign_43 rfl (lv_at hl 0 rfl) ?_
        refine va_get (D := D) (ci := 7) (fs := vX7 ad F) (v := .ref (ad 22)) (C := RX7) (T := TX7) (N := 6) hx hb hts n_7 hown hK hP 0 wCg0 rfl 3 (by decide) k_0 (fun _ h9 => h9) rfl dX7_sign_44 ?_
        refine lv_iload_n hx hb dX7_sign_47 rfl (lv_at hl 2 rfl) ?_
        refine lv_iload_n hx hb dX7_sign_48 rfl (lv_at hl 3 rfl) ?_
        obtain ⟨x49, h49, h⟩ := bi1e h
        refine callVI (b := ad 22) (As := [.int (a2), .int (a3)]) (rest := []) ⟨hx, hb, hml, hown, hts⟩ (c_X3_signOf l D ad cA n F G a2 a3 h49) (cwV 2 hts gX7_sign_X3_signOf rfl rfl rfl (by decide +kernel) ⟨Nat.le_of_ble_eq_true rfl, Nat.le_of_ble_eq_true rfl⟩) (va_recv hK hP (ci := 3) (q0 := 22) rfl wCg22) hP hK hD hN hS hA rfl hl.1 rfl (Nat.le_of_ble_eq_true rfl) dX7_sign_49 ⟨Nat.zero_le _, Nat.zero_le _⟩ (fun H locs hP hD hS => ?_)
        refine lv_istore (lv' := [(4, .int (x49)), (0, .ref (ad 0)), (1, .int (a1)), (2, .int (a2)), (3, .int (a3))]) hx hb dX7_sign_52 hl (by decide) rfl (fun ls hl => ?_)
        refine lv_iload hx hb dX7_sign_54 (lv_at hl 0 rfl) ?_
        refine lv_bipush (v := (-6)) hx hb dX7_sign_56 (by decide) ?_
        refine lv_icmp_eq (tgt := 70) hx hb dX7_sign_58 (by decide) (fun c58 => ?_) (fun c58 => ?_)
        · replace h := ifp h c58
          refine lv_aload_n hx hb dX7_sign_70 rfl (lv_at hl 1 rfl) ?_
          refine va_get (D := D) (ci := 7) (fs := vX7 ad F) (v := .ref (ad 22)) (C := RX7) (T := TX7) (N := 6) hx hb hts n_7 hown hK hP 0 wCg0 rfl 3 (by decide) k_0 (fun _ h9 => h9) rfl dX7_sign_71 ?_
          refine lv_iload_n hx hb dX7_sign_74 rfl (lv_at hl 2 rfl) ?_
          refine lv_iload_n hx hb dX7_sign_75 rfl (lv_at hl 3 rfl) ?_
          refine lv_iload_n hx hb dX7_sign_76 rfl (lv_at hl 4 rfl) ?_
          obtain ⟨F77, G77, h77, h⟩ := bi2e h
          refine callVV (b := ad 22) (As := [.int (a1), .int (a2), .int (a3)]) (rest := []) ⟨hx, hb, hml, hown, hts⟩ (c_X3_put l D ad cA n F G a1 a2 a3 h77) (cwV 3 hts gX7_sign_X3_put rfl rfl rfl (by decide +kernel) ⟨Nat.le_of_ble_eq_true rfl, Nat.le_of_ble_eq_true rfl⟩) (va_recv hK hP (ci := 3) (q0 := 22) rfl wCg22) hP hK hD hN hS hA rfl hl.1 rfl (Nat.le_of_ble_eq_true rfl) dX7_sign_77 ⟨Nat.zero_le _, Nat.zero_le _⟩ (fun H locs hP hD hS => ?_)
          refine lv_iconst (v := 1) hx hb dX7_sign_80 (by decide) ?_
          exact hret _ _ _ _ _ _ _ dX7_sign_81 h hP hD hS
        · replace h := ifn h c58
          refine lv_iload hx hb dX7_sign_61 (lv_at hl 0 rfl) ?_
          refine lv_iload_n hx hb dX7_sign_63 rfl (lv_at hl 2 rfl) ?_
          refine lv_icmp_eq (tgt := 70) hx hb dX7_sign_64 (by decide) (fun c64 => ?_) (fun c64 => ?_)
          · replace h := ifp h c64
            refine lv_aload_n hx hb dX7_sign_70 rfl (lv_at hl 1 rfl) ?_
            refine va_get (D := D) (ci := 7) (fs := vX7 ad F) (v := .ref (ad 22)) (C := RX7) (T := TX7) (N := 6) hx hb hts n_7 hown hK hP 0 wCg0 rfl 3 (by decide) k_0 (fun _ h9 => h9) rfl dX7_sign_71 ?_
            refine lv_iload_n hx hb dX7_sign_74 rfl (lv_at hl 2 rfl) ?_
            refine lv_iload_n hx hb dX7_sign_75 rfl (lv_at hl 3 rfl) ?_
            refine lv_iload_n hx hb dX7_sign_76 rfl (lv_at hl 4 rfl) ?_
            obtain ⟨F77, G77, h77, h⟩ := bi2e h
            refine callVV (b := ad 22) (As := [.int (a1), .int (a2), .int (a3)]) (rest := []) ⟨hx, hb, hml, hown, hts⟩ (c_X3_put l D ad cA n F G a1 a2 a3 h77) (cwV 3 hts gX7_sign_X3_put rfl rfl rfl (by decide +kernel) ⟨Nat.le_of_ble_eq_true rfl, Nat.le_of_ble_eq_true rfl⟩) (va_recv hK hP (ci := 3) (q0 := 22) rfl wCg22) hP hK hD hN hS hA rfl hl.1 rfl (Nat.le_of_ble_eq_true rfl) dX7_sign_77 ⟨Nat.zero_le _, Nat.zero_le _⟩ (fun H locs hP hD hS => ?_)
            refine lv_iconst (v := 1) hx hb dX7_sign_80 (by decide) ?_
            exact hret _ _ _ _ _ _ _ dX7_sign_81 h hP hD hS
          · replace h := ifn h c64
            refine lv_bipush (v := (-5)) hx hb dX7_sign_67 (by decide) ?_
            exact hret _ _ _ _ _ _ _ dX7_sign_69 h hP hD hS
      · replace h := ifp h c37
        refine lv_bipush (v := (-2)) hx hb dX7_sign_40 (by decide) ?_
        exact hret _ _ _ _ _ _ _ dX7_sign_42 h hP hD hS
    · replace h := ifp h c13
      refine lv_iload_n hx hb dX7_sign_16 rfl (lv_at hl 3 rfl) ?_
      refine lv_if_ne (tgt := 32) hx hb dX7_sign_17 (by decide) (fun c17 => ?_) (fun c17 => ?_)
      · replace h := ifn h c17
        refine lv_iload_n hx hb dX7_sign_32 rfl (lv_at hl 2 rfl) ?_
        refine lv_iload_n hx hb dX7_sign_33 rfl (lv_at hl 3 rfl) ?_
        obtain ⟨x34, h34, h⟩ := bi1e h
        refine callSI (As := [.int (a2), .int (a3)]) (rest := []) ⟨hx, hb, hml, hown, hts⟩ (c_X3_isTugs l D ad cA n F G a2 a3 h34) (va_cwS 2 hts gX7_sign_X3_isTugs rfl rfl rfl (by decide +kernel) ⟨Nat.le_of_ble_eq_true rfl, Nat.le_of_ble_eq_true rfl⟩) hP hK hD hN hS hA rfl hl.1 rfl (Nat.le_of_ble_eq_true rfl) dX7_sign_34 ⟨Nat.zero_le _, Nat.zero_le _⟩ (fun H locs hP hD hS => ?_)
        refine lv_if_ne (tgt := 43) hx hb dX7_sign_37 (by decide) (fun c37 => ?_) (fun c37 => ?_)
        · replace h := ifn h c37
          refine lv_aload_n hx hb dX7_sign_43 rfl (lv_at hl 0 rfl) ?_
          refine va_get (D := D) (ci := 7) (fs := vX7 ad F) (v := .ref (ad 22)) (C := RX7) (T := TX7) (N := 6) hx hb hts n_7 hown hK hP 0 wCg0 rfl 3 (by decide) k_0 (fun _ h9 => h9) rfl dX7_sign_44 ?_
          refine lv_iload_n hx hb dX7_sign_47 rfl (lv_at hl 2 rfl) ?_
          refine lv_iload_n hx hb dX7_sign_48 rfl (lv_at hl 3 rfl) ?_
          obtain ⟨x49, h49, h⟩ := bi1e h
          refine callVI (b := ad 22) (As := [.int (a2), .int (a3)]) (rest := []) ⟨hx, hb, hml, hown, hts⟩ (c_X3_signOf l D ad cA n F G a2 a3 h49) (cwV 2 hts gX7_sign_X3_signOf rfl rfl rfl (by decide +kernel) ⟨Nat.le_of_ble_eq_true rfl, Nat.le_of_ble_eq_true rfl⟩) (va_recv hK hP (ci := 3) (q0 := 22) rfl wCg22) hP hK hD hN hS hA rfl hl.1 rfl (Nat.le_of_ble_eq_true rfl) dX7_sign_49 ⟨Nat.zero_le _, Nat.zero_le _⟩ (fun H locs hP hD hS => ?_)
          refine lv_istore (lv' := [(4, .int (x49)), (0, .ref (ad 0)), (1, .int (a1)), (2, .int (a2)), (3, .int (a3))]) hx hb dX7_sign_52 hl (by decide) rfl (fun ls hl => ?_)
          refine lv_iload hx hb dX7_sign_54 (lv_at hl 0 rfl) ?_
          refine lv_bipush (v := (-6)) hx hb dX7_sign_56 (by decide) ?_
          refine lv_icmp_eq (tgt := 70) hx hb dX7_sign_58 (by decide) (fun c58 => ?_) (fun c58 => ?_)
          · replace h := ifp h c58
            refine lv_aload_n hx hb dX7_sign_70 rfl (lv_at hl 1 rfl) ?_
            refine va_get (D := D) (ci := 7) (fs := vX7 ad F) (v := .ref (ad 22)) (C := RX7) (T := TX7) (N := 6) hx hb hts n_7 hown hK hP 0 wCg0 rfl 3 (by decide) k_0 (fun _ h9 => h9) rfl dX7_sign_71 ?_
            refine lv_iload_n hx hb dX7_sign_74 rfl (lv_at hl 2 rfl) ?_
            refine lv_iload_n hx hb dX7_sign_75 rfl (lv_at hl 3 rfl) ?_
            refine lv_iload_n hx hb dX7_sign_76 rfl (lv_at hl 4 rfl) ?_
            obtain ⟨F77, G77, h77, h⟩ := bi2e h
            refine callVV (b := ad 22) (As := [.int (a1), .int (a2), .int (a3)]) (rest := []) ⟨hx, hb, hml, hown, hts⟩ (c_X3_put l D ad cA n F G a1 a2 a3 h77) (cwV 3 hts gX7_sign_X3_put rfl rfl rfl (by decide +kernel) ⟨Nat.le_of_ble_eq_true rfl, Nat.le_of_ble_eq_true rfl⟩) (va_recv hK hP (ci := 3) (q0 := 22) rfl wCg22) hP hK hD hN hS hA rfl hl.1 rfl (Nat.le_of_ble_eq_true rfl) dX7_sign_77 ⟨Nat.zero_le _, Nat.zero_le _⟩ (fun H locs hP hD hS => ?_)
            refine lv_iconst (v := 1) hx hb dX7_sign_80 (by decide) ?_
            exact hret _ _ _ _ _ _ _ dX7_sign_81 h hP hD hS
          · replace h := ifn h c58
            refine lv_iload hx hb dX7_sign_61 (lv_at hl 0 rfl) ?_
            refine lv_iload_n hx hb dX7_sign_63 rfl (lv_at hl 2 rfl) ?_
            refine lv_icmp_eq (tgt := 70) hx hb dX7_sign_64 (by decide) (fun c64 => ?_) (fun c64 => ?_)
            · replace h := ifp h c64
              refine lv_aload_n hx hb dX7_sign_70 rfl (lv_at hl 1 rfl) ?_
              refine va_get (D := D) (ci := 7) (fs := vX7 ad F) (v := .ref (ad 22)) (C := RX7) (T := TX7) (N := 6) hx hb hts n_7 hown hK hP 0 wCg0 rfl 3 (by decide) k_0 (fun _ h9 => h9) rfl dX7_sign_71 ?_
              refine lv_iload_n hx hb dX7_sign_74 rfl (lv_at hl 2 rfl) ?_
              refine lv_iload_n hx hb dX7_sign_75 rfl (lv_at hl 3 rfl) ?_
              refine lv_iload_n hx hb dX7_sign_76 rfl (lv_at hl 4 rfl) ?_
              obtain ⟨F77, G77, h77, h⟩ := bi2e h
              refine callVV (b := ad 22) (As := [.int (a1), .int (a2), .int (a3)]) (rest := []) ⟨hx, hb, hml, hown, hts⟩ (c_X3_put l D ad cA n F G a1 a2 a3 h77) (cwV 3 hts gX7_sign_X3_put rfl rfl rfl (by decide +kernel) ⟨Nat.le_of_ble_eq_true rfl, Nat.le_of_ble_eq_true rfl⟩) (va_recv hK hP (ci := 3) (q0 := 22) rfl wCg22) hP hK hD hN hS hA rfl hl.1 rfl (Nat.le_of_ble_eq_true rfl) dX7_sign_77 ⟨Nat.zero_le _, Nat.zero_le _⟩ (fun H locs hP hD hS => ?_)
              refine lv_iconst (v := 1) hx hb dX7_sign_80 (by decide) ?_
              exact hret _ _ _ _ _ _ _ dX7_sign_81 h hP hD hS
            · replace h := ifn h c64
              refine lv_bipush (v := (-5)) hx hb dX7_sign_67 (by decide) ?_
              exact hret _ _ _ _ _ _ _ dX7_sign_69 h hP hD hS
        · replace h := ifp h c37
          refine lv_bipush (v := (-2)) hx hb dX7_sign_40 (by decide) ?_
          exact hret _ _ _ _ _ _ _ dX7_sign_42 h hP hD hS
      · replace h := ifp h c17
        refine lv_aload_n hx hb dX7_sign_20 rfl (lv_at hl 0 rfl) ?_
        refine va_get (D := D) (ci := 7) (fs := vX7 ad F) (v := .ref (ad 22)) (C := RX7) (T := TX7) (N := 6) hx hb hts n_7 hown hK hP 0 wCg0 rfl 3 (by decide) k_0 (fun _ h9 => h9) rfl dX7_sign_21 ?_
        refine lv_iload_n hx hb dX7_sign_24 rfl (lv_at hl 1 rfl) ?_
        refine lv_iconst (v := 0) hx hb dX7_sign_25 (by decide) ?_
        refine lv_iconst (v := 0) hx hb dX7_sign_26 (by decide) ?_
        obtain ⟨F27, G27, h27, h⟩ := bi2e h
        refine callVV (b := ad 22) (As := [.int (a1), .int (0), .int (0)]) (rest := []) ⟨hx, hb, hml, hown, hts⟩ (c_X3_put l D ad cA n F G a1 0 0 h27) (cwV 3 hts gX7_sign_X3_put rfl rfl rfl (by decide +kernel) ⟨Nat.le_of_ble_eq_true rfl, Nat.le_of_ble_eq_true rfl⟩) (va_recv hK hP (ci := 3) (q0 := 22) rfl wCg22) hP hK hD hN hS hA rfl hl.1 rfl (Nat.le_of_ble_eq_true rfl) dX7_sign_27 ⟨Nat.zero_le _, Nat.zero_le _⟩ (fun H locs hP hD hS => ?_)
        refine lv_iconst (v := 1) hx hb dX7_sign_30 (by decide) ?_
        exact hret _ _ _ _ _ _ _ dX7_sign_31 h hP hD hS
  · replace h := ifp h c7
    refine lv_iconst (v := (-1)) hx hb dX7_sign_10 (by decide) ?_
    exact hret _ _ _ _ _ _ _ dX7_sign_11 h hP hD hS

def p_X7_stay (F : tF) (G : tG) (a1 : Int32) : Option (Int32 × tF × tG) :=
  bi1 (p_X7_within a1 1 60) (fun x4 => (if x4 = 0 then some ((-2), F, G) else plet (F 13) (fun (x20 : Int32) => plet (upd F 13 a1) (fun (F26 : tF) => some (x20, F26, G)))))
set_option maxHeartbeats 4000000 in
set_option maxRecDepth 100000 in
theorem c_X7_stay (l : Launch) (D : va_G) (ad : Nat → Nat) (cA : ClassId) (n : Nat) (F : tF) (G : tG) (a1 : Int32) {r : Int32} {F' : tF} {G' : tG} (h : p_X7_stay F G a1 = some (r, F', G')) : CI l yX7_stay wsX7_stay ({ frames := 1, cells := 0, slots := 0, locals := 22 } : Room) D cA (wC ad cA F G) [.ref (ad 0), .int (a1)] r (wC ad cA F' G') := by
  rw [p_X7_stay] at h
  refine metIm (w := wC ad cA) (cc := cX7_stay) (maxL := 3) (by decide) rfl (Nat.le_of_ble_eq_true rfl) ?_
  intro p e s m args below meth c A ls Q hE hret
  obtain ⟨hx, hb, hts, hown, hml, hP, hK, hD, hN, hA, hl⟩ := hE
  have hown : s.vm.findClass RX7 = some m.cls := hown
  have hl : lv_has ls 3 [(0, .ref (ad 0)), (1, .int (a1))] := hl
  have hS : va_S A s.heap s.heap [] := va_S.rf
  have k_0 : (Cond.fieldLink RX7 19 "BellBook" "crew" "LBellBook$Crew;").before args s = true := hts _ (List.mem_of_getElem? (i := 1) rfl)
  have n_7 : ∀ w ∈ u_ws RX7 TX7 6, w ∈ wsX7_stay := fun w hw => List.mem_cons_of_mem _ (List.mem_append_left _ (List.mem_append_right _ hw))
  have k_2 : (Cond.fieldLink RX7 172 "BellBook$Crew" "stay" "I").before args s = true := hts _ (List.mem_of_getElem? (i := 2) rfl)
  have n_2 : ∀ w ∈ u_ws RX2 TX2 8, w ∈ wsX7_stay := fun w hw => List.mem_cons_of_mem _ (List.mem_append_right _ hw)
  refine lv_iload_n hx hb dX7_stay_0 rfl (lv_at hl 1 rfl) ?_
  refine lv_iconst (v := 1) hx hb dX7_stay_1 (by decide) ?_
  refine lv_bipush (v := 60) hx hb dX7_stay_2 (by decide) ?_
  obtain ⟨x4, h4, h⟩ := bi1e h
  refine callSI (As := [.int (a1), .int (1), .int (60)]) (rest := []) ⟨hx, hb, hml, hown, hts⟩ (c_X7_within l D ad cA n F G a1 1 60 h4) (va_cwS 3 hts gX7_stay_X7_within rfl rfl rfl (by decide +kernel) ⟨Nat.le_of_ble_eq_true rfl, Nat.le_of_ble_eq_true rfl⟩) hP hK hD hN hS hA rfl hl.1 rfl (Nat.le_of_ble_eq_true rfl) dX7_stay_4 ⟨Nat.zero_le _, Nat.zero_le _⟩ (fun H locs hP hD hS => ?_)
  refine lv_if_ne (tgt := 13) hx hb dX7_stay_7 (by decide) (fun c7 => ?_) (fun c7 => ?_)
  · replace h := ifn h c7
    refine lv_aload_n hx hb dX7_stay_13 rfl (lv_at hl 0 rfl) ?_
    refine va_get (D := D) (ci := 7) (fs := vX7 ad F) (v := .ref (ad 2)) (C := RX7) (T := TX7) (N := 6) hx hb hts n_7 hown hK hP 0 wCg0 rfl 1 (by decide) k_0 (fun _ h9 => h9) rfl dX7_stay_14 ?_
    refine va_get (D := D) (ci := 2) (fs := vX2 ad F) (v := .int ((F 13))) (C := RX2) (T := TX2) (N := 8) hx hb hts n_2 hown hK hP 2 wCg2 rfl 6 (by decide) k_2 (fun _ h9 => h9) rfl dX7_stay_17 ?_
    refine lv_topi (fun x20 ex20 => ?_)
    replace h := pl h ex20
    refine lv_istore_n (lv' := [(2, .int (x20)), (0, .ref (ad 0)), (1, .int (a1))]) hx hb dX7_stay_20 rfl hl (by decide) rfl (fun ls hl => ?_)
    refine lv_aload_n hx hb dX7_stay_21 rfl (lv_at hl 1 rfl) ?_
    refine va_get (D := D) (ci := 7) (fs := vX7 ad F) (v := .ref (ad 2)) (C := RX7) (T := TX7) (N := 6) hx hb hts n_7 hown hK hP 0 wCg0 rfl 1 (by decide) k_0 (fun _ h9 => h9) rfl dX7_stay_22 ?_
    refine lv_iload_n hx hb dX7_stay_25 rfl (lv_at hl 2 rfl) ?_
    obtain ⟨F26, eF26⟩ : ∃ f : tF, f = upd F 13 a1 := ⟨_, rfl⟩
    replace h := pl h eF26
    refine va_put (D := D) (ci := 2) (fs := vX2 ad F) (v := .int (a1)) (ty := .int) (C := RX2) (T := TX2) (N := 8) hx hb hts n_2 tyX2 tyX2_ok nmX2 hown hK hP hD hS 2 wCg2 rfl 6 (by decide) k_2 (fun _ h9 => h9) rfl (tyX2_ok 6 (by decide)) rfl rfl (Nat.le_of_ble_eq_true rfl) dX7_stay_26 (fun H locs hP hD hS => ?_)
    rw [wCp13 eF26] at hP hD
    refine lv_iload_n hx hb dX7_stay_29 rfl (lv_at hl 0 rfl) ?_
    exact hret _ _ _ _ _ _ _ dX7_stay_30 h hP hD hS
  · replace h := ifp h c7
    refine lv_bipush (v := (-2)) hx hb dX7_stay_10 (by decide) ?_
    exact hret _ _ _ _ _ _ _ dX7_stay_12 h hP hD hS

def p_X7_tangle (F : tF) (G : tG) (a1 : Int32) (a2 : Int32) : Option (Int32 × tF × tG) :=
  bi1 (p_X6_has F a1) (fun x5 => (if x5 = 0 then some ((-1), F, G) else bi1 (p_X7_bit (F 17) a1) (fun x21 => bi2 (p_X6_markTangled F G a1 a2) (fun F31 G31 => some (x21, F31, G31)))))
set_option maxHeartbeats 4000000 in
set_option maxRecDepth 100000 in
theorem c_X7_tangle (l : Launch) (D : va_G) (ad : Nat → Nat) (cA : ClassId) (n : Nat) (F : tF) (G : tG) (a1 : Int32) (a2 : Int32) {r : Int32} {F' : tF} {G' : tG} (h : p_X7_tangle F G a1 a2 = some (r, F', G')) : CI l yX7_tangle wsX7_tangle ({ frames := 2, cells := 0, slots := 0, locals := 43 } : Room) D cA (wC ad cA F G) [.ref (ad 0), .int (a1), .int (a2)] r (wC ad cA F' G') := by
  rw [p_X7_tangle] at h
  refine metIm (w := wC ad cA) (cc := cX7_tangle) (maxL := 4) (by decide) rfl (Nat.le_of_ble_eq_true rfl) ?_
  intro p e s m args below meth c A ls Q hE hret
  obtain ⟨hx, hb, hts, hown, hml, hP, hK, hD, hN, hA, hl⟩ := hE
  have hown : s.vm.findClass RX7 = some m.cls := hown
  have hl : lv_has ls 4 [(0, .ref (ad 0)), (1, .int (a1)), (2, .int (a2))] := hl
  have hS : va_S A s.heap s.heap [] := va_S.rf
  have k_0 : (Cond.fieldLink RX7 26 "BellBook" "wreck" "LBellBook$Wreck;").before args s = true := hts _ (List.mem_of_getElem? (i := 1) rfl)
  have n_7 : ∀ w ∈ u_ws RX7 TX7 6, w ∈ wsX7_tangle := fun w hw => List.mem_cons_of_mem _ (List.mem_append_left _ (List.mem_append_right _ hw))
  have k_2 : (Cond.fieldLink RX7 208 "BellBook$Wreck" "tangled" "I").before args s = true := hts _ (List.mem_of_getElem? (i := 2) rfl)
  have n_6 : ∀ w ∈ u_ws RX6 TX6 12, w ∈ wsX7_tangle := fun w hw => List.mem_cons_of_mem _ (List.mem_append_right _ hw)
  refine lv_aload_n hx hb dX7_tangle_0 rfl (lv_at hl 0 rfl) ?_
  refine va_get (D := D) (ci := 7) (fs := vX7 ad F) (v := .ref (ad 9)) (C := RX7) (T := TX7) (N := 6) hx hb hts n_7 hown hK hP 0 wCg0 rfl 2 (by decide) k_0 (fun _ h9 => h9) rfl dX7_tangle_1 ?_
  refine lv_iload_n hx hb dX7_tangle_4 rfl (lv_at hl 1 rfl) ?_
  obtain ⟨x5, h5, h⟩ := bi1e h
  refine callVI (b := ad 9) (As := [.int (a1)]) (rest := []) ⟨hx, hb, hml, hown, hts⟩ (c_X6_has l D ad cA n F G a1 h5) (cwV 1 hts gX7_tangle_X6_has rfl rfl rfl (by decide +kernel) ⟨Nat.le_of_ble_eq_true rfl, Nat.le_of_ble_eq_true rfl⟩) (va_recv hK hP (ci := 6) (q0 := 9) rfl wCg9) hP hK hD hN hS hA rfl hl.1 rfl (Nat.le_of_ble_eq_true rfl) dX7_tangle_5 ⟨Nat.zero_le _, Nat.zero_le _⟩ (fun H locs hP hD hS => ?_)
  refine lv_if_ne (tgt := 13) hx hb dX7_tangle_8 (by decide) (fun c8 => ?_) (fun c8 => ?_)
  · replace h := ifn h c8
    refine lv_aload_n hx hb dX7_tangle_13 rfl (lv_at hl 0 rfl) ?_
    refine va_get (D := D) (ci := 7) (fs := vX7 ad F) (v := .ref (ad 9)) (C := RX7) (T := TX7) (N := 6) hx hb hts n_7 hown hK hP 0 wCg0 rfl 2 (by decide) k_0 (fun _ h9 => h9) rfl dX7_tangle_14 ?_
    refine va_get (D := D) (ci := 6) (fs := vX6 ad F) (v := .int ((F 17))) (C := RX6) (T := TX6) (N := 12) hx hb hts n_6 hown hK hP 9 wCg9 rfl 10 (by decide) k_2 (fun _ h9 => h9) rfl dX7_tangle_17 ?_
    refine lv_iload_n hx hb dX7_tangle_20 rfl (lv_at hl 1 rfl) ?_
    obtain ⟨x21, h21, h⟩ := bi1e h
    refine callSI (As := [.int ((F 17)), .int (a1)]) (rest := []) ⟨hx, hb, hml, hown, hts⟩ (c_X7_bit l D ad cA n F G (F 17) a1 h21) (va_cwS 2 hts gX7_tangle_X7_bit rfl rfl rfl (by decide +kernel) ⟨Nat.le_of_ble_eq_true rfl, Nat.le_of_ble_eq_true rfl⟩) hP hK hD hN hS hA rfl hl.1 rfl (Nat.le_of_ble_eq_true rfl) dX7_tangle_21 ⟨Nat.zero_le _, Nat.zero_le _⟩ (fun H locs hP hD hS => ?_)
    refine lv_istore_n (lv' := [(3, .int (x21)), (0, .ref (ad 0)), (1, .int (a1)), (2, .int (a2))]) hx hb dX7_tangle_24 rfl hl (by decide) rfl (fun ls hl => ?_)
    refine lv_aload_n hx hb dX7_tangle_25 rfl (lv_at hl 1 rfl) ?_
    refine va_get (D := D) (ci := 7) (fs := vX7 ad F) (v := .ref (ad 9)) (C := RX7) (T := TX7) (N := 6) hx hb hts n_7 hown hK hP 0 wCg0 rfl 2 (by decide) k_0 (fun _ h9 => h9) rfl dX7_tangle_26 ?_
    refine lv_iload_n hx hb dX7_tangle_29 rfl (lv_at hl 2 rfl) ?_
    refine lv_iload_n hx hb dX7_tangle_30 rfl (lv_at hl 3 rfl) ?_
    obtain ⟨F31, G31, h31, h⟩ := bi2e h
    refine callVV (b := ad 9) (As := [.int (a1), .int (a2)]) (rest := []) ⟨hx, hb, hml, hown, hts⟩ (c_X6_markTangled l D ad cA n F G a1 a2 h31) (cwV 2 hts gX7_tangle_X6_markTangled rfl rfl rfl (by decide +kernel) ⟨Nat.le_of_ble_eq_true rfl, Nat.le_of_ble_eq_true rfl⟩) (va_recv hK hP (ci := 6) (q0 := 9) rfl wCg9) hP hK hD hN hS hA rfl hl.1 rfl (Nat.le_of_ble_eq_true rfl) dX7_tangle_31 ⟨Nat.zero_le _, Nat.zero_le _⟩ (fun H locs hP hD hS => ?_)
    refine lv_iload_n hx hb dX7_tangle_34 rfl (lv_at hl 0 rfl) ?_
    exact hret _ _ _ _ _ _ _ dX7_tangle_35 h hP hD hS
  · replace h := ifp h c8
    refine lv_iconst (v := (-1)) hx hb dX7_tangle_11 (by decide) ?_
    exact hret _ _ _ _ _ _ _ dX7_tangle_12 h hP hD hS

def p_X7_tell (n : Nat) (F : tF) (G : tG) : Option (Int32 × tF × tG) :=
  bi1 ((if (F 23) = 0 then some ((-6)) else bi1 (p_X3_nearestToRow n F G) (fun x19 => some (x19)))) (fun (y7_0 : Int32) => plet (upd F 23 0) (fun (F28 : tF) => some (y7_0, F28, G)))
set_option maxHeartbeats 4000000 in
set_option maxRecDepth 100000 in
theorem c_X7_tell (l : Launch) (D : va_G) (ad : Nat → Nat) (cA : ClassId) (n : Nat) (F : tF) (G : tG) {r : Int32} {F' : tF} {G' : tG} (h : p_X7_tell n F G = some (r, F', G')) : CI l yX7_tell wsX7_tell ({ frames := 5, cells := 0, slots := 0, locals := 114 } : Room) D cA (wC ad cA F G) [.ref (ad 0)] r (wC ad cA F' G') := by
  rw [p_X7_tell] at h
  refine metIm (w := wC ad cA) (cc := cX7_tell) (maxL := 2) (by decide) rfl (Nat.le_of_ble_eq_true rfl) ?_
  intro p e s m args below meth c A ls Q hE hret
  obtain ⟨hx, hb, hts, hown, hml, hP, hK, hD, hN, hA, hl⟩ := hE
  have hown : s.vm.findClass RX7 = some m.cls := hown
  have hl : lv_has ls 2 [(0, .ref (ad 0))] := hl
  have hS : va_S A s.heap s.heap [] := va_S.rf
  have k_0 : (Cond.fieldLink RX7 33 "BellBook" "line" "LBellBook$Line;").before args s = true := hts _ (List.mem_of_getElem? (i := 1) rfl)
  have n_7 : ∀ w ∈ u_ws RX7 TX7 6, w ∈ wsX7_tell := fun w hw => List.mem_cons_of_mem _ (List.mem_append_left _ (List.mem_append_right _ hw))
  have k_2 : (Cond.fieldLink RX7 281 "BellBook$Line" "hearings" "I").before args s = true := hts _ (List.mem_of_getElem? (i := 2) rfl)
  have n_3 : ∀ w ∈ u_ws RX3 TX3 5, w ∈ wsX7_tell := fun w hw => List.mem_cons_of_mem _ (List.mem_append_right _ hw)
  refine lv_aload_n hx hb dX7_tell_0 rfl (lv_at hl 0 rfl) ?_
  refine va_get (D := D) (ci := 7) (fs := vX7 ad F) (v := .ref (ad 22)) (C := RX7) (T := TX7) (N := 6) hx hb hts n_7 hown hK hP 0 wCg0 rfl 3 (by decide) k_0 (fun _ h9 => h9) rfl dX7_tell_1 ?_
  refine va_get (D := D) (ci := 3) (fs := vX3 ad F) (v := .int ((F 23))) (C := RX3) (T := TX3) (N := 5) hx hb hts n_3 hown hK hP 22 wCg22 rfl 4 (by decide) k_2 (fun _ h9 => h9) rfl dX7_tell_4 ?_
  obtain ⟨y7_0, q7, h⟩ := bi1e h
  have J7 : ∀ (wy7_0 : Int32), some (wy7_0) = some (y7_0) → ∀ (H : Heap) (locs : List Loc) (ls : Array Slot), va_P D vwCl (wC ad cA F G) H → va_D A (wC ad cA F G) → va_S A s.heap H locs → lv_has ls 2 [(0, .ref (ad 0))] → W p l e ({ frames := 5, cells := 0, slots := 0, locals := 114 } : Room) s m args below meth c H locs 0 0 Q (F0 m 22 ls [.int (wy7_0)]) := by
    intro wy7_0 e9 H locs ls hP hD hS hl
    cases e9
    refine lv_istore_n (lv' := [(1, .int (y7_0)), (0, .ref (ad 0))]) hx hb dX7_tell_22 rfl hl (by decide) rfl (fun ls hl => ?_)
    refine lv_aload_n hx hb dX7_tell_23 rfl (lv_at hl 1 rfl) ?_
    refine va_get (D := D) (ci := 7) (fs := vX7 ad F) (v := .ref (ad 22)) (C := RX7) (T := TX7) (N := 6) hx hb hts n_7 hown hK hP 0 wCg0 rfl 3 (by decide) k_0 (fun _ h9 => h9) rfl dX7_tell_24 ?_
    refine lv_iconst (v := 0) hx hb dX7_tell_27 (by decide) ?_
    obtain ⟨F28, eF28⟩ : ∃ f : tF, f = upd F 23 0 := ⟨_, rfl⟩
    replace h := pl h eF28
    refine va_put (D := D) (ci := 3) (fs := vX3 ad F) (v := .int (0)) (ty := .int) (C := RX3) (T := TX3) (N := 5) hx hb hts n_3 tyX3 tyX3_ok nmX3 hown hK hP hD hS 22 wCg22 rfl 4 (by decide) k_2 (fun _ h9 => h9) rfl (tyX3_ok 4 (by decide)) rfl rfl (Nat.le_of_ble_eq_true rfl) dX7_tell_28 (fun H locs hP hD hS => ?_)
    rw [wCp23 eF28] at hP hD
    refine lv_iload_n hx hb dX7_tell_31 rfl (lv_at hl 0 rfl) ?_
    exact hret _ _ _ _ _ _ _ dX7_tell_32 h hP hD hS
  refine lv_if_ne (tgt := 15) hx hb dX7_tell_7 (by decide) (fun c7 => ?_) (fun c7 => ?_)
  · replace q7 := ifn q7 c7
    refine lv_aload_n hx hb dX7_tell_15 rfl (lv_at hl 0 rfl) ?_
    refine va_get (D := D) (ci := 7) (fs := vX7 ad F) (v := .ref (ad 22)) (C := RX7) (T := TX7) (N := 6) hx hb hts n_7 hown hK hP 0 wCg0 rfl 3 (by decide) k_0 (fun _ h9 => h9) rfl dX7_tell_16 ?_
    obtain ⟨x19, h19, q7⟩ := bi1e q7
    refine callVI (b := ad 22) (As := []) (rest := []) ⟨hx, hb, hml, hown, hts⟩ (c_X3_nearestToRow l D ad cA n F G h19) (cwV 0 hts gX7_tell_X3_nearestToRow rfl rfl rfl (by decide +kernel) ⟨Nat.le_of_ble_eq_true rfl, Nat.le_of_ble_eq_true rfl⟩) (va_recv hK hP (ci := 3) (q0 := 22) rfl wCg22) hP hK hD hN hS hA rfl hl.1 rfl (Nat.le_of_ble_eq_true rfl) dX7_tell_19 ⟨Nat.zero_le _, Nat.zero_le _⟩ (fun H locs hP hD hS => ?_)
    exact J7 _ q7 _ _ _ hP hD hS (lv_sub hl [0] rfl)
  · replace q7 := ifp q7 c7
    refine lv_bipush (v := (-6)) hx hb dX7_tell_10 (by decide) ?_
    refine lv_goto (tgt := 22) hx hb dX7_tell_12 (by decide) ?_
    exact J7 _ q7 _ _ _ hP hD hS (lv_sub hl [0] rfl)

def p_X7_thing (F : tF) (G : tG) (a1 : Int32) (a2 : Int32) (a3 : Int32) (a4 : Int32) : Option (Int32 × tF × tG) :=
  bi1 (p_X7_isSquare a1) (fun x1 => (if x1 = 0 then some ((-1), F, G) else bi1 (p_X7_within a2 0 1000) (fun x14 => (if x14 = 0 then some ((-2), F, G) else bi1 (p_X7_within a3 1 200) (fun x25 => (if x25 = 0 then some ((-2), F, G) else bi1 (p_X7_within a4 0 100) (fun x36 => (if x36 = 0 then some ((-2), F, G) else (if (F 15) < 12 then bi3 (p_X6_add F G a1 a2 a3 a4) (fun x69 F69 G69 => some (x69, F69, G69)) else some ((-4), F, G))))))))))
set_option maxHeartbeats 4000000 in
set_option maxRecDepth 100000 in
theorem c_X7_thing (l : Launch) (D : va_G) (ad : Nat → Nat) (cA : ClassId) (n : Nat) (F : tF) (G : tG) (a1 : Int32) (a2 : Int32) (a3 : Int32) (a4 : Int32) {r : Int32} {F' : tF} {G' : tG} (h : p_X7_thing F G a1 a2 a3 a4 = some (r, F', G')) : CI l yX7_thing wsX7_thing ({ frames := 2, cells := 0, slots := 0, locals := 42 } : Room) D cA (wC ad cA F G) [.ref (ad 0), .int (a1), .int (a2), .int (a3), .int (a4)] r (wC ad cA F' G') := by
  rw [p_X7_thing] at h
  refine metIm (w := wC ad cA) (cc := cX7_thing) (maxL := 5) (by decide) rfl (Nat.le_of_ble_eq_true rfl) ?_
  intro p e s m args below meth c A ls Q hE hret
  obtain ⟨hx, hb, hts, hown, hml, hP, hK, hD, hN, hA, hl⟩ := hE
  have hown : s.vm.findClass RX7 = some m.cls := hown
  have hl : lv_has ls 5 [(0, .ref (ad 0)), (1, .int (a1)), (2, .int (a2)), (3, .int (a3)), (4, .int (a4))] := hl
  have hS : va_S A s.heap s.heap [] := va_S.rf
  have k_0 : (Cond.fieldLink RX7 26 "BellBook" "wreck" "LBellBook$Wreck;").before args s = true := hts _ (List.mem_of_getElem? (i := 1) rfl)
  have n_7 : ∀ w ∈ u_ws RX7 TX7 6, w ∈ wsX7_thing := fun w hw => List.mem_cons_of_mem _ (List.mem_append_left _ (List.mem_append_right _ hw))
  have k_2 : (Cond.fieldLink RX7 184 "BellBook$Wreck" "count" "I").before args s = true := hts _ (List.mem_of_getElem? (i := 2) rfl)
  have n_6 : ∀ w ∈ u_ws RX6 TX6 12, w ∈ wsX7_thing := fun w hw => List.mem_cons_of_mem _ (List.mem_append_right _ hw)
  refine lv_iload_n hx hb dX7_thing_0 rfl (lv_at hl 1 rfl) ?_
  obtain ⟨x1, h1, h⟩ := bi1e h
  refine callSI (As := [.int (a1)]) (rest := []) ⟨hx, hb, hml, hown, hts⟩ (c_X7_isSquare l D ad cA n F G a1 h1) (va_cwS 1 hts gX7_thing_X7_isSquare rfl rfl rfl (by decide +kernel) ⟨Nat.le_of_ble_eq_true rfl, Nat.le_of_ble_eq_true rfl⟩) hP hK hD hN hS hA rfl hl.1 rfl (Nat.le_of_ble_eq_true rfl) dX7_thing_1 ⟨Nat.zero_le _, Nat.zero_le _⟩ (fun H locs hP hD hS => ?_)
  refine lv_if_ne (tgt := 9) hx hb dX7_thing_4 (by decide) (fun c4 => ?_) (fun c4 => ?_)
  · replace h := ifn h c4
    refine lv_iload_n hx hb dX7_thing_9 rfl (lv_at hl 2 rfl) ?_
    refine lv_iconst (v := 0) hx hb dX7_thing_10 (by decide) ?_
    refine lv_sipush (v := 1000) hx hb dX7_thing_11 (by decide) ?_
    obtain ⟨x14, h14, h⟩ := bi1e h
    refine callSI (As := [.int (a2), .int (0), .int (1000)]) (rest := []) ⟨hx, hb, hml, hown, hts⟩ (c_X7_within l D ad cA n F G a2 0 1000 h14) (va_cwS 3 hts gX7_thing_X7_within rfl rfl rfl (by decide +kernel) ⟨Nat.le_of_ble_eq_true rfl, Nat.le_of_ble_eq_true rfl⟩) hP hK hD hN hS hA rfl hl.1 rfl (Nat.le_of_ble_eq_true rfl) dX7_thing_14 ⟨Nat.zero_le _, Nat.zero_le _⟩ (fun H locs hP hD hS => ?_)
    refine lv_if_eq (tgt := 42) hx hb dX7_thing_17 (by decide) (fun c17 => ?_) (fun c17 => ?_)
    · replace h := ifp h c17
      refine lv_bipush (v := (-2)) hx hb dX7_thing_42 (by decide) ?_
      exact hret _ _ _ _ _ _ _ dX7_thing_44 h hP hD hS
    · replace h := ifn h c17
      refine lv_iload_n hx hb dX7_thing_20 rfl (lv_at hl 3 rfl) ?_
      refine lv_iconst (v := 1) hx hb dX7_thing_21 (by decide) ?_
      refine lv_sipush (v := 200) hx hb dX7_thing_22 (by decide) ?_
      obtain ⟨x25, h25, h⟩ := bi1e h
      refine callSI (As := [.int (a3), .int (1), .int (200)]) (rest := []) ⟨hx, hb, hml, hown, hts⟩ (c_X7_within l D ad cA n F G a3 1 200 h25) (va_cwS 3 hts gX7_thing_X7_within rfl rfl rfl (by decide +kernel) ⟨Nat.le_of_ble_eq_true rfl, Nat.le_of_ble_eq_true rfl⟩) hP hK hD hN hS hA rfl hl.1 rfl (Nat.le_of_ble_eq_true rfl) dX7_thing_25 ⟨Nat.zero_le _, Nat.zero_le _⟩ (fun H locs hP hD hS => ?_)
      refine lv_if_eq (tgt := 42) hx hb dX7_thing_28 (by decide) (fun c28 => ?_) (fun c28 => ?_)
      · replace h := ifp h c28
        refine lv_bipush (v := (-2)) hx hb dX7_thing_42 (by decide) ?_
        exact hret _ _ _ _ _ _ _ dX7_thing_44 h hP hD hS
      · replace h := ifn h c28
        refine lv_iload hx hb dX7_thing_31 (lv_at hl 4 rfl) ?_
        refine lv_iconst (v := 0) hx hb dX7_thing_33 (by decide) ?_
        refine lv_bipush (v := 100) hx hb dX7_thing_34 (by decide) ?_
        obtain ⟨x36, h36, h⟩ := bi1e h
        refine callSI (As := [.int (a4), .int (0), .int (100)]) (rest := []) ⟨hx, hb, hml, hown, hts⟩ (c_X7_within l D ad cA n F G a4 0 100 h36) (va_cwS 3 hts gX7_thing_X7_within rfl rfl rfl (by decide +kernel) ⟨Nat.le_of_ble_eq_true rfl, Nat.le_of_ble_eq_true rfl⟩) hP hK hD hN hS hA rfl hl.1 rfl (Nat.le_of_ble_eq_true rfl) dX7_thing_36 ⟨Nat.zero_le _, Nat.zero_le _⟩ (fun H locs hP hD hS => ?_)
        refine lv_if_ne (tgt := 45) hx hb dX7_thing_39 (by decide) (fun c39 => ?_) (fun c39 => ?_)
        · replace h := ifn h c39
          refine lv_aload_n hx hb dX7_thing_45 rfl (lv_at hl 0 rfl) ?_
          refine va_get (D := D) (ci := 7) (fs := vX7 ad F) (v := .ref (ad 9)) (C := RX7) (T := TX7) (N := 6) hx hb hts n_7 hown hK hP 0 wCg0 rfl 2 (by decide) k_0 (fun _ h9 => h9) rfl dX7_thing_46 ?_
          refine va_get (D := D) (ci := 6) (fs := vX6 ad F) (v := .int ((F 15))) (C := RX6) (T := TX6) (N := 12) hx hb hts n_6 hown hK hP 9 wCg9 rfl 8 (by decide) k_2 (fun _ h9 => h9) rfl dX7_thing_49 ?_
          refine lv_bipush (v := 12) hx hb dX7_thing_52 (by decide) ?_
          refine lv_icmp_lt (tgt := 60) hx hb dX7_thing_54 (by decide) (fun c54 => ?_) (fun c54 => ?_)
          · replace h := ifp h c54
            refine lv_aload_n hx hb dX7_thing_60 rfl (lv_at hl 0 rfl) ?_
            refine va_get (D := D) (ci := 7) (fs := vX7 ad F) (v := .ref (ad 9)) (C := RX7) (T := TX7) (N := 6) hx hb hts n_7 hown hK hP 0 wCg0 rfl 2 (by decide) k_0 (fun _ h9 => h9) rfl dX7_thing_61 ?_
            refine lv_iload_n hx hb dX7_thing_64 rfl (lv_at hl 1 rfl) ?_
            refine lv_iload_n hx hb dX7_thing_65 rfl (lv_at hl 2 rfl) ?_
            refine lv_iload_n hx hb dX7_thing_66 rfl (lv_at hl 3 rfl) ?_
            refine lv_iload hx hb dX7_thing_67 (lv_at hl 4 rfl) ?_
            obtain ⟨x69, F69, G69, h69, h⟩ := bi3e h
            refine callVI (b := ad 9) (As := [.int (a1), .int (a2), .int (a3), .int (a4)]) (rest := []) ⟨hx, hb, hml, hown, hts⟩ (c_X6_add l D ad cA n F G a1 a2 a3 a4 h69) (cwV 4 hts gX7_thing_X6_add rfl rfl rfl (by decide +kernel) ⟨Nat.le_of_ble_eq_true rfl, Nat.le_of_ble_eq_true rfl⟩) (va_recv hK hP (ci := 6) (q0 := 9) rfl wCg9) hP hK hD hN hS hA rfl hl.1 rfl (Nat.le_of_ble_eq_true rfl) dX7_thing_69 ⟨Nat.zero_le _, Nat.zero_le _⟩ (fun H locs hP hD hS => ?_)
            exact hret _ _ _ _ _ _ _ dX7_thing_72 h hP hD hS
          · replace h := ifn h c54
            refine lv_bipush (v := (-4)) hx hb dX7_thing_57 (by decide) ?_
            exact hret _ _ _ _ _ _ _ dX7_thing_59 h hP hD hS
        · replace h := ifp h c39
          refine lv_bipush (v := (-2)) hx hb dX7_thing_42 (by decide) ?_
          exact hret _ _ _ _ _ _ _ dX7_thing_44 h hP hD hS
  · replace h := ifp h c4
    refine lv_iconst (v := (-1)) hx hb dX7_thing_7 (by decide) ?_
    exact hret _ _ _ _ _ _ _ dX7_thing_8 h hP hD hS

def p_X7_tide (F : tF) (G : tG) (a1 : Int32) : Option (Int32 × tF × tG) :=
  bi1 (p_X7_within a1 1 300) (fun x5 => (if x5 = 0 then some ((-2), F, G) else (if (F 19) < 5 then bi3 (p_X6_addTide F G a1) (fun x36 F36 G36 => some (x36, F36, G36)) else some ((-4), F, G))))
set_option maxHeartbeats 4000000 in
set_option maxRecDepth 100000 in
theorem c_X7_tide (l : Launch) (D : va_G) (ad : Nat → Nat) (cA : ClassId) (n : Nat) (F : tF) (G : tG) (a1 : Int32) {r : Int32} {F' : tF} {G' : tG} (h : p_X7_tide F G a1 = some (r, F', G')) : CI l yX7_tide wsX7_tide ({ frames := 2, cells := 0, slots := 0, locals := 42 } : Room) D cA (wC ad cA F G) [.ref (ad 0), .int (a1)] r (wC ad cA F' G') := by
  rw [p_X7_tide] at h
  refine metIm (w := wC ad cA) (cc := cX7_tide) (maxL := 2) (by decide) rfl (Nat.le_of_ble_eq_true rfl) ?_
  intro p e s m args below meth c A ls Q hE hret
  obtain ⟨hx, hb, hts, hown, hml, hP, hK, hD, hN, hA, hl⟩ := hE
  have hown : s.vm.findClass RX7 = some m.cls := hown
  have hl : lv_has ls 2 [(0, .ref (ad 0)), (1, .int (a1))] := hl
  have hS : va_S A s.heap s.heap [] := va_S.rf
  have k_0 : (Cond.fieldLink RX7 26 "BellBook" "wreck" "LBellBook$Wreck;").before args s = true := hts _ (List.mem_of_getElem? (i := 1) rfl)
  have n_7 : ∀ w ∈ u_ws RX7 TX7 6, w ∈ wsX7_tide := fun w hw => List.mem_cons_of_mem _ (List.mem_append_left _ (List.mem_append_left _ (List.mem_append_right _ hw)))
  have k_2 : (Cond.fieldLink RX7 236 "BellBook$Wreck" "tides" "LBellBook$Tides;").before args s = true := hts _ (List.mem_of_getElem? (i := 2) rfl)
  have n_6 : ∀ w ∈ u_ws RX6 TX6 12, w ∈ wsX7_tide := fun w hw => List.mem_cons_of_mem _ (List.mem_append_left _ (List.mem_append_right _ hw))
  have k_4 : (Cond.fieldLink RX7 240 "BellBook$Tides" "count" "I").before args s = true := hts _ (List.mem_of_getElem? (i := 3) rfl)
  have n_5 : ∀ w ∈ u_ws RX5 TX5 2, w ∈ wsX7_tide := fun w hw => List.mem_cons_of_mem _ (List.mem_append_right _ hw)
  refine lv_iload_n hx hb dX7_tide_0 rfl (lv_at hl 1 rfl) ?_
  refine lv_iconst (v := 1) hx hb dX7_tide_1 (by decide) ?_
  refine lv_sipush (v := 300) hx hb dX7_tide_2 (by decide) ?_
  obtain ⟨x5, h5, h⟩ := bi1e h
  refine callSI (As := [.int (a1), .int (1), .int (300)]) (rest := []) ⟨hx, hb, hml, hown, hts⟩ (c_X7_within l D ad cA n F G a1 1 300 h5) (va_cwS 3 hts gX7_tide_X7_within rfl rfl rfl (by decide +kernel) ⟨Nat.le_of_ble_eq_true rfl, Nat.le_of_ble_eq_true rfl⟩) hP hK hD hN hS hA rfl hl.1 rfl (Nat.le_of_ble_eq_true rfl) dX7_tide_5 ⟨Nat.zero_le _, Nat.zero_le _⟩ (fun H locs hP hD hS => ?_)
  refine lv_if_ne (tgt := 14) hx hb dX7_tide_8 (by decide) (fun c8 => ?_) (fun c8 => ?_)
  · replace h := ifn h c8
    refine lv_aload_n hx hb dX7_tide_14 rfl (lv_at hl 0 rfl) ?_
    refine va_get (D := D) (ci := 7) (fs := vX7 ad F) (v := .ref (ad 9)) (C := RX7) (T := TX7) (N := 6) hx hb hts n_7 hown hK hP 0 wCg0 rfl 2 (by decide) k_0 (fun _ h9 => h9) rfl dX7_tide_15 ?_
    refine va_get (D := D) (ci := 6) (fs := vX6 ad F) (v := .ref (ad 16)) (C := RX6) (T := TX6) (N := 12) hx hb hts n_6 hown hK hP 9 wCg9 rfl 6 (by decide) k_2 (fun _ h9 => h9) rfl dX7_tide_18 ?_
    refine va_get (D := D) (ci := 5) (fs := vX5 ad F) (v := .int ((F 19))) (C := RX5) (T := TX5) (N := 2) hx hb hts n_5 hown hK hP 16 wCg16 rfl 1 (by decide) k_4 (fun _ h9 => h9) rfl dX7_tide_21 ?_
    refine lv_iconst (v := 5) hx hb dX7_tide_24 (by decide) ?_
    refine lv_icmp_lt (tgt := 31) hx hb dX7_tide_25 (by decide) (fun c25 => ?_) (fun c25 => ?_)
    · replace h := ifp h c25
      refine lv_aload_n hx hb dX7_tide_31 rfl (lv_at hl 0 rfl) ?_
      refine va_get (D := D) (ci := 7) (fs := vX7 ad F) (v := .ref (ad 9)) (C := RX7) (T := TX7) (N := 6) hx hb hts n_7 hown hK hP 0 wCg0 rfl 2 (by decide) k_0 (fun _ h9 => h9) rfl dX7_tide_32 ?_
      refine lv_iload_n hx hb dX7_tide_35 rfl (lv_at hl 1 rfl) ?_
      obtain ⟨x36, F36, G36, h36, h⟩ := bi3e h
      refine callVI (b := ad 9) (As := [.int (a1)]) (rest := []) ⟨hx, hb, hml, hown, hts⟩ (c_X6_addTide l D ad cA n F G a1 h36) (cwV 1 hts gX7_tide_X6_addTide rfl rfl rfl (by decide +kernel) ⟨Nat.le_of_ble_eq_true rfl, Nat.le_of_ble_eq_true rfl⟩) (va_recv hK hP (ci := 6) (q0 := 9) rfl wCg9) hP hK hD hN hS hA rfl hl.1 rfl (Nat.le_of_ble_eq_true rfl) dX7_tide_36 ⟨Nat.zero_le _, Nat.zero_le _⟩ (fun H locs hP hD hS => ?_)
      exact hret _ _ _ _ _ _ _ dX7_tide_39 h hP hD hS
    · replace h := ifn h c25
      refine lv_bipush (v := (-4)) hx hb dX7_tide_28 (by decide) ?_
      exact hret _ _ _ _ _ _ _ dX7_tide_30 h hP hD hS
  · replace h := ifp h c8
    refine lv_bipush (v := (-2)) hx hb dX7_tide_11 (by decide) ?_
    exact hret _ _ _ _ _ _ _ dX7_tide_13 h hP hD hS

def p_X7_tideOf (n : Nat) (F : tF) (G : tG) (a1 : Int32) : Option (Int32 × tF × tG) :=
  (if 0 ≤ a1 then bi2 (p_X6_bestPlan n F G) (fun F11 G11 => bi1 ((if (F11 20) ≤ a1 then some ((-6)) else oguard (inB a1 12) (some ((G11 14 a1.toNatClampNeg))))) (fun (y20_0 : Int32) => some (y20_0, F11, G11))) else some ((-6), F, G))
set_option maxHeartbeats 4000000 in
set_option maxRecDepth 100000 in
theorem c_X7_tideOf (l : Launch) (D : va_G) (ad : Nat → Nat) (cA : ClassId) (n : Nat) (F : tF) (G : tG) (a1 : Int32) {r : Int32} {F' : tF} {G' : tG} (h : p_X7_tideOf n F G a1 = some (r, F', G')) : CI l yX7_tideOf wsX7_tideOf ({ frames := 6, cells := 0, slots := 0, locals := 137 } : Room) D cA (wC ad cA F G) [.ref (ad 0), .int (a1)] r (wC ad cA F' G') := by
  rw [p_X7_tideOf] at h
  refine metIm (w := wC ad cA) (cc := cX7_tideOf) (maxL := 3) (by decide) rfl (Nat.le_of_ble_eq_true rfl) ?_
  intro p e s m args below meth c A ls Q hE hret
  obtain ⟨hx, hb, hts, hown, hml, hP, hK, hD, hN, hA, hl⟩ := hE
  have hown : s.vm.findClass RX7 = some m.cls := hown
  have hl : lv_has ls 3 [(0, .ref (ad 0)), (1, .int (a1))] := hl
  have hS : va_S A s.heap s.heap [] := va_S.rf
  have k_0 : (Cond.fieldLink RX7 26 "BellBook" "wreck" "LBellBook$Wreck;").before args s = true := hts _ (List.mem_of_getElem? (i := 1) rfl)
  have n_7 : ∀ w ∈ u_ws RX7 TX7 6, w ∈ wsX7_tideOf := fun w hw => List.mem_cons_of_mem _ (List.mem_append_left _ (List.mem_append_left _ (List.mem_append_left _ (List.mem_append_right _ hw))))
  have k_2 : (Cond.fieldLink RX7 259 "BellBook$Plan" "count" "I").before args s = true := hts _ (List.mem_of_getElem? (i := 2) rfl)
  have n_4 : ∀ w ∈ u_ws RX4 TX4 6, w ∈ wsX7_tideOf := fun w hw => List.mem_cons_of_mem _ (List.mem_append_left _ (List.mem_append_left _ (List.mem_append_right _ hw)))
  have k_4 : (Cond.fieldLink RX7 263 "BellBook$Plan" "when" "[I").before args s = true := hts _ (List.mem_of_getElem? (i := 3) rfl)
  refine lv_iload_n hx hb dX7_tideOf_0 rfl (lv_at hl 1 rfl) ?_
  refine lv_if_ge (tgt := 7) hx hb dX7_tideOf_1 (by decide) (fun c1 => ?_) (fun c1 => ?_)
  · replace h := ifp h c1
    refine lv_aload_n hx hb dX7_tideOf_7 rfl (lv_at hl 0 rfl) ?_
    refine va_get (D := D) (ci := 7) (fs := vX7 ad F) (v := .ref (ad 9)) (C := RX7) (T := TX7) (N := 6) hx hb hts n_7 hown hK hP 0 wCg0 rfl 2 (by decide) k_0 (fun _ h9 => h9) rfl dX7_tideOf_8 ?_
    obtain ⟨F11, G11, h11, h⟩ := bi2e h
    refine callVR (b := ad 9) (As := []) (rest := []) ⟨hx, hb, hml, hown, hts⟩ (c_X6_bestPlan l D ad cA n F G h11) (cwV 0 hts gX7_tideOf_X6_bestPlan rfl rfl rfl (by decide +kernel) ⟨Nat.le_of_ble_eq_true rfl, Nat.le_of_ble_eq_true rfl⟩) (va_recv hK hP (ci := 6) (q0 := 9) rfl wCg9) hP hK hD hN hS hA rfl hl.1 rfl (Nat.le_of_ble_eq_true rfl) dX7_tideOf_11 ⟨Nat.zero_le _, Nat.zero_le _⟩ (fun H locs hP hD hS => ?_)
    refine lv_astore_n (lv' := [(2, .ref (ad 18)), (0, .ref (ad 0)), (1, .int (a1))]) hx hb dX7_tideOf_14 rfl hl (by decide) rfl (fun ls hl => ?_)
    refine lv_iload_n hx hb dX7_tideOf_15 rfl (lv_at hl 2 rfl) ?_
    refine lv_aload_n hx hb dX7_tideOf_16 rfl (lv_at hl 0 rfl) ?_
    refine va_get (D := D) (ci := 4) (fs := vX4 ad F11) (v := .int ((F11 20))) (C := RX4) (T := TX4) (N := 6) hx hb hts n_4 hown hK hP 18 wCg18 rfl 2 (by decide) k_2 (fun _ h9 => h9) rfl dX7_tideOf_17 ?_
    obtain ⟨y20_0, q20, h⟩ := bi1e h
    have J20 : ∀ (wy20_0 : Int32), some (wy20_0) = some (y20_0) → ∀ (H : Heap) (locs : List Loc) (ls : Array Slot), va_P D vwCl (wC ad cA F11 G11) H → va_D A (wC ad cA F11 G11) → va_S A s.heap H locs → lv_has ls 3 [(2, .ref (ad 18)), (0, .ref (ad 0)), (1, .int (a1))] → W p l e ({ frames := 6, cells := 0, slots := 0, locals := 137 } : Room) s m args below meth c H locs 0 0 Q (F0 m 34 ls [.int (wy20_0)]) := by
      intro wy20_0 e9 H locs ls hP hD hS hl
      cases e9
      exact hret _ _ _ _ _ _ _ dX7_tideOf_34 h hP hD hS
    refine lv_icmp_ge (tgt := 32) hx hb dX7_tideOf_20 (by decide) (fun c20 => ?_) (fun c20 => ?_)
    · replace q20 := ifp q20 c20
      refine lv_bipush (v := (-6)) hx hb dX7_tideOf_32 (by decide) ?_
      exact J20 _ q20 _ _ _ hP hD hS (lv_sub hl [0, 1, 2] rfl)
    · replace q20 := ifn q20 c20
      refine lv_aload_n hx hb dX7_tideOf_23 rfl (lv_at hl 0 rfl) ?_
      refine va_get (D := D) (ci := 4) (fs := vX4 ad F11) (v := .ref (ad 20)) (C := RX4) (T := TX4) (N := 6) hx hb hts n_4 hown hK hP 18 wCg18 rfl 1 (by decide) k_4 (fun _ h9 => h9) rfl dX7_tideOf_24 ?_
      refine lv_iload_n hx hb dX7_tideOf_27 rfl (lv_at hl 2 rfl) ?_
      obtain ⟨g28, q20⟩ := og q20
      refine va_iald (D := D) hx hb hK hP 20 0 wCg20 rfl (inB_in g28) dX7_tideOf_28 ?_
      refine lv_goto (tgt := 34) hx hb dX7_tideOf_29 (by decide) ?_
      exact J20 _ q20 _ _ _ hP hD hS (lv_sub hl [0, 1, 2] rfl)
  · replace h := ifn h c1
    refine lv_bipush (v := (-6)) hx hb dX7_tideOf_4 (by decide) ?_
    exact hret _ _ _ _ _ _ _ dX7_tideOf_6 h hP hD hS

def p_X7_tight (n : Nat) (G : tG) : Option (Int32) :=
  bi1 (p_X3_leastApart n G) (fun x4 => some x4)
set_option maxHeartbeats 4000000 in
set_option maxRecDepth 100000 in
theorem c_X7_tight (l : Launch) (D : va_G) (ad : Nat → Nat) (cA : ClassId) (n : Nat) (F : tF) (G : tG) {r : Int32} (h : p_X7_tight n G = some r) : CI l yX7_tight wsX7_tight ({ frames := 5, cells := 0, slots := 0, locals := 112 } : Room) D cA (wC ad cA F G) [.ref (ad 0)] r (wC ad cA F G) := by
  rw [p_X7_tight] at h
  refine metIr (w := wC ad cA) (cc := cX7_tight) (maxL := 1) (by decide) rfl (Nat.le_of_ble_eq_true rfl) ?_
  intro p e s m args below meth c A ls Q hE hret
  obtain ⟨hx, hb, hts, hown, hml, hP, hK, hD, hN, hA, hl⟩ := hE
  have hown : s.vm.findClass RX7 = some m.cls := hown
  have hl : lv_has ls 1 [(0, .ref (ad 0))] := hl
  have hS : va_S A s.heap s.heap [] := va_S.rf
  have k_0 : (Cond.fieldLink RX7 33 "BellBook" "line" "LBellBook$Line;").before args s = true := hts _ (List.mem_of_getElem? (i := 1) rfl)
  have n_7 : ∀ w ∈ u_ws RX7 TX7 6, w ∈ wsX7_tight := fun w hw => List.mem_cons_of_mem _ (List.mem_append_left _ (List.mem_append_right _ hw))
  refine lv_aload_n hx hb dX7_tight_0 rfl (lv_at hl 0 rfl) ?_
  refine va_get (D := D) (ci := 7) (fs := vX7 ad F) (v := .ref (ad 22)) (C := RX7) (T := TX7) (N := 6) hx hb hts n_7 hown hK hP 0 wCg0 rfl 3 (by decide) k_0 (fun _ h9 => h9) rfl dX7_tight_1 ?_
  obtain ⟨x4, h4, h⟩ := bi1e h
  refine callVI (b := ad 22) (As := []) (rest := []) ⟨hx, hb, hml, hown, hts⟩ (c_X3_leastApart l D ad cA n F G h4) (cwV 0 hts gX7_tight_X3_leastApart rfl rfl rfl (by decide +kernel) ⟨Nat.le_of_ble_eq_true rfl, Nat.le_of_ble_eq_true rfl⟩) (va_recv hK hP (ci := 3) (q0 := 22) rfl wCg22) hP hK hD hN hS hA rfl hl.1 rfl (Nat.le_of_ble_eq_true rfl) dX7_tight_4 ⟨Nat.zero_le _, Nat.zero_le _⟩ (fun H locs hP hD hS => ?_)
  exact hret _ _ _ _ _ dX7_tight_7 h hP hD hS

def p_X7_tip (F : tF) (G : tG) : Option (Int32 × tF × tG) :=
  bi1 (p_X0_shares F) (fun x8 => bi3 (p_X0_spill F G (x8 / 2)) (fun x13 F13 G13 => some (x13, F13, G13)))
set_option maxHeartbeats 4000000 in
set_option maxRecDepth 100000 in
theorem c_X7_tip (l : Launch) (D : va_G) (ad : Nat → Nat) (cA : ClassId) (n : Nat) (F : tF) (G : tG) {r : Int32} {F' : tF} {G' : tG} (h : p_X7_tip F G = some (r, F', G')) : CI l yX7_tip wsX7_tip ({ frames := 2, cells := 0, slots := 0, locals := 45 } : Room) D cA (wC ad cA F G) [.ref (ad 0)] r (wC ad cA F' G') := by
  rw [p_X7_tip] at h
  refine metIm (w := wC ad cA) (cc := cX7_tip) (maxL := 1) (by decide) rfl (Nat.le_of_ble_eq_true rfl) ?_
  intro p e s m args below meth c A ls Q hE hret
  obtain ⟨hx, hb, hts, hown, hml, hP, hK, hD, hN, hA, hl⟩ := hE
  have hown : s.vm.findClass RX7 = some m.cls := hown
  have hl : lv_has ls 1 [(0, .ref (ad 0))] := hl
  have hS : va_S A s.heap s.heap [] := va_S.rf
  have k_0 : (Cond.fieldLink RX7 12 "BellBook" "bell" "LBellBook$Bell;").before args s = true := hts _ (List.mem_of_getElem? (i := 1) rfl)
  have n_7 : ∀ w ∈ u_ws RX7 TX7 6, w ∈ wsX7_tip := fun w hw => List.mem_cons_of_mem _ (List.mem_append_left _ (List.mem_append_right _ hw))
  refine lv_aload_n hx hb dX7_tip_0 rfl (lv_at hl 0 rfl) ?_
  refine va_get (D := D) (ci := 7) (fs := vX7 ad F) (v := .ref (ad 1)) (C := RX7) (T := TX7) (N := 6) hx hb hts n_7 hown hK hP 0 wCg0 rfl 0 (by decide) k_0 (fun _ h9 => h9) rfl dX7_tip_1 ?_
  refine lv_aload_n hx hb dX7_tip_4 rfl (lv_at hl 0 rfl) ?_
  refine va_get (D := D) (ci := 7) (fs := vX7 ad F) (v := .ref (ad 1)) (C := RX7) (T := TX7) (N := 6) hx hb hts n_7 hown hK hP 0 wCg0 rfl 0 (by decide) k_0 (fun _ h9 => h9) rfl dX7_tip_5 ?_
  obtain ⟨x8, h8, h⟩ := bi1e h
  refine callVI (b := ad 1) (As := []) (rest := [.ref (ad 1)]) ⟨hx, hb, hml, hown, hts⟩ (c_X0_shares l D ad cA n F G h8) (cwV 0 hts gX7_tip_X0_shares rfl rfl rfl (by decide +kernel) ⟨Nat.le_of_ble_eq_true rfl, Nat.le_of_ble_eq_true rfl⟩) (va_recv hK hP (ci := 0) (q0 := 1) rfl wCg1) hP hK hD hN hS hA rfl hl.1 rfl (Nat.le_of_ble_eq_true rfl) dX7_tip_8 ⟨Nat.zero_le _, Nat.zero_le _⟩ (fun H locs hP hD hS => ?_)
  refine lv_iconst (v := 2) hx hb dX7_tip_11 (by decide) ?_
  refine lv_idiv hx hb dX7_tip_12 (by decide) ?_
  obtain ⟨x13, F13, G13, h13, h⟩ := bi3e h
  refine callVI (b := ad 1) (As := [.int ((x8 / 2))]) (rest := []) ⟨hx, hb, hml, hown, hts⟩ (c_X0_spill l D ad cA n F G (x8 / 2) h13) (cwV 1 hts gX7_tip_X0_spill rfl rfl rfl (by decide +kernel) ⟨Nat.le_of_ble_eq_true rfl, Nat.le_of_ble_eq_true rfl⟩) (va_recv hK hP (ci := 0) (q0 := 1) rfl wCg1) hP hK hD hN hS hA rfl hl.1 rfl (Nat.le_of_ble_eq_true rfl) dX7_tip_13 ⟨Nat.zero_le _, Nat.zero_le _⟩ (fun H locs hP hD hS => ?_)
  exact hret _ _ _ _ _ _ _ dX7_tip_16 h hP hD hS

def p_X7_told (n : Nat) (F : tF) (G : tG) (a1 : Int32) : Option (Int32) :=
  (if a1 = 0 then some (F 0) else (if a1 = 1 then some (F 14) else (if a1 = 2 then some (F 2) else (if a1 = 3 then some (F 15) else (if a1 = 4 then some (F 16) else (if a1 = 5 then some (F 19) else (if a1 = 6 then bi1 (p_X3_countSigns n G) (fun x108 => some x108) else (if a1 = 7 then some (F 24) else (if a1 = 8 then some (F 23) else (if a1 = 9 then bi1 (p_X6_raisedWorth n F G) (fun x132 => some x132) else some (-2)))))))))))
set_option maxHeartbeats 4000000 in
set_option maxRecDepth 100000 in
theorem c_X7_told (l : Launch) (D : va_G) (ad : Nat → Nat) (cA : ClassId) (n : Nat) (F : tF) (G : tG) (a1 : Int32) {r : Int32} (h : p_X7_told n F G a1 = some r) : CI l yX7_told wsX7_told ({ frames := 2, cells := 0, slots := 0, locals := 43 } : Room) D cA (wC ad cA F G) [.ref (ad 0), .int (a1)] r (wC ad cA F G) := by
  rw [p_X7_told] at h
  refine metIr (w := wC ad cA) (cc := cX7_told) (maxL := 2) (by decide) rfl (Nat.le_of_ble_eq_true rfl) ?_
  intro p e s m args below meth c A ls Q hE hret
  obtain ⟨hx, hb, hts, hown, hml, hP, hK, hD, hN, hA, hl⟩ := hE
  have hown : s.vm.findClass RX7 = some m.cls := hown
  have hl : lv_has ls 2 [(0, .ref (ad 0)), (1, .int (a1))] := hl
  have hS : va_S A s.heap s.heap [] := va_S.rf
  have k_0 : (Cond.fieldLink RX7 44 "BellBook" "minute" "I").before args s = true := hts _ (List.mem_of_getElem? (i := 1) rfl)
  have n_7 : ∀ w ∈ u_ws RX7 TX7 6, w ∈ wsX7_told := fun w hw => List.mem_cons_of_mem _ (List.mem_append_left _ (List.mem_append_left _ (List.mem_append_left _ (List.mem_append_left _ (List.mem_append_left _ (List.mem_append_left _ (List.mem_append_right _ hw)))))))
  have k_2 : (Cond.fieldLink RX7 19 "BellBook" "crew" "LBellBook$Crew;").before args s = true := hts _ (List.mem_of_getElem? (i := 2) rfl)
  have k_3 : (Cond.fieldLink RX7 156 "BellBook$Crew" "bellSquare" "I").before args s = true := hts _ (List.mem_of_getElem? (i := 3) rfl)
  have n_2 : ∀ w ∈ u_ws RX2 TX2 8, w ∈ wsX7_told := fun w hw => List.mem_cons_of_mem _ (List.mem_append_left _ (List.mem_append_left _ (List.mem_append_left _ (List.mem_append_left _ (List.mem_append_left _ (List.mem_append_right _ hw))))))
  have k_5 : (Cond.fieldLink RX7 12 "BellBook" "bell" "LBellBook$Bell;").before args s = true := hts _ (List.mem_of_getElem? (i := 4) rfl)
  have k_6 : (Cond.fieldLink RX7 56 "BellBook$Bell" "depth" "I").before args s = true := hts _ (List.mem_of_getElem? (i := 5) rfl)
  have n_0 : ∀ w ∈ u_ws RX0 TX0 12, w ∈ wsX7_told := fun w hw => List.mem_cons_of_mem _ (List.mem_append_left _ (List.mem_append_left _ (List.mem_append_left _ (List.mem_append_left _ (List.mem_append_right _ hw)))))
  have k_8 : (Cond.fieldLink RX7 26 "BellBook" "wreck" "LBellBook$Wreck;").before args s = true := hts _ (List.mem_of_getElem? (i := 6) rfl)
  have k_9 : (Cond.fieldLink RX7 184 "BellBook$Wreck" "count" "I").before args s = true := hts _ (List.mem_of_getElem? (i := 7) rfl)
  have n_6 : ∀ w ∈ u_ws RX6 TX6 12, w ∈ wsX7_told := fun w hw => List.mem_cons_of_mem _ (List.mem_append_left _ (List.mem_append_left _ (List.mem_append_left _ (List.mem_append_right _ hw))))
  have k_11 : (Cond.fieldLink RX7 228 "BellBook$Wreck" "raised" "I").before args s = true := hts _ (List.mem_of_getElem? (i := 8) rfl)
  have k_12 : (Cond.fieldLink RX7 236 "BellBook$Wreck" "tides" "LBellBook$Tides;").before args s = true := hts _ (List.mem_of_getElem? (i := 9) rfl)
  have k_13 : (Cond.fieldLink RX7 240 "BellBook$Tides" "count" "I").before args s = true := hts _ (List.mem_of_getElem? (i := 10) rfl)
  have n_5 : ∀ w ∈ u_ws RX5 TX5 2, w ∈ wsX7_told := fun w hw => List.mem_cons_of_mem _ (List.mem_append_left _ (List.mem_append_left _ (List.mem_append_right _ hw)))
  have k_15 : (Cond.fieldLink RX7 33 "BellBook" "line" "LBellBook$Line;").before args s = true := hts _ (List.mem_of_getElem? (i := 11) rfl)
  have k_16 : (Cond.fieldLink RX7 40 "BellBook" "book" "LBellBook$Book;").before args s = true := hts _ (List.mem_of_getElem? (i := 12) rfl)
  have k_17 : (Cond.fieldLink RX7 296 "BellBook$Book" "count" "I").before args s = true := hts _ (List.mem_of_getElem? (i := 13) rfl)
  have n_1 : ∀ w ∈ u_ws RX1 TX1 11, w ∈ wsX7_told := fun w hw => List.mem_cons_of_mem _ (List.mem_append_left _ (List.mem_append_right _ hw))
  have k_19 : (Cond.fieldLink RX7 281 "BellBook$Line" "hearings" "I").before args s = true := hts _ (List.mem_of_getElem? (i := 14) rfl)
  have n_3 : ∀ w ∈ u_ws RX3 TX3 5, w ∈ wsX7_told := fun w hw => List.mem_cons_of_mem _ (List.mem_append_right _ hw)
  refine lv_iload_n hx hb dX7_told_0 rfl (lv_at hl 1 rfl) ?_
  by_cases c1_0 : a1 = 0
  · replace h := ifp h c1_0
    refine lv_tableIn (off := 55) (tgt := 56) hx hb dX7_told_1 (by rw [c1_0]; decide) (by rw [c1_0]; decide) (by rw [c1_0]; decide) (by decide) ?_
    refine lv_aload_n hx hb dX7_told_56 rfl (lv_at hl 0 rfl) ?_
    refine va_get (D := D) (ci := 7) (fs := vX7 ad F) (v := .int ((F 0))) (C := RX7) (T := TX7) (N := 6) hx hb hts n_7 hown hK hP 0 wCg0 rfl 5 (by decide) k_0 (fun _ h9 => h9) rfl dX7_told_57 ?_
    exact hret _ _ _ _ _ dX7_told_60 h hP hD hS
  replace h := ifn h c1_0
  by_cases c1_1 : a1 = 1
  · replace h := ifp h c1_1
    refine lv_tableIn (off := 60) (tgt := 61) hx hb dX7_told_1 (by rw [c1_1]; decide) (by rw [c1_1]; decide) (by rw [c1_1]; decide) (by decide) ?_
    refine lv_aload_n hx hb dX7_told_61 rfl (lv_at hl 0 rfl) ?_
    refine va_get (D := D) (ci := 7) (fs := vX7 ad F) (v := .ref (ad 2)) (C := RX7) (T := TX7) (N := 6) hx hb hts n_7 hown hK hP 0 wCg0 rfl 1 (by decide) k_2 (fun _ h9 => h9) rfl dX7_told_62 ?_
    refine va_get (D := D) (ci := 2) (fs := vX2 ad F) (v := .int ((F 14))) (C := RX2) (T := TX2) (N := 8) hx hb hts n_2 hown hK hP 2 wCg2 rfl 7 (by decide) k_3 (fun _ h9 => h9) rfl dX7_told_65 ?_
    exact hret _ _ _ _ _ dX7_told_68 h hP hD hS
  replace h := ifn h c1_1
  by_cases c1_2 : a1 = 2
  · replace h := ifp h c1_2
    refine lv_tableIn (off := 68) (tgt := 69) hx hb dX7_told_1 (by rw [c1_2]; decide) (by rw [c1_2]; decide) (by rw [c1_2]; decide) (by decide) ?_
    refine lv_aload_n hx hb dX7_told_69 rfl (lv_at hl 0 rfl) ?_
    refine va_get (D := D) (ci := 7) (fs := vX7 ad F) (v := .ref (ad 1)) (C := RX7) (T := TX7) (N := 6) hx hb hts n_7 hown hK hP 0 wCg0 rfl 0 (by decide) k_5 (fun _ h9 => h9) rfl dX7_told_70 ?_
    refine va_get (D := D) (ci := 0) (fs := vX0 ad F) (v := .int ((F 2))) (C := RX0) (T := TX0) (N := 12) hx hb hts n_0 hown hK hP 1 wCg1 rfl 1 (by decide) k_6 (fun _ h9 => h9) rfl dX7_told_73 ?_
    exact hret _ _ _ _ _ dX7_told_76 h hP hD hS
  replace h := ifn h c1_2
  by_cases c1_3 : a1 = 3
  · replace h := ifp h c1_3
    refine lv_tableIn (off := 76) (tgt := 77) hx hb dX7_told_1 (by rw [c1_3]; decide) (by rw [c1_3]; decide) (by rw [c1_3]; decide) (by decide) ?_
    refine lv_aload_n hx hb dX7_told_77 rfl (lv_at hl 0 rfl) ?_
    refine va_get (D := D) (ci := 7) (fs := vX7 ad F) (v := .ref (ad 9)) (C := RX7) (T := TX7) (N := 6) hx hb hts n_7 hown hK hP 0 wCg0 rfl 2 (by decide) k_8 (fun _ h9 => h9) rfl dX7_told_78 ?_
    refine va_get (D := D) (ci := 6) (fs := vX6 ad F) (v := .int ((F 15))) (C := RX6) (T := TX6) (N := 12) hx hb hts n_6 hown hK hP 9 wCg9 rfl 8 (by decide) k_9 (fun _ h9 => h9) rfl dX7_told_81 ?_
    exact hret _ _ _ _ _ dX7_told_84 h hP hD hS
  replace h := ifn h c1_3
  by_cases c1_4 : a1 = 4
  · replace h := ifp h c1_4
    refine lv_tableIn (off := 84) (tgt := 85) hx hb dX7_told_1 (by rw [c1_4]; decide) (by rw [c1_4]; decide) (by rw [c1_4]; decide) (by decide) ?_
    refine lv_aload_n hx hb dX7_told_85 rfl (lv_at hl 0 rfl) ?_
    refine va_get (D := D) (ci := 7) (fs := vX7 ad F) (v := .ref (ad 9)) (C := RX7) (T := TX7) (N := 6) hx hb hts n_7 hown hK hP 0 wCg0 rfl 2 (by decide) k_8 (fun _ h9 => h9) rfl dX7_told_86 ?_
    refine va_get (D := D) (ci := 6) (fs := vX6 ad F) (v := .int ((F 16))) (C := RX6) (T := TX6) (N := 12) hx hb hts n_6 hown hK hP 9 wCg9 rfl 9 (by decide) k_11 (fun _ h9 => h9) rfl dX7_told_89 ?_
    exact hret _ _ _ _ _ dX7_told_92 h hP hD hS
  replace h := ifn h c1_4
  by_cases c1_5 : a1 = 5
  · replace h := ifp h c1_5
    refine lv_tableIn (off := 92) (tgt := 93) hx hb dX7_told_1 (by rw [c1_5]; decide) (by rw [c1_5]; decide) (by rw [c1_5]; decide) (by decide) ?_
    refine lv_aload_n hx hb dX7_told_93 rfl (lv_at hl 0 rfl) ?_
    refine va_get (D := D) (ci := 7) (fs := vX7 ad F) (v := .ref (ad 9)) (C := RX7) (T := TX7) (N := 6) hx hb hts n_7 hown hK hP 0 wCg0 rfl 2 (by decide) k_8 (fun _ h9 => h9) rfl dX7_told_94 ?_
    refine va_get (D := D) (ci := 6) (fs := vX6 ad F) (v := .ref (ad 16)) (C := RX6) (T := TX6) (N := 12) hx hb hts n_6 hown hK hP 9 wCg9 rfl 6 (by decide) k_12 (fun _ h9 => h9) rfl dX7_told_97 ?_
    refine va_get (D := D) (ci := 5) (fs := vX5 ad F) (v := .int ((F 19))) (C := RX5) (T := TX5) (N := 2) hx hb hts n_5 hown hK hP 16 wCg16 rfl 1 (by decide) k_13 (fun _ h9 => h9) rfl dX7_told_100 ?_
    exact hret _ _ _ _ _ dX7_told_103 h hP hD hS
  replace h := ifn h c1_5
  by_cases c1_6 : a1 = 6
  · replace h := ifp h c1_6
    refine lv_tableIn (off := 103) (tgt := 104) hx hb dX7_told_1 (by rw [c1_6]; decide) (by rw [c1_6]; decide) (by rw [c1_6]; decide) (by decide) ?_
    refine lv_aload_n hx hb dX7_told_104 rfl (lv_at hl 0 rfl) ?_
    refine va_get (D := D) (ci := 7) (fs := vX7 ad F) (v := .ref (ad 22)) (C := RX7) (T := TX7) (N := 6) hx hb hts n_7 hown hK hP 0 wCg0 rfl 3 (by decide) k_15 (fun _ h9 => h9) rfl dX7_told_105 ?_
    obtain ⟨x108, h108, h⟩ := bi1e h
    refine callVI (b := ad 22) (As := []) (rest := []) ⟨hx, hb, hml, hown, hts⟩ (c_X3_countSigns l D ad cA n F G h108) (cwV 0 hts gX7_told_X3_countSigns rfl rfl rfl (by decide +kernel) ⟨Nat.le_of_ble_eq_true rfl, Nat.le_of_ble_eq_true rfl⟩) (va_recv hK hP (ci := 3) (q0 := 22) rfl wCg22) hP hK hD hN hS hA rfl hl.1 rfl (Nat.le_of_ble_eq_true rfl) dX7_told_108 ⟨Nat.zero_le _, Nat.zero_le _⟩ (fun H locs hP hD hS => ?_)
    exact hret _ _ _ _ _ dX7_told_111 h hP hD hS
  replace h := ifn h c1_6
  by_cases c1_7 : a1 = 7
  · replace h := ifp h c1_7
    refine lv_tableIn (off := 111) (tgt := 112) hx hb dX7_told_1 (by rw [c1_7]; decide) (by rw [c1_7]; decide) (by rw [c1_7]; decide) (by decide) ?_
    refine lv_aload_n hx hb dX7_told_112 rfl (lv_at hl 0 rfl) ?_
    refine va_get (D := D) (ci := 7) (fs := vX7 ad F) (v := .ref (ad 27)) (C := RX7) (T := TX7) (N := 6) hx hb hts n_7 hown hK hP 0 wCg0 rfl 4 (by decide) k_16 (fun _ h9 => h9) rfl dX7_told_113 ?_
    refine va_get (D := D) (ci := 1) (fs := vX1 ad F) (v := .int ((F 24))) (C := RX1) (T := TX1) (N := 11) hx hb hts n_1 hown hK hP 27 wCg27 rfl 3 (by decide) k_17 (fun _ h9 => h9) rfl dX7_told_116 ?_
    exact hret _ _ _ _ _ dX7_told_119 h hP hD hS
  replace h := ifn h c1_7
  by_cases c1_8 : a1 = 8
  · replace h := ifp h c1_8
    refine lv_tableIn (off := 119) (tgt := 120) hx hb dX7_told_1 (by rw [c1_8]; decide) (by rw [c1_8]; decide) (by rw [c1_8]; decide) (by decide) ?_
    refine lv_aload_n hx hb dX7_told_120 rfl (lv_at hl 0 rfl) ?_
    refine va_get (D := D) (ci := 7) (fs := vX7 ad F) (v := .ref (ad 22)) (C := RX7) (T := TX7) (N := 6) hx hb hts n_7 hown hK hP 0 wCg0 rfl 3 (by decide) k_15 (fun _ h9 => h9) rfl dX7_told_121 ?_
    refine va_get (D := D) (ci := 3) (fs := vX3 ad F) (v := .int ((F 23))) (C := RX3) (T := TX3) (N := 5) hx hb hts n_3 hown hK hP 22 wCg22 rfl 4 (by decide) k_19 (fun _ h9 => h9) rfl dX7_told_124 ?_
    exact hret _ _ _ _ _ dX7_told_127 h hP hD hS
  replace h := ifn h c1_8
  by_cases c1_9 : a1 = 9
  · replace h := ifp h c1_9
    refine lv_tableIn (off := 127) (tgt := 128) hx hb dX7_told_1 (by rw [c1_9]; decide) (by rw [c1_9]; decide) (by rw [c1_9]; decide) (by decide) ?_
    refine lv_aload_n hx hb dX7_told_128 rfl (lv_at hl 0 rfl) ?_
    refine va_get (D := D) (ci := 7) (fs := vX7 ad F) (v := .ref (ad 9)) (C := RX7) (T := TX7) (N := 6) hx hb hts n_7 hown hK hP 0 wCg0 rfl 2 (by decide) k_8 (fun _ h9 => h9) rfl dX7_told_129 ?_
    obtain ⟨x132, h132, h⟩ := bi1e h
    refine callVI (b := ad 9) (As := []) (rest := []) ⟨hx, hb, hml, hown, hts⟩ (c_X6_raisedWorth l D ad cA n F G h132) (cwV 0 hts gX7_told_X6_raisedWorth rfl rfl rfl (by decide +kernel) ⟨Nat.le_of_ble_eq_true rfl, Nat.le_of_ble_eq_true rfl⟩) (va_recv hK hP (ci := 6) (q0 := 9) rfl wCg9) hP hK hD hN hS hA rfl hl.1 rfl (Nat.le_of_ble_eq_true rfl) dX7_told_132 ⟨Nat.zero_le _, Nat.zero_le _⟩ (fun H locs hP hD hS => ?_)
    exact hret _ _ _ _ _ dX7_told_135 h hP hD hS
  replace h := ifn h c1_9
  have ic1_0 : a1.toInt ≠ 0 := ne_toInt c1_0
  have ic1_1 : a1.toInt ≠ 1 := ne_toInt c1_1
  have ic1_2 : a1.toInt ≠ 2 := ne_toInt c1_2
  have ic1_3 : a1.toInt ≠ 3 := ne_toInt c1_3
  have ic1_4 : a1.toInt ≠ 4 := ne_toInt c1_4
  have ic1_5 : a1.toInt ≠ 5 := ne_toInt c1_5
  have ic1_6 : a1.toInt ≠ 6 := ne_toInt c1_6
  have ic1_7 : a1.toInt ≠ 7 := ne_toInt c1_7
  have ic1_8 : a1.toInt ≠ 8 := ne_toInt c1_8
  have ic1_9 : a1.toInt ≠ 9 := ne_toInt c1_9
  refine lv_tableOut (tgt := 136) hx hb dX7_told_1 (by omega) (by decide) ?_
  refine lv_bipush (v := (-2)) hx hb dX7_told_136 (by decide) ?_
  exact hret _ _ _ _ _ dX7_told_138 h hP hD hS

def p_X7_under (n : Nat) (F : tF) (G : tG) (a1 : Int32) (a2 : Int32) (a3 : Int32) : Option (Int32 × tF × tG) :=
  bi1 (p_X6_has F a1) (fun x5 => (if x5 = 0 then some ((-1), F, G) else bi1 (p_X6_has F a2) (fun x16 => (if x16 = 0 then some ((-1), F, G) else (if a1 = a2 then some ((-1), F, G) else (if a3 = 0 then oguard (inB a1 12) (bi1 (p_X7_bit (G 11 a1.toNatClampNeg) a2) (fun x58 => bi2 (p_X6_layUnder F G a1 a2 a3) (fun F70 G70 => some (x58, F70, G70)))) else bi1 (p_X6_liesBelow n F G a2 a1) (fun x39 => (if x39 = 0 then oguard (inB a1 12) (bi1 (p_X7_bit (G 11 a1.toNatClampNeg) a2) (fun x58 => bi2 (p_X6_layUnder F G a1 a2 a3) (fun F70 G70 => some (x58, F70, G70)))) else some ((-5), F, G)))))))))
set_option maxHeartbeats 4000000 in
set_option maxRecDepth 100000 in
theorem c_X7_under (l : Launch) (D : va_G) (ad : Nat → Nat) (cA : ClassId) (n : Nat) (F : tF) (G : tG) (a1 : Int32) (a2 : Int32) (a3 : Int32) {r : Int32} {F' : tF} {G' : tG} (h : p_X7_under n F G a1 a2 a3 = some (r, F', G')) : CI l yX7_under wsX7_under ({ frames := 2, cells := 0, slots := 0, locals := 46 } : Room) D cA (wC ad cA F G) [.ref (ad 0), .int (a1), .int (a2), .int (a3)] r (wC ad cA F' G') := by
  rw [p_X7_under] at h
  refine metIm (w := wC ad cA) (cc := cX7_under) (maxL := 5) (by decide) rfl (Nat.le_of_ble_eq_true rfl) ?_
  intro p e s m args below meth c A ls Q hE hret
  obtain ⟨hx, hb, hts, hown, hml, hP, hK, hD, hN, hA, hl⟩ := hE
  have hown : s.vm.findClass RX7 = some m.cls := hown
  have hl : lv_has ls 5 [(0, .ref (ad 0)), (1, .int (a1)), (2, .int (a2)), (3, .int (a3))] := hl
  have hS : va_S A s.heap s.heap [] := va_S.rf
  have k_0 : (Cond.fieldLink RX7 26 "BellBook" "wreck" "LBellBook$Wreck;").before args s = true := hts _ (List.mem_of_getElem? (i := 1) rfl)
  have n_7 : ∀ w ∈ u_ws RX7 TX7 6, w ∈ wsX7_under := fun w hw => List.mem_cons_of_mem _ (List.mem_append_left _ (List.mem_append_right _ hw))
  have k_2 : (Cond.fieldLink RX7 198 "BellBook$Wreck" "under" "[I").before args s = true := hts _ (List.mem_of_getElem? (i := 2) rfl)
  have n_6 : ∀ w ∈ u_ws RX6 TX6 12, w ∈ wsX7_under := fun w hw => List.mem_cons_of_mem _ (List.mem_append_right _ hw)
  refine lv_aload_n hx hb dX7_under_0 rfl (lv_at hl 0 rfl) ?_
  refine va_get (D := D) (ci := 7) (fs := vX7 ad F) (v := .ref (ad 9)) (C := RX7) (T := TX7) (N := 6) hx hb hts n_7 hown hK hP 0 wCg0 rfl 2 (by decide) k_0 (fun _ h9 => h9) rfl dX7_under_1 ?_
  refine lv_iload_n hx hb dX7_under_4 rfl (lv_at hl 1 rfl) ?_
  obtain ⟨x5, h5, h⟩ := bi1e h
  refine callVI (b := ad 9) (As := [.int (a1)]) (rest := []) ⟨hx, hb, hml, hown, hts⟩ (c_X6_has l D ad cA n F G a1 h5) (cwV 1 hts gX7_under_X6_has rfl rfl rfl (by decide +kernel) ⟨Nat.le_of_ble_eq_true rfl, Nat.le_of_ble_eq_true rfl⟩) (va_recv hK hP (ci := 6) (q0 := 9) rfl wCg9) hP hK hD hN hS hA rfl hl.1 rfl (Nat.le_of_ble_eq_true rfl) dX7_under_5 ⟨Nat.zero_le _, Nat.zero_le _⟩ (fun H locs hP hD hS => ?_)
  refine lv_if_eq (tgt := 27) hx hb dX7_under_8 (by decide) (fun c8 => ?_) (fun c8 => ?_)
  · replace h := ifp h c8
    refine lv_iconst (v := (-1)) hx hb dX7_under_27 (by decide) ?_
    exact hret _ _ _ _ _ _ _ dX7_under_28 h hP hD hS
  · replace h := ifn h c8
    refine lv_aload_n hx hb dX7_under_11 rfl (lv_at hl 0 rfl) ?_
    refine va_get (D := D) (ci := 7) (fs := vX7 ad F) (v := .ref (ad 9)) (C := RX7) (T := TX7) (N := 6) hx hb hts n_7 hown hK hP 0 wCg0 rfl 2 (by decide) k_0 (fun _ h9 => h9) rfl dX7_under_12 ?_
    refine lv_iload_n hx hb dX7_under_15 rfl (lv_at hl 2 rfl) ?_
    obtain ⟨x16, h16, h⟩ := bi1e h
    refine callVI (b := ad 9) (As := [.int (a2)]) (rest := []) ⟨hx, hb, hml, hown, hts⟩ (c_X6_has l D ad cA n F G a2 h16) (cwV 1 hts gX7_under_X6_has rfl rfl rfl (by decide +kernel) ⟨Nat.le_of_ble_eq_true rfl, Nat.le_of_ble_eq_true rfl⟩) (va_recv hK hP (ci := 6) (q0 := 9) rfl wCg9) hP hK hD hN hS hA rfl hl.1 rfl (Nat.le_of_ble_eq_true rfl) dX7_under_16 ⟨Nat.zero_le _, Nat.zero_le _⟩ (fun H locs hP hD hS => ?_)
    refine lv_if_eq (tgt := 27) hx hb dX7_under_19 (by decide) (fun c19 => ?_) (fun c19 => ?_)
    · replace h := ifp h c19
      refine lv_iconst (v := (-1)) hx hb dX7_under_27 (by decide) ?_
      exact hret _ _ _ _ _ _ _ dX7_under_28 h hP hD hS
    · replace h := ifn h c19
      refine lv_iload_n hx hb dX7_under_22 rfl (lv_at hl 1 rfl) ?_
      refine lv_iload_n hx hb dX7_under_23 rfl (lv_at hl 2 rfl) ?_
      refine lv_icmp_ne (tgt := 29) hx hb dX7_under_24 (by decide) (fun c24 => ?_) (fun c24 => ?_)
      · replace h := ifn h c24
        refine lv_iload_n hx hb dX7_under_29 rfl (lv_at hl 3 rfl) ?_
        refine lv_if_eq (tgt := 48) hx hb dX7_under_30 (by decide) (fun c30 => ?_) (fun c30 => ?_)
        · replace h := ifp h c30
          refine lv_aload_n hx hb dX7_under_48 rfl (lv_at hl 0 rfl) ?_
          refine va_get (D := D) (ci := 7) (fs := vX7 ad F) (v := .ref (ad 9)) (C := RX7) (T := TX7) (N := 6) hx hb hts n_7 hown hK hP 0 wCg0 rfl 2 (by decide) k_0 (fun _ h9 => h9) rfl dX7_under_49 ?_
          refine va_get (D := D) (ci := 6) (fs := vX6 ad F) (v := .ref (ad 15)) (C := RX6) (T := TX6) (N := 12) hx hb hts n_6 hown hK hP 9 wCg9 rfl 5 (by decide) k_2 (fun _ h9 => h9) rfl dX7_under_52 ?_
          refine lv_iload_n hx hb dX7_under_55 rfl (lv_at hl 1 rfl) ?_
          obtain ⟨g56, h⟩ := og h
          refine va_iald (D := D) hx hb hK hP 15 0 wCg15 rfl (inB_in g56) dX7_under_56 ?_
          refine lv_iload_n hx hb dX7_under_57 rfl (lv_at hl 2 rfl) ?_
          obtain ⟨x58, h58, h⟩ := bi1e h
          refine callSI (As := [.int ((G 11 a1.toNatClampNeg)), .int (a2)]) (rest := []) ⟨hx, hb, hml, hown, hts⟩ (c_X7_bit l D ad cA n F G (G 11 a1.toNatClampNeg) a2 h58) (va_cwS 2 hts gX7_under_X7_bit rfl rfl rfl (by decide +kernel) ⟨Nat.le_of_ble_eq_true rfl, Nat.le_of_ble_eq_true rfl⟩) hP hK hD hN hS hA rfl hl.1 rfl (Nat.le_of_ble_eq_true rfl) dX7_under_58 ⟨Nat.zero_le _, Nat.zero_le _⟩ (fun H locs hP hD hS => ?_)
          refine lv_istore (lv' := [(4, .int (x58)), (0, .ref (ad 0)), (1, .int (a1)), (2, .int (a2)), (3, .int (a3))]) hx hb dX7_under_61 hl (by decide) rfl (fun ls hl => ?_)
          refine lv_aload_n hx hb dX7_under_63 rfl (lv_at hl 1 rfl) ?_
          refine va_get (D := D) (ci := 7) (fs := vX7 ad F) (v := .ref (ad 9)) (C := RX7) (T := TX7) (N := 6) hx hb hts n_7 hown hK hP 0 wCg0 rfl 2 (by decide) k_0 (fun _ h9 => h9) rfl dX7_under_64 ?_
          refine lv_iload_n hx hb dX7_under_67 rfl (lv_at hl 2 rfl) ?_
          refine lv_iload_n hx hb dX7_under_68 rfl (lv_at hl 3 rfl) ?_
          refine lv_iload_n hx hb dX7_under_69 rfl (lv_at hl 4 rfl) ?_
          obtain ⟨F70, G70, h70, h⟩ := bi2e h
          refine callVV (b := ad 9) (As := [.int (a1), .int (a2), .int (a3)]) (rest := []) ⟨hx, hb, hml, hown, hts⟩ (c_X6_layUnder l D ad cA n F G a1 a2 a3 h70) (cwV 3 hts gX7_under_X6_layUnder rfl rfl rfl (by decide +kernel) ⟨Nat.le_of_ble_eq_true rfl, Nat.le_of_ble_eq_true rfl⟩) (va_recv hK hP (ci := 6) (q0 := 9) rfl wCg9) hP hK hD hN hS hA rfl hl.1 rfl (Nat.le_of_ble_eq_true rfl) dX7_under_70 ⟨Nat.zero_le _, Nat.zero_le _⟩ (fun H locs hP hD hS => ?_)
          refine lv_iload hx hb dX7_under_73 (lv_at hl 0 rfl) ?_
          exact hret _ _ _ _ _ _ _ dX7_under_75 h hP hD hS
        · replace h := ifn h c30
          refine lv_aload_n hx hb dX7_under_33 rfl (lv_at hl 0 rfl) ?_
          refine va_get (D := D) (ci := 7) (fs := vX7 ad F) (v := .ref (ad 9)) (C := RX7) (T := TX7) (N := 6) hx hb hts n_7 hown hK hP 0 wCg0 rfl 2 (by decide) k_0 (fun _ h9 => h9) rfl dX7_under_34 ?_
          refine lv_iload_n hx hb dX7_under_37 rfl (lv_at hl 2 rfl) ?_
          refine lv_iload_n hx hb dX7_under_38 rfl (lv_at hl 1 rfl) ?_
          obtain ⟨x39, h39, h⟩ := bi1e h
          refine callVI (b := ad 9) (As := [.int (a2), .int (a1)]) (rest := []) ⟨hx, hb, hml, hown, hts⟩ (c_X6_liesBelow l D ad cA n F G a2 a1 h39) (cwV 2 hts gX7_under_X6_liesBelow rfl rfl rfl (by decide +kernel) ⟨Nat.le_of_ble_eq_true rfl, Nat.le_of_ble_eq_true rfl⟩) (va_recv hK hP (ci := 6) (q0 := 9) rfl wCg9) hP hK hD hN hS hA rfl hl.1 rfl (Nat.le_of_ble_eq_true rfl) dX7_under_39 ⟨Nat.zero_le _, Nat.zero_le _⟩ (fun H locs hP hD hS => ?_)
          refine lv_if_eq (tgt := 48) hx hb dX7_under_42 (by decide) (fun c42 => ?_) (fun c42 => ?_)
          · replace h := ifp h c42
            refine lv_aload_n hx hb dX7_under_48 rfl (lv_at hl 0 rfl) ?_
            refine va_get (D := D) (ci := 7) (fs := vX7 ad F) (v := .ref (ad 9)) (C := RX7) (T := TX7) (N := 6) hx hb hts n_7 hown hK hP 0 wCg0 rfl 2 (by decide) k_0 (fun _ h9 => h9) rfl dX7_under_49 ?_
            refine va_get (D := D) (ci := 6) (fs := vX6 ad F) (v := .ref (ad 15)) (C := RX6) (T := TX6) (N := 12) hx hb hts n_6 hown hK hP 9 wCg9 rfl 5 (by decide) k_2 (fun _ h9 => h9) rfl dX7_under_52 ?_
            refine lv_iload_n hx hb dX7_under_55 rfl (lv_at hl 1 rfl) ?_
            obtain ⟨g56, h⟩ := og h
            refine va_iald (D := D) hx hb hK hP 15 0 wCg15 rfl (inB_in g56) dX7_under_56 ?_
            refine lv_iload_n hx hb dX7_under_57 rfl (lv_at hl 2 rfl) ?_
            obtain ⟨x58, h58, h⟩ := bi1e h
            refine callSI (As := [.int ((G 11 a1.toNatClampNeg)), .int (a2)]) (rest := []) ⟨hx, hb, hml, hown, hts⟩ (c_X7_bit l D ad cA n F G (G 11 a1.toNatClampNeg) a2 h58) (va_cwS 2 hts gX7_under_X7_bit rfl rfl rfl (by decide +kernel) ⟨Nat.le_of_ble_eq_true rfl, Nat.le_of_ble_eq_true rfl⟩) hP hK hD hN hS hA rfl hl.1 rfl (Nat.le_of_ble_eq_true rfl) dX7_under_58 ⟨Nat.zero_le _, Nat.zero_le _⟩ (fun H locs hP hD hS => ?_)
            refine lv_istore (lv' := [(4, .int (x58)), (0, .ref (ad 0)), (1, .int (a1)), (2, .int (a2)), (3, .int (a3))]) hx hb dX7_under_61 hl (by decide) rfl (fun ls hl => ?_)
            refine lv_aload_n hx hb dX7_under_63 rfl (lv_at hl 1 rfl) ?_
            refine va_get (D := D) (ci := 7) (fs := vX7 ad F) (v := .ref (ad 9)) (C := RX7) (T := TX7) (N := 6) hx hb hts n_7 hown hK hP 0 wCg0 rfl 2 (by decide) k_0 (fun _ h9 => h9) rfl dX7_under_64 ?_
            refine lv_iload_n hx hb dX7_under_67 rfl (lv_at hl 2 rfl) ?_
            refine lv_iload_n hx hb dX7_under_68 rfl (lv_at hl 3 rfl) ?_
            refine lv_iload_n hx hb dX7_under_69 rfl (lv_at hl 4 rfl) ?_
            obtain ⟨F70, G70, h70, h⟩ := bi2e h
            refine callVV (b := ad 9) (As := [.int (a1), .int (a2), .int (a3)]) (rest := []) ⟨hx, hb, hml, hown, hts⟩ (c_X6_layUnder l D ad cA n F G a1 a2 a3 h70) (cwV 3 hts gX7_under_X6_layUnder rfl rfl rfl (by decide +kernel) ⟨Nat.le_of_ble_eq_true rfl, Nat.le_of_ble_eq_true rfl⟩) (va_recv hK hP (ci := 6) (q0 := 9) rfl wCg9) hP hK hD hN hS hA rfl hl.1 rfl (Nat.le_of_ble_eq_true rfl) dX7_under_70 ⟨Nat.zero_le _, Nat.zero_le _⟩ (fun H locs hP hD hS => ?_)
            refine lv_iload hx hb dX7_under_73 (lv_at hl 0 rfl) ?_
            exact hret _ _ _ _ _ _ _ dX7_under_75 h hP hD hS
          · replace h := ifn h c42
            refine lv_bipush (v := (-5)) hx hb dX7_under_45 (by decide) ?_
            exact hret _ _ _ _ _ _ _ dX7_under_47 h hP hD hS
      · replace h := ifp h c24
        refine lv_iconst (v := (-1)) hx hb dX7_under_27 (by decide) ?_
        exact hret _ _ _ _ _ _ _ dX7_under_28 h hP hD hS

def p_X7_work (F : tF) (G : tG) (a1 : Int32) (a2 : Int32) : Option (Int32 × tF × tG) :=
  bi1 (p_X7_isMan a1) (fun x1 => (if x1 = 0 then some ((-1), F, G) else (if a2 = (-1) then oguard (inB a1 6) (plet (G 4 a1.toNatClampNeg) (fun (x36 : Int32) => bi1 ((if a2 = (-1) then some ((-6)) else some (a2))) (fun (y47_0 : Int32) => oguard (inB a1 6) (plet (stG G 4 a1 y47_0) (fun (G56 : tG) => some (x36, F, G56)))))) else bi1 (p_X6_has F a2) (fun x19 => (if x19 = 0 then some ((-1), F, G) else oguard (inB a1 6) (plet (G 4 a1.toNatClampNeg) (fun (x36 : Int32) => bi1 ((if a2 = (-1) then some ((-6)) else some (a2))) (fun (y47_0 : Int32) => oguard (inB a1 6) (plet (stG G 4 a1 y47_0) (fun (G56 : tG) => some (x36, F, G56)))))))))))
set_option maxHeartbeats 4000000 in
set_option maxRecDepth 100000 in
theorem c_X7_work (l : Launch) (D : va_G) (ad : Nat → Nat) (cA : ClassId) (n : Nat) (F : tF) (G : tG) (a1 : Int32) (a2 : Int32) {r : Int32} {F' : tF} {G' : tG} (h : p_X7_work F G a1 a2 = some (r, F', G')) : CI l yX7_work wsX7_work ({ frames := 2, cells := 0, slots := 0, locals := 43 } : Room) D cA (wC ad cA F G) [.ref (ad 0), .int (a1), .int (a2)] r (wC ad cA F' G') := by
  rw [p_X7_work] at h
  refine metIm (w := wC ad cA) (cc := cX7_work) (maxL := 4) (by decide) rfl (Nat.le_of_ble_eq_true rfl) ?_
  intro p e s m args below meth c A ls Q hE hret
  obtain ⟨hx, hb, hts, hown, hml, hP, hK, hD, hN, hA, hl⟩ := hE
  have hown : s.vm.findClass RX7 = some m.cls := hown
  have hl : lv_has ls 4 [(0, .ref (ad 0)), (1, .int (a1)), (2, .int (a2))] := hl
  have hS : va_S A s.heap s.heap [] := va_S.rf
  have k_0 : (Cond.fieldLink RX7 19 "BellBook" "crew" "LBellBook$Crew;").before args s = true := hts _ (List.mem_of_getElem? (i := 2) rfl)
  have n_7 : ∀ w ∈ u_ws RX7 TX7 6, w ∈ wsX7_work := fun w hw => List.mem_cons_of_mem _ (List.mem_append_left _ (List.mem_append_left _ (List.mem_append_right _ hw)))
  have k_2 : (Cond.fieldLink RX7 181 "BellBook$Crew" "task" "[I").before args s = true := hts _ (List.mem_of_getElem? (i := 3) rfl)
  have n_2 : ∀ w ∈ u_ws RX2 TX2 8, w ∈ wsX7_work := fun w hw => List.mem_cons_of_mem _ (List.mem_append_left _ (List.mem_append_right _ hw))
  have k_4 : (Cond.fieldLink RX7 26 "BellBook" "wreck" "LBellBook$Wreck;").before args s = true := hts _ (List.mem_of_getElem? (i := 1) rfl)
  refine lv_iload_n hx hb dX7_work_0 rfl (lv_at hl 1 rfl) ?_
  obtain ⟨x1, h1, h⟩ := bi1e h
  refine callSI (As := [.int (a1)]) (rest := []) ⟨hx, hb, hml, hown, hts⟩ (c_X7_isMan l D ad cA n F G a1 h1) (va_cwS 1 hts gX7_work_X7_isMan rfl rfl rfl (by decide +kernel) ⟨Nat.le_of_ble_eq_true rfl, Nat.le_of_ble_eq_true rfl⟩) hP hK hD hN hS hA rfl hl.1 rfl (Nat.le_of_ble_eq_true rfl) dX7_work_1 ⟨Nat.zero_le _, Nat.zero_le _⟩ (fun H locs hP hD hS => ?_)
  refine lv_if_ne (tgt := 9) hx hb dX7_work_4 (by decide) (fun c4 => ?_) (fun c4 => ?_)
  · replace h := ifn h c4
    refine lv_iload_n hx hb dX7_work_9 rfl (lv_at hl 2 rfl) ?_
    refine lv_iconst (v := (-1)) hx hb dX7_work_10 (by decide) ?_
    refine lv_icmp_eq (tgt := 27) hx hb dX7_work_11 (by decide) (fun c11 => ?_) (fun c11 => ?_)
    · replace h := ifp h c11
      refine lv_aload_n hx hb dX7_work_27 rfl (lv_at hl 0 rfl) ?_
      refine va_get (D := D) (ci := 7) (fs := vX7 ad F) (v := .ref (ad 2)) (C := RX7) (T := TX7) (N := 6) hx hb hts n_7 hown hK hP 0 wCg0 rfl 1 (by decide) k_0 (fun _ h9 => h9) rfl dX7_work_28 ?_
      refine va_get (D := D) (ci := 2) (fs := vX2 ad F) (v := .ref (ad 7)) (C := RX2) (T := TX2) (N := 8) hx hb hts n_2 hown hK hP 2 wCg2 rfl 4 (by decide) k_2 (fun _ h9 => h9) rfl dX7_work_31 ?_
      refine lv_iload_n hx hb dX7_work_34 rfl (lv_at hl 1 rfl) ?_
      obtain ⟨g35, h⟩ := og h
      refine va_iald (D := D) hx hb hK hP 7 0 wCg7 rfl (inB_in g35) dX7_work_35 ?_
      refine lv_topi (fun x36 ex36 => ?_)
      replace h := pl h ex36
      refine lv_istore_n (lv' := [(3, .int (x36)), (0, .ref (ad 0)), (1, .int (a1)), (2, .int (a2))]) hx hb dX7_work_36 rfl hl (by decide) rfl (fun ls hl => ?_)
      refine lv_aload_n hx hb dX7_work_37 rfl (lv_at hl 1 rfl) ?_
      refine va_get (D := D) (ci := 7) (fs := vX7 ad F) (v := .ref (ad 2)) (C := RX7) (T := TX7) (N := 6) hx hb hts n_7 hown hK hP 0 wCg0 rfl 1 (by decide) k_0 (fun _ h9 => h9) rfl dX7_work_38 ?_
      refine va_get (D := D) (ci := 2) (fs := vX2 ad F) (v := .ref (ad 7)) (C := RX2) (T := TX2) (N := 8) hx hb hts n_2 hown hK hP 2 wCg2 rfl 4 (by decide) k_2 (fun _ h9 => h9) rfl dX7_work_41 ?_
      refine lv_iload_n hx hb dX7_work_44 rfl (lv_at hl 2 rfl) ?_
      refine lv_iload_n hx hb dX7_work_45 rfl (lv_at hl 3 rfl) ?_
      refine lv_iconst (v := (-1)) hx hb dX7_work_46 (by decide) ?_
      obtain ⟨y47_0, q47, h⟩ := bi1e h
      have J47 : ∀ (wy47_0 : Int32), some (wy47_0) = some (y47_0) → ∀ (H : Heap) (locs : List Loc) (ls : Array Slot), va_P D vwCl (wC ad cA F G) H → va_D A (wC ad cA F G) → va_S A s.heap H locs → lv_has ls 4 [(3, .int (x36)), (0, .ref (ad 0)), (1, .int (a1)), (2, .int (a2))] → W p l e ({ frames := 2, cells := 0, slots := 0, locals := 43 } : Room) s m args below meth c H locs 0 0 Q (F0 m 56 ls [.int (wy47_0), .int (a1), .ref (ad 7)]) := by
        intro wy47_0 e9 H locs ls hP hD hS hl
        cases e9
        obtain ⟨g56, h⟩ := og h
        obtain ⟨G56, eG56⟩ : ∃ z : tG, z = stG G 4 a1 y47_0 := ⟨_, rfl⟩
        replace h := pl h eG56
        refine va_iast (D := D) hx hb hK hP hD hS 7 0 wCg7 rfl (inB_in g56) dX7_work_56 (fun H locs hP hD hS => ?_)
        rw [wCa4 eG56] at hP hD
        refine lv_iload_n hx hb dX7_work_57 rfl (lv_at hl 0 rfl) ?_
        exact hret _ _ _ _ _ _ _ dX7_work_58 h hP hD hS
      refine lv_icmp_ne (tgt := 55) hx hb dX7_work_47 (by decide) (fun c47 => ?_) (fun c47 => ?_)
      · replace q47 := ifn q47 c47
        refine lv_iload_n hx hb dX7_work_55 rfl (lv_at hl 3 rfl) ?_
        exact J47 _ q47 _ _ _ hP hD hS (lv_sub hl [0, 1, 2, 3] rfl)
      · replace q47 := ifp q47 c47
        refine lv_bipush (v := (-6)) hx hb dX7_work_50 (by decide) ?_
        refine lv_goto (tgt := 56) hx hb dX7_work_52 (by decide) ?_
        exact J47 _ q47 _ _ _ hP hD hS (lv_sub hl [0, 1, 2, 3] rfl)
    · replace h := ifn h c11
      refine lv_aload_n hx hb dX7_work_14 rfl (lv_at hl 0 rfl) ?_
      refine va_get (D := D) (ci := 7) (fs := vX7 ad F) (v := .ref (ad 9)) (C := RX7) (T := TX7) (N := 6) hx hb hts n_7 hown hK hP 0 wCg0 rfl 2 (by decide) k_4 (fun _ h9 => h9) rfl dX7_work_15 ?_
      refine lv_iload_n hx hb dX7_work_18 rfl (lv_at hl 2 rfl) ?_
      obtain ⟨x19, h19, h⟩ := bi1e h
      refine callVI (b := ad 9) (As := [.int (a2)]) (rest := []) ⟨hx, hb, hml, hown, hts⟩ (c_X6_has l D ad cA n F G a2 h19) (cwV 1 hts gX7_work_X6_has rfl rfl rfl (by decide +kernel) ⟨Nat.le_of_ble_eq_true rfl, Nat.le_of_ble_eq_true rfl⟩) (va_recv hK hP (ci := 6) (q0 := 9) rfl wCg9) hP hK hD hN hS hA rfl hl.1 rfl (Nat.le_of_ble_eq_true rfl) dX7_work_19 ⟨Nat.zero_le _, Nat.zero_le _⟩ (fun H locs hP hD hS => ?_)
      refine lv_if_ne (tgt := 27) hx hb dX7_work_22 (by decide) (fun c22 => ?_) (fun c22 => ?_)
      · replace h := ifn h c22
        refine lv_aload_n hx hb dX7_work_27 rfl (lv_at hl 0 rfl) ?_
        refine va_get (D := D) (ci := 7) (fs := vX7 ad F) (v := .ref (ad 2)) (C := RX7) (T := TX7) (N := 6) hx hb hts n_7 hown hK hP 0 wCg0 rfl 1 (by decide) k_0 (fun _ h9 => h9) rfl dX7_work_28 ?_
        refine va_get (D := D) (ci := 2) (fs := vX2 ad F) (v := .ref (ad 7)) (C := RX2) (T := TX2) (N := 8) hx hb hts n_2 hown hK hP 2 wCg2 rfl 4 (by decide) k_2 (fun _ h9 => h9) rfl dX7_work_31 ?_
        refine lv_iload_n hx hb dX7_work_34 rfl (lv_at hl 1 rfl) ?_
        obtain ⟨g35, h⟩ := og h
        refine va_iald (D := D) hx hb hK hP 7 0 wCg7 rfl (inB_in g35) dX7_work_35 ?_
        refine lv_topi (fun x36 ex36 => ?_)
        replace h := pl h ex36
        refine lv_istore_n (lv' := [(3, .int (x36)), (0, .ref (ad 0)), (1, .int (a1)), (2, .int (a2))]) hx hb dX7_work_36 rfl hl (by decide) rfl (fun ls hl => ?_)
        refine lv_aload_n hx hb dX7_work_37 rfl (lv_at hl 1 rfl) ?_
        refine va_get (D := D) (ci := 7) (fs := vX7 ad F) (v := .ref (ad 2)) (C := RX7) (T := TX7) (N := 6) hx hb hts n_7 hown hK hP 0 wCg0 rfl 1 (by decide) k_0 (fun _ h9 => h9) rfl dX7_work_38 ?_
        refine va_get (D := D) (ci := 2) (fs := vX2 ad F) (v := .ref (ad 7)) (C := RX2) (T := TX2) (N := 8) hx hb hts n_2 hown hK hP 2 wCg2 rfl 4 (by decide) k_2 (fun _ h9 => h9) rfl dX7_work_41 ?_
        refine lv_iload_n hx hb dX7_work_44 rfl (lv_at hl 2 rfl) ?_
        refine lv_iload_n hx hb dX7_work_45 rfl (lv_at hl 3 rfl) ?_
        refine lv_iconst (v := (-1)) hx hb dX7_work_46 (by decide) ?_
        obtain ⟨y47_0, q47, h⟩ := bi1e h
        have J47 : ∀ (wy47_0 : Int32), some (wy47_0) = some (y47_0) → ∀ (H : Heap) (locs : List Loc) (ls : Array Slot), va_P D vwCl (wC ad cA F G) H → va_D A (wC ad cA F G) → va_S A s.heap H locs → lv_has ls 4 [(3, .int (x36)), (0, .ref (ad 0)), (1, .int (a1)), (2, .int (a2))] → W p l e ({ frames := 2, cells := 0, slots := 0, locals := 43 } : Room) s m args below meth c H locs 0 0 Q (F0 m 56 ls [.int (wy47_0), .int (a1), .ref (ad 7)]) := by
          intro wy47_0 e9 H locs ls hP hD hS hl
          cases e9
          obtain ⟨g56, h⟩ := og h
          obtain ⟨G56, eG56⟩ : ∃ z : tG, z = stG G 4 a1 y47_0 := ⟨_, rfl⟩
          replace h := pl h eG56
          refine va_iast (D := D) hx hb hK hP hD hS 7 0 wCg7 rfl (inB_in g56) dX7_work_56 (fun H locs hP hD hS => ?_)
          rw [wCa4 eG56] at hP hD
          refine lv_iload_n hx hb dX7_work_57 rfl (lv_at hl 0 rfl) ?_
          exact hret _ _ _ _ _ _ _ dX7_work_58 h hP hD hS
        refine lv_icmp_ne (tgt := 55) hx hb dX7_work_47 (by decide) (fun c47 => ?_) (fun c47 => ?_)
        · replace q47 := ifn q47 c47
          refine lv_iload_n hx hb dX7_work_55 rfl (lv_at hl 3 rfl) ?_
          exact J47 _ q47 _ _ _ hP hD hS (lv_sub hl [0, 1, 2, 3] rfl)
        · replace q47 := ifp q47 c47
          refine lv_bipush (v := (-6)) hx hb dX7_work_50 (by decide) ?_
          refine lv_goto (tgt := 56) hx hb dX7_work_52 (by decide) ?_
          exact J47 _ q47 _ _ _ hP hD hS (lv_sub hl [0, 1, 2, 3] rfl)
      · replace h := ifp h c22
        refine lv_iconst (v := (-1)) hx hb dX7_work_25 (by decide) ?_
        exact hret _ _ _ _ _ _ _ dX7_work_26 h hP hD hS
  · replace h := ifp h c4
    refine lv_iconst (v := (-1)) hx hb dX7_work_7 (by decide) ?_
    exact hret _ _ _ _ _ _ _ dX7_work_8 h hP hD hS

def p_X8_above_L18 (F : tF) (G : tG) (K18 : Int32 → Int32 → Option (Int32)) : Nat → Int32 → Int32 → Option (Int32)
  | 0, _, _ => none
  | k18 + 1, z18_0, z18_1 => (if (F 15) ≤ z18_0 then K18 z18_0 z18_1 else bi1 ((if ((z18_1 >>> (z18_0 &&& 31)) &&& 1) = 1 then oguard (inB z18_0 12) (some ((G 7 z18_0.toNatClampNeg))) else some (0))) (fun (y35_0 : Int32) => plet (z18_1 ||| y35_0) (fun (x50 : Int32) => plet (z18_0 + 1) (fun (x51 : Int32) => p_X8_above_L18 F G K18 k18 x51 x50))))
theorem p_X8_above_L18_k {F : tF} {G : tG} {K0 : Int32 → Int32 → Option (Int32)} {k : Nat} {z18_0 : Int32} {z18_1 : Int32} {x : Int32} (h : p_X8_above_L18 F G K0 k z18_0 z18_1 = some x) : ∃ K, K = K0 ∧ p_X8_above_L18 F G K k z18_0 z18_1 = some x := ⟨K0, rfl, h⟩
def p_X8_above_L9 (n : Nat) (F : tF) (G : tG) (K9 : Int32 → Int32 → Option (Int32)) : Nat → Int32 → Int32 → Option (Int32)
  | 0, _, _ => none
  | k9 + 1, z9_0, z9_1 => (if 12 ≤ z9_0 then K9 z9_0 z9_1 else p_X8_above_L18 F G (fun (z18_0 : Int32) (z18_1 : Int32) => plet (z9_0 + 1) (fun (x57 : Int32) => p_X8_above_L9 n F G K9 k9 x57 z18_1)) n 0 z9_1)
theorem p_X8_above_L9_k {n : Nat} {F : tF} {G : tG} {K0 : Int32 → Int32 → Option (Int32)} {k : Nat} {z9_0 : Int32} {z9_1 : Int32} {x : Int32} (h : p_X8_above_L9 n F G K0 k z9_0 z9_1 = some x) : ∃ K, K = K0 ∧ p_X8_above_L9 n F G K k z9_0 z9_1 = some x := ⟨K0, rfl, h⟩
def p_X8_above (n : Nat) (F : tF) (G : tG) (a1 : Int32) : Option (Int32) :=
  oguard (inB a1 12) (plet (G 7 a1.toNatClampNeg) (fun (x6 : Int32) => p_X8_above_L9 n F G (fun (z9_0 : Int32) (z9_1 : Int32) => some z9_1) n 0 x6))
set_option maxHeartbeats 4000000 in
set_option maxRecDepth 100000 in
theorem c_X8_above (l : Launch) (D : va_G) (ad : Nat → Nat) (cA : ClassId) (n : Nat) (F : tF) (G : tG) (a1 : Int32) {r : Int32} (h : p_X8_above n F G a1 = some r) : CI l yX8_above wsX8_above ({ frames := 0, cells := 0, slots := 0, locals := 0 } : Room) D cA (wM ad cA F G) [.ref (ad 0), .int (a1)] r (wM ad cA F G) := by
  rw [p_X8_above] at h
  refine metIr (w := wM ad cA) (cc := cX8_above) (maxL := 5) (by decide) rfl (Nat.le_of_ble_eq_true rfl) ?_
  intro p e s m args below meth c A ls Q hE hret
  obtain ⟨hx, hb, hts, hown, hml, hP, hK, hD, hN, hA, hl⟩ := hE
  have hown : s.vm.findClass RX8 = some m.cls := hown
  have hl : lv_has ls 5 [(0, .ref (ad 0)), (1, .int (a1))] := hl
  have hS : va_S A s.heap s.heap [] := va_S.rf
  have k_0 : (Cond.fieldLink RX8 53 "BellBookModel" "under" "[I").before args s = true := hts _ (List.mem_of_getElem? (i := 1) rfl)
  have n_8 : ∀ w ∈ u_ws RX8 TX8 46, w ∈ wsX8_above := fun w hw => List.mem_cons_of_mem _ (List.mem_append_right _ hw)
  have k_2 : (Cond.fieldLink RX8 173 "BellBookModel" "things" "I").before args s = true := hts _ (List.mem_of_getElem? (i := 2) rfl)
  refine lv_aload_n hx hb dX8_above_0 rfl (lv_at hl 0 rfl) ?_
  refine va_get (D := D) (ci := 8) (fs := vX8 ad F) (v := .ref (ad 8)) (C := RX8) (T := TX8) (N := 46) hx hb hts n_8 hown hK hP 0 wMg0 rfl 23 (by decide) k_0 (fun _ h9 => h9) rfl dX8_above_1 ?_
  refine lv_iload_n hx hb dX8_above_4 rfl (lv_at hl 1 rfl) ?_
  obtain ⟨g5, h⟩ := og h
  refine va_iald (D := D) hx hb hK hP 8 0 wMg8 rfl (inB_in g5) dX8_above_5 ?_
  refine lv_topi (fun x6 ex6 => ?_)
  replace h := pl h ex6
  refine lv_istore_n (lv' := [(2, .int (x6)), (0, .ref (ad 0)), (1, .int (a1))]) hx hb dX8_above_6 rfl hl (by decide) rfl (fun ls hl => ?_)
  refine lv_iconst (v := 0) hx hb dX8_above_7 (by decide) ?_
  refine lv_istore_n (lv' := [(3, .int (0)), (2, .int (x6)), (0, .ref (ad 0)), (1, .int (a1))]) hx hb dX8_above_8 rfl hl (by decide) rfl (fun ls hl => ?_)
  obtain ⟨K9, eK9, h⟩ := p_X8_above_L9_k h
  have JE9 : ∀ (z9_0 : Int32) (z9_1 : Int32) (H : Heap) (locs : List Loc) (ls : Array Slot), K9 z9_0 z9_1 = some r → va_P D vwCl (wM ad cA F G) H → va_D A (wM ad cA F G) → va_S A s.heap H locs → lv_has ls 5 [(3, .int (z9_0)), (2, .int (z9_1)), (0, .ref (ad 0)), (1, .int (a1))] → W p l e ({ frames := 0, cells := 0, slots := 0, locals := 0 } : Room) s m args below meth c H locs 0 0 Q (F0 m 63 ls []) := by
    intro z9_0 z9_1 H locs ls h hP hD hS hl
    rw [eK9] at h
    refine lv_iload_n hx hb dX8_above_63 rfl (lv_at hl 1 rfl) ?_
    exact hret _ _ _ _ _ dX8_above_64 h hP hD hS
  have LL9 : ∀ (k : Nat) (z9_0 : Int32) (z9_1 : Int32) (H : Heap) (locs : List Loc) (ls : Array Slot), p_X8_above_L9 n F G K9 k z9_0 z9_1 = some r → va_P D vwCl (wM ad cA F G) H → va_D A (wM ad cA F G) → va_S A s.heap H locs → lv_has ls 5 [(3, .int (z9_0)), (2, .int (z9_1)), (0, .ref (ad 0)), (1, .int (a1))] → W p l e ({ frames := 0, cells := 0, slots := 0, locals := 0 } : Room) s m args below meth c H locs 0 0 Q (F0 m 9 ls []) := by
    intro k
    induction k with
    | zero =>
      intro z9_0 z9_1 H locs ls h hP hD hS hl
      rw [p_X8_above_L9] at h
      cases h
    | succ k9 ih9 =>
      intro z9_0 z9_1 H locs ls h hP hD hS hl
      rw [p_X8_above_L9] at h
      refine lv_iload_n hx hb dX8_above_9 rfl (lv_at hl 0 rfl) ?_
      refine lv_bipush (v := 12) hx hb dX8_above_10 (by decide) ?_
      refine lv_icmp_ge (tgt := 63) hx hb dX8_above_12 (by decide) (fun c12 => ?_) (fun c12 => ?_)
      · replace h := ifp h c12
        exact JE9 _ _ _ _ _ h hP hD hS (lv_sub hl [0, 1, 2, 3] rfl)
      · replace h := ifn h c12
        refine lv_iconst (v := 0) hx hb dX8_above_15 (by decide) ?_
        refine lv_istore (lv' := [(4, .int (0)), (3, .int (z9_0)), (2, .int (z9_1)), (0, .ref (ad 0)), (1, .int (a1))]) hx hb dX8_above_16 hl (by decide) rfl (fun ls hl => ?_)
        obtain ⟨K18, eK18, h⟩ := p_X8_above_L18_k h
        have JE18 : ∀ (z18_0 : Int32) (z18_1 : Int32) (H : Heap) (locs : List Loc) (ls : Array Slot), K18 z18_0 z18_1 = some r → va_P D vwCl (wM ad cA F G) H → va_D A (wM ad cA F G) → va_S A s.heap H locs → lv_has ls 5 [(4, .int (z18_0)), (3, .int (z9_0)), (2, .int (z18_1)), (0, .ref (ad 0)), (1, .int (a1))] → W p l e ({ frames := 0, cells := 0, slots := 0, locals := 0 } : Room) s m args below meth c H locs 0 0 Q (F0 m 57 ls []) := by
          intro z18_0 z18_1 H locs ls h hP hD hS hl
          rw [eK18] at h
          obtain ⟨x57, ex57⟩ : ∃ z : Int32, z = (z9_0 + 1) := ⟨_, rfl⟩
          replace h := pl h ex57
          refine lv_iinc (v := x57) (lv' := [(3, .int (x57)), (4, .int (z18_0)), (2, .int (z18_1)), (0, .ref (ad 0)), (1, .int (a1))]) hx hb dX8_above_57 hl (k := 1) rfl (by rw [ex57]; rfl) (by decide) rfl (fun ls hl => ?_)
          refine lv_goto (tgt := 9) hx hb dX8_above_60 (by decide) ?_
          exact ih9 _ _ _ _ _ h hP hD hS (lv_sub hl [0, 2, 3, 4] rfl)
        have LL18 : ∀ (k : Nat) (z18_0 : Int32) (z18_1 : Int32) (H : Heap) (locs : List Loc) (ls : Array Slot), p_X8_above_L18 F G K18 k z18_0 z18_1 = some r → va_P D vwCl (wM ad cA F G) H → va_D A (wM ad cA F G) → va_S A s.heap H locs → lv_has ls 5 [(4, .int (z18_0)), (3, .int (z9_0)), (2, .int (z18_1)), (0, .ref (ad 0)), (1, .int (a1))] → W p l e ({ frames := 0, cells := 0, slots := 0, locals := 0 } : Room) s m args below meth c H locs 0 0 Q (F0 m 18 ls []) := by
          intro k
          induction k with
          | zero =>
            intro z18_0 z18_1 H locs ls h hP hD hS hl
            rw [p_X8_above_L18] at h
            cases h
          | succ k18 ih18 =>
            intro z18_0 z18_1 H locs ls h hP hD hS hl
            rw [p_X8_above_L18] at h
            refine lv_iload hx hb dX8_above_18 (lv_at hl 0 rfl) ?_
            refine lv_aload_n hx hb dX8_above_20 rfl (lv_at hl 3 rfl) ?_
            refine va_get (D := D) (ci := 8) (fs := vX8 ad F) (v := .int ((F 15))) (C := RX8) (T := TX8) (N := 46) hx hb hts n_8 hown hK hP 0 wMg0 rfl 21 (by decide) k_2 (fun _ h9 => h9) rfl dX8_above_21 ?_
            refine lv_icmp_ge (tgt := 57) hx hb dX8_above_24 (by decide) (fun c24 => ?_) (fun c24 => ?_)
            · replace h := ifp h c24
              exact JE18 _ _ _ _ _ h hP hD hS (lv_sub hl [0, 1, 2, 3, 4] rfl)
            · replace h := ifn h c24
              refine lv_iload_n hx hb dX8_above_27 rfl (lv_at hl 2 rfl) ?_
              refine lv_iload_n hx hb dX8_above_28 rfl (lv_at hl 2 rfl) ?_
              refine lv_iload hx hb dX8_above_29 (lv_at hl 0 rfl) ?_
              refine lv_ishr hx hb dX8_above_31 ?_
              refine lv_iconst (v := 1) hx hb dX8_above_32 (by decide) ?_
              refine lv_iand hx hb dX8_above_33 ?_
              refine lv_iconst (v := 1) hx hb dX8_above_34 (by decide) ?_
              obtain ⟨y35_0, q35, h⟩ := bi1e h
              have J35 : ∀ (wy35_0 : Int32), some (wy35_0) = some (y35_0) → ∀ (H : Heap) (locs : List Loc) (ls : Array Slot), va_P D vwCl (wM ad cA F G) H → va_D A (wM ad cA F G) → va_S A s.heap H locs → lv_has ls 5 [(4, .int (z18_0)), (3, .int (z9_0)), (2, .int (z18_1)), (0, .ref (ad 0)), (1, .int (a1))] → W p l e ({ frames := 0, cells := 0, slots := 0, locals := 0 } : Room) s m args below meth c H locs 0 0 Q (F0 m 49 ls [.int (wy35_0), .int (z18_1)]) := by
                intro wy35_0 e9 H locs ls hP hD hS hl
                cases e9
                refine lv_ior hx hb dX8_above_49 ?_
                refine lv_topi (fun x50 ex50 => ?_)
                replace h := pl h ex50
                refine lv_istore_n (lv' := [(2, .int (x50)), (4, .int (z18_0)), (3, .int (z9_0)), (0, .ref (ad 0)), (1, .int (a1))]) hx hb dX8_above_50 rfl hl (by decide) rfl (fun ls hl => ?_)
                obtain ⟨x51, ex51⟩ : ∃ z : Int32, z = (z18_0 + 1) := ⟨_, rfl⟩
                replace h := pl h ex51
                refine lv_iinc (v := x51) (lv' := [(4, .int (x51)), (2, .int (x50)), (3, .int (z9_0)), (0, .ref (ad 0)), (1, .int (a1))]) hx hb dX8_above_51 hl (k := 1) rfl (by rw [ex51]; rfl) (by decide) rfl (fun ls hl => ?_)
                refine lv_goto (tgt := 18) hx hb dX8_above_54 (by decide) ?_
                exact ih18 _ _ _ _ _ h hP hD hS (lv_sub hl [0, 2, 1, 3, 4] rfl)
              refine lv_icmp_ne (tgt := 48) hx hb dX8_above_35 (by decide) (fun c35 => ?_) (fun c35 => ?_)
              · replace q35 := ifn q35 c35
                refine lv_iconst (v := 0) hx hb dX8_above_48 (by decide) ?_
                exact J35 _ q35 _ _ _ hP hD hS (lv_sub hl [0, 1, 2, 3, 4] rfl)
              · replace q35 := ifp q35 c35
                refine lv_aload_n hx hb dX8_above_38 rfl (lv_at hl 3 rfl) ?_
                refine va_get (D := D) (ci := 8) (fs := vX8 ad F) (v := .ref (ad 8)) (C := RX8) (T := TX8) (N := 46) hx hb hts n_8 hown hK hP 0 wMg0 rfl 23 (by decide) k_0 (fun _ h9 => h9) rfl dX8_above_39 ?_
                refine lv_iload hx hb dX8_above_42 (lv_at hl 0 rfl) ?_
                obtain ⟨g44, q35⟩ := og q35
                refine va_iald (D := D) hx hb hK hP 8 0 wMg8 rfl (inB_in g44) dX8_above_44 ?_
                refine lv_goto (tgt := 49) hx hb dX8_above_45 (by decide) ?_
                exact J35 _ q35 _ _ _ hP hD hS (lv_sub hl [0, 1, 2, 3, 4] rfl)
        exact LL18 n 0 z9_1 _ _ _ h hP hD hS (lv_sub hl [0, 1, 2, 3, 4] rfl)
  exact LL9 n 0 x6 _ _ _ h hP hD hS (lv_sub hl [0, 1, 2, 3] rfl)

def p_X8_all (F : tF) : Option (Int32) :=
  some ((F 2) + (F 3))
set_option maxHeartbeats 4000000 in
set_option maxRecDepth 100000 in
theorem c_X8_all (l : Launch) (D : va_G) (ad : Nat → Nat) (cA : ClassId) (n : Nat) (F : tF) (G : tG) {r : Int32} (h : p_X8_all F = some r) : CI l yX8_all wsX8_all ({ frames := 0, cells := 0, slots := 0, locals := 0 } : Room) D cA (wM ad cA F G) [.ref (ad 0)] r (wM ad cA F G) := by
  rw [p_X8_all] at h
  refine metIr (w := wM ad cA) (cc := cX8_all) (maxL := 1) (by decide) rfl (Nat.le_of_ble_eq_true rfl) ?_
  intro p e s m args below meth c A ls Q hE hret
  obtain ⟨hx, hb, hts, hown, hml, hP, hK, hD, hN, hA, hl⟩ := hE
  have hown : s.vm.findClass RX8 = some m.cls := hown
  have hl : lv_has ls 1 [(0, .ref (ad 0))] := hl
  have hS : va_S A s.heap s.heap [] := va_S.rf
  have k_0 : (Cond.fieldLink RX8 13 "BellBookModel" "fresh" "I").before args s = true := hts _ (List.mem_of_getElem? (i := 1) rfl)
  have n_8 : ∀ w ∈ u_ws RX8 TX8 46, w ∈ wsX8_all := fun w hw => List.mem_cons_of_mem _ (List.mem_append_right _ hw)
  have k_2 : (Cond.fieldLink RX8 92 "BellBookModel" "foul" "I").before args s = true := hts _ (List.mem_of_getElem? (i := 2) rfl)
  refine lv_aload_n hx hb dX8_all_0 rfl (lv_at hl 0 rfl) ?_
  refine va_get (D := D) (ci := 8) (fs := vX8 ad F) (v := .int ((F 2))) (C := RX8) (T := TX8) (N := 46) hx hb hts n_8 hown hK hP 0 wMg0 rfl 2 (by decide) k_0 (fun _ h9 => h9) rfl dX8_all_1 ?_
  refine lv_aload_n hx hb dX8_all_4 rfl (lv_at hl 0 rfl) ?_
  refine va_get (D := D) (ci := 8) (fs := vX8 ad F) (v := .int ((F 3))) (C := RX8) (T := TX8) (N := 46) hx hb hts n_8 hown hK hP 0 wMg0 rfl 3 (by decide) k_2 (fun _ h9 => h9) rfl dX8_all_5 ?_
  refine lv_iadd hx hb dX8_all_8 ?_
  exact hret _ _ _ _ _ dX8_all_9 h hP hD hS

def p_X8_foulness (F : tF) : Option (Int32) :=
  bi1 (p_X8_all F) (fun x1 => bi1 ((if x1 = 0 then some (0) else bi1 (p_X8_all F) (fun x19 => oguard (nzB x19) (some ((((F 3) * 100) / x19)))))) (fun (y4_0 : Int32) => some y4_0))
set_option maxHeartbeats 4000000 in
set_option maxRecDepth 100000 in
theorem c_X8_foulness (l : Launch) (D : va_G) (ad : Nat → Nat) (cA : ClassId) (n : Nat) (F : tF) (G : tG) {r : Int32} (h : p_X8_foulness F = some r) : CI l yX8_foulness wsX8_foulness ({ frames := 1, cells := 0, slots := 0, locals := 20 } : Room) D cA (wM ad cA F G) [.ref (ad 0)] r (wM ad cA F G) := by
  rw [p_X8_foulness] at h
  refine metIr (w := wM ad cA) (cc := cX8_foulness) (maxL := 1) (by decide) rfl (Nat.le_of_ble_eq_true rfl) ?_
  intro p e s m args below meth c A ls Q hE hret
  obtain ⟨hx, hb, hts, hown, hml, hP, hK, hD, hN, hA, hl⟩ := hE
  have hown : s.vm.findClass RX8 = some m.cls := hown
  have hl : lv_has ls 1 [(0, .ref (ad 0))] := hl
  have hS : va_S A s.heap s.heap [] := va_S.rf
  have k_0 : (Cond.fieldLink RX8 92 "BellBookModel" "foul" "I").before args s = true := hts _ (List.mem_of_getElem? (i := 1) rfl)
  have n_8 : ∀ w ∈ u_ws RX8 TX8 46, w ∈ wsX8_foulness := fun w hw => List.mem_cons_of_mem _ (List.mem_append_right _ hw)
  refine lv_aload_n hx hb dX8_foulness_0 rfl (lv_at hl 0 rfl) ?_
  obtain ⟨x1, h1, h⟩ := bi1e h
  refine callVI (b := ad 0) (As := []) (rest := []) ⟨hx, hb, hml, hown, hts⟩ (c_X8_all l D ad cA n F G h1) (cwV 0 hts gX8_foulness_X8_all rfl rfl rfl (by decide +kernel) ⟨Nat.le_of_ble_eq_true rfl, Nat.le_of_ble_eq_true rfl⟩) (va_recv hK hP (ci := 8) (q0 := 0) rfl wMg0) hP hK hD hN hS hA rfl hl.1 rfl (Nat.le_of_ble_eq_true rfl) dX8_foulness_1 ⟨Nat.zero_le _, Nat.zero_le _⟩ (fun H locs hP hD hS => ?_)
  obtain ⟨y4_0, q4, h⟩ := bi1e h
  have J4 : ∀ (wy4_0 : Int32), some (wy4_0) = some (y4_0) → ∀ (H : Heap) (locs : List Loc) (ls : Array Slot), va_P D vwCl (wM ad cA F G) H → va_D A (wM ad cA F G) → va_S A s.heap H locs → lv_has ls 1 [(0, .ref (ad 0))] → W p l e ({ frames := 1, cells := 0, slots := 0, locals := 20 } : Room) s m args below meth c H locs 0 0 Q (F0 m 23 ls [.int (wy4_0)]) := by
    intro wy4_0 e9 H locs ls hP hD hS hl
    cases e9
    exact hret _ _ _ _ _ dX8_foulness_23 h hP hD hS
  refine lv_if_ne (tgt := 11) hx hb dX8_foulness_4 (by decide) (fun c4 => ?_) (fun c4 => ?_)
  · replace q4 := ifn q4 c4
    refine lv_aload_n hx hb dX8_foulness_11 rfl (lv_at hl 0 rfl) ?_
    refine va_get (D := D) (ci := 8) (fs := vX8 ad F) (v := .int ((F 3))) (C := RX8) (T := TX8) (N := 46) hx hb hts n_8 hown hK hP 0 wMg0 rfl 3 (by decide) k_0 (fun _ h9 => h9) rfl dX8_foulness_12 ?_
    refine lv_bipush (v := 100) hx hb dX8_foulness_15 (by decide) ?_
    refine lv_imul hx hb dX8_foulness_17 ?_
    refine lv_aload_n hx hb dX8_foulness_18 rfl (lv_at hl 0 rfl) ?_
    obtain ⟨x19, h19, q4⟩ := bi1e q4
    refine callVI (b := ad 0) (As := []) (rest := [.int (((F 3) * 100))]) ⟨hx, hb, hml, hown, hts⟩ (c_X8_all l D ad cA n F G h19) (cwV 0 hts gX8_foulness_X8_all rfl rfl rfl (by decide +kernel) ⟨Nat.le_of_ble_eq_true rfl, Nat.le_of_ble_eq_true rfl⟩) (va_recv hK hP (ci := 8) (q0 := 0) rfl wMg0) hP hK hD hN hS hA rfl hl.1 rfl (Nat.le_of_ble_eq_true rfl) dX8_foulness_19 ⟨Nat.zero_le _, Nat.zero_le _⟩ (fun H locs hP hD hS => ?_)
    obtain ⟨g22, q4⟩ := og q4
    refine lv_idiv hx hb dX8_foulness_22 (nzB_ne g22) ?_
    exact J4 _ q4 _ _ _ hP hD hS (lv_sub hl [0] rfl)
  · replace q4 := ifp q4 c4
    refine lv_iconst (v := 0) hx hb dX8_foulness_7 (by decide) ?_
    refine lv_goto (tgt := 23) hx hb dX8_foulness_8 (by decide) ?_
    exact J4 _ q4 _ _ _ hP hD hS (lv_sub hl [0] rfl)

def p_X8_breathing_L4 (G : tG) (K4 : Int32 → Int32 → Option (Int32)) : Nat → Int32 → Int32 → Option (Int32)
  | 0, _, _ => none
  | k4 + 1, z4_0, z4_1 => (if 6 ≤ z4_0 then K4 z4_0 z4_1 else oguard (inB z4_0 6) (bi1 ((if (G 0 z4_0.toNatClampNeg) = 0 then some (0) else some (1))) (fun (y17_0 : Int32) => plet (z4_1 + y17_0) (fun (x26 : Int32) => plet (z4_0 + 1) (fun (x27 : Int32) => p_X8_breathing_L4 G K4 k4 x27 x26)))))
theorem p_X8_breathing_L4_k {G : tG} {K0 : Int32 → Int32 → Option (Int32)} {k : Nat} {z4_0 : Int32} {z4_1 : Int32} {x : Int32} (h : p_X8_breathing_L4 G K0 k z4_0 z4_1 = some x) : ∃ K, K = K0 ∧ p_X8_breathing_L4 G K k z4_0 z4_1 = some x := ⟨K0, rfl, h⟩
def p_X8_breathing (n : Nat) (G : tG) : Option (Int32) :=
  p_X8_breathing_L4 G (fun (z4_0 : Int32) (z4_1 : Int32) => some z4_1) n 0 0
set_option maxHeartbeats 4000000 in
set_option maxRecDepth 100000 in
theorem c_X8_breathing (l : Launch) (D : va_G) (ad : Nat → Nat) (cA : ClassId) (n : Nat) (F : tF) (G : tG) {r : Int32} (h : p_X8_breathing n G = some r) : CI l yX8_breathing wsX8_breathing ({ frames := 0, cells := 0, slots := 0, locals := 0 } : Room) D cA (wM ad cA F G) [.ref (ad 0)] r (wM ad cA F G) := by
  rw [p_X8_breathing] at h
  refine metIr (w := wM ad cA) (cc := cX8_breathing) (maxL := 3) (by decide) rfl (Nat.le_of_ble_eq_true rfl) ?_
  intro p e s m args below meth c A ls Q hE hret
  obtain ⟨hx, hb, hts, hown, hml, hP, hK, hD, hN, hA, hl⟩ := hE
  have hown : s.vm.findClass RX8 = some m.cls := hown
  have hl : lv_has ls 3 [(0, .ref (ad 0))] := hl
  have hS : va_S A s.heap s.heap [] := va_S.rf
  have k_0 : (Cond.fieldLink RX8 31 "BellBookModel" "where" "[I").before args s = true := hts _ (List.mem_of_getElem? (i := 1) rfl)
  have n_8 : ∀ w ∈ u_ws RX8 TX8 46, w ∈ wsX8_breathing := fun w hw => List.mem_cons_of_mem _ (List.mem_append_right _ hw)
  refine lv_iconst (v := 0) hx hb dX8_breathing_0 (by decide) ?_
  refine lv_istore_n (lv' := [(1, .int (0)), (0, .ref (ad 0))]) hx hb dX8_breathing_1 rfl hl (by decide) rfl (fun ls hl => ?_)
  refine lv_iconst (v := 0) hx hb dX8_breathing_2 (by decide) ?_
  refine lv_istore_n (lv' := [(2, .int (0)), (1, .int (0)), (0, .ref (ad 0))]) hx hb dX8_breathing_3 rfl hl (by decide) rfl (fun ls hl => ?_)
  obtain ⟨K4, eK4, h⟩ := p_X8_breathing_L4_k h
  have JE4 : ∀ (z4_0 : Int32) (z4_1 : Int32) (H : Heap) (locs : List Loc) (ls : Array Slot), K4 z4_0 z4_1 = some r → va_P D vwCl (wM ad cA F G) H → va_D A (wM ad cA F G) → va_S A s.heap H locs → lv_has ls 3 [(2, .int (z4_0)), (1, .int (z4_1)), (0, .ref (ad 0))] → W p l e ({ frames := 0, cells := 0, slots := 0, locals := 0 } : Room) s m args below meth c H locs 0 0 Q (F0 m 33 ls []) := by
    intro z4_0 z4_1 H locs ls h hP hD hS hl
    rw [eK4] at h
    refine lv_iload_n hx hb dX8_breathing_33 rfl (lv_at hl 1 rfl) ?_
    exact hret _ _ _ _ _ dX8_breathing_34 h hP hD hS
  have LL4 : ∀ (k : Nat) (z4_0 : Int32) (z4_1 : Int32) (H : Heap) (locs : List Loc) (ls : Array Slot), p_X8_breathing_L4 G K4 k z4_0 z4_1 = some r → va_P D vwCl (wM ad cA F G) H → va_D A (wM ad cA F G) → va_S A s.heap H locs → lv_has ls 3 [(2, .int (z4_0)), (1, .int (z4_1)), (0, .ref (ad 0))] → W p l e ({ frames := 0, cells := 0, slots := 0, locals := 0 } : Room) s m args below meth c H locs 0 0 Q (F0 m 4 ls []) := by
    intro k
    induction k with
    | zero =>
      intro z4_0 z4_1 H locs ls h hP hD hS hl
      rw [p_X8_breathing_L4] at h
      cases h
    | succ k4 ih4 =>
      intro z4_0 z4_1 H locs ls h hP hD hS hl
      rw [p_X8_breathing_L4] at h
      refine lv_iload_n hx hb dX8_breathing_4 rfl (lv_at hl 0 rfl) ?_
      refine lv_bipush (v := 6) hx hb dX8_breathing_5 (by decide) ?_
      refine lv_icmp_ge (tgt := 33) hx hb dX8_breathing_7 (by decide) (fun c7 => ?_) (fun c7 => ?_)
      · replace h := ifp h c7
        exact JE4 _ _ _ _ _ h hP hD hS (lv_sub hl [0, 1, 2] rfl)
      · replace h := ifn h c7
        refine lv_iload_n hx hb dX8_breathing_10 rfl (lv_at hl 1 rfl) ?_
        refine lv_aload_n hx hb dX8_breathing_11 rfl (lv_at hl 2 rfl) ?_
        refine va_get (D := D) (ci := 8) (fs := vX8 ad F) (v := .ref (ad 1)) (C := RX8) (T := TX8) (N := 46) hx hb hts n_8 hown hK hP 0 wMg0 rfl 15 (by decide) k_0 (fun _ h9 => h9) rfl dX8_breathing_12 ?_
        refine lv_iload_n hx hb dX8_breathing_15 rfl (lv_at hl 0 rfl) ?_
        obtain ⟨g16, h⟩ := og h
        refine va_iald (D := D) hx hb hK hP 1 0 wMg1 rfl (inB_in g16) dX8_breathing_16 ?_
        obtain ⟨y17_0, q17, h⟩ := bi1e h
        have J17 : ∀ (wy17_0 : Int32), some (wy17_0) = some (y17_0) → ∀ (H : Heap) (locs : List Loc) (ls : Array Slot), va_P D vwCl (wM ad cA F G) H → va_D A (wM ad cA F G) → va_S A s.heap H locs → lv_has ls 3 [(2, .int (z4_0)), (1, .int (z4_1)), (0, .ref (ad 0))] → W p l e ({ frames := 0, cells := 0, slots := 0, locals := 0 } : Room) s m args below meth c H locs 0 0 Q (F0 m 25 ls [.int (wy17_0), .int (z4_1)]) := by
          intro wy17_0 e9 H locs ls hP hD hS hl
          cases e9
          refine lv_iadd hx hb dX8_breathing_25 ?_
          refine lv_topi (fun x26 ex26 => ?_)
          replace h := pl h ex26
          refine lv_istore_n (lv' := [(1, .int (x26)), (2, .int (z4_0)), (0, .ref (ad 0))]) hx hb dX8_breathing_26 rfl hl (by decide) rfl (fun ls hl => ?_)
          obtain ⟨x27, ex27⟩ : ∃ z : Int32, z = (z4_0 + 1) := ⟨_, rfl⟩
          replace h := pl h ex27
          refine lv_iinc (v := x27) (lv' := [(2, .int (x27)), (1, .int (x26)), (0, .ref (ad 0))]) hx hb dX8_breathing_27 hl (k := 1) rfl (by rw [ex27]; rfl) (by decide) rfl (fun ls hl => ?_)
          refine lv_goto (tgt := 4) hx hb dX8_breathing_30 (by decide) ?_
          exact ih4 _ _ _ _ _ h hP hD hS (lv_sub hl [0, 1, 2] rfl)
        refine lv_if_ne (tgt := 24) hx hb dX8_breathing_17 (by decide) (fun c17 => ?_) (fun c17 => ?_)
        · replace q17 := ifn q17 c17
          refine lv_iconst (v := 1) hx hb dX8_breathing_24 (by decide) ?_
          exact J17 _ q17 _ _ _ hP hD hS (lv_sub hl [0, 1, 2] rfl)
        · replace q17 := ifp q17 c17
          refine lv_iconst (v := 0) hx hb dX8_breathing_20 (by decide) ?_
          refine lv_goto (tgt := 25) hx hb dX8_breathing_21 (by decide) ?_
          exact J17 _ q17 _ _ _ hP hD hS (lv_sub hl [0, 1, 2] rfl)
  exact LL4 n 0 0 _ _ _ h hP hD hS (lv_sub hl [0, 1, 2] rfl)

def p_X8_last (n : Nat) (F : tF) (G : tG) : Option (Int32) :=
  bi1 (p_X8_breathing n G) (fun x1 => (if x1 = 0 then some 100000 else oguard (nzB (x1 * (F 10))) (some ((F 2) / (x1 * (F 10))))))
set_option maxHeartbeats 4000000 in
set_option maxRecDepth 100000 in
theorem c_X8_last (l : Launch) (D : va_G) (ad : Nat → Nat) (cA : ClassId) (n : Nat) (F : tF) (G : tG) {r : Int32} (h : p_X8_last n F G = some r) : CI l yX8_last wsX8_last ({ frames := 1, cells := 0, slots := 0, locals := 22 } : Room) D cA (wM ad cA F G) [.ref (ad 0)] r (wM ad cA F G) := by
  rw [p_X8_last] at h
  refine metIr (w := wM ad cA) (cc := cX8_last) (maxL := 2) (by decide) rfl (Nat.le_of_ble_eq_true rfl) ?_
  intro p e s m args below meth c A ls Q hE hret
  obtain ⟨hx, hb, hts, hown, hml, hP, hK, hD, hN, hA, hl⟩ := hE
  have hown : s.vm.findClass RX8 = some m.cls := hown
  have hl : lv_has ls 2 [(0, .ref (ad 0))] := hl
  have hS : va_S A s.heap s.heap [] := va_S.rf
  have k_0 : (Cond.fieldLink RX8 13 "BellBookModel" "fresh" "I").before args s = true := hts _ (List.mem_of_getElem? (i := 2) rfl)
  have n_8 : ∀ w ∈ u_ws RX8 TX8 46, w ∈ wsX8_last := fun w hw => List.mem_cons_of_mem _ (List.mem_append_right _ hw)
  have k_2 : (Cond.fieldLink RX8 19 "BellBookModel" "breath" "I").before args s = true := hts _ (List.mem_of_getElem? (i := 3) rfl)
  have k_3 : (Cond.constant RX8 154 (100000)).before args s = true := hts _ (List.mem_of_getElem? (i := 1) rfl)
  refine lv_aload_n hx hb dX8_last_0 rfl (lv_at hl 0 rfl) ?_
  obtain ⟨x1, h1, h⟩ := bi1e h
  refine callVI (b := ad 0) (As := []) (rest := []) ⟨hx, hb, hml, hown, hts⟩ (c_X8_breathing l D ad cA n F G h1) (cwV 0 hts gX8_last_X8_breathing rfl rfl rfl (by decide +kernel) ⟨Nat.le_of_ble_eq_true rfl, Nat.le_of_ble_eq_true rfl⟩) (va_recv hK hP (ci := 8) (q0 := 0) rfl wMg0) hP hK hD hN hS hA rfl hl.1 rfl (Nat.le_of_ble_eq_true rfl) dX8_last_1 ⟨Nat.zero_le _, Nat.zero_le _⟩ (fun H locs hP hD hS => ?_)
  refine lv_istore_n (lv' := [(1, .int (x1)), (0, .ref (ad 0))]) hx hb dX8_last_4 rfl hl (by decide) rfl (fun ls hl => ?_)
  refine lv_iload_n hx hb dX8_last_5 rfl (lv_at hl 0 rfl) ?_
  refine lv_if_ne (tgt := 12) hx hb dX8_last_6 (by decide) (fun c6 => ?_) (fun c6 => ?_)
  · replace h := ifn h c6
    refine lv_aload_n hx hb dX8_last_12 rfl (lv_at hl 1 rfl) ?_
    refine va_get (D := D) (ci := 8) (fs := vX8 ad F) (v := .int ((F 2))) (C := RX8) (T := TX8) (N := 46) hx hb hts n_8 hown hK hP 0 wMg0 rfl 2 (by decide) k_0 (fun _ h9 => h9) rfl dX8_last_13 ?_
    refine lv_iload_n hx hb dX8_last_16 rfl (lv_at hl 0 rfl) ?_
    refine lv_aload_n hx hb dX8_last_17 rfl (lv_at hl 1 rfl) ?_
    refine va_get (D := D) (ci := 8) (fs := vX8 ad F) (v := .int ((F 10))) (C := RX8) (T := TX8) (N := 46) hx hb hts n_8 hown hK hP 0 wMg0 rfl 10 (by decide) k_2 (fun _ h9 => h9) rfl dX8_last_18 ?_
    refine lv_imul hx hb dX8_last_21 ?_
    obtain ⟨g22, h⟩ := og h
    refine lv_idiv hx hb dX8_last_22 (nzB_ne g22) ?_
    exact hret _ _ _ _ _ dX8_last_23 h hP hD hS
  · replace h := ifp h c6
    refine lv_ldc (v := 100000) hx hb hown k_3 dX8_last_9 ?_
    exact hret _ _ _ _ _ dX8_last_11 h hP hD hS

def p_X8_most (F : tF) : Option (Int32) :=
  some (((F 0) * (10 + (F 1))) / 10)
set_option maxHeartbeats 4000000 in
set_option maxRecDepth 100000 in
theorem c_X8_most (l : Launch) (D : va_G) (ad : Nat → Nat) (cA : ClassId) (n : Nat) (F : tF) (G : tG) {r : Int32} (h : p_X8_most F = some r) : CI l yX8_most wsX8_most ({ frames := 0, cells := 0, slots := 0, locals := 0 } : Room) D cA (wM ad cA F G) [.ref (ad 0)] r (wM ad cA F G) := by
  rw [p_X8_most] at h
  refine metIr (w := wM ad cA) (cc := cX8_most) (maxL := 1) (by decide) rfl (Nat.le_of_ble_eq_true rfl) ?_
  intro p e s m args below meth c A ls Q hE hret
  obtain ⟨hx, hb, hts, hown, hml, hP, hK, hD, hN, hA, hl⟩ := hE
  have hown : s.vm.findClass RX8 = some m.cls := hown
  have hl : lv_has ls 1 [(0, .ref (ad 0))] := hl
  have hS : va_S A s.heap s.heap [] := va_S.rf
  have k_0 : (Cond.fieldLink RX8 7 "BellBookModel" "room" "I").before args s = true := hts _ (List.mem_of_getElem? (i := 1) rfl)
  have n_8 : ∀ w ∈ u_ws RX8 TX8 46, w ∈ wsX8_most := fun w hw => List.mem_cons_of_mem _ (List.mem_append_right _ hw)
  have k_2 : (Cond.fieldLink RX8 89 "BellBookModel" "depth" "I").before args s = true := hts _ (List.mem_of_getElem? (i := 2) rfl)
  refine lv_aload_n hx hb dX8_most_0 rfl (lv_at hl 0 rfl) ?_
  refine va_get (D := D) (ci := 8) (fs := vX8 ad F) (v := .int ((F 0))) (C := RX8) (T := TX8) (N := 46) hx hb hts n_8 hown hK hP 0 wMg0 rfl 0 (by decide) k_0 (fun _ h9 => h9) rfl dX8_most_1 ?_
  refine lv_bipush (v := 10) hx hb dX8_most_4 (by decide) ?_
  refine lv_aload_n hx hb dX8_most_6 rfl (lv_at hl 0 rfl) ?_
  refine va_get (D := D) (ci := 8) (fs := vX8 ad F) (v := .int ((F 1))) (C := RX8) (T := TX8) (N := 46) hx hb hts n_8 hown hK hP 0 wMg0 rfl 1 (by decide) k_2 (fun _ h9 => h9) rfl dX8_most_7 ?_
  refine lv_iadd hx hb dX8_most_10 ?_
  refine lv_imul hx hb dX8_most_11 ?_
  refine lv_bipush (v := 10) hx hb dX8_most_12 (by decide) ?_
  refine lv_idiv hx hb dX8_most_14 (by decide) ?_
  exact hret _ _ _ _ _ dX8_most_15 h hP hD hS
