def p_X8_best (n : Nat) (F : tF) (G : tG) (a1 : Int32) : Option (Int32 × tF × tG) :=
  (if (-3) ≤ a1 then bi2 (p_X8_layBest n F G) (fun F10 G10 => bi1 ((if a1 = (-1) then bi1 (p_X8_hopeOf n F10 G10 (F10 21)) (fun x23 => some (x23)) else (if a1 = (-2) then bi1 (p_X8_workOfSet n F10 G10 (F10 21)) (fun x40 => some (x40)) else (if a1 = (-3) then some ((F10 22)) else (if (F10 22) ≤ a1 then some ((-6)) else oguard (inB a1 12) (some ((G10 17 a1.toNatClampNeg)))))))) (fun (y15_0 : Int32) => some (y15_0, F10, G10))) else some ((-2), F, G))
set_option maxHeartbeats 4000000 in
set_option maxRecDepth 100000 in
theorem c_X8_best (l : Launch) (D : va_G) (ad : Nat → Nat) (cA : ClassId) (n : Nat) (F : tF) (G : tG) (a1 : Int32) {r : Int32} {F' : tF} {G' : tG} (h : p_X8_best n F G a1 = some (r, F', G')) : CI l yX8_best wsX8_best ({ frames := 4, cells := 0, slots := 0, locals := 98 } : Room) D cA (wM ad cA F G) [.ref (ad 0), .int (a1)] r (wM ad cA F' G') := by
  rw [p_X8_best] at h
  refine metIm (w := wM ad cA) (cc := cX8_best) (maxL := 2) (by decide) rfl (Nat.le_of_ble_eq_true rfl) ?_
  intro p e s m args below meth c A ls Q hE hret
  obtain ⟨hx, hb, hts, hown, hml, hP, hK, hD, hN, hA, hl⟩ := hE
  have hown : s.vm.findClass RX8 = some m.cls := hown
  have hl : lv_has ls 2 [(0, .ref (ad 0)), (1, .int (a1))] := hl
  have hS : va_S A s.heap s.heap [] := va_S.rf
  have k_0 : (Cond.fieldLink RX8 205 "BellBookModel" "many" "I").before args s = true := hts _ (List.mem_of_getElem? (i := 2) rfl)
  have n_8 : ∀ w ∈ u_ws RX8 TX8 46, w ∈ wsX8_best := fun w hw => List.mem_cons_of_mem _ (List.mem_append_right _ hw)
  have k_2 : (Cond.fieldLink RX8 83 "BellBookModel" "order" "[I").before args s = true := hts _ (List.mem_of_getElem? (i := 3) rfl)
  have k_3 : (Cond.fieldLink RX8 196 "BellBookModel" "bestSet" "I").before args s = true := hts _ (List.mem_of_getElem? (i := 1) rfl)
  refine lv_iload_n hx hb dX8_best_0 rfl (lv_at hl 1 rfl) ?_
  refine lv_bipush (v := (-3)) hx hb dX8_best_1 (by decide) ?_
  refine lv_icmp_ge (tgt := 9) hx hb dX8_best_3 (by decide) (fun c3 => ?_) (fun c3 => ?_)
  · replace h := ifp h c3
    refine lv_aload_n hx hb dX8_best_9 rfl (lv_at hl 0 rfl) ?_
    obtain ⟨F10, G10, h10, h⟩ := bi2e h
    refine callVV (b := ad 0) (As := []) (rest := []) ⟨hx, hb, hml, hown, hts⟩ (c_X8_layBest l D ad cA n F G h10) (cwV 0 hts gX8_best_X8_layBest rfl rfl rfl (by decide +kernel) ⟨Nat.le_of_ble_eq_true rfl, Nat.le_of_ble_eq_true rfl⟩) (va_recv hK hP (ci := 8) (q0 := 0) rfl wMg0) hP hK hD hN hS hA rfl hl.1 rfl (Nat.le_of_ble_eq_true rfl) dX8_best_10 ⟨Nat.zero_le _, Nat.zero_le _⟩ (fun H locs hP hD hS => ?_)
    refine lv_iload_n hx hb dX8_best_13 rfl (lv_at hl 1 rfl) ?_
    refine lv_iconst (v := (-1)) hx hb dX8_best_14 (by decide) ?_
    obtain ⟨y15_0, q15, h⟩ := bi1e h
    have J15 : ∀ (wy15_0 : Int32), some (wy15_0) = some (y15_0) → ∀ (H : Heap) (locs : List Loc) (ls : Array Slot), va_P D vwCl (wM ad cA F10 G10) H → va_D A (wM ad cA F10 G10) → va_S A s.heap H locs → lv_has ls 2 [(0, .ref (ad 0)), (1, .int (a1))] → W p l e ({ frames := 4, cells := 0, slots := 0, locals := 98 } : Room) s m args below meth c H locs 0 0 Q (F0 m 78 ls [.int (wy15_0)]) := by
      intro wy15_0 e9 H locs ls hP hD hS hl
      cases e9
      exact hret _ _ _ _ _ _ _ dX8_best_78 h hP hD hS
    refine lv_icmp_ne (tgt := 29) hx hb dX8_best_15 (by decide) (fun c15 => ?_) (fun c15 => ?_)
    · replace q15 := ifn q15 c15
      refine lv_iload_n hx hb dX8_best_29 rfl (lv_at hl 1 rfl) ?_
      refine lv_bipush (v := (-2)) hx hb dX8_best_30 (by decide) ?_
      refine lv_icmp_ne (tgt := 46) hx hb dX8_best_32 (by decide) (fun c32 => ?_) (fun c32 => ?_)
      · replace q15 := ifn q15 c32
        refine lv_iload_n hx hb dX8_best_46 rfl (lv_at hl 1 rfl) ?_
        refine lv_bipush (v := (-3)) hx hb dX8_best_47 (by decide) ?_
        refine lv_icmp_ne (tgt := 59) hx hb dX8_best_49 (by decide) (fun c49 => ?_) (fun c49 => ?_)
        · replace q15 := ifn q15 c49
          refine lv_iload_n hx hb dX8_best_59 rfl (lv_at hl 1 rfl) ?_
          refine lv_aload_n hx hb dX8_best_60 rfl (lv_at hl 0 rfl) ?_
          refine va_get (D := D) (ci := 8) (fs := vX8 ad F10) (v := .int ((F10 22))) (C := RX8) (T := TX8) (N := 46) hx hb hts n_8 hown hK hP 0 wMg0 rfl 39 (by decide) k_0 (fun _ h9 => h9) rfl dX8_best_61 ?_
          refine lv_icmp_ge (tgt := 76) hx hb dX8_best_64 (by decide) (fun c64 => ?_) (fun c64 => ?_)
          · replace q15 := ifp q15 c64
            refine lv_bipush (v := (-6)) hx hb dX8_best_76 (by decide) ?_
            exact J15 _ q15 _ _ _ hP hD hS (lv_sub hl [0, 1] rfl)
          · replace q15 := ifn q15 c64
            refine lv_aload_n hx hb dX8_best_67 rfl (lv_at hl 0 rfl) ?_
            refine va_get (D := D) (ci := 8) (fs := vX8 ad F10) (v := .ref (ad 18)) (C := RX8) (T := TX8) (N := 46) hx hb hts n_8 hown hK hP 0 wMg0 rfl 40 (by decide) k_2 (fun _ h9 => h9) rfl dX8_best_68 ?_
            refine lv_iload_n hx hb dX8_best_71 rfl (lv_at hl 1 rfl) ?_
            obtain ⟨g72, q15⟩ := og q15
            refine va_iald (D := D) hx hb hK hP 18 0 wMg18 rfl (inB_in g72) dX8_best_72 ?_
            refine lv_goto (tgt := 78) hx hb dX8_best_73 (by decide) ?_
            exact J15 _ q15 _ _ _ hP hD hS (lv_sub hl [0, 1] rfl)
        · replace q15 := ifp q15 c49
          refine lv_aload_n hx hb dX8_best_52 rfl (lv_at hl 0 rfl) ?_
          refine va_get (D := D) (ci := 8) (fs := vX8 ad F10) (v := .int ((F10 22))) (C := RX8) (T := TX8) (N := 46) hx hb hts n_8 hown hK hP 0 wMg0 rfl 39 (by decide) k_0 (fun _ h9 => h9) rfl dX8_best_53 ?_
          refine lv_goto (tgt := 78) hx hb dX8_best_56 (by decide) ?_
          exact J15 _ q15 _ _ _ hP hD hS (lv_sub hl [0, 1] rfl)
      · replace q15 := ifp q15 c32
        refine lv_aload_n hx hb dX8_best_35 rfl (lv_at hl 0 rfl) ?_
        refine lv_aload_n hx hb dX8_best_36 rfl (lv_at hl 0 rfl) ?_
        refine va_get (D := D) (ci := 8) (fs := vX8 ad F10) (v := .int ((F10 21))) (C := RX8) (T := TX8) (N := 46) hx hb hts n_8 hown hK hP 0 wMg0 rfl 38 (by decide) k_3 (fun _ h9 => h9) rfl dX8_best_37 ?_
        obtain ⟨x40, h40, q15⟩ := bi1e q15
        refine callVI (b := ad 0) (As := [.int ((F10 21))]) (rest := []) ⟨hx, hb, hml, hown, hts⟩ (c_X8_workOfSet l D ad cA n F10 G10 (F10 21) h40) (cwV 1 hts gX8_best_X8_workOfSet rfl rfl rfl (by decide +kernel) ⟨Nat.le_of_ble_eq_true rfl, Nat.le_of_ble_eq_true rfl⟩) (va_recv hK hP (ci := 8) (q0 := 0) rfl wMg0) hP hK hD hN hS hA rfl hl.1 rfl (Nat.le_of_ble_eq_true rfl) dX8_best_40 ⟨Nat.zero_le _, Nat.zero_le _⟩ (fun H locs hP hD hS => ?_)
        refine lv_goto (tgt := 78) hx hb dX8_best_43 (by decide) ?_
        exact J15 _ q15 _ _ _ hP hD hS (lv_sub hl [0, 1] rfl)
    · replace q15 := ifp q15 c15
      refine lv_aload_n hx hb dX8_best_18 rfl (lv_at hl 0 rfl) ?_
      refine lv_aload_n hx hb dX8_best_19 rfl (lv_at hl 0 rfl) ?_
      refine va_get (D := D) (ci := 8) (fs := vX8 ad F10) (v := .int ((F10 21))) (C := RX8) (T := TX8) (N := 46) hx hb hts n_8 hown hK hP 0 wMg0 rfl 38 (by decide) k_3 (fun _ h9 => h9) rfl dX8_best_20 ?_
      obtain ⟨x23, h23, q15⟩ := bi1e q15
      refine callVI (b := ad 0) (As := [.int ((F10 21))]) (rest := []) ⟨hx, hb, hml, hown, hts⟩ (c_X8_hopeOf l D ad cA n F10 G10 (F10 21) h23) (cwV 1 hts gX8_best_X8_hopeOf rfl rfl rfl (by decide +kernel) ⟨Nat.le_of_ble_eq_true rfl, Nat.le_of_ble_eq_true rfl⟩) (va_recv hK hP (ci := 8) (q0 := 0) rfl wMg0) hP hK hD hN hS hA rfl hl.1 rfl (Nat.le_of_ble_eq_true rfl) dX8_best_23 ⟨Nat.zero_le _, Nat.zero_le _⟩ (fun H locs hP hD hS => ?_)
      refine lv_goto (tgt := 78) hx hb dX8_best_26 (by decide) ?_
      exact J15 _ q15 _ _ _ hP hD hS (lv_sub hl [0, 1] rfl)
  · replace h := ifn h c3
    refine lv_bipush (v := (-2)) hx hb dX8_best_6 (by decide) ?_
    exact hret _ _ _ _ _ _ _ dX8_best_8 h hP hD hS

def p_X8_breath (F : tF) (G : tG) (a1 : Int32) : Option (Int32 × tF × tG) :=
  bi1 (p_X8_in a1 1 30) (fun x4 => (if x4 = 0 then some ((-2), F, G) else plet (F 10) (fun (x17 : Int32) => plet (upd F 10 a1) (fun (F20 : tF) => some (x17, F20, G)))))
set_option maxHeartbeats 4000000 in
set_option maxRecDepth 100000 in
theorem c_X8_breath (l : Launch) (D : va_G) (ad : Nat → Nat) (cA : ClassId) (n : Nat) (F : tF) (G : tG) (a1 : Int32) {r : Int32} {F' : tF} {G' : tG} (h : p_X8_breath F G a1 = some (r, F', G')) : CI l yX8_breath wsX8_breath ({ frames := 1, cells := 0, slots := 0, locals := 22 } : Room) D cA (wM ad cA F G) [.ref (ad 0), .int (a1)] r (wM ad cA F' G') := by
  rw [p_X8_breath] at h
  refine metIm (w := wM ad cA) (cc := cX8_breath) (maxL := 3) (by decide) rfl (Nat.le_of_ble_eq_true rfl) ?_
  intro p e s m args below meth c A ls Q hE hret
  obtain ⟨hx, hb, hts, hown, hml, hP, hK, hD, hN, hA, hl⟩ := hE
  have hown : s.vm.findClass RX8 = some m.cls := hown
  have hl : lv_has ls 3 [(0, .ref (ad 0)), (1, .int (a1))] := hl
  have hS : va_S A s.heap s.heap [] := va_S.rf
  have k_0 : (Cond.fieldLink RX8 19 "BellBookModel" "breath" "I").before args s = true := hts _ (List.mem_of_getElem? (i := 1) rfl)
  have n_8 : ∀ w ∈ u_ws RX8 TX8 46, w ∈ wsX8_breath := fun w hw => List.mem_cons_of_mem _ (List.mem_append_right _ hw)
  refine lv_iload_n hx hb dX8_breath_0 rfl (lv_at hl 1 rfl) ?_
  refine lv_iconst (v := 1) hx hb dX8_breath_1 (by decide) ?_
  refine lv_bipush (v := 30) hx hb dX8_breath_2 (by decide) ?_
  obtain ⟨x4, h4, h⟩ := bi1e h
  refine callSI (As := [.int (a1), .int (1), .int (30)]) (rest := []) ⟨hx, hb, hml, hown, hts⟩ (c_X8_in l D ad cA n F G a1 1 30 h4) (va_cwS 3 hts gX8_breath_X8_in rfl rfl rfl (by decide +kernel) ⟨Nat.le_of_ble_eq_true rfl, Nat.le_of_ble_eq_true rfl⟩) hP hK hD hN hS hA rfl hl.1 rfl (Nat.le_of_ble_eq_true rfl) dX8_breath_4 ⟨Nat.zero_le _, Nat.zero_le _⟩ (fun H locs hP hD hS => ?_)
  refine lv_if_ne (tgt := 13) hx hb dX8_breath_7 (by decide) (fun c7 => ?_) (fun c7 => ?_)
  · replace h := ifn h c7
    refine lv_aload_n hx hb dX8_breath_13 rfl (lv_at hl 0 rfl) ?_
    refine va_get (D := D) (ci := 8) (fs := vX8 ad F) (v := .int ((F 10))) (C := RX8) (T := TX8) (N := 46) hx hb hts n_8 hown hK hP 0 wMg0 rfl 10 (by decide) k_0 (fun _ h9 => h9) rfl dX8_breath_14 ?_
    refine lv_topi (fun x17 ex17 => ?_)
    replace h := pl h ex17
    refine lv_istore_n (lv' := [(2, .int (x17)), (0, .ref (ad 0)), (1, .int (a1))]) hx hb dX8_breath_17 rfl hl (by decide) rfl (fun ls hl => ?_)
    refine lv_aload_n hx hb dX8_breath_18 rfl (lv_at hl 1 rfl) ?_
    refine lv_iload_n hx hb dX8_breath_19 rfl (lv_at hl 2 rfl) ?_
    obtain ⟨F20, eF20⟩ : ∃ f : tF, f = upd F 10 a1 := ⟨_, rfl⟩
    replace h := pl h eF20
    refine va_put (D := D) (ci := 8) (fs := vX8 ad F) (v := .int (a1)) (ty := .int) (C := RX8) (T := TX8) (N := 46) hx hb hts n_8 tyX8 tyX8_ok nmX8 hown hK hP hD hS 0 wMg0 rfl 10 (by decide) k_0 (fun _ h9 => h9) rfl (tyX8_ok 10 (by decide)) rfl rfl (Nat.le_of_ble_eq_true rfl) dX8_breath_20 (fun H locs hP hD hS => ?_)
    rw [wMp10 eF20] at hP hD
    refine lv_iload_n hx hb dX8_breath_23 rfl (lv_at hl 0 rfl) ?_
    exact hret _ _ _ _ _ _ _ dX8_breath_24 h hP hD hS
  · replace h := ifp h c7
    refine lv_bipush (v := (-2)) hx hb dX8_breath_10 (by decide) ?_
    exact hret _ _ _ _ _ _ _ dX8_breath_12 h hP hD hS

def p_X8_calm (F : tF) (G : tG) : Option (Int32 × tF × tG) :=
  plet (F 18) (fun (x4 : Int32) => plet (upd F 18 0) (fun (F7 : tF) => some (x4, F7, G)))
set_option maxHeartbeats 4000000 in
set_option maxRecDepth 100000 in
theorem c_X8_calm (l : Launch) (D : va_G) (ad : Nat → Nat) (cA : ClassId) (n : Nat) (F : tF) (G : tG) {r : Int32} {F' : tF} {G' : tG} (h : p_X8_calm F G = some (r, F', G')) : CI l yX8_calm wsX8_calm ({ frames := 0, cells := 0, slots := 0, locals := 0 } : Room) D cA (wM ad cA F G) [.ref (ad 0)] r (wM ad cA F' G') := by
  rw [p_X8_calm] at h
  refine metIm (w := wM ad cA) (cc := cX8_calm) (maxL := 2) (by decide) rfl (Nat.le_of_ble_eq_true rfl) ?_
  intro p e s m args below meth c A ls Q hE hret
  obtain ⟨hx, hb, hts, hown, hml, hP, hK, hD, hN, hA, hl⟩ := hE
  have hown : s.vm.findClass RX8 = some m.cls := hown
  have hl : lv_has ls 2 [(0, .ref (ad 0))] := hl
  have hS : va_S A s.heap s.heap [] := va_S.rf
  have k_0 : (Cond.fieldLink RX8 182 "BellBookModel" "tides" "I").before args s = true := hts _ (List.mem_of_getElem? (i := 1) rfl)
  have n_8 : ∀ w ∈ u_ws RX8 TX8 46, w ∈ wsX8_calm := fun w hw => List.mem_cons_of_mem _ (List.mem_append_right _ hw)
  refine lv_aload_n hx hb dX8_calm_0 rfl (lv_at hl 0 rfl) ?_
  refine va_get (D := D) (ci := 8) (fs := vX8 ad F) (v := .int ((F 18))) (C := RX8) (T := TX8) (N := 46) hx hb hts n_8 hown hK hP 0 wMg0 rfl 26 (by decide) k_0 (fun _ h9 => h9) rfl dX8_calm_1 ?_
  refine lv_topi (fun x4 ex4 => ?_)
  replace h := pl h ex4
  refine lv_istore_n (lv' := [(1, .int (x4)), (0, .ref (ad 0))]) hx hb dX8_calm_4 rfl hl (by decide) rfl (fun ls hl => ?_)
  refine lv_aload_n hx hb dX8_calm_5 rfl (lv_at hl 1 rfl) ?_
  refine lv_iconst (v := 0) hx hb dX8_calm_6 (by decide) ?_
  obtain ⟨F7, eF7⟩ : ∃ f : tF, f = upd F 18 0 := ⟨_, rfl⟩
  replace h := pl h eF7
  refine va_put (D := D) (ci := 8) (fs := vX8 ad F) (v := .int (0)) (ty := .int) (C := RX8) (T := TX8) (N := 46) hx hb hts n_8 tyX8 tyX8_ok nmX8 hown hK hP hD hS 0 wMg0 rfl 26 (by decide) k_0 (fun _ h9 => h9) rfl (tyX8_ok 26 (by decide)) rfl rfl (Nat.le_of_ble_eq_true rfl) dX8_calm_7 (fun H locs hP hD hS => ?_)
  rw [wMp18 eF7] at hP hD
  refine lv_iload_n hx hb dX8_calm_10 rfl (lv_at hl 0 rfl) ?_
  exact hret _ _ _ _ _ _ _ dX8_calm_11 h hP hD hS

def p_X8_outside_L4 (G : tG) (K4 : Int32 → Int32 → Option (Int32)) : Nat → Int32 → Int32 → Option (Int32)
  | 0, _, _ => none
  | k4 + 1, z4_0, z4_1 => (if 6 ≤ z4_0 then K4 z4_0 z4_1 else oguard (inB z4_0 6) (bi1 ((if (G 0 z4_0.toNatClampNeg) = 2 then some (1) else some (0))) (fun (y18_0 : Int32) => plet (z4_1 + y18_0) (fun (x27 : Int32) => plet (z4_0 + 1) (fun (x28 : Int32) => p_X8_outside_L4 G K4 k4 x28 x27)))))
theorem p_X8_outside_L4_k {G : tG} {K0 : Int32 → Int32 → Option (Int32)} {k : Nat} {z4_0 : Int32} {z4_1 : Int32} {x : Int32} (h : p_X8_outside_L4 G K0 k z4_0 z4_1 = some x) : ∃ K, K = K0 ∧ p_X8_outside_L4 G K k z4_0 z4_1 = some x := ⟨K0, rfl, h⟩
def p_X8_outside (n : Nat) (G : tG) : Option (Int32) :=
  p_X8_outside_L4 G (fun (z4_0 : Int32) (z4_1 : Int32) => some z4_1) n 0 0
set_option maxHeartbeats 4000000 in
set_option maxRecDepth 100000 in
theorem c_X8_outside (l : Launch) (D : va_G) (ad : Nat → Nat) (cA : ClassId) (n : Nat) (F : tF) (G : tG) {r : Int32} (h : p_X8_outside n G = some r) : CI l yX8_outside wsX8_outside ({ frames := 0, cells := 0, slots := 0, locals := 0 } : Room) D cA (wM ad cA F G) [.ref (ad 0)] r (wM ad cA F G) := by
  rw [p_X8_outside] at h
  refine metIr (w := wM ad cA) (cc := cX8_outside) (maxL := 3) (by decide) rfl (Nat.le_of_ble_eq_true rfl) ?_
  intro p e s m args below meth c A ls Q hE hret
  obtain ⟨hx, hb, hts, hown, hml, hP, hK, hD, hN, hA, hl⟩ := hE
  have hown : s.vm.findClass RX8 = some m.cls := hown
  have hl : lv_has ls 3 [(0, .ref (ad 0))] := hl
  have hS : va_S A s.heap s.heap [] := va_S.rf
  have k_0 : (Cond.fieldLink RX8 31 "BellBookModel" "where" "[I").before args s = true := hts _ (List.mem_of_getElem? (i := 1) rfl)
  have n_8 : ∀ w ∈ u_ws RX8 TX8 46, w ∈ wsX8_outside := fun w hw => List.mem_cons_of_mem _ (List.mem_append_right _ hw)
  refine lv_iconst (v := 0) hx hb dX8_outside_0 (by decide) ?_
  refine lv_istore_n (lv' := [(1, .int (0)), (0, .ref (ad 0))]) hx hb dX8_outside_1 rfl hl (by decide) rfl (fun ls hl => ?_)
  refine lv_iconst (v := 0) hx hb dX8_outside_2 (by decide) ?_
  refine lv_istore_n (lv' := [(2, .int (0)), (1, .int (0)), (0, .ref (ad 0))]) hx hb dX8_outside_3 rfl hl (by decide) rfl (fun ls hl => ?_)
  obtain ⟨K4, eK4, h⟩ := p_X8_outside_L4_k h
  have JE4 : ∀ (z4_0 : Int32) (z4_1 : Int32) (H : Heap) (locs : List Loc) (ls : Array Slot), K4 z4_0 z4_1 = some r → va_P D vwCl (wM ad cA F G) H → va_D A (wM ad cA F G) → va_S A s.heap H locs → lv_has ls 3 [(2, .int (z4_0)), (1, .int (z4_1)), (0, .ref (ad 0))] → W p l e ({ frames := 0, cells := 0, slots := 0, locals := 0 } : Room) s m args below meth c H locs 0 0 Q (F0 m 34 ls []) := by
    intro z4_0 z4_1 H locs ls h hP hD hS hl
    rw [eK4] at h
    refine lv_iload_n hx hb dX8_outside_34 rfl (lv_at hl 1 rfl) ?_
    exact hret _ _ _ _ _ dX8_outside_35 h hP hD hS
  have LL4 : ∀ (k : Nat) (z4_0 : Int32) (z4_1 : Int32) (H : Heap) (locs : List Loc) (ls : Array Slot), p_X8_outside_L4 G K4 k z4_0 z4_1 = some r → va_P D vwCl (wM ad cA F G) H → va_D A (wM ad cA F G) → va_S A s.heap H locs → lv_has ls 3 [(2, .int (z4_0)), (1, .int (z4_1)), (0, .ref (ad 0))] → W p l e ({ frames := 0, cells := 0, slots := 0, locals := 0 } : Room) s m args below meth c H locs 0 0 Q (F0 m 4 ls []) := by
    intro k
    induction k with
    | zero =>
      intro z4_0 z4_1 H locs ls h hP hD hS hl
      rw [p_X8_outside_L4] at h
      cases h
    | succ k4 ih4 =>
      intro z4_0 z4_1 H locs ls h hP hD hS hl
      rw [p_X8_outside_L4] at h
      refine lv_iload_n hx hb dX8_outside_4 rfl (lv_at hl 0 rfl) ?_
      refine lv_bipush (v := 6) hx hb dX8_outside_5 (by decide) ?_
      refine lv_icmp_ge (tgt := 34) hx hb dX8_outside_7 (by decide) (fun c7 => ?_) (fun c7 => ?_)
      · replace h := ifp h c7
        exact JE4 _ _ _ _ _ h hP hD hS (lv_sub hl [0, 1, 2] rfl)
      · replace h := ifn h c7
        refine lv_iload_n hx hb dX8_outside_10 rfl (lv_at hl 1 rfl) ?_
        refine lv_aload_n hx hb dX8_outside_11 rfl (lv_at hl 2 rfl) ?_
        refine va_get (D := D) (ci := 8) (fs := vX8 ad F) (v := .ref (ad 1)) (C := RX8) (T := TX8) (N := 46) hx hb hts n_8 hown hK hP 0 wMg0 rfl 15 (by decide) k_0 (fun _ h9 => h9) rfl dX8_outside_12 ?_
        refine lv_iload_n hx hb dX8_outside_15 rfl (lv_at hl 0 rfl) ?_
        obtain ⟨g16, h⟩ := og h
        refine va_iald (D := D) hx hb hK hP 1 0 wMg1 rfl (inB_in g16) dX8_outside_16 ?_
        refine lv_iconst (v := 2) hx hb dX8_outside_17 (by decide) ?_
        obtain ⟨y18_0, q18, h⟩ := bi1e h
        have J18 : ∀ (wy18_0 : Int32), some (wy18_0) = some (y18_0) → ∀ (H : Heap) (locs : List Loc) (ls : Array Slot), va_P D vwCl (wM ad cA F G) H → va_D A (wM ad cA F G) → va_S A s.heap H locs → lv_has ls 3 [(2, .int (z4_0)), (1, .int (z4_1)), (0, .ref (ad 0))] → W p l e ({ frames := 0, cells := 0, slots := 0, locals := 0 } : Room) s m args below meth c H locs 0 0 Q (F0 m 26 ls [.int (wy18_0), .int (z4_1)]) := by
          intro wy18_0 e9 H locs ls hP hD hS hl
          cases e9
          refine lv_iadd hx hb dX8_outside_26 ?_
          refine lv_topi (fun x27 ex27 => ?_)
          replace h := pl h ex27
          refine lv_istore_n (lv' := [(1, .int (x27)), (2, .int (z4_0)), (0, .ref (ad 0))]) hx hb dX8_outside_27 rfl hl (by decide) rfl (fun ls hl => ?_)
          obtain ⟨x28, ex28⟩ : ∃ z : Int32, z = (z4_0 + 1) := ⟨_, rfl⟩
          replace h := pl h ex28
          refine lv_iinc (v := x28) (lv' := [(2, .int (x28)), (1, .int (x27)), (0, .ref (ad 0))]) hx hb dX8_outside_28 hl (k := 1) rfl (by rw [ex28]; rfl) (by decide) rfl (fun ls hl => ?_)
          refine lv_goto (tgt := 4) hx hb dX8_outside_31 (by decide) ?_
          exact ih4 _ _ _ _ _ h hP hD hS (lv_sub hl [0, 1, 2] rfl)
        refine lv_icmp_ne (tgt := 25) hx hb dX8_outside_18 (by decide) (fun c18 => ?_) (fun c18 => ?_)
        · replace q18 := ifn q18 c18
          refine lv_iconst (v := 0) hx hb dX8_outside_25 (by decide) ?_
          exact J18 _ q18 _ _ _ hP hD hS (lv_sub hl [0, 1, 2] rfl)
        · replace q18 := ifp q18 c18
          refine lv_iconst (v := 1) hx hb dX8_outside_21 (by decide) ?_
          refine lv_goto (tgt := 26) hx hb dX8_outside_22 (by decide) ?_
          exact J18 _ q18 _ _ _ hP hD hS (lv_sub hl [0, 1, 2] rfl)
  exact LL4 n 0 0 _ _ _ h hP hD hS (lv_sub hl [0, 1, 2] rfl)

def p_X8_depth (n : Nat) (F : tF) (G : tG) (a1 : Int32) : Option (Int32 × tF × tG) :=
  bi1 (p_X8_in a1 0 90) (fun x4 => (if x4 = 0 then some ((-2), F, G) else bi1 (p_X8_outside n G) (fun x14 => (if x14 ≤ 0 then plet (upd F 1 a1) (fun (F25 : tF) => bi1 (p_X8_all F25) (fun x30 => bi1 (p_X8_most F25) (fun x34 => bi3 (p_X8_spill F25 G (x30 - x34)) (fun x38 F38 G38 => some (x38, F38, G38))))) else some ((-3), F, G)))))
set_option maxHeartbeats 4000000 in
set_option maxRecDepth 100000 in
theorem c_X8_depth (l : Launch) (D : va_G) (ad : Nat → Nat) (cA : ClassId) (n : Nat) (F : tF) (G : tG) (a1 : Int32) {r : Int32} {F' : tF} {G' : tG} (h : p_X8_depth n F G a1 = some (r, F', G')) : CI l yX8_depth wsX8_depth ({ frames := 2, cells := 0, slots := 0, locals := 42 } : Room) D cA (wM ad cA F G) [.ref (ad 0), .int (a1)] r (wM ad cA F' G') := by
  rw [p_X8_depth] at h
  refine metIm (w := wM ad cA) (cc := cX8_depth) (maxL := 2) (by decide) rfl (Nat.le_of_ble_eq_true rfl) ?_
  intro p e s m args below meth c A ls Q hE hret
  obtain ⟨hx, hb, hts, hown, hml, hP, hK, hD, hN, hA, hl⟩ := hE
  have hown : s.vm.findClass RX8 = some m.cls := hown
  have hl : lv_has ls 2 [(0, .ref (ad 0)), (1, .int (a1))] := hl
  have hS : va_S A s.heap s.heap [] := va_S.rf
  have k_0 : (Cond.fieldLink RX8 89 "BellBookModel" "depth" "I").before args s = true := hts _ (List.mem_of_getElem? (i := 1) rfl)
  have n_8 : ∀ w ∈ u_ws RX8 TX8 46, w ∈ wsX8_depth := fun w hw => List.mem_cons_of_mem _ (List.mem_append_right _ hw)
  refine lv_iload_n hx hb dX8_depth_0 rfl (lv_at hl 1 rfl) ?_
  refine lv_iconst (v := 0) hx hb dX8_depth_1 (by decide) ?_
  refine lv_bipush (v := 90) hx hb dX8_depth_2 (by decide) ?_
  obtain ⟨x4, h4, h⟩ := bi1e h
  refine callSI (As := [.int (a1), .int (0), .int (90)]) (rest := []) ⟨hx, hb, hml, hown, hts⟩ (c_X8_in l D ad cA n F G a1 0 90 h4) (va_cwS 3 hts gX8_depth_X8_in rfl rfl rfl (by decide +kernel) ⟨Nat.le_of_ble_eq_true rfl, Nat.le_of_ble_eq_true rfl⟩) hP hK hD hN hS hA rfl hl.1 rfl (Nat.le_of_ble_eq_true rfl) dX8_depth_4 ⟨Nat.zero_le _, Nat.zero_le _⟩ (fun H locs hP hD hS => ?_)
  refine lv_if_ne (tgt := 13) hx hb dX8_depth_7 (by decide) (fun c7 => ?_) (fun c7 => ?_)
  · replace h := ifn h c7
    refine lv_aload_n hx hb dX8_depth_13 rfl (lv_at hl 0 rfl) ?_
    obtain ⟨x14, h14, h⟩ := bi1e h
    refine callVI (b := ad 0) (As := []) (rest := []) ⟨hx, hb, hml, hown, hts⟩ (c_X8_outside l D ad cA n F G h14) (cwV 0 hts gX8_depth_X8_outside rfl rfl rfl (by decide +kernel) ⟨Nat.le_of_ble_eq_true rfl, Nat.le_of_ble_eq_true rfl⟩) (va_recv hK hP (ci := 8) (q0 := 0) rfl wMg0) hP hK hD hN hS hA rfl hl.1 rfl (Nat.le_of_ble_eq_true rfl) dX8_depth_14 ⟨Nat.zero_le _, Nat.zero_le _⟩ (fun H locs hP hD hS => ?_)
    refine lv_if_le (tgt := 23) hx hb dX8_depth_17 (by decide) (fun c17 => ?_) (fun c17 => ?_)
    · replace h := ifp h c17
      refine lv_aload_n hx hb dX8_depth_23 rfl (lv_at hl 0 rfl) ?_
      refine lv_iload_n hx hb dX8_depth_24 rfl (lv_at hl 1 rfl) ?_
      obtain ⟨F25, eF25⟩ : ∃ f : tF, f = upd F 1 a1 := ⟨_, rfl⟩
      replace h := pl h eF25
      refine va_put (D := D) (ci := 8) (fs := vX8 ad F) (v := .int (a1)) (ty := .int) (C := RX8) (T := TX8) (N := 46) hx hb hts n_8 tyX8 tyX8_ok nmX8 hown hK hP hD hS 0 wMg0 rfl 1 (by decide) k_0 (fun _ h9 => h9) rfl (tyX8_ok 1 (by decide)) rfl rfl (Nat.le_of_ble_eq_true rfl) dX8_depth_25 (fun H locs hP hD hS => ?_)
      rw [wMp1 eF25] at hP hD
      refine lv_aload_n hx hb dX8_depth_28 rfl (lv_at hl 0 rfl) ?_
      refine lv_aload_n hx hb dX8_depth_29 rfl (lv_at hl 0 rfl) ?_
      obtain ⟨x30, h30, h⟩ := bi1e h
      refine callVI (b := ad 0) (As := []) (rest := [.ref (ad 0)]) ⟨hx, hb, hml, hown, hts⟩ (c_X8_all l D ad cA n F25 G h30) (cwV 0 hts gX8_depth_X8_all rfl rfl rfl (by decide +kernel) ⟨Nat.le_of_ble_eq_true rfl, Nat.le_of_ble_eq_true rfl⟩) (va_recv hK hP (ci := 8) (q0 := 0) rfl wMg0) hP hK hD hN hS hA rfl hl.1 rfl (Nat.le_of_ble_eq_true rfl) dX8_depth_30 ⟨Nat.zero_le _, Nat.zero_le _⟩ (fun H locs hP hD hS => ?_)
      refine lv_aload_n hx hb dX8_depth_33 rfl (lv_at hl 0 rfl) ?_
      obtain ⟨x34, h34, h⟩ := bi1e h
      refine callVI (b := ad 0) (As := []) (rest := [.int (x30), .ref (ad 0)]) ⟨hx, hb, hml, hown, hts⟩ (c_X8_most l D ad cA n F25 G h34) (cwV 0 hts gX8_depth_X8_most rfl rfl rfl (by decide +kernel) ⟨Nat.le_of_ble_eq_true rfl, Nat.le_of_ble_eq_true rfl⟩) (va_recv hK hP (ci := 8) (q0 := 0) rfl wMg0) hP hK hD hN hS hA rfl hl.1 rfl (Nat.le_of_ble_eq_true rfl) dX8_depth_34 ⟨Nat.zero_le _, Nat.zero_le _⟩ (fun H locs hP hD hS => ?_)
      refine lv_isub hx hb dX8_depth_37 ?_
      obtain ⟨x38, F38, G38, h38, h⟩ := bi3e h
      refine callVI (b := ad 0) (As := [.int ((x30 - x34))]) (rest := []) ⟨hx, hb, hml, hown, hts⟩ (c_X8_spill l D ad cA n F25 G (x30 - x34) h38) (cwV 1 hts gX8_depth_X8_spill rfl rfl rfl (by decide +kernel) ⟨Nat.le_of_ble_eq_true rfl, Nat.le_of_ble_eq_true rfl⟩) (va_recv hK hP (ci := 8) (q0 := 0) rfl wMg0) hP hK hD hN hS hA rfl hl.1 rfl (Nat.le_of_ble_eq_true rfl) dX8_depth_38 ⟨Nat.zero_le _, Nat.zero_le _⟩ (fun H locs hP hD hS => ?_)
      exact hret _ _ _ _ _ _ _ dX8_depth_41 h hP hD hS
    · replace h := ifn h c17
      refine lv_bipush (v := (-3)) hx hb dX8_depth_20 (by decide) ?_
      exact hret _ _ _ _ _ _ _ dX8_depth_22 h hP hD hS
  · replace h := ifp h c7
    refine lv_bipush (v := (-2)) hx hb dX8_depth_10 (by decide) ?_
    exact hret _ _ _ _ _ _ _ dX8_depth_12 h hP hD hS

def p_X8_isMan (a0 : Int32) : Option (Int32) :=
  bi1 (p_X8_in a0 0 5) (fun x3 => oguard (btB x3) (some x3))
set_option maxHeartbeats 4000000 in
set_option maxRecDepth 100000 in
theorem c_X8_isMan (l : Launch) (D : va_G) (ad : Nat → Nat) (cA : ClassId) (n : Nat) (F : tF) (G : tG) (a0 : Int32) {r : Int32} (h : p_X8_isMan a0 = some r) : CI l yX8_isMan wsX8_isMan ({ frames := 1, cells := 0, slots := 0, locals := 22 } : Room) D cA (wM ad cA F G) [.int (a0)] r (wM ad cA F G) := by
  rw [p_X8_isMan] at h
  refine metZr (w := wM ad cA) (cc := cX8_isMan) (maxL := 1) (by decide) rfl (Nat.le_of_ble_eq_true rfl) ?_
  intro p e s m args below meth c A ls Q hE hret
  obtain ⟨hx, hb, hts, hown, hml, hP, hK, hD, hN, hA, hl⟩ := hE
  have hown : s.vm.findClass RX8 = some m.cls := hown
  have hl : lv_has ls 1 [(0, .int (a0))] := hl
  have hS : va_S A s.heap s.heap [] := va_S.rf
  refine lv_iload_n hx hb dX8_isMan_0 rfl (lv_at hl 0 rfl) ?_
  refine lv_iconst (v := 0) hx hb dX8_isMan_1 (by decide) ?_
  refine lv_iconst (v := 5) hx hb dX8_isMan_2 (by decide) ?_
  obtain ⟨x3, h3, h⟩ := bi1e h
  refine callSI (As := [.int (a0), .int (0), .int (5)]) (rest := []) ⟨hx, hb, hml, hown, hts⟩ (c_X8_in l D ad cA n F G a0 0 5 h3) (va_cwS 3 hts gX8_isMan_X8_in rfl rfl rfl (by decide +kernel) ⟨Nat.le_of_ble_eq_true rfl, Nat.le_of_ble_eq_true rfl⟩) hP hK hD hN hS hA rfl hl.1 rfl (Nat.le_of_ble_eq_true rfl) dX8_isMan_3 ⟨Nat.zero_le _, Nat.zero_le _⟩ (fun H locs hP hD hS => ?_)
  obtain ⟨g6, h⟩ := og h
  exact hret _ _ _ _ _ dX8_isMan_6 g6 h hP hD hS

def p_X8_entry_L47 (F : tF) (G : tG) (a1 : Int32) (a2 : Int32) (K47 : Int32 → Option (Int32 × tF × tG)) : Nat → Int32 → Option (Int32 × tF × tG)
  | 0, _ => none
  | k47 + 1, z47_0 => (if (F 20) ≤ z47_0 then K47 z47_0 else oguard (inB z47_0 40) ((if a1 < (G 13 z47_0.toNatClampNeg) then some ((-5), F, G) else oguard (inB z47_0 40) ((if (G 13 z47_0.toNatClampNeg) = a1 then oguard (inB z47_0 40) ((if (G 14 z47_0.toNatClampNeg) = a2 then some ((-5), F, G) else plet (z47_0 + 1) (fun (x92 : Int32) => p_X8_entry_L47 F G a1 a2 K47 k47 x92))) else plet (z47_0 + 1) (fun (x92 : Int32) => p_X8_entry_L47 F G a1 a2 K47 k47 x92))))))
theorem p_X8_entry_L47_k {F : tF} {G : tG} {a1 : Int32} {a2 : Int32} {K0 : Int32 → Option (Int32 × tF × tG)} {k : Nat} {z47_0 : Int32} {x : Int32 × tF × tG} (h : p_X8_entry_L47 F G a1 a2 K0 k z47_0 = some x) : ∃ K, K = K0 ∧ p_X8_entry_L47 F G a1 a2 K k z47_0 = some x := ⟨K0, rfl, h⟩
def p_X8_entry (n : Nat) (F : tF) (G : tG) (a1 : Int32) (a2 : Int32) (a3 : Int32) : Option (Int32 × tF × tG) :=
  bi1 (p_X8_isMan a2) (fun x1 => (if x1 = 0 then some ((-1), F, G) else bi1 (p_X8_in a1 0 1000) (fun x14 => (if x14 = 0 then some ((-2), F, G) else bi1 (p_X8_in a3 0 2) (fun x23 => (if x23 = 0 then some ((-2), F, G) else (if (F 20) = 40 then some ((-4), F, G) else p_X8_entry_L47 F G a1 a2 (fun (z47_0 : Int32) => oguard (inB (F 20) 40) (plet (stG G 13 (F 20) a1) (fun (G107 : tG) => oguard (inB (F 20) 40) (plet (stG G107 14 (F 20) a2) (fun (G117 : tG) => oguard (inB (F 20) 40) (plet (stG G117 15 (F 20) a3) (fun (G127 : tG) => plet (upd F 20 ((F 20) + 1)) (fun (F135 : tF) => some (((F135 20) - 1), F135, G127))))))))) n 0)))))))
set_option maxHeartbeats 4000000 in
set_option maxRecDepth 100000 in
theorem c_X8_entry (l : Launch) (D : va_G) (ad : Nat → Nat) (cA : ClassId) (n : Nat) (F : tF) (G : tG) (a1 : Int32) (a2 : Int32) (a3 : Int32) {r : Int32} {F' : tF} {G' : tG} (h : p_X8_entry n F G a1 a2 a3 = some (r, F', G')) : CI l yX8_entry wsX8_entry ({ frames := 2, cells := 0, slots := 0, locals := 42 } : Room) D cA (wM ad cA F G) [.ref (ad 0), .int (a1), .int (a2), .int (a3)] r (wM ad cA F' G') := by
  rw [p_X8_entry] at h
  refine metIm (w := wM ad cA) (cc := cX8_entry) (maxL := 5) (by decide) rfl (Nat.le_of_ble_eq_true rfl) ?_
  intro p e s m args below meth c A ls Q hE hret
  obtain ⟨hx, hb, hts, hown, hml, hP, hK, hD, hN, hA, hl⟩ := hE
  have hown : s.vm.findClass RX8 = some m.cls := hown
  have hl : lv_has ls 5 [(0, .ref (ad 0)), (1, .int (a1)), (2, .int (a2)), (3, .int (a3))] := hl
  have hS : va_S A s.heap s.heap [] := va_S.rf
  have k_0 : (Cond.fieldLink RX8 221 "BellBookModel" "entries" "I").before args s = true := hts _ (List.mem_of_getElem? (i := 1) rfl)
  have n_8 : ∀ w ∈ u_ws RX8 TX8 46, w ∈ wsX8_entry := fun w hw => List.mem_cons_of_mem _ (List.mem_append_right _ hw)
  have k_2 : (Cond.fieldLink RX8 71 "BellBookModel" "entryMinute" "[I").before args s = true := hts _ (List.mem_of_getElem? (i := 2) rfl)
  have k_3 : (Cond.fieldLink RX8 74 "BellBookModel" "entryMan" "[I").before args s = true := hts _ (List.mem_of_getElem? (i := 3) rfl)
  have k_4 : (Cond.fieldLink RX8 77 "BellBookModel" "entryWhere" "[I").before args s = true := hts _ (List.mem_of_getElem? (i := 4) rfl)
  refine lv_iload_n hx hb dX8_entry_0 rfl (lv_at hl 2 rfl) ?_
  obtain ⟨x1, h1, h⟩ := bi1e h
  refine callSI (As := [.int (a2)]) (rest := []) ⟨hx, hb, hml, hown, hts⟩ (c_X8_isMan l D ad cA n F G a2 h1) (va_cwS 1 hts gX8_entry_X8_isMan rfl rfl rfl (by decide +kernel) ⟨Nat.le_of_ble_eq_true rfl, Nat.le_of_ble_eq_true rfl⟩) hP hK hD hN hS hA rfl hl.1 rfl (Nat.le_of_ble_eq_true rfl) dX8_entry_1 ⟨Nat.zero_le _, Nat.zero_le _⟩ (fun H locs hP hD hS => ?_)
  refine lv_if_ne (tgt := 9) hx hb dX8_entry_4 (by decide) (fun c4 => ?_) (fun c4 => ?_)
  · replace h := ifn h c4
    refine lv_iload_n hx hb dX8_entry_9 rfl (lv_at hl 1 rfl) ?_
    refine lv_iconst (v := 0) hx hb dX8_entry_10 (by decide) ?_
    refine lv_sipush (v := 1000) hx hb dX8_entry_11 (by decide) ?_
    obtain ⟨x14, h14, h⟩ := bi1e h
    refine callSI (As := [.int (a1), .int (0), .int (1000)]) (rest := []) ⟨hx, hb, hml, hown, hts⟩ (c_X8_in l D ad cA n F G a1 0 1000 h14) (va_cwS 3 hts gX8_entry_X8_in rfl rfl rfl (by decide +kernel) ⟨Nat.le_of_ble_eq_true rfl, Nat.le_of_ble_eq_true rfl⟩) hP hK hD hN hS hA rfl hl.1 rfl (Nat.le_of_ble_eq_true rfl) dX8_entry_14 ⟨Nat.zero_le _, Nat.zero_le _⟩ (fun H locs hP hD hS => ?_)
    refine lv_if_eq (tgt := 29) hx hb dX8_entry_17 (by decide) (fun c17 => ?_) (fun c17 => ?_)
    · replace h := ifp h c17
      refine lv_bipush (v := (-2)) hx hb dX8_entry_29 (by decide) ?_
      exact hret _ _ _ _ _ _ _ dX8_entry_31 h hP hD hS
    · replace h := ifn h c17
      refine lv_iload_n hx hb dX8_entry_20 rfl (lv_at hl 3 rfl) ?_
      refine lv_iconst (v := 0) hx hb dX8_entry_21 (by decide) ?_
      refine lv_iconst (v := 2) hx hb dX8_entry_22 (by decide) ?_
      obtain ⟨x23, h23, h⟩ := bi1e h
      refine callSI (As := [.int (a3), .int (0), .int (2)]) (rest := []) ⟨hx, hb, hml, hown, hts⟩ (c_X8_in l D ad cA n F G a3 0 2 h23) (va_cwS 3 hts gX8_entry_X8_in rfl rfl rfl (by decide +kernel) ⟨Nat.le_of_ble_eq_true rfl, Nat.le_of_ble_eq_true rfl⟩) hP hK hD hN hS hA rfl hl.1 rfl (Nat.le_of_ble_eq_true rfl) dX8_entry_23 ⟨Nat.zero_le _, Nat.zero_le _⟩ (fun H locs hP hD hS => ?_)
      refine lv_if_ne (tgt := 32) hx hb dX8_entry_26 (by decide) (fun c26 => ?_) (fun c26 => ?_)
      · replace h := ifn h c26
        refine lv_aload_n hx hb dX8_entry_32 rfl (lv_at hl 0 rfl) ?_
        refine va_get (D := D) (ci := 8) (fs := vX8 ad F) (v := .int ((F 20))) (C := RX8) (T := TX8) (N := 46) hx hb hts n_8 hown hK hP 0 wMg0 rfl 33 (by decide) k_0 (fun _ h9 => h9) rfl dX8_entry_33 ?_
        refine lv_bipush (v := 40) hx hb dX8_entry_36 (by decide) ?_
        refine lv_icmp_ne (tgt := 44) hx hb dX8_entry_38 (by decide) (fun c38 => ?_) (fun c38 => ?_)
        · replace h := ifn h c38
          refine lv_iconst (v := 0) hx hb dX8_entry_44 (by decide) ?_
          refine lv_istore (lv' := [(4, .int (0)), (0, .ref (ad 0)), (1, .int (a1)), (2, .int (a2)), (3, .int (a3))]) hx hb dX8_entry_45 hl (by decide) rfl (fun ls hl => ?_)
          obtain ⟨K47, eK47, h⟩ := p_X8_entry_L47_k h
          have JE47 : ∀ (z47_0 : Int32) (H : Heap) (locs : List Loc) (ls : Array Slot), K47 z47_0 = some (r, F', G') → va_P D vwCl (wM ad cA F G) H → va_D A (wM ad cA F G) → va_S A s.heap H locs → lv_has ls 5 [(4, .int (z47_0)), (0, .ref (ad 0)), (1, .int (a1)), (2, .int (a2)), (3, .int (a3))] → W p l e ({ frames := 2, cells := 0, slots := 0, locals := 42 } : Room) s m args below meth c H locs 0 0 Q (F0 m 98 ls []) := by
            intro z47_0 H locs ls h hP hD hS hl
            rw [eK47] at h
            refine lv_aload_n hx hb dX8_entry_98 rfl (lv_at hl 1 rfl) ?_
            refine va_get (D := D) (ci := 8) (fs := vX8 ad F) (v := .ref (ad 14)) (C := RX8) (T := TX8) (N := 46) hx hb hts n_8 hown hK hP 0 wMg0 rfl 34 (by decide) k_2 (fun _ h9 => h9) rfl dX8_entry_99 ?_
            refine lv_aload_n hx hb dX8_entry_102 rfl (lv_at hl 1 rfl) ?_
            refine va_get (D := D) (ci := 8) (fs := vX8 ad F) (v := .int ((F 20))) (C := RX8) (T := TX8) (N := 46) hx hb hts n_8 hown hK hP 0 wMg0 rfl 33 (by decide) k_0 (fun _ h9 => h9) rfl dX8_entry_103 ?_
            refine lv_iload_n hx hb dX8_entry_106 rfl (lv_at hl 2 rfl) ?_
            obtain ⟨g107, h⟩ := og h
            obtain ⟨G107, eG107⟩ : ∃ z : tG, z = stG G 13 (F 20) a1 := ⟨_, rfl⟩
            replace h := pl h eG107
            refine va_iast (D := D) hx hb hK hP hD hS 14 0 wMg14 rfl (inB_in g107) dX8_entry_107 (fun H locs hP hD hS => ?_)
            rw [wMa13 eG107] at hP hD
            refine lv_aload_n hx hb dX8_entry_108 rfl (lv_at hl 1 rfl) ?_
            refine va_get (D := D) (ci := 8) (fs := vX8 ad F) (v := .ref (ad 15)) (C := RX8) (T := TX8) (N := 46) hx hb hts n_8 hown hK hP 0 wMg0 rfl 35 (by decide) k_3 (fun _ h9 => h9) rfl dX8_entry_109 ?_
            refine lv_aload_n hx hb dX8_entry_112 rfl (lv_at hl 1 rfl) ?_
            refine va_get (D := D) (ci := 8) (fs := vX8 ad F) (v := .int ((F 20))) (C := RX8) (T := TX8) (N := 46) hx hb hts n_8 hown hK hP 0 wMg0 rfl 33 (by decide) k_0 (fun _ h9 => h9) rfl dX8_entry_113 ?_
            refine lv_iload_n hx hb dX8_entry_116 rfl (lv_at hl 3 rfl) ?_
            obtain ⟨g117, h⟩ := og h
            obtain ⟨G117, eG117⟩ : ∃ z : tG, z = stG G107 14 (F 20) a2 := ⟨_, rfl⟩
            replace h := pl h eG117
            refine va_iast (D := D) hx hb hK hP hD hS 15 0 wMg15 rfl (inB_in g117) dX8_entry_117 (fun H locs hP hD hS => ?_)
            rw [wMa14 eG117] at hP hD
            refine lv_aload_n hx hb dX8_entry_118 rfl (lv_at hl 1 rfl) ?_
            refine va_get (D := D) (ci := 8) (fs := vX8 ad F) (v := .ref (ad 16)) (C := RX8) (T := TX8) (N := 46) hx hb hts n_8 hown hK hP 0 wMg0 rfl 36 (by decide) k_4 (fun _ h9 => h9) rfl dX8_entry_119 ?_
            refine lv_aload_n hx hb dX8_entry_122 rfl (lv_at hl 1 rfl) ?_
            refine va_get (D := D) (ci := 8) (fs := vX8 ad F) (v := .int ((F 20))) (C := RX8) (T := TX8) (N := 46) hx hb hts n_8 hown hK hP 0 wMg0 rfl 33 (by decide) k_0 (fun _ h9 => h9) rfl dX8_entry_123 ?_
            refine lv_iload_n hx hb dX8_entry_126 rfl (lv_at hl 4 rfl) ?_
            obtain ⟨g127, h⟩ := og h
            obtain ⟨G127, eG127⟩ : ∃ z : tG, z = stG G117 15 (F 20) a3 := ⟨_, rfl⟩
            replace h := pl h eG127
            refine va_iast (D := D) hx hb hK hP hD hS 16 0 wMg16 rfl (inB_in g127) dX8_entry_127 (fun H locs hP hD hS => ?_)
            rw [wMa15 eG127] at hP hD
            refine lv_aload_n hx hb dX8_entry_128 rfl (lv_at hl 1 rfl) ?_
            refine lv_dup hx hb dX8_entry_129 rfl ?_
            refine va_get (D := D) (ci := 8) (fs := vX8 ad F) (v := .int ((F 20))) (C := RX8) (T := TX8) (N := 46) hx hb hts n_8 hown hK hP 0 wMg0 rfl 33 (by decide) k_0 (fun _ h9 => h9) rfl dX8_entry_130 ?_
            refine lv_iconst (v := 1) hx hb dX8_entry_133 (by decide) ?_
            refine lv_iadd hx hb dX8_entry_134 ?_
            obtain ⟨F135, eF135⟩ : ∃ f : tF, f = upd F 20 ((F 20) + 1) := ⟨_, rfl⟩
            replace h := pl h eF135
            refine va_put (D := D) (ci := 8) (fs := vX8 ad F) (v := .int (((F 20) + 1))) (ty := .int) (C := RX8) (T := TX8) (N := 46) hx hb hts n_8 tyX8 tyX8_ok nmX8 hown hK hP hD hS 0 wMg0 rfl 33 (by decide) k_0 (fun _ h9 => h9) rfl (tyX8_ok 33 (by decide)) rfl rfl (Nat.le_of_ble_eq_true rfl) dX8_entry_135 (fun H locs hP hD hS => ?_)
            rw [wMp20 eF135] at hP hD
            refine lv_aload_n hx hb dX8_entry_138 rfl (lv_at hl 1 rfl) ?_
            refine va_get (D := D) (ci := 8) (fs := vX8 ad F135) (v := .int ((F135 20))) (C := RX8) (T := TX8) (N := 46) hx hb hts n_8 hown hK hP 0 wMg0 rfl 33 (by decide) k_0 (fun _ h9 => h9) rfl dX8_entry_139 ?_
            refine lv_iconst (v := 1) hx hb dX8_entry_142 (by decide) ?_
            refine lv_isub hx hb dX8_entry_143 ?_
            exact hret _ _ _ _ _ _ _ dX8_entry_144 h hP hD hS
          have LL47 : ∀ (k : Nat) (z47_0 : Int32) (H : Heap) (locs : List Loc) (ls : Array Slot), p_X8_entry_L47 F G a1 a2 K47 k z47_0 = some (r, F', G') → va_P D vwCl (wM ad cA F G) H → va_D A (wM ad cA F G) → va_S A s.heap H locs → lv_has ls 5 [(4, .int (z47_0)), (0, .ref (ad 0)), (1, .int (a1)), (2, .int (a2)), (3, .int (a3))] → W p l e ({ frames := 2, cells := 0, slots := 0, locals := 42 } : Room) s m args below meth c H locs 0 0 Q (F0 m 47 ls []) := by
            intro k
            induction k with
            | zero =>
              intro z47_0 H locs ls h hP hD hS hl
              rw [p_X8_entry_L47] at h
              cases h
            | succ k47 ih47 =>
              intro z47_0 H locs ls h hP hD hS hl
              rw [p_X8_entry_L47] at h
              refine lv_iload hx hb dX8_entry_47 (lv_at hl 0 rfl) ?_
              refine lv_aload_n hx hb dX8_entry_49 rfl (lv_at hl 1 rfl) ?_
              refine va_get (D := D) (ci := 8) (fs := vX8 ad F) (v := .int ((F 20))) (C := RX8) (T := TX8) (N := 46) hx hb hts n_8 hown hK hP 0 wMg0 rfl 33 (by decide) k_0 (fun _ h9 => h9) rfl dX8_entry_50 ?_
              refine lv_icmp_ge (tgt := 98) hx hb dX8_entry_53 (by decide) (fun c53 => ?_) (fun c53 => ?_)
              · replace h := ifp h c53
                exact JE47 _ _ _ _ h hP hD hS (lv_sub hl [0, 1, 2, 3, 4] rfl)
              · replace h := ifn h c53
                refine lv_aload_n hx hb dX8_entry_56 rfl (lv_at hl 1 rfl) ?_
                refine va_get (D := D) (ci := 8) (fs := vX8 ad F) (v := .ref (ad 14)) (C := RX8) (T := TX8) (N := 46) hx hb hts n_8 hown hK hP 0 wMg0 rfl 34 (by decide) k_2 (fun _ h9 => h9) rfl dX8_entry_57 ?_
                refine lv_iload hx hb dX8_entry_60 (lv_at hl 0 rfl) ?_
                obtain ⟨g62, h⟩ := og h
                refine va_iald (D := D) hx hb hK hP 14 0 wMg14 rfl (inB_in g62) dX8_entry_62 ?_
                refine lv_iload_n hx hb dX8_entry_63 rfl (lv_at hl 2 rfl) ?_
                refine lv_icmp_gt (tgt := 89) hx hb dX8_entry_64 (by decide) (fun c64 => ?_) (fun c64 => ?_)
                · replace h := ifp h c64
                  refine lv_bipush (v := (-5)) hx hb dX8_entry_89 (by decide) ?_
                  exact hret _ _ _ _ _ _ _ dX8_entry_91 h hP hD hS
                · replace h := ifn h c64
                  refine lv_aload_n hx hb dX8_entry_67 rfl (lv_at hl 1 rfl) ?_
                  refine va_get (D := D) (ci := 8) (fs := vX8 ad F) (v := .ref (ad 14)) (C := RX8) (T := TX8) (N := 46) hx hb hts n_8 hown hK hP 0 wMg0 rfl 34 (by decide) k_2 (fun _ h9 => h9) rfl dX8_entry_68 ?_
                  refine lv_iload hx hb dX8_entry_71 (lv_at hl 0 rfl) ?_
                  obtain ⟨g73, h⟩ := og h
                  refine va_iald (D := D) hx hb hK hP 14 0 wMg14 rfl (inB_in g73) dX8_entry_73 ?_
                  refine lv_iload_n hx hb dX8_entry_74 rfl (lv_at hl 2 rfl) ?_
                  refine lv_icmp_ne (tgt := 92) hx hb dX8_entry_75 (by decide) (fun c75 => ?_) (fun c75 => ?_)
                  · replace h := ifn h c75
                    obtain ⟨x92, ex92⟩ : ∃ z : Int32, z = (z47_0 + 1) := ⟨_, rfl⟩
                    replace h := pl h ex92
                    refine lv_iinc (v := x92) (lv' := [(4, .int (x92)), (0, .ref (ad 0)), (1, .int (a1)), (2, .int (a2)), (3, .int (a3))]) hx hb dX8_entry_92 hl (k := 0) rfl (by rw [ex92]; rfl) (by decide) rfl (fun ls hl => ?_)
                    refine lv_goto (tgt := 47) hx hb dX8_entry_95 (by decide) ?_
                    exact ih47 _ _ _ _ h hP hD hS (lv_sub hl [0, 1, 2, 3, 4] rfl)
                  · replace h := ifp h c75
                    refine lv_aload_n hx hb dX8_entry_78 rfl (lv_at hl 1 rfl) ?_
                    refine va_get (D := D) (ci := 8) (fs := vX8 ad F) (v := .ref (ad 15)) (C := RX8) (T := TX8) (N := 46) hx hb hts n_8 hown hK hP 0 wMg0 rfl 35 (by decide) k_3 (fun _ h9 => h9) rfl dX8_entry_79 ?_
                    refine lv_iload hx hb dX8_entry_82 (lv_at hl 0 rfl) ?_
                    obtain ⟨g84, h⟩ := og h
                    refine va_iald (D := D) hx hb hK hP 15 0 wMg15 rfl (inB_in g84) dX8_entry_84 ?_
                    refine lv_iload_n hx hb dX8_entry_85 rfl (lv_at hl 3 rfl) ?_
                    refine lv_icmp_ne (tgt := 92) hx hb dX8_entry_86 (by decide) (fun c86 => ?_) (fun c86 => ?_)
                    · replace h := ifn h c86
                      obtain ⟨x92, ex92⟩ : ∃ z : Int32, z = (z47_0 + 1) := ⟨_, rfl⟩
                      replace h := pl h ex92
                      refine lv_iinc (v := x92) (lv' := [(4, .int (x92)), (0, .ref (ad 0)), (1, .int (a1)), (2, .int (a2)), (3, .int (a3))]) hx hb dX8_entry_92 hl (k := 0) rfl (by rw [ex92]; rfl) (by decide) rfl (fun ls hl => ?_)
                      refine lv_goto (tgt := 47) hx hb dX8_entry_95 (by decide) ?_
                      exact ih47 _ _ _ _ h hP hD hS (lv_sub hl [0, 1, 2, 3, 4] rfl)
                    · replace h := ifp h c86
                      refine lv_bipush (v := (-5)) hx hb dX8_entry_89 (by decide) ?_
                      exact hret _ _ _ _ _ _ _ dX8_entry_91 h hP hD hS
          exact LL47 n 0 _ _ _ h hP hD hS (lv_sub hl [0, 1, 2, 3, 4] rfl)
        · replace h := ifp h c38
          refine lv_bipush (v := (-4)) hx hb dX8_entry_41 (by decide) ?_
          exact hret _ _ _ _ _ _ _ dX8_entry_43 h hP hD hS
      · replace h := ifp h c26
        refine lv_bipush (v := (-2)) hx hb dX8_entry_29 (by decide) ?_
        exact hret _ _ _ _ _ _ _ dX8_entry_31 h hP hD hS
  · replace h := ifp h c4
    refine lv_iconst (v := (-1)) hx hb dX8_entry_7 (by decide) ?_
    exact hret _ _ _ _ _ _ _ dX8_entry_8 h hP hD hS

def p_X8_fewest_L52 (a1 : Int32) (K52 : Int32 → Int32 → tF → tG → Option (Int32 × tF × tG)) : Nat → Int32 → Int32 → tF → tG → Option (Int32 × tF × tG)
  | 0, _, _, _, _ => none
  | k52 + 1, z52_0, z52_1, F52l, G52l => (if 40 < z52_0 then K52 z52_0 z52_1 F52l G52l else (if 0 ≤ z52_1 then K52 z52_0 z52_1 F52l G52l else plet (upd F52l 2 ((F52l 2) + a1)) (fun (F71 : tF) => bi1 (p_X8_all F71) (fun x76 => bi1 (p_X8_most F71) (fun x80 => bi3 (p_X8_spill F71 G52l (x76 - x80)) (fun x84 F84 G84 => bi1 (p_X8_foulness F84) (fun x89 => bi1 ((if (F84 11) < x89 then some ((-6)) else some (z52_0))) (fun (y96_0 : Int32) => plet (z52_0 + 1) (fun (x108 : Int32) => p_X8_fewest_L52 a1 K52 k52 x108 y96_0 F84 G84)))))))))
theorem p_X8_fewest_L52_k {a1 : Int32} {K0 : Int32 → Int32 → tF → tG → Option (Int32 × tF × tG)} {k : Nat} {z52_0 : Int32} {z52_1 : Int32} {F52l : tF} {G52l : tG} {x : Int32 × tF × tG} (h : p_X8_fewest_L52 a1 K0 k z52_0 z52_1 F52l G52l = some x) : ∃ K, K = K0 ∧ p_X8_fewest_L52 a1 K k z52_0 z52_1 F52l G52l = some x := ⟨K0, rfl, h⟩
def p_X8_fewest (n : Nat) (F : tF) (G : tG) (a1 : Int32) : Option (Int32 × tF × tG) :=
  bi1 (p_X8_in a1 1 500) (fun x5 => (if x5 = 0 then some ((-2), F, G) else plet (F 2) (fun (x18 : Int32) => plet (F 3) (fun (x23 : Int32) => plet (F 6) (fun (x28 : Int32) => bi1 (p_X8_foulness F) (fun x31 => bi1 ((if (F 11) < x31 then some ((-6)) else some (0))) (fun (y38_0 : Int32) => p_X8_fewest_L52 a1 (fun (z52_0 : Int32) (z52_1 : Int32) (F52l : tF) (G52l : tG) => plet (upd F52l 2 x18) (fun (F116 : tF) => plet (upd F116 3 x23) (fun (F121 : tF) => plet (upd F121 6 x28) (fun (F127 : tF) => some (z52_1, F127, G52l))))) n 1 y38_0 F G)))))))
set_option maxHeartbeats 4000000 in
set_option maxRecDepth 100000 in
theorem c_X8_fewest (l : Launch) (D : va_G) (ad : Nat → Nat) (cA : ClassId) (n : Nat) (F : tF) (G : tG) (a1 : Int32) {r : Int32} {F' : tF} {G' : tG} (h : p_X8_fewest n F G a1 = some (r, F', G')) : CI l yX8_fewest wsX8_fewest ({ frames := 2, cells := 0, slots := 0, locals := 42 } : Room) D cA (wM ad cA F G) [.ref (ad 0), .int (a1)] r (wM ad cA F' G') := by
  rw [p_X8_fewest] at h
  refine metIm (w := wM ad cA) (cc := cX8_fewest) (maxL := 7) (by decide) rfl (Nat.le_of_ble_eq_true rfl) ?_
  intro p e s m args below meth c A ls Q hE hret
  obtain ⟨hx, hb, hts, hown, hml, hP, hK, hD, hN, hA, hl⟩ := hE
  have hown : s.vm.findClass RX8 = some m.cls := hown
  have hl : lv_has ls 7 [(0, .ref (ad 0)), (1, .int (a1))] := hl
  have hS : va_S A s.heap s.heap [] := va_S.rf
  have k_0 : (Cond.fieldLink RX8 13 "BellBookModel" "fresh" "I").before args s = true := hts _ (List.mem_of_getElem? (i := 1) rfl)
  have n_8 : ∀ w ∈ u_ws RX8 TX8 46, w ∈ wsX8_fewest := fun w hw => List.mem_cons_of_mem _ (List.mem_append_right _ hw)
  have k_2 : (Cond.fieldLink RX8 92 "BellBookModel" "foul" "I").before args s = true := hts _ (List.mem_of_getElem? (i := 2) rfl)
  have k_3 : (Cond.fieldLink RX8 99 "BellBookModel" "spilled" "I").before args s = true := hts _ (List.mem_of_getElem? (i := 3) rfl)
  have k_4 : (Cond.fieldLink RX8 22 "BellBookModel" "limit" "I").before args s = true := hts _ (List.mem_of_getElem? (i := 4) rfl)
  refine lv_iload_n hx hb dX8_fewest_0 rfl (lv_at hl 1 rfl) ?_
  refine lv_iconst (v := 1) hx hb dX8_fewest_1 (by decide) ?_
  refine lv_sipush (v := 500) hx hb dX8_fewest_2 (by decide) ?_
  obtain ⟨x5, h5, h⟩ := bi1e h
  refine callSI (As := [.int (a1), .int (1), .int (500)]) (rest := []) ⟨hx, hb, hml, hown, hts⟩ (c_X8_in l D ad cA n F G a1 1 500 h5) (va_cwS 3 hts gX8_fewest_X8_in rfl rfl rfl (by decide +kernel) ⟨Nat.le_of_ble_eq_true rfl, Nat.le_of_ble_eq_true rfl⟩) hP hK hD hN hS hA rfl hl.1 rfl (Nat.le_of_ble_eq_true rfl) dX8_fewest_5 ⟨Nat.zero_le _, Nat.zero_le _⟩ (fun H locs hP hD hS => ?_)
  refine lv_if_ne (tgt := 14) hx hb dX8_fewest_8 (by decide) (fun c8 => ?_) (fun c8 => ?_)
  · replace h := ifn h c8
    refine lv_aload_n hx hb dX8_fewest_14 rfl (lv_at hl 0 rfl) ?_
    refine va_get (D := D) (ci := 8) (fs := vX8 ad F) (v := .int ((F 2))) (C := RX8) (T := TX8) (N := 46) hx hb hts n_8 hown hK hP 0 wMg0 rfl 2 (by decide) k_0 (fun _ h9 => h9) rfl dX8_fewest_15 ?_
    refine lv_topi (fun x18 ex18 => ?_)
    replace h := pl h ex18
    refine lv_istore_n (lv' := [(2, .int (x18)), (0, .ref (ad 0)), (1, .int (a1))]) hx hb dX8_fewest_18 rfl hl (by decide) rfl (fun ls hl => ?_)
    refine lv_aload_n hx hb dX8_fewest_19 rfl (lv_at hl 1 rfl) ?_
    refine va_get (D := D) (ci := 8) (fs := vX8 ad F) (v := .int ((F 3))) (C := RX8) (T := TX8) (N := 46) hx hb hts n_8 hown hK hP 0 wMg0 rfl 3 (by decide) k_2 (fun _ h9 => h9) rfl dX8_fewest_20 ?_
    refine lv_topi (fun x23 ex23 => ?_)
    replace h := pl h ex23
    refine lv_istore_n (lv' := [(3, .int (x23)), (2, .int (x18)), (0, .ref (ad 0)), (1, .int (a1))]) hx hb dX8_fewest_23 rfl hl (by decide) rfl (fun ls hl => ?_)
    refine lv_aload_n hx hb dX8_fewest_24 rfl (lv_at hl 2 rfl) ?_
    refine va_get (D := D) (ci := 8) (fs := vX8 ad F) (v := .int ((F 6))) (C := RX8) (T := TX8) (N := 46) hx hb hts n_8 hown hK hP 0 wMg0 rfl 6 (by decide) k_3 (fun _ h9 => h9) rfl dX8_fewest_25 ?_
    refine lv_topi (fun x28 ex28 => ?_)
    replace h := pl h ex28
    refine lv_istore (lv' := [(4, .int (x28)), (3, .int (x23)), (2, .int (x18)), (0, .ref (ad 0)), (1, .int (a1))]) hx hb dX8_fewest_28 hl (by decide) rfl (fun ls hl => ?_)
    refine lv_aload_n hx hb dX8_fewest_30 rfl (lv_at hl 3 rfl) ?_
    obtain ⟨x31, h31, h⟩ := bi1e h
    refine callVI (b := ad 0) (As := []) (rest := []) ⟨hx, hb, hml, hown, hts⟩ (c_X8_foulness l D ad cA n F G h31) (cwV 0 hts gX8_fewest_X8_foulness rfl rfl rfl (by decide +kernel) ⟨Nat.le_of_ble_eq_true rfl, Nat.le_of_ble_eq_true rfl⟩) (va_recv hK hP (ci := 8) (q0 := 0) rfl wMg0) hP hK hD hN hS hA rfl hl.1 rfl (Nat.le_of_ble_eq_true rfl) dX8_fewest_31 ⟨Nat.zero_le _, Nat.zero_le _⟩ (fun H locs hP hD hS => ?_)
    refine lv_aload_n hx hb dX8_fewest_34 rfl (lv_at hl 3 rfl) ?_
    refine va_get (D := D) (ci := 8) (fs := vX8 ad F) (v := .int ((F 11))) (C := RX8) (T := TX8) (N := 46) hx hb hts n_8 hown hK hP 0 wMg0 rfl 11 (by decide) k_4 (fun _ h9 => h9) rfl dX8_fewest_35 ?_
    obtain ⟨y38_0, q38, h⟩ := bi1e h
    have J38 : ∀ (wy38_0 : Int32), some (wy38_0) = some (y38_0) → ∀ (H : Heap) (locs : List Loc) (ls : Array Slot), va_P D vwCl (wM ad cA F G) H → va_D A (wM ad cA F G) → va_S A s.heap H locs → lv_has ls 7 [(4, .int (x28)), (3, .int (x23)), (2, .int (x18)), (0, .ref (ad 0)), (1, .int (a1))] → W p l e ({ frames := 2, cells := 0, slots := 0, locals := 42 } : Room) s m args below meth c H locs 0 0 Q (F0 m 47 ls [.int (wy38_0)]) := by
      intro wy38_0 e9 H locs ls hP hD hS hl
      cases e9
      refine lv_istore (lv' := [(5, .int (y38_0)), (4, .int (x28)), (3, .int (x23)), (2, .int (x18)), (0, .ref (ad 0)), (1, .int (a1))]) hx hb dX8_fewest_47 hl (by decide) rfl (fun ls hl => ?_)
      refine lv_iconst (v := 1) hx hb dX8_fewest_49 (by decide) ?_
      refine lv_istore (lv' := [(6, .int (1)), (5, .int (y38_0)), (4, .int (x28)), (3, .int (x23)), (2, .int (x18)), (0, .ref (ad 0)), (1, .int (a1))]) hx hb dX8_fewest_50 hl (by decide) rfl (fun ls hl => ?_)
      obtain ⟨K52, eK52, h⟩ := p_X8_fewest_L52_k h
      have JE52 : ∀ (z52_0 : Int32) (z52_1 : Int32) (F52l : tF) (G52l : tG) (H : Heap) (locs : List Loc) (ls : Array Slot), K52 z52_0 z52_1 F52l G52l = some (r, F', G') → va_P D vwCl (wM ad cA F52l G52l) H → va_D A (wM ad cA F52l G52l) → va_S A s.heap H locs → lv_has ls 7 [(6, .int (z52_0)), (5, .int (z52_1)), (4, .int (x28)), (3, .int (x23)), (2, .int (x18)), (0, .ref (ad 0)), (1, .int (a1))] → W p l e ({ frames := 2, cells := 0, slots := 0, locals := 42 } : Room) s m args below meth c H locs 0 0 Q (F0 m 114 ls []) := by
        intro z52_0 z52_1 F52l G52l H locs ls h hP hD hS hl
        rw [eK52] at h
        refine lv_aload_n hx hb dX8_fewest_114 rfl (lv_at hl 5 rfl) ?_
        refine lv_iload_n hx hb dX8_fewest_115 rfl (lv_at hl 4 rfl) ?_
        obtain ⟨F116, eF116⟩ : ∃ f : tF, f = upd F52l 2 x18 := ⟨_, rfl⟩
        replace h := pl h eF116
        refine va_put (D := D) (ci := 8) (fs := vX8 ad F52l) (v := .int (x18)) (ty := .int) (C := RX8) (T := TX8) (N := 46) hx hb hts n_8 tyX8 tyX8_ok nmX8 hown hK hP hD hS 0 wMg0 rfl 2 (by decide) k_0 (fun _ h9 => h9) rfl (tyX8_ok 2 (by decide)) rfl rfl (Nat.le_of_ble_eq_true rfl) dX8_fewest_116 (fun H locs hP hD hS => ?_)
        rw [wMp2 eF116] at hP hD
        refine lv_aload_n hx hb dX8_fewest_119 rfl (lv_at hl 5 rfl) ?_
        refine lv_iload_n hx hb dX8_fewest_120 rfl (lv_at hl 3 rfl) ?_
        obtain ⟨F121, eF121⟩ : ∃ f : tF, f = upd F116 3 x23 := ⟨_, rfl⟩
        replace h := pl h eF121
        refine va_put (D := D) (ci := 8) (fs := vX8 ad F116) (v := .int (x23)) (ty := .int) (C := RX8) (T := TX8) (N := 46) hx hb hts n_8 tyX8 tyX8_ok nmX8 hown hK hP hD hS 0 wMg0 rfl 3 (by decide) k_2 (fun _ h9 => h9) rfl (tyX8_ok 3 (by decide)) rfl rfl (Nat.le_of_ble_eq_true rfl) dX8_fewest_121 (fun H locs hP hD hS => ?_)
        rw [wMp3 eF121] at hP hD
        refine lv_aload_n hx hb dX8_fewest_124 rfl (lv_at hl 5 rfl) ?_
        refine lv_iload hx hb dX8_fewest_125 (lv_at hl 2 rfl) ?_
        obtain ⟨F127, eF127⟩ : ∃ f : tF, f = upd F121 6 x28 := ⟨_, rfl⟩
        replace h := pl h eF127
        refine va_put (D := D) (ci := 8) (fs := vX8 ad F121) (v := .int (x28)) (ty := .int) (C := RX8) (T := TX8) (N := 46) hx hb hts n_8 tyX8 tyX8_ok nmX8 hown hK hP hD hS 0 wMg0 rfl 6 (by decide) k_3 (fun _ h9 => h9) rfl (tyX8_ok 6 (by decide)) rfl rfl (Nat.le_of_ble_eq_true rfl) dX8_fewest_127 (fun H locs hP hD hS => ?_)
        rw [wMp6 eF127] at hP hD
        refine lv_iload hx hb dX8_fewest_130 (lv_at hl 1 rfl) ?_
        exact hret _ _ _ _ _ _ _ dX8_fewest_132 h hP hD hS
      have LL52 : ∀ (k : Nat) (z52_0 : Int32) (z52_1 : Int32) (F52l : tF) (G52l : tG) (H : Heap) (locs : List Loc) (ls : Array Slot), p_X8_fewest_L52 a1 K52 k z52_0 z52_1 F52l G52l = some (r, F', G') → va_P D vwCl (wM ad cA F52l G52l) H → va_D A (wM ad cA F52l G52l) → va_S A s.heap H locs → lv_has ls 7 [(6, .int (z52_0)), (5, .int (z52_1)), (4, .int (x28)), (3, .int (x23)), (2, .int (x18)), (0, .ref (ad 0)), (1, .int (a1))] → W p l e ({ frames := 2, cells := 0, slots := 0, locals := 42 } : Room) s m args below meth c H locs 0 0 Q (F0 m 52 ls []) := by
        intro k
        induction k with
        | zero =>
          intro z52_0 z52_1 F52l G52l H locs ls h hP hD hS hl
          rw [p_X8_fewest_L52] at h
          cases h
        | succ k52 ih52 =>
          intro z52_0 z52_1 F52l G52l H locs ls h hP hD hS hl
          rw [p_X8_fewest_L52] at h
          refine lv_iload hx hb dX8_fewest_52 (lv_at hl 0 rfl) ?_
          refine lv_bipush (v := 40) hx hb dX8_fewest_54 (by decide) ?_
          refine lv_icmp_gt (tgt := 114) hx hb dX8_fewest_56 (by decide) (fun c56 => ?_) (fun c56 => ?_)
          · replace h := ifp h c56
            exact JE52 _ _ _ _ _ _ _ h hP hD hS (lv_sub hl [0, 1, 2, 3, 4, 5, 6] rfl)
          · replace h := ifn h c56
            refine lv_iload hx hb dX8_fewest_59 (lv_at hl 1 rfl) ?_
            refine lv_if_ge (tgt := 114) hx hb dX8_fewest_61 (by decide) (fun c61 => ?_) (fun c61 => ?_)
            · replace h := ifp h c61
              exact JE52 _ _ _ _ _ _ _ h hP hD hS (lv_sub hl [0, 1, 2, 3, 4, 5, 6] rfl)
            · replace h := ifn h c61
              refine lv_aload_n hx hb dX8_fewest_64 rfl (lv_at hl 5 rfl) ?_
              refine lv_dup hx hb dX8_fewest_65 rfl ?_
              refine va_get (D := D) (ci := 8) (fs := vX8 ad F52l) (v := .int ((F52l 2))) (C := RX8) (T := TX8) (N := 46) hx hb hts n_8 hown hK hP 0 wMg0 rfl 2 (by decide) k_0 (fun _ h9 => h9) rfl dX8_fewest_66 ?_
              refine lv_iload_n hx hb dX8_fewest_69 rfl (lv_at hl 6 rfl) ?_
              refine lv_iadd hx hb dX8_fewest_70 ?_
              obtain ⟨F71, eF71⟩ : ∃ f : tF, f = upd F52l 2 ((F52l 2) + a1) := ⟨_, rfl⟩
              replace h := pl h eF71
              refine va_put (D := D) (ci := 8) (fs := vX8 ad F52l) (v := .int (((F52l 2) + a1))) (ty := .int) (C := RX8) (T := TX8) (N := 46) hx hb hts n_8 tyX8 tyX8_ok nmX8 hown hK hP hD hS 0 wMg0 rfl 2 (by decide) k_0 (fun _ h9 => h9) rfl (tyX8_ok 2 (by decide)) rfl rfl (Nat.le_of_ble_eq_true rfl) dX8_fewest_71 (fun H locs hP hD hS => ?_)
              rw [wMp2 eF71] at hP hD
              refine lv_aload_n hx hb dX8_fewest_74 rfl (lv_at hl 5 rfl) ?_
              refine lv_aload_n hx hb dX8_fewest_75 rfl (lv_at hl 5 rfl) ?_
              obtain ⟨x76, h76, h⟩ := bi1e h
              refine callVI (b := ad 0) (As := []) (rest := [.ref (ad 0)]) ⟨hx, hb, hml, hown, hts⟩ (c_X8_all l D ad cA n F71 G52l h76) (cwV 0 hts gX8_fewest_X8_all rfl rfl rfl (by decide +kernel) ⟨Nat.le_of_ble_eq_true rfl, Nat.le_of_ble_eq_true rfl⟩) (va_recv hK hP (ci := 8) (q0 := 0) rfl wMg0) hP hK hD hN hS hA rfl hl.1 rfl (Nat.le_of_ble_eq_true rfl) dX8_fewest_76 ⟨Nat.zero_le _, Nat.zero_le _⟩ (fun H locs hP hD hS => ?_)
              refine lv_aload_n hx hb dX8_fewest_79 rfl (lv_at hl 5 rfl) ?_
              obtain ⟨x80, h80, h⟩ := bi1e h
              refine callVI (b := ad 0) (As := []) (rest := [.int (x76), .ref (ad 0)]) ⟨hx, hb, hml, hown, hts⟩ (c_X8_most l D ad cA n F71 G52l h80) (cwV 0 hts gX8_fewest_X8_most rfl rfl rfl (by decide +kernel) ⟨Nat.le_of_ble_eq_true rfl, Nat.le_of_ble_eq_true rfl⟩) (va_recv hK hP (ci := 8) (q0 := 0) rfl wMg0) hP hK hD hN hS hA rfl hl.1 rfl (Nat.le_of_ble_eq_true rfl) dX8_fewest_80 ⟨Nat.zero_le _, Nat.zero_le _⟩ (fun H locs hP hD hS => ?_)
              refine lv_isub hx hb dX8_fewest_83 ?_
              obtain ⟨x84, F84, G84, h84, h⟩ := bi3e h
              refine callVI (b := ad 0) (As := [.int ((x76 - x80))]) (rest := []) ⟨hx, hb, hml, hown, hts⟩ (c_X8_spill l D ad cA n F71 G52l (x76 - x80) h84) (cwV 1 hts gX8_fewest_X8_spill rfl rfl rfl (by decide +kernel) ⟨Nat.le_of_ble_eq_true rfl, Nat.le_of_ble_eq_true rfl⟩) (va_recv hK hP (ci := 8) (q0 := 0) rfl wMg0) hP hK hD hN hS hA rfl hl.1 rfl (Nat.le_of_ble_eq_true rfl) dX8_fewest_84 ⟨Nat.zero_le _, Nat.zero_le _⟩ (fun H locs hP hD hS => ?_)
              refine lv_pop hx hb dX8_fewest_87 rfl ?_
              refine lv_aload_n hx hb dX8_fewest_88 rfl (lv_at hl 5 rfl) ?_
              obtain ⟨x89, h89, h⟩ := bi1e h
              refine callVI (b := ad 0) (As := []) (rest := []) ⟨hx, hb, hml, hown, hts⟩ (c_X8_foulness l D ad cA n F84 G84 h89) (cwV 0 hts gX8_fewest_X8_foulness rfl rfl rfl (by decide +kernel) ⟨Nat.le_of_ble_eq_true rfl, Nat.le_of_ble_eq_true rfl⟩) (va_recv hK hP (ci := 8) (q0 := 0) rfl wMg0) hP hK hD hN hS hA rfl hl.1 rfl (Nat.le_of_ble_eq_true rfl) dX8_fewest_89 ⟨Nat.zero_le _, Nat.zero_le _⟩ (fun H locs hP hD hS => ?_)
              refine lv_aload_n hx hb dX8_fewest_92 rfl (lv_at hl 5 rfl) ?_
              refine va_get (D := D) (ci := 8) (fs := vX8 ad F84) (v := .int ((F84 11))) (C := RX8) (T := TX8) (N := 46) hx hb hts n_8 hown hK hP 0 wMg0 rfl 11 (by decide) k_4 (fun _ h9 => h9) rfl dX8_fewest_93 ?_
              obtain ⟨y96_0, q96, h⟩ := bi1e h
              have J96 : ∀ (wy96_0 : Int32), some (wy96_0) = some (y96_0) → ∀ (H : Heap) (locs : List Loc) (ls : Array Slot), va_P D vwCl (wM ad cA F84 G84) H → va_D A (wM ad cA F84 G84) → va_S A s.heap H locs → lv_has ls 7 [(6, .int (z52_0)), (5, .int (z52_1)), (4, .int (x28)), (3, .int (x23)), (2, .int (x18)), (0, .ref (ad 0)), (1, .int (a1))] → W p l e ({ frames := 2, cells := 0, slots := 0, locals := 42 } : Room) s m args below meth c H locs 0 0 Q (F0 m 106 ls [.int (wy96_0)]) := by
                intro wy96_0 e9 H locs ls hP hD hS hl
                cases e9
                refine lv_istore (lv' := [(5, .int (y96_0)), (6, .int (z52_0)), (4, .int (x28)), (3, .int (x23)), (2, .int (x18)), (0, .ref (ad 0)), (1, .int (a1))]) hx hb dX8_fewest_106 hl (by decide) rfl (fun ls hl => ?_)
                obtain ⟨x108, ex108⟩ : ∃ z : Int32, z = (z52_0 + 1) := ⟨_, rfl⟩
                replace h := pl h ex108
                refine lv_iinc (v := x108) (lv' := [(6, .int (x108)), (5, .int (y96_0)), (4, .int (x28)), (3, .int (x23)), (2, .int (x18)), (0, .ref (ad 0)), (1, .int (a1))]) hx hb dX8_fewest_108 hl (k := 1) rfl (by rw [ex108]; rfl) (by decide) rfl (fun ls hl => ?_)
                refine lv_goto (tgt := 52) hx hb dX8_fewest_111 (by decide) ?_
                exact ih52 _ _ _ _ _ _ _ h hP hD hS (lv_sub hl [0, 1, 2, 3, 4, 5, 6] rfl)
              refine lv_icmp_gt (tgt := 104) hx hb dX8_fewest_96 (by decide) (fun c96 => ?_) (fun c96 => ?_)
              · replace q96 := ifp q96 c96
                refine lv_bipush (v := (-6)) hx hb dX8_fewest_104 (by decide) ?_
                exact J96 _ q96 _ _ _ hP hD hS (lv_sub hl [0, 1, 2, 3, 4, 5, 6] rfl)
              · replace q96 := ifn q96 c96
                refine lv_iload hx hb dX8_fewest_99 (lv_at hl 0 rfl) ?_
                refine lv_goto (tgt := 106) hx hb dX8_fewest_101 (by decide) ?_
                exact J96 _ q96 _ _ _ hP hD hS (lv_sub hl [0, 1, 2, 3, 4, 5, 6] rfl)
      exact LL52 n 1 y38_0 F G _ _ _ h hP hD hS (lv_sub hl [0, 1, 2, 3, 4, 5, 6] rfl)
    refine lv_icmp_gt (tgt := 45) hx hb dX8_fewest_38 (by decide) (fun c38 => ?_) (fun c38 => ?_)
    · replace q38 := ifp q38 c38
      refine lv_bipush (v := (-6)) hx hb dX8_fewest_45 (by decide) ?_
      exact J38 _ q38 _ _ _ hP hD hS (lv_sub hl [0, 1, 2, 3, 4] rfl)
    · replace q38 := ifn q38 c38
      refine lv_iconst (v := 0) hx hb dX8_fewest_41 (by decide) ?_
      refine lv_goto (tgt := 47) hx hb dX8_fewest_42 (by decide) ?_
      exact J38 _ q38 _ _ _ hP hD hS (lv_sub hl [0, 1, 2, 3, 4] rfl)
  · replace h := ifp h c8
    refine lv_bipush (v := (-2)) hx hb dX8_fewest_11 (by decide) ?_
    exact hret _ _ _ _ _ _ _ dX8_fewest_13 h hP hD hS

def p_X8_free_L35 (G : tG) (a1 : Int32) (z15_0 : Int32) (z23_0 : Int32) (K35 : Int32 → Int32 → Option (Int32)) : Nat → Int32 → Int32 → Option (Int32)
  | 0, _, _ => none
  | k35 + 1, z35_0, z35_1 => (if 12 ≤ z35_0 then K35 z35_0 z35_1 else bi1 ((if z35_1 = 0 then some (0) else oguard (inB z35_0 12) ((if (G 9 z35_0.toNatClampNeg) = 0 then some (1) else bi1 (p_X8_apart G z35_0 z15_0 z23_0) (fun x62 => (if x62 < a1 then some (0) else some (1))))))) (fun (y44_0 : Int32) => plet (z35_0 + 1) (fun (x76 : Int32) => p_X8_free_L35 G a1 z15_0 z23_0 K35 k35 x76 y44_0)))
theorem p_X8_free_L35_k {G : tG} {a1 : Int32} {z15_0 : Int32} {z23_0 : Int32} {K0 : Int32 → Int32 → Option (Int32)} {k : Nat} {z35_0 : Int32} {z35_1 : Int32} {x : Int32} (h : p_X8_free_L35 G a1 z15_0 z23_0 K0 k z35_0 z35_1 = some x) : ∃ K, K = K0 ∧ p_X8_free_L35 G a1 z15_0 z23_0 K k z35_0 z35_1 = some x := ⟨K0, rfl, h⟩
def p_X8_free_L23 (n : Nat) (G : tG) (a1 : Int32) (z15_0 : Int32) (K23 : Int32 → Option (Int32)) : Nat → Int32 → Option (Int32)
  | 0, _ => none
  | k23 + 1, z23_0 => (if 7 ≤ z23_0 then K23 z23_0 else p_X8_free_L35 G a1 z15_0 z23_0 (fun (z35_0 : Int32) (z35_1 : Int32) => (if z35_1 = 0 then plet (z23_0 + 1) (fun (x94 : Int32) => p_X8_free_L23 n G a1 z15_0 K23 k23 x94) else some ((10 * z15_0) + z23_0))) n 0 1)
theorem p_X8_free_L23_k {n : Nat} {G : tG} {a1 : Int32} {z15_0 : Int32} {K0 : Int32 → Option (Int32)} {k : Nat} {z23_0 : Int32} {x : Int32} (h : p_X8_free_L23 n G a1 z15_0 K0 k z23_0 = some x) : ∃ K, K = K0 ∧ p_X8_free_L23 n G a1 z15_0 K k z23_0 = some x := ⟨K0, rfl, h⟩
def p_X8_free_L15 (n : Nat) (G : tG) (a1 : Int32) (K15 : Int32 → Option (Int32)) : Nat → Int32 → Option (Int32)
  | 0, _ => none
  | k15 + 1, z15_0 => (if 7 ≤ z15_0 then K15 z15_0 else p_X8_free_L23 n G a1 z15_0 (fun (z23_0 : Int32) => plet (z15_0 + 1) (fun (x100 : Int32) => p_X8_free_L15 n G a1 K15 k15 x100)) n 1)
theorem p_X8_free_L15_k {n : Nat} {G : tG} {a1 : Int32} {K0 : Int32 → Option (Int32)} {k : Nat} {z15_0 : Int32} {x : Int32} (h : p_X8_free_L15 n G a1 K0 k z15_0 = some x) : ∃ K, K = K0 ∧ p_X8_free_L15 n G a1 K k z15_0 = some x := ⟨K0, rfl, h⟩
def p_X8_free (n : Nat) (G : tG) (a1 : Int32) : Option (Int32) :=
  bi1 (p_X8_in a1 1 10) (fun x4 => (if x4 = 0 then some (-2) else p_X8_free_L15 n G a1 (fun (z15_0 : Int32) => some (-6)) n 1))
set_option maxHeartbeats 4000000 in
set_option maxRecDepth 100000 in
theorem c_X8_free (l : Launch) (D : va_G) (ad : Nat → Nat) (cA : ClassId) (n : Nat) (F : tF) (G : tG) (a1 : Int32) {r : Int32} (h : p_X8_free n G a1 = some r) : CI l yX8_free wsX8_free ({ frames := 2, cells := 0, slots := 0, locals := 43 } : Room) D cA (wM ad cA F G) [.ref (ad 0), .int (a1)] r (wM ad cA F G) := by
  rw [p_X8_free] at h
  refine metIr (w := wM ad cA) (cc := cX8_free) (maxL := 6) (by decide) rfl (Nat.le_of_ble_eq_true rfl) ?_
  intro p e s m args below meth c A ls Q hE hret
  obtain ⟨hx, hb, hts, hown, hml, hP, hK, hD, hN, hA, hl⟩ := hE
  have hown : s.vm.findClass RX8 = some m.cls := hown
  have hl : lv_has ls 6 [(0, .ref (ad 0)), (1, .int (a1))] := hl
  have hS : va_S A s.heap s.heap [] := va_S.rf
  have k_0 : (Cond.fieldLink RX8 59 "BellBookModel" "tugsA" "[I").before args s = true := hts _ (List.mem_of_getElem? (i := 1) rfl)
  have n_8 : ∀ w ∈ u_ws RX8 TX8 46, w ∈ wsX8_free := fun w hw => List.mem_cons_of_mem _ (List.mem_append_right _ hw)
  refine lv_iload_n hx hb dX8_free_0 rfl (lv_at hl 1 rfl) ?_
  refine lv_iconst (v := 1) hx hb dX8_free_1 (by decide) ?_
  refine lv_bipush (v := 10) hx hb dX8_free_2 (by decide) ?_
  obtain ⟨x4, h4, h⟩ := bi1e h
  refine callSI (As := [.int (a1), .int (1), .int (10)]) (rest := []) ⟨hx, hb, hml, hown, hts⟩ (c_X8_in l D ad cA n F G a1 1 10 h4) (va_cwS 3 hts gX8_free_X8_in rfl rfl rfl (by decide +kernel) ⟨Nat.le_of_ble_eq_true rfl, Nat.le_of_ble_eq_true rfl⟩) hP hK hD hN hS hA rfl hl.1 rfl (Nat.le_of_ble_eq_true rfl) dX8_free_4 ⟨Nat.zero_le _, Nat.zero_le _⟩ (fun H locs hP hD hS => ?_)
  refine lv_if_ne (tgt := 13) hx hb dX8_free_7 (by decide) (fun c7 => ?_) (fun c7 => ?_)
  · replace h := ifn h c7
    refine lv_iconst (v := 1) hx hb dX8_free_13 (by decide) ?_
    refine lv_istore_n (lv' := [(2, .int (1)), (0, .ref (ad 0)), (1, .int (a1))]) hx hb dX8_free_14 rfl hl (by decide) rfl (fun ls hl => ?_)
    obtain ⟨K15, eK15, h⟩ := p_X8_free_L15_k h
    have JE15 : ∀ (z15_0 : Int32) (H : Heap) (locs : List Loc) (ls : Array Slot), K15 z15_0 = some r → va_P D vwCl (wM ad cA F G) H → va_D A (wM ad cA F G) → va_S A s.heap H locs → lv_has ls 6 [(2, .int (z15_0)), (0, .ref (ad 0)), (1, .int (a1))] → W p l e ({ frames := 2, cells := 0, slots := 0, locals := 43 } : Room) s m args below meth c H locs 0 0 Q (F0 m 106 ls []) := by
      intro z15_0 H locs ls h hP hD hS hl
      rw [eK15] at h
      refine lv_bipush (v := (-6)) hx hb dX8_free_106 (by decide) ?_
      exact hret _ _ _ _ _ dX8_free_108 h hP hD hS
    have LL15 : ∀ (k : Nat) (z15_0 : Int32) (H : Heap) (locs : List Loc) (ls : Array Slot), p_X8_free_L15 n G a1 K15 k z15_0 = some r → va_P D vwCl (wM ad cA F G) H → va_D A (wM ad cA F G) → va_S A s.heap H locs → lv_has ls 6 [(2, .int (z15_0)), (0, .ref (ad 0)), (1, .int (a1))] → W p l e ({ frames := 2, cells := 0, slots := 0, locals := 43 } : Room) s m args below meth c H locs 0 0 Q (F0 m 15 ls []) := by
      intro k
      induction k with
      | zero =>
        intro z15_0 H locs ls h hP hD hS hl
        rw [p_X8_free_L15] at h
        cases h
      | succ k15 ih15 =>
        intro z15_0 H locs ls h hP hD hS hl
        rw [p_X8_free_L15] at h
        refine lv_iload_n hx hb dX8_free_15 rfl (lv_at hl 0 rfl) ?_
        refine lv_bipush (v := 7) hx hb dX8_free_16 (by decide) ?_
        refine lv_icmp_ge (tgt := 106) hx hb dX8_free_18 (by decide) (fun c18 => ?_) (fun c18 => ?_)
        · replace h := ifp h c18
          exact JE15 _ _ _ _ h hP hD hS (lv_sub hl [0, 1, 2] rfl)
        · replace h := ifn h c18
          refine lv_iconst (v := 1) hx hb dX8_free_21 (by decide) ?_
          refine lv_istore_n (lv' := [(3, .int (1)), (2, .int (z15_0)), (0, .ref (ad 0)), (1, .int (a1))]) hx hb dX8_free_22 rfl hl (by decide) rfl (fun ls hl => ?_)
          obtain ⟨K23, eK23, h⟩ := p_X8_free_L23_k h
          have JE23 : ∀ (z23_0 : Int32) (H : Heap) (locs : List Loc) (ls : Array Slot), K23 z23_0 = some r → va_P D vwCl (wM ad cA F G) H → va_D A (wM ad cA F G) → va_S A s.heap H locs → lv_has ls 6 [(3, .int (z23_0)), (2, .int (z15_0)), (0, .ref (ad 0)), (1, .int (a1))] → W p l e ({ frames := 2, cells := 0, slots := 0, locals := 43 } : Room) s m args below meth c H locs 0 0 Q (F0 m 100 ls []) := by
            intro z23_0 H locs ls h hP hD hS hl
            rw [eK23] at h
            obtain ⟨x100, ex100⟩ : ∃ z : Int32, z = (z15_0 + 1) := ⟨_, rfl⟩
            replace h := pl h ex100
            refine lv_iinc (v := x100) (lv' := [(2, .int (x100)), (3, .int (z23_0)), (0, .ref (ad 0)), (1, .int (a1))]) hx hb dX8_free_100 hl (k := 1) rfl (by rw [ex100]; rfl) (by decide) rfl (fun ls hl => ?_)
            refine lv_goto (tgt := 15) hx hb dX8_free_103 (by decide) ?_
            exact ih15 _ _ _ _ h hP hD hS (lv_sub hl [0, 2, 3] rfl)
          have LL23 : ∀ (k : Nat) (z23_0 : Int32) (H : Heap) (locs : List Loc) (ls : Array Slot), p_X8_free_L23 n G a1 z15_0 K23 k z23_0 = some r → va_P D vwCl (wM ad cA F G) H → va_D A (wM ad cA F G) → va_S A s.heap H locs → lv_has ls 6 [(3, .int (z23_0)), (2, .int (z15_0)), (0, .ref (ad 0)), (1, .int (a1))] → W p l e ({ frames := 2, cells := 0, slots := 0, locals := 43 } : Room) s m args below meth c H locs 0 0 Q (F0 m 23 ls []) := by
            intro k
            induction k with
            | zero =>
              intro z23_0 H locs ls h hP hD hS hl
              rw [p_X8_free_L23] at h
              cases h
            | succ k23 ih23 =>
              intro z23_0 H locs ls h hP hD hS hl
              rw [p_X8_free_L23] at h
              refine lv_iload_n hx hb dX8_free_23 rfl (lv_at hl 0 rfl) ?_
              refine lv_bipush (v := 7) hx hb dX8_free_24 (by decide) ?_
              refine lv_icmp_ge (tgt := 100) hx hb dX8_free_26 (by decide) (fun c26 => ?_) (fun c26 => ?_)
              · replace h := ifp h c26
                exact JE23 _ _ _ _ h hP hD hS (lv_sub hl [0, 1, 2, 3] rfl)
              · replace h := ifn h c26
                refine lv_iconst (v := 1) hx hb dX8_free_29 (by decide) ?_
                refine lv_istore (lv' := [(4, .int (1)), (3, .int (z23_0)), (2, .int (z15_0)), (0, .ref (ad 0)), (1, .int (a1))]) hx hb dX8_free_30 hl (by decide) rfl (fun ls hl => ?_)
                refine lv_iconst (v := 0) hx hb dX8_free_32 (by decide) ?_
                refine lv_istore (lv' := [(5, .int (0)), (4, .int (1)), (3, .int (z23_0)), (2, .int (z15_0)), (0, .ref (ad 0)), (1, .int (a1))]) hx hb dX8_free_33 hl (by decide) rfl (fun ls hl => ?_)
                obtain ⟨K35, eK35, h⟩ := p_X8_free_L35_k h
                have JE35 : ∀ (z35_0 : Int32) (z35_1 : Int32) (H : Heap) (locs : List Loc) (ls : Array Slot), K35 z35_0 z35_1 = some r → va_P D vwCl (wM ad cA F G) H → va_D A (wM ad cA F G) → va_S A s.heap H locs → lv_has ls 6 [(5, .int (z35_0)), (4, .int (z35_1)), (3, .int (z23_0)), (2, .int (z15_0)), (0, .ref (ad 0)), (1, .int (a1))] → W p l e ({ frames := 2, cells := 0, slots := 0, locals := 43 } : Room) s m args below meth c H locs 0 0 Q (F0 m 82 ls []) := by
                  intro z35_0 z35_1 H locs ls h hP hD hS hl
                  rw [eK35] at h
                  refine lv_iload hx hb dX8_free_82 (lv_at hl 1 rfl) ?_
                  refine lv_if_eq (tgt := 94) hx hb dX8_free_84 (by decide) (fun c84 => ?_) (fun c84 => ?_)
                  · replace h := ifp h c84
                    obtain ⟨x94, ex94⟩ : ∃ z : Int32, z = (z23_0 + 1) := ⟨_, rfl⟩
                    replace h := pl h ex94
                    refine lv_iinc (v := x94) (lv' := [(3, .int (x94)), (5, .int (z35_0)), (4, .int (z35_1)), (2, .int (z15_0)), (0, .ref (ad 0)), (1, .int (a1))]) hx hb dX8_free_94 hl (k := 2) rfl (by rw [ex94]; rfl) (by decide) rfl (fun ls hl => ?_)
                    refine lv_goto (tgt := 23) hx hb dX8_free_97 (by decide) ?_
                    exact ih23 _ _ _ _ h hP hD hS (lv_sub hl [0, 3, 4, 5] rfl)
                  · replace h := ifn h c84
                    refine lv_bipush (v := 10) hx hb dX8_free_87 (by decide) ?_
                    refine lv_iload_n hx hb dX8_free_89 rfl (lv_at hl 3 rfl) ?_
                    refine lv_imul hx hb dX8_free_90 ?_
                    refine lv_iload_n hx hb dX8_free_91 rfl (lv_at hl 2 rfl) ?_
                    refine lv_iadd hx hb dX8_free_92 ?_
                    exact hret _ _ _ _ _ dX8_free_93 h hP hD hS
                have LL35 : ∀ (k : Nat) (z35_0 : Int32) (z35_1 : Int32) (H : Heap) (locs : List Loc) (ls : Array Slot), p_X8_free_L35 G a1 z15_0 z23_0 K35 k z35_0 z35_1 = some r → va_P D vwCl (wM ad cA F G) H → va_D A (wM ad cA F G) → va_S A s.heap H locs → lv_has ls 6 [(5, .int (z35_0)), (4, .int (z35_1)), (3, .int (z23_0)), (2, .int (z15_0)), (0, .ref (ad 0)), (1, .int (a1))] → W p l e ({ frames := 2, cells := 0, slots := 0, locals := 43 } : Room) s m args below meth c H locs 0 0 Q (F0 m 35 ls []) := by
                  intro k
                  induction k with
                  | zero =>
                    intro z35_0 z35_1 H locs ls h hP hD hS hl
                    rw [p_X8_free_L35] at h
                    cases h
                  | succ k35 ih35 =>
                    intro z35_0 z35_1 H locs ls h hP hD hS hl
                    rw [p_X8_free_L35] at h
                    refine lv_iload hx hb dX8_free_35 (lv_at hl 0 rfl) ?_
                    refine lv_bipush (v := 12) hx hb dX8_free_37 (by decide) ?_
                    refine lv_icmp_ge (tgt := 82) hx hb dX8_free_39 (by decide) (fun c39 => ?_) (fun c39 => ?_)
                    · replace h := ifp h c39
                      exact JE35 _ _ _ _ _ h hP hD hS (lv_sub hl [0, 1, 2, 3, 4, 5] rfl)
                    · replace h := ifn h c39
                      refine lv_iload hx hb dX8_free_42 (lv_at hl 1 rfl) ?_
                      obtain ⟨y44_0, q44, h⟩ := bi1e h
                      have J44 : ∀ (wy44_0 : Int32), some (wy44_0) = some (y44_0) → ∀ (H : Heap) (locs : List Loc) (ls : Array Slot), va_P D vwCl (wM ad cA F G) H → va_D A (wM ad cA F G) → va_S A s.heap H locs → lv_has ls 6 [(5, .int (z35_0)), (4, .int (z35_1)), (3, .int (z23_0)), (2, .int (z15_0)), (0, .ref (ad 0)), (1, .int (a1))] → W p l e ({ frames := 2, cells := 0, slots := 0, locals := 43 } : Room) s m args below meth c H locs 0 0 Q (F0 m 74 ls [.int (wy44_0)]) := by
                        intro wy44_0 e9 H locs ls hP hD hS hl
                        cases e9
                        refine lv_istore (lv' := [(4, .int (y44_0)), (5, .int (z35_0)), (3, .int (z23_0)), (2, .int (z15_0)), (0, .ref (ad 0)), (1, .int (a1))]) hx hb dX8_free_74 hl (by decide) rfl (fun ls hl => ?_)
                        obtain ⟨x76, ex76⟩ : ∃ z : Int32, z = (z35_0 + 1) := ⟨_, rfl⟩
                        replace h := pl h ex76
                        refine lv_iinc (v := x76) (lv' := [(5, .int (x76)), (4, .int (y44_0)), (3, .int (z23_0)), (2, .int (z15_0)), (0, .ref (ad 0)), (1, .int (a1))]) hx hb dX8_free_76 hl (k := 1) rfl (by rw [ex76]; rfl) (by decide) rfl (fun ls hl => ?_)
                        refine lv_goto (tgt := 35) hx hb dX8_free_79 (by decide) ?_
                        exact ih35 _ _ _ _ _ h hP hD hS (lv_sub hl [0, 1, 2, 3, 4, 5] rfl)
                      refine lv_if_eq (tgt := 73) hx hb dX8_free_44 (by decide) (fun c44 => ?_) (fun c44 => ?_)
                      · replace q44 := ifp q44 c44
                        refine lv_iconst (v := 0) hx hb dX8_free_73 (by decide) ?_
                        exact J44 _ q44 _ _ _ hP hD hS (lv_sub hl [0, 1, 2, 3, 4, 5] rfl)
                      · replace q44 := ifn q44 c44
                        refine lv_aload_n hx hb dX8_free_47 rfl (lv_at hl 4 rfl) ?_
                        refine va_get (D := D) (ci := 8) (fs := vX8 ad F) (v := .ref (ad 10)) (C := RX8) (T := TX8) (N := 46) hx hb hts n_8 hown hK hP 0 wMg0 rfl 28 (by decide) k_0 (fun _ h9 => h9) rfl dX8_free_48 ?_
                        refine lv_iload hx hb dX8_free_51 (lv_at hl 0 rfl) ?_
                        obtain ⟨g53, q44⟩ := og q44
                        refine va_iald (D := D) hx hb hK hP 10 0 wMg10 rfl (inB_in g53) dX8_free_53 ?_
                        refine lv_if_eq (tgt := 69) hx hb dX8_free_54 (by decide) (fun c54 => ?_) (fun c54 => ?_)
                        · replace q44 := ifp q44 c54
                          refine lv_iconst (v := 1) hx hb dX8_free_69 (by decide) ?_
                          refine lv_goto (tgt := 74) hx hb dX8_free_70 (by decide) ?_
                          exact J44 _ q44 _ _ _ hP hD hS (lv_sub hl [0, 1, 2, 3, 4, 5] rfl)
                        · replace q44 := ifn q44 c54
                          refine lv_aload_n hx hb dX8_free_57 rfl (lv_at hl 4 rfl) ?_
                          refine lv_iload hx hb dX8_free_58 (lv_at hl 0 rfl) ?_
                          refine lv_iload_n hx hb dX8_free_60 rfl (lv_at hl 3 rfl) ?_
                          refine lv_iload_n hx hb dX8_free_61 rfl (lv_at hl 2 rfl) ?_
                          obtain ⟨x62, h62, q44⟩ := bi1e q44
                          refine callVI (b := ad 0) (As := [.int (z35_0), .int (z15_0), .int (z23_0)]) (rest := []) ⟨hx, hb, hml, hown, hts⟩ (c_X8_apart l D ad cA n F G z35_0 z15_0 z23_0 h62) (cwV 3 hts gX8_free_X8_apart rfl rfl rfl (by decide +kernel) ⟨Nat.le_of_ble_eq_true rfl, Nat.le_of_ble_eq_true rfl⟩) (va_recv hK hP (ci := 8) (q0 := 0) rfl wMg0) hP hK hD hN hS hA rfl hl.1 rfl (Nat.le_of_ble_eq_true rfl) dX8_free_62 ⟨Nat.zero_le _, Nat.zero_le _⟩ (fun H locs hP hD hS => ?_)
                          refine lv_iload_n hx hb dX8_free_65 rfl (lv_at hl 5 rfl) ?_
                          refine lv_icmp_lt (tgt := 73) hx hb dX8_free_66 (by decide) (fun c66 => ?_) (fun c66 => ?_)
                          · replace q44 := ifp q44 c66
                            refine lv_iconst (v := 0) hx hb dX8_free_73 (by decide) ?_
                            exact J44 _ q44 _ _ _ hP hD hS (lv_sub hl [0, 1, 2, 3, 4, 5] rfl)
                          · replace q44 := ifn q44 c66
                            refine lv_iconst (v := 1) hx hb dX8_free_69 (by decide) ?_
                            refine lv_goto (tgt := 74) hx hb dX8_free_70 (by decide) ?_
                            exact J44 _ q44 _ _ _ hP hD hS (lv_sub hl [0, 1, 2, 3, 4, 5] rfl)
                exact LL35 n 0 1 _ _ _ h hP hD hS (lv_sub hl [0, 1, 2, 3, 4, 5] rfl)
          exact LL23 n 1 _ _ _ h hP hD hS (lv_sub hl [0, 1, 2, 3] rfl)
    exact LL15 n 1 _ _ _ h hP hD hS (lv_sub hl [0, 1, 2] rfl)
  · replace h := ifp h c7
    refine lv_bipush (v := (-2)) hx hb dX8_free_10 (by decide) ?_
    exact hret _ _ _ _ _ dX8_free_12 h hP hD hS

def p_X8_go (F : tF) (G : tG) (a1 : Int32) (a2 : Int32) : Option (Int32 × tF × tG) :=
  bi1 (p_X8_isMan a1) (fun x1 => (if x1 = 0 then some ((-1), F, G) else bi1 ((if a2 = 0 then some (1) else oguard (inB a1 6) ((if (G 0 a1.toNatClampNeg) = 0 then some (1) else some (0))))) (fun (y10_0 : Int32) => (if y10_0 = 0 then (if a2 = 0 then oguard (inB a1 6) ((if (G 0 a1.toNatClampNeg) = 1 then oguard (inB a1 6) (plet (G 0 a1.toNatClampNeg) (fun (x82 : Int32) => bi1 ((if a2 = 0 then some (0) else some (1))) (fun (y90_0 : Int32) => oguard (inB a1 6) (plet (stG G 0 a1 y90_0) (fun (G98 : tG) => some (x82, F, G98)))))) else some ((-5), F, G))) else oguard (inB a1 6) ((if (G 0 a1.toNatClampNeg) = 1 then some ((-5), F, G) else oguard (inB a1 6) (plet (G 0 a1.toNatClampNeg) (fun (x82 : Int32) => bi1 ((if a2 = 0 then some (0) else some (1))) (fun (y90_0 : Int32) => oguard (inB a1 6) (plet (stG G 0 a1 y90_0) (fun (G98 : tG) => some (x82, F, G98))))))))) else (if (F 1) ≤ 0 then (if a2 = 0 then oguard (inB a1 6) ((if (G 0 a1.toNatClampNeg) = 1 then oguard (inB a1 6) (plet (G 0 a1.toNatClampNeg) (fun (x82 : Int32) => bi1 ((if a2 = 0 then some (0) else some (1))) (fun (y90_0 : Int32) => oguard (inB a1 6) (plet (stG G 0 a1 y90_0) (fun (G98 : tG) => some (x82, F, G98)))))) else some ((-5), F, G))) else oguard (inB a1 6) ((if (G 0 a1.toNatClampNeg) = 1 then some ((-5), F, G) else oguard (inB a1 6) (plet (G 0 a1.toNatClampNeg) (fun (x82 : Int32) => bi1 ((if a2 = 0 then some (0) else some (1))) (fun (y90_0 : Int32) => oguard (inB a1 6) (plet (stG G 0 a1 y90_0) (fun (G98 : tG) => some (x82, F, G98))))))))) else some ((-3), F, G))))))
set_option maxHeartbeats 4000000 in
set_option maxRecDepth 100000 in
theorem c_X8_go (l : Launch) (D : va_G) (ad : Nat → Nat) (cA : ClassId) (n : Nat) (F : tF) (G : tG) (a1 : Int32) (a2 : Int32) {r : Int32} {F' : tF} {G' : tG} (h : p_X8_go F G a1 a2 = some (r, F', G')) : CI l yX8_go wsX8_go ({ frames := 2, cells := 0, slots := 0, locals := 42 } : Room) D cA (wM ad cA F G) [.ref (ad 0), .int (a1), .int (a2)] r (wM ad cA F' G') := by
  rw [p_X8_go] at h
  refine metIm (w := wM ad cA) (cc := cX8_go) (maxL := 5) (by decide) rfl (Nat.le_of_ble_eq_true rfl) ?_
  intro p e s m args below meth c A ls Q hE hret
  obtain ⟨hx, hb, hts, hown, hml, hP, hK, hD, hN, hA, hl⟩ := hE
  have hown : s.vm.findClass RX8 = some m.cls := hown
  have hl : lv_has ls 5 [(0, .ref (ad 0)), (1, .int (a1)), (2, .int (a2))] := hl
  have hS : va_S A s.heap s.heap [] := va_S.rf
  have k_0 : (Cond.fieldLink RX8 31 "BellBookModel" "where" "[I").before args s = true := hts _ (List.mem_of_getElem? (i := 1) rfl)
  have n_8 : ∀ w ∈ u_ws RX8 TX8 46, w ∈ wsX8_go := fun w hw => List.mem_cons_of_mem _ (List.mem_append_right _ hw)
  have k_2 : (Cond.fieldLink RX8 89 "BellBookModel" "depth" "I").before args s = true := hts _ (List.mem_of_getElem? (i := 2) rfl)
  refine lv_iload_n hx hb dX8_go_0 rfl (lv_at hl 1 rfl) ?_
  obtain ⟨x1, h1, h⟩ := bi1e h
  refine callSI (As := [.int (a1)]) (rest := []) ⟨hx, hb, hml, hown, hts⟩ (c_X8_isMan l D ad cA n F G a1 h1) (va_cwS 1 hts gX8_go_X8_isMan rfl rfl rfl (by decide +kernel) ⟨Nat.le_of_ble_eq_true rfl, Nat.le_of_ble_eq_true rfl⟩) hP hK hD hN hS hA rfl hl.1 rfl (Nat.le_of_ble_eq_true rfl) dX8_go_1 ⟨Nat.zero_le _, Nat.zero_le _⟩ (fun H locs hP hD hS => ?_)
  refine lv_if_ne (tgt := 9) hx hb dX8_go_4 (by decide) (fun c4 => ?_) (fun c4 => ?_)
  · replace h := ifn h c4
    refine lv_iload_n hx hb dX8_go_9 rfl (lv_at hl 2 rfl) ?_
    obtain ⟨y10_0, q10, h⟩ := bi1e h
    have J10 : ∀ (wy10_0 : Int32), some (wy10_0) = some (y10_0) → ∀ (H : Heap) (locs : List Loc) (ls : Array Slot), va_P D vwCl (wM ad cA F G) H → va_D A (wM ad cA F G) → va_S A s.heap H locs → lv_has ls 5 [(0, .ref (ad 0)), (1, .int (a1)), (2, .int (a2))] → W p l e ({ frames := 2, cells := 0, slots := 0, locals := 42 } : Room) s m args below meth c H locs 0 0 Q (F0 m 31 ls [.int (wy10_0)]) := by
      intro wy10_0 e9 H locs ls hP hD hS hl
      cases e9
      refine lv_istore_n (lv' := [(3, .int (y10_0)), (0, .ref (ad 0)), (1, .int (a1)), (2, .int (a2))]) hx hb dX8_go_31 rfl hl (by decide) rfl (fun ls hl => ?_)
      refine lv_iload_n hx hb dX8_go_32 rfl (lv_at hl 0 rfl) ?_
      refine lv_if_eq (tgt := 46) hx hb dX8_go_33 (by decide) (fun c33 => ?_) (fun c33 => ?_)
      · replace h := ifp h c33
        refine lv_iload_n hx hb dX8_go_46 rfl (lv_at hl 3 rfl) ?_
        refine lv_if_eq (tgt := 63) hx hb dX8_go_47 (by decide) (fun c47 => ?_) (fun c47 => ?_)
        · replace h := ifp h c47
          refine lv_aload_n hx hb dX8_go_63 rfl (lv_at hl 1 rfl) ?_
          refine va_get (D := D) (ci := 8) (fs := vX8 ad F) (v := .ref (ad 1)) (C := RX8) (T := TX8) (N := 46) hx hb hts n_8 hown hK hP 0 wMg0 rfl 15 (by decide) k_0 (fun _ h9 => h9) rfl dX8_go_64 ?_
          refine lv_iload_n hx hb dX8_go_67 rfl (lv_at hl 2 rfl) ?_
          obtain ⟨g68, h⟩ := og h
          refine va_iald (D := D) hx hb hK hP 1 0 wMg1 rfl (inB_in g68) dX8_go_68 ?_
          refine lv_iconst (v := 1) hx hb dX8_go_69 (by decide) ?_
          refine lv_icmp_eq (tgt := 76) hx hb dX8_go_70 (by decide) (fun c70 => ?_) (fun c70 => ?_)
          · replace h := ifp h c70
            refine lv_aload_n hx hb dX8_go_76 rfl (lv_at hl 1 rfl) ?_
            refine va_get (D := D) (ci := 8) (fs := vX8 ad F) (v := .ref (ad 1)) (C := RX8) (T := TX8) (N := 46) hx hb hts n_8 hown hK hP 0 wMg0 rfl 15 (by decide) k_0 (fun _ h9 => h9) rfl dX8_go_77 ?_
            refine lv_iload_n hx hb dX8_go_80 rfl (lv_at hl 2 rfl) ?_
            obtain ⟨g81, h⟩ := og h
            refine va_iald (D := D) hx hb hK hP 1 0 wMg1 rfl (inB_in g81) dX8_go_81 ?_
            refine lv_topi (fun x82 ex82 => ?_)
            replace h := pl h ex82
            refine lv_istore (lv' := [(4, .int (x82)), (3, .int (y10_0)), (0, .ref (ad 0)), (1, .int (a1)), (2, .int (a2))]) hx hb dX8_go_82 hl (by decide) rfl (fun ls hl => ?_)
            refine lv_aload_n hx hb dX8_go_84 rfl (lv_at hl 2 rfl) ?_
            refine va_get (D := D) (ci := 8) (fs := vX8 ad F) (v := .ref (ad 1)) (C := RX8) (T := TX8) (N := 46) hx hb hts n_8 hown hK hP 0 wMg0 rfl 15 (by decide) k_0 (fun _ h9 => h9) rfl dX8_go_85 ?_
            refine lv_iload_n hx hb dX8_go_88 rfl (lv_at hl 3 rfl) ?_
            refine lv_iload_n hx hb dX8_go_89 rfl (lv_at hl 4 rfl) ?_
            obtain ⟨y90_0, q90, h⟩ := bi1e h
            have J90 : ∀ (wy90_0 : Int32), some (wy90_0) = some (y90_0) → ∀ (H : Heap) (locs : List Loc) (ls : Array Slot), va_P D vwCl (wM ad cA F G) H → va_D A (wM ad cA F G) → va_S A s.heap H locs → lv_has ls 5 [(4, .int (x82)), (3, .int (y10_0)), (0, .ref (ad 0)), (1, .int (a1)), (2, .int (a2))] → W p l e ({ frames := 2, cells := 0, slots := 0, locals := 42 } : Room) s m args below meth c H locs 0 0 Q (F0 m 98 ls [.int (wy90_0), .int (a1), .ref (ad 1)]) := by
              intro wy90_0 e9 H locs ls hP hD hS hl
              cases e9
              obtain ⟨g98, h⟩ := og h
              obtain ⟨G98, eG98⟩ : ∃ z : tG, z = stG G 0 a1 y90_0 := ⟨_, rfl⟩
              replace h := pl h eG98
              refine va_iast (D := D) hx hb hK hP hD hS 1 0 wMg1 rfl (inB_in g98) dX8_go_98 (fun H locs hP hD hS => ?_)
              rw [wMa0 eG98] at hP hD
              refine lv_iload hx hb dX8_go_99 (lv_at hl 0 rfl) ?_
              exact hret _ _ _ _ _ _ _ dX8_go_101 h hP hD hS
            refine lv_if_eq (tgt := 97) hx hb dX8_go_90 (by decide) (fun c90 => ?_) (fun c90 => ?_)
            · replace q90 := ifp q90 c90
              refine lv_iconst (v := 0) hx hb dX8_go_97 (by decide) ?_
              exact J90 _ q90 _ _ _ hP hD hS (lv_sub hl [0, 1, 2, 3, 4] rfl)
            · replace q90 := ifn q90 c90
              refine lv_iconst (v := 1) hx hb dX8_go_93 (by decide) ?_
              refine lv_goto (tgt := 98) hx hb dX8_go_94 (by decide) ?_
              exact J90 _ q90 _ _ _ hP hD hS (lv_sub hl [0, 1, 2, 3, 4] rfl)
          · replace h := ifn h c70
            refine lv_bipush (v := (-5)) hx hb dX8_go_73 (by decide) ?_
            exact hret _ _ _ _ _ _ _ dX8_go_75 h hP hD hS
        · replace h := ifn h c47
          refine lv_aload_n hx hb dX8_go_50 rfl (lv_at hl 1 rfl) ?_
          refine va_get (D := D) (ci := 8) (fs := vX8 ad F) (v := .ref (ad 1)) (C := RX8) (T := TX8) (N := 46) hx hb hts n_8 hown hK hP 0 wMg0 rfl 15 (by decide) k_0 (fun _ h9 => h9) rfl dX8_go_51 ?_
          refine lv_iload_n hx hb dX8_go_54 rfl (lv_at hl 2 rfl) ?_
          obtain ⟨g55, h⟩ := og h
          refine va_iald (D := D) hx hb hK hP 1 0 wMg1 rfl (inB_in g55) dX8_go_55 ?_
          refine lv_iconst (v := 1) hx hb dX8_go_56 (by decide) ?_
          refine lv_icmp_ne (tgt := 76) hx hb dX8_go_57 (by decide) (fun c57 => ?_) (fun c57 => ?_)
          · replace h := ifn h c57
            refine lv_aload_n hx hb dX8_go_76 rfl (lv_at hl 1 rfl) ?_
            refine va_get (D := D) (ci := 8) (fs := vX8 ad F) (v := .ref (ad 1)) (C := RX8) (T := TX8) (N := 46) hx hb hts n_8 hown hK hP 0 wMg0 rfl 15 (by decide) k_0 (fun _ h9 => h9) rfl dX8_go_77 ?_
            refine lv_iload_n hx hb dX8_go_80 rfl (lv_at hl 2 rfl) ?_
            obtain ⟨g81, h⟩ := og h
            refine va_iald (D := D) hx hb hK hP 1 0 wMg1 rfl (inB_in g81) dX8_go_81 ?_
            refine lv_topi (fun x82 ex82 => ?_)
            replace h := pl h ex82
            refine lv_istore (lv' := [(4, .int (x82)), (3, .int (y10_0)), (0, .ref (ad 0)), (1, .int (a1)), (2, .int (a2))]) hx hb dX8_go_82 hl (by decide) rfl (fun ls hl => ?_)
            refine lv_aload_n hx hb dX8_go_84 rfl (lv_at hl 2 rfl) ?_
            refine va_get (D := D) (ci := 8) (fs := vX8 ad F) (v := .ref (ad 1)) (C := RX8) (T := TX8) (N := 46) hx hb hts n_8 hown hK hP 0 wMg0 rfl 15 (by decide) k_0 (fun _ h9 => h9) rfl dX8_go_85 ?_
            refine lv_iload_n hx hb dX8_go_88 rfl (lv_at hl 3 rfl) ?_
            refine lv_iload_n hx hb dX8_go_89 rfl (lv_at hl 4 rfl) ?_
            obtain ⟨y90_0, q90, h⟩ := bi1e h
            have J90 : ∀ (wy90_0 : Int32), some (wy90_0) = some (y90_0) → ∀ (H : Heap) (locs : List Loc) (ls : Array Slot), va_P D vwCl (wM ad cA F G) H → va_D A (wM ad cA F G) → va_S A s.heap H locs → lv_has ls 5 [(4, .int (x82)), (3, .int (y10_0)), (0, .ref (ad 0)), (1, .int (a1)), (2, .int (a2))] → W p l e ({ frames := 2, cells := 0, slots := 0, locals := 42 } : Room) s m args below meth c H locs 0 0 Q (F0 m 98 ls [.int (wy90_0), .int (a1), .ref (ad 1)]) := by
              intro wy90_0 e9 H locs ls hP hD hS hl
              cases e9
              obtain ⟨g98, h⟩ := og h
              obtain ⟨G98, eG98⟩ : ∃ z : tG, z = stG G 0 a1 y90_0 := ⟨_, rfl⟩
              replace h := pl h eG98
              refine va_iast (D := D) hx hb hK hP hD hS 1 0 wMg1 rfl (inB_in g98) dX8_go_98 (fun H locs hP hD hS => ?_)
              rw [wMa0 eG98] at hP hD
              refine lv_iload hx hb dX8_go_99 (lv_at hl 0 rfl) ?_
              exact hret _ _ _ _ _ _ _ dX8_go_101 h hP hD hS
            refine lv_if_eq (tgt := 97) hx hb dX8_go_90 (by decide) (fun c90 => ?_) (fun c90 => ?_)
            · replace q90 := ifp q90 c90
              refine lv_iconst (v := 0) hx hb dX8_go_97 (by decide) ?_
              exact J90 _ q90 _ _ _ hP hD hS (lv_sub hl [0, 1, 2, 3, 4] rfl)
            · replace q90 := ifn q90 c90
              refine lv_iconst (v := 1) hx hb dX8_go_93 (by decide) ?_
              refine lv_goto (tgt := 98) hx hb dX8_go_94 (by decide) ?_
              exact J90 _ q90 _ _ _ hP hD hS (lv_sub hl [0, 1, 2, 3, 4] rfl)
          · replace h := ifp h c57
            refine lv_goto (tgt := 73) hx hb dX8_go_60 (by decide) ?_
            refine lv_bipush (v := (-5)) hx hb dX8_go_73 (by decide) ?_
            exact hret _ _ _ _ _ _ _ dX8_go_75 h hP hD hS
      · replace h := ifn h c33
        refine lv_aload_n hx hb dX8_go_36 rfl (lv_at hl 1 rfl) ?_
        refine va_get (D := D) (ci := 8) (fs := vX8 ad F) (v := .int ((F 1))) (C := RX8) (T := TX8) (N := 46) hx hb hts n_8 hown hK hP 0 wMg0 rfl 1 (by decide) k_2 (fun _ h9 => h9) rfl dX8_go_37 ?_
        refine lv_if_le (tgt := 46) hx hb dX8_go_40 (by decide) (fun c40 => ?_) (fun c40 => ?_)
        · replace h := ifp h c40
          refine lv_iload_n hx hb dX8_go_46 rfl (lv_at hl 3 rfl) ?_
          refine lv_if_eq (tgt := 63) hx hb dX8_go_47 (by decide) (fun c47 => ?_) (fun c47 => ?_)
          · replace h := ifp h c47
            refine lv_aload_n hx hb dX8_go_63 rfl (lv_at hl 1 rfl) ?_
            refine va_get (D := D) (ci := 8) (fs := vX8 ad F) (v := .ref (ad 1)) (C := RX8) (T := TX8) (N := 46) hx hb hts n_8 hown hK hP 0 wMg0 rfl 15 (by decide) k_0 (fun _ h9 => h9) rfl dX8_go_64 ?_
            refine lv_iload_n hx hb dX8_go_67 rfl (lv_at hl 2 rfl) ?_
            obtain ⟨g68, h⟩ := og h
            refine va_iald (D := D) hx hb hK hP 1 0 wMg1 rfl (inB_in g68) dX8_go_68 ?_
            refine lv_iconst (v := 1) hx hb dX8_go_69 (by decide) ?_
            refine lv_icmp_eq (tgt := 76) hx hb dX8_go_70 (by decide) (fun c70 => ?_) (fun c70 => ?_)
            · replace h := ifp h c70
              refine lv_aload_n hx hb dX8_go_76 rfl (lv_at hl 1 rfl) ?_
              refine va_get (D := D) (ci := 8) (fs := vX8 ad F) (v := .ref (ad 1)) (C := RX8) (T := TX8) (N := 46) hx hb hts n_8 hown hK hP 0 wMg0 rfl 15 (by decide) k_0 (fun _ h9 => h9) rfl dX8_go_77 ?_
              refine lv_iload_n hx hb dX8_go_80 rfl (lv_at hl 2 rfl) ?_
              obtain ⟨g81, h⟩ := og h
              refine va_iald (D := D) hx hb hK hP 1 0 wMg1 rfl (inB_in g81) dX8_go_81 ?_
              refine lv_topi (fun x82 ex82 => ?_)
              replace h := pl h ex82
              refine lv_istore (lv' := [(4, .int (x82)), (3, .int (y10_0)), (0, .ref (ad 0)), (1, .int (a1)), (2, .int (a2))]) hx hb dX8_go_82 hl (by decide) rfl (fun ls hl => ?_)
              refine lv_aload_n hx hb dX8_go_84 rfl (lv_at hl 2 rfl) ?_
              refine va_get (D := D) (ci := 8) (fs := vX8 ad F) (v := .ref (ad 1)) (C := RX8) (T := TX8) (N := 46) hx hb hts n_8 hown hK hP 0 wMg0 rfl 15 (by decide) k_0 (fun _ h9 => h9) rfl dX8_go_85 ?_
              refine lv_iload_n hx hb dX8_go_88 rfl (lv_at hl 3 rfl) ?_
              refine lv_iload_n hx hb dX8_go_89 rfl (lv_at hl 4 rfl) ?_
              obtain ⟨y90_0, q90, h⟩ := bi1e h
              have J90 : ∀ (wy90_0 : Int32), some (wy90_0) = some (y90_0) → ∀ (H : Heap) (locs : List Loc) (ls : Array Slot), va_P D vwCl (wM ad cA F G) H → va_D A (wM ad cA F G) → va_S A s.heap H locs → lv_has ls 5 [(4, .int (x82)), (3, .int (y10_0)), (0, .ref (ad 0)), (1, .int (a1)), (2, .int (a2))] → W p l e ({ frames := 2, cells := 0, slots := 0, locals := 42 } : Room) s m args below meth c H locs 0 0 Q (F0 m 98 ls [.int (wy90_0), .int (a1), .ref (ad 1)]) := by
                intro wy90_0 e9 H locs ls hP hD hS hl
                cases e9
                obtain ⟨g98, h⟩ := og h
                obtain ⟨G98, eG98⟩ : ∃ z : tG, z = stG G 0 a1 y90_0 := ⟨_, rfl⟩
                replace h := pl h eG98
                refine va_iast (D := D) hx hb hK hP hD hS 1 0 wMg1 rfl (inB_in g98) dX8_go_98 (fun H locs hP hD hS => ?_)
                rw [wMa0 eG98] at hP hD
                refine lv_iload hx hb dX8_go_99 (lv_at hl 0 rfl) ?_
                exact hret _ _ _ _ _ _ _ dX8_go_101 h hP hD hS
              refine lv_if_eq (tgt := 97) hx hb dX8_go_90 (by decide) (fun c90 => ?_) (fun c90 => ?_)
              · replace q90 := ifp q90 c90
                refine lv_iconst (v := 0) hx hb dX8_go_97 (by decide) ?_
                exact J90 _ q90 _ _ _ hP hD hS (lv_sub hl [0, 1, 2, 3, 4] rfl)
              · replace q90 := ifn q90 c90
                refine lv_iconst (v := 1) hx hb dX8_go_93 (by decide) ?_
                refine lv_goto (tgt := 98) hx hb dX8_go_94 (by decide) ?_
                exact J90 _ q90 _ _ _ hP hD hS (lv_sub hl [0, 1, 2, 3, 4] rfl)
            · replace h := ifn h c70
              refine lv_bipush (v := (-5)) hx hb dX8_go_73 (by decide) ?_
              exact hret _ _ _ _ _ _ _ dX8_go_75 h hP hD hS
          · replace h := ifn h c47
            refine lv_aload_n hx hb dX8_go_50 rfl (lv_at hl 1 rfl) ?_
            refine va_get (D := D) (ci := 8) (fs := vX8 ad F) (v := .ref (ad 1)) (C := RX8) (T := TX8) (N := 46) hx hb hts n_8 hown hK hP 0 wMg0 rfl 15 (by decide) k_0 (fun _ h9 => h9) rfl dX8_go_51 ?_
            refine lv_iload_n hx hb dX8_go_54 rfl (lv_at hl 2 rfl) ?_
            obtain ⟨g55, h⟩ := og h
            refine va_iald (D := D) hx hb hK hP 1 0 wMg1 rfl (inB_in g55) dX8_go_55 ?_
            refine lv_iconst (v := 1) hx hb dX8_go_56 (by decide) ?_
            refine lv_icmp_ne (tgt := 76) hx hb dX8_go_57 (by decide) (fun c57 => ?_) (fun c57 => ?_)
            · replace h := ifn h c57
              refine lv_aload_n hx hb dX8_go_76 rfl (lv_at hl 1 rfl) ?_
              refine va_get (D := D) (ci := 8) (fs := vX8 ad F) (v := .ref (ad 1)) (C := RX8) (T := TX8) (N := 46) hx hb hts n_8 hown hK hP 0 wMg0 rfl 15 (by decide) k_0 (fun _ h9 => h9) rfl dX8_go_77 ?_
              refine lv_iload_n hx hb dX8_go_80 rfl (lv_at hl 2 rfl) ?_
              obtain ⟨g81, h⟩ := og h
              refine va_iald (D := D) hx hb hK hP 1 0 wMg1 rfl (inB_in g81) dX8_go_81 ?_
              refine lv_topi (fun x82 ex82 => ?_)
              replace h := pl h ex82
              refine lv_istore (lv' := [(4, .int (x82)), (3, .int (y10_0)), (0, .ref (ad 0)), (1, .int (a1)), (2, .int (a2))]) hx hb dX8_go_82 hl (by decide) rfl (fun ls hl => ?_)
              refine lv_aload_n hx hb dX8_go_84 rfl (lv_at hl 2 rfl) ?_
              refine va_get (D := D) (ci := 8) (fs := vX8 ad F) (v := .ref (ad 1)) (C := RX8) (T := TX8) (N := 46) hx hb hts n_8 hown hK hP 0 wMg0 rfl 15 (by decide) k_0 (fun _ h9 => h9) rfl dX8_go_85 ?_
              refine lv_iload_n hx hb dX8_go_88 rfl (lv_at hl 3 rfl) ?_
              refine lv_iload_n hx hb dX8_go_89 rfl (lv_at hl 4 rfl) ?_
              obtain ⟨y90_0, q90, h⟩ := bi1e h
              have J90 : ∀ (wy90_0 : Int32), some (wy90_0) = some (y90_0) → ∀ (H : Heap) (locs : List Loc) (ls : Array Slot), va_P D vwCl (wM ad cA F G) H → va_D A (wM ad cA F G) → va_S A s.heap H locs → lv_has ls 5 [(4, .int (x82)), (3, .int (y10_0)), (0, .ref (ad 0)), (1, .int (a1)), (2, .int (a2))] → W p l e ({ frames := 2, cells := 0, slots := 0, locals := 42 } : Room) s m args below meth c H locs 0 0 Q (F0 m 98 ls [.int (wy90_0), .int (a1), .ref (ad 1)]) := by
                intro wy90_0 e9 H locs ls hP hD hS hl
                cases e9
                obtain ⟨g98, h⟩ := og h
                obtain ⟨G98, eG98⟩ : ∃ z : tG, z = stG G 0 a1 y90_0 := ⟨_, rfl⟩
                replace h := pl h eG98
                refine va_iast (D := D) hx hb hK hP hD hS 1 0 wMg1 rfl (inB_in g98) dX8_go_98 (fun H locs hP hD hS => ?_)
                rw [wMa0 eG98] at hP hD
                refine lv_iload hx hb dX8_go_99 (lv_at hl 0 rfl) ?_
                exact hret _ _ _ _ _ _ _ dX8_go_101 h hP hD hS
              refine lv_if_eq (tgt := 97) hx hb dX8_go_90 (by decide) (fun c90 => ?_) (fun c90 => ?_)
              · replace q90 := ifp q90 c90
                refine lv_iconst (v := 0) hx hb dX8_go_97 (by decide) ?_
                exact J90 _ q90 _ _ _ hP hD hS (lv_sub hl [0, 1, 2, 3, 4] rfl)
              · replace q90 := ifn q90 c90
                refine lv_iconst (v := 1) hx hb dX8_go_93 (by decide) ?_
                refine lv_goto (tgt := 98) hx hb dX8_go_94 (by decide) ?_
                exact J90 _ q90 _ _ _ hP hD hS (lv_sub hl [0, 1, 2, 3, 4] rfl)
            · replace h := ifp h c57
              refine lv_goto (tgt := 73) hx hb dX8_go_60 (by decide) ?_
              refine lv_bipush (v := (-5)) hx hb dX8_go_73 (by decide) ?_
              exact hret _ _ _ _ _ _ _ dX8_go_75 h hP hD hS
        · replace h := ifn h c40
          refine lv_bipush (v := (-3)) hx hb dX8_go_43 (by decide) ?_
          exact hret _ _ _ _ _ _ _ dX8_go_45 h hP hD hS
    refine lv_if_eq (tgt := 30) hx hb dX8_go_10 (by decide) (fun c10 => ?_) (fun c10 => ?_)
    · replace q10 := ifp q10 c10
      refine lv_iconst (v := 1) hx hb dX8_go_30 (by decide) ?_
      exact J10 _ q10 _ _ _ hP hD hS (lv_sub hl [0, 1, 2] rfl)
    · replace q10 := ifn q10 c10
      refine lv_aload_n hx hb dX8_go_13 rfl (lv_at hl 0 rfl) ?_
      refine va_get (D := D) (ci := 8) (fs := vX8 ad F) (v := .ref (ad 1)) (C := RX8) (T := TX8) (N := 46) hx hb hts n_8 hown hK hP 0 wMg0 rfl 15 (by decide) k_0 (fun _ h9 => h9) rfl dX8_go_14 ?_
      refine lv_iload_n hx hb dX8_go_17 rfl (lv_at hl 1 rfl) ?_
      obtain ⟨g18, q10⟩ := og q10
      refine va_iald (D := D) hx hb hK hP 1 0 wMg1 rfl (inB_in g18) dX8_go_18 ?_
      refine lv_if_ne (tgt := 26) hx hb dX8_go_19 (by decide) (fun c19 => ?_) (fun c19 => ?_)
      · replace q10 := ifn q10 c19
        refine lv_iconst (v := 0) hx hb dX8_go_26 (by decide) ?_
        refine lv_goto (tgt := 31) hx hb dX8_go_27 (by decide) ?_
        exact J10 _ q10 _ _ _ hP hD hS (lv_sub hl [0, 1, 2] rfl)
      · replace q10 := ifp q10 c19
        refine lv_iconst (v := 1) hx hb dX8_go_22 (by decide) ?_
        refine lv_goto (tgt := 31) hx hb dX8_go_23 (by decide) ?_
        exact J10 _ q10 _ _ _ hP hD hS (lv_sub hl [0, 1, 2] rfl)
  · replace h := ifp h c4
    refine lv_iconst (v := (-1)) hx hb dX8_go_7 (by decide) ?_
    exact hret _ _ _ _ _ _ _ dX8_go_8 h hP hD hS

def p_X8_isSquare (a0 : Int32) : Option (Int32) :=
  bi1 (p_X8_in a0 0 48) (fun x4 => oguard (btB x4) (some x4))
set_option maxHeartbeats 4000000 in
set_option maxRecDepth 100000 in
theorem c_X8_isSquare (l : Launch) (D : va_G) (ad : Nat → Nat) (cA : ClassId) (n : Nat) (F : tF) (G : tG) (a0 : Int32) {r : Int32} (h : p_X8_isSquare a0 = some r) : CI l yX8_isSquare wsX8_isSquare ({ frames := 1, cells := 0, slots := 0, locals := 22 } : Room) D cA (wM ad cA F G) [.int (a0)] r (wM ad cA F G) := by
  rw [p_X8_isSquare] at h
  refine metZr (w := wM ad cA) (cc := cX8_isSquare) (maxL := 1) (by decide) rfl (Nat.le_of_ble_eq_true rfl) ?_
  intro p e s m args below meth c A ls Q hE hret
  obtain ⟨hx, hb, hts, hown, hml, hP, hK, hD, hN, hA, hl⟩ := hE
  have hown : s.vm.findClass RX8 = some m.cls := hown
  have hl : lv_has ls 1 [(0, .int (a0))] := hl
  have hS : va_S A s.heap s.heap [] := va_S.rf
  refine lv_iload_n hx hb dX8_isSquare_0 rfl (lv_at hl 0 rfl) ?_
  refine lv_iconst (v := 0) hx hb dX8_isSquare_1 (by decide) ?_
  refine lv_bipush (v := 48) hx hb dX8_isSquare_2 (by decide) ?_
  obtain ⟨x4, h4, h⟩ := bi1e h
  refine callSI (As := [.int (a0), .int (0), .int (48)]) (rest := []) ⟨hx, hb, hml, hown, hts⟩ (c_X8_in l D ad cA n F G a0 0 48 h4) (va_cwS 3 hts gX8_isSquare_X8_in rfl rfl rfl (by decide +kernel) ⟨Nat.le_of_ble_eq_true rfl, Nat.le_of_ble_eq_true rfl⟩) hP hK hD hN hS hA rfl hl.1 rfl (Nat.le_of_ble_eq_true rfl) dX8_isSquare_4 ⟨Nat.zero_le _, Nat.zero_le _⟩ (fun H locs hP hD hS => ?_)
  obtain ⟨g7, h⟩ := og h
  exact hret _ _ _ _ _ dX8_isSquare_7 g7 h hP hD hS

def p_X8_hang (n : Nat) (F : tF) (G : tG) (a1 : Int32) : Option (Int32 × tF × tG) :=
  bi1 (p_X8_isSquare a1) (fun x1 => (if x1 = 0 then some ((-1), F, G) else bi1 (p_X8_outside n G) (fun x10 => (if x10 ≤ 0 then plet (F 14) (fun (x23 : Int32) => plet (upd F 14 a1) (fun (F26 : tF) => some (x23, F26, G))) else some ((-3), F, G)))))
set_option maxHeartbeats 4000000 in
set_option maxRecDepth 100000 in
theorem c_X8_hang (l : Launch) (D : va_G) (ad : Nat → Nat) (cA : ClassId) (n : Nat) (F : tF) (G : tG) (a1 : Int32) {r : Int32} {F' : tF} {G' : tG} (h : p_X8_hang n F G a1 = some (r, F', G')) : CI l yX8_hang wsX8_hang ({ frames := 2, cells := 0, slots := 0, locals := 42 } : Room) D cA (wM ad cA F G) [.ref (ad 0), .int (a1)] r (wM ad cA F' G') := by
  rw [p_X8_hang] at h
  refine metIm (w := wM ad cA) (cc := cX8_hang) (maxL := 3) (by decide) rfl (Nat.le_of_ble_eq_true rfl) ?_
  intro p e s m args below meth c A ls Q hE hret
  obtain ⟨hx, hb, hts, hown, hml, hP, hK, hD, hN, hA, hl⟩ := hE
  have hown : s.vm.findClass RX8 = some m.cls := hown
  have hl : lv_has ls 3 [(0, .ref (ad 0)), (1, .int (a1))] := hl
  have hS : va_S A s.heap s.heap [] := va_S.rf
  have k_0 : (Cond.fieldLink RX8 28 "BellBookModel" "bell" "I").before args s = true := hts _ (List.mem_of_getElem? (i := 1) rfl)
  have n_8 : ∀ w ∈ u_ws RX8 TX8 46, w ∈ wsX8_hang := fun w hw => List.mem_cons_of_mem _ (List.mem_append_right _ hw)
  refine lv_iload_n hx hb dX8_hang_0 rfl (lv_at hl 1 rfl) ?_
  obtain ⟨x1, h1, h⟩ := bi1e h
  refine callSI (As := [.int (a1)]) (rest := []) ⟨hx, hb, hml, hown, hts⟩ (c_X8_isSquare l D ad cA n F G a1 h1) (va_cwS 1 hts gX8_hang_X8_isSquare rfl rfl rfl (by decide +kernel) ⟨Nat.le_of_ble_eq_true rfl, Nat.le_of_ble_eq_true rfl⟩) hP hK hD hN hS hA rfl hl.1 rfl (Nat.le_of_ble_eq_true rfl) dX8_hang_1 ⟨Nat.zero_le _, Nat.zero_le _⟩ (fun H locs hP hD hS => ?_)
  refine lv_if_ne (tgt := 9) hx hb dX8_hang_4 (by decide) (fun c4 => ?_) (fun c4 => ?_)
  · replace h := ifn h c4
    refine lv_aload_n hx hb dX8_hang_9 rfl (lv_at hl 0 rfl) ?_
    obtain ⟨x10, h10, h⟩ := bi1e h
    refine callVI (b := ad 0) (As := []) (rest := []) ⟨hx, hb, hml, hown, hts⟩ (c_X8_outside l D ad cA n F G h10) (cwV 0 hts gX8_hang_X8_outside rfl rfl rfl (by decide +kernel) ⟨Nat.le_of_ble_eq_true rfl, Nat.le_of_ble_eq_true rfl⟩) (va_recv hK hP (ci := 8) (q0 := 0) rfl wMg0) hP hK hD hN hS hA rfl hl.1 rfl (Nat.le_of_ble_eq_true rfl) dX8_hang_10 ⟨Nat.zero_le _, Nat.zero_le _⟩ (fun H locs hP hD hS => ?_)
    refine lv_if_le (tgt := 19) hx hb dX8_hang_13 (by decide) (fun c13 => ?_) (fun c13 => ?_)
    · replace h := ifp h c13
      refine lv_aload_n hx hb dX8_hang_19 rfl (lv_at hl 0 rfl) ?_
      refine va_get (D := D) (ci := 8) (fs := vX8 ad F) (v := .int ((F 14))) (C := RX8) (T := TX8) (N := 46) hx hb hts n_8 hown hK hP 0 wMg0 rfl 14 (by decide) k_0 (fun _ h9 => h9) rfl dX8_hang_20 ?_
      refine lv_topi (fun x23 ex23 => ?_)
      replace h := pl h ex23
      refine lv_istore_n (lv' := [(2, .int (x23)), (0, .ref (ad 0)), (1, .int (a1))]) hx hb dX8_hang_23 rfl hl (by decide) rfl (fun ls hl => ?_)
      refine lv_aload_n hx hb dX8_hang_24 rfl (lv_at hl 1 rfl) ?_
      refine lv_iload_n hx hb dX8_hang_25 rfl (lv_at hl 2 rfl) ?_
      obtain ⟨F26, eF26⟩ : ∃ f : tF, f = upd F 14 a1 := ⟨_, rfl⟩
      replace h := pl h eF26
      refine va_put (D := D) (ci := 8) (fs := vX8 ad F) (v := .int (a1)) (ty := .int) (C := RX8) (T := TX8) (N := 46) hx hb hts n_8 tyX8 tyX8_ok nmX8 hown hK hP hD hS 0 wMg0 rfl 14 (by decide) k_0 (fun _ h9 => h9) rfl (tyX8_ok 14 (by decide)) rfl rfl (Nat.le_of_ble_eq_true rfl) dX8_hang_26 (fun H locs hP hD hS => ?_)
      rw [wMp14 eF26] at hP hD
      refine lv_iload_n hx hb dX8_hang_29 rfl (lv_at hl 0 rfl) ?_
      exact hret _ _ _ _ _ _ _ dX8_hang_30 h hP hD hS
    · replace h := ifn h c13
      refine lv_bipush (v := (-3)) hx hb dX8_hang_16 (by decide) ?_
      exact hret _ _ _ _ _ _ _ dX8_hang_18 h hP hD hS
  · replace h := ifp h c4
    refine lv_iconst (v := (-1)) hx hb dX8_hang_7 (by decide) ?_
    exact hret _ _ _ _ _ _ _ dX8_hang_8 h hP hD hS

def p_X8_isHeard (a0 : Int32) : Option (Int32) :=
  bi1 (p_X8_in a0 0 7) (fun x4 => oguard (btB x4) (some x4))
set_option maxHeartbeats 4000000 in
set_option maxRecDepth 100000 in
theorem c_X8_isHeard (l : Launch) (D : va_G) (ad : Nat → Nat) (cA : ClassId) (n : Nat) (F : tF) (G : tG) (a0 : Int32) {r : Int32} (h : p_X8_isHeard a0 = some r) : CI l yX8_isHeard wsX8_isHeard ({ frames := 1, cells := 0, slots := 0, locals := 22 } : Room) D cA (wM ad cA F G) [.int (a0)] r (wM ad cA F G) := by
  rw [p_X8_isHeard] at h
  refine metZr (w := wM ad cA) (cc := cX8_isHeard) (maxL := 1) (by decide) rfl (Nat.le_of_ble_eq_true rfl) ?_
  intro p e s m args below meth c A ls Q hE hret
  obtain ⟨hx, hb, hts, hown, hml, hP, hK, hD, hN, hA, hl⟩ := hE
  have hown : s.vm.findClass RX8 = some m.cls := hown
  have hl : lv_has ls 1 [(0, .int (a0))] := hl
  have hS : va_S A s.heap s.heap [] := va_S.rf
  refine lv_iload_n hx hb dX8_isHeard_0 rfl (lv_at hl 0 rfl) ?_
  refine lv_iconst (v := 0) hx hb dX8_isHeard_1 (by decide) ?_
  refine lv_bipush (v := 7) hx hb dX8_isHeard_2 (by decide) ?_
  obtain ⟨x4, h4, h⟩ := bi1e h
  refine callSI (As := [.int (a0), .int (0), .int (7)]) (rest := []) ⟨hx, hb, hml, hown, hts⟩ (c_X8_in l D ad cA n F G a0 0 7 h4) (va_cwS 3 hts gX8_isHeard_X8_in rfl rfl rfl (by decide +kernel) ⟨Nat.le_of_ble_eq_true rfl, Nat.le_of_ble_eq_true rfl⟩) hP hK hD hN hS hA rfl hl.1 rfl (Nat.le_of_ble_eq_true rfl) dX8_isHeard_4 ⟨Nat.zero_le _, Nat.zero_le _⟩ (fun H locs hP hD hS => ?_)
  obtain ⟨g7, h⟩ := og h
  exact hret _ _ _ _ _ dX8_isHeard_7 g7 h hP hD hS

def p_X8_hear (F : tF) (G : tG) (a1 : Int32) (a2 : Int32) : Option (Int32 × tF × tG) :=
  bi1 (p_X8_isHeard a1) (fun x1 => (if x1 = 0 then some ((-2), F, G) else bi1 (p_X8_isHeard a2) (fun x8 => (if x8 = 0 then some ((-2), F, G) else (if (F 19) = 4 then some ((-4), F, G) else oguard (inB (F 19) 4) (plet (stG G 11 (F 19) a1) (fun (G37 : tG) => oguard (inB (F 19) 4) (plet (stG G37 12 (F 19) a2) (fun (G47 : tG) => plet (upd F 19 ((F 19) + 1)) (fun (F55 : tF) => some ((F55 19), F55, G47)))))))))))
set_option maxHeartbeats 4000000 in
set_option maxRecDepth 100000 in
theorem c_X8_hear (l : Launch) (D : va_G) (ad : Nat → Nat) (cA : ClassId) (n : Nat) (F : tF) (G : tG) (a1 : Int32) (a2 : Int32) {r : Int32} {F' : tF} {G' : tG} (h : p_X8_hear F G a1 a2 = some (r, F', G')) : CI l yX8_hear wsX8_hear ({ frames := 2, cells := 0, slots := 0, locals := 42 } : Room) D cA (wM ad cA F G) [.ref (ad 0), .int (a1), .int (a2)] r (wM ad cA F' G') := by
  rw [p_X8_hear] at h
  refine metIm (w := wM ad cA) (cc := cX8_hear) (maxL := 3) (by decide) rfl (Nat.le_of_ble_eq_true rfl) ?_
  intro p e s m args below meth c A ls Q hE hret
  obtain ⟨hx, hb, hts, hown, hml, hP, hK, hD, hN, hA, hl⟩ := hE
  have hown : s.vm.findClass RX8 = some m.cls := hown
  have hl : lv_has ls 3 [(0, .ref (ad 0)), (1, .int (a1)), (2, .int (a2))] := hl
  have hS : va_S A s.heap s.heap [] := va_S.rf
  have k_0 : (Cond.fieldLink RX8 218 "BellBookModel" "hearings" "I").before args s = true := hts _ (List.mem_of_getElem? (i := 1) rfl)
  have n_8 : ∀ w ∈ u_ws RX8 TX8 46, w ∈ wsX8_hear := fun w hw => List.mem_cons_of_mem _ (List.mem_append_right _ hw)
  have k_2 : (Cond.fieldLink RX8 65 "BellBookModel" "heardA" "[I").before args s = true := hts _ (List.mem_of_getElem? (i := 2) rfl)
  have k_3 : (Cond.fieldLink RX8 68 "BellBookModel" "heardB" "[I").before args s = true := hts _ (List.mem_of_getElem? (i := 3) rfl)
  refine lv_iload_n hx hb dX8_hear_0 rfl (lv_at hl 1 rfl) ?_
  obtain ⟨x1, h1, h⟩ := bi1e h
  refine callSI (As := [.int (a1)]) (rest := []) ⟨hx, hb, hml, hown, hts⟩ (c_X8_isHeard l D ad cA n F G a1 h1) (va_cwS 1 hts gX8_hear_X8_isHeard rfl rfl rfl (by decide +kernel) ⟨Nat.le_of_ble_eq_true rfl, Nat.le_of_ble_eq_true rfl⟩) hP hK hD hN hS hA rfl hl.1 rfl (Nat.le_of_ble_eq_true rfl) dX8_hear_1 ⟨Nat.zero_le _, Nat.zero_le _⟩ (fun H locs hP hD hS => ?_)
  refine lv_if_eq (tgt := 14) hx hb dX8_hear_4 (by decide) (fun c4 => ?_) (fun c4 => ?_)
  · replace h := ifp h c4
    refine lv_bipush (v := (-2)) hx hb dX8_hear_14 (by decide) ?_
    exact hret _ _ _ _ _ _ _ dX8_hear_16 h hP hD hS
  · replace h := ifn h c4
    refine lv_iload_n hx hb dX8_hear_7 rfl (lv_at hl 2 rfl) ?_
    obtain ⟨x8, h8, h⟩ := bi1e h
    refine callSI (As := [.int (a2)]) (rest := []) ⟨hx, hb, hml, hown, hts⟩ (c_X8_isHeard l D ad cA n F G a2 h8) (va_cwS 1 hts gX8_hear_X8_isHeard rfl rfl rfl (by decide +kernel) ⟨Nat.le_of_ble_eq_true rfl, Nat.le_of_ble_eq_true rfl⟩) hP hK hD hN hS hA rfl hl.1 rfl (Nat.le_of_ble_eq_true rfl) dX8_hear_8 ⟨Nat.zero_le _, Nat.zero_le _⟩ (fun H locs hP hD hS => ?_)
    refine lv_if_ne (tgt := 17) hx hb dX8_hear_11 (by decide) (fun c11 => ?_) (fun c11 => ?_)
    · replace h := ifn h c11
      refine lv_aload_n hx hb dX8_hear_17 rfl (lv_at hl 0 rfl) ?_
      refine va_get (D := D) (ci := 8) (fs := vX8 ad F) (v := .int ((F 19))) (C := RX8) (T := TX8) (N := 46) hx hb hts n_8 hown hK hP 0 wMg0 rfl 30 (by decide) k_0 (fun _ h9 => h9) rfl dX8_hear_18 ?_
      refine lv_iconst (v := 4) hx hb dX8_hear_21 (by decide) ?_
      refine lv_icmp_ne (tgt := 28) hx hb dX8_hear_22 (by decide) (fun c22 => ?_) (fun c22 => ?_)
      · replace h := ifn h c22
        refine lv_aload_n hx hb dX8_hear_28 rfl (lv_at hl 0 rfl) ?_
        refine va_get (D := D) (ci := 8) (fs := vX8 ad F) (v := .ref (ad 12)) (C := RX8) (T := TX8) (N := 46) hx hb hts n_8 hown hK hP 0 wMg0 rfl 31 (by decide) k_2 (fun _ h9 => h9) rfl dX8_hear_29 ?_
        refine lv_aload_n hx hb dX8_hear_32 rfl (lv_at hl 0 rfl) ?_
        refine va_get (D := D) (ci := 8) (fs := vX8 ad F) (v := .int ((F 19))) (C := RX8) (T := TX8) (N := 46) hx hb hts n_8 hown hK hP 0 wMg0 rfl 30 (by decide) k_0 (fun _ h9 => h9) rfl dX8_hear_33 ?_
        refine lv_iload_n hx hb dX8_hear_36 rfl (lv_at hl 1 rfl) ?_
        obtain ⟨g37, h⟩ := og h
        obtain ⟨G37, eG37⟩ : ∃ z : tG, z = stG G 11 (F 19) a1 := ⟨_, rfl⟩
        replace h := pl h eG37
        refine va_iast (D := D) hx hb hK hP hD hS 12 0 wMg12 rfl (inB_in g37) dX8_hear_37 (fun H locs hP hD hS => ?_)
        rw [wMa11 eG37] at hP hD
        refine lv_aload_n hx hb dX8_hear_38 rfl (lv_at hl 0 rfl) ?_
        refine va_get (D := D) (ci := 8) (fs := vX8 ad F) (v := .ref (ad 13)) (C := RX8) (T := TX8) (N := 46) hx hb hts n_8 hown hK hP 0 wMg0 rfl 32 (by decide) k_3 (fun _ h9 => h9) rfl dX8_hear_39 ?_
        refine lv_aload_n hx hb dX8_hear_42 rfl (lv_at hl 0 rfl) ?_
        refine va_get (D := D) (ci := 8) (fs := vX8 ad F) (v := .int ((F 19))) (C := RX8) (T := TX8) (N := 46) hx hb hts n_8 hown hK hP 0 wMg0 rfl 30 (by decide) k_0 (fun _ h9 => h9) rfl dX8_hear_43 ?_
        refine lv_iload_n hx hb dX8_hear_46 rfl (lv_at hl 2 rfl) ?_
        obtain ⟨g47, h⟩ := og h
        obtain ⟨G47, eG47⟩ : ∃ z : tG, z = stG G37 12 (F 19) a2 := ⟨_, rfl⟩
        replace h := pl h eG47
        refine va_iast (D := D) hx hb hK hP hD hS 13 0 wMg13 rfl (inB_in g47) dX8_hear_47 (fun H locs hP hD hS => ?_)
        rw [wMa12 eG47] at hP hD
        refine lv_aload_n hx hb dX8_hear_48 rfl (lv_at hl 0 rfl) ?_
        refine lv_dup hx hb dX8_hear_49 rfl ?_
        refine va_get (D := D) (ci := 8) (fs := vX8 ad F) (v := .int ((F 19))) (C := RX8) (T := TX8) (N := 46) hx hb hts n_8 hown hK hP 0 wMg0 rfl 30 (by decide) k_0 (fun _ h9 => h9) rfl dX8_hear_50 ?_
        refine lv_iconst (v := 1) hx hb dX8_hear_53 (by decide) ?_
        refine lv_iadd hx hb dX8_hear_54 ?_
        obtain ⟨F55, eF55⟩ : ∃ f : tF, f = upd F 19 ((F 19) + 1) := ⟨_, rfl⟩
        replace h := pl h eF55
        refine va_put (D := D) (ci := 8) (fs := vX8 ad F) (v := .int (((F 19) + 1))) (ty := .int) (C := RX8) (T := TX8) (N := 46) hx hb hts n_8 tyX8 tyX8_ok nmX8 hown hK hP hD hS 0 wMg0 rfl 30 (by decide) k_0 (fun _ h9 => h9) rfl (tyX8_ok 30 (by decide)) rfl rfl (Nat.le_of_ble_eq_true rfl) dX8_hear_55 (fun H locs hP hD hS => ?_)
        rw [wMp19 eF55] at hP hD
        refine lv_aload_n hx hb dX8_hear_58 rfl (lv_at hl 0 rfl) ?_
        refine va_get (D := D) (ci := 8) (fs := vX8 ad F55) (v := .int ((F55 19))) (C := RX8) (T := TX8) (N := 46) hx hb hts n_8 hown hK hP 0 wMg0 rfl 30 (by decide) k_0 (fun _ h9 => h9) rfl dX8_hear_59 ?_
        exact hret _ _ _ _ _ _ _ dX8_hear_62 h hP hD hS
      · replace h := ifp h c22
        refine lv_bipush (v := (-4)) hx hb dX8_hear_25 (by decide) ?_
        exact hret _ _ _ _ _ _ _ dX8_hear_27 h hP hD hS
    · replace h := ifp h c11
      refine lv_bipush (v := (-2)) hx hb dX8_hear_14 (by decide) ?_
      exact hret _ _ _ _ _ _ _ dX8_hear_16 h hP hD hS
