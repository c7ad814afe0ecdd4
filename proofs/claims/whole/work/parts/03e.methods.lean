def p_X7_go (F : tF) (G : tG) (a1 : Int32) (a2 : Int32) : Option (Int32 × tF × tG) :=
  bi1 (p_X7_isMan a1) (fun x1 => (if x1 = 0 then some ((-1), F, G) else oguard (inB a1 6) (plet (G 0 a1.toNatClampNeg) (fun (x18 : Int32) => (if (F 2) = 0 then bi1 ((if a2 = 0 then some (0) else some (1))) (fun (y42_0 : Int32) => bi1 ((if x18 = y42_0 then some (1) else some (0))) (fun (y50_0 : Int32) => (if y50_0 = 0 then (if x18 = 2 then (if a2 = 0 then some ((-5), F, G) else bi1 ((if a2 = 0 then some (0) else some (1))) (fun (y83_0 : Int32) => bi2 (p_X2_bring F G a1 y83_0) (fun F91 G91 => some (x18, F91, G91)))) else bi1 ((if a2 = 0 then some (0) else some (1))) (fun (y83_0 : Int32) => bi2 (p_X2_bring F G a1 y83_0) (fun F91 G91 => some (x18, F91, G91)))) else some ((-5), F, G)))) else (if x18 = 0 then some ((-3), F, G) else (if a2 = 0 then some ((-3), F, G) else bi1 ((if a2 = 0 then some (0) else some (1))) (fun (y42_0 : Int32) => bi1 ((if x18 = y42_0 then some (1) else some (0))) (fun (y50_0 : Int32) => (if y50_0 = 0 then (if x18 = 2 then (if a2 = 0 then some ((-5), F, G) else bi1 ((if a2 = 0 then some (0) else some (1))) (fun (y83_0 : Int32) => bi2 (p_X2_bring F G a1 y83_0) (fun F91 G91 => some (x18, F91, G91)))) else bi1 ((if a2 = 0 then some (0) else some (1))) (fun (y83_0 : Int32) => bi2 (p_X2_bring F G a1 y83_0) (fun F91 G91 => some (x18, F91, G91)))) else some ((-5), F, G)))))))))))
set_option maxHeartbeats 4000000 in
set_option maxRecDepth 100000 in
theorem c_X7_go (l : Launch) (D : va_G) (ad : Nat → Nat) (cA : ClassId) (n : Nat) (F : tF) (G : tG) (a1 : Int32) (a2 : Int32) {r : Int32} {F' : tF} {G' : tG} (h : p_X7_go F G a1 a2 = some (r, F', G')) : CI l yX7_go wsX7_go ({ frames := 2, cells := 0, slots := 0, locals := 42 } : Room) D cA (wC ad cA F G) [.ref (ad 0), .int (a1), .int (a2)] r (wC ad cA F' G') := by
  rw [p_X7_go] at h
  refine metIm (w := wC ad cA) (cc := cX7_go) (maxL := 5) (by decide) rfl (Nat.le_of_ble_eq_true rfl) ?_
  intro p e s m args below meth c A ls Q hE hret
  obtain ⟨hx, hb, hts, hown, hml, hP, hK, hD, hN, hA, hl⟩ := hE
  have hown : s.vm.findClass RX7 = some m.cls := hown
  have hl : lv_has ls 5 [(0, .ref (ad 0)), (1, .int (a1)), (2, .int (a2))] := hl
  have hS : va_S A s.heap s.heap [] := va_S.rf
  have k_0 : (Cond.fieldLink RX7 19 "BellBook" "crew" "LBellBook$Crew;").before args s = true := hts _ (List.mem_of_getElem? (i := 1) rfl)
  have n_7 : ∀ w ∈ u_ws RX7 TX7 6, w ∈ wsX7_go := fun w hw => List.mem_cons_of_mem _ (List.mem_append_left _ (List.mem_append_left _ (List.mem_append_right _ hw)))
  have k_2 : (Cond.fieldLink RX7 136 "BellBook$Crew" "where" "[I").before args s = true := hts _ (List.mem_of_getElem? (i := 2) rfl)
  have n_2 : ∀ w ∈ u_ws RX2 TX2 8, w ∈ wsX7_go := fun w hw => List.mem_cons_of_mem _ (List.mem_append_left _ (List.mem_append_right _ hw))
  have k_4 : (Cond.fieldLink RX7 12 "BellBook" "bell" "LBellBook$Bell;").before args s = true := hts _ (List.mem_of_getElem? (i := 3) rfl)
  have k_5 : (Cond.fieldLink RX7 56 "BellBook$Bell" "depth" "I").before args s = true := hts _ (List.mem_of_getElem? (i := 4) rfl)
  have n_0 : ∀ w ∈ u_ws RX0 TX0 12, w ∈ wsX7_go := fun w hw => List.mem_cons_of_mem _ (List.mem_append_right _ hw)
  refine lv_iload_n hx hb dX7_go_0 rfl (lv_at hl 1 rfl) ?_
  obtain ⟨x1, h1, h⟩ := bi1e h
  refine callSI (As := [.int (a1)]) (rest := []) ⟨hx, hb, hml, hown, hts⟩ (c_X7_isMan l D ad cA n F G a1 h1) (va_cwS 1 hts gX7_go_X7_isMan rfl rfl rfl (by decide +kernel) ⟨Nat.le_of_ble_eq_true rfl, Nat.le_of_ble_eq_true rfl⟩) hP hK hD hN hS hA rfl hl.1 rfl (Nat.le_of_ble_eq_true rfl) dX7_go_1 ⟨Nat.zero_le _, Nat.zero_le _⟩ (fun H locs hP hD hS => ?_)
  refine lv_if_ne (tgt := 9) hx hb dX7_go_4 (by decide) (fun c4 => ?_) (fun c4 => ?_)
  · replace h := ifn h c4
    refine lv_aload_n hx hb dX7_go_9 rfl (lv_at hl 0 rfl) ?_
    refine va_get (D := D) (ci := 7) (fs := vX7 ad F) (v := .ref (ad 2)) (C := RX7) (T := TX7) (N := 6) hx hb hts n_7 hown hK hP 0 wCg0 rfl 1 (by decide) k_0 (fun _ h9 => h9) rfl dX7_go_10 ?_
    refine va_get (D := D) (ci := 2) (fs := vX2 ad F) (v := .ref (ad 3)) (C := RX2) (T := TX2) (N := 8) hx hb hts n_2 hown hK hP 2 wCg2 rfl 0 (by decide) k_2 (fun _ h9 => h9) rfl dX7_go_13 ?_
    refine lv_iload_n hx hb dX7_go_16 rfl (lv_at hl 1 rfl) ?_
    obtain ⟨g17, h⟩ := og h
    refine va_iald (D := D) hx hb hK hP 3 0 wCg3 rfl (inB_in g17) dX7_go_17 ?_
    refine lv_topi (fun x18 ex18 => ?_)
    replace h := pl h ex18
    refine lv_istore_n (lv' := [(3, .int (x18)), (0, .ref (ad 0)), (1, .int (a1)), (2, .int (a2))]) hx hb dX7_go_18 rfl hl (by decide) rfl (fun ls hl => ?_)
    refine lv_aload_n hx hb dX7_go_19 rfl (lv_at hl 1 rfl) ?_
    refine va_get (D := D) (ci := 7) (fs := vX7 ad F) (v := .ref (ad 1)) (C := RX7) (T := TX7) (N := 6) hx hb hts n_7 hown hK hP 0 wCg0 rfl 0 (by decide) k_4 (fun _ h9 => h9) rfl dX7_go_20 ?_
    refine va_get (D := D) (ci := 0) (fs := vX0 ad F) (v := .int ((F 2))) (C := RX0) (T := TX0) (N := 12) hx hb hts n_0 hown hK hP 1 wCg1 rfl 1 (by decide) k_5 (fun _ h9 => h9) rfl dX7_go_23 ?_
    refine lv_if_eq (tgt := 40) hx hb dX7_go_26 (by decide) (fun c26 => ?_) (fun c26 => ?_)
    · replace h := ifp h c26
      refine lv_iload_n hx hb dX7_go_40 rfl (lv_at hl 0 rfl) ?_
      refine lv_iload_n hx hb dX7_go_41 rfl (lv_at hl 3 rfl) ?_
      obtain ⟨y42_0, q42, h⟩ := bi1e h
      have J42 : ∀ (wy42_0 : Int32), some (wy42_0) = some (y42_0) → ∀ (H : Heap) (locs : List Loc) (ls : Array Slot), va_P D vwCl (wC ad cA F G) H → va_D A (wC ad cA F G) → va_S A s.heap H locs → lv_has ls 5 [(3, .int (x18)), (0, .ref (ad 0)), (1, .int (a1)), (2, .int (a2))] → W p l e ({ frames := 2, cells := 0, slots := 0, locals := 42 } : Room) s m args below meth c H locs 0 0 Q (F0 m 50 ls [.int (wy42_0), .int (x18)]) := by
        intro wy42_0 e9 H locs ls hP hD hS hl
        cases e9
        obtain ⟨y50_0, q50, h⟩ := bi1e h
        have J50 : ∀ (wy50_0 : Int32), some (wy50_0) = some (y50_0) → ∀ (H : Heap) (locs : List Loc) (ls : Array Slot), va_P D vwCl (wC ad cA F G) H → va_D A (wC ad cA F G) → va_S A s.heap H locs → lv_has ls 5 [(3, .int (x18)), (0, .ref (ad 0)), (1, .int (a1)), (2, .int (a2))] → W p l e ({ frames := 2, cells := 0, slots := 0, locals := 42 } : Room) s m args below meth c H locs 0 0 Q (F0 m 58 ls [.int (wy50_0)]) := by
          intro wy50_0 e9 H locs ls hP hD hS hl
          cases e9
          refine lv_istore (lv' := [(4, .int (y50_0)), (3, .int (x18)), (0, .ref (ad 0)), (1, .int (a1)), (2, .int (a2))]) hx hb dX7_go_58 hl (by decide) rfl (fun ls hl => ?_)
          refine lv_iload hx hb dX7_go_60 (lv_at hl 0 rfl) ?_
          refine lv_if_ne (tgt := 74) hx hb dX7_go_62 (by decide) (fun c62 => ?_) (fun c62 => ?_)
          · replace h := ifn h c62
            refine lv_bipush (v := (-5)) hx hb dX7_go_74 (by decide) ?_
            exact hret _ _ _ _ _ _ _ dX7_go_76 h hP hD hS
          · replace h := ifp h c62
            refine lv_iload_n hx hb dX7_go_65 rfl (lv_at hl 1 rfl) ?_
            refine lv_iconst (v := 2) hx hb dX7_go_66 (by decide) ?_
            refine lv_icmp_ne (tgt := 77) hx hb dX7_go_67 (by decide) (fun c67 => ?_) (fun c67 => ?_)
            · replace h := ifn h c67
              refine lv_aload_n hx hb dX7_go_77 rfl (lv_at hl 2 rfl) ?_
              refine va_get (D := D) (ci := 7) (fs := vX7 ad F) (v := .ref (ad 2)) (C := RX7) (T := TX7) (N := 6) hx hb hts n_7 hown hK hP 0 wCg0 rfl 1 (by decide) k_0 (fun _ h9 => h9) rfl dX7_go_78 ?_
              refine lv_iload_n hx hb dX7_go_81 rfl (lv_at hl 3 rfl) ?_
              refine lv_iload_n hx hb dX7_go_82 rfl (lv_at hl 4 rfl) ?_
              obtain ⟨y83_0, q83, h⟩ := bi1e h
              have J83 : ∀ (wy83_0 : Int32), some (wy83_0) = some (y83_0) → ∀ (H : Heap) (locs : List Loc) (ls : Array Slot), va_P D vwCl (wC ad cA F G) H → va_D A (wC ad cA F G) → va_S A s.heap H locs → lv_has ls 5 [(4, .int (y50_0)), (3, .int (x18)), (0, .ref (ad 0)), (1, .int (a1)), (2, .int (a2))] → W p l e ({ frames := 2, cells := 0, slots := 0, locals := 42 } : Room) s m args below meth c H locs 0 0 Q (F0 m 91 ls [.int (wy83_0), .int (a1), .ref (ad 2)]) := by
                intro wy83_0 e9 H locs ls hP hD hS hl
                cases e9
                obtain ⟨F91, G91, h91, h⟩ := bi2e h
                refine callVV (b := ad 2) (As := [.int (a1), .int (y83_0)]) (rest := []) ⟨hx, hb, hml, hown, hts⟩ (c_X2_bring l D ad cA n F G a1 y83_0 h91) (cwV 2 hts gX7_go_X2_bring rfl rfl rfl (by decide +kernel) ⟨Nat.le_of_ble_eq_true rfl, Nat.le_of_ble_eq_true rfl⟩) (va_recv hK hP (ci := 2) (q0 := 2) rfl wCg2) hP hK hD hN hS hA rfl hl.1 rfl (Nat.le_of_ble_eq_true rfl) dX7_go_91 ⟨Nat.zero_le _, Nat.zero_le _⟩ (fun H locs hP hD hS => ?_)
                refine lv_iload_n hx hb dX7_go_94 rfl (lv_at hl 1 rfl) ?_
                exact hret _ _ _ _ _ _ _ dX7_go_95 h hP hD hS
              refine lv_if_eq (tgt := 90) hx hb dX7_go_83 (by decide) (fun c83 => ?_) (fun c83 => ?_)
              · replace q83 := ifp q83 c83
                refine lv_iconst (v := 0) hx hb dX7_go_90 (by decide) ?_
                exact J83 _ q83 _ _ _ hP hD hS (lv_sub hl [0, 1, 2, 3, 4] rfl)
              · replace q83 := ifn q83 c83
                refine lv_iconst (v := 1) hx hb dX7_go_86 (by decide) ?_
                refine lv_goto (tgt := 91) hx hb dX7_go_87 (by decide) ?_
                exact J83 _ q83 _ _ _ hP hD hS (lv_sub hl [0, 1, 2, 3, 4] rfl)
            · replace h := ifp h c67
              refine lv_iload_n hx hb dX7_go_70 rfl (lv_at hl 4 rfl) ?_
              refine lv_if_ne (tgt := 77) hx hb dX7_go_71 (by decide) (fun c71 => ?_) (fun c71 => ?_)
              · replace h := ifn h c71
                refine lv_aload_n hx hb dX7_go_77 rfl (lv_at hl 2 rfl) ?_
                refine va_get (D := D) (ci := 7) (fs := vX7 ad F) (v := .ref (ad 2)) (C := RX7) (T := TX7) (N := 6) hx hb hts n_7 hown hK hP 0 wCg0 rfl 1 (by decide) k_0 (fun _ h9 => h9) rfl dX7_go_78 ?_
                refine lv_iload_n hx hb dX7_go_81 rfl (lv_at hl 3 rfl) ?_
                refine lv_iload_n hx hb dX7_go_82 rfl (lv_at hl 4 rfl) ?_
                obtain ⟨y83_0, q83, h⟩ := bi1e h
                have J83 : ∀ (wy83_0 : Int32), some (wy83_0) = some (y83_0) → ∀ (H : Heap) (locs : List Loc) (ls : Array Slot), va_P D vwCl (wC ad cA F G) H → va_D A (wC ad cA F G) → va_S A s.heap H locs → lv_has ls 5 [(4, .int (y50_0)), (3, .int (x18)), (0, .ref (ad 0)), (1, .int (a1)), (2, .int (a2))] → W p l e ({ frames := 2, cells := 0, slots := 0, locals := 42 } : Room) s m args below meth c H locs 0 0 Q (F0 m 91 ls [.int (wy83_0), .int (a1), .ref (ad 2)]) := by
                  intro wy83_0 e9 H locs ls hP hD hS hl
                  cases e9
                  obtain ⟨F91, G91, h91, h⟩ := bi2e h
                  refine callVV (b := ad 2) (As := [.int (a1), .int (y83_0)]) (rest := []) ⟨hx, hb, hml, hown, hts⟩ (c_X2_bring l D ad cA n F G a1 y83_0 h91) (cwV 2 hts gX7_go_X2_bring rfl rfl rfl (by decide +kernel) ⟨Nat.le_of_ble_eq_true rfl, Nat.le_of_ble_eq_true rfl⟩) (va_recv hK hP (ci := 2) (q0 := 2) rfl wCg2) hP hK hD hN hS hA rfl hl.1 rfl (Nat.le_of_ble_eq_true rfl) dX7_go_91 ⟨Nat.zero_le _, Nat.zero_le _⟩ (fun H locs hP hD hS => ?_)
                  refine lv_iload_n hx hb dX7_go_94 rfl (lv_at hl 1 rfl) ?_
                  exact hret _ _ _ _ _ _ _ dX7_go_95 h hP hD hS
                refine lv_if_eq (tgt := 90) hx hb dX7_go_83 (by decide) (fun c83 => ?_) (fun c83 => ?_)
                · replace q83 := ifp q83 c83
                  refine lv_iconst (v := 0) hx hb dX7_go_90 (by decide) ?_
                  exact J83 _ q83 _ _ _ hP hD hS (lv_sub hl [0, 1, 2, 3, 4] rfl)
                · replace q83 := ifn q83 c83
                  refine lv_iconst (v := 1) hx hb dX7_go_86 (by decide) ?_
                  refine lv_goto (tgt := 91) hx hb dX7_go_87 (by decide) ?_
                  exact J83 _ q83 _ _ _ hP hD hS (lv_sub hl [0, 1, 2, 3, 4] rfl)
              · replace h := ifp h c71
                refine lv_bipush (v := (-5)) hx hb dX7_go_74 (by decide) ?_
                exact hret _ _ _ _ _ _ _ dX7_go_76 h hP hD hS
        refine lv_icmp_ne (tgt := 57) hx hb dX7_go_50 (by decide) (fun c50 => ?_) (fun c50 => ?_)
        · replace q50 := ifn q50 c50
          refine lv_iconst (v := 0) hx hb dX7_go_57 (by decide) ?_
          exact J50 _ q50 _ _ _ hP hD hS (lv_sub hl [0, 1, 2, 3] rfl)
        · replace q50 := ifp q50 c50
          refine lv_iconst (v := 1) hx hb dX7_go_53 (by decide) ?_
          refine lv_goto (tgt := 58) hx hb dX7_go_54 (by decide) ?_
          exact J50 _ q50 _ _ _ hP hD hS (lv_sub hl [0, 1, 2, 3] rfl)
      refine lv_if_eq (tgt := 49) hx hb dX7_go_42 (by decide) (fun c42 => ?_) (fun c42 => ?_)
      · replace q42 := ifp q42 c42
        refine lv_iconst (v := 0) hx hb dX7_go_49 (by decide) ?_
        exact J42 _ q42 _ _ _ hP hD hS (lv_sub hl [0, 1, 2, 3] rfl)
      · replace q42 := ifn q42 c42
        refine lv_iconst (v := 1) hx hb dX7_go_45 (by decide) ?_
        refine lv_goto (tgt := 50) hx hb dX7_go_46 (by decide) ?_
        exact J42 _ q42 _ _ _ hP hD hS (lv_sub hl [0, 1, 2, 3] rfl)
    · replace h := ifn h c26
      refine lv_iload_n hx hb dX7_go_29 rfl (lv_at hl 0 rfl) ?_
      refine lv_if_eq (tgt := 37) hx hb dX7_go_30 (by decide) (fun c30 => ?_) (fun c30 => ?_)
      · replace h := ifp h c30
        refine lv_bipush (v := (-3)) hx hb dX7_go_37 (by decide) ?_
        exact hret _ _ _ _ _ _ _ dX7_go_39 h hP hD hS
      · replace h := ifn h c30
        refine lv_iload_n hx hb dX7_go_33 rfl (lv_at hl 3 rfl) ?_
        refine lv_if_ne (tgt := 40) hx hb dX7_go_34 (by decide) (fun c34 => ?_) (fun c34 => ?_)
        · replace h := ifn h c34
          refine lv_iload_n hx hb dX7_go_40 rfl (lv_at hl 0 rfl) ?_
          refine lv_iload_n hx hb dX7_go_41 rfl (lv_at hl 3 rfl) ?_
          obtain ⟨y42_0, q42, h⟩ := bi1e h
          have J42 : ∀ (wy42_0 : Int32), some (wy42_0) = some (y42_0) → ∀ (H : Heap) (locs : List Loc) (ls : Array Slot), va_P D vwCl (wC ad cA F G) H → va_D A (wC ad cA F G) → va_S A s.heap H locs → lv_has ls 5 [(3, .int (x18)), (0, .ref (ad 0)), (1, .int (a1)), (2, .int (a2))] → W p l e ({ frames := 2, cells := 0, slots := 0, locals := 42 } : Room) s m args below meth c H locs 0 0 Q (F0 m 50 ls [.int (wy42_0), .int (x18)]) := by
            intro wy42_0 e9 H locs ls hP hD hS hl
            cases e9
            obtain ⟨y50_0, q50, h⟩ := bi1e h
            have J50 : ∀ (wy50_0 : Int32), some (wy50_0) = some (y50_0) → ∀ (H : Heap) (locs : List Loc) (ls : Array Slot), va_P D vwCl (wC ad cA F G) H → va_D A (wC ad cA F G) → va_S A s.heap H locs → lv_has ls 5 [(3, .int (x18)), (0, .ref (ad 0)), (1, .int (a1)), (2, .int (a2))] → W p l e ({ frames := 2, cells := 0, slots := 0, locals := 42 } : Room) s m args below meth c H locs 0 0 Q (F0 m 58 ls [.int (wy50_0)]) := by
              intro wy50_0 e9 H locs ls hP hD hS hl
              cases e9
              refine lv_istore (lv' := [(4, .int (y50_0)), (3, .int (x18)), (0, .ref (ad 0)), (1, .int (a1)), (2, .int (a2))]) hx hb dX7_go_58 hl (by decide) rfl (fun ls hl => ?_)
              refine lv_iload hx hb dX7_go_60 (lv_at hl 0 rfl) ?_
              refine lv_if_ne (tgt := 74) hx hb dX7_go_62 (by decide) (fun c62 => ?_) (fun c62 => ?_)
              · replace h := ifn h c62
                refine lv_bipush (v := (-5)) hx hb dX7_go_74 (by decide) ?_
                exact hret _ _ _ _ _ _ _ dX7_go_76 h hP hD hS
              · replace h := ifp h c62
                refine lv_iload_n hx hb dX7_go_65 rfl (lv_at hl 1 rfl) ?_
                refine lv_iconst (v := 2) hx hb dX7_go_66 (by decide) ?_
                refine lv_icmp_ne (tgt := 77) hx hb dX7_go_67 (by decide) (fun c67 => ?_) (fun c67 => ?_)
                · replace h := ifn h c67
                  refine lv_aload_n hx hb dX7_go_77 rfl (lv_at hl 2 rfl) ?_
                  refine va_get (D := D) (ci := 7) (fs := vX7 ad F) (v := .ref (ad 2)) (C := RX7) (T := TX7) (N := 6) hx hb hts n_7 hown hK hP 0 wCg0 rfl 1 (by decide) k_0 (fun _ h9 => h9) rfl dX7_go_78 ?_
                  refine lv_iload_n hx hb dX7_go_81 rfl (lv_at hl 3 rfl) ?_
                  refine lv_iload_n hx hb dX7_go_82 rfl (lv_at hl 4 rfl) ?_
                  obtain ⟨y83_0, q83, h⟩ := bi1e h
                  have J83 : ∀ (wy83_0 : Int32), some (wy83_0) = some (y83_0) → ∀ (H : Heap) (locs : List Loc) (ls : Array Slot), va_P D vwCl (wC ad cA F G) H → va_D A (wC ad cA F G) → va_S A s.heap H locs → lv_has ls 5 [(4, .int (y50_0)), (3, .int (x18)), (0, .ref (ad 0)), (1, .int (a1)), (2, .int (a2))] → W p l e ({ frames := 2, cells := 0, slots := 0, locals := 42 } : Room) s m args below meth c H locs 0 0 Q (F0 m 91 ls [.int (wy83_0), .int (a1), .ref (ad 2)]) := by
                    intro wy83_0 e9 H locs ls hP hD hS hl
                    cases e9
                    obtain ⟨F91, G91, h91, h⟩ := bi2e h
                    refine callVV (b := ad 2) (As := [.int (a1), .int (y83_0)]) (rest := []) ⟨hx, hb, hml, hown, hts⟩ (c_X2_bring l D ad cA n F G a1 y83_0 h91) (cwV 2 hts gX7_go_X2_bring rfl rfl rfl (by decide +kernel) ⟨Nat.le_of_ble_eq_true rfl, Nat.le_of_ble_eq_true rfl⟩) (va_recv hK hP (ci := 2) (q0 := 2) rfl wCg2) hP hK hD hN hS hA rfl hl.1 rfl (Nat.le_of_ble_eq_true rfl) dX7_go_91 ⟨Nat.zero_le _, Nat.zero_le _⟩ (fun H locs hP hD hS => ?_)
                    refine lv_iload_n hx hb dX7_go_94 rfl (lv_at hl 1 rfl) ?_
                    exact hret _ _ _ _ _ _ _ dX7_go_95 h hP hD hS
                  refine lv_if_eq (tgt := 90) hx hb dX7_go_83 (by decide) (fun c83 => ?_) (fun c83 => ?_)
                  · replace q83 := ifp q83 c83
                    refine lv_iconst (v := 0) hx hb dX7_go_90 (by decide) ?_
                    exact J83 _ q83 _ _ _ hP hD hS (lv_sub hl [0, 1, 2, 3, 4] rfl)
                  · replace q83 := ifn q83 c83
                    refine lv_iconst (v := 1) hx hb dX7_go_86 (by decide) ?_
                    refine lv_goto (tgt := 91) hx hb dX7_go_87 (by decide) ?_
                    exact J83 _ q83 _ _ _ hP hD hS (lv_sub hl [0, 1, 2, 3, 4] rfl)
                · replace h := ifp h c67
                  refine lv_iload_n hx hb dX7_go_70 rfl (lv_at hl 4 rfl) ?_
                  refine lv_if_ne (tgt := 77) hx hb dX7_go_71 (by decide) (fun c71 => ?_) (fun c71 => ?_)
                  · replace h := ifn h c71
                    refine lv_aload_n hx hb dX7_go_77 rfl (lv_at hl 2 rfl) ?_
                    refine va_get (D := D) (ci := 7) (fs := vX7 ad F) (v := .ref (ad 2)) (C := RX7) (T := TX7) (N := 6) hx hb hts n_7 hown hK hP 0 wCg0 rfl 1 (by decide) k_0 (fun _ h9 => h9) rfl dX7_go_78 ?_
                    refine lv_iload_n hx hb dX7_go_81 rfl (lv_at hl 3 rfl) ?_
                    refine lv_iload_n hx hb dX7_go_82 rfl (lv_at hl 4 rfl) ?_
                    obtain ⟨y83_0, q83, h⟩ := bi1e h
                    have J83 : ∀ (wy83_0 : Int32), some (wy83_0) = some (y83_0) → ∀ (H : Heap) (locs : List Loc) (ls : Array Slot), va_P D vwCl (wC ad cA F G) H → va_D A (wC ad cA F G) → va_S A s.heap H locs → lv_has ls 5 [(4, .int (y50_0)), (3, .int (x18)), (0, .ref (ad 0)), (1, .int (a1)), (2, .int (a2))] → W p l e ({ frames := 2, cells := 0, slots := 0, locals := 42 } : Room) s m args below meth c H locs 0 0 Q (F0 m 91 ls [.int (wy83_0), .int (a1), .ref (ad 2)]) := by
                      intro wy83_0 e9 H locs ls hP hD hS hl
                      cases e9
                      obtain ⟨F91, G91, h91, h⟩ := bi2e h
                      refine callVV (b := ad 2) (As := [.int (a1), .int (y83_0)]) (rest := []) ⟨hx, hb, hml, hown, hts⟩ (c_X2_bring l D ad cA n F G a1 y83_0 h91) (cwV 2 hts gX7_go_X2_bring rfl rfl rfl (by decide +kernel) ⟨Nat.le_of_ble_eq_true rfl, Nat.le_of_ble_eq_true rfl⟩) (va_recv hK hP (ci := 2) (q0 := 2) rfl wCg2) hP hK hD hN hS hA rfl hl.1 rfl (Nat.le_of_ble_eq_true rfl) dX7_go_91 ⟨Nat.zero_le _, Nat.zero_le _⟩ (fun H locs hP hD hS => ?_)
                      refine lv_iload_n hx hb dX7_go_94 rfl (lv_at hl 1 rfl) ?_
                      exact hret _ _ _ _ _ _ _ dX7_go_95 h hP hD hS
                    refine lv_if_eq (tgt := 90) hx hb dX7_go_83 (by decide) (fun c83 => ?_) (fun c83 => ?_)
                    · replace q83 := ifp q83 c83
                      refine lv_iconst (v := 0) hx hb dX7_go_90 (by decide) ?_
                      exact J83 _ q83 _ _ _ hP hD hS (lv_sub hl [0, 1, 2, 3, 4] rfl)
                    · replace q83 := ifn q83 c83
                      refine lv_iconst (v := 1) hx hb dX7_go_86 (by decide) ?_
                      refine lv_goto (tgt := 91) hx hb dX7_go_87 (by decide) ?_
                      exact J83 _ q83 _ _ _ hP hD hS (lv_sub hl [0, 1, 2, 3, 4] rfl)
                  · replace h := ifp h c71
                    refine lv_bipush (v := (-5)) hx hb dX7_go_74 (by decide) ?_
                    exact hret _ _ _ _ _ _ _ dX7_go_76 h hP hD hS
            refine lv_icmp_ne (tgt := 57) hx hb dX7_go_50 (by decide) (fun c50 => ?_) (fun c50 => ?_)
            · replace q50 := ifn q50 c50
              refine lv_iconst (v := 0) hx hb dX7_go_57 (by decide) ?_
              exact J50 _ q50 _ _ _ hP hD hS (lv_sub hl [0, 1, 2, 3] rfl)
            · replace q50 := ifp q50 c50
              refine lv_iconst (v := 1) hx hb dX7_go_53 (by decide) ?_
              refine lv_goto (tgt := 58) hx hb dX7_go_54 (by decide) ?_
              exact J50 _ q50 _ _ _ hP hD hS (lv_sub hl [0, 1, 2, 3] rfl)
          refine lv_if_eq (tgt := 49) hx hb dX7_go_42 (by decide) (fun c42 => ?_) (fun c42 => ?_)
          · replace q42 := ifp q42 c42
            refine lv_iconst (v := 0) hx hb dX7_go_49 (by decide) ?_
            exact J42 _ q42 _ _ _ hP hD hS (lv_sub hl [0, 1, 2, 3] rfl)
          · replace q42 := ifn q42 c42
            refine lv_iconst (v := 1) hx hb dX7_go_45 (by decide) ?_
            refine lv_goto (tgt := 50) hx hb dX7_go_46 (by decide) ?_
            exact J42 _ q42 _ _ _ hP hD hS (lv_sub hl [0, 1, 2, 3] rfl)
        · replace h := ifp h c34
          refine lv_bipush (v := (-3)) hx hb dX7_go_37 (by decide) ?_
          exact hret _ _ _ _ _ _ _ dX7_go_39 h hP hD hS
  · replace h := ifp h c4
    refine lv_iconst (v := (-1)) hx hb dX7_go_7 (by decide) ?_
    exact hret _ _ _ _ _ _ _ dX7_go_8 h hP hD hS

def p_X7_isSquare (a0 : Int32) : Option (Int32) :=
  bi1 (p_X7_within a0 0 48) (fun x4 => oguard (btB x4) (some x4))
set_option maxHeartbeats 4000000 in
set_option maxRecDepth 100000 in
theorem c_X7_isSquare (l : Launch) (D : va_G) (ad : Nat → Nat) (cA : ClassId) (n : Nat) (F : tF) (G : tG) (a0 : Int32) {r : Int32} (h : p_X7_isSquare a0 = some r) : CI l yX7_isSquare wsX7_isSquare ({ frames := 1, cells := 0, slots := 0, locals := 22 } : Room) D cA (wC ad cA F G) [.int (a0)] r (wC ad cA F G) := by
  rw [p_X7_isSquare] at h
  refine metZr (w := wC ad cA) (cc := cX7_isSquare) (maxL := 1) (by decide) rfl (Nat.le_of_ble_eq_true rfl) ?_
  intro p e s m args below meth c A ls Q hE hret
  obtain ⟨hx, hb, hts, hown, hml, hP, hK, hD, hN, hA, hl⟩ := hE
  have hown : s.vm.findClass RX7 = some m.cls := hown
  have hl : lv_has ls 1 [(0, .int (a0))] := hl
  have hS : va_S A s.heap s.heap [] := va_S.rf
  refine lv_iload_n hx hb dX7_isSquare_0 rfl (lv_at hl 0 rfl) ?_
  refine lv_iconst (v := 0) hx hb dX7_isSquare_1 (by decide) ?_
  refine lv_bipush (v := 48) hx hb dX7_isSquare_2 (by decide) ?_
  obtain ⟨x4, h4, h⟩ := bi1e h
  refine callSI (As := [.int (a0), .int (0), .int (48)]) (rest := []) ⟨hx, hb, hml, hown, hts⟩ (c_X7_within l D ad cA n F G a0 0 48 h4) (va_cwS 3 hts gX7_isSquare_X7_within rfl rfl rfl (by decide +kernel) ⟨Nat.le_of_ble_eq_true rfl, Nat.le_of_ble_eq_true rfl⟩) hP hK hD hN hS hA rfl hl.1 rfl (Nat.le_of_ble_eq_true rfl) dX7_isSquare_4 ⟨Nat.zero_le _, Nat.zero_le _⟩ (fun H locs hP hD hS => ?_)
  obtain ⟨g7, h⟩ := og h
  exact hret _ _ _ _ _ dX7_isSquare_7 g7 h hP hD hS

def p_X7_hang (n : Nat) (F : tF) (G : tG) (a1 : Int32) : Option (Int32 × tF × tG) :=
  bi1 (p_X7_isSquare a1) (fun x1 => (if x1 = 0 then some ((-1), F, G) else bi1 (p_X2_anyOut n G) (fun x13 => (if x13 = 0 then plet (F 14) (fun (x29 : Int32) => plet (upd F 14 a1) (fun (F35 : tF) => some (x29, F35, G))) else some ((-3), F, G)))))
set_option maxHeartbeats 4000000 in
set_option maxRecDepth 100000 in
theorem c_X7_hang (l : Launch) (D : va_G) (ad : Nat → Nat) (cA : ClassId) (n : Nat) (F : tF) (G : tG) (a1 : Int32) {r : Int32} {F' : tF} {G' : tG} (h : p_X7_hang n F G a1 = some (r, F', G')) : CI l yX7_hang wsX7_hang ({ frames := 2, cells := 0, slots := 0, locals := 42 } : Room) D cA (wC ad cA F G) [.ref (ad 0), .int (a1)] r (wC ad cA F' G') := by
  rw [p_X7_hang] at h
  refine metIm (w := wC ad cA) (cc := cX7_hang) (maxL := 3) (by decide) rfl (Nat.le_of_ble_eq_true rfl) ?_
  intro p e s m args below meth c A ls Q hE hret
  obtain ⟨hx, hb, hts, hown, hml, hP, hK, hD, hN, hA, hl⟩ := hE
  have hown : s.vm.findClass RX7 = some m.cls := hown
  have hl : lv_has ls 3 [(0, .ref (ad 0)), (1, .int (a1))] := hl
  have hS : va_S A s.heap s.heap [] := va_S.rf
  have k_0 : (Cond.fieldLink RX7 19 "BellBook" "crew" "LBellBook$Crew;").before args s = true := hts _ (List.mem_of_getElem? (i := 1) rfl)
  have n_7 : ∀ w ∈ u_ws RX7 TX7 6, w ∈ wsX7_hang := fun w hw => List.mem_cons_of_mem _ (List.mem_append_left _ (List.mem_append_right _ hw))
  have k_2 : (Cond.fieldLink RX7 156 "BellBook$Crew" "bellSquare" "I").before args s = true := hts _ (List.mem_of_getElem? (i := 2) rfl)
  have n_2 : ∀ w ∈ u_ws RX2 TX2 8, w ∈ wsX7_hang := fun w hw => List.mem_cons_of_mem _ (List.mem_append_right _ hw)
  refine lv_iload_n hx hb dX7_hang_0 rfl (lv_at hl 1 rfl) ?_
  obtain ⟨x1, h1, h⟩ := bi1e h
  refine callSI (As := [.int (a1)]) (rest := []) ⟨hx, hb, hml, hown, hts⟩ (c_X7_isSquare l D ad cA n F G a1 h1) (va_cwS 1 hts gX7_hang_X7_isSquare rfl rfl rfl (by decide +kernel) ⟨Nat.le_of_ble_eq_true rfl, Nat.le_of_ble_eq_true rfl⟩) hP hK hD hN hS hA rfl hl.1 rfl (Nat.le_of_ble_eq_true rfl) dX7_hang_1 ⟨Nat.zero_le _, Nat.zero_le _⟩ (fun H locs hP hD hS => ?_)
  refine lv_if_ne (tgt := 9) hx hb dX7_hang_4 (by decide) (fun c4 => ?_) (fun c4 => ?_)
  · replace h := ifn h c4
    refine lv_aload_n hx hb dX7_hang_9 rfl (lv_at hl 0 rfl) ?_
    refine va_get (D := D) (ci := 7) (fs := vX7 ad F) (v := .ref (ad 2)) (C := RX7) (T := TX7) (N := 6) hx hb hts n_7 hown hK hP 0 wCg0 rfl 1 (by decide) k_0 (fun _ h9 => h9) rfl dX7_hang_10 ?_
    obtain ⟨x13, h13, h⟩ := bi1e h
    refine callVI (b := ad 2) (As := []) (rest := []) ⟨hx, hb, hml, hown, hts⟩ (c_X2_anyOut l D ad cA n F G h13) (cwV 0 hts gX7_hang_X2_anyOut rfl rfl rfl (by decide +kernel) ⟨Nat.le_of_ble_eq_true rfl, Nat.le_of_ble_eq_true rfl⟩) (va_recv hK hP (ci := 2) (q0 := 2) rfl wCg2) hP hK hD hN hS hA rfl hl.1 rfl (Nat.le_of_ble_eq_true rfl) dX7_hang_13 ⟨Nat.zero_le _, Nat.zero_le _⟩ (fun H locs hP hD hS => ?_)
    refine lv_if_eq (tgt := 22) hx hb dX7_hang_16 (by decide) (fun c16 => ?_) (fun c16 => ?_)
    · replace h := ifp h c16
      refine lv_aload_n hx hb dX7_hang_22 rfl (lv_at hl 0 rfl) ?_
      refine va_get (D := D) (ci := 7) (fs := vX7 ad F) (v := .ref (ad 2)) (C := RX7) (T := TX7) (N := 6) hx hb hts n_7 hown hK hP 0 wCg0 rfl 1 (by decide) k_0 (fun _ h9 => h9) rfl dX7_hang_23 ?_
      refine va_get (D := D) (ci := 2) (fs := vX2 ad F) (v := .int ((F 14))) (C := RX2) (T := TX2) (N := 8) hx hb hts n_2 hown hK hP 2 wCg2 rfl 7 (by decide) k_2 (fun _ h9 => h9) rfl dX7_hang_26 ?_
      refine lv_topi (fun x29 ex29 => ?_)
      replace h := pl h ex29
      refine lv_istore_n (lv' := [(2, .int (x29)), (0, .ref (ad 0)), (1, .int (a1))]) hx hb dX7_hang_29 rfl hl (by decide) rfl (fun ls hl => ?_)
      refine lv_aload_n hx hb dX7_hang_30 rfl (lv_at hl 1 rfl) ?_
      refine va_get (D := D) (ci := 7) (fs := vX7 ad F) (v := .ref (ad 2)) (C := RX7) (T := TX7) (N := 6) hx hb hts n_7 hown hK hP 0 wCg0 rfl 1 (by decide) k_0 (fun _ h9 => h9) rfl dX7_hang_31 ?_
      refine lv_iload_n hx hb dX7_hang_34 rfl (lv_at hl 2 rfl) ?_
      obtain ⟨F35, eF35⟩ : ∃ f : tF, f = upd F 14 a1 := ⟨_, rfl⟩
      replace h := pl h eF35
      refine va_put (D := D) (ci := 2) (fs := vX2 ad F) (v := .int (a1)) (ty := .int) (C := RX2) (T := TX2) (N := 8) hx hb hts n_2 tyX2 tyX2_ok nmX2 hown hK hP hD hS 2 wCg2 rfl 7 (by decide) k_2 (fun _ h9 => h9) rfl (tyX2_ok 7 (by decide)) rfl rfl (Nat.le_of_ble_eq_true rfl) dX7_hang_35 (fun H locs hP hD hS => ?_)
      rw [wCp14 eF35] at hP hD
      refine lv_iload_n hx hb dX7_hang_38 rfl (lv_at hl 0 rfl) ?_
      exact hret _ _ _ _ _ _ _ dX7_hang_39 h hP hD hS
    · replace h := ifn h c16
      refine lv_bipush (v := (-3)) hx hb dX7_hang_19 (by decide) ?_
      exact hret _ _ _ _ _ _ _ dX7_hang_21 h hP hD hS
  · replace h := ifp h c4
    refine lv_iconst (v := (-1)) hx hb dX7_hang_7 (by decide) ?_
    exact hret _ _ _ _ _ _ _ dX7_hang_8 h hP hD hS

def p_X7_hear (F : tF) (G : tG) (a1 : Int32) (a2 : Int32) : Option (Int32 × tF × tG) :=
  bi1 (p_X3_isHearing a1 a2) (fun x2 => (if x2 = 0 then some ((-2), F, G) else (if (F 23) < 4 then bi3 (p_X3_addHearing F G a1 a2) (fun x31 F31 G31 => some (x31, F31, G31)) else some ((-4), F, G))))
set_option maxHeartbeats 4000000 in
set_option maxRecDepth 100000 in
theorem c_X7_hear (l : Launch) (D : va_G) (ad : Nat → Nat) (cA : ClassId) (n : Nat) (F : tF) (G : tG) (a1 : Int32) (a2 : Int32) {r : Int32} {F' : tF} {G' : tG} (h : p_X7_hear F G a1 a2 = some (r, F', G')) : CI l yX7_hear wsX7_hear ({ frames := 2, cells := 0, slots := 0, locals := 43 } : Room) D cA (wC ad cA F G) [.ref (ad 0), .int (a1), .int (a2)] r (wC ad cA F' G') := by
  rw [p_X7_hear] at h
  refine metIm (w := wC ad cA) (cc := cX7_hear) (maxL := 3) (by decide) rfl (Nat.le_of_ble_eq_true rfl) ?_
  intro p e s m args below meth c A ls Q hE hret
  obtain ⟨hx, hb, hts, hown, hml, hP, hK, hD, hN, hA, hl⟩ := hE
  have hown : s.vm.findClass RX7 = some m.cls := hown
  have hl : lv_has ls 3 [(0, .ref (ad 0)), (1, .int (a1)), (2, .int (a2))] := hl
  have hS : va_S A s.heap s.heap [] := va_S.rf
  have k_0 : (Cond.fieldLink RX7 33 "BellBook" "line" "LBellBook$Line;").before args s = true := hts _ (List.mem_of_getElem? (i := 1) rfl)
  have n_7 : ∀ w ∈ u_ws RX7 TX7 6, w ∈ wsX7_hear := fun w hw => List.mem_cons_of_mem _ (List.mem_append_left _ (List.mem_append_right _ hw))
  have k_2 : (Cond.fieldLink RX7 281 "BellBook$Line" "hearings" "I").before args s = true := hts _ (List.mem_of_getElem? (i := 2) rfl)
  have n_3 : ∀ w ∈ u_ws RX3 TX3 5, w ∈ wsX7_hear := fun w hw => List.mem_cons_of_mem _ (List.mem_append_right _ hw)
  refine lv_iload_n hx hb dX7_hear_0 rfl (lv_at hl 1 rfl) ?_
  refine lv_iload_n hx hb dX7_hear_1 rfl (lv_at hl 2 rfl) ?_
  obtain ⟨x2, h2, h⟩ := bi1e h
  refine callSI (As := [.int (a1), .int (a2)]) (rest := []) ⟨hx, hb, hml, hown, hts⟩ (c_X3_isHearing l D ad cA n F G a1 a2 h2) (va_cwS 2 hts gX7_hear_X3_isHearing rfl rfl rfl (by decide +kernel) ⟨Nat.le_of_ble_eq_true rfl, Nat.le_of_ble_eq_true rfl⟩) hP hK hD hN hS hA rfl hl.1 rfl (Nat.le_of_ble_eq_true rfl) dX7_hear_2 ⟨Nat.zero_le _, Nat.zero_le _⟩ (fun H locs hP hD hS => ?_)
  refine lv_if_ne (tgt := 11) hx hb dX7_hear_5 (by decide) (fun c5 => ?_) (fun c5 => ?_)
  · replace h := ifn h c5
    refine lv_aload_n hx hb dX7_hear_11 rfl (lv_at hl 0 rfl) ?_
    refine va_get (D := D) (ci := 7) (fs := vX7 ad F) (v := .ref (ad 22)) (C := RX7) (T := TX7) (N := 6) hx hb hts n_7 hown hK hP 0 wCg0 rfl 3 (by decide) k_0 (fun _ h9 => h9) rfl dX7_hear_12 ?_
    refine va_get (D := D) (ci := 3) (fs := vX3 ad F) (v := .int ((F 23))) (C := RX3) (T := TX3) (N := 5) hx hb hts n_3 hown hK hP 22 wCg22 rfl 4 (by decide) k_2 (fun _ h9 => h9) rfl dX7_hear_15 ?_
    refine lv_iconst (v := 4) hx hb dX7_hear_18 (by decide) ?_
    refine lv_icmp_lt (tgt := 25) hx hb dX7_hear_19 (by decide) (fun c19 => ?_) (fun c19 => ?_)
    · replace h := ifp h c19
      refine lv_aload_n hx hb dX7_hear_25 rfl (lv_at hl 0 rfl) ?_
      refine va_get (D := D) (ci := 7) (fs := vX7 ad F) (v := .ref (ad 22)) (C := RX7) (T := TX7) (N := 6) hx hb hts n_7 hown hK hP 0 wCg0 rfl 3 (by decide) k_0 (fun _ h9 => h9) rfl dX7_hear_26 ?_
      refine lv_iload_n hx hb dX7_hear_29 rfl (lv_at hl 1 rfl) ?_
      refine lv_iload_n hx hb dX7_hear_30 rfl (lv_at hl 2 rfl) ?_
      obtain ⟨x31, F31, G31, h31, h⟩ := bi3e h
      refine callVI (b := ad 22) (As := [.int (a1), .int (a2)]) (rest := []) ⟨hx, hb, hml, hown, hts⟩ (c_X3_addHearing l D ad cA n F G a1 a2 h31) (cwV 2 hts gX7_hear_X3_addHearing rfl rfl rfl (by decide +kernel) ⟨Nat.le_of_ble_eq_true rfl, Nat.le_of_ble_eq_true rfl⟩) (va_recv hK hP (ci := 3) (q0 := 22) rfl wCg22) hP hK hD hN hS hA rfl hl.1 rfl (Nat.le_of_ble_eq_true rfl) dX7_hear_31 ⟨Nat.zero_le _, Nat.zero_le _⟩ (fun H locs hP hD hS => ?_)
      exact hret _ _ _ _ _ _ _ dX7_hear_34 h hP hD hS
    · replace h := ifn h c19
      refine lv_bipush (v := (-4)) hx hb dX7_hear_22 (by decide) ?_
      exact hret _ _ _ _ _ _ _ dX7_hear_24 h hP hD hS
  · replace h := ifp h c5
    refine lv_bipush (v := (-2)) hx hb dX7_hear_8 (by decide) ?_
    exact hret _ _ _ _ _ _ _ dX7_hear_10 h hP hD hS

def p_X7_heard (n : Nat) (G : tG) (a1 : Int32) (a2 : Int32) : Option (Int32) :=
  bi1 (p_X3_isHearing a1 a2) (fun x2 => (if x2 = 0 then some (-2) else bi1 (p_X3_signOf n G a1 a2) (fun x17 => bi1 ((if x17 = (-6) then bi1 (p_X3_onlyOneApart n G a1 a2) (fun x37 => some (x37)) else some (x17))) (fun (y24_0 : Int32) => some y24_0))))
set_option maxHeartbeats 4000000 in
set_option maxRecDepth 100000 in
theorem c_X7_heard (l : Launch) (D : va_G) (ad : Nat → Nat) (cA : ClassId) (n : Nat) (F : tF) (G : tG) (a1 : Int32) (a2 : Int32) {r : Int32} (h : p_X7_heard n G a1 a2 = some r) : CI l yX7_heard wsX7_heard ({ frames := 4, cells := 0, slots := 0, locals := 91 } : Room) D cA (wC ad cA F G) [.ref (ad 0), .int (a1), .int (a2)] r (wC ad cA F G) := by
  rw [p_X7_heard] at h
  refine metIr (w := wC ad cA) (cc := cX7_heard) (maxL := 4) (by decide) rfl (Nat.le_of_ble_eq_true rfl) ?_
  intro p e s m args below meth c A ls Q hE hret
  obtain ⟨hx, hb, hts, hown, hml, hP, hK, hD, hN, hA, hl⟩ := hE
  have hown : s.vm.findClass RX7 = some m.cls := hown
  have hl : lv_has ls 4 [(0, .ref (ad 0)), (1, .int (a1)), (2, .int (a2))] := hl
  have hS : va_S A s.heap s.heap [] := va_S.rf
  have k_0 : (Cond.fieldLink RX7 33 "BellBook" "line" "LBellBook$Line;").before args s = true := hts _ (List.mem_of_getElem? (i := 1) rfl)
  have n_7 : ∀ w ∈ u_ws RX7 TX7 6, w ∈ wsX7_heard := fun w hw => List.mem_cons_of_mem _ (List.mem_append_left _ (List.mem_append_right _ hw))
  refine lv_iload_n hx hb dX7_heard_0 rfl (lv_at hl 1 rfl) ?_
  refine lv_iload_n hx hb dX7_heard_1 rfl (lv_at hl 2 rfl) ?_
  obtain ⟨x2, h2, h⟩ := bi1e h
  refine callSI (As := [.int (a1), .int (a2)]) (rest := []) ⟨hx, hb, hml, hown, hts⟩ (c_X3_isHearing l D ad cA n F G a1 a2 h2) (va_cwS 2 hts gX7_heard_X3_isHearing rfl rfl rfl (by decide +kernel) ⟨Nat.le_of_ble_eq_true rfl, Nat.le_of_ble_eq_true rfl⟩) hP hK hD hN hS hA rfl hl.1 rfl (Nat.le_of_ble_eq_true rfl) dX7_heard_2 ⟨Nat.zero_le _, Nat.zero_le _⟩ (fun H locs hP hD hS => ?_)
  refine lv_if_ne (tgt := 11) hx hb dX7_heard_5 (by decide) (fun c5 => ?_) (fun c5 => ?_)
  · replace h := ifn h c5
    refine lv_aload_n hx hb dX7_heard_11 rfl (lv_at hl 0 rfl) ?_
    refine va_get (D := D) (ci := 7) (fs := vX7 ad F) (v := .ref (ad 22)) (C := RX7) (T := TX7) (N := 6) hx hb hts n_7 hown hK hP 0 wCg0 rfl 3 (by decide) k_0 (fun _ h9 => h9) rfl dX7_heard_12 ?_
    refine lv_iload_n hx hb dX7_heard_15 rfl (lv_at hl 1 rfl) ?_
    refine lv_iload_n hx hb dX7_heard_16 rfl (lv_at hl 2 rfl) ?_
    obtain ⟨x17, h17, h⟩ := bi1e h
    refine callVI (b := ad 22) (As := [.int (a1), .int (a2)]) (rest := []) ⟨hx, hb, hml, hown, hts⟩ (c_X3_signOf l D ad cA n F G a1 a2 h17) (cwV 2 hts gX7_heard_X3_signOf rfl rfl rfl (by decide +kernel) ⟨Nat.le_of_ble_eq_true rfl, Nat.le_of_ble_eq_true rfl⟩) (va_recv hK hP (ci := 3) (q0 := 22) rfl wCg22) hP hK hD hN hS hA rfl hl.1 rfl (Nat.le_of_ble_eq_true rfl) dX7_heard_17 ⟨Nat.zero_le _, Nat.zero_le _⟩ (fun H locs hP hD hS => ?_)
    refine lv_istore_n (lv' := [(3, .int (x17)), (0, .ref (ad 0)), (1, .int (a1)), (2, .int (a2))]) hx hb dX7_heard_20 rfl hl (by decide) rfl (fun ls hl => ?_)
    refine lv_iload_n hx hb dX7_heard_21 rfl (lv_at hl 0 rfl) ?_
    refine lv_bipush (v := (-6)) hx hb dX7_heard_22 (by decide) ?_
    obtain ⟨y24_0, q24, h⟩ := bi1e h
    have J24 : ∀ (wy24_0 : Int32), some (wy24_0) = some (y24_0) → ∀ (H : Heap) (locs : List Loc) (ls : Array Slot), va_P D vwCl (wC ad cA F G) H → va_D A (wC ad cA F G) → va_S A s.heap H locs → lv_has ls 4 [(3, .int (x17)), (0, .ref (ad 0)), (1, .int (a1)), (2, .int (a2))] → W p l e ({ frames := 4, cells := 0, slots := 0, locals := 91 } : Room) s m args below meth c H locs 0 0 Q (F0 m 40 ls [.int (wy24_0)]) := by
      intro wy24_0 e9 H locs ls hP hD hS hl
      cases e9
      exact hret _ _ _ _ _ dX7_heard_40 h hP hD hS
    refine lv_icmp_eq (tgt := 31) hx hb dX7_heard_24 (by decide) (fun c24 => ?_) (fun c24 => ?_)
    · replace q24 := ifp q24 c24
      refine lv_aload_n hx hb dX7_heard_31 rfl (lv_at hl 1 rfl) ?_
      refine va_get (D := D) (ci := 7) (fs := vX7 ad F) (v := .ref (ad 22)) (C := RX7) (T := TX7) (N := 6) hx hb hts n_7 hown hK hP 0 wCg0 rfl 3 (by decide) k_0 (fun _ h9 => h9) rfl dX7_heard_32 ?_
      refine lv_iload_n hx hb dX7_heard_35 rfl (lv_at hl 2 rfl) ?_
      refine lv_iload_n hx hb dX7_heard_36 rfl (lv_at hl 3 rfl) ?_
      obtain ⟨x37, h37, q24⟩ := bi1e q24
      refine callVI (b := ad 22) (As := [.int (a1), .int (a2)]) (rest := []) ⟨hx, hb, hml, hown, hts⟩ (c_X3_onlyOneApart l D ad cA n F G a1 a2 h37) (cwV 2 hts gX7_heard_X3_onlyOneApart rfl rfl rfl (by decide +kernel) ⟨Nat.le_of_ble_eq_true rfl, Nat.le_of_ble_eq_true rfl⟩) (va_recv hK hP (ci := 3) (q0 := 22) rfl wCg22) hP hK hD hN hS hA rfl hl.1 rfl (Nat.le_of_ble_eq_true rfl) dX7_heard_37 ⟨Nat.zero_le _, Nat.zero_le _⟩ (fun H locs hP hD hS => ?_)
      exact J24 _ q24 _ _ _ hP hD hS (lv_sub hl [0, 1, 2, 3] rfl)
    · replace q24 := ifn q24 c24
      refine lv_iload_n hx hb dX7_heard_27 rfl (lv_at hl 0 rfl) ?_
      refine lv_goto (tgt := 40) hx hb dX7_heard_28 (by decide) ?_
      exact J24 _ q24 _ _ _ hP hD hS (lv_sub hl [0, 1, 2, 3] rfl)
  · replace h := ifp h c5
    refine lv_bipush (v := (-2)) hx hb dX7_heard_8 (by decide) ?_
    exact hret _ _ _ _ _ dX7_heard_10 h hP hD hS

def p_X7_isHose (a0 : Int32) : Option (Int32) :=
  bi1 (p_X7_within a0 0 2) (fun x3 => oguard (btB x3) (some x3))
set_option maxHeartbeats 4000000 in
set_option maxRecDepth 100000 in
theorem c_X7_isHose (l : Launch) (D : va_G) (ad : Nat → Nat) (cA : ClassId) (n : Nat) (F : tF) (G : tG) (a0 : Int32) {r : Int32} (h : p_X7_isHose a0 = some r) : CI l yX7_isHose wsX7_isHose ({ frames := 1, cells := 0, slots := 0, locals := 22 } : Room) D cA (wC ad cA F G) [.int (a0)] r (wC ad cA F G) := by
  rw [p_X7_isHose] at h
  refine metZr (w := wC ad cA) (cc := cX7_isHose) (maxL := 1) (by decide) rfl (Nat.le_of_ble_eq_true rfl) ?_
  intro p e s m args below meth c A ls Q hE hret
  obtain ⟨hx, hb, hts, hown, hml, hP, hK, hD, hN, hA, hl⟩ := hE
  have hown : s.vm.findClass RX7 = some m.cls := hown
  have hl : lv_has ls 1 [(0, .int (a0))] := hl
  have hS : va_S A s.heap s.heap [] := va_S.rf
  refine lv_iload_n hx hb dX7_isHose_0 rfl (lv_at hl 0 rfl) ?_
  refine lv_iconst (v := 0) hx hb dX7_isHose_1 (by decide) ?_
  refine lv_iconst (v := 2) hx hb dX7_isHose_2 (by decide) ?_
  obtain ⟨x3, h3, h⟩ := bi1e h
  refine callSI (As := [.int (a0), .int (0), .int (2)]) (rest := []) ⟨hx, hb, hml, hown, hts⟩ (c_X7_within l D ad cA n F G a0 0 2 h3) (va_cwS 3 hts gX7_isHose_X7_within rfl rfl rfl (by decide +kernel) ⟨Nat.le_of_ble_eq_true rfl, Nat.le_of_ble_eq_true rfl⟩) hP hK hD hN hS hA rfl hl.1 rfl (Nat.le_of_ble_eq_true rfl) dX7_isHose_3 ⟨Nat.zero_le _, Nat.zero_le _⟩ (fun H locs hP hD hS => ?_)
  obtain ⟨g6, h⟩ := og h
  exact hret _ _ _ _ _ dX7_isHose_6 g6 h hP hD hS

def p_X7_hose (n : Nat) (F : tF) (G : tG) (a1 : Int32) (a2 : Int32) : Option (Int32 × tF × tG) :=
  bi1 (p_X7_isHose a1) (fun x1 => (if x1 = 0 then some ((-1), F, G) else bi1 (p_X7_within a2 1 12) (fun x13 => (if x13 = 0 then some ((-2), F, G) else bi1 (p_X2_countOn n G a1) (fun x27 => (if x27 ≤ 0 then oguard (inB a1 3) (plet (G 5 a1.toNatClampNeg) (fun (x45 : Int32) => oguard (inB a1 3) (plet (stG G 5 a1 a2) (fun (G55 : tG) => some (x45, F, G55))))) else some ((-3), F, G)))))))
set_option maxHeartbeats 4000000 in
set_option maxRecDepth 100000 in
theorem c_X7_hose (l : Launch) (D : va_G) (ad : Nat → Nat) (cA : ClassId) (n : Nat) (F : tF) (G : tG) (a1 : Int32) (a2 : Int32) {r : Int32} {F' : tF} {G' : tG} (h : p_X7_hose n F G a1 a2 = some (r, F', G')) : CI l yX7_hose wsX7_hose ({ frames := 2, cells := 0, slots := 0, locals := 45 } : Room) D cA (wC ad cA F G) [.ref (ad 0), .int (a1), .int (a2)] r (wC ad cA F' G') := by
  rw [p_X7_hose] at h
  refine metIm (w := wC ad cA) (cc := cX7_hose) (maxL := 4) (by decide) rfl (Nat.le_of_ble_eq_true rfl) ?_
  intro p e s m args below meth c A ls Q hE hret
  obtain ⟨hx, hb, hts, hown, hml, hP, hK, hD, hN, hA, hl⟩ := hE
  have hown : s.vm.findClass RX7 = some m.cls := hown
  have hl : lv_has ls 4 [(0, .ref (ad 0)), (1, .int (a1)), (2, .int (a2))] := hl
  have hS : va_S A s.heap s.heap [] := va_S.rf
  have k_0 : (Cond.fieldLink RX7 19 "BellBook" "crew" "LBellBook$Crew;").before args s = true := hts _ (List.mem_of_getElem? (i := 1) rfl)
  have n_7 : ∀ w ∈ u_ws RX7 TX7 6, w ∈ wsX7_hose := fun w hw => List.mem_cons_of_mem _ (List.mem_append_left _ (List.mem_append_right _ hw))
  have k_2 : (Cond.fieldLink RX7 162 "BellBook$Crew" "length" "[I").before args s = true := hts _ (List.mem_of_getElem? (i := 2) rfl)
  have n_2 : ∀ w ∈ u_ws RX2 TX2 8, w ∈ wsX7_hose := fun w hw => List.mem_cons_of_mem _ (List.mem_append_right _ hw)
  refine lv_iload_n hx hb dX7_hose_0 rfl (lv_at hl 1 rfl) ?_
  obtain ⟨x1, h1, h⟩ := bi1e h
  refine callSI (As := [.int (a1)]) (rest := []) ⟨hx, hb, hml, hown, hts⟩ (c_X7_isHose l D ad cA n F G a1 h1) (va_cwS 1 hts gX7_hose_X7_isHose rfl rfl rfl (by decide +kernel) ⟨Nat.le_of_ble_eq_true rfl, Nat.le_of_ble_eq_true rfl⟩) hP hK hD hN hS hA rfl hl.1 rfl (Nat.le_of_ble_eq_true rfl) dX7_hose_1 ⟨Nat.zero_le _, Nat.zero_le _⟩ (fun H locs hP hD hS => ?_)
  refine lv_if_ne (tgt := 9) hx hb dX7_hose_4 (by decide) (fun c4 => ?_) (fun c4 => ?_)
  · replace h := ifn h c4
    refine lv_iload_n hx hb dX7_hose_9 rfl (lv_at hl 2 rfl) ?_
    refine lv_iconst (v := 1) hx hb dX7_hose_10 (by decide) ?_
    refine lv_bipush (v := 12) hx hb dX7_hose_11 (by decide) ?_
    obtain ⟨x13, h13, h⟩ := bi1e h
    refine callSI (As := [.int (a2), .int (1), .int (12)]) (rest := []) ⟨hx, hb, hml, hown, hts⟩ (c_X7_within l D ad cA n F G a2 1 12 h13) (va_cwS 3 hts gX7_hose_X7_within rfl rfl rfl (by decide +kernel) ⟨Nat.le_of_ble_eq_true rfl, Nat.le_of_ble_eq_true rfl⟩) hP hK hD hN hS hA rfl hl.1 rfl (Nat.le_of_ble_eq_true rfl) dX7_hose_13 ⟨Nat.zero_le _, Nat.zero_le _⟩ (fun H locs hP hD hS => ?_)
    refine lv_if_ne (tgt := 22) hx hb dX7_hose_16 (by decide) (fun c16 => ?_) (fun c16 => ?_)
    · replace h := ifn h c16
      refine lv_aload_n hx hb dX7_hose_22 rfl (lv_at hl 0 rfl) ?_
      refine va_get (D := D) (ci := 7) (fs := vX7 ad F) (v := .ref (ad 2)) (C := RX7) (T := TX7) (N := 6) hx hb hts n_7 hown hK hP 0 wCg0 rfl 1 (by decide) k_0 (fun _ h9 => h9) rfl dX7_hose_23 ?_
      refine lv_iload_n hx hb dX7_hose_26 rfl (lv_at hl 1 rfl) ?_
      obtain ⟨x27, h27, h⟩ := bi1e h
      refine callVI (b := ad 2) (As := [.int (a1)]) (rest := []) ⟨hx, hb, hml, hown, hts⟩ (c_X2_countOn l D ad cA n F G a1 h27) (cwV 1 hts gX7_hose_X2_countOn rfl rfl rfl (by decide +kernel) ⟨Nat.le_of_ble_eq_true rfl, Nat.le_of_ble_eq_true rfl⟩) (va_recv hK hP (ci := 2) (q0 := 2) rfl wCg2) hP hK hD hN hS hA rfl hl.1 rfl (Nat.le_of_ble_eq_true rfl) dX7_hose_27 ⟨Nat.zero_le _, Nat.zero_le _⟩ (fun H locs hP hD hS => ?_)
      refine lv_if_le (tgt := 36) hx hb dX7_hose_30 (by decide) (fun c30 => ?_) (fun c30 => ?_)
      · replace h := ifp h c30
        refine lv_aload_n hx hb dX7_hose_36 rfl (lv_at hl 0 rfl) ?_
        refine va_get (D := D) (ci := 7) (fs := vX7 ad F) (v := .ref (ad 2)) (C := RX7) (T := TX7) (N := 6) hx hb hts n_7 hown hK hP 0 wCg0 rfl 1 (by decide) k_0 (fun _ h9 => h9) rfl dX7_hose_37 ?_
        refine va_get (D := D) (ci := 2) (fs := vX2 ad F) (v := .ref (ad 8)) (C := RX2) (T := TX2) (N := 8) hx hb hts n_2 hown hK hP 2 wCg2 rfl 5 (by decide) k_2 (fun _ h9 => h9) rfl dX7_hose_40 ?_
        refine lv_iload_n hx hb dX7_hose_43 rfl (lv_at hl 1 rfl) ?_
        obtain ⟨g44, h⟩ := og h
        refine va_iald (D := D) hx hb hK hP 8 0 wCg8 rfl (inB_in g44) dX7_hose_44 ?_
        refine lv_topi (fun x45 ex45 => ?_)
        replace h := pl h ex45
        refine lv_istore_n (lv' := [(3, .int (x45)), (0, .ref (ad 0)), (1, .int (a1)), (2, .int (a2))]) hx hb dX7_hose_45 rfl hl (by decide) rfl (fun ls hl => ?_)
        refine lv_aload_n hx hb dX7_hose_46 rfl (lv_at hl 1 rfl) ?_
        refine va_get (D := D) (ci := 7) (fs := vX7 ad F) (v := .ref (ad 2)) (C := RX7) (T := TX7) (N := 6) hx hb hts n_7 hown hK hP 0 wCg0 rfl 1 (by decide) k_0 (fun _ h9 => h9) rfl dX7_hose_47 ?_
        refine va_get (D := D) (ci := 2) (fs := vX2 ad F) (v := .ref (ad 8)) (C := RX2) (T := TX2) (N := 8) hx hb hts n_2 hown hK hP 2 wCg2 rfl 5 (by decide) k_2 (fun _ h9 => h9) rfl dX7_hose_50 ?_
        refine lv_iload_n hx hb dX7_hose_53 rfl (lv_at hl 2 rfl) ?_
        refine lv_iload_n hx hb dX7_hose_54 rfl (lv_at hl 3 rfl) ?_
        obtain ⟨g55, h⟩ := og h
        obtain ⟨G55, eG55⟩ : ∃ z : tG, z = stG G 5 a1 a2 := ⟨_, rfl⟩
        replace h := pl h eG55
        refine va_iast (D := D) hx hb hK hP hD hS 8 0 wCg8 rfl (inB_in g55) dX7_hose_55 (fun H locs hP hD hS => ?_)
        rw [wCa5 eG55] at hP hD
        refine lv_iload_n hx hb dX7_hose_56 rfl (lv_at hl 0 rfl) ?_
        exact hret _ _ _ _ _ _ _ dX7_hose_57 h hP hD hS
      · replace h := ifn h c30
        refine lv_bipush (v := (-3)) hx hb dX7_hose_33 (by decide) ?_
        exact hret _ _ _ _ _ _ _ dX7_hose_35 h hP hD hS
    · replace h := ifp h c16
      refine lv_bipush (v := (-2)) hx hb dX7_hose_19 (by decide) ?_
      exact hret _ _ _ _ _ _ _ dX7_hose_21 h hP hD hS
  · replace h := ifp h c4
    refine lv_iconst (v := (-1)) hx hb dX7_hose_7 (by decide) ?_
    exact hret _ _ _ _ _ _ _ dX7_hose_8 h hP hD hS

def p_X7_limit (F : tF) (G : tG) (a1 : Int32) : Option (Int32 × tF × tG) :=
  bi1 (p_X7_within a1 1 100) (fun x4 => (if x4 = 0 then some ((-2), F, G) else plet (F 12) (fun (x20 : Int32) => plet (upd F 12 a1) (fun (F26 : tF) => some (x20, F26, G)))))
set_option maxHeartbeats 4000000 in
set_option maxRecDepth 100000 in
theorem c_X7_limit (l : Launch) (D : va_G) (ad : Nat → Nat) (cA : ClassId) (n : Nat) (F : tF) (G : tG) (a1 : Int32) {r : Int32} {F' : tF} {G' : tG} (h : p_X7_limit F G a1 = some (r, F', G')) : CI l yX7_limit wsX7_limit ({ frames := 1, cells := 0, slots := 0, locals := 22 } : Room) D cA (wC ad cA F G) [.ref (ad 0), .int (a1)] r (wC ad cA F' G') := by
  rw [p_X7_limit] at h
  refine metIm (w := wC ad cA) (cc := cX7_limit) (maxL := 3) (by decide) rfl (Nat.le_of_ble_eq_true rfl) ?_
  intro p e s m args below meth c A ls Q hE hret
  obtain ⟨hx, hb, hts, hown, hml, hP, hK, hD, hN, hA, hl⟩ := hE
  have hown : s.vm.findClass RX7 = some m.cls := hown
  have hl : lv_has ls 3 [(0, .ref (ad 0)), (1, .int (a1))] := hl
  have hS : va_S A s.heap s.heap [] := va_S.rf
  have k_0 : (Cond.fieldLink RX7 12 "BellBook" "bell" "LBellBook$Bell;").before args s = true := hts _ (List.mem_of_getElem? (i := 1) rfl)
  have n_7 : ∀ w ∈ u_ws RX7 TX7 6, w ∈ wsX7_limit := fun w hw => List.mem_cons_of_mem _ (List.mem_append_left _ (List.mem_append_right _ hw))
  have k_2 : (Cond.fieldLink RX7 89 "BellBook$Bell" "limit" "I").before args s = true := hts _ (List.mem_of_getElem? (i := 2) rfl)
  have n_0 : ∀ w ∈ u_ws RX0 TX0 12, w ∈ wsX7_limit := fun w hw => List.mem_cons_of_mem _ (List.mem_append_right _ hw)
  refine lv_iload_n hx hb dX7_limit_0 rfl (lv_at hl 1 rfl) ?_
  refine lv_iconst (v := 1) hx hb dX7_limit_1 (by decide) ?_
  refine lv_bipush (v := 100) hx hb dX7_limit_2 (by decide) ?_
  obtain ⟨x4, h4, h⟩ := bi1e h
  refine callSI (As := [.int (a1), .int (1), .int (100)]) (rest := []) ⟨hx, hb, hml, hown, hts⟩ (c_X7_within l D ad cA n F G a1 1 100 h4) (va_cwS 3 hts gX7_limit_X7_within rfl rfl rfl (by decide +kernel) ⟨Nat.le_of_ble_eq_true rfl, Nat.le_of_ble_eq_true rfl⟩) hP hK hD hN hS hA rfl hl.1 rfl (Nat.le_of_ble_eq_true rfl) dX7_limit_4 ⟨Nat.zero_le _, Nat.zero_le _⟩ (fun H locs hP hD hS => ?_)
  refine lv_if_ne (tgt := 13) hx hb dX7_limit_7 (by decide) (fun c7 => ?_) (fun c7 => ?_)
  · replace h := ifn h c7
    refine lv_aload_n hx hb dX7_limit_13 rfl (lv_at hl 0 rfl) ?_
    refine va_get (D := D) (ci := 7) (fs := vX7 ad F) (v := .ref (ad 1)) (C := RX7) (T := TX7) (N := 6) hx hb hts n_7 hown hK hP 0 wCg0 rfl 0 (by decide) k_0 (fun _ h9 => h9) rfl dX7_limit_14 ?_
    refine va_get (D := D) (ci := 0) (fs := vX0 ad F) (v := .int ((F 12))) (C := RX0) (T := TX0) (N := 12) hx hb hts n_0 hown hK hP 1 wCg1 rfl 11 (by decide) k_2 (fun _ h9 => h9) rfl dX7_limit_17 ?_
    refine lv_topi (fun x20 ex20 => ?_)
    replace h := pl h ex20
    refine lv_istore_n (lv' := [(2, .int (x20)), (0, .ref (ad 0)), (1, .int (a1))]) hx hb dX7_limit_20 rfl hl (by decide) rfl (fun ls hl => ?_)
    refine lv_aload_n hx hb dX7_limit_21 rfl (lv_at hl 1 rfl) ?_
    refine va_get (D := D) (ci := 7) (fs := vX7 ad F) (v := .ref (ad 1)) (C := RX7) (T := TX7) (N := 6) hx hb hts n_7 hown hK hP 0 wCg0 rfl 0 (by decide) k_0 (fun _ h9 => h9) rfl dX7_limit_22 ?_
    refine lv_iload_n hx hb dX7_limit_25 rfl (lv_at hl 2 rfl) ?_
    obtain ⟨F26, eF26⟩ : ∃ f : tF, f = upd F 12 a1 := ⟨_, rfl⟩
    replace h := pl h eF26
    refine va_put (D := D) (ci := 0) (fs := vX0 ad F) (v := .int (a1)) (ty := .int) (C := RX0) (T := TX0) (N := 12) hx hb hts n_0 tyX0 tyX0_ok nmX0 hown hK hP hD hS 1 wCg1 rfl 11 (by decide) k_2 (fun _ h9 => h9) rfl (tyX0_ok 11 (by decide)) rfl rfl (Nat.le_of_ble_eq_true rfl) dX7_limit_26 (fun H locs hP hD hS => ?_)
    rw [wCp12 eF26] at hP hD
    refine lv_iload_n hx hb dX7_limit_29 rfl (lv_at hl 0 rfl) ?_
    exact hret _ _ _ _ _ _ _ dX7_limit_30 h hP hD hS
  · replace h := ifp h c7
    refine lv_bipush (v := (-2)) hx hb dX7_limit_10 (by decide) ?_
    exact hret _ _ _ _ _ _ _ dX7_limit_12 h hP hD hS

def p_X7_log (n : Nat) (F : tF) (G : tG) (a1 : Int32) (a2 : Int32) : Option (Int32 × tF × tG) :=
  bi1 (p_X7_isMan a1) (fun x1 => (if x1 = 0 then some ((-1), F, G) else bi1 (p_X7_within a2 0 5) (fun x12 => (if x12 = 0 then some ((-2), F, G) else bi2 (p_X1_read n F G a1) (fun F26 G26 => (if a2 = 0 then some ((F26 25), F26, G26) else (if a2 = 1 then some ((F26 28), F26, G26) else (if a2 = 2 then some ((F26 29), F26, G26) else (if a2 = 3 then bi1 (p_X1_verdict F26 (F26 13)) (fun x99 => some (x99, F26, G26)) else (if a2 = 4 then some ((F26 26), F26, G26) else some ((F26 27), F26, G26)))))))))))
set_option maxHeartbeats 4000000 in
set_option maxRecDepth 100000 in
theorem c_X7_log (l : Launch) (D : va_G) (ad : Nat → Nat) (cA : ClassId) (n : Nat) (F : tF) (G : tG) (a1 : Int32) (a2 : Int32) {r : Int32} {F' : tF} {G' : tG} (h : p_X7_log n F G a1 a2 = some (r, F', G')) : CI l yX7_log wsX7_log ({ frames := 5, cells := 0, slots := 0, locals := 108 } : Room) D cA (wC ad cA F G) [.ref (ad 0), .int (a1), .int (a2)] r (wC ad cA F' G') := by
  rw [p_X7_log] at h
  refine metIm (w := wC ad cA) (cc := cX7_log) (maxL := 3) (by decide) rfl (Nat.le_of_ble_eq_true rfl) ?_
  intro p e s m args below meth c A ls Q hE hret
  obtain ⟨hx, hb, hts, hown, hml, hP, hK, hD, hN, hA, hl⟩ := hE
  have hown : s.vm.findClass RX7 = some m.cls := hown
  have hl : lv_has ls 3 [(0, .ref (ad 0)), (1, .int (a1)), (2, .int (a2))] := hl
  have hS : va_S A s.heap s.heap [] := va_S.rf
  have k_0 : (Cond.fieldLink RX7 40 "BellBook" "book" "LBellBook$Book;").before args s = true := hts _ (List.mem_of_getElem? (i := 1) rfl)
  have n_7 : ∀ w ∈ u_ws RX7 TX7 6, w ∈ wsX7_log := fun w hw => List.mem_cons_of_mem _ (List.mem_append_left _ (List.mem_append_left _ (List.mem_append_right _ hw)))
  have k_2 : (Cond.fieldLink RX7 306 "BellBook$Book" "seen" "I").before args s = true := hts _ (List.mem_of_getElem? (i := 2) rfl)
  have n_1 : ∀ w ∈ u_ws RX1 TX1 11, w ∈ wsX7_log := fun w hw => List.mem_cons_of_mem _ (List.mem_append_left _ (List.mem_append_right _ hw))
  have k_4 : (Cond.fieldLink RX7 309 "BellBook$Book" "longestSure" "I").before args s = true := hts _ (List.mem_of_getElem? (i := 3) rfl)
  have k_5 : (Cond.fieldLink RX7 312 "BellBook$Book" "longestMaybe" "I").before args s = true := hts _ (List.mem_of_getElem? (i := 4) rfl)
  have k_6 : (Cond.fieldLink RX7 19 "BellBook" "crew" "LBellBook$Crew;").before args s = true := hts _ (List.mem_of_getElem? (i := 5) rfl)
  have k_7 : (Cond.fieldLink RX7 172 "BellBook$Crew" "stay" "I").before args s = true := hts _ (List.mem_of_getElem? (i := 6) rfl)
  have n_2 : ∀ w ∈ u_ws RX2 TX2 8, w ∈ wsX7_log := fun w hw => List.mem_cons_of_mem _ (List.mem_append_right _ hw)
  have k_9 : (Cond.fieldLink RX7 318 "BellBook$Book" "sure" "I").before args s = true := hts _ (List.mem_of_getElem? (i := 7) rfl)
  have k_10 : (Cond.fieldLink RX7 321 "BellBook$Book" "dark" "I").before args s = true := hts _ (List.mem_of_getElem? (i := 8) rfl)
  refine lv_iload_n hx hb dX7_log_0 rfl (lv_at hl 1 rfl) ?_
  obtain ⟨x1, h1, h⟩ := bi1e h
  refine callSI (As := [.int (a1)]) (rest := []) ⟨hx, hb, hml, hown, hts⟩ (c_X7_isMan l D ad cA n F G a1 h1) (va_cwS 1 hts gX7_log_X7_isMan rfl rfl rfl (by decide +kernel) ⟨Nat.le_of_ble_eq_true rfl, Nat.le_of_ble_eq_true rfl⟩) hP hK hD hN hS hA rfl hl.1 rfl (Nat.le_of_ble_eq_true rfl) dX7_log_1 ⟨Nat.zero_le _, Nat.zero_le _⟩ (fun H locs hP hD hS => ?_)
  refine lv_if_ne (tgt := 9) hx hb dX7_log_4 (by decide) (fun c4 => ?_) (fun c4 => ?_)
  · replace h := ifn h c4
    refine lv_iload_n hx hb dX7_log_9 rfl (lv_at hl 2 rfl) ?_
    refine lv_iconst (v := 0) hx hb dX7_log_10 (by decide) ?_
    refine lv_iconst (v := 5) hx hb dX7_log_11 (by decide) ?_
    obtain ⟨x12, h12, h⟩ := bi1e h
    refine callSI (As := [.int (a2), .int (0), .int (5)]) (rest := []) ⟨hx, hb, hml, hown, hts⟩ (c_X7_within l D ad cA n F G a2 0 5 h12) (va_cwS 3 hts gX7_log_X7_within rfl rfl rfl (by decide +kernel) ⟨Nat.le_of_ble_eq_true rfl, Nat.le_of_ble_eq_true rfl⟩) hP hK hD hN hS hA rfl hl.1 rfl (Nat.le_of_ble_eq_true rfl) dX7_log_12 ⟨Nat.zero_le _, Nat.zero_le _⟩ (fun H locs hP hD hS => ?_)
    refine lv_if_ne (tgt := 21) hx hb dX7_log_15 (by decide) (fun c15 => ?_) (fun c15 => ?_)
    · replace h := ifn h c15
      refine lv_aload_n hx hb dX7_log_21 rfl (lv_at hl 0 rfl) ?_
      refine va_get (D := D) (ci := 7) (fs := vX7 ad F) (v := .ref (ad 27)) (C := RX7) (T := TX7) (N := 6) hx hb hts n_7 hown hK hP 0 wCg0 rfl 4 (by decide) k_0 (fun _ h9 => h9) rfl dX7_log_22 ?_
      refine lv_iload_n hx hb dX7_log_25 rfl (lv_at hl 1 rfl) ?_
      obtain ⟨F26, G26, h26, h⟩ := bi2e h
      refine callVV (b := ad 27) (As := [.int (a1)]) (rest := []) ⟨hx, hb, hml, hown, hts⟩ (c_X1_read l D ad cA n F G a1 h26) (cwV 1 hts gX7_log_X1_read rfl rfl rfl (by decide +kernel) ⟨Nat.le_of_ble_eq_true rfl, Nat.le_of_ble_eq_true rfl⟩) (va_recv hK hP (ci := 1) (q0 := 27) rfl wCg27) hP hK hD hN hS hA rfl hl.1 rfl (Nat.le_of_ble_eq_true rfl) dX7_log_26 ⟨Nat.zero_le _, Nat.zero_le _⟩ (fun H locs hP hD hS => ?_)
      refine lv_iload_n hx hb dX7_log_29 rfl (lv_at hl 2 rfl) ?_
      by_cases c30_0 : a2 = 0
      · replace h := ifp h c30_0
        refine lv_tableIn (off := 34) (tgt := 64) hx hb dX7_log_30 (by rw [c30_0]; decide) (by rw [c30_0]; decide) (by rw [c30_0]; decide) (by decide) ?_
        refine lv_aload_n hx hb dX7_log_64 rfl (lv_at hl 0 rfl) ?_
        refine va_get (D := D) (ci := 7) (fs := vX7 ad F26) (v := .ref (ad 27)) (C := RX7) (T := TX7) (N := 6) hx hb hts n_7 hown hK hP 0 wCg0 rfl 4 (by decide) k_0 (fun _ h9 => h9) rfl dX7_log_65 ?_
        refine va_get (D := D) (ci := 1) (fs := vX1 ad F26) (v := .int ((F26 25))) (C := RX1) (T := TX1) (N := 11) hx hb hts n_1 hown hK hP 27 wCg27 rfl 4 (by decide) k_2 (fun _ h9 => h9) rfl dX7_log_68 ?_
        exact hret _ _ _ _ _ _ _ dX7_log_71 h hP hD hS
      replace h := ifn h c30_0
      by_cases c30_1 : a2 = 1
      · replace h := ifp h c30_1
        refine lv_tableIn (off := 42) (tgt := 72) hx hb dX7_log_30 (by rw [c30_1]; decide) (by rw [c30_1]; decide) (by rw [c30_1]; decide) (by decide) ?_
        refine lv_aload_n hx hb dX7_log_72 rfl (lv_at hl 0 rfl) ?_
        refine va_get (D := D) (ci := 7) (fs := vX7 ad F26) (v := .ref (ad 27)) (C := RX7) (T := TX7) (N := 6) hx hb hts n_7 hown hK hP 0 wCg0 rfl 4 (by decide) k_0 (fun _ h9 => h9) rfl dX7_log_73 ?_
        refine va_get (D := D) (ci := 1) (fs := vX1 ad F26) (v := .int ((F26 28))) (C := RX1) (T := TX1) (N := 11) hx hb hts n_1 hown hK hP 27 wCg27 rfl 7 (by decide) k_4 (fun _ h9 => h9) rfl dX7_log_76 ?_
        exact hret _ _ _ _ _ _ _ dX7_log_79 h hP hD hS
      replace h := ifn h c30_1
      by_cases c30_2 : a2 = 2
      · replace h := ifp h c30_2
        refine lv_tableIn (off := 50) (tgt := 80) hx hb dX7_log_30 (by rw [c30_2]; decide) (by rw [c30_2]; decide) (by rw [c30_2]; decide) (by decide) ?_
        refine lv_aload_n hx hb dX7_log_80 rfl (lv_at hl 0 rfl) ?_
        refine va_get (D := D) (ci := 7) (fs := vX7 ad F26) (v := .ref (ad 27)) (C := RX7) (T := TX7) (N := 6) hx hb hts n_7 hown hK hP 0 wCg0 rfl 4 (by decide) k_0 (fun _ h9 => h9) rfl dX7_log_81 ?_
        refine va_get (D := D) (ci := 1) (fs := vX1 ad F26) (v := .int ((F26 29))) (C := RX1) (T := TX1) (N := 11) hx hb hts n_1 hown hK hP 27 wCg27 rfl 8 (by decide) k_5 (fun _ h9 => h9) rfl dX7_log_84 ?_
        exact hret _ _ _ _ _ _ _ dX7_log_87 h hP hD hS
      replace h := ifn h c30_2
      by_cases c30_3 : a2 = 3
      · replace h := ifp h c30_3
        refine lv_tableIn (off := 58) (tgt := 88) hx hb dX7_log_30 (by rw [c30_3]; decide) (by rw [c30_3]; decide) (by rw [c30_3]; decide) (by decide) ?_
        refine lv_aload_n hx hb dX7_log_88 rfl (lv_at hl 0 rfl) ?_
        refine va_get (D := D) (ci := 7) (fs := vX7 ad F26) (v := .ref (ad 27)) (C := RX7) (T := TX7) (N := 6) hx hb hts n_7 hown hK hP 0 wCg0 rfl 4 (by decide) k_0 (fun _ h9 => h9) rfl dX7_log_89 ?_
        refine lv_aload_n hx hb dX7_log_92 rfl (lv_at hl 0 rfl) ?_
        refine va_get (D := D) (ci := 7) (fs := vX7 ad F26) (v := .ref (ad 2)) (C := RX7) (T := TX7) (N := 6) hx hb hts n_7 hown hK hP 0 wCg0 rfl 1 (by decide) k_6 (fun _ h9 => h9) rfl dX7_log_93 ?_
        refine va_get (D := D) (ci := 2) (fs := vX2 ad F26) (v := .int ((F26 13))) (C := RX2) (T := TX2) (N := 8) hx hb hts n_2 hown hK hP 2 wCg2 rfl 6 (by decide) k_7 (fun _ h9 => h9) rfl dX7_log_96 ?_
        obtain ⟨x99, h99, h⟩ := bi1e h
        refine callVI (b := ad 27) (As := [.int ((F26 13))]) (rest := []) ⟨hx, hb, hml, hown, hts⟩ (c_X1_verdict l D ad cA n F26 G26 (F26 13) h99) (cwV 1 hts gX7_log_X1_verdict rfl rfl rfl (by decide +kernel) ⟨Nat.le_of_ble_eq_true rfl, Nat.le_of_ble_eq_true rfl⟩) (va_recv hK hP (ci := 1) (q0 := 27) rfl wCg27) hP hK hD hN hS hA rfl hl.1 rfl (Nat.le_of_ble_eq_true rfl) dX7_log_99 ⟨Nat.zero_le _, Nat.zero_le _⟩ (fun H locs hP hD hS => ?_)
        exact hret _ _ _ _ _ _ _ dX7_log_102 h hP hD hS
      replace h := ifn h c30_3
      by_cases c30_4 : a2 = 4
      · replace h := ifp h c30_4
        refine lv_tableIn (off := 73) (tgt := 103) hx hb dX7_log_30 (by rw [c30_4]; decide) (by rw [c30_4]; decide) (by rw [c30_4]; decide) (by decide) ?_
        refine lv_aload_n hx hb dX7_log_103 rfl (lv_at hl 0 rfl) ?_
        refine va_get (D := D) (ci := 7) (fs := vX7 ad F26) (v := .ref (ad 27)) (C := RX7) (T := TX7) (N := 6) hx hb hts n_7 hown hK hP 0 wCg0 rfl 4 (by decide) k_0 (fun _ h9 => h9) rfl dX7_log_104 ?_
        refine va_get (D := D) (ci := 1) (fs := vX1 ad F26) (v := .int ((F26 26))) (C := RX1) (T := TX1) (N := 11) hx hb hts n_1 hown hK hP 27 wCg27 rfl 5 (by decide) k_9 (fun _ h9 => h9) rfl dX7_log_107 ?_
        exact hret _ _ _ _ _ _ _ dX7_log_110 h hP hD hS
      replace h := ifn h c30_4
      have ic30_0 : a2.toInt ≠ 0 := ne_toInt c30_0
      have ic30_1 : a2.toInt ≠ 1 := ne_toInt c30_1
      have ic30_2 : a2.toInt ≠ 2 := ne_toInt c30_2
      have ic30_3 : a2.toInt ≠ 3 := ne_toInt c30_3
      have ic30_4 : a2.toInt ≠ 4 := ne_toInt c30_4
      refine lv_tableOut (tgt := 111) hx hb dX7_log_30 (by omega) (by decide) ?_
      refine lv_aload_n hx hb dX7_log_111 rfl (lv_at hl 0 rfl) ?_
      refine va_get (D := D) (ci := 7) (fs := vX7 ad F26) (v := .ref (ad 27)) (C := RX7) (T := TX7) (N := 6) hx hb hts n_7 hown hK hP 0 wCg0 rfl 4 (by decide) k_0 (fun _ h9 => h9) rfl dX7_log_112 ?_
      refine va_get (D := D) (ci := 1) (fs := vX1 ad F26) (v := .int ((F26 27))) (C := RX1) (T := TX1) (N := 11) hx hb hts n_1 hown hK hP 27 wCg27 rfl 6 (by decide) k_10 (fun _ h9 => h9) rfl dX7_log_115 ?_
      exact hret _ _ _ _ _ _ _ dX7_log_118 h hP hD hS
    · replace h := ifp h c15
      refine lv_bipush (v := (-2)) hx hb dX7_log_18 (by decide) ?_
      exact hret _ _ _ _ _ _ _ dX7_log_20 h hP hD hS
  · replace h := ifp h c4
    refine lv_iconst (v := (-1)) hx hb dX7_log_7 (by decide) ?_
    exact hret _ _ _ _ _ _ _ dX7_log_8 h hP hD hS

def p_X7_man (G : tG) (a1 : Int32) (a2 : Int32) : Option (Int32) :=
  bi1 (p_X7_isMan a1) (fun x1 => (if x1 = 0 then some (-1) else (if a2 = 0 then oguard (inB a1 6) (some (G 0 a1.toNatClampNeg)) else (if a2 = 1 then oguard (inB a1 6) (some (G 1 a1.toNatClampNeg)) else (if a2 = 2 then oguard (inB a1 6) (some (G 2 a1.toNatClampNeg)) else (if a2 = 3 then oguard (inB a1 6) (some (G 3 a1.toNatClampNeg)) else (if a2 = 4 then oguard (inB a1 6) (some (G 4 a1.toNatClampNeg)) else some (-2))))))))
set_option maxHeartbeats 4000000 in
set_option maxRecDepth 100000 in
theorem c_X7_man (l : Launch) (D : va_G) (ad : Nat → Nat) (cA : ClassId) (n : Nat) (F : tF) (G : tG) (a1 : Int32) (a2 : Int32) {r : Int32} (h : p_X7_man G a1 a2 = some r) : CI l yX7_man wsX7_man ({ frames := 2, cells := 0, slots := 0, locals := 42 } : Room) D cA (wC ad cA F G) [.ref (ad 0), .int (a1), .int (a2)] r (wC ad cA F G) := by
  rw [p_X7_man] at h
  refine metIr (w := wC ad cA) (cc := cX7_man) (maxL := 3) (by decide) rfl (Nat.le_of_ble_eq_true rfl) ?_
  intro p e s m args below meth c A ls Q hE hret
  obtain ⟨hx, hb, hts, hown, hml, hP, hK, hD, hN, hA, hl⟩ := hE
  have hown : s.vm.findClass RX7 = some m.cls := hown
  have hl : lv_has ls 3 [(0, .ref (ad 0)), (1, .int (a1)), (2, .int (a2))] := hl
  have hS : va_S A s.heap s.heap [] := va_S.rf
  have k_0 : (Cond.fieldLink RX7 19 "BellBook" "crew" "LBellBook$Crew;").before args s = true := hts _ (List.mem_of_getElem? (i := 1) rfl)
  have n_7 : ∀ w ∈ u_ws RX7 TX7 6, w ∈ wsX7_man := fun w hw => List.mem_cons_of_mem _ (List.mem_append_left _ (List.mem_append_right _ hw))
  have k_2 : (Cond.fieldLink RX7 136 "BellBook$Crew" "where" "[I").before args s = true := hts _ (List.mem_of_getElem? (i := 2) rfl)
  have n_2 : ∀ w ∈ u_ws RX2 TX2 8, w ∈ wsX7_man := fun w hw => List.mem_cons_of_mem _ (List.mem_append_right _ hw)
  have k_4 : (Cond.fieldLink RX7 175 "BellBook$Crew" "square" "[I").before args s = true := hts _ (List.mem_of_getElem? (i := 3) rfl)
  have k_5 : (Cond.fieldLink RX7 150 "BellBook$Crew" "hose" "[I").before args s = true := hts _ (List.mem_of_getElem? (i := 4) rfl)
  have k_6 : (Cond.fieldLink RX7 178 "BellBook$Crew" "stayed" "[I").before args s = true := hts _ (List.mem_of_getElem? (i := 5) rfl)
  have k_7 : (Cond.fieldLink RX7 181 "BellBook$Crew" "task" "[I").before args s = true := hts _ (List.mem_of_getElem? (i := 6) rfl)
  refine lv_iload_n hx hb dX7_man_0 rfl (lv_at hl 1 rfl) ?_
  obtain ⟨x1, h1, h⟩ := bi1e h
  refine callSI (As := [.int (a1)]) (rest := []) ⟨hx, hb, hml, hown, hts⟩ (c_X7_isMan l D ad cA n F G a1 h1) (va_cwS 1 hts gX7_man_X7_isMan rfl rfl rfl (by decide +kernel) ⟨Nat.le_of_ble_eq_true rfl, Nat.le_of_ble_eq_true rfl⟩) hP hK hD hN hS hA rfl hl.1 rfl (Nat.le_of_ble_eq_true rfl) dX7_man_1 ⟨Nat.zero_le _, Nat.zero_le _⟩ (fun H locs hP hD hS => ?_)
  refine lv_if_ne (tgt := 9) hx hb dX7_man_4 (by decide) (fun c4 => ?_) (fun c4 => ?_)
  · replace h := ifn h c4
    refine lv_iload_n hx hb dX7_man_9 rfl (lv_at hl 2 rfl) ?_
    by_cases c10_0 : a2 = 0
    · replace h := ifp h c10_0
      refine lv_tableIn (off := 34) (tgt := 44) hx hb dX7_man_10 (by rw [c10_0]; decide) (by rw [c10_0]; decide) (by rw [c10_0]; decide) (by decide) ?_
      refine lv_aload_n hx hb dX7_man_44 rfl (lv_at hl 0 rfl) ?_
      refine va_get (D := D) (ci := 7) (fs := vX7 ad F) (v := .ref (ad 2)) (C := RX7) (T := TX7) (N := 6) hx hb hts n_7 hown hK hP 0 wCg0 rfl 1 (by decide) k_0 (fun _ h9 => h9) rfl dX7_man_45 ?_
      refine va_get (D := D) (ci := 2) (fs := vX2 ad F) (v := .ref (ad 3)) (C := RX2) (T := TX2) (N := 8) hx hb hts n_2 hown hK hP 2 wCg2 rfl 0 (by decide) k_2 (fun _ h9 => h9) rfl dX7_man_48 ?_
      refine lv_iload_n hx hb dX7_man_51 rfl (lv_at hl 1 rfl) ?_
      obtain ⟨g52, h⟩ := og h
      refine va_iald (D := D) hx hb hK hP 3 0 wCg3 rfl (inB_in g52) dX7_man_52 ?_
      exact hret _ _ _ _ _ dX7_man_53 h hP hD hS
    replace h := ifn h c10_0
    by_cases c10_1 : a2 = 1
    · replace h := ifp h c10_1
      refine lv_tableIn (off := 44) (tgt := 54) hx hb dX7_man_10 (by rw [c10_1]; decide) (by rw [c10_1]; decide) (by rw [c10_1]; decide) (by decide) ?_
      refine lv_aload_n hx hb dX7_man_54 rfl (lv_at hl 0 rfl) ?_
      refine va_get (D := D) (ci := 7) (fs := vX7 ad F) (v := .ref (ad 2)) (C := RX7) (T := TX7) (N := 6) hx hb hts n_7 hown hK hP 0 wCg0 rfl 1 (by decide) k_0 (fun _ h9 => h9) rfl dX7_man_55 ?_
      refine va_get (D := D) (ci := 2) (fs := vX2 ad F) (v := .ref (ad 4)) (C := RX2) (T := TX2) (N := 8) hx hb hts n_2 hown hK hP 2 wCg2 rfl 1 (by decide) k_4 (fun _ h9 => h9) rfl dX7_man_58 ?_
      refine lv_iload_n hx hb dX7_man_61 rfl (lv_at hl 1 rfl) ?_
      obtain ⟨g62, h⟩ := og h
      refine va_iald (D := D) hx hb hK hP 4 0 wCg4 rfl (inB_in g62) dX7_man_62 ?_
      exact hret _ _ _ _ _ dX7_man_63 h hP hD hS
    replace h := ifn h c10_1
    by_cases c10_2 : a2 = 2
    · replace h := ifp h c10_2
      refine lv_tableIn (off := 54) (tgt := 64) hx hb dX7_man_10 (by rw [c10_2]; decide) (by rw [c10_2]; decide) (by rw [c10_2]; decide) (by decide) ?_
      refine lv_aload_n hx hb dX7_man_64 rfl (lv_at hl 0 rfl) ?_
      refine va_get (D := D) (ci := 7) (fs := vX7 ad F) (v := .ref (ad 2)) (C := RX7) (T := TX7) (N := 6) hx hb hts n_7 hown hK hP 0 wCg0 rfl 1 (by decide) k_0 (fun _ h9 => h9) rfl dX7_man_65 ?_
      refine va_get (D := D) (ci := 2) (fs := vX2 ad F) (v := .ref (ad 5)) (C := RX2) (T := TX2) (N := 8) hx hb hts n_2 hown hK hP 2 wCg2 rfl 2 (by decide) k_5 (fun _ h9 => h9) rfl dX7_man_68 ?_
      refine lv_iload_n hx hb dX7_man_71 rfl (lv_at hl 1 rfl) ?_
      obtain ⟨g72, h⟩ := og h
      refine va_iald (D := D) hx hb hK hP 5 0 wCg5 rfl (inB_in g72) dX7_man_72 ?_
      exact hret _ _ _ _ _ dX7_man_73 h hP hD hS
    replace h := ifn h c10_2
    by_cases c10_3 : a2 = 3
    · replace h := ifp h c10_3
      refine lv_tableIn (off := 64) (tgt := 74) hx hb dX7_man_10 (by rw [c10_3]; decide) (by rw [c10_3]; decide) (by rw [c10_3]; decide) (by decide) ?_
      refine lv_aload_n hx hb dX7_man_74 rfl (lv_at hl 0 rfl) ?_
      refine va_get (D := D) (ci := 7) (fs := vX7 ad F) (v := .ref (ad 2)) (C := RX7) (T := TX7) (N := 6) hx hb hts n_7 hown hK hP 0 wCg0 rfl 1 (by decide) k_0 (fun _ h9 => h9) rfl dX7_man_75 ?_
      refine va_get (D := D) (ci := 2) (fs := vX2 ad F) (v := .ref (ad 6)) (C := RX2) (T := TX2) (N := 8) hx hb hts n_2 hown hK hP 2 wCg2 rfl 3 (by decide) k_6 (fun _ h9 => h9) rfl dX7_man_78 ?_
      refine lv_iload_n hx hb dX7_man_81 rfl (lv_at hl 1 rfl) ?_
      obtain ⟨g82, h⟩ := og h
      refine va_iald (D := D) hx hb hK hP 6 0 wCg6 rfl (inB_in g82) dX7_man_82 ?_
      exact hret _ _ _ _ _ dX7_man_83 h hP hD hS
    replace h := ifn h c10_3
    by_cases c10_4 : a2 = 4
    · replace h := ifp h c10_4
      refine lv_tableIn (off := 74) (tgt := 84) hx hb dX7_man_10 (by rw [c10_4]; decide) (by rw [c10_4]; decide) (by rw [c10_4]; decide) (by decide) ?_
      refine lv_aload_n hx hb dX7_man_84 rfl (lv_at hl 0 rfl) ?_
      refine va_get (D := D) (ci := 7) (fs := vX7 ad F) (v := .ref (ad 2)) (C := RX7) (T := TX7) (N := 6) hx hb hts n_7 hown hK hP 0 wCg0 rfl 1 (by decide) k_0 (fun _ h9 => h9) rfl dX7_man_85 ?_
      refine va_get (D := D) (ci := 2) (fs := vX2 ad F) (v := .ref (ad 7)) (C := RX2) (T := TX2) (N := 8) hx hb hts n_2 hown hK hP 2 wCg2 rfl 4 (by decide) k_7 (fun _ h9 => h9) rfl dX7_man_88 ?_
      refine lv_iload_n hx hb dX7_man_91 rfl (lv_at hl 1 rfl) ?_
      obtain ⟨g92, h⟩ := og h
      refine va_iald (D := D) hx hb hK hP 7 0 wCg7 rfl (inB_in g92) dX7_man_92 ?_
      exact hret _ _ _ _ _ dX7_man_93 h hP hD hS
    replace h := ifn h c10_4
    have ic10_0 : a2.toInt ≠ 0 := ne_toInt c10_0
    have ic10_1 : a2.toInt ≠ 1 := ne_toInt c10_1
    have ic10_2 : a2.toInt ≠ 2 := ne_toInt c10_2
    have ic10_3 : a2.toInt ≠ 3 := ne_toInt c10_3
    have ic10_4 : a2.toInt ≠ 4 := ne_toInt c10_4
    refine lv_tableOut (tgt := 94) hx hb dX7_man_10 (by omega) (by decide) ?_
    refine lv_bipush (v := (-2)) hx hb dX7_man_94 (by decide) ?_
    exact hret _ _ _ _ _ dX7_man_96 h hP hD hS
  · replace h := ifp h c4
    refine lv_iconst (v := (-1)) hx hb dX7_man_7 (by decide) ?_
    exact hret _ _ _ _ _ dX7_man_8 h hP hD hS

def p_X7_toil (F : tF) (G : tG) (a1 : Int32) : Option (tF × tG) :=
  oguard (inB a1 6) (plet (G 4 a1.toNatClampNeg) (fun (x9 : Int32) => bi1 (p_X6_has F x9) (fun x15 => (if x15 = 0 then some (F, G) else oguard (inB x9 12) (oguard (inB a1 6) (bi2 ((if (G 6 x9.toNatClampNeg) = (G 1 a1.toNatClampNeg) then bi1 (p_X6_canBeWorked F G x9) (fun x48 => (if x48 = 0 then some (F, G) else bi2 (p_X6_workMinute F G x9) (fun F59 G59 => some (F59, G59)))) else some (F, G))) (fun (F40j : tF) (G40j : tG) => some (F40j, G40j))))))))
set_option maxHeartbeats 4000000 in
set_option maxRecDepth 100000 in
theorem c_X7_toil (l : Launch) (D : va_G) (ad : Nat → Nat) (cA : ClassId) (n : Nat) (F : tF) (G : tG) (a1 : Int32) {F' : tF} {G' : tG} (h : p_X7_toil F G a1 = some (F', G')) : CV l yX7_toil wsX7_toil ({ frames := 2, cells := 0, slots := 0, locals := 43 } : Room) D cA (wC ad cA F G) [.ref (ad 0), .int (a1)] (wC ad cA F' G') := by
  rw [p_X7_toil] at h
  refine metVm (w := wC ad cA) (cc := cX7_toil) (maxL := 3) (by decide) rfl (Nat.le_of_ble_eq_true rfl) ?_
  intro p e s m args below meth c A ls Q hE hret
  obtain ⟨hx, hb, hts, hown, hml, hP, hK, hD, hN, hA, hl⟩ := hE
  have hown : s.vm.findClass RX7 = some m.cls := hown
  have hl : lv_has ls 3 [(0, .ref (ad 0)), (1, .int (a1))] := hl
  have hS : va_S A s.heap s.heap [] := va_S.rf
  have k_0 : (Cond.fieldLink RX7 19 "BellBook" "crew" "LBellBook$Crew;").before args s = true := hts _ (List.mem_of_getElem? (i := 1) rfl)
  have n_7 : ∀ w ∈ u_ws RX7 TX7 6, w ∈ wsX7_toil := fun w hw => List.mem_cons_of_mem _ (List.mem_append_left _ (List.mem_append_left _ (List.mem_append_right _ hw)))
  have k_2 : (Cond.fieldLink RX7 181 "BellBook$Crew" "task" "[I").before args s = true := hts _ (List.mem_of_getElem? (i := 2) rfl)
  have n_2 : ∀ w ∈ u_ws RX2 TX2 8, w ∈ wsX7_toil := fun w hw => List.mem_cons_of_mem _ (List.mem_append_left _ (List.mem_append_right _ hw))
  have k_4 : (Cond.fieldLink RX7 26 "BellBook" "wreck" "LBellBook$Wreck;").before args s = true := hts _ (List.mem_of_getElem? (i := 3) rfl)
  have k_5 : (Cond.fieldLink RX7 215 "BellBook$Wreck" "square" "[I").before args s = true := hts _ (List.mem_of_getElem? (i := 4) rfl)
  have n_6 : ∀ w ∈ u_ws RX6 TX6 12, w ∈ wsX7_toil := fun w hw => List.mem_cons_of_mem _ (List.mem_append_right _ hw)
  have k_7 : (Cond.fieldLink RX7 175 "BellBook$Crew" "square" "[I").before args s = true := hts _ (List.mem_of_getElem? (i := 5) rfl)
  refine lv_aload_n hx hb dX7_toil_0 rfl (lv_at hl 0 rfl) ?_
  refine va_get (D := D) (ci := 7) (fs := vX7 ad F) (v := .ref (ad 2)) (C := RX7) (T := TX7) (N := 6) hx hb hts n_7 hown hK hP 0 wCg0 rfl 1 (by decide) k_0 (fun _ h9 => h9) rfl dX7_toil_1 ?_
  refine va_get (D := D) (ci := 2) (fs := vX2 ad F) (v := .ref (ad 7)) (C := RX2) (T := TX2) (N := 8) hx hb hts n_2 hown hK hP 2 wCg2 rfl 4 (by decide) k_2 (fun _ h9 => h9) rfl dX7_toil_4 ?_
  refine lv_iload_n hx hb dX7_toil_7 rfl (lv_at hl 1 rfl) ?_
  obtain ⟨g8, h⟩ := og h
  refine va_iald (D := D) hx hb hK hP 7 0 wCg7 rfl (inB_in g8) dX7_toil_8 ?_
  refine lv_topi (fun x9 ex9 => ?_)
  replace h := pl h ex9
  refine lv_istore_n (lv' := [(2, .int (x9)), (0, .ref (ad 0)), (1, .int (a1))]) hx hb dX7_toil_9 rfl hl (by decide) rfl (fun ls hl => ?_)
  refine lv_aload_n hx hb dX7_toil_10 rfl (lv_at hl 1 rfl) ?_
  refine va_get (D := D) (ci := 7) (fs := vX7 ad F) (v := .ref (ad 9)) (C := RX7) (T := TX7) (N := 6) hx hb hts n_7 hown hK hP 0 wCg0 rfl 2 (by decide) k_4 (fun _ h9 => h9) rfl dX7_toil_11 ?_
  refine lv_iload_n hx hb dX7_toil_14 rfl (lv_at hl 0 rfl) ?_
  obtain ⟨x15, h15, h⟩ := bi1e h
  refine callVI (b := ad 9) (As := [.int (x9)]) (rest := []) ⟨hx, hb, hml, hown, hts⟩ (c_X6_has l D ad cA n F G x9 h15) (cwV 1 hts gX7_toil_X6_has rfl rfl rfl (by decide +kernel) ⟨Nat.le_of_ble_eq_true rfl, Nat.le_of_ble_eq_true rfl⟩) (va_recv hK hP (ci := 6) (q0 := 9) rfl wCg9) hP hK hD hN hS hA rfl hl.1 rfl (Nat.le_of_ble_eq_true rfl) dX7_toil_15 ⟨Nat.zero_le _, Nat.zero_le _⟩ (fun H locs hP hD hS => ?_)
  refine lv_if_ne (tgt := 22) hx hb dX7_toil_18 (by decide) (fun c18 => ?_) (fun c18 => ?_)
  · replace h := ifn h c18
    refine lv_aload_n hx hb dX7_toil_22 rfl (lv_at hl 1 rfl) ?_
    refine va_get (D := D) (ci := 7) (fs := vX7 ad F) (v := .ref (ad 9)) (C := RX7) (T := TX7) (N := 6) hx hb hts n_7 hown hK hP 0 wCg0 rfl 2 (by decide) k_4 (fun _ h9 => h9) rfl dX7_toil_23 ?_
    refine va_get (D := D) (ci := 6) (fs := vX6 ad F) (v := .ref (ad 10)) (C := RX6) (T := TX6) (N := 12) hx hb hts n_6 hown hK hP 9 wCg9 rfl 0 (by decide) k_5 (fun _ h9 => h9) rfl dX7_toil_26 ?_
    refine lv_iload_n hx hb dX7_toil_29 rfl (lv_at hl 0 rfl) ?_
    obtain ⟨g30, h⟩ := og h
    refine va_iald (D := D) hx hb hK hP 10 0 wCg10 rfl (inB_in g30) dX7_toil_30 ?_
    refine lv_aload_n hx hb dX7_toil_31 rfl (lv_at hl 1 rfl) ?_
    refine va_get (D := D) (ci := 7) (fs := vX7 ad F) (v := .ref (ad 2)) (C := RX7) (T := TX7) (N := 6) hx hb hts n_7 hown hK hP 0 wCg0 rfl 1 (by decide) k_0 (fun _ h9 => h9) rfl dX7_toil_32 ?_
    refine va_get (D := D) (ci := 2) (fs := vX2 ad F) (v := .ref (ad 4)) (C := RX2) (T := TX2) (N := 8) hx hb hts n_2 hown hK hP 2 wCg2 rfl 1 (by decide) k_7 (fun _ h9 => h9) rfl dX7_toil_35 ?_
    refine lv_iload_n hx hb dX7_toil_38 rfl (lv_at hl 2 rfl) ?_
    obtain ⟨g39, h⟩ := og h
    refine va_iald (D := D) hx hb hK hP 4 0 wCg4 rfl (inB_in g39) dX7_toil_39 ?_
    obtain ⟨F40j, G40j, q40, h⟩ := bi2e h
    have J40 : ∀ (wF40j : tF) (wG40j : tG), some (wF40j, wG40j) = some (F40j, G40j) → ∀ (H : Heap) (locs : List Loc) (ls : Array Slot), va_P D vwCl (wC ad cA wF40j wG40j) H → va_D A (wC ad cA wF40j wG40j) → va_S A s.heap H locs → lv_has ls 3 [(2, .int (x9)), (0, .ref (ad 0)), (1, .int (a1))] → W p l e ({ frames := 2, cells := 0, slots := 0, locals := 43 } : Room) s m args below meth c H locs 0 0 Q (F0 m 62 ls []) := by
      intro wF40j wG40j e9 H locs ls hP hD hS hl
      cases e9
      exact hret _ _ _ _ _ _ dX7_toil_62 h hP hD hS
    refine lv_icmp_ne (tgt := 62) hx hb dX7_toil_40 (by decide) (fun c40 => ?_) (fun c40 => ?_)
    · replace q40 := ifn q40 c40
      exact J40 _ _ q40 _ _ _ hP hD hS (lv_sub hl [0, 1, 2] rfl)
    · replace q40 := ifp q40 c40
      refine lv_aload_n hx hb dX7_toil_43 rfl (lv_at hl 1 rfl) ?_
      refine va_get (D := D) (ci := 7) (fs := vX7 ad F) (v := .ref (ad 9)) (C := RX7) (T := TX7) (N := 6) hx hb hts n_7 hown hK hP 0 wCg0 rfl 2 (by decide) k_4 (fun _ h9 => h9) rfl dX7_toil_44 ?_
      refine lv_iload_n hx hb dX7_toil_47 rfl (lv_at hl 0 rfl) ?_
      obtain ⟨x48, h48, q40⟩ := bi1e q40
      refine callVI (b := ad 9) (As := [.int (x9)]) (rest := []) ⟨hx, hb, hml, hown, hts⟩ (c_X6_canBeWorked l D ad cA n F G x9 h48) (cwV 1 hts gX7_toil_X6_canBeWorked rfl rfl rfl (by decide +kernel) ⟨Nat.le_of_ble_eq_true rfl, Nat.le_of_ble_eq_true rfl⟩) (va_recv hK hP (ci := 6) (q0 := 9) rfl wCg9) hP hK hD hN hS hA rfl hl.1 rfl (Nat.le_of_ble_eq_true rfl) dX7_toil_48 ⟨Nat.zero_le _, Nat.zero_le _⟩ (fun H locs hP hD hS => ?_)
      refine lv_if_eq (tgt := 62) hx hb dX7_toil_51 (by decide) (fun c51 => ?_) (fun c51 => ?_)
      · replace q40 := ifp q40 c51
        exact J40 _ _ q40 _ _ _ hP hD hS (lv_sub hl [0, 1, 2] rfl)
      · replace q40 := ifn q40 c51
        refine lv_aload_n hx hb dX7_toil_54 rfl (lv_at hl 1 rfl) ?_
        refine va_get (D := D) (ci := 7) (fs := vX7 ad F) (v := .ref (ad 9)) (C := RX7) (T := TX7) (N := 6) hx hb hts n_7 hown hK hP 0 wCg0 rfl 2 (by decide) k_4 (fun _ h9 => h9) rfl dX7_toil_55 ?_
        refine lv_iload_n hx hb dX7_toil_58 rfl (lv_at hl 0 rfl) ?_
        obtain ⟨F59, G59, h59, q40⟩ := bi2e q40
        refine callVV (b := ad 9) (As := [.int (x9)]) (rest := []) ⟨hx, hb, hml, hown, hts⟩ (c_X6_workMinute l D ad cA n F G x9 h59) (cwV 1 hts gX7_toil_X6_workMinute rfl rfl rfl (by decide +kernel) ⟨Nat.le_of_ble_eq_true rfl, Nat.le_of_ble_eq_true rfl⟩) (va_recv hK hP (ci := 6) (q0 := 9) rfl wCg9) hP hK hD hN hS hA rfl hl.1 rfl (Nat.le_of_ble_eq_true rfl) dX7_toil_59 ⟨Nat.zero_le _, Nat.zero_le _⟩ (fun H locs hP hD hS => ?_)
        exact J40 _ _ q40 _ _ _ hP hD hS (lv_sub hl [0, 1, 2] rfl)
  · replace h := ifp h c18
    exact hret _ _ _ _ _ _ dX7_toil_21 h hP hD hS

def p_X7_passMinute_L12 (n : Nat) (K12 : Int32 → tF → tG → Option (tF × tG)) : Nat → Int32 → tF → tG → Option (tF × tG)
  | 0, _, _, _ => none
  | k12 + 1, z12_0, F12l, G12l => (if 6 ≤ z12_0 then K12 z12_0 F12l G12l else oguard (inB z12_0 6) (bi2 ((if (G12l 0 z12_0.toNatClampNeg) = 0 then some (F12l, G12l) else bi2 (p_X0_breathe F12l G12l) (fun F34 G34 => some (F34, G34)))) (fun (F27j : tF) (G27j : tG) => oguard (inB z12_0 6) (bi2 ((if (G27j 0 z12_0.toNatClampNeg) = 2 then bi3 (p_X2_countMinuteOut n F27j G27j z12_0) (fun x55 F55 G55 => bi1 ((if x55 = 0 then some (F55) else plet (upd F55 10 ((F55 10) + 1)) (fun (F71 : tF) => some (F71)))) (fun (F58j : tF) => bi2 (p_X7_toil F58j G55 z12_0) (fun F76 G76 => some (F76, G76)))) else some (F27j, G27j))) (fun (F47j : tF) (G47j : tG) => plet (z12_0 + 1) (fun (x79 : Int32) => p_X7_passMinute_L12 n K12 k12 x79 F47j G47j))))))
theorem p_X7_passMinute_L12_k {n : Nat} {K0 : Int32 → tF → tG → Option (tF × tG)} {k : Nat} {z12_0 : Int32} {F12l : tF} {G12l : tG} {x : tF × tG} (h : p_X7_passMinute_L12 n K0 k z12_0 F12l G12l = some x) : ∃ K, K = K0 ∧ p_X7_passMinute_L12 n K k z12_0 F12l G12l = some x := ⟨K0, rfl, h⟩
def p_X7_passMinute (n : Nat) (F : tF) (G : tG) : Option (tF × tG) :=
  plet (upd F 0 ((F 0) + 1)) (fun (F7 : tF) => p_X7_passMinute_L12 n (fun (z12_0 : Int32) (F12l : tF) (G12l : tG) => some (F12l, G12l)) n 0 F7 G)
set_option maxHeartbeats 4000000 in
set_option maxRecDepth 100000 in
theorem c_X7_passMinute (l : Launch) (D : va_G) (ad : Nat → Nat) (cA : ClassId) (n : Nat) (F : tF) (G : tG) {F' : tF} {G' : tG} (h : p_X7_passMinute n F G = some (F', G')) : CV l yX7_passMinute wsX7_passMinute ({ frames := 3, cells := 0, slots := 0, locals := 66 } : Room) D cA (wC ad cA F G) [.ref (ad 0)] (wC ad cA F' G') := by
  rw [p_X7_passMinute] at h
  refine metVm (w := wC ad cA) (cc := cX7_passMinute) (maxL := 2) (by decide) rfl (Nat.le_of_ble_eq_true rfl) ?_
  intro p e s m args below meth c A ls Q hE hret
  obtain ⟨hx, hb, hts, hown, hml, hP, hK, hD, hN, hA, hl⟩ := hE
  have hown : s.vm.findClass RX7 = some m.cls := hown
  have hl : lv_has ls 2 [(0, .ref (ad 0))] := hl
  have hS : va_S A s.heap s.heap [] := va_S.rf
  have k_0 : (Cond.fieldLink RX7 44 "BellBook" "minute" "I").before args s = true := hts _ (List.mem_of_getElem? (i := 1) rfl)
  have n_7 : ∀ w ∈ u_ws RX7 TX7 6, w ∈ wsX7_passMinute := fun w hw => List.mem_cons_of_mem _ (List.mem_append_left _ (List.mem_append_left _ (List.mem_append_left _ (List.mem_append_right _ hw))))
  have k_2 : (Cond.fieldLink RX7 19 "BellBook" "crew" "LBellBook$Crew;").before args s = true := hts _ (List.mem_of_getElem? (i := 2) rfl)
  have k_3 : (Cond.fieldLink RX7 136 "BellBook$Crew" "where" "[I").before args s = true := hts _ (List.mem_of_getElem? (i := 3) rfl)
  have n_2 : ∀ w ∈ u_ws RX2 TX2 8, w ∈ wsX7_passMinute := fun w hw => List.mem_cons_of_mem _ (List.mem_append_left _ (List.mem_append_left _ (List.mem_append_right _ hw)))
  have k_5 : (Cond.fieldLink RX7 12 "BellBook" "bell" "LBellBook$Bell;").before args s = true := hts _ (List.mem_of_getElem? (i := 4) rfl)
  have k_6 : (Cond.fieldLink RX7 95 "BellBook$Bell" "stayLacks" "I").before args s = true := hts _ (List.mem_of_getElem? (i := 5) rfl)
  have n_0 : ∀ w ∈ u_ws RX0 TX0 12, w ∈ wsX7_passMinute := fun w hw => List.mem_cons_of_mem _ (List.mem_append_left _ (List.mem_append_right _ hw))
  refine lv_aload_n hx hb dX7_passMinute_0 rfl (lv_at hl 0 rfl) ?_
  refine lv_dup hx hb dX7_passMinute_1 rfl ?_
  refine va_get (D := D) (ci := 7) (fs := vX7 ad F) (v := .int ((F 0))) (C := RX7) (T := TX7) (N := 6) hx hb hts n_7 hown hK hP 0 wCg0 rfl 5 (by decide) k_0 (fun _ h9 => h9) rfl dX7_passMinute_2 ?_
  refine lv_iconst (v := 1) hx hb dX7_passMinute_5 (by decide) ?_
  refine lv_iadd hx hb dX7_passMinute_6 ?_
  obtain ⟨F7, eF7⟩ : ∃ f : tF, f = upd F 0 ((F 0) + 1) := ⟨_, rfl⟩
  replace h := pl h eF7
  refine va_put (D := D) (ci := 7) (fs := vX7 ad F) (v := .int (((F 0) + 1))) (ty := .int) (C := RX7) (T := TX7) (N := 6) hx hb hts n_7 tyX7 tyX7_ok nmX7 hown hK hP hD hS 0 wCg0 rfl 5 (by decide) k_0 (fun _ h9 => h9) rfl (tyX7_ok 5 (by decide)) rfl rfl (Nat.le_of_ble_eq_true rfl) dX7_passMinute_7 (fun H locs hP hD hS => ?_)
  rw [wCp0 eF7] at hP hD
  refine lv_iconst (v := 0) hx hb dX7_passMinute_10 (by decide) ?_
  refine lv_istore_n (lv' := [(1, .int (0)), (0, .ref (ad 0))]) hx hb dX7_passMinute_11 rfl hl (by decide) rfl (fun ls hl => ?_)
  obtain ⟨K12, eK12, h⟩ := p_X7_passMinute_L12_k h
  have JE12 : ∀ (z12_0 : Int32) (F12l : tF) (G12l : tG) (H : Heap) (locs : List Loc) (ls : Array Slot), K12 z12_0 F12l G12l = some (F', G') → va_P D vwCl (wC ad cA F12l G12l) H → va_D A (wC ad cA F12l G12l) → va_S A s.heap H locs → lv_has ls 2 [(1, .int (z12_0)), (0, .ref (ad 0))] → W p l e ({ frames := 3, cells := 0, slots := 0, locals := 66 } : Room) s m args below meth c H locs 0 0 Q (F0 m 85 ls []) := by
    intro z12_0 F12l G12l H locs ls h hP hD hS hl
    rw [eK12] at h
    exact hret _ _ _ _ _ _ dX7_passMinute_85 h hP hD hS
  have LL12 : ∀ (k : Nat) (z12_0 : Int32) (F12l : tF) (G12l : tG) (H : Heap) (locs : List Loc) (ls : Array Slot), p_X7_passMinute_L12 n K12 k z12_0 F12l G12l = some (F', G') → va_P D vwCl (wC ad cA F12l G12l) H → va_D A (wC ad cA F12l G12l) → va_S A s.heap H locs → lv_has ls 2 [(1, .int (z12_0)), (0, .ref (ad 0))] → W p l e ({ frames := 3, cells := 0, slots := 0, locals := 66 } : Room) s m args below meth c H locs 0 0 Q (F0 m 12 ls []) := by
    intro k
    induction k with
    | zero =>
      intro z12_0 F12l G12l H locs ls h hP hD hS hl
      rw [p_X7_passMinute_L12] at h
      cases h
    | succ k12 ih12 =>
      intro z12_0 F12l G12l H locs ls h hP hD hS hl
      rw [p_X7_passMinute_L12] at h
      refine lv_iload_n hx hb dX7_passMinute_12 rfl (lv_at hl 0 rfl) ?_
      refine lv_bipush (v := 6) hx hb dX7_passMinute_13 (by decide) ?_
      refine lv_icmp_ge (tgt := 85) hx hb dX7_passMinute_15 (by decide) (fun c15 => ?_) (fun c15 => ?_)
      · replace h := ifp h c15
        exact JE12 _ _ _ _ _ _ h hP hD hS (lv_sub hl [0, 1] rfl)
      · replace h := ifn h c15
        refine lv_aload_n hx hb dX7_passMinute_18 rfl (lv_at hl 1 rfl) ?_
        refine va_get (D := D) (ci := 7) (fs := vX7 ad F12l) (v := .ref (ad 2)) (C := RX7) (T := TX7) (N := 6) hx hb hts n_7 hown hK hP 0 wCg0 rfl 1 (by decide) k_2 (fun _ h9 => h9) rfl dX7_passMinute_19 ?_
        refine va_get (D := D) (ci := 2) (fs := vX2 ad F12l) (v := .ref (ad 3)) (C := RX2) (T := TX2) (N := 8) hx hb hts n_2 hown hK hP 2 wCg2 rfl 0 (by decide) k_3 (fun _ h9 => h9) rfl dX7_passMinute_22 ?_
        refine lv_iload_n hx hb dX7_passMinute_25 rfl (lv_at hl 0 rfl) ?_
        obtain ⟨g26, h⟩ := og h
        refine va_iald (D := D) hx hb hK hP 3 0 wCg3 rfl (inB_in g26) dX7_passMinute_26 ?_
        obtain ⟨F27j, G27j, q27, h⟩ := bi2e h
        have J27 : ∀ (wF27j : tF) (wG27j : tG), some (wF27j, wG27j) = some (F27j, G27j) → ∀ (H : Heap) (locs : List Loc) (ls : Array Slot), va_P D vwCl (wC ad cA wF27j wG27j) H → va_D A (wC ad cA wF27j wG27j) → va_S A s.heap H locs → lv_has ls 2 [(1, .int (z12_0)), (0, .ref (ad 0))] → W p l e ({ frames := 3, cells := 0, slots := 0, locals := 66 } : Room) s m args below meth c H locs 0 0 Q (F0 m 37 ls []) := by
          intro wF27j wG27j e9 H locs ls hP hD hS hl
          cases e9
          refine lv_aload_n hx hb dX7_passMinute_37 rfl (lv_at hl 1 rfl) ?_
          refine va_get (D := D) (ci := 7) (fs := vX7 ad F27j) (v := .ref (ad 2)) (C := RX7) (T := TX7) (N := 6) hx hb hts n_7 hown hK hP 0 wCg0 rfl 1 (by decide) k_2 (fun _ h9 => h9) rfl dX7_passMinute_38 ?_
          refine va_get (D := D) (ci := 2) (fs := vX2 ad F27j) (v := .ref (ad 3)) (C := RX2) (T := TX2) (N := 8) hx hb hts n_2 hown hK hP 2 wCg2 rfl 0 (by decide) k_3 (fun _ h9 => h9) rfl dX7_passMinute_41 ?_
          refine lv_iload_n hx hb dX7_passMinute_44 rfl (lv_at hl 0 rfl) ?_
          obtain ⟨g45, h⟩ := og h
          refine va_iald (D := D) hx hb hK hP 3 0 wCg3 rfl (inB_in g45) dX7_passMinute_45 ?_
          refine lv_iconst (v := 2) hx hb dX7_passMinute_46 (by decide) ?_
          obtain ⟨F47j, G47j, q47, h⟩ := bi2e h
          have J47 : ∀ (wF47j : tF) (wG47j : tG), some (wF47j, wG47j) = some (F47j, G47j) → ∀ (H : Heap) (locs : List Loc) (ls : Array Slot), va_P D vwCl (wC ad cA wF47j wG47j) H → va_D A (wC ad cA wF47j wG47j) → va_S A s.heap H locs → lv_has ls 2 [(1, .int (z12_0)), (0, .ref (ad 0))] → W p l e ({ frames := 3, cells := 0, slots := 0, locals := 66 } : Room) s m args below meth c H locs 0 0 Q (F0 m 79 ls []) := by
            intro wF47j wG47j e9 H locs ls hP hD hS hl
            cases e9
            obtain ⟨x79, ex79⟩ : ∃ z : Int32, z = (z12_0 + 1) := ⟨_, rfl⟩
            replace h := pl h ex79
            refine lv_iinc (v := x79) (lv' := [(1, .int (x79)), (0, .ref (ad 0))]) hx hb dX7_passMinute_79 hl (k := 0) rfl (by rw [ex79]; rfl) (by decide) rfl (fun ls hl => ?_)
            refine lv_goto (tgt := 12) hx hb dX7_passMinute_82 (by decide) ?_
            exact ih12 _ _ _ _ _ _ h hP hD hS (lv_sub hl [0, 1] rfl)
          refine lv_icmp_ne (tgt := 79) hx hb dX7_passMinute_47 (by decide) (fun c47 => ?_) (fun c47 => ?_)
          · replace q47 := ifn q47 c47
            exact J47 _ _ q47 _ _ _ hP hD hS (lv_sub hl [0, 1] rfl)
          · replace q47 := ifp q47 c47
            refine lv_aload_n hx hb dX7_passMinute_50 rfl (lv_at hl 1 rfl) ?_
            refine va_get (D := D) (ci := 7) (fs := vX7 ad F27j) (v := .ref (ad 2)) (C := RX7) (T := TX7) (N := 6) hx hb hts n_7 hown hK hP 0 wCg0 rfl 1 (by decide) k_2 (fun _ h9 => h9) rfl dX7_passMinute_51 ?_
            refine lv_iload_n hx hb dX7_passMinute_54 rfl (lv_at hl 0 rfl) ?_
            obtain ⟨x55, F55, G55, h55, q47⟩ := bi3e q47
            refine callVI (b := ad 2) (As := [.int (z12_0)]) (rest := []) ⟨hx, hb, hml, hown, hts⟩ (c_X2_countMinuteOut l D ad cA n F27j G27j z12_0 h55) (cwV 1 hts gX7_passMinute_X2_countMinuteOut rfl rfl rfl (by decide +kernel) ⟨Nat.le_of_ble_eq_true rfl, Nat.le_of_ble_eq_true rfl⟩) (va_recv hK hP (ci := 2) (q0 := 2) rfl wCg2) hP hK hD hN hS hA rfl hl.1 rfl (Nat.le_of_ble_eq_true rfl) dX7_passMinute_55 ⟨Nat.zero_le _, Nat.zero_le _⟩ (fun H locs hP hD hS => ?_)
            obtain ⟨F58j, q58, q47⟩ := bi1e q47
            have J58 : ∀ (wF58j : tF), some (wF58j) = some (F58j) → ∀ (H : Heap) (locs : List Loc) (ls : Array Slot), va_P D vwCl (wC ad cA wF58j G55) H → va_D A (wC ad cA wF58j G55) → va_S A s.heap H locs → lv_has ls 2 [(1, .int (z12_0)), (0, .ref (ad 0))] → W p l e ({ frames := 3, cells := 0, slots := 0, locals := 66 } : Room) s m args below meth c H locs 0 0 Q (F0 m 74 ls []) := by
              intro wF58j e9 H locs ls hP hD hS hl
              cases e9
              refine lv_aload_n hx hb dX7_passMinute_74 rfl (lv_at hl 1 rfl) ?_
              refine lv_iload_n hx hb dX7_passMinute_75 rfl (lv_at hl 0 rfl) ?_
              obtain ⟨F76, G76, h76, q47⟩ := bi2e q47
              refine callVV (b := ad 0) (As := [.int (z12_0)]) (rest := []) ⟨hx, hb, hml, hown, hts⟩ (c_X7_toil l D ad cA n F58j G55 z12_0 h76) (cwV 1 hts gX7_passMinute_X7_toil rfl rfl rfl (by decide +kernel) ⟨Nat.le_of_ble_eq_true rfl, Nat.le_of_ble_eq_true rfl⟩) (va_recv hK hP (ci := 7) (q0 := 0) rfl wCg0) hP hK hD hN hS hA rfl hl.1 rfl (Nat.le_of_ble_eq_true rfl) dX7_passMinute_76 ⟨Nat.zero_le _, Nat.zero_le _⟩ (fun H locs hP hD hS => ?_)
              exact J47 _ _ q47 _ _ _ hP hD hS (lv_sub hl [0, 1] rfl)
            refine lv_if_eq (tgt := 74) hx hb dX7_passMinute_58 (by decide) (fun c58 => ?_) (fun c58 => ?_)
            · replace q58 := ifp q58 c58
              exact J58 _ q58 _ _ _ hP hD hS (lv_sub hl [0, 1] rfl)
            · replace q58 := ifn q58 c58
              refine lv_aload_n hx hb dX7_passMinute_61 rfl (lv_at hl 1 rfl) ?_
              refine va_get (D := D) (ci := 7) (fs := vX7 ad F55) (v := .ref (ad 1)) (C := RX7) (T := TX7) (N := 6) hx hb hts n_7 hown hK hP 0 wCg0 rfl 0 (by decide) k_5 (fun _ h9 => h9) rfl dX7_passMinute_62 ?_
              refine lv_dup hx hb dX7_passMinute_65 rfl ?_
              refine va_get (D := D) (ci := 0) (fs := vX0 ad F55) (v := .int ((F55 10))) (C := RX0) (T := TX0) (N := 12) hx hb hts n_0 hown hK hP 1 wCg1 rfl 9 (by decide) k_6 (fun _ h9 => h9) rfl dX7_passMinute_66 ?_
              refine lv_iconst (v := 1) hx hb dX7_passMinute_69 (by decide) ?_
              refine lv_iadd hx hb dX7_passMinute_70 ?_
              obtain ⟨F71, eF71⟩ : ∃ f : tF, f = upd F55 10 ((F55 10) + 1) := ⟨_, rfl⟩
              replace q58 := pl q58 eF71
              refine va_put (D := D) (ci := 0) (fs := vX0 ad F55) (v := .int (((F55 10) + 1))) (ty := .int) (C := RX0) (T := TX0) (N := 12) hx hb hts n_0 tyX0 tyX0_ok nmX0 hown hK hP hD hS 1 wCg1 rfl 9 (by decide) k_6 (fun _ h9 => h9) rfl (tyX0_ok 9 (by decide)) rfl rfl (Nat.le_of_ble_eq_true rfl) dX7_passMinute_71 (fun H locs hP hD hS => ?_)
              rw [wCp10 eF71] at hP hD
              exact J58 _ q58 _ _ _ hP hD hS (lv_sub hl [0, 1] rfl)
        refine lv_if_eq (tgt := 37) hx hb dX7_passMinute_27 (by decide) (fun c27 => ?_) (fun c27 => ?_)
        · replace q27 := ifp q27 c27
          exact J27 _ _ q27 _ _ _ hP hD hS (lv_sub hl [0, 1] rfl)
        · replace q27 := ifn q27 c27
          refine lv_aload_n hx hb dX7_passMinute_30 rfl (lv_at hl 1 rfl) ?_
          refine va_get (D := D) (ci := 7) (fs := vX7 ad F12l) (v := .ref (ad 1)) (C := RX7) (T := TX7) (N := 6) hx hb hts n_7 hown hK hP 0 wCg0 rfl 0 (by decide) k_5 (fun _ h9 => h9) rfl dX7_passMinute_31 ?_
          obtain ⟨F34, G34, h34, q27⟩ := bi2e q27
          refine callVV (b := ad 1) (As := []) (rest := []) ⟨hx, hb, hml, hown, hts⟩ (c_X0_breathe l D ad cA n F12l G12l h34) (cwV 0 hts gX7_passMinute_X0_breathe rfl rfl rfl (by decide +kernel) ⟨Nat.le_of_ble_eq_true rfl, Nat.le_of_ble_eq_true rfl⟩) (va_recv hK hP (ci := 0) (q0 := 1) rfl wCg1) hP hK hD hN hS hA rfl hl.1 rfl (Nat.le_of_ble_eq_true rfl) dX7_passMinute_34 ⟨Nat.zero_le _, Nat.zero_le _⟩ (fun H locs hP hD hS => ?_)
          exact J27 _ _ q27 _ _ _ hP hD hS (lv_sub hl [0, 1] rfl)
  exact LL12 n 0 F7 G _ _ _ h hP hD hS (lv_sub hl [0, 1] rfl)

def p_X7_minutes_L32 (n : Nat) (a1 : Int32) (K32 : Int32 → tF → tG → Option (Int32 × tF × tG)) : Nat → Int32 → tF → tG → Option (Int32 × tF × tG)
  | 0, _, _, _ => none
  | k32 + 1, z32_0, F32l, G32l => (if a1 ≤ z32_0 then K32 z32_0 F32l G32l else bi2 (p_X7_passMinute n F32l G32l) (fun F38 G38 => plet (z32_0 + 1) (fun (x41 : Int32) => p_X7_minutes_L32 n a1 K32 k32 x41 F38 G38)))
theorem p_X7_minutes_L32_k {n : Nat} {a1 : Int32} {K0 : Int32 → tF → tG → Option (Int32 × tF × tG)} {k : Nat} {z32_0 : Int32} {F32l : tF} {G32l : tG} {x : Int32 × tF × tG} (h : p_X7_minutes_L32 n a1 K0 k z32_0 F32l G32l = some x) : ∃ K, K = K0 ∧ p_X7_minutes_L32 n a1 K k z32_0 F32l G32l = some x := ⟨K0, rfl, h⟩
def p_X7_minutes (n : Nat) (F : tF) (G : tG) (a1 : Int32) : Option (Int32 × tF × tG) :=
  bi1 (p_X7_within a1 1 200) (fun x5 => (if x5 = 0 then some ((-2), F, G) else plet ((F 9) + (F 10)) (fun (x29 : Int32) => p_X7_minutes_L32 n a1 (fun (z32_0 : Int32) (F32l : tF) (G32l : tG) => some ((((F32l 9) + (F32l 10)) - x29), F32l, G32l)) n 0 F G)))
set_option maxHeartbeats 4000000 in
set_option maxRecDepth 100000 in
theorem c_X7_minutes (l : Launch) (D : va_G) (ad : Nat → Nat) (cA : ClassId) (n : Nat) (F : tF) (G : tG) (a1 : Int32) {r : Int32} {F' : tF} {G' : tG} (h : p_X7_minutes n F G a1 = some (r, F', G')) : CI l yX7_minutes wsX7_minutes ({ frames := 4, cells := 0, slots := 0, locals := 87 } : Room) D cA (wC ad cA F G) [.ref (ad 0), .int (a1)] r (wC ad cA F' G') := by
  rw [p_X7_minutes] at h
  refine metIm (w := wC ad cA) (cc := cX7_minutes) (maxL := 4) (by decide) rfl (Nat.le_of_ble_eq_true rfl) ?_
  intro p e s m args below meth c A ls Q hE hret
  obtain ⟨hx, hb, hts, hown, hml, hP, hK, hD, hN, hA, hl⟩ := hE
  have hown : s.vm.findClass RX7 = some m.cls := hown
  have hl : lv_has ls 4 [(0, .ref (ad 0)), (1, .int (a1))] := hl
  have hS : va_S A s.heap s.heap [] := va_S.rf
  have k_0 : (Cond.fieldLink RX7 12 "BellBook" "bell" "LBellBook$Bell;").before args s = true := hts _ (List.mem_of_getElem? (i := 1) rfl)
  have n_7 : ∀ w ∈ u_ws RX7 TX7 6, w ∈ wsX7_minutes := fun w hw => List.mem_cons_of_mem _ (List.mem_append_left _ (List.mem_append_left _ (List.mem_append_left _ (List.mem_append_right _ hw))))
  have k_2 : (Cond.fieldLink RX7 92 "BellBook$Bell" "breathLacks" "I").before args s = true := hts _ (List.mem_of_getElem? (i := 2) rfl)
  have n_0 : ∀ w ∈ u_ws RX0 TX0 12, w ∈ wsX7_minutes := fun w hw => List.mem_cons_of_mem _ (List.mem_append_left _ (List.mem_append_left _ (List.mem_append_right _ hw)))
  have k_4 : (Cond.fieldLink RX7 95 "BellBook$Bell" "stayLacks" "I").before args s = true := hts _ (List.mem_of_getElem? (i := 3) rfl)
  refine lv_iload_n hx hb dX7_minutes_0 rfl (lv_at hl 1 rfl) ?_
  refine lv_iconst (v := 1) hx hb dX7_minutes_1 (by decide) ?_
  refine lv_sipush (v := 200) hx hb dX7_minutes_2 (by decide) ?_
  obtain ⟨x5, h5, h⟩ := bi1e h
  refine callSI (As := [.int (a1), .int (1), .int (200)]) (rest := []) ⟨hx, hb, hml, hown, hts⟩ (c_X7_within l D ad cA n F G a1 1 200 h5) (va_cwS 3 hts gX7_minutes_X7_within rfl rfl rfl (by decide +kernel) ⟨Nat.le_of_ble_eq_true rfl, Nat.le_of_ble_eq_true rfl⟩) hP hK hD hN hS hA rfl hl.1 rfl (Nat.le_of_ble_eq_true rfl) dX7_minutes_5 ⟨Nat.zero_le _, Nat.zero_le _⟩ (fun H locs hP hD hS => ?_)
  refine lv_if_ne (tgt := 14) hx hb dX7_minutes_8 (by decide) (fun c8 => ?_) (fun c8 => ?_)
  · replace h := ifn h c8
    refine lv_aload_n hx hb dX7_minutes_14 rfl (lv_at hl 0 rfl) ?_
    refine va_get (D := D) (ci := 7) (fs := vX7 ad F) (v := .ref (ad 1)) (C := RX7) (T := TX7) (N := 6) hx hb hts n_7 hown hK hP 0 wCg0 rfl 0 (by decide) k_0 (fun _ h9 => h9) rfl dX7_minutes_15 ?_
    refine va_get (D := D) (ci := 0) (fs := vX0 ad F) (v := .int ((F 9))) (C := RX0) (T := TX0) (N := 12) hx hb hts n_0 hown hK hP 1 wCg1 rfl 8 (by decide) k_2 (fun _ h9 => h9) rfl dX7_minutes_18 ?_
    refine lv_aload_n hx hb dX7_minutes_21 rfl (lv_at hl 0 rfl) ?_
    refine va_get (D := D) (ci := 7) (fs := vX7 ad F) (v := .ref (ad 1)) (C := RX7) (T := TX7) (N := 6) hx hb hts n_7 hown hK hP 0 wCg0 rfl 0 (by decide) k_0 (fun _ h9 => h9) rfl dX7_minutes_22 ?_
    refine va_get (D := D) (ci := 0) (fs := vX0 ad F) (v := .int ((F 10))) (C := RX0) (T := TX0) (N := 12) hx hb hts n_0 hown hK hP 1 wCg1 rfl 9 (by decide) k_4 (fun _ h9 => h9) rfl dX7_minutes_25 ?_
    refine lv_iadd hx hb dX7_minutes_28 ?_
    refine lv_topi (fun x29 ex29 => ?_)
    replace h := pl h ex29
    refine lv_istore_n (lv' := [(2, .int (x29)), (0, .ref (ad 0)), (1, .int (a1))]) hx hb dX7_minutes_29 rfl hl (by decide) rfl (fun ls hl => ?_)
    refine lv_iconst (v := 0) hx hb dX7_minutes_30 (by decide) ?_
    refine lv_istore_n (lv' := [(3, .int (0)), (2, .int (x29)), (0, .ref (ad 0)), (1, .int (a1))]) hx hb dX7_minutes_31 rfl hl (by decide) rfl (fun ls hl => ?_)
    obtain ⟨K32, eK32, h⟩ := p_X7_minutes_L32_k h
    have JE32 : ∀ (z32_0 : Int32) (F32l : tF) (G32l : tG) (H : Heap) (locs : List Loc) (ls : Array Slot), K32 z32_0 F32l G32l = some (r, F', G') → va_P D vwCl (wC ad cA F32l G32l) H → va_D A (wC ad cA F32l G32l) → va_S A s.heap H locs → lv_has ls 4 [(3, .int (z32_0)), (2, .int (x29)), (0, .ref (ad 0)), (1, .int (a1))] → W p l e ({ frames := 4, cells := 0, slots := 0, locals := 87 } : Room) s m args below meth c H locs 0 0 Q (F0 m 47 ls []) := by
      intro z32_0 F32l G32l H locs ls h hP hD hS hl
      rw [eK32] at h
      refine lv_aload_n hx hb dX7_minutes_47 rfl (lv_at hl 2 rfl) ?_
      refine va_get (D := D) (ci := 7) (fs := vX7 ad F32l) (v := .ref (ad 1)) (C := RX7) (T := TX7) (N := 6) hx hb hts n_7 hown hK hP 0 wCg0 rfl 0 (by decide) k_0 (fun _ h9 => h9) rfl dX7_minutes_48 ?_
      refine va_get (D := D) (ci := 0) (fs := vX0 ad F32l) (v := .int ((F32l 9))) (C := RX0) (T := TX0) (N := 12) hx hb hts n_0 hown hK hP 1 wCg1 rfl 8 (by decide) k_2 (fun _ h9 => h9) rfl dX7_minutes_51 ?_
      refine lv_aload_n hx hb dX7_minutes_54 rfl (lv_at hl 2 rfl) ?_
      refine va_get (D := D) (ci := 7) (fs := vX7 ad F32l) (v := .ref (ad 1)) (C := RX7) (T := TX7) (N := 6) hx hb hts n_7 hown hK hP 0 wCg0 rfl 0 (by decide) k_0 (fun _ h9 => h9) rfl dX7_minutes_55 ?_
      refine va_get (D := D) (ci := 0) (fs := vX0 ad F32l) (v := .int ((F32l 10))) (C := RX0) (T := TX0) (N := 12) hx hb hts n_0 hown hK hP 1 wCg1 rfl 9 (by decide) k_4 (fun _ h9 => h9) rfl dX7_minutes_58 ?_
      refine lv_iadd hx hb dX7_minutes_61 ?_
      refine lv_iload_n hx hb dX7_minutes_62 rfl (lv_at hl 1 rfl) ?_
      refine lv_isub hx hb dX7_minutes_63 ?_
      exact hret _ _ _ _ _ _ _ dX7_minutes_64 h hP hD hS
    have LL32 : ∀ (k : Nat) (z32_0 : Int32) (F32l : tF) (G32l : tG) (H : Heap) (locs : List Loc) (ls : Array Slot), p_X7_minutes_L32 n a1 K32 k z32_0 F32l G32l = some (r, F', G') → va_P D vwCl (wC ad cA F32l G32l) H → va_D A (wC ad cA F32l G32l) → va_S A s.heap H locs → lv_has ls 4 [(3, .int (z32_0)), (2, .int (x29)), (0, .ref (ad 0)), (1, .int (a1))] → W p l e ({ frames := 4, cells := 0, slots := 0, locals := 87 } : Room) s m args below meth c H locs 0 0 Q (F0 m 32 ls []) := by
      intro k
      induction k with
      | zero =>
        intro z32_0 F32l G32l H locs ls h hP hD hS hl
        rw [p_X7_minutes_L32] at h
        cases h
      | succ k32 ih32 =>
        intro z32_0 F32l G32l H locs ls h hP hD hS hl
        rw [p_X7_minutes_L32] at h
        refine lv_iload_n hx hb dX7_minutes_32 rfl (lv_at hl 0 rfl) ?_
        refine lv_iload_n hx hb dX7_minutes_33 rfl (lv_at hl 3 rfl) ?_
        refine lv_icmp_ge (tgt := 47) hx hb dX7_minutes_34 (by decide) (fun c34 => ?_) (fun c34 => ?_)
        · replace h := ifp h c34
          exact JE32 _ _ _ _ _ _ h hP hD hS (lv_sub hl [0, 1, 2, 3] rfl)
        · replace h := ifn h c34
          refine lv_aload_n hx hb dX7_minutes_37 rfl (lv_at hl 2 rfl) ?_
          obtain ⟨F38, G38, h38, h⟩ := bi2e h
          refine callVV (b := ad 0) (As := []) (rest := []) ⟨hx, hb, hml, hown, hts⟩ (c_X7_passMinute l D ad cA n F32l G32l h38) (cwV 0 hts gX7_minutes_X7_passMinute rfl rfl rfl (by decide +kernel) ⟨Nat.le_of_ble_eq_true rfl, Nat.le_of_ble_eq_true rfl⟩) (va_recv hK hP (ci := 7) (q0 := 0) rfl wCg0) hP hK hD hN hS hA rfl hl.1 rfl (Nat.le_of_ble_eq_true rfl) dX7_minutes_38 ⟨Nat.zero_le _, Nat.zero_le _⟩ (fun H locs hP hD hS => ?_)
          obtain ⟨x41, ex41⟩ : ∃ z : Int32, z = (z32_0 + 1) := ⟨_, rfl⟩
          replace h := pl h ex41
          refine lv_iinc (v := x41) (lv' := [(3, .int (x41)), (2, .int (x29)), (0, .ref (ad 0)), (1, .int (a1))]) hx hb dX7_minutes_41 hl (k := 0) rfl (by rw [ex41]; rfl) (by decide) rfl (fun ls hl => ?_)
          refine lv_goto (tgt := 32) hx hb dX7_minutes_44 (by decide) ?_
          exact ih32 _ _ _ _ _ _ h hP hD hS (lv_sub hl [0, 1, 2, 3] rfl)
    exact LL32 n 0 F G _ _ _ h hP hD hS (lv_sub hl [0, 1, 2, 3] rfl)
  · replace h := ifp h c8
    refine lv_bipush (v := (-2)) hx hb dX7_minutes_11 (by decide) ?_
    exact hret _ _ _ _ _ _ _ dX7_minutes_13 h hP hD hS

def p_X7_ofThing (F : tF) (G : tG) (a1 : Int32) (a2 : Int32) : Option (Int32) :=
  bi1 (p_X6_has F a1) (fun x5 => (if x5 = 0 then some (-1) else (if a2 = 0 then oguard (inB a1 12) (some (G 6 a1.toNatClampNeg)) else (if a2 = 1 then oguard (inB a1 12) (some (G 7 a1.toNatClampNeg)) else (if a2 = 2 then oguard (inB a1 12) (some (G 8 a1.toNatClampNeg)) else (if a2 = 3 then oguard (inB a1 12) (some (G 9 a1.toNatClampNeg)) else (if a2 = 4 then oguard (inB a1 12) (some (G 10 a1.toNatClampNeg)) else (if a2 = 5 then bi1 (p_X7_bit (F 16) a1) (fun x122 => some x122) else (if a2 = 6 then bi1 (p_X6_isFree F G a1) (fun x131 => bi1 ((if x131 = 0 then some (0) else some (1))) (fun (y134_0 : Int32) => some y134_0)) else (if a2 = 7 then bi1 (p_X7_bit (F 17) a1) (fun x151 => some x151) else (if a2 = 8 then oguard (inB a1 12) (some (G 11 a1.toNatClampNeg)) else some (-2))))))))))))
set_option maxHeartbeats 4000000 in
set_option maxRecDepth 100000 in
theorem c_X7_ofThing (l : Launch) (D : va_G) (ad : Nat → Nat) (cA : ClassId) (n : Nat) (F : tF) (G : tG) (a1 : Int32) (a2 : Int32) {r : Int32} (h : p_X7_ofThing F G a1 a2 = some r) : CI l yX7_ofThing wsX7_ofThing ({ frames := 2, cells := 0, slots := 0, locals := 43 } : Room) D cA (wC ad cA F G) [.ref (ad 0), .int (a1), .int (a2)] r (wC ad cA F G) := by
  rw [p_X7_ofThing] at h
  refine metIr (w := wC ad cA) (cc := cX7_ofThing) (maxL := 3) (by decide) rfl (Nat.le_of_ble_eq_true rfl) ?_
  intro p e s m args below meth c A ls Q hE hret
  obtain ⟨hx, hb, hts, hown, hml, hP, hK, hD, hN, hA, hl⟩ := hE
  have hown : s.vm.findClass RX7 = some m.cls := hown
  have hl : lv_has ls 3 [(0, .ref (ad 0)), (1, .int (a1)), (2, .int (a2))] := hl
  have hS : va_S A s.heap s.heap [] := va_S.rf
  have k_0 : (Cond.fieldLink RX7 26 "BellBook" "wreck" "LBellBook$Wreck;").before args s = true := hts _ (List.mem_of_getElem? (i := 1) rfl)
  have n_7 : ∀ w ∈ u_ws RX7 TX7 6, w ∈ wsX7_ofThing := fun w hw => List.mem_cons_of_mem _ (List.mem_append_left _ (List.mem_append_right _ hw))
  have k_2 : (Cond.fieldLink RX7 215 "BellBook$Wreck" "square" "[I").before args s = true := hts _ (List.mem_of_getElem? (i := 2) rfl)
  have n_6 : ∀ w ∈ u_ws RX6 TX6 12, w ∈ wsX7_ofThing := fun w hw => List.mem_cons_of_mem _ (List.mem_append_right _ hw)
  have k_4 : (Cond.fieldLink RX7 216 "BellBook$Wreck" "worth" "[I").before args s = true := hts _ (List.mem_of_getElem? (i := 3) rfl)
  have k_5 : (Cond.fieldLink RX7 219 "BellBook$Wreck" "work" "[I").before args s = true := hts _ (List.mem_of_getElem? (i := 4) rfl)
  have k_6 : (Cond.fieldLink RX7 222 "BellBook$Wreck" "odds" "[I").before args s = true := hts _ (List.mem_of_getElem? (i := 5) rfl)
  have k_7 : (Cond.fieldLink RX7 225 "BellBook$Wreck" "worked" "[I").before args s = true := hts _ (List.mem_of_getElem? (i := 6) rfl)
  have k_8 : (Cond.fieldLink RX7 228 "BellBook$Wreck" "raised" "I").before args s = true := hts _ (List.mem_of_getElem? (i := 7) rfl)
  have k_9 : (Cond.fieldLink RX7 208 "BellBook$Wreck" "tangled" "I").before args s = true := hts _ (List.mem_of_getElem? (i := 8) rfl)
  have k_10 : (Cond.fieldLink RX7 198 "BellBook$Wreck" "under" "[I").before args s = true := hts _ (List.mem_of_getElem? (i := 9) rfl)
  refine lv_aload_n hx hb dX7_ofThing_0 rfl (lv_at hl 0 rfl) ?_
  refine va_get (D := D) (ci := 7) (fs := vX7 ad F) (v := .ref (ad 9)) (C := RX7) (T := TX7) (N := 6) hx hb hts n_7 hown hK hP 0 wCg0 rfl 2 (by decide) k_0 (fun _ h9 => h9) rfl dX7_ofThing_1 ?_
  refine lv_iload_n hx hb dX7_ofThing_4 rfl (lv_at hl 1 rfl) ?_
  obtain ⟨x5, h5, h⟩ := bi1e h
  refine callVI (b := ad 9) (As := [.int (a1)]) (rest := []) ⟨hx, hb, hml, hown, hts⟩ (c_X6_has l D ad cA n F G a1 h5) (cwV 1 hts gX7_ofThing_X6_has rfl rfl rfl (by decide +kernel) ⟨Nat.le_of_ble_eq_true rfl, Nat.le_of_ble_eq_true rfl⟩) (va_recv hK hP (ci := 6) (q0 := 9) rfl wCg9) hP hK hD hN hS hA rfl hl.1 rfl (Nat.le_of_ble_eq_true rfl) dX7_ofThing_5 ⟨Nat.zero_le _, Nat.zero_le _⟩ (fun H locs hP hD hS => ?_)
  refine lv_if_ne (tgt := 13) hx hb dX7_ofThing_8 (by decide) (fun c8 => ?_) (fun c8 => ?_)
  · replace h := ifn h c8
    refine lv_iload_n hx hb dX7_ofThing_13 rfl (lv_at hl 2 rfl) ?_
    by_cases c14_0 : a2 = 0
    · replace h := ifp h c14_0
      refine lv_tableIn (off := 50) (tgt := 64) hx hb dX7_ofThing_14 (by rw [c14_0]; decide) (by rw [c14_0]; decide) (by rw [c14_0]; decide) (by decide) ?_
      refine lv_aload_n hx hb dX7_ofThing_64 rfl (lv_at hl 0 rfl) ?_
      refine va_get (D := D) (ci := 7) (fs := vX7 ad F) (v := .ref (ad 9)) (C := RX7) (T := TX7) (N := 6) hx hb hts n_7 hown hK hP 0 wCg0 rfl 2 (by decide) k_0 (fun _ h9 => h9) rfl dX7_ofThing_65 ?_
      refine va_get (D := D) (ci := 6) (fs := vX6 ad F) (v := .ref (ad 10)) (C := RX6) (T := TX6) (N := 12) hx hb hts n_6 hown hK hP 9 wCg9 rfl 0 (by decide) k_2 (fun _ h9 => h9) rfl dX7_ofThing_68 ?_
      refine lv_iload_n hx hb dX7_ofThing_71 rfl (lv_at hl 1 rfl) ?_
      obtain ⟨g72, h⟩ := og h
      refine va_iald (D := D) hx hb hK hP 10 0 wCg10 rfl (inB_in g72) dX7_ofThing_72 ?_
      exact hret _ _ _ _ _ dX7_ofThing_73 h hP hD hS
    replace h := ifn h c14_0
    by_cases c14_1 : a2 = 1
    · replace h := ifp h c14_1
      refine lv_tableIn (off := 60) (tgt := 74) hx hb dX7_ofThing_14 (by rw [c14_1]; decide) (by rw [c14_1]; decide) (by rw [c14_1]; decide) (by decide) ?_
      refine lv_aload_n hx hb dX7_ofThing_74 rfl (lv_at hl 0 rfl) ?_
      refine va_get (D := D) (ci := 7) (fs := vX7 ad F) (v := .ref (ad 9)) (C := RX7) (T := TX7) (N := 6) hx hb hts n_7 hown hK hP 0 wCg0 rfl 2 (by decide) k_0 (fun _ h9 => h9) rfl dX7_ofThing_75 ?_
      refine va_get (D := D) (ci := 6) (fs := vX6 ad F) (v := .ref (ad 11)) (C := RX6) (T := TX6) (N := 12) hx hb hts n_6 hown hK hP 9 wCg9 rfl 1 (by decide) k_4 (fun _ h9 => h9) rfl dX7_ofThing_78 ?_
      refine lv_iload_n hx hb dX7_ofThing_81 rfl (lv_at hl 1 rfl) ?_
      obtain ⟨g82, h⟩ := og h
      refine va_iald (D := D) hx hb hK hP 11 0 wCg11 rfl (inB_in g82) dX7_ofThing_82 ?_
      exact hret _ _ _ _ _ dX7_ofThing_83 h hP hD hS
    replace h := ifn h c14_1
    by_cases c14_2 : a2 = 2
    · replace h := ifp h c14_2
      refine lv_tableIn (off := 70) (tgt := 84) hx hb dX7_ofThing_14 (by rw [c14_2]; decide) (by rw [c14_2]; decide) (by rw [c14_2]; decide) (by decide) ?_
      refine lv_aload_n hx hb dX7_ofThing_84 rfl (lv_at hl 0 rfl) ?_
      refine va_get (D := D) (ci := 7) (fs := vX7 ad F) (v := .ref (ad 9)) (C := RX7) (T := TX7) (N := 6) hx hb hts n_7 hown hK hP 0 wCg0 rfl 2 (by decide) k_0 (fun _ h9 => h9) rfl dX7_ofThing_85 ?_
      refine va_get (D := D) (ci := 6) (fs := vX6 ad F) (v := .ref (ad 12)) (C := RX6) (T := TX6) (N := 12) hx hb hts n_6 hown hK hP 9 wCg9 rfl 2 (by decide) k_5 (fun _ h9 => h9) rfl dX7_ofThing_88 ?_
      refine lv_iload_n hx hb dX7_ofThing_91 rfl (lv_at hl 1 rfl) ?_
      obtain ⟨g92, h⟩ := og h
      refine va_iald (D := D) hx hb hK hP 12 0 wCg12 rfl (inB_in g92) dX7_ofThing_92 ?_
      exact hret _ _ _ _ _ dX7_ofThing_93 h hP hD hS
    replace h := ifn h c14_2
    by_cases c14_3 : a2 = 3
    · replace h := ifp h c14_3
      refine lv_tableIn (off := 80) (tgt := 94) hx hb dX7_ofThing_14 (by rw [c14_3]; decide) (by rw [c14_3]; decide) (by rw [c14_3]; decide) (by decide) ?_
      refine lv_aload_n hx hb dX7_ofThing_94 rfl (lv_at hl 0 rfl) ?_
      refine va_get (D := D) (ci := 7) (fs := vX7 ad F) (v := .ref (ad 9)) (C := RX7) (T := TX7) (N := 6) hx hb hts n_7 hown hK hP 0 wCg0 rfl 2 (by decide) k_0 (fun _ h9 => h9) rfl dX7_ofThing_95 ?_
      refine va_get (D := D) (ci := 6) (fs := vX6 ad F) (v := .ref (ad 13)) (C := RX6) (T := TX6) (N := 12) hx hb hts n_6 hown hK hP 9 wCg9 rfl 3 (by decide) k_6 (fun _ h9 => h9) rfl dX7_ofThing_98 ?_
      refine lv_iload_n hx hb dX7_ofThing_101 rfl (lv_at hl 1 rfl) ?_
      obtain ⟨g102, h⟩ := og h
      refine va_iald (D := D) hx hb hK hP 13 0 wCg13 rfl (inB_in g102) dX7_ofThing_102 ?_
      exact hret _ _ _ _ _ dX7_ofThing_103 h hP hD hS
    replace h := ifn h c14_3
    by_cases c14_4 : a2 = 4
    · replace h := ifp h c14_4
      refine lv_tableIn (off := 90) (tgt := 104) hx hb dX7_ofThing_14 (by rw [c14_4]; decide) (by rw [c14_4]; decide) (by rw [c14_4]; decide) (by decide) ?_
      refine lv_aload_n hx hb dX7_ofThing_104 rfl (lv_at hl 0 rfl) ?_
      refine va_get (D := D) (ci := 7) (fs := vX7 ad F) (v := .ref (ad 9)) (C := RX7) (T := TX7) (N := 6) hx hb hts n_7 hown hK hP 0 wCg0 rfl 2 (by decide) k_0 (fun _ h9 => h9) rfl dX7_ofThing_105 ?_
      refine va_get (D := D) (ci := 6) (fs := vX6 ad F) (v := .ref (ad 14)) (C := RX6) (T := TX6) (N := 12) hx hb hts n_6 hown hK hP 9 wCg9 rfl 4 (by decide) k_7 (fun _ h9 => h9) rfl dX7_ofThing_108 ?_
      refine lv_iload_n hx hb dX7_ofThing_111 rfl (lv_at hl 1 rfl) ?_
      obtain ⟨g112, h⟩ := og h
      refine va_iald (D := D) hx hb hK hP 14 0 wCg14 rfl (inB_in g112) dX7_ofThing_112 ?_
      exact hret _ _ _ _ _ dX7_ofThing_113 h hP hD hS
    replace h := ifn h c14_4
    by_cases c14_5 : a2 = 5
    · replace h := ifp h c14_5
      refine lv_tableIn (off := 100) (tgt := 114) hx hb dX7_ofThing_14 (by rw [c14_5]; decide) (by rw [c14_5]; decide) (by rw [c14_5]; decide) (by decide) ?_
      refine lv_aload_n hx hb dX7_ofThing_114 rfl (lv_at hl 0 rfl) ?_
      refine va_get (D := D) (ci := 7) (fs := vX7 ad F) (v := .ref (ad 9)) (C := RX7) (T := TX7) (N := 6) hx hb hts n_7 hown hK hP 0 wCg0 rfl 2 (by decide) k_0 (fun _ h9 => h9) rfl dX7_ofThing_115 ?_
      refine va_get (D := D) (ci := 6) (fs := vX6 ad F) (v := .int ((F 16))) (C := RX6) (T := TX6) (N := 12) hx hb hts n_6 hown hK hP 9 wCg9 rfl 9 (by decide) k_8 (fun _ h9 => h9) rfl dX7_ofThing_118 ?_
      refine lv_iload_n hx hb dX7_ofThing_121 rfl (lv_at hl 1 rfl) ?_
      obtain ⟨x122, h122, h⟩ := bi1e h
      refine callSI (As := [.int ((F 16)), .int (a1)]) (rest := []) ⟨hx, hb, hml, hown, hts⟩ (c_X7_bit l D ad cA n F G (F 16) a1 h122) (va_cwS 2 hts gX7_ofThing_X7_bit rfl rfl rfl (by decide +kernel) ⟨Nat.le_of_ble_eq_true rfl, Nat.le_of_ble_eq_true rfl⟩) hP hK hD hN hS hA rfl hl.1 rfl (Nat.le_of_ble_eq_true rfl) dX7_ofThing_122 ⟨Nat.zero_le _, Nat.zero_le _⟩ (fun H locs hP hD hS => ?_)
      exact hret _ _ _ _ _ dX7_ofThing_125 h hP hD hS
    replace h := ifn h c14_5
    by_cases c14_6 : a2 = 6
    · replace h := ifp h c14_6
      refine lv_tableIn (off := 112) (tgt := 126) hx hb dX7_ofThing_14 (by rw [c14_6]; decide) (by rw [c14_6]; decide) (by rw [c14_6]; decide) (by decide) ?_
      refine lv_aload_n hx hb dX7_ofThing_126 rfl (lv_at hl 0 rfl) ?_
      refine va_get (D := D) (ci := 7) (fs := vX7 ad F) (v := .ref (ad 9)) (C := RX7) (T := TX7) (N := 6) hx hb hts n_7 hown hK hP 0 wCg0 rfl 2 (by decide) k_0 (fun _ h9 => h9) rfl dX7_ofThing_127 ?_
      refine lv_iload_n hx hb dX7_ofThing_130 rfl (lv_at hl 1 rfl) ?_
      obtain ⟨x131, h131, h⟩ := bi1e h
      refine callVI (b := ad 9) (As := [.int (a1)]) (rest := []) ⟨hx, hb, hml, hown, hts⟩ (c_X6_isFree l D ad cA n F G a1 h131) (cwV 1 hts gX7_ofThing_X6_isFree rfl rfl rfl (by decide +kernel) ⟨Nat.le_of_ble_eq_true rfl, Nat.le_of_ble_eq_true rfl⟩) (va_recv hK hP (ci := 6) (q0 := 9) rfl wCg9) hP hK hD hN hS hA rfl hl.1 rfl (Nat.le_of_ble_eq_true rfl) dX7_ofThing_131 ⟨Nat.zero_le _, Nat.zero_le _⟩ (fun H locs hP hD hS => ?_)
      obtain ⟨y134_0, q134, h⟩ := bi1e h
      have J134 : ∀ (wy134_0 : Int32), some (wy134_0) = some (y134_0) → ∀ (H : Heap) (locs : List Loc) (ls : Array Slot), va_P D vwCl (wC ad cA F G) H → va_D A (wC ad cA F G) → va_S A s.heap H locs → lv_has ls 3 [(0, .ref (ad 0)), (1, .int (a1)), (2, .int (a2))] → W p l e ({ frames := 2, cells := 0, slots := 0, locals := 43 } : Room) s m args below meth c H locs 0 0 Q (F0 m 142 ls [.int (wy134_0)]) := by
        intro wy134_0 e9 H locs ls hP hD hS hl
        cases e9
        exact hret _ _ _ _ _ dX7_ofThing_142 h hP hD hS
      refine lv_if_eq (tgt := 141) hx hb dX7_ofThing_134 (by decide) (fun c134 => ?_) (fun c134 => ?_)
      · replace q134 := ifp q134 c134
        refine lv_iconst (v := 0) hx hb dX7_ofThing_141 (by decide) ?_
        exact J134 _ q134 _ _ _ hP hD hS (lv_sub hl [0, 1, 2] rfl)
      · replace q134 := ifn q134 c134
        refine lv_iconst (v := 1) hx hb dX7_ofThing_137 (by decide) ?_
        refine lv_goto (tgt := 142) hx hb dX7_ofThing_138 (by decide) ?_
        exact J134 _ q134 _ _ _ hP hD hS (lv_sub hl [0, 1, 2] rfl)
    replace h := ifn h c14_6
    by_cases c14_7 : a2 = 7
    · replace h := ifp h c14_7
      refine lv_tableIn (off := 129) (tgt := 143) hx hb dX7_ofThing_14 (by rw [c14_7]; decide) (by rw [c14_7]; decide) (by rw [c14_7]; decide) (by decide) ?_
      refine lv_aload_n hx hb dX7_ofThing_143 rfl (lv_at hl 0 rfl) ?_
      refine va_get (D := D) (ci := 7) (fs := vX7 ad F) (v := .ref (ad 9)) (C := RX7) (T := TX7) (N := 6) hx hb hts n_7 hown hK hP 0 wCg0 rfl 2 (by decide) k_0 (fun _ h9 => h9) rfl dX7_ofThing_144 ?_
      refine va_get (D := D) (ci := 6) (fs := vX6 ad F) (v := .int ((F 17))) (C := RX6) (T := TX6) (N := 12) hx hb hts n_6 hown hK hP 9 wCg9 rfl 10 (by decide) k_9 (fun _ h9 => h9) rfl dX7_ofThing_147 ?_
      refine lv_iload_n hx hb dX7_ofThing_150 rfl (lv_at hl 1 rfl) ?_
      obtain ⟨x151, h151, h⟩ := bi1e h
      refine callSI (As := [.int ((F 17)), .int (a1)]) (rest := []) ⟨hx, hb, hml, hown, hts⟩ (c_X7_bit l D ad cA n F G (F 17) a1 h151) (va_cwS 2 hts gX7_ofThing_X7_bit rfl rfl rfl (by decide +kernel) ⟨Nat.le_of_ble_eq_true rfl, Nat.le_of_ble_eq_true rfl⟩) hP hK hD hN hS hA rfl hl.1 rfl (Nat.le_of_ble_eq_true rfl) dX7_ofThing_151 ⟨Nat.zero_le _, Nat.zero_le _⟩ (fun H locs hP hD hS => ?_)
      exact hret _ _ _ _ _ dX7_ofThing_154 h hP hD hS
    replace h := ifn h c14_7
    by_cases c14_8 : a2 = 8
    · replace h := ifp h c14_8
      refine lv_tableIn (off := 141) (tgt := 155) hx hb dX7_ofThing_14 (by rw [c14_8]; decide) (by rw [c14_8]; decide) (by rw [c14_8]; decide) (by decide) ?_
      refine lv_aload_n hx hb dX7_ofThing_155 rfl (lv_at hl 0 rfl) ?_
      refine va_get (D := D) (ci := 7) (fs := vX7 ad F) (v := .ref (ad 9)) (C := RX7) (T := TX7) (N := 6) hx hb hts n_7 hown hK hP 0 wCg0 rfl 2 (by decide) k_0 (fun _ h9 => h9) rfl dX7_ofThing_156 ?_
      refine va_get (D := D) (ci := 6) (fs := vX6 ad F) (v := .ref (ad 15)) (C := RX6) (T := TX6) (N := 12) hx hb hts n_6 hown hK hP 9 wCg9 rfl 5 (by decide) k_10 (fun _ h9 => h9) rfl dX7_ofThing_159 ?_
      refine lv_iload_n hx hb dX7_ofThing_162 rfl (lv_at hl 1 rfl) ?_
      obtain ⟨g163, h⟩ := og h
      refine va_iald (D := D) hx hb hK hP 15 0 wCg15 rfl (inB_in g163) dX7_ofThing_163 ?_
      exact hret _ _ _ _ _ dX7_ofThing_164 h hP hD hS
    replace h := ifn h c14_8
    have ic14_0 : a2.toInt ≠ 0 := ne_toInt c14_0
    have ic14_1 : a2.toInt ≠ 1 := ne_toInt c14_1
    have ic14_2 : a2.toInt ≠ 2 := ne_toInt c14_2
    have ic14_3 : a2.toInt ≠ 3 := ne_toInt c14_3
    have ic14_4 : a2.toInt ≠ 4 := ne_toInt c14_4
    have ic14_5 : a2.toInt ≠ 5 := ne_toInt c14_5
    have ic14_6 : a2.toInt ≠ 6 := ne_toInt c14_6
    have ic14_7 : a2.toInt ≠ 7 := ne_toInt c14_7
    have ic14_8 : a2.toInt ≠ 8 := ne_toInt c14_8
    refine lv_tableOut (tgt := 165) hx hb dX7_ofThing_14 (by omega) (by decide) ?_
    refine lv_bipush (v := (-2)) hx hb dX7_ofThing_165 (by decide) ?_
    exact hret _ _ _ _ _ dX7_ofThing_167 h hP hD hS
  · replace h := ifp h c8
    refine lv_iconst (v := (-1)) hx hb dX7_ofThing_11 (by decide) ?_
    exact hret _ _ _ _ _ dX7_ofThing_12 h hP hD hS

def p_X7_out (n : Nat) (F : tF) (G : tG) (a1 : Int32) (a2 : Int32) (a3 : Int32) : Option (Int32 × tF × tG) :=
  bi1 (p_X7_isMan a1) (fun x1 => (if x1 = 0 then some ((-1), F, G) else bi1 (p_X7_isHose a2) (fun x8 => (if x8 = 0 then some ((-1), F, G) else bi1 (p_X7_isSquare a3) (fun x15 => (if x15 = 0 then some ((-1), F, G) else oguard (inB a1 6) (plet (G 0 a1.toNatClampNeg) (fun (x32 : Int32) => (if x32 = 0 then some ((-3), F, G) else (if x32 = 2 then oguard (inB a1 6) ((if (G 2 a1.toNatClampNeg) = a2 then bi1 (p_X2_othersOn n G a2 a1) (fun x67 => (if x67 < 2 then bi1 (p_X7_distance (F 14) a3) (fun x85 => oguard (inB a2 3) ((if x85 ≤ (G 5 a2.toNatClampNeg) then bi2 (p_X2_send F G a1 a2 a3) (fun F110 G110 => some (1, F110, G110)) else some ((-5), F, G)))) else some ((-4), F, G))) else some ((-3), F, G))) else bi1 (p_X2_othersOn n G a2 a1) (fun x67 => (if x67 < 2 then bi1 (p_X7_distance (F 14) a3) (fun x85 => oguard (inB a2 3) ((if x85 ≤ (G 5 a2.toNatClampNeg) then bi2 (p_X2_send F G a1 a2 a3) (fun F110 G110 => some (1, F110, G110)) else some ((-5), F, G)))) else some ((-4), F, G)))))))))))))
set_option maxHeartbeats 4000000 in
set_option maxRecDepth 100000 in
theorem c_X7_out (l : Launch) (D : va_G) (ad : Nat → Nat) (cA : ClassId) (n : Nat) (F : tF) (G : tG) (a1 : Int32) (a2 : Int32) (a3 : Int32) {r : Int32} {F' : tF} {G' : tG} (h : p_X7_out n F G a1 a2 a3 = some (r, F', G')) : CI l yX7_out wsX7_out ({ frames := 3, cells := 0, slots := 0, locals := 65 } : Room) D cA (wC ad cA F G) [.ref (ad 0), .int (a1), .int (a2), .int (a3)] r (wC ad cA F' G') := by
  rw [p_X7_out] at h
  refine metIm (w := wC ad cA) (cc := cX7_out) (maxL := 5) (by decide) rfl (Nat.le_of_ble_eq_true rfl) ?_
  intro p e s m args below meth c A ls Q hE hret
  obtain ⟨hx, hb, hts, hown, hml, hP, hK, hD, hN, hA, hl⟩ := hE
  have hown : s.vm.findClass RX7 = some m.cls := hown
  have hl : lv_has ls 5 [(0, .ref (ad 0)), (1, .int (a1)), (2, .int (a2)), (3, .int (a3))] := hl
  have hS : va_S A s.heap s.heap [] := va_S.rf
  have k_0 : (Cond.fieldLink RX7 19 "BellBook" "crew" "LBellBook$Crew;").before args s = true := hts _ (List.mem_of_getElem? (i := 1) rfl)
  have n_7 : ∀ w ∈ u_ws RX7 TX7 6, w ∈ wsX7_out := fun w hw => List.mem_cons_of_mem _ (List.mem_append_left _ (List.mem_append_right _ hw))
  have k_2 : (Cond.fieldLink RX7 136 "BellBook$Crew" "where" "[I").before args s = true := hts _ (List.mem_of_getElem? (i := 2) rfl)
  have n_2 : ∀ w ∈ u_ws RX2 TX2 8, w ∈ wsX7_out := fun w hw => List.mem_cons_of_mem _ (List.mem_append_right _ hw)
  have k_4 : (Cond.fieldLink RX7 156 "BellBook$Crew" "bellSquare" "I").before args s = true := hts _ (List.mem_of_getElem? (i := 4) rfl)
  have k_5 : (Cond.fieldLink RX7 162 "BellBook$Crew" "length" "[I").before args s = true := hts _ (List.mem_of_getElem? (i := 5) rfl)
  have k_6 : (Cond.fieldLink RX7 150 "BellBook$Crew" "hose" "[I").before args s = true := hts _ (List.mem_of_getElem? (i := 3) rfl)
  refine lv_iload_n hx hb dX7_out_0 rfl (lv_at hl 1 rfl) ?_
  obtain ⟨x1, h1, h⟩ := bi1e h
  refine callSI (As := [.int (a1)]) (rest := []) ⟨hx, hb, hml, hown, hts⟩ (c_X7_isMan l D ad cA n F G a1 h1) (va_cwS 1 hts gX7_out_X7_isMan rfl rfl rfl (by decide +kernel) ⟨Nat.le_of_ble_eq_true rfl, Nat.le_of_ble_eq_true rfl⟩) hP hK hD hN hS hA rfl hl.1 rfl (Nat.le_of_ble_eq_true rfl) dX7_out_1 ⟨Nat.zero_le _, Nat.zero_le _⟩ (fun H locs hP hD hS => ?_)
  refine lv_if_eq (tgt := 21) hx hb dX7_out_4 (by decide) (fun c4 => ?_) (fun c4 => ?_)
  · replace h := ifp h c4
    refine lv_iconst (v := (-1)) hx hb dX7_out_21 (by decide) ?_
    exact hret _ _ _ _ _ _ _ dX7_out_22 h hP hD hS
  · replace h := ifn h c4
    refine lv_iload_n hx hb dX7_out_7 rfl (lv_at hl 2 rfl) ?_
    obtain ⟨x8, h8, h⟩ := bi1e h
    refine callSI (As := [.int (a2)]) (rest := []) ⟨hx, hb, hml, hown, hts⟩ (c_X7_isHose l D ad cA n F G a2 h8) (va_cwS 1 hts gX7_out_X7_isHose rfl rfl rfl (by decide +kernel) ⟨Nat.le_of_ble_eq_true rfl, Nat.le_of_ble_eq_true rfl⟩) hP hK hD hN hS hA rfl hl.1 rfl (Nat.le_of_ble_eq_true rfl) dX7_out_8 ⟨Nat.zero_le _, Nat.zero_le _⟩ (fun H locs hP hD hS => ?_)
    refine lv_if_eq (tgt := 21) hx hb dX7_out_11 (by decide) (fun c11 => ?_) (fun c11 => ?_)
    · replace h := ifp h c11
      refine lv_iconst (v := (-1)) hx hb dX7_out_21 (by decide) ?_
      exact hret _ _ _ _ _ _ _ dX7_out_22 h hP hD hS
    · replace h := ifn h c11
      refine lv_iload_n hx hb dX7_out_14 rfl (lv_at hl 3 rfl) ?_
      obtain ⟨x15, h15, h⟩ := bi1e h
      refine callSI (As := [.int (a3)]) (rest := []) ⟨hx, hb, hml, hown, hts⟩ (c_X7_isSquare l D ad cA n F G a3 h15) (va_cwS 1 hts gX7_out_X7_isSquare rfl rfl rfl (by decide +kernel) ⟨Nat.le_of_ble_eq_true rfl, Nat.le_of_ble_eq_true rfl⟩) hP hK hD hN hS hA rfl hl.1 rfl (Nat.le_of_ble_eq_true rfl) dX7_out_15 ⟨Nat.zero_le _, Nat.zero_le _⟩ (fun H locs hP hD hS => ?_)
      refine lv_if_ne (tgt := 23) hx hb dX7_out_18 (by decide) (fun c18 => ?_) (fun c18 => ?_)
      · replace h := ifn h c18
        refine lv_aload_n hx hb dX7_out_23 rfl (lv_at hl 0 rfl) ?_
        refine va_get (D := D) (ci := 7) (fs := vX7 ad F) (v := .ref (ad 2)) (C := RX7) (T := TX7) (N := 6) hx hb hts n_7 hown hK hP 0 wCg0 rfl 1 (by decide) k_0 (fun _ h9 => h9) rfl dX7_out_24 ?_
        refine va_get (D := D) (ci := 2) (fs := vX2 ad F) (v := .ref (ad 3)) (C := RX2) (T := TX2) (N := 8) hx hb hts n_2 hown hK hP 2 wCg2 rfl 0 (by decide) k_2 (fun _ h9 => h9) rfl dX7_out_27 ?_
        refine lv_iload_n hx hb dX7_out_30 rfl (lv_at hl 1 rfl) ?_
        obtain ⟨g31, h⟩ := og h
        refine va_iald (D := D) hx hb hK hP 3 0 wCg3 rfl (inB_in g31) dX7_out_31 ?_
        refine lv_topi (fun x32 ex32 => ?_)
        replace h := pl h ex32
        refine lv_istore (lv' := [(4, .int (x32)), (0, .ref (ad 0)), (1, .int (a1)), (2, .int (a2)), (3, .int (a3))]) hx hb dX7_out_32 hl (by decide) rfl (fun ls hl => ?_)
        refine lv_iload hx hb dX7_out_34 (lv_at hl 0 rfl) ?_
        refine lv_if_eq (tgt := 58) hx hb dX7_out_36 (by decide) (fun c36 => ?_) (fun c36 => ?_)
        · replace h := ifp h c36
          refine lv_bipush (v := (-3)) hx hb dX7_out_58 (by decide) ?_
          exact hret _ _ _ _ _ _ _ dX7_out_60 h hP hD hS
        · replace h := ifn h c36
          refine lv_iload hx hb dX7_out_39 (lv_at hl 0 rfl) ?_
          refine lv_iconst (v := 2) hx hb dX7_out_41 (by decide) ?_
          refine lv_icmp_ne (tgt := 61) hx hb dX7_out_42 (by decide) (fun c42 => ?_) (fun c42 => ?_)
          · replace h := ifn h c42
            refine lv_aload_n hx hb dX7_out_61 rfl (lv_at hl 1 rfl) ?_
            refine va_get (D := D) (ci := 7) (fs := vX7 ad F) (v := .ref (ad 2)) (C := RX7) (T := TX7) (N := 6) hx hb hts n_7 hown hK hP 0 wCg0 rfl 1 (by decide) k_0 (fun _ h9 => h9) rfl dX7_out_62 ?_
            refine lv_iload_n hx hb dX7_out_65 rfl (lv_at hl 3 rfl) ?_
            refine lv_iload_n hx hb dX7_out_66 rfl (lv_at hl 2 rfl) ?_
            obtain ⟨x67, h67, h⟩ := bi1e h
            refine callVI (b := ad 2) (As := [.int (a2), .int (a1)]) (rest := []) ⟨hx, hb, hml, hown, hts⟩ (c_X2_othersOn l D ad cA n F G a2 a1 h67) (cwV 2 hts gX7_out_X2_othersOn rfl rfl rfl (by decide +kernel) ⟨Nat.le_of_ble_eq_true rfl, Nat.le_of_ble_eq_true rfl⟩) (va_recv hK hP (ci := 2) (q0 := 2) rfl wCg2) hP hK hD hN hS hA rfl hl.1 rfl (Nat.le_of_ble_eq_true rfl) dX7_out_67 ⟨Nat.zero_le _, Nat.zero_le _⟩ (fun H locs hP hD hS => ?_)
            refine lv_iconst (v := 2) hx hb dX7_out_70 (by decide) ?_
            refine lv_icmp_lt (tgt := 77) hx hb dX7_out_71 (by decide) (fun c71 => ?_) (fun c71 => ?_)
            · replace h := ifp h c71
              refine lv_aload_n hx hb dX7_out_77 rfl (lv_at hl 1 rfl) ?_
              refine va_get (D := D) (ci := 7) (fs := vX7 ad F) (v := .ref (ad 2)) (C := RX7) (T := TX7) (N := 6) hx hb hts n_7 hown hK hP 0 wCg0 rfl 1 (by decide) k_0 (fun _ h9 => h9) rfl dX7_out_78 ?_
              refine va_get (D := D) (ci := 2) (fs := vX2 ad F) (v := .int ((F 14))) (C := RX2) (T := TX2) (N := 8) hx hb hts n_2 hown hK hP 2 wCg2 rfl 7 (by decide) k_4 (fun _ h9 => h9) rfl dX7_out_81 ?_
              refine lv_iload_n hx hb dX7_out_84 rfl (lv_at hl 4 rfl) ?_
              obtain ⟨x85, h85, h⟩ := bi1e h
              refine callSI (As := [.int ((F 14)), .int (a3)]) (rest := []) ⟨hx, hb, hml, hown, hts⟩ (c_X7_distance l D ad cA n F G (F 14) a3 h85) (va_cwS 2 hts gX7_out_X7_distance rfl rfl rfl (by decide +kernel) ⟨Nat.le_of_ble_eq_true rfl, Nat.le_of_ble_eq_true rfl⟩) hP hK hD hN hS hA rfl hl.1 rfl (Nat.le_of_ble_eq_true rfl) dX7_out_85 ⟨Nat.zero_le _, Nat.zero_le _⟩ (fun H locs hP hD hS => ?_)
              refine lv_aload_n hx hb dX7_out_88 rfl (lv_at hl 1 rfl) ?_
              refine va_get (D := D) (ci := 7) (fs := vX7 ad F) (v := .ref (ad 2)) (C := RX7) (T := TX7) (N := 6) hx hb hts n_7 hown hK hP 0 wCg0 rfl 1 (by decide) k_0 (fun _ h9 => h9) rfl dX7_out_89 ?_
              refine va_get (D := D) (ci := 2) (fs := vX2 ad F) (v := .ref (ad 8)) (C := RX2) (T := TX2) (N := 8) hx hb hts n_2 hown hK hP 2 wCg2 rfl 5 (by decide) k_5 (fun _ h9 => h9) rfl dX7_out_92 ?_
              refine lv_iload_n hx hb dX7_out_95 rfl (lv_at hl 3 rfl) ?_
              obtain ⟨g96, h⟩ := og h
              refine va_iald (D := D) hx hb hK hP 8 0 wCg8 rfl (inB_in g96) dX7_out_96 ?_
              refine lv_icmp_le (tgt := 103) hx hb dX7_out_97 (by decide) (fun c97 => ?_) (fun c97 => ?_)
              · replace h := ifp h c97
                refine lv_aload_n hx hb dX7_out_103 rfl (lv_at hl 1 rfl) ?_
                refine va_get (D := D) (ci := 7) (fs := vX7 ad F) (v := .ref (ad 2)) (C := RX7) (T := TX7) (N := 6) hx hb hts n_7 hown hK hP 0 wCg0 rfl 1 (by decide) k_0 (fun _ h9 => h9) rfl dX7_out_104 ?_
                refine lv_iload_n hx hb dX7_out_107 rfl (lv_at hl 2 rfl) ?_
                refine lv_iload_n hx hb dX7_out_108 rfl (lv_at hl 3 rfl) ?_
                refine lv_iload_n hx hb dX7_out_109 rfl (lv_at hl 4 rfl) ?_
                obtain ⟨F110, G110, h110, h⟩ := bi2e h
                refine callVV (b := ad 2) (As := [.int (a1), .int (a2), .int (a3)]) (rest := []) ⟨hx, hb, hml, hown, hts⟩ (c_X2_send l D ad cA n F G a1 a2 a3 h110) (cwV 3 hts gX7_out_X2_send rfl rfl rfl (by decide +kernel) ⟨Nat.le_of_ble_eq_true rfl, Nat.le_of_ble_eq_true rfl⟩) (va_recv hK hP (ci := 2) (q0 := 2) rfl wCg2) hP hK hD hN hS hA rfl hl.1 rfl (Nat.le_of_ble_eq_true rfl) dX7_out_110 ⟨Nat.zero_le _, Nat.zero_le _⟩ (fun H locs hP hD hS => ?_)
                refine lv_iconst (v := 1) hx hb dX7_out_113 (by decide) ?_
                exact hret _ _ _ _ _ _ _ dX7_out_114 h hP hD hS
              · replace h := ifn h c97
                refine lv_bipush (v := (-5)) hx hb dX7_out_100 (by decide) ?_
                exact hret _ _ _ _ _ _ _ dX7_out_102 h hP hD hS
            · replace h := ifn h c71
              refine lv_bipush (v := (-4)) hx hb dX7_out_74 (by decide) ?_
              exact hret _ _ _ _ _ _ _ dX7_out_76 h hP hD hS
          · replace h := ifp h c42
            refine lv_aload_n hx hb dX7_out_45 rfl (lv_at hl 1 rfl) ?_
            refine va_get (D := D) (ci := 7) (fs := vX7 ad F) (v := .ref (ad 2)) (C := RX7) (T := TX7) (N := 6) hx hb hts n_7 hown hK hP 0 wCg0 rfl 1 (by decide) k_0 (fun _ h9 => h9) rfl dX7_out_46 ?_
            refine va_get (D := D) (ci := 2) (fs := vX2 ad F) (v := .ref (ad 5)) (C := RX2) (T := TX2) (N := 8) hx hb hts n_2 hown hK hP 2 wCg2 rfl 2 (by decide) k_6 (fun _ h9 => h9) rfl dX7_out_49 ?_
            refine lv_iload_n hx hb dX7_out_52 rfl (lv_at hl 2 rfl) ?_
            obtain ⟨g53, h⟩ := og h
            refine va_iald (D := D) hx hb hK hP 5 0 wCg5 rfl (inB_in g53) dX7_out_53 ?_
            refine lv_iload_n hx hb dX7_out_54 rfl (lv_at hl 3 rfl) ?_
            refine lv_icmp_eq (tgt := 61) hx hb dX7_out_55 (by decide) (fun c55 => ?_) (fun c55 => ?_)
            · replace h := ifp h c55
              refine lv_aload_n hx hb dX7_out_61 rfl (lv_at hl 1 rfl) ?_
              refine va_get (D := D) (ci := 7) (fs := vX7 ad F) (v := .ref (ad 2)) (C := RX7) (T := TX7) (N := 6) hx hb hts n_7 hown hK hP 0 wCg0 rfl 1 (by decide) k_0 (fun _ h9 => h9) rfl dX7_out_62 ?_
              refine lv_iload_n hx hb dX7_out_65 rfl (lv_at hl 3 rfl) ?_
              refine lv_iload_n hx hb dX7_out_66 rfl (lv_at hl 2 rfl) ?_
              obtain ⟨x67, h67, h⟩ := bi1e h
              refine callVI (b := ad 2) (As := [.int (a2), .int (a1)]) (rest := []) ⟨hx, hb, hml, hown, hts⟩ (c_X2_othersOn l D ad cA n F G a2 a1 h67) (cwV 2 hts gX7_out_X2_othersOn rfl rfl rfl (by decide +kernel) ⟨Nat.le_of_ble_eq_true rfl, Nat.le_of_ble_eq_true rfl⟩) (va_recv hK hP (ci := 2) (q0 := 2) rfl wCg2) hP hK hD hN hS hA rfl hl.1 rfl (Nat.le_of_ble_eq_true rfl) dX7_out_67 ⟨Nat.zero_le _, Nat.zero_le _⟩ (fun H locs hP hD hS => ?_)
              refine lv_iconst (v := 2) hx hb dX7_out_70 (by decide) ?_
              refine lv_icmp_lt (tgt := 77) hx hb dX7_out_71 (by decide) (fun c71 => ?_) (fun c71 => ?_)
              · replace h := ifp h c71
                refine lv_aload_n hx hb dX7_out_77 rfl (lv_at hl 1 rfl) ?_
                refine va_get (D := D) (ci := 7) (fs := vX7 ad F) (v := .ref (ad 2)) (C := RX7) (T := TX7) (N := 6) hx hb hts n_7 hown hK hP 0 wCg0 rfl 1 (by decide) k_0 (fun _ h9 => h9) rfl dX7_out_78 ?_
                refine va_get (D := D) (ci := 2) (fs := vX2 ad F) (v := .int ((F 14))) (C := RX2) (T := TX2) (N := 8) hx hb hts n_2 hown hK hP 2 wCg2 rfl 7 (by decide) k_4 (fun _ h9 => h9) rfl dX7_out_81 ?_
                refine lv_iload_n hx hb dX7_out_84 rfl (lv_at hl 4 rfl) ?_
                obtain ⟨x85, h85, h⟩ := bi1e h
                refine callSI (As := [.int ((F 14)), .int (a3)]) (rest := []) ⟨hx, hb, hml, hown, hts⟩ (c_X7_distance l D ad cA n F G (F 14) a3 h85) (va_cwS 2 hts gX7_out_X7_distance rfl rfl rfl (by decide +kernel) ⟨Nat.le_of_ble_eq_true rfl, Nat.le_of_ble_eq_true rfl⟩) hP hK hD hN hS hA rfl hl.1 rfl (Nat.le_of_ble_eq_true rfl) dX7_out_85 ⟨Nat.zero_le _, Nat.zero_le _⟩ (fun H locs hP hD hS => ?_)
                refine lv_aload_n hx hb dX7_out_88 rfl (lv_at hl 1 rfl) ?_
                refine va_get (D := D) (ci := 7) (fs := vX7 ad F) (v := .ref (ad 2)) (C := RX7) (T := TX7) (N := 6) hx hb hts n_7 hown hK hP 0 wCg0 rfl 1 (by decide) k_0 (fun _ h9 => h9) rfl dX7_out_89 ?_
                refine va_get (D := D) (ci := 2) (fs := vX2 ad F) (v := .ref (ad 8)) (C := RX2) (T := TX2) (N := 8) hx hb hts n_2 hown hK hP 2 wCg2 rfl 5 (by decide) k_5 (fun _ h9 => h9) rfl dX7_out_92 ?_
                refine lv_iload_n hx hb dX7_out_95 rfl (lv_at hl 3 rfl) ?_
                obtain ⟨g96, h⟩ := og h
                refine va_iald (D := D) hx hb hK hP 8 0 wCg8 rfl (inB_in g96) dX7_out_96 ?_
                refine lv_icmp_le (tgt := 103) hx hb dX7_out_97 (by decide) (fun c97 => ?_) (fun c97 => ?_)
                · replace h := ifp h c97
                  refine lv_aload_n hx hb dX7_out_103 rfl (lv_at hl 1 rfl) ?_
                  refine va_get (D := D) (ci := 7) (fs := vX7 ad F) (v := .ref (ad 2)) (C := RX7) (T := TX7) (N := 6) hx hb hts n_7 hown hK hP 0 wCg0 rfl 1 (by decide) k_0 (fun _ h9 => h9) rfl dX7_out_104 ?_
                  refine lv_iload_n hx hb dX7_out_107 rfl (lv_at hl 2 rfl) ?_
                  refine lv_iload_n hx hb dX7_out_108 rfl (lv_at hl 3 rfl) ?_
                  refine lv_iload_n hx hb dX7_out_109 rfl (lv_at hl 4 rfl) ?_
                  obtain ⟨F110, G110, h110, h⟩ := bi2e h
                  refine callVV (b := ad 2) (As := [.int (a1), .int (a2), .int (a3)]) (rest := []) ⟨hx, hb, hml, hown, hts⟩ (c_X2_send l D ad cA n F G a1 a2 a3 h110) (cwV 3 hts gX7_out_X2_send rfl rfl rfl (by decide +kernel) ⟨Nat.le_of_ble_eq_true rfl, Nat.le_of_ble_eq_true rfl⟩) (va_recv hK hP (ci := 2) (q0 := 2) rfl wCg2) hP hK hD hN hS hA rfl hl.1 rfl (Nat.le_of_ble_eq_true rfl) dX7_out_110 ⟨Nat.zero_le _, Nat.zero_le _⟩ (fun H locs hP hD hS => ?_)
                  refine lv_iconst (v := 1) hx hb dX7_out_113 (by decide) ?_
                  exact hret _ _ _ _ _ _ _ dX7_out_114 h hP hD hS
                · replace h := ifn h c97
                  refine lv_bipush (v := (-5)) hx hb dX7_out_100 (by decide) ?_
                  exact hret _ _ _ _ _ _ _ dX7_out_102 h hP hD hS
              · replace h := ifn h c71
                refine lv_bipush (v := (-4)) hx hb dX7_out_74 (by decide) ?_
                exact hret _ _ _ _ _ _ _ dX7_out_76 h hP hD hS
            · replace h := ifn h c55
              refine lv_bipush (v := (-3)) hx hb dX7_out_58 (by decide) ?_
              exact hret _ _ _ _ _ _ _ dX7_out_60 h hP hD hS
      · replace h := ifp h c18
        refine lv_iconst (v := (-1)) hx hb dX7_out_21 (by decide) ?_
        exact hret _ _ _ _ _ _ _ dX7_out_22 h hP hD hS
