def p_X8_heard_L26 (G : tG) (a1 : Int32) (a2 : Int32) (K26 : Int32 → Int32 → Int32 → Option (Int32)) : Nat → Int32 → Int32 → Int32 → Option (Int32)
  | 0, _, _, _ => none
  | k26 + 1, z26_0, z26_1, z26_2 => (if 12 ≤ z26_0 then K26 z26_0 z26_1 z26_2 else oguard (inB z26_0 12) ((if (G 9 z26_0.toNatClampNeg) ≤ 0 then plet (z26_0 + 1) (fun (x90 : Int32) => p_X8_heard_L26 G a1 a2 K26 k26 x90 z26_1 z26_2) else bi1 (p_X8_apart G z26_0 a1 a2) (fun x48 => (if x48 = 0 then some z26_0 else bi1 ((if x48 = 1 then some (1) else some (0))) (fun (y65_0 : Int32) => plet (z26_2 + y65_0) (fun (x74 : Int32) => bi1 ((if x48 = 1 then some (z26_0) else some (z26_1))) (fun (y78_0 : Int32) => plet (z26_0 + 1) (fun (x90 : Int32) => p_X8_heard_L26 G a1 a2 K26 k26 x90 y78_0 x74)))))))))
theorem p_X8_heard_L26_k {G : tG} {a1 : Int32} {a2 : Int32} {K0 : Int32 → Int32 → Int32 → Option (Int32)} {k : Nat} {z26_0 : Int32} {z26_1 : Int32} {z26_2 : Int32} {x : Int32} (h : p_X8_heard_L26 G a1 a2 K0 k z26_0 z26_1 z26_2 = some x) : ∃ K, K = K0 ∧ p_X8_heard_L26 G a1 a2 K k z26_0 z26_1 z26_2 = some x := ⟨K0, rfl, h⟩
def p_X8_heard (n : Nat) (G : tG) (a1 : Int32) (a2 : Int32) : Option (Int32) :=
  bi1 (p_X8_isHeard a1) (fun x1 => (if x1 = 0 then some (-2) else bi1 (p_X8_isHeard a2) (fun x8 => (if x8 = 0 then some (-2) else p_X8_heard_L26 G a1 a2 (fun (z26_0 : Int32) (z26_1 : Int32) (z26_2 : Int32) => bi1 ((if z26_2 = 1 then some (z26_1) else some ((-6)))) (fun (y98_0 : Int32) => some y98_0)) n 0 (-6) 0))))
set_option maxHeartbeats 4000000 in
set_option maxRecDepth 100000 in
theorem c_X8_heard (l : Launch) (D : va_G) (ad : Nat → Nat) (cA : ClassId) (n : Nat) (F : tF) (G : tG) (a1 : Int32) (a2 : Int32) {r : Int32} (h : p_X8_heard n G a1 a2 = some r) : CI l yX8_heard wsX8_heard ({ frames := 2, cells := 0, slots := 0, locals := 43 } : Room) D cA (wM ad cA F G) [.ref (ad 0), .int (a1), .int (a2)] r (wM ad cA F G) := by
  rw [p_X8_heard] at h
  refine metIr (w := wM ad cA) (cc := cX8_heard) (maxL := 7) (by decide) rfl (Nat.le_of_ble_eq_true rfl) ?_
  intro p e s m args below meth c A ls Q hE hret
  obtain ⟨hx, hb, hts, hown, hml, hP, hK, hD, hN, hA, hl⟩ := hE
  have hown : s.vm.findClass RX8 = some m.cls := hown
  have hl : lv_has ls 7 [(0, .ref (ad 0)), (1, .int (a1)), (2, .int (a2))] := hl
  have hS : va_S A s.heap s.heap [] := va_S.rf
  have k_0 : (Cond.fieldLink RX8 59 "BellBookModel" "tugsA" "[I").before args s = true := hts _ (List.mem_of_getElem? (i := 1) rfl)
  have n_8 : ∀ w ∈ u_ws RX8 TX8 46, w ∈ wsX8_heard := fun w hw => List.mem_cons_of_mem _ (List.mem_append_right _ hw)
  refine lv_iload_n hx hb dX8_heard_0 rfl (lv_at hl 1 rfl) ?_
  obtain ⟨x1, h1, h⟩ := bi1e h
  refine callSI (As := [.int (a1)]) (rest := []) ⟨hx, hb, hml, hown, hts⟩ (c_X8_isHeard l D ad cA n F G a1 h1) (va_cwS 1 hts gX8_heard_X8_isHeard rfl rfl rfl (by decide +kernel) ⟨Nat.le_of_ble_eq_true rfl, Nat.le_of_ble_eq_true rfl⟩) hP hK hD hN hS hA rfl hl.1 rfl (Nat.le_of_ble_eq_true rfl) dX8_heard_1 ⟨Nat.zero_le _, Nat.zero_le _⟩ (fun H locs hP hD hS => ?_)
  refine lv_if_eq (tgt := 14) hx hb dX8_heard_4 (by decide) (fun c4 => ?_) (fun c4 => ?_)
  · replace h := ifp h c4
    refine lv_bipush (v := (-2)) hx hb dX8_heard_14 (by decide) ?_
    exact hret _ _ _ _ _ dX8_heard_16 h hP hD hS
  · replace h := ifn h c4
    refine lv_iload_n hx hb dX8_heard_7 rfl (lv_at hl 2 rfl) ?_
    obtain ⟨x8, h8, h⟩ := bi1e h
    refine callSI (As := [.int (a2)]) (rest := []) ⟨hx, hb, hml, hown, hts⟩ (c_X8_isHeard l D ad cA n F G a2 h8) (va_cwS 1 hts gX8_heard_X8_isHeard rfl rfl rfl (by decide +kernel) ⟨Nat.le_of_ble_eq_true rfl, Nat.le_of_ble_eq_true rfl⟩) hP hK hD hN hS hA rfl hl.1 rfl (Nat.le_of_ble_eq_true rfl) dX8_heard_8 ⟨Nat.zero_le _, Nat.zero_le _⟩ (fun H locs hP hD hS => ?_)
    refine lv_if_ne (tgt := 17) hx hb dX8_heard_11 (by decide) (fun c11 => ?_) (fun c11 => ?_)
    · replace h := ifn h c11
      refine lv_iconst (v := 0) hx hb dX8_heard_17 (by decide) ?_
      refine lv_istore_n (lv' := [(3, .int (0)), (0, .ref (ad 0)), (1, .int (a1)), (2, .int (a2))]) hx hb dX8_heard_18 rfl hl (by decide) rfl (fun ls hl => ?_)
      refine lv_bipush (v := (-6)) hx hb dX8_heard_19 (by decide) ?_
      refine lv_istore (lv' := [(4, .int ((-6))), (3, .int (0)), (0, .ref (ad 0)), (1, .int (a1)), (2, .int (a2))]) hx hb dX8_heard_21 hl (by decide) rfl (fun ls hl => ?_)
      refine lv_iconst (v := 0) hx hb dX8_heard_23 (by decide) ?_
      refine lv_istore (lv' := [(5, .int (0)), (4, .int ((-6))), (3, .int (0)), (0, .ref (ad 0)), (1, .int (a1)), (2, .int (a2))]) hx hb dX8_heard_24 hl (by decide) rfl (fun ls hl => ?_)
      obtain ⟨K26, eK26, h⟩ := p_X8_heard_L26_k h
      have JE26 : ∀ (z26_0 : Int32) (z26_1 : Int32) (z26_2 : Int32) (H : Heap) (locs : List Loc) (ls : Array Slot), K26 z26_0 z26_1 z26_2 = some r → va_P D vwCl (wM ad cA F G) H → va_D A (wM ad cA F G) → va_S A s.heap H locs → lv_has ls 7 [(5, .int (z26_0)), (4, .int (z26_1)), (3, .int (z26_2)), (0, .ref (ad 0)), (1, .int (a1)), (2, .int (a2))] → W p l e ({ frames := 2, cells := 0, slots := 0, locals := 43 } : Room) s m args below meth c H locs 0 0 Q (F0 m 96 ls []) := by
        intro z26_0 z26_1 z26_2 H locs ls h hP hD hS hl
        rw [eK26] at h
        refine lv_iload_n hx hb dX8_heard_96 rfl (lv_at hl 2 rfl) ?_
        refine lv_iconst (v := 1) hx hb dX8_heard_97 (by decide) ?_
        obtain ⟨y98_0, q98, h⟩ := bi1e h
        have J98 : ∀ (wy98_0 : Int32), some (wy98_0) = some (y98_0) → ∀ (H : Heap) (locs : List Loc) (ls : Array Slot), va_P D vwCl (wM ad cA F G) H → va_D A (wM ad cA F G) → va_S A s.heap H locs → lv_has ls 7 [(5, .int (z26_0)), (4, .int (z26_1)), (3, .int (z26_2)), (0, .ref (ad 0)), (1, .int (a1)), (2, .int (a2))] → W p l e ({ frames := 2, cells := 0, slots := 0, locals := 43 } : Room) s m args below meth c H locs 0 0 Q (F0 m 108 ls [.int (wy98_0)]) := by
          intro wy98_0 e9 H locs ls hP hD hS hl
          cases e9
          exact hret _ _ _ _ _ dX8_heard_108 h hP hD hS
        refine lv_icmp_ne (tgt := 106) hx hb dX8_heard_98 (by decide) (fun c98 => ?_) (fun c98 => ?_)
        · replace q98 := ifn q98 c98
          refine lv_bipush (v := (-6)) hx hb dX8_heard_106 (by decide) ?_
          exact J98 _ q98 _ _ _ hP hD hS (lv_sub hl [0, 1, 2, 3, 4, 5] rfl)
        · replace q98 := ifp q98 c98
          refine lv_iload hx hb dX8_heard_101 (lv_at hl 1 rfl) ?_
          refine lv_goto (tgt := 108) hx hb dX8_heard_103 (by decide) ?_
          exact J98 _ q98 _ _ _ hP hD hS (lv_sub hl [0, 1, 2, 3, 4, 5] rfl)
      have LL26 : ∀ (k : Nat) (z26_0 : Int32) (z26_1 : Int32) (z26_2 : Int32) (H : Heap) (locs : List Loc) (ls : Array Slot), p_X8_heard_L26 G a1 a2 K26 k z26_0 z26_1 z26_2 = some r → va_P D vwCl (wM ad cA F G) H → va_D A (wM ad cA F G) → va_S A s.heap H locs → lv_has ls 7 [(5, .int (z26_0)), (4, .int (z26_1)), (3, .int (z26_2)), (0, .ref (ad 0)), (1, .int (a1)), (2, .int (a2))] → W p l e ({ frames := 2, cells := 0, slots := 0, locals := 43 } : Room) s m args below meth c H locs 0 0 Q (F0 m 26 ls []) := by
        intro k
        induction k with
        | zero =>
          intro z26_0 z26_1 z26_2 H locs ls h hP hD hS hl
          rw [p_X8_heard_L26] at h
          cases h
        | succ k26 ih26 =>
          intro z26_0 z26_1 z26_2 H locs ls h hP hD hS hl
          rw [p_X8_heard_L26] at h
          refine lv_iload hx hb dX8_heard_26 (lv_at hl 0 rfl) ?_
          refine lv_bipush (v := 12) hx hb dX8_heard_28 (by decide) ?_
          refine lv_icmp_ge (tgt := 96) hx hb dX8_heard_30 (by decide) (fun c30 => ?_) (fun c30 => ?_)
          · replace h := ifp h c30
            exact JE26 _ _ _ _ _ _ h hP hD hS (lv_sub hl [0, 1, 2, 3, 4, 5] rfl)
          · replace h := ifn h c30
            refine lv_aload_n hx hb dX8_heard_33 rfl (lv_at hl 3 rfl) ?_
            refine va_get (D := D) (ci := 8) (fs := vX8 ad F) (v := .ref (ad 10)) (C := RX8) (T := TX8) (N := 46) hx hb hts n_8 hown hK hP 0 wMg0 rfl 28 (by decide) k_0 (fun _ h9 => h9) rfl dX8_heard_34 ?_
            refine lv_iload hx hb dX8_heard_37 (lv_at hl 0 rfl) ?_
            obtain ⟨g39, h⟩ := og h
            refine va_iald (D := D) hx hb hK hP 10 0 wMg10 rfl (inB_in g39) dX8_heard_39 ?_
            refine lv_if_le (tgt := 90) hx hb dX8_heard_40 (by decide) (fun c40 => ?_) (fun c40 => ?_)
            · replace h := ifp h c40
              obtain ⟨x90, ex90⟩ : ∃ z : Int32, z = (z26_0 + 1) := ⟨_, rfl⟩
              replace h := pl h ex90
              refine lv_iinc (v := x90) (lv' := [(5, .int (x90)), (4, .int (z26_1)), (3, .int (z26_2)), (0, .ref (ad 0)), (1, .int (a1)), (2, .int (a2))]) hx hb dX8_heard_90 hl (k := 0) rfl (by rw [ex90]; rfl) (by decide) rfl (fun ls hl => ?_)
              refine lv_goto (tgt := 26) hx hb dX8_heard_93 (by decide) ?_
              exact ih26 _ _ _ _ _ _ h hP hD hS (lv_sub hl [0, 1, 2, 3, 4, 5] rfl)
            · replace h := ifn h c40
              refine lv_aload_n hx hb dX8_heard_43 rfl (lv_at hl 3 rfl) ?_
              refine lv_iload hx hb dX8_heard_44 (lv_at hl 0 rfl) ?_
              refine lv_iload_n hx hb dX8_heard_46 rfl (lv_at hl 4 rfl) ?_
              refine lv_iload_n hx hb dX8_heard_47 rfl (lv_at hl 5 rfl) ?_
              obtain ⟨x48, h48, h⟩ := bi1e h
              refine callVI (b := ad 0) (As := [.int (z26_0), .int (a1), .int (a2)]) (rest := []) ⟨hx, hb, hml, hown, hts⟩ (c_X8_apart l D ad cA n F G z26_0 a1 a2 h48) (cwV 3 hts gX8_heard_X8_apart rfl rfl rfl (by decide +kernel) ⟨Nat.le_of_ble_eq_true rfl, Nat.le_of_ble_eq_true rfl⟩) (va_recv hK hP (ci := 8) (q0 := 0) rfl wMg0) hP hK hD hN hS hA rfl hl.1 rfl (Nat.le_of_ble_eq_true rfl) dX8_heard_48 ⟨Nat.zero_le _, Nat.zero_le _⟩ (fun H locs hP hD hS => ?_)
              refine lv_istore (lv' := [(6, .int (x48)), (5, .int (z26_0)), (4, .int (z26_1)), (3, .int (z26_2)), (0, .ref (ad 0)), (1, .int (a1)), (2, .int (a2))]) hx hb dX8_heard_51 hl (by decide) rfl (fun ls hl => ?_)
              refine lv_iload hx hb dX8_heard_53 (lv_at hl 0 rfl) ?_
              refine lv_if_ne (tgt := 61) hx hb dX8_heard_55 (by decide) (fun c55 => ?_) (fun c55 => ?_)
              · replace h := ifn h c55
                refine lv_iload_n hx hb dX8_heard_61 rfl (lv_at hl 3 rfl) ?_
                refine lv_iload hx hb dX8_heard_62 (lv_at hl 0 rfl) ?_
                refine lv_iconst (v := 1) hx hb dX8_heard_64 (by decide) ?_
                obtain ⟨y65_0, q65, h⟩ := bi1e h
                have J65 : ∀ (wy65_0 : Int32), some (wy65_0) = some (y65_0) → ∀ (H : Heap) (locs : List Loc) (ls : Array Slot), va_P D vwCl (wM ad cA F G) H → va_D A (wM ad cA F G) → va_S A s.heap H locs → lv_has ls 7 [(6, .int (x48)), (5, .int (z26_0)), (4, .int (z26_1)), (3, .int (z26_2)), (0, .ref (ad 0)), (1, .int (a1)), (2, .int (a2))] → W p l e ({ frames := 2, cells := 0, slots := 0, locals := 43 } : Room) s m args below meth c H locs 0 0 Q (F0 m 73 ls [.int (wy65_0), .int (z26_2)]) := by
                  intro wy65_0 e9 H locs ls hP hD hS hl
                  cases e9
                  refine lv_iadd hx hb dX8_heard_73 ?_
                  refine lv_topi (fun x74 ex74 => ?_)
                  replace h := pl h ex74
                  refine lv_istore_n (lv' := [(3, .int (x74)), (6, .int (x48)), (5, .int (z26_0)), (4, .int (z26_1)), (0, .ref (ad 0)), (1, .int (a1)), (2, .int (a2))]) hx hb dX8_heard_74 rfl hl (by decide) rfl (fun ls hl => ?_)
                  refine lv_iload hx hb dX8_heard_75 (lv_at hl 1 rfl) ?_
                  refine lv_iconst (v := 1) hx hb dX8_heard_77 (by decide) ?_
                  obtain ⟨y78_0, q78, h⟩ := bi1e h
                  have J78 : ∀ (wy78_0 : Int32), some (wy78_0) = some (y78_0) → ∀ (H : Heap) (locs : List Loc) (ls : Array Slot), va_P D vwCl (wM ad cA F G) H → va_D A (wM ad cA F G) → va_S A s.heap H locs → lv_has ls 7 [(3, .int (x74)), (6, .int (x48)), (5, .int (z26_0)), (4, .int (z26_1)), (0, .ref (ad 0)), (1, .int (a1)), (2, .int (a2))] → W p l e ({ frames := 2, cells := 0, slots := 0, locals := 43 } : Room) s m args below meth c H locs 0 0 Q (F0 m 88 ls [.int (wy78_0)]) := by
                    intro wy78_0 e9 H locs ls hP hD hS hl
                    cases e9
                    refine lv_istore (lv' := [(4, .int (y78_0)), (3, .int (x74)), (6, .int (x48)), (5, .int (z26_0)), (0, .ref (ad 0)), (1, .int (a1)), (2, .int (a2))]) hx hb dX8_heard_88 hl (by decide) rfl (fun ls hl => ?_)
                    obtain ⟨x90, ex90⟩ : ∃ z : Int32, z = (z26_0 + 1) := ⟨_, rfl⟩
                    replace h := pl h ex90
                    refine lv_iinc (v := x90) (lv' := [(5, .int (x90)), (4, .int (y78_0)), (3, .int (x74)), (6, .int (x48)), (0, .ref (ad 0)), (1, .int (a1)), (2, .int (a2))]) hx hb dX8_heard_90 hl (k := 3) rfl (by rw [ex90]; rfl) (by decide) rfl (fun ls hl => ?_)
                    refine lv_goto (tgt := 26) hx hb dX8_heard_93 (by decide) ?_
                    exact ih26 _ _ _ _ _ _ h hP hD hS (lv_sub hl [0, 1, 2, 4, 5, 6] rfl)
                  refine lv_icmp_ne (tgt := 86) hx hb dX8_heard_78 (by decide) (fun c78 => ?_) (fun c78 => ?_)
                  · replace q78 := ifn q78 c78
                    refine lv_iload hx hb dX8_heard_86 (lv_at hl 3 rfl) ?_
                    exact J78 _ q78 _ _ _ hP hD hS (lv_sub hl [0, 1, 2, 3, 4, 5, 6] rfl)
                  · replace q78 := ifp q78 c78
                    refine lv_iload hx hb dX8_heard_81 (lv_at hl 2 rfl) ?_
                    refine lv_goto (tgt := 88) hx hb dX8_heard_83 (by decide) ?_
                    exact J78 _ q78 _ _ _ hP hD hS (lv_sub hl [0, 1, 2, 3, 4, 5, 6] rfl)
                refine lv_icmp_ne (tgt := 72) hx hb dX8_heard_65 (by decide) (fun c65 => ?_) (fun c65 => ?_)
                · replace q65 := ifn q65 c65
                  refine lv_iconst (v := 0) hx hb dX8_heard_72 (by decide) ?_
                  exact J65 _ q65 _ _ _ hP hD hS (lv_sub hl [0, 1, 2, 3, 4, 5, 6] rfl)
                · replace q65 := ifp q65 c65
                  refine lv_iconst (v := 1) hx hb dX8_heard_68 (by decide) ?_
                  refine lv_goto (tgt := 73) hx hb dX8_heard_69 (by decide) ?_
                  exact J65 _ q65 _ _ _ hP hD hS (lv_sub hl [0, 1, 2, 3, 4, 5, 6] rfl)
              · replace h := ifp h c55
                refine lv_iload hx hb dX8_heard_58 (lv_at hl 1 rfl) ?_
                exact hret _ _ _ _ _ dX8_heard_60 h hP hD hS
      exact LL26 n 0 (-6) 0 _ _ _ h hP hD hS (lv_sub hl [0, 1, 2, 3, 4, 5] rfl)
    · replace h := ifp h c11
      refine lv_bipush (v := (-2)) hx hb dX8_heard_14 (by decide) ?_
      exact hret _ _ _ _ _ dX8_heard_16 h hP hD hS

def p_X8_isHose (a0 : Int32) : Option (Int32) :=
  bi1 (p_X8_in a0 0 2) (fun x3 => oguard (btB x3) (some x3))
set_option maxHeartbeats 4000000 in
set_option maxRecDepth 100000 in
theorem c_X8_isHose (l : Launch) (D : va_G) (ad : Nat → Nat) (cA : ClassId) (n : Nat) (F : tF) (G : tG) (a0 : Int32) {r : Int32} (h : p_X8_isHose a0 = some r) : CI l yX8_isHose wsX8_isHose ({ frames := 1, cells := 0, slots := 0, locals := 22 } : Room) D cA (wM ad cA F G) [.int (a0)] r (wM ad cA F G) := by
  rw [p_X8_isHose] at h
  refine metZr (w := wM ad cA) (cc := cX8_isHose) (maxL := 1) (by decide) rfl (Nat.le_of_ble_eq_true rfl) ?_
  intro p e s m args below meth c A ls Q hE hret
  obtain ⟨hx, hb, hts, hown, hml, hP, hK, hD, hN, hA, hl⟩ := hE
  have hown : s.vm.findClass RX8 = some m.cls := hown
  have hl : lv_has ls 1 [(0, .int (a0))] := hl
  have hS : va_S A s.heap s.heap [] := va_S.rf
  refine lv_iload_n hx hb dX8_isHose_0 rfl (lv_at hl 0 rfl) ?_
  refine lv_iconst (v := 0) hx hb dX8_isHose_1 (by decide) ?_
  refine lv_iconst (v := 2) hx hb dX8_isHose_2 (by decide) ?_
  obtain ⟨x3, h3, h⟩ := bi1e h
  refine callSI (As := [.int (a0), .int (0), .int (2)]) (rest := []) ⟨hx, hb, hml, hown, hts⟩ (c_X8_in l D ad cA n F G a0 0 2 h3) (va_cwS 3 hts gX8_isHose_X8_in rfl rfl rfl (by decide +kernel) ⟨Nat.le_of_ble_eq_true rfl, Nat.le_of_ble_eq_true rfl⟩) hP hK hD hN hS hA rfl hl.1 rfl (Nat.le_of_ble_eq_true rfl) dX8_isHose_3 ⟨Nat.zero_le _, Nat.zero_le _⟩ (fun H locs hP hD hS => ?_)
  obtain ⟨g6, h⟩ := og h
  exact hret _ _ _ _ _ dX8_isHose_6 g6 h hP hD hS

def p_X8_onHose_L4 (G : tG) (a1 : Int32) (K4 : Int32 → Int32 → Option (Int32)) : Nat → Int32 → Int32 → Option (Int32)
  | 0, _, _ => none
  | k4 + 1, z4_0, z4_1 => (if 6 ≤ z4_0 then K4 z4_0 z4_1 else oguard (inB z4_0 6) (bi1 ((if (G 0 z4_0.toNatClampNeg) = 2 then oguard (inB z4_0 6) ((if (G 2 z4_0.toNatClampNeg) = a1 then some (1) else some (0))) else some (0))) (fun (y18_0 : Int32) => plet (z4_1 + y18_0) (fun (x37 : Int32) => plet (z4_0 + 1) (fun (x38 : Int32) => p_X8_onHose_L4 G a1 K4 k4 x38 x37)))))
theorem p_X8_onHose_L4_k {G : tG} {a1 : Int32} {K0 : Int32 → Int32 → Option (Int32)} {k : Nat} {z4_0 : Int32} {z4_1 : Int32} {x : Int32} (h : p_X8_onHose_L4 G a1 K0 k z4_0 z4_1 = some x) : ∃ K, K = K0 ∧ p_X8_onHose_L4 G a1 K k z4_0 z4_1 = some x := ⟨K0, rfl, h⟩
def p_X8_onHose (n : Nat) (G : tG) (a1 : Int32) : Option (Int32) :=
  p_X8_onHose_L4 G a1 (fun (z4_0 : Int32) (z4_1 : Int32) => some z4_1) n 0 0
set_option maxHeartbeats 4000000 in
set_option maxRecDepth 100000 in
theorem c_X8_onHose (l : Launch) (D : va_G) (ad : Nat → Nat) (cA : ClassId) (n : Nat) (F : tF) (G : tG) (a1 : Int32) {r : Int32} (h : p_X8_onHose n G a1 = some r) : CI l yX8_onHose wsX8_onHose ({ frames := 0, cells := 0, slots := 0, locals := 0 } : Room) D cA (wM ad cA F G) [.ref (ad 0), .int (a1)] r (wM ad cA F G) := by
  rw [p_X8_onHose] at h
  refine metIr (w := wM ad cA) (cc := cX8_onHose) (maxL := 4) (by decide) rfl (Nat.le_of_ble_eq_true rfl) ?_
  intro p e s m args below meth c A ls Q hE hret
  obtain ⟨hx, hb, hts, hown, hml, hP, hK, hD, hN, hA, hl⟩ := hE
  have hown : s.vm.findClass RX8 = some m.cls := hown
  have hl : lv_has ls 4 [(0, .ref (ad 0)), (1, .int (a1))] := hl
  have hS : va_S A s.heap s.heap [] := va_S.rf
  have k_0 : (Cond.fieldLink RX8 31 "BellBookModel" "where" "[I").before args s = true := hts _ (List.mem_of_getElem? (i := 1) rfl)
  have n_8 : ∀ w ∈ u_ws RX8 TX8 46, w ∈ wsX8_onHose := fun w hw => List.mem_cons_of_mem _ (List.mem_append_right _ hw)
  have k_2 : (Cond.fieldLink RX8 38 "BellBookModel" "hoseOf" "[I").before args s = true := hts _ (List.mem_of_getElem? (i := 2) rfl)
  refine lv_iconst (v := 0) hx hb dX8_onHose_0 (by decide) ?_
  refine lv_istore_n (lv' := [(2, .int (0)), (0, .ref (ad 0)), (1, .int (a1))]) hx hb dX8_onHose_1 rfl hl (by decide) rfl (fun ls hl => ?_)
  refine lv_iconst (v := 0) hx hb dX8_onHose_2 (by decide) ?_
  refine lv_istore_n (lv' := [(3, .int (0)), (2, .int (0)), (0, .ref (ad 0)), (1, .int (a1))]) hx hb dX8_onHose_3 rfl hl (by decide) rfl (fun ls hl => ?_)
  obtain ⟨K4, eK4, h⟩ := p_X8_onHose_L4_k h
  have JE4 : ∀ (z4_0 : Int32) (z4_1 : Int32) (H : Heap) (locs : List Loc) (ls : Array Slot), K4 z4_0 z4_1 = some r → va_P D vwCl (wM ad cA F G) H → va_D A (wM ad cA F G) → va_S A s.heap H locs → lv_has ls 4 [(3, .int (z4_0)), (2, .int (z4_1)), (0, .ref (ad 0)), (1, .int (a1))] → W p l e ({ frames := 0, cells := 0, slots := 0, locals := 0 } : Room) s m args below meth c H locs 0 0 Q (F0 m 44 ls []) := by
    intro z4_0 z4_1 H locs ls h hP hD hS hl
    rw [eK4] at h
    refine lv_iload_n hx hb dX8_onHose_44 rfl (lv_at hl 1 rfl) ?_
    exact hret _ _ _ _ _ dX8_onHose_45 h hP hD hS
  have LL4 : ∀ (k : Nat) (z4_0 : Int32) (z4_1 : Int32) (H : Heap) (locs : List Loc) (ls : Array Slot), p_X8_onHose_L4 G a1 K4 k z4_0 z4_1 = some r → va_P D vwCl (wM ad cA F G) H → va_D A (wM ad cA F G) → va_S A s.heap H locs → lv_has ls 4 [(3, .int (z4_0)), (2, .int (z4_1)), (0, .ref (ad 0)), (1, .int (a1))] → W p l e ({ frames := 0, cells := 0, slots := 0, locals := 0 } : Room) s m args below meth c H locs 0 0 Q (F0 m 4 ls []) := by
    intro k
    induction k with
    | zero =>
      intro z4_0 z4_1 H locs ls h hP hD hS hl
      rw [p_X8_onHose_L4] at h
      cases h
    | succ k4 ih4 =>
      intro z4_0 z4_1 H locs ls h hP hD hS hl
      rw [p_X8_onHose_L4] at h
      refine lv_iload_n hx hb dX8_onHose_4 rfl (lv_at hl 0 rfl) ?_
      refine lv_bipush (v := 6) hx hb dX8_onHose_5 (by decide) ?_
      refine lv_icmp_ge (tgt := 44) hx hb dX8_onHose_7 (by decide) (fun c7 => ?_) (fun c7 => ?_)
      · replace h := ifp h c7
        exact JE4 _ _ _ _ _ h hP hD hS (lv_sub hl [0, 1, 2, 3] rfl)
      · replace h := ifn h c7
        refine lv_iload_n hx hb dX8_onHose_10 rfl (lv_at hl 1 rfl) ?_
        refine lv_aload_n hx hb dX8_onHose_11 rfl (lv_at hl 2 rfl) ?_
        refine va_get (D := D) (ci := 8) (fs := vX8 ad F) (v := .ref (ad 1)) (C := RX8) (T := TX8) (N := 46) hx hb hts n_8 hown hK hP 0 wMg0 rfl 15 (by decide) k_0 (fun _ h9 => h9) rfl dX8_onHose_12 ?_
        refine lv_iload_n hx hb dX8_onHose_15 rfl (lv_at hl 0 rfl) ?_
        obtain ⟨g16, h⟩ := og h
        refine va_iald (D := D) hx hb hK hP 1 0 wMg1 rfl (inB_in g16) dX8_onHose_16 ?_
        refine lv_iconst (v := 2) hx hb dX8_onHose_17 (by decide) ?_
        obtain ⟨y18_0, q18, h⟩ := bi1e h
        have J18 : ∀ (wy18_0 : Int32), some (wy18_0) = some (y18_0) → ∀ (H : Heap) (locs : List Loc) (ls : Array Slot), va_P D vwCl (wM ad cA F G) H → va_D A (wM ad cA F G) → va_S A s.heap H locs → lv_has ls 4 [(3, .int (z4_0)), (2, .int (z4_1)), (0, .ref (ad 0)), (1, .int (a1))] → W p l e ({ frames := 0, cells := 0, slots := 0, locals := 0 } : Room) s m args below meth c H locs 0 0 Q (F0 m 36 ls [.int (wy18_0), .int (z4_1)]) := by
          intro wy18_0 e9 H locs ls hP hD hS hl
          cases e9
          refine lv_iadd hx hb dX8_onHose_36 ?_
          refine lv_topi (fun x37 ex37 => ?_)
          replace h := pl h ex37
          refine lv_istore_n (lv' := [(2, .int (x37)), (3, .int (z4_0)), (0, .ref (ad 0)), (1, .int (a1))]) hx hb dX8_onHose_37 rfl hl (by decide) rfl (fun ls hl => ?_)
          obtain ⟨x38, ex38⟩ : ∃ z : Int32, z = (z4_0 + 1) := ⟨_, rfl⟩
          replace h := pl h ex38
          refine lv_iinc (v := x38) (lv' := [(3, .int (x38)), (2, .int (x37)), (0, .ref (ad 0)), (1, .int (a1))]) hx hb dX8_onHose_38 hl (k := 1) rfl (by rw [ex38]; rfl) (by decide) rfl (fun ls hl => ?_)
          refine lv_goto (tgt := 4) hx hb dX8_onHose_41 (by decide) ?_
          exact ih4 _ _ _ _ _ h hP hD hS (lv_sub hl [0, 1, 2, 3] rfl)
        refine lv_icmp_ne (tgt := 35) hx hb dX8_onHose_18 (by decide) (fun c18 => ?_) (fun c18 => ?_)
        · replace q18 := ifn q18 c18
          refine lv_iconst (v := 0) hx hb dX8_onHose_35 (by decide) ?_
          exact J18 _ q18 _ _ _ hP hD hS (lv_sub hl [0, 1, 2, 3] rfl)
        · replace q18 := ifp q18 c18
          refine lv_aload_n hx hb dX8_onHose_21 rfl (lv_at hl 2 rfl) ?_
          refine va_get (D := D) (ci := 8) (fs := vX8 ad F) (v := .ref (ad 3)) (C := RX8) (T := TX8) (N := 46) hx hb hts n_8 hown hK hP 0 wMg0 rfl 17 (by decide) k_2 (fun _ h9 => h9) rfl dX8_onHose_22 ?_
          refine lv_iload_n hx hb dX8_onHose_25 rfl (lv_at hl 0 rfl) ?_
          obtain ⟨g26, q18⟩ := og q18
          refine va_iald (D := D) hx hb hK hP 3 0 wMg3 rfl (inB_in g26) dX8_onHose_26 ?_
          refine lv_iload_n hx hb dX8_onHose_27 rfl (lv_at hl 3 rfl) ?_
          refine lv_icmp_ne (tgt := 35) hx hb dX8_onHose_28 (by decide) (fun c28 => ?_) (fun c28 => ?_)
          · replace q18 := ifn q18 c28
            refine lv_iconst (v := 0) hx hb dX8_onHose_35 (by decide) ?_
            exact J18 _ q18 _ _ _ hP hD hS (lv_sub hl [0, 1, 2, 3] rfl)
          · replace q18 := ifp q18 c28
            refine lv_iconst (v := 1) hx hb dX8_onHose_31 (by decide) ?_
            refine lv_goto (tgt := 36) hx hb dX8_onHose_32 (by decide) ?_
            exact J18 _ q18 _ _ _ hP hD hS (lv_sub hl [0, 1, 2, 3] rfl)
  exact LL4 n 0 0 _ _ _ h hP hD hS (lv_sub hl [0, 1, 2, 3] rfl)

def p_X8_hose (n : Nat) (F : tF) (G : tG) (a1 : Int32) (a2 : Int32) : Option (Int32 × tF × tG) :=
  bi1 (p_X8_isHose a1) (fun x1 => (if x1 = 0 then some ((-1), F, G) else bi1 (p_X8_in a2 1 12) (fun x13 => (if x13 = 0 then some ((-2), F, G) else bi1 (p_X8_onHose n G a1) (fun x24 => (if x24 ≤ 0 then oguard (inB a1 3) (plet (G 5 a1.toNatClampNeg) (fun (x39 : Int32) => oguard (inB a1 3) (plet (stG G 5 a1 a2) (fun (G46 : tG) => some (x39, F, G46))))) else some ((-3), F, G)))))))
set_option maxHeartbeats 4000000 in
set_option maxRecDepth 100000 in
theorem c_X8_hose (l : Launch) (D : va_G) (ad : Nat → Nat) (cA : ClassId) (n : Nat) (F : tF) (G : tG) (a1 : Int32) (a2 : Int32) {r : Int32} {F' : tF} {G' : tG} (h : p_X8_hose n F G a1 a2 = some (r, F', G')) : CI l yX8_hose wsX8_hose ({ frames := 2, cells := 0, slots := 0, locals := 42 } : Room) D cA (wM ad cA F G) [.ref (ad 0), .int (a1), .int (a2)] r (wM ad cA F' G') := by
  rw [p_X8_hose] at h
  refine metIm (w := wM ad cA) (cc := cX8_hose) (maxL := 4) (by decide) rfl (Nat.le_of_ble_eq_true rfl) ?_
  intro p e s m args below meth c A ls Q hE hret
  obtain ⟨hx, hb, hts, hown, hml, hP, hK, hD, hN, hA, hl⟩ := hE
  have hown : s.vm.findClass RX8 = some m.cls := hown
  have hl : lv_has ls 4 [(0, .ref (ad 0)), (1, .int (a1)), (2, .int (a2))] := hl
  have hS : va_S A s.heap s.heap [] := va_S.rf
  have k_0 : (Cond.fieldLink RX8 47 "BellBookModel" "length" "[I").before args s = true := hts _ (List.mem_of_getElem? (i := 1) rfl)
  have n_8 : ∀ w ∈ u_ws RX8 TX8 46, w ∈ wsX8_hose := fun w hw => List.mem_cons_of_mem _ (List.mem_append_right _ hw)
  refine lv_iload_n hx hb dX8_hose_0 rfl (lv_at hl 1 rfl) ?_
  obtain ⟨x1, h1, h⟩ := bi1e h
  refine callSI (As := [.int (a1)]) (rest := []) ⟨hx, hb, hml, hown, hts⟩ (c_X8_isHose l D ad cA n F G a1 h1) (va_cwS 1 hts gX8_hose_X8_isHose rfl rfl rfl (by decide +kernel) ⟨Nat.le_of_ble_eq_true rfl, Nat.le_of_ble_eq_true rfl⟩) hP hK hD hN hS hA rfl hl.1 rfl (Nat.le_of_ble_eq_true rfl) dX8_hose_1 ⟨Nat.zero_le _, Nat.zero_le _⟩ (fun H locs hP hD hS => ?_)
  refine lv_if_ne (tgt := 9) hx hb dX8_hose_4 (by decide) (fun c4 => ?_) (fun c4 => ?_)
  · replace h := ifn h c4
    refine lv_iload_n hx hb dX8_hose_9 rfl (lv_at hl 2 rfl) ?_
    refine lv_iconst (v := 1) hx hb dX8_hose_10 (by decide) ?_
    refine lv_bipush (v := 12) hx hb dX8_hose_11 (by decide) ?_
    obtain ⟨x13, h13, h⟩ := bi1e h
    refine callSI (As := [.int (a2), .int (1), .int (12)]) (rest := []) ⟨hx, hb, hml, hown, hts⟩ (c_X8_in l D ad cA n F G a2 1 12 h13) (va_cwS 3 hts gX8_hose_X8_in rfl rfl rfl (by decide +kernel) ⟨Nat.le_of_ble_eq_true rfl, Nat.le_of_ble_eq_true rfl⟩) hP hK hD hN hS hA rfl hl.1 rfl (Nat.le_of_ble_eq_true rfl) dX8_hose_13 ⟨Nat.zero_le _, Nat.zero_le _⟩ (fun H locs hP hD hS => ?_)
    refine lv_if_ne (tgt := 22) hx hb dX8_hose_16 (by decide) (fun c16 => ?_) (fun c16 => ?_)
    · replace h := ifn h c16
      refine lv_aload_n hx hb dX8_hose_22 rfl (lv_at hl 0 rfl) ?_
      refine lv_iload_n hx hb dX8_hose_23 rfl (lv_at hl 1 rfl) ?_
      obtain ⟨x24, h24, h⟩ := bi1e h
      refine callVI (b := ad 0) (As := [.int (a1)]) (rest := []) ⟨hx, hb, hml, hown, hts⟩ (c_X8_onHose l D ad cA n F G a1 h24) (cwV 1 hts gX8_hose_X8_onHose rfl rfl rfl (by decide +kernel) ⟨Nat.le_of_ble_eq_true rfl, Nat.le_of_ble_eq_true rfl⟩) (va_recv hK hP (ci := 8) (q0 := 0) rfl wMg0) hP hK hD hN hS hA rfl hl.1 rfl (Nat.le_of_ble_eq_true rfl) dX8_hose_24 ⟨Nat.zero_le _, Nat.zero_le _⟩ (fun H locs hP hD hS => ?_)
      refine lv_if_le (tgt := 33) hx hb dX8_hose_27 (by decide) (fun c27 => ?_) (fun c27 => ?_)
      · replace h := ifp h c27
        refine lv_aload_n hx hb dX8_hose_33 rfl (lv_at hl 0 rfl) ?_
        refine va_get (D := D) (ci := 8) (fs := vX8 ad F) (v := .ref (ad 6)) (C := RX8) (T := TX8) (N := 46) hx hb hts n_8 hown hK hP 0 wMg0 rfl 20 (by decide) k_0 (fun _ h9 => h9) rfl dX8_hose_34 ?_
        refine lv_iload_n hx hb dX8_hose_37 rfl (lv_at hl 1 rfl) ?_
        obtain ⟨g38, h⟩ := og h
        refine va_iald (D := D) hx hb hK hP 6 0 wMg6 rfl (inB_in g38) dX8_hose_38 ?_
        refine lv_topi (fun x39 ex39 => ?_)
        replace h := pl h ex39
        refine lv_istore_n (lv' := [(3, .int (x39)), (0, .ref (ad 0)), (1, .int (a1)), (2, .int (a2))]) hx hb dX8_hose_39 rfl hl (by decide) rfl (fun ls hl => ?_)
        refine lv_aload_n hx hb dX8_hose_40 rfl (lv_at hl 1 rfl) ?_
        refine va_get (D := D) (ci := 8) (fs := vX8 ad F) (v := .ref (ad 6)) (C := RX8) (T := TX8) (N := 46) hx hb hts n_8 hown hK hP 0 wMg0 rfl 20 (by decide) k_0 (fun _ h9 => h9) rfl dX8_hose_41 ?_
        refine lv_iload_n hx hb dX8_hose_44 rfl (lv_at hl 2 rfl) ?_
        refine lv_iload_n hx hb dX8_hose_45 rfl (lv_at hl 3 rfl) ?_
        obtain ⟨g46, h⟩ := og h
        obtain ⟨G46, eG46⟩ : ∃ z : tG, z = stG G 5 a1 a2 := ⟨_, rfl⟩
        replace h := pl h eG46
        refine va_iast (D := D) hx hb hK hP hD hS 6 0 wMg6 rfl (inB_in g46) dX8_hose_46 (fun H locs hP hD hS => ?_)
        rw [wMa5 eG46] at hP hD
        refine lv_iload_n hx hb dX8_hose_47 rfl (lv_at hl 0 rfl) ?_
        exact hret _ _ _ _ _ _ _ dX8_hose_48 h hP hD hS
      · replace h := ifn h c27
        refine lv_bipush (v := (-3)) hx hb dX8_hose_30 (by decide) ?_
        exact hret _ _ _ _ _ _ _ dX8_hose_32 h hP hD hS
    · replace h := ifp h c16
      refine lv_bipush (v := (-2)) hx hb dX8_hose_19 (by decide) ?_
      exact hret _ _ _ _ _ _ _ dX8_hose_21 h hP hD hS
  · replace h := ifp h c4
    refine lv_iconst (v := (-1)) hx hb dX8_hose_7 (by decide) ?_
    exact hret _ _ _ _ _ _ _ dX8_hose_8 h hP hD hS

def p_X8_isFree (F : tF) (G : tG) (a1 : Int32) : Option (Int32) :=
  oguard (inB a1 12) (bi1 ((if ((G 7 a1.toNatClampNeg) &&& ((F 16) ^^^ (-1))) = 0 then some (1) else some (0))) (fun (y13_0 : Int32) => oguard (btB y13_0) (some y13_0)))
set_option maxHeartbeats 4000000 in
set_option maxRecDepth 100000 in
theorem c_X8_isFree (l : Launch) (D : va_G) (ad : Nat → Nat) (cA : ClassId) (n : Nat) (F : tF) (G : tG) (a1 : Int32) {r : Int32} (h : p_X8_isFree F G a1 = some r) : CI l yX8_isFree wsX8_isFree ({ frames := 0, cells := 0, slots := 0, locals := 0 } : Room) D cA (wM ad cA F G) [.ref (ad 0), .int (a1)] r (wM ad cA F G) := by
  rw [p_X8_isFree] at h
  refine metZr (w := wM ad cA) (cc := cX8_isFree) (maxL := 2) (by decide) rfl (Nat.le_of_ble_eq_true rfl) ?_
  intro p e s m args below meth c A ls Q hE hret
  obtain ⟨hx, hb, hts, hown, hml, hP, hK, hD, hN, hA, hl⟩ := hE
  have hown : s.vm.findClass RX8 = some m.cls := hown
  have hl : lv_has ls 2 [(0, .ref (ad 0)), (1, .int (a1))] := hl
  have hS : va_S A s.heap s.heap [] := va_S.rf
  have k_0 : (Cond.fieldLink RX8 53 "BellBookModel" "under" "[I").before args s = true := hts _ (List.mem_of_getElem? (i := 1) rfl)
  have n_8 : ∀ w ∈ u_ws RX8 TX8 46, w ∈ wsX8_isFree := fun w hw => List.mem_cons_of_mem _ (List.mem_append_right _ hw)
  have k_2 : (Cond.fieldLink RX8 138 "BellBookModel" "raised" "I").before args s = true := hts _ (List.mem_of_getElem? (i := 2) rfl)
  refine lv_aload_n hx hb dX8_isFree_0 rfl (lv_at hl 0 rfl) ?_
  refine va_get (D := D) (ci := 8) (fs := vX8 ad F) (v := .ref (ad 8)) (C := RX8) (T := TX8) (N := 46) hx hb hts n_8 hown hK hP 0 wMg0 rfl 23 (by decide) k_0 (fun _ h9 => h9) rfl dX8_isFree_1 ?_
  refine lv_iload_n hx hb dX8_isFree_4 rfl (lv_at hl 1 rfl) ?_
  obtain ⟨g5, h⟩ := og h
  refine va_iald (D := D) hx hb hK hP 8 0 wMg8 rfl (inB_in g5) dX8_isFree_5 ?_
  refine lv_aload_n hx hb dX8_isFree_6 rfl (lv_at hl 0 rfl) ?_
  refine va_get (D := D) (ci := 8) (fs := vX8 ad F) (v := .int ((F 16))) (C := RX8) (T := TX8) (N := 46) hx hb hts n_8 hown hK hP 0 wMg0 rfl 24 (by decide) k_2 (fun _ h9 => h9) rfl dX8_isFree_7 ?_
  refine lv_iconst (v := (-1)) hx hb dX8_isFree_10 (by decide) ?_
  refine lv_ixor hx hb dX8_isFree_11 ?_
  refine lv_iand hx hb dX8_isFree_12 ?_
  obtain ⟨y13_0, q13, h⟩ := bi1e h
  have J13 : ∀ (wy13_0 : Int32), some (wy13_0) = some (y13_0) → ∀ (H : Heap) (locs : List Loc) (ls : Array Slot), va_P D vwCl (wM ad cA F G) H → va_D A (wM ad cA F G) → va_S A s.heap H locs → lv_has ls 2 [(0, .ref (ad 0)), (1, .int (a1))] → W p l e ({ frames := 0, cells := 0, slots := 0, locals := 0 } : Room) s m args below meth c H locs 0 0 Q (F0 m 21 ls [.int (wy13_0)]) := by
    intro wy13_0 e9 H locs ls hP hD hS hl
    cases e9
    obtain ⟨g21, h⟩ := og h
    exact hret _ _ _ _ _ dX8_isFree_21 g21 h hP hD hS
  refine lv_if_ne (tgt := 20) hx hb dX8_isFree_13 (by decide) (fun c13 => ?_) (fun c13 => ?_)
  · replace q13 := ifn q13 c13
    refine lv_iconst (v := 0) hx hb dX8_isFree_20 (by decide) ?_
    exact J13 _ q13 _ _ _ hP hD hS (lv_sub hl [0, 1] rfl)
  · replace q13 := ifp q13 c13
    refine lv_iconst (v := 1) hx hb dX8_isFree_16 (by decide) ?_
    refine lv_goto (tgt := 21) hx hb dX8_isFree_17 (by decide) ?_
    exact J13 _ q13 _ _ _ hP hD hS (lv_sub hl [0, 1] rfl)

def p_X8_isThing (F : tF) (a1 : Int32) : Option (Int32) :=
  bi1 (p_X8_in a1 0 ((F 15) - 1)) (fun x8 => oguard (btB x8) (some x8))
set_option maxHeartbeats 4000000 in
set_option maxRecDepth 100000 in
theorem c_X8_isThing (l : Launch) (D : va_G) (ad : Nat → Nat) (cA : ClassId) (n : Nat) (F : tF) (G : tG) (a1 : Int32) {r : Int32} (h : p_X8_isThing F a1 = some r) : CI l yX8_isThing wsX8_isThing ({ frames := 1, cells := 0, slots := 0, locals := 22 } : Room) D cA (wM ad cA F G) [.ref (ad 0), .int (a1)] r (wM ad cA F G) := by
  rw [p_X8_isThing] at h
  refine metZr (w := wM ad cA) (cc := cX8_isThing) (maxL := 2) (by decide) rfl (Nat.le_of_ble_eq_true rfl) ?_
  intro p e s m args below meth c A ls Q hE hret
  obtain ⟨hx, hb, hts, hown, hml, hP, hK, hD, hN, hA, hl⟩ := hE
  have hown : s.vm.findClass RX8 = some m.cls := hown
  have hl : lv_has ls 2 [(0, .ref (ad 0)), (1, .int (a1))] := hl
  have hS : va_S A s.heap s.heap [] := va_S.rf
  have k_0 : (Cond.fieldLink RX8 173 "BellBookModel" "things" "I").before args s = true := hts _ (List.mem_of_getElem? (i := 1) rfl)
  have n_8 : ∀ w ∈ u_ws RX8 TX8 46, w ∈ wsX8_isThing := fun w hw => List.mem_cons_of_mem _ (List.mem_append_right _ hw)
  refine lv_iload_n hx hb dX8_isThing_0 rfl (lv_at hl 1 rfl) ?_
  refine lv_iconst (v := 0) hx hb dX8_isThing_1 (by decide) ?_
  refine lv_aload_n hx hb dX8_isThing_2 rfl (lv_at hl 0 rfl) ?_
  refine va_get (D := D) (ci := 8) (fs := vX8 ad F) (v := .int ((F 15))) (C := RX8) (T := TX8) (N := 46) hx hb hts n_8 hown hK hP 0 wMg0 rfl 21 (by decide) k_0 (fun _ h9 => h9) rfl dX8_isThing_3 ?_
  refine lv_iconst (v := 1) hx hb dX8_isThing_6 (by decide) ?_
  refine lv_isub hx hb dX8_isThing_7 ?_
  obtain ⟨x8, h8, h⟩ := bi1e h
  refine callSI (As := [.int (a1), .int (0), .int (((F 15) - 1))]) (rest := []) ⟨hx, hb, hml, hown, hts⟩ (c_X8_in l D ad cA n F G a1 0 ((F 15) - 1) h8) (va_cwS 3 hts gX8_isThing_X8_in rfl rfl rfl (by decide +kernel) ⟨Nat.le_of_ble_eq_true rfl, Nat.le_of_ble_eq_true rfl⟩) hP hK hD hN hS hA rfl hl.1 rfl (Nat.le_of_ble_eq_true rfl) dX8_isThing_8 ⟨Nat.zero_le _, Nat.zero_le _⟩ (fun H locs hP hD hS => ?_)
  obtain ⟨g11, h⟩ := og h
  exact hret _ _ _ _ _ dX8_isThing_11 g11 h hP hD hS

def p_X8_labour (F : tF) (G : tG) (a1 : Int32) : Option (tF × tG) :=
  oguard (inB a1 6) (plet (G 4 a1.toNatClampNeg) (fun (x6 : Int32) => bi1 ((if x6 < 0 then some (0) else oguard (inB (5 * x6) 60) (oguard (inB a1 6) ((if (G 6 (5 * x6).toNatClampNeg) = (G 1 a1.toNatClampNeg) then bi1 (p_X8_isFree F G x6) (fun x30 => (if x30 = 0 then some (0) else (if ((((F 16) ||| (F 17)) >>> (x6 &&& 31)) &&& 1) = 0 then some (1) else some (0)))) else some (0)))))) (fun (y8_0 : Int32) => bi2 ((if y8_0 = 0 then some (F, G) else oguard (inB ((5 * x6) + 4) 60) (oguard (inB ((5 * x6) + 4) 60) (plet (stG G 6 ((5 * x6) + 4) ((G 6 ((5 * x6) + 4).toNatClampNeg) + 1)) (fun (G75 : tG) => oguard (inB ((5 * x6) + 4) 60) (oguard (inB ((5 * x6) + 2) 60) (bi1 ((if (G75 6 ((5 * x6) + 4).toNatClampNeg) = (G75 6 ((5 * x6) + 2).toNatClampNeg) then some ((1 <<< (x6 &&& 31))) else some (0))) (fun (y101_0 : Int32) => plet (upd F 16 ((F 16) ||| y101_0)) (fun (F112 : tF) => some (F112, G75)))))))))) (fun (F59j : tF) (G59j : tG) => some (F59j, G59j)))))
set_option maxHeartbeats 4000000 in
set_option maxRecDepth 100000 in
theorem c_X8_labour (l : Launch) (D : va_G) (ad : Nat → Nat) (cA : ClassId) (n : Nat) (F : tF) (G : tG) (a1 : Int32) {F' : tF} {G' : tG} (h : p_X8_labour F G a1 = some (F', G')) : CV l yX8_labour wsX8_labour ({ frames := 1, cells := 0, slots := 0, locals := 21 } : Room) D cA (wM ad cA F G) [.ref (ad 0), .int (a1)] (wM ad cA F' G') := by
  rw [p_X8_labour] at h
  refine metVm (w := wM ad cA) (cc := cX8_labour) (maxL := 4) (by decide) rfl (Nat.le_of_ble_eq_true rfl) ?_
  intro p e s m args below meth c A ls Q hE hret
  obtain ⟨hx, hb, hts, hown, hml, hP, hK, hD, hN, hA, hl⟩ := hE
  have hown : s.vm.findClass RX8 = some m.cls := hown
  have hl : lv_has ls 4 [(0, .ref (ad 0)), (1, .int (a1))] := hl
  have hS : va_S A s.heap s.heap [] := va_S.rf
  have k_0 : (Cond.fieldLink RX8 44 "BellBookModel" "workOf" "[I").before args s = true := hts _ (List.mem_of_getElem? (i := 1) rfl)
  have n_8 : ∀ w ∈ u_ws RX8 TX8 46, w ∈ wsX8_labour := fun w hw => List.mem_cons_of_mem _ (List.mem_append_right _ hw)
  have k_2 : (Cond.fieldLink RX8 50 "BellBookModel" "thing" "[I").before args s = true := hts _ (List.mem_of_getElem? (i := 2) rfl)
  have k_3 : (Cond.fieldLink RX8 35 "BellBookModel" "square" "[I").before args s = true := hts _ (List.mem_of_getElem? (i := 3) rfl)
  have k_4 : (Cond.fieldLink RX8 138 "BellBookModel" "raised" "I").before args s = true := hts _ (List.mem_of_getElem? (i := 4) rfl)
  have k_5 : (Cond.fieldLink RX8 145 "BellBookModel" "tangled" "I").before args s = true := hts _ (List.mem_of_getElem? (i := 5) rfl)
  refine lv_aload_n hx hb dX8_labour_0 rfl (lv_at hl 0 rfl) ?_
  refine va_get (D := D) (ci := 8) (fs := vX8 ad F) (v := .ref (ad 5)) (C := RX8) (T := TX8) (N := 46) hx hb hts n_8 hown hK hP 0 wMg0 rfl 19 (by decide) k_0 (fun _ h9 => h9) rfl dX8_labour_1 ?_
  refine lv_iload_n hx hb dX8_labour_4 rfl (lv_at hl 1 rfl) ?_
  obtain ⟨g5, h⟩ := og h
  refine va_iald (D := D) hx hb hK hP 5 0 wMg5 rfl (inB_in g5) dX8_labour_5 ?_
  refine lv_topi (fun x6 ex6 => ?_)
  replace h := pl h ex6
  refine lv_istore_n (lv' := [(2, .int (x6)), (0, .ref (ad 0)), (1, .int (a1))]) hx hb dX8_labour_6 rfl hl (by decide) rfl (fun ls hl => ?_)
  refine lv_iload_n hx hb dX8_labour_7 rfl (lv_at hl 0 rfl) ?_
  obtain ⟨y8_0, q8, h⟩ := bi1e h
  have J8 : ∀ (wy8_0 : Int32), some (wy8_0) = some (y8_0) → ∀ (H : Heap) (locs : List Loc) (ls : Array Slot), va_P D vwCl (wM ad cA F G) H → va_D A (wM ad cA F G) → va_S A s.heap H locs → lv_has ls 4 [(2, .int (x6)), (0, .ref (ad 0)), (1, .int (a1))] → W p l e ({ frames := 1, cells := 0, slots := 0, locals := 21 } : Room) s m args below meth c H locs 0 0 Q (F0 m 57 ls [.int (wy8_0)]) := by
    intro wy8_0 e9 H locs ls hP hD hS hl
    cases e9
    refine lv_istore_n (lv' := [(3, .int (y8_0)), (2, .int (x6)), (0, .ref (ad 0)), (1, .int (a1))]) hx hb dX8_labour_57 rfl hl (by decide) rfl (fun ls hl => ?_)
    refine lv_iload_n hx hb dX8_labour_58 rfl (lv_at hl 0 rfl) ?_
    obtain ⟨F59j, G59j, q59, h⟩ := bi2e h
    have J59 : ∀ (wF59j : tF) (wG59j : tG), some (wF59j, wG59j) = some (F59j, G59j) → ∀ (H : Heap) (locs : List Loc) (ls : Array Slot), va_P D vwCl (wM ad cA wF59j wG59j) H → va_D A (wM ad cA wF59j wG59j) → va_S A s.heap H locs → lv_has ls 4 [(3, .int (y8_0)), (2, .int (x6)), (0, .ref (ad 0)), (1, .int (a1))] → W p l e ({ frames := 1, cells := 0, slots := 0, locals := 21 } : Room) s m args below meth c H locs 0 0 Q (F0 m 115 ls []) := by
      intro wF59j wG59j e9 H locs ls hP hD hS hl
      cases e9
      exact hret _ _ _ _ _ _ dX8_labour_115 h hP hD hS
    refine lv_if_eq (tgt := 115) hx hb dX8_labour_59 (by decide) (fun c59 => ?_) (fun c59 => ?_)
    · replace q59 := ifp q59 c59
      exact J59 _ _ q59 _ _ _ hP hD hS (lv_sub hl [0, 1, 2, 3] rfl)
    · replace q59 := ifn q59 c59
      refine lv_aload_n hx hb dX8_labour_62 rfl (lv_at hl 2 rfl) ?_
      refine va_get (D := D) (ci := 8) (fs := vX8 ad F) (v := .ref (ad 7)) (C := RX8) (T := TX8) (N := 46) hx hb hts n_8 hown hK hP 0 wMg0 rfl 22 (by decide) k_2 (fun _ h9 => h9) rfl dX8_labour_63 ?_
      refine lv_iconst (v := 5) hx hb dX8_labour_66 (by decide) ?_
      refine lv_iload_n hx hb dX8_labour_67 rfl (lv_at hl 1 rfl) ?_
      refine lv_imul hx hb dX8_labour_68 ?_
      refine lv_iconst (v := 4) hx hb dX8_labour_69 (by decide) ?_
      refine lv_iadd hx hb dX8_labour_70 ?_
      refine lv_dup2_11 hx hb dX8_labour_71 rfl rfl ?_
      obtain ⟨g72, q59⟩ := og q59
      refine va_iald (D := D) hx hb hK hP 7 0 wMg7 rfl (inB_in g72) dX8_labour_72 ?_
      refine lv_iconst (v := 1) hx hb dX8_labour_73 (by decide) ?_
      refine lv_iadd hx hb dX8_labour_74 ?_
      obtain ⟨g75, q59⟩ := og q59
      obtain ⟨G75, eG75⟩ : ∃ z : tG, z = stG G 6 ((5 * x6) + 4) ((G 6 ((5 * x6) + 4).toNatClampNeg) + 1) := ⟨_, rfl⟩
      replace q59 := pl q59 eG75
      refine va_iast (D := D) hx hb hK hP hD hS 7 0 wMg7 rfl (inB_in g75) dX8_labour_75 (fun H locs hP hD hS => ?_)
      rw [wMa6 eG75] at hP hD
      refine lv_aload_n hx hb dX8_labour_76 rfl (lv_at hl 2 rfl) ?_
      refine lv_dup hx hb dX8_labour_77 rfl ?_
      refine va_get (D := D) (ci := 8) (fs := vX8 ad F) (v := .int ((F 16))) (C := RX8) (T := TX8) (N := 46) hx hb hts n_8 hown hK hP 0 wMg0 rfl 24 (by decide) k_4 (fun _ h9 => h9) rfl dX8_labour_78 ?_
      refine lv_aload_n hx hb dX8_labour_81 rfl (lv_at hl 2 rfl) ?_
      refine va_get (D := D) (ci := 8) (fs := vX8 ad F) (v := .ref (ad 7)) (C := RX8) (T := TX8) (N := 46) hx hb hts n_8 hown hK hP 0 wMg0 rfl 22 (by decide) k_2 (fun _ h9 => h9) rfl dX8_labour_82 ?_
      refine lv_iconst (v := 5) hx hb dX8_labour_85 (by decide) ?_
      refine lv_iload_n hx hb dX8_labour_86 rfl (lv_at hl 1 rfl) ?_
      refine lv_imul hx hb dX8_labour_87 ?_
      refine lv_iconst (v := 4) hx hb dX8_labour_88 (by decide) ?_
      refine lv_iadd hx hb dX8_labour_89 ?_
      obtain ⟨g90, q59⟩ := og q59
      refine va_iald (D := D) hx hb hK hP 7 0 wMg7 rfl (inB_in g90) dX8_labour_90 ?_
      refine lv_aload_n hx hb dX8_labour_91 rfl (lv_at hl 2 rfl) ?_
      refine va_get (D := D) (ci := 8) (fs := vX8 ad F) (v := .ref (ad 7)) (C := RX8) (T := TX8) (N := 46) hx hb hts n_8 hown hK hP 0 wMg0 rfl 22 (by decide) k_2 (fun _ h9 => h9) rfl dX8_labour_92 ?_
      refine lv_iconst (v := 5) hx hb dX8_labour_95 (by decide) ?_
      refine lv_iload_n hx hb dX8_labour_96 rfl (lv_at hl 1 rfl) ?_
      refine lv_imul hx hb dX8_labour_97 ?_
      refine lv_iconst (v := 2) hx hb dX8_labour_98 (by decide) ?_
      refine lv_iadd hx hb dX8_labour_99 ?_
      obtain ⟨g100, q59⟩ := og q59
      refine va_iald (D := D) hx hb hK hP 7 0 wMg7 rfl (inB_in g100) dX8_labour_100 ?_
      obtain ⟨y101_0, q101, q59⟩ := bi1e q59
      have J101 : ∀ (wy101_0 : Int32), some (wy101_0) = some (y101_0) → ∀ (H : Heap) (locs : List Loc) (ls : Array Slot), va_P D vwCl (wM ad cA F G75) H → va_D A (wM ad cA F G75) → va_S A s.heap H locs → lv_has ls 4 [(3, .int (y8_0)), (2, .int (x6)), (0, .ref (ad 0)), (1, .int (a1))] → W p l e ({ frames := 1, cells := 0, slots := 0, locals := 21 } : Room) s m args below meth c H locs 0 0 Q (F0 m 111 ls [.int (wy101_0), .int ((F 16)), .ref (ad 0)]) := by
        intro wy101_0 e9 H locs ls hP hD hS hl
        cases e9
        refine lv_ior hx hb dX8_labour_111 ?_
        obtain ⟨F112, eF112⟩ : ∃ f : tF, f = upd F 16 ((F 16) ||| y101_0) := ⟨_, rfl⟩
        replace q59 := pl q59 eF112
        refine va_put (D := D) (ci := 8) (fs := vX8 ad F) (v := .int (((F 16) ||| y101_0))) (ty := .int) (C := RX8) (T := TX8) (N := 46) hx hb hts n_8 tyX8 tyX8_ok nmX8 hown hK hP hD hS 0 wMg0 rfl 24 (by decide) k_4 (fun _ h9 => h9) rfl (tyX8_ok 24 (by decide)) rfl rfl (Nat.le_of_ble_eq_true rfl) dX8_labour_112 (fun H locs hP hD hS => ?_)
        rw [wMp16 eF112] at hP hD
        exact J59 _ _ q59 _ _ _ hP hD hS (lv_sub hl [0, 1, 2, 3] rfl)
      refine lv_icmp_ne (tgt := 110) hx hb dX8_labour_101 (by decide) (fun c101 => ?_) (fun c101 => ?_)
      · replace q101 := ifn q101 c101
        refine lv_iconst (v := 0) hx hb dX8_labour_110 (by decide) ?_
        exact J101 _ q101 _ _ _ hP hD hS (lv_sub hl [0, 1, 2, 3] rfl)
      · replace q101 := ifp q101 c101
        refine lv_iconst (v := 1) hx hb dX8_labour_104 (by decide) ?_
        refine lv_iload_n hx hb dX8_labour_105 rfl (lv_at hl 1 rfl) ?_
        refine lv_ishl hx hb dX8_labour_106 ?_
        refine lv_goto (tgt := 111) hx hb dX8_labour_107 (by decide) ?_
        exact J101 _ q101 _ _ _ hP hD hS (lv_sub hl [0, 1, 2, 3] rfl)
  refine lv_if_lt (tgt := 56) hx hb dX8_labour_8 (by decide) (fun c8 => ?_) (fun c8 => ?_)
  · replace q8 := ifp q8 c8
    refine lv_iconst (v := 0) hx hb dX8_labour_56 (by decide) ?_
    exact J8 _ q8 _ _ _ hP hD hS (lv_sub hl [0, 1, 2] rfl)
  · replace q8 := ifn q8 c8
    refine lv_aload_n hx hb dX8_labour_11 rfl (lv_at hl 1 rfl) ?_
    refine va_get (D := D) (ci := 8) (fs := vX8 ad F) (v := .ref (ad 7)) (C := RX8) (T := TX8) (N := 46) hx hb hts n_8 hown hK hP 0 wMg0 rfl 22 (by decide) k_2 (fun _ h9 => h9) rfl dX8_labour_12 ?_
    refine lv_iconst (v := 5) hx hb dX8_labour_15 (by decide) ?_
    refine lv_iload_n hx hb dX8_labour_16 rfl (lv_at hl 0 rfl) ?_
    refine lv_imul hx hb dX8_labour_17 ?_
    obtain ⟨g18, q8⟩ := og q8
    refine va_iald (D := D) hx hb hK hP 7 0 wMg7 rfl (inB_in g18) dX8_labour_18 ?_
    refine lv_aload_n hx hb dX8_labour_19 rfl (lv_at hl 1 rfl) ?_
    refine va_get (D := D) (ci := 8) (fs := vX8 ad F) (v := .ref (ad 2)) (C := RX8) (T := TX8) (N := 46) hx hb hts n_8 hown hK hP 0 wMg0 rfl 16 (by decide) k_3 (fun _ h9 => h9) rfl dX8_labour_20 ?_
    refine lv_iload_n hx hb dX8_labour_23 rfl (lv_at hl 2 rfl) ?_
    obtain ⟨g24, q8⟩ := og q8
    refine va_iald (D := D) hx hb hK hP 2 0 wMg2 rfl (inB_in g24) dX8_labour_24 ?_
    refine lv_icmp_ne (tgt := 56) hx hb dX8_labour_25 (by decide) (fun c25 => ?_) (fun c25 => ?_)
    · replace q8 := ifn q8 c25
      refine lv_iconst (v := 0) hx hb dX8_labour_56 (by decide) ?_
      exact J8 _ q8 _ _ _ hP hD hS (lv_sub hl [0, 1, 2] rfl)
    · replace q8 := ifp q8 c25
      refine lv_aload_n hx hb dX8_labour_28 rfl (lv_at hl 1 rfl) ?_
      refine lv_iload_n hx hb dX8_labour_29 rfl (lv_at hl 0 rfl) ?_
      obtain ⟨x30, h30, q8⟩ := bi1e q8
      refine callVI (b := ad 0) (As := [.int (x6)]) (rest := []) ⟨hx, hb, hml, hown, hts⟩ (c_X8_isFree l D ad cA n F G x6 h30) (cwV 1 hts gX8_labour_X8_isFree rfl rfl rfl (by decide +kernel) ⟨Nat.le_of_ble_eq_true rfl, Nat.le_of_ble_eq_true rfl⟩) (va_recv hK hP (ci := 8) (q0 := 0) rfl wMg0) hP hK hD hN hS hA rfl hl.1 rfl (Nat.le_of_ble_eq_true rfl) dX8_labour_30 ⟨Nat.zero_le _, Nat.zero_le _⟩ (fun H locs hP hD hS => ?_)
      refine lv_if_eq (tgt := 56) hx hb dX8_labour_33 (by decide) (fun c33 => ?_) (fun c33 => ?_)
      · replace q8 := ifp q8 c33
        refine lv_iconst (v := 0) hx hb dX8_labour_56 (by decide) ?_
        exact J8 _ q8 _ _ _ hP hD hS (lv_sub hl [0, 1, 2] rfl)
      · replace q8 := ifn q8 c33
        refine lv_aload_n hx hb dX8_labour_36 rfl (lv_at hl 1 rfl) ?_
        refine va_get (D := D) (ci := 8) (fs := vX8 ad F) (v := .int ((F 16))) (C := RX8) (T := TX8) (N := 46) hx hb hts n_8 hown hK hP 0 wMg0 rfl 24 (by decide) k_4 (fun _ h9 => h9) rfl dX8_labour_37 ?_
        refine lv_aload_n hx hb dX8_labour_40 rfl (lv_at hl 1 rfl) ?_
        refine va_get (D := D) (ci := 8) (fs := vX8 ad F) (v := .int ((F 17))) (C := RX8) (T := TX8) (N := 46) hx hb hts n_8 hown hK hP 0 wMg0 rfl 25 (by decide) k_5 (fun _ h9 => h9) rfl dX8_labour_41 ?_
        refine lv_ior hx hb dX8_labour_44 ?_
        refine lv_iload_n hx hb dX8_labour_45 rfl (lv_at hl 0 rfl) ?_
        refine lv_ishr hx hb dX8_labour_46 ?_
        refine lv_iconst (v := 1) hx hb dX8_labour_47 (by decide) ?_
        refine lv_iand hx hb dX8_labour_48 ?_
        refine lv_if_ne (tgt := 56) hx hb dX8_labour_49 (by decide) (fun c49 => ?_) (fun c49 => ?_)
        · replace q8 := ifn q8 c49
          refine lv_iconst (v := 0) hx hb dX8_labour_56 (by decide) ?_
          exact J8 _ q8 _ _ _ hP hD hS (lv_sub hl [0, 1, 2] rfl)
        · replace q8 := ifp q8 c49
          refine lv_iconst (v := 1) hx hb dX8_labour_52 (by decide) ?_
          refine lv_goto (tgt := 57) hx hb dX8_labour_53 (by decide) ?_
          exact J8 _ q8 _ _ _ hP hD hS (lv_sub hl [0, 1, 2] rfl)

def p_X8_limit (F : tF) (G : tG) (a1 : Int32) : Option (Int32 × tF × tG) :=
  bi1 (p_X8_in a1 1 100) (fun x4 => (if x4 = 0 then some ((-2), F, G) else plet (F 11) (fun (x17 : Int32) => plet (upd F 11 a1) (fun (F20 : tF) => some (x17, F20, G)))))
set_option maxHeartbeats 4000000 in
set_option maxRecDepth 100000 in
theorem c_X8_limit (l : Launch) (D : va_G) (ad : Nat → Nat) (cA : ClassId) (n : Nat) (F : tF) (G : tG) (a1 : Int32) {r : Int32} {F' : tF} {G' : tG} (h : p_X8_limit F G a1 = some (r, F', G')) : CI l yX8_limit wsX8_limit ({ frames := 1, cells := 0, slots := 0, locals := 22 } : Room) D cA (wM ad cA F G) [.ref (ad 0), .int (a1)] r (wM ad cA F' G') := by
  rw [p_X8_limit] at h
  refine metIm (w := wM ad cA) (cc := cX8_limit) (maxL := 3) (by decide) rfl (Nat.le_of_ble_eq_true rfl) ?_
  intro p e s m args below meth c A ls Q hE hret
  obtain ⟨hx, hb, hts, hown, hml, hP, hK, hD, hN, hA, hl⟩ := hE
  have hown : s.vm.findClass RX8 = some m.cls := hown
  have hl : lv_has ls 3 [(0, .ref (ad 0)), (1, .int (a1))] := hl
  have hS : va_S A s.heap s.heap [] := va_S.rf
  have k_0 : (Cond.fieldLink RX8 22 "BellBookModel" "limit" "I").before args s = true := hts _ (List.mem_of_getElem? (i := 1) rfl)
  have n_8 : ∀ w ∈ u_ws RX8 TX8 46, w ∈ wsX8_limit := fun w hw => List.mem_cons_of_mem _ (List.mem_append_right _ hw)
  refine lv_iload_n hx hb dX8_limit_0 rfl (lv_at hl 1 rfl) ?_
  refine lv_iconst (v := 1) hx hb dX8_limit_1 (by decide) ?_
  refine lv_bipush (v := 100) hx hb dX8_limit_2 (by decide) ?_
  obtain ⟨x4, h4, h⟩ := bi1e h
  refine callSI (As := [.int (a1), .int (1), .int (100)]) (rest := []) ⟨hx, hb, hml, hown, hts⟩ (c_X8_in l D ad cA n F G a1 1 100 h4) (va_cwS 3 hts gX8_limit_X8_in rfl rfl rfl (by decide +kernel) ⟨Nat.le_of_ble_eq_true rfl, Nat.le_of_ble_eq_true rfl⟩) hP hK hD hN hS hA rfl hl.1 rfl (Nat.le_of_ble_eq_true rfl) dX8_limit_4 ⟨Nat.zero_le _, Nat.zero_le _⟩ (fun H locs hP hD hS => ?_)
  refine lv_if_ne (tgt := 13) hx hb dX8_limit_7 (by decide) (fun c7 => ?_) (fun c7 => ?_)
  · replace h := ifn h c7
    refine lv_aload_n hx hb dX8_limit_13 rfl (lv_at hl 0 rfl) ?_
    refine va_get (D := D) (ci := 8) (fs := vX8 ad F) (v := .int ((F 11))) (C := RX8) (T := TX8) (N := 46) hx hb hts n_8 hown hK hP 0 wMg0 rfl 11 (by decide) k_0 (fun _ h9 => h9) rfl dX8_limit_14 ?_
    refine lv_topi (fun x17 ex17 => ?_)
    replace h := pl h ex17
    refine lv_istore_n (lv' := [(2, .int (x17)), (0, .ref (ad 0)), (1, .int (a1))]) hx hb dX8_limit_17 rfl hl (by decide) rfl (fun ls hl => ?_)
    refine lv_aload_n hx hb dX8_limit_18 rfl (lv_at hl 1 rfl) ?_
    refine lv_iload_n hx hb dX8_limit_19 rfl (lv_at hl 2 rfl) ?_
    obtain ⟨F20, eF20⟩ : ∃ f : tF, f = upd F 11 a1 := ⟨_, rfl⟩
    replace h := pl h eF20
    refine va_put (D := D) (ci := 8) (fs := vX8 ad F) (v := .int (a1)) (ty := .int) (C := RX8) (T := TX8) (N := 46) hx hb hts n_8 tyX8 tyX8_ok nmX8 hown hK hP hD hS 0 wMg0 rfl 11 (by decide) k_0 (fun _ h9 => h9) rfl (tyX8_ok 11 (by decide)) rfl rfl (Nat.le_of_ble_eq_true rfl) dX8_limit_20 (fun H locs hP hD hS => ?_)
    rw [wMp11 eF20] at hP hD
    refine lv_iload_n hx hb dX8_limit_23 rfl (lv_at hl 0 rfl) ?_
    exact hret _ _ _ _ _ _ _ dX8_limit_24 h hP hD hS
  · replace h := ifp h c7
    refine lv_bipush (v := (-2)) hx hb dX8_limit_10 (by decide) ?_
    exact hret _ _ _ _ _ _ _ dX8_limit_12 h hP hD hS

def p_X8_live (n : Nat) (F : tF) (G : tG) (a1 : Int32) : Option (Int32 × tF × tG) :=
  bi1 ((if (F 10) ≤ (F 2) then some ((F 10)) else some ((F 2)))) (fun (y10_0 : Int32) => plet (upd F 2 ((F 2) - y10_0)) (fun (F32 : tF) => plet (upd F32 3 ((F32 3) + y10_0)) (fun (F42 : tF) => plet (upd F42 5 ((F42 5) + y10_0)) (fun (F52 : tF) => bi2 ((if (F52 10) ≤ y10_0 then some (0, F52) else plet (upd F52 8 ((F52 8) + 1)) (fun (F70 : tF) => plet (0 + 1) (fun (x73 : Int32) => some (x73, F70))))) (fun (y60_0 : Int32) (F60j : tF) => oguard (inB a1 6) (bi3 ((if (G 0 a1.toNatClampNeg) = 2 then oguard (inB a1 6) (oguard (inB a1 6) (bi1 (p_X8_onHose n G (G 2 a1.toNatClampNeg)) (fun x100 => oguard (inB a1 6) (plet (stG G 3 a1 ((G 3 a1.toNatClampNeg) + x100)) (fun (G104 : tG) => oguard (inB a1 6) (bi2 ((if (G104 3 a1.toNatClampNeg) ≤ (F60j 12) then some (y60_0, F60j) else plet (upd F60j 9 ((F60j 9) + 1)) (fun (F125 : tF) => plet (y60_0 + 1) (fun (x128 : Int32) => some (x128, F125))))) (fun (y115_0 : Int32) (F115j : tF) => bi2 (p_X8_labour F115j G104 a1) (fun F133 G133 => some (y115_0, F133, G133))))))))) else some (y60_0, F60j, G))) (fun (y83_0 : Int32) (F83j : tF) (G83j : tG) => some (y83_0, F83j, G83j))))))))
set_option maxHeartbeats 4000000 in
set_option maxRecDepth 100000 in
theorem c_X8_live (l : Launch) (D : va_G) (ad : Nat → Nat) (cA : ClassId) (n : Nat) (F : tF) (G : tG) (a1 : Int32) {r : Int32} {F' : tF} {G' : tG} (h : p_X8_live n F G a1 = some (r, F', G')) : CI l yX8_live wsX8_live ({ frames := 2, cells := 0, slots := 0, locals := 44 } : Room) D cA (wM ad cA F G) [.ref (ad 0), .int (a1)] r (wM ad cA F' G') := by
  rw [p_X8_live] at h
  refine metIm (w := wM ad cA) (cc := cX8_live) (maxL := 4) (by decide) rfl (Nat.le_of_ble_eq_true rfl) ?_
  intro p e s m args below meth c A ls Q hE hret
  obtain ⟨hx, hb, hts, hown, hml, hP, hK, hD, hN, hA, hl⟩ := hE
  have hown : s.vm.findClass RX8 = some m.cls := hown
  have hl : lv_has ls 4 [(0, .ref (ad 0)), (1, .int (a1))] := hl
  have hS : va_S A s.heap s.heap [] := va_S.rf
  have k_0 : (Cond.fieldLink RX8 13 "BellBookModel" "fresh" "I").before args s = true := hts _ (List.mem_of_getElem? (i := 1) rfl)
  have n_8 : ∀ w ∈ u_ws RX8 TX8 46, w ∈ wsX8_live := fun w hw => List.mem_cons_of_mem _ (List.mem_append_right _ hw)
  have k_2 : (Cond.fieldLink RX8 19 "BellBookModel" "breath" "I").before args s = true := hts _ (List.mem_of_getElem? (i := 2) rfl)
  have k_3 : (Cond.fieldLink RX8 92 "BellBookModel" "foul" "I").before args s = true := hts _ (List.mem_of_getElem? (i := 3) rfl)
  have k_4 : (Cond.fieldLink RX8 109 "BellBookModel" "breathed" "I").before args s = true := hts _ (List.mem_of_getElem? (i := 4) rfl)
  have k_5 : (Cond.fieldLink RX8 115 "BellBookModel" "lacks" "I").before args s = true := hts _ (List.mem_of_getElem? (i := 5) rfl)
  have k_6 : (Cond.fieldLink RX8 31 "BellBookModel" "where" "[I").before args s = true := hts _ (List.mem_of_getElem? (i := 6) rfl)
  have k_7 : (Cond.fieldLink RX8 41 "BellBookModel" "count" "[I").before args s = true := hts _ (List.mem_of_getElem? (i := 7) rfl)
  have k_8 : (Cond.fieldLink RX8 38 "BellBookModel" "hoseOf" "[I").before args s = true := hts _ (List.mem_of_getElem? (i := 8) rfl)
  have k_9 : (Cond.fieldLink RX8 25 "BellBookModel" "stay" "I").before args s = true := hts _ (List.mem_of_getElem? (i := 9) rfl)
  have k_10 : (Cond.fieldLink RX8 118 "BellBookModel" "lacksBeyond" "I").before args s = true := hts _ (List.mem_of_getElem? (i := 10) rfl)
  refine lv_iconst (v := 0) hx hb dX8_live_0 (by decide) ?_
  refine lv_istore_n (lv' := [(2, .int (0)), (0, .ref (ad 0)), (1, .int (a1))]) hx hb dX8_live_1 rfl hl (by decide) rfl (fun ls hl => ?_)
  refine lv_aload_n hx hb dX8_live_2 rfl (lv_at hl 1 rfl) ?_
  refine va_get (D := D) (ci := 8) (fs := vX8 ad F) (v := .int ((F 2))) (C := RX8) (T := TX8) (N := 46) hx hb hts n_8 hown hK hP 0 wMg0 rfl 2 (by decide) k_0 (fun _ h9 => h9) rfl dX8_live_3 ?_
  refine lv_aload_n hx hb dX8_live_6 rfl (lv_at hl 1 rfl) ?_
  refine va_get (D := D) (ci := 8) (fs := vX8 ad F) (v := .int ((F 10))) (C := RX8) (T := TX8) (N := 46) hx hb hts n_8 hown hK hP 0 wMg0 rfl 10 (by decide) k_2 (fun _ h9 => h9) rfl dX8_live_7 ?_
  obtain ⟨y10_0, q10, h⟩ := bi1e h
  have J10 : ∀ (wy10_0 : Int32), some (wy10_0) = some (y10_0) → ∀ (H : Heap) (locs : List Loc) (ls : Array Slot), va_P D vwCl (wM ad cA F G) H → va_D A (wM ad cA F G) → va_S A s.heap H locs → lv_has ls 4 [(2, .int (0)), (0, .ref (ad 0)), (1, .int (a1))] → W p l e ({ frames := 2, cells := 0, slots := 0, locals := 44 } : Room) s m args below meth c H locs 0 0 Q (F0 m 24 ls [.int (wy10_0)]) := by
    intro wy10_0 e9 H locs ls hP hD hS hl
    cases e9
    refine lv_istore_n (lv' := [(3, .int (y10_0)), (2, .int (0)), (0, .ref (ad 0)), (1, .int (a1))]) hx hb dX8_live_24 rfl hl (by decide) rfl (fun ls hl => ?_)
    refine lv_aload_n hx hb dX8_live_25 rfl (lv_at hl 2 rfl) ?_
    refine lv_dup hx hb dX8_live_26 rfl ?_
    refine va_get (D := D) (ci := 8) (fs := vX8 ad F) (v := .int ((F 2))) (C := RX8) (T := TX8) (N := 46) hx hb hts n_8 hown hK hP 0 wMg0 rfl 2 (by decide) k_0 (fun _ h9 => h9) rfl dX8_live_27 ?_
    refine lv_iload_n hx hb dX8_live_30 rfl (lv_at hl 0 rfl) ?_
    refine lv_isub hx hb dX8_live_31 ?_
    obtain ⟨F32, eF32⟩ : ∃ f : tF, f = upd F 2 ((F 2) - y10_0) := ⟨_, rfl⟩
    replace h := pl h eF32
    refine va_put (D := D) (ci := 8) (fs := vX8 ad F) (v := .int (((F 2) - y10_0))) (ty := .int) (C := RX8) (T := TX8) (N := 46) hx hb hts n_8 tyX8 tyX8_ok nmX8 hown hK hP hD hS 0 wMg0 rfl 2 (by decide) k_0 (fun _ h9 => h9) rfl (tyX8_ok 2 (by decide)) rfl rfl (Nat.le_of_ble_eq_true rfl) dX8_live_32 (fun H locs hP hD hS => ?_)
    rw [wMp2 eF32] at hP hD
    refine lv_aload_n hx hb dX8_live_35 rfl (lv_at hl 2 rfl) ?_
    refine lv_dup hx hb dX8_live_36 rfl ?_
    refine va_get (D := D) (ci := 8) (fs := vX8 ad F32) (v := .int ((F32 3))) (C := RX8) (T := TX8) (N := 46) hx hb hts n_8 hown hK hP 0 wMg0 rfl 3 (by decide) k_3 (fun _ h9 => h9) rfl dX8_live_37 ?_
    refine lv_iload_n hx hb dX8_live_40 rfl (lv_at hl 0 rfl) ?_
    refine lv_iadd hx hb dX8_live_41 ?_
    obtain ⟨F42, eF42⟩ : ∃ f : tF, f = upd F32 3 ((F32 3) + y10_0) := ⟨_, rfl⟩
    replace h := pl h eF42
    refine va_put (D := D) (ci := 8) (fs := vX8 ad F32) (v := .int (((F32 3) + y10_0))) (ty := .int) (C := RX8) (T := TX8) (N := 46) hx hb hts n_8 tyX8 tyX8_ok nmX8 hown hK hP hD hS 0 wMg0 rfl 3 (by decide) k_3 (fun _ h9 => h9) rfl (tyX8_ok 3 (by decide)) rfl rfl (Nat.le_of_ble_eq_true rfl) dX8_live_42 (fun H locs hP hD hS => ?_)
    rw [wMp3 eF42] at hP hD
    refine lv_aload_n hx hb dX8_live_45 rfl (lv_at hl 2 rfl) ?_
    refine lv_dup hx hb dX8_live_46 rfl ?_
    refine va_get (D := D) (ci := 8) (fs := vX8 ad F42) (v := .int ((F42 5))) (C := RX8) (T := TX8) (N := 46) hx hb hts n_8 hown hK hP 0 wMg0 rfl 5 (by decide) k_4 (fun _ h9 => h9) rfl dX8_live_47 ?_
    refine lv_iload_n hx hb dX8_live_50 rfl (lv_at hl 0 rfl) ?_
    refine lv_iadd hx hb dX8_live_51 ?_
    obtain ⟨F52, eF52⟩ : ∃ f : tF, f = upd F42 5 ((F42 5) + y10_0) := ⟨_, rfl⟩
    replace h := pl h eF52
    refine va_put (D := D) (ci := 8) (fs := vX8 ad F42) (v := .int (((F42 5) + y10_0))) (ty := .int) (C := RX8) (T := TX8) (N := 46) hx hb hts n_8 tyX8 tyX8_ok nmX8 hown hK hP hD hS 0 wMg0 rfl 5 (by decide) k_4 (fun _ h9 => h9) rfl (tyX8_ok 5 (by decide)) rfl rfl (Nat.le_of_ble_eq_true rfl) dX8_live_52 (fun H locs hP hD hS => ?_)
    rw [wMp5 eF52] at hP hD
    refine lv_iload_n hx hb dX8_live_55 rfl (lv_at hl 0 rfl) ?_
    refine lv_aload_n hx hb dX8_live_56 rfl (lv_at hl 2 rfl) ?_
    refine va_get (D := D) (ci := 8) (fs := vX8 ad F52) (v := .int ((F52 10))) (C := RX8) (T := TX8) (N := 46) hx hb hts n_8 hown hK hP 0 wMg0 rfl 10 (by decide) k_2 (fun _ h9 => h9) rfl dX8_live_57 ?_
    obtain ⟨y60_0, F60j, q60, h⟩ := bi2e h
    have J60 : ∀ (wy60_0 : Int32) (wF60j : tF), some (wy60_0, wF60j) = some (y60_0, F60j) → ∀ (H : Heap) (locs : List Loc) (ls : Array Slot), va_P D vwCl (wM ad cA wF60j G) H → va_D A (wM ad cA wF60j G) → va_S A s.heap H locs → lv_has ls 4 [(3, .int (y10_0)), (2, .int (wy60_0)), (0, .ref (ad 0)), (1, .int (a1))] → W p l e ({ frames := 2, cells := 0, slots := 0, locals := 44 } : Room) s m args below meth c H locs 0 0 Q (F0 m 76 ls []) := by
      intro wy60_0 wF60j e9 H locs ls hP hD hS hl
      cases e9
      refine lv_aload_n hx hb dX8_live_76 rfl (lv_at hl 2 rfl) ?_
      refine va_get (D := D) (ci := 8) (fs := vX8 ad F60j) (v := .ref (ad 1)) (C := RX8) (T := TX8) (N := 46) hx hb hts n_8 hown hK hP 0 wMg0 rfl 15 (by decide) k_6 (fun _ h9 => h9) rfl dX8_live_77 ?_
      refine lv_iload_n hx hb dX8_live_80 rfl (lv_at hl 3 rfl) ?_
      obtain ⟨g81, h⟩ := og h
      refine va_iald (D := D) hx hb hK hP 1 0 wMg1 rfl (inB_in g81) dX8_live_81 ?_
      refine lv_iconst (v := 2) hx hb dX8_live_82 (by decide) ?_
      obtain ⟨y83_0, F83j, G83j, q83, h⟩ := bi3e h
      have J83 : ∀ (wy83_0 : Int32) (wF83j : tF) (wG83j : tG), some (wy83_0, wF83j, wG83j) = some (y83_0, F83j, G83j) → ∀ (H : Heap) (locs : List Loc) (ls : Array Slot), va_P D vwCl (wM ad cA wF83j wG83j) H → va_D A (wM ad cA wF83j wG83j) → va_S A s.heap H locs → lv_has ls 4 [(3, .int (y10_0)), (2, .int (wy83_0)), (0, .ref (ad 0)), (1, .int (a1))] → W p l e ({ frames := 2, cells := 0, slots := 0, locals := 44 } : Room) s m args below meth c H locs 0 0 Q (F0 m 136 ls []) := by
        intro wy83_0 wF83j wG83j e9 H locs ls hP hD hS hl
        cases e9
        refine lv_iload_n hx hb dX8_live_136 rfl (lv_at hl 1 rfl) ?_
        exact hret _ _ _ _ _ _ _ dX8_live_137 h hP hD hS
      refine lv_icmp_ne (tgt := 136) hx hb dX8_live_83 (by decide) (fun c83 => ?_) (fun c83 => ?_)
      · replace q83 := ifn q83 c83
        exact J83 _ _ _ q83 _ _ _ hP hD hS (lv_sub hl [0, 1, 2, 3] rfl)
      · replace q83 := ifp q83 c83
        refine lv_aload_n hx hb dX8_live_86 rfl (lv_at hl 2 rfl) ?_
        refine va_get (D := D) (ci := 8) (fs := vX8 ad F60j) (v := .ref (ad 4)) (C := RX8) (T := TX8) (N := 46) hx hb hts n_8 hown hK hP 0 wMg0 rfl 18 (by decide) k_7 (fun _ h9 => h9) rfl dX8_live_87 ?_
        refine lv_iload_n hx hb dX8_live_90 rfl (lv_at hl 3 rfl) ?_
        refine lv_dup2_11 hx hb dX8_live_91 rfl rfl ?_
        obtain ⟨g92, q83⟩ := og q83
        refine va_iald (D := D) hx hb hK hP 4 0 wMg4 rfl (inB_in g92) dX8_live_92 ?_
        refine lv_aload_n hx hb dX8_live_93 rfl (lv_at hl 2 rfl) ?_
        refine lv_aload_n hx hb dX8_live_94 rfl (lv_at hl 2 rfl) ?_
        refine va_get (D := D) (ci := 8) (fs := vX8 ad F60j) (v := .ref (ad 3)) (C := RX8) (T := TX8) (N := 46) hx hb hts n_8 hown hK hP 0 wMg0 rfl 17 (by decide) k_8 (fun _ h9 => h9) rfl dX8_live_95 ?_
        refine lv_iload_n hx hb dX8_live_98 rfl (lv_at hl 3 rfl) ?_
        obtain ⟨g99, q83⟩ := og q83
        refine va_iald (D := D) hx hb hK hP 3 0 wMg3 rfl (inB_in g99) dX8_live_99 ?_
        obtain ⟨x100, h100, q83⟩ := bi1e q83
        refine callVI (b := ad 0) (As := [.int ((G 2 a1.toNatClampNeg))]) (rest := [.int ((G 3 a1.toNatClampNeg)), .int (a1), .ref (ad 4)]) ⟨hx, hb, hml, hown, hts⟩ (c_X8_onHose l D ad cA n F60j G (G 2 a1.toNatClampNeg) h100) (cwV 1 hts gX8_live_X8_onHose rfl rfl rfl (by decide +kernel) ⟨Nat.le_of_ble_eq_true rfl, Nat.le_of_ble_eq_true rfl⟩) (va_recv hK hP (ci := 8) (q0 := 0) rfl wMg0) hP hK hD hN hS hA rfl hl.1 rfl (Nat.le_of_ble_eq_true rfl) dX8_live_100 ⟨Nat.zero_le _, Nat.zero_le _⟩ (fun H locs hP hD hS => ?_)
        refine lv_iadd hx hb dX8_live_103 ?_
        obtain ⟨g104, q83⟩ := og q83
        obtain ⟨G104, eG104⟩ : ∃ z : tG, z = stG G 3 a1 ((G 3 a1.toNatClampNeg) + x100) := ⟨_, rfl⟩
        replace q83 := pl q83 eG104
        refine va_iast (D := D) hx hb hK hP hD hS 4 0 wMg4 rfl (inB_in g104) dX8_live_104 (fun H locs hP hD hS => ?_)
        rw [wMa3 eG104] at hP hD
        refine lv_aload_n hx hb dX8_live_105 rfl (lv_at hl 2 rfl) ?_
        refine va_get (D := D) (ci := 8) (fs := vX8 ad F60j) (v := .ref (ad 4)) (C := RX8) (T := TX8) (N := 46) hx hb hts n_8 hown hK hP 0 wMg0 rfl 18 (by decide) k_7 (fun _ h9 => h9) rfl dX8_live_106 ?_
        refine lv_iload_n hx hb dX8_live_109 rfl (lv_at hl 3 rfl) ?_
        obtain ⟨g110, q83⟩ := og q83
        refine va_iald (D := D) hx hb hK hP 4 0 wMg4 rfl (inB_in g110) dX8_live_110 ?_
        refine lv_aload_n hx hb dX8_live_111 rfl (lv_at hl 2 rfl) ?_
        refine va_get (D := D) (ci := 8) (fs := vX8 ad F60j) (v := .int ((F60j 12))) (C := RX8) (T := TX8) (N := 46) hx hb hts n_8 hown hK hP 0 wMg0 rfl 12 (by decide) k_9 (fun _ h9 => h9) rfl dX8_live_112 ?_
        obtain ⟨y115_0, F115j, q115, q83⟩ := bi2e q83
        have J115 : ∀ (wy115_0 : Int32) (wF115j : tF), some (wy115_0, wF115j) = some (y115_0, F115j) → ∀ (H : Heap) (locs : List Loc) (ls : Array Slot), va_P D vwCl (wM ad cA wF115j G104) H → va_D A (wM ad cA wF115j G104) → va_S A s.heap H locs → lv_has ls 4 [(3, .int (y10_0)), (2, .int (wy115_0)), (0, .ref (ad 0)), (1, .int (a1))] → W p l e ({ frames := 2, cells := 0, slots := 0, locals := 44 } : Room) s m args below meth c H locs 0 0 Q (F0 m 131 ls []) := by
          intro wy115_0 wF115j e9 H locs ls hP hD hS hl
          cases e9
          refine lv_aload_n hx hb dX8_live_131 rfl (lv_at hl 2 rfl) ?_
          refine lv_iload_n hx hb dX8_live_132 rfl (lv_at hl 3 rfl) ?_
          obtain ⟨F133, G133, h133, q83⟩ := bi2e q83
          refine callVV (b := ad 0) (As := [.int (a1)]) (rest := []) ⟨hx, hb, hml, hown, hts⟩ (c_X8_labour l D ad cA n F115j G104 a1 h133) (cwV 1 hts gX8_live_X8_labour rfl rfl rfl (by decide +kernel) ⟨Nat.le_of_ble_eq_true rfl, Nat.le_of_ble_eq_true rfl⟩) (va_recv hK hP (ci := 8) (q0 := 0) rfl wMg0) hP hK hD hN hS hA rfl hl.1 rfl (Nat.le_of_ble_eq_true rfl) dX8_live_133 ⟨Nat.zero_le _, Nat.zero_le _⟩ (fun H locs hP hD hS => ?_)
          exact J83 _ _ _ q83 _ _ _ hP hD hS (lv_sub hl [0, 1, 2, 3] rfl)
        refine lv_icmp_le (tgt := 131) hx hb dX8_live_115 (by decide) (fun c115 => ?_) (fun c115 => ?_)
        · replace q115 := ifp q115 c115
          exact J115 _ _ q115 _ _ _ hP hD hS (lv_sub hl [0, 1, 2, 3] rfl)
        · replace q115 := ifn q115 c115
          refine lv_aload_n hx hb dX8_live_118 rfl (lv_at hl 2 rfl) ?_
          refine lv_dup hx hb dX8_live_119 rfl ?_
          refine va_get (D := D) (ci := 8) (fs := vX8 ad F60j) (v := .int ((F60j 9))) (C := RX8) (T := TX8) (N := 46) hx hb hts n_8 hown hK hP 0 wMg0 rfl 9 (by decide) k_10 (fun _ h9 => h9) rfl dX8_live_120 ?_
          refine lv_iconst (v := 1) hx hb dX8_live_123 (by decide) ?_
          refine lv_iadd hx hb dX8_live_124 ?_
          obtain ⟨F125, eF125⟩ : ∃ f : tF, f = upd F60j 9 ((F60j 9) + 1) := ⟨_, rfl⟩
          replace q115 := pl q115 eF125
          refine va_put (D := D) (ci := 8) (fs := vX8 ad F60j) (v := .int (((F60j 9) + 1))) (ty := .int) (C := RX8) (T := TX8) (N := 46) hx hb hts n_8 tyX8 tyX8_ok nmX8 hown hK hP hD hS 0 wMg0 rfl 9 (by decide) k_10 (fun _ h9 => h9) rfl (tyX8_ok 9 (by decide)) rfl rfl (Nat.le_of_ble_eq_true rfl) dX8_live_125 (fun H locs hP hD hS => ?_)
          rw [wMp9 eF125] at hP hD
          obtain ⟨x128, ex128⟩ : ∃ z : Int32, z = (y60_0 + 1) := ⟨_, rfl⟩
          replace q115 := pl q115 ex128
          refine lv_iinc (v := x128) (lv' := [(2, .int (x128)), (3, .int (y10_0)), (0, .ref (ad 0)), (1, .int (a1))]) hx hb dX8_live_128 hl (k := 1) rfl (by rw [ex128]; rfl) (by decide) rfl (fun ls hl => ?_)
          exact J115 _ _ q115 _ _ _ hP hD hS (lv_sub hl [1, 0, 2, 3] rfl)
    refine lv_icmp_ge (tgt := 76) hx hb dX8_live_60 (by decide) (fun c60 => ?_) (fun c60 => ?_)
    · replace q60 := ifp q60 c60
      exact J60 _ _ q60 _ _ _ hP hD hS (lv_sub hl [0, 1, 2, 3] rfl)
    · replace q60 := ifn q60 c60
      refine lv_aload_n hx hb dX8_live_63 rfl (lv_at hl 2 rfl) ?_
      refine lv_dup hx hb dX8_live_64 rfl ?_
      refine va_get (D := D) (ci := 8) (fs := vX8 ad F52) (v := .int ((F52 8))) (C := RX8) (T := TX8) (N := 46) hx hb hts n_8 hown hK hP 0 wMg0 rfl 8 (by decide) k_5 (fun _ h9 => h9) rfl dX8_live_65 ?_
      refine lv_iconst (v := 1) hx hb dX8_live_68 (by decide) ?_
      refine lv_iadd hx hb dX8_live_69 ?_
      obtain ⟨F70, eF70⟩ : ∃ f : tF, f = upd F52 8 ((F52 8) + 1) := ⟨_, rfl⟩
      replace q60 := pl q60 eF70
      refine va_put (D := D) (ci := 8) (fs := vX8 ad F52) (v := .int (((F52 8) + 1))) (ty := .int) (C := RX8) (T := TX8) (N := 46) hx hb hts n_8 tyX8 tyX8_ok nmX8 hown hK hP hD hS 0 wMg0 rfl 8 (by decide) k_5 (fun _ h9 => h9) rfl (tyX8_ok 8 (by decide)) rfl rfl (Nat.le_of_ble_eq_true rfl) dX8_live_70 (fun H locs hP hD hS => ?_)
      rw [wMp8 eF70] at hP hD
      obtain ⟨x73, ex73⟩ : ∃ z : Int32, z = (0 + 1) := ⟨_, rfl⟩
      replace q60 := pl q60 ex73
      refine lv_iinc (v := x73) (lv' := [(2, .int (x73)), (3, .int (y10_0)), (0, .ref (ad 0)), (1, .int (a1))]) hx hb dX8_live_73 hl (k := 1) rfl (by rw [ex73]; rfl) (by decide) rfl (fun ls hl => ?_)
      exact J60 _ _ q60 _ _ _ hP hD hS (lv_sub hl [1, 0, 2, 3] rfl)
  refine lv_icmp_ge (tgt := 20) hx hb dX8_live_10 (by decide) (fun c10 => ?_) (fun c10 => ?_)
  · replace q10 := ifp q10 c10
    refine lv_aload_n hx hb dX8_live_20 rfl (lv_at hl 1 rfl) ?_
    refine va_get (D := D) (ci := 8) (fs := vX8 ad F) (v := .int ((F 10))) (C := RX8) (T := TX8) (N := 46) hx hb hts n_8 hown hK hP 0 wMg0 rfl 10 (by decide) k_2 (fun _ h9 => h9) rfl dX8_live_21 ?_
    exact J10 _ q10 _ _ _ hP hD hS (lv_sub hl [0, 1, 2] rfl)
  · replace q10 := ifn q10 c10
    refine lv_aload_n hx hb dX8_live_13 rfl (lv_at hl 1 rfl) ?_
    refine va_get (D := D) (ci := 8) (fs := vX8 ad F) (v := .int ((F 2))) (C := RX8) (T := TX8) (N := 46) hx hb hts n_8 hown hK hP 0 wMg0 rfl 2 (by decide) k_0 (fun _ h9 => h9) rfl dX8_live_14 ?_
    refine lv_goto (tgt := 24) hx hb dX8_live_17 (by decide) ?_
    exact J10 _ q10 _ _ _ hP hD hS (lv_sub hl [0, 1, 2] rfl)

def p_X8_readLog_L50 (G : tG) (F27l : tF) (a1 : Int32) (z27_0 : Int32) (K50 : Int32 → Int32 → Int32 → Int32 → Option (tF × tG)) : Nat → Int32 → Int32 → Int32 → Int32 → Option (tF × tG)
  | 0, _, _, _, _ => none
  | k50 + 1, z50_0, z50_1, z50_2, z50_3 => (if (F27l 20) ≤ z50_0 then K50 z50_0 z50_1 z50_2 z50_3 else oguard (inB z50_0 40) (bi3 ((if (G 14 z50_0.toNatClampNeg) = a1 then oguard (inB z50_0 40) (bi1 ((if (G 13 z50_0.toNatClampNeg) = z27_0 then oguard (inB z50_0 40) (some ((G 15 z50_0.toNatClampNeg))) else some (z50_3))) (fun (y79_0 : Int32) => oguard (inB z50_0 40) (bi1 ((if z27_0 ≤ (G 13 z50_0.toNatClampNeg) then some (z50_2) else oguard (inB z50_0 40) (some ((G 15 z50_0.toNatClampNeg))))) (fun (y105_0 : Int32) => bi1 ((if 0 ≤ z50_1 then some (z50_1) else oguard (inB z50_0 40) ((if (G 13 z50_0.toNatClampNeg) ≤ z27_0 then some (z50_1) else oguard (inB z50_0 40) (some ((G 15 z50_0.toNatClampNeg))))))) (fun (y124_0 : Int32) => some (y124_0, y105_0, y79_0)))))) else some (z50_1, z50_2, z50_3))) (fun (y67_0 : Int32) (y67_1 : Int32) (y67_2 : Int32) => plet (z50_0 + 1) (fun (x153 : Int32) => p_X8_readLog_L50 G F27l a1 z27_0 K50 k50 x153 y67_0 y67_1 y67_2))))
theorem p_X8_readLog_L50_k {G : tG} {F27l : tF} {a1 : Int32} {z27_0 : Int32} {K0 : Int32 → Int32 → Int32 → Int32 → Option (tF × tG)} {k : Nat} {z50_0 : Int32} {z50_1 : Int32} {z50_2 : Int32} {z50_3 : Int32} {x : tF × tG} (h : p_X8_readLog_L50 G F27l a1 z27_0 K0 k z50_0 z50_1 z50_2 z50_3 = some x) : ∃ K, K = K0 ∧ p_X8_readLog_L50 G F27l a1 z27_0 K k z50_0 z50_1 z50_2 z50_3 = some x := ⟨K0, rfl, h⟩
def p_X8_readLog_L27 (n : Nat) (G : tG) (a1 : Int32) (K27 : Int32 → Int32 → Int32 → tF → Option (tF × tG)) : Nat → Int32 → Int32 → Int32 → tF → Option (tF × tG)
  | 0, _, _, _, _ => none
  | k27 + 1, z27_0, z27_1, z27_2, F27l => (if 1000 < z27_0 then K27 z27_0 z27_1 z27_2 F27l else p_X8_readLog_L50 G F27l a1 z27_0 (fun (z50_0 : Int32) (z50_1 : Int32) (z50_2 : Int32) (z50_3 : Int32) => bi1 ((if 0 ≤ z50_3 then some (0) else (if z50_2 < 0 then some (0) else (if z50_1 < 0 then some (0) else some (1))))) (fun (y161_0 : Int32) => bi1 ((if z50_3 = 2 then some (1) else (if y161_0 = 0 then some (0) else (if z50_2 = 2 then (if z50_1 = 2 then some (1) else some (0)) else some (0))))) (fun (y184_0 : Int32) => bi1 ((if y161_0 = 0 then some (0) else (if y184_0 = 0 then some (1) else some (0)))) (fun (y213_0 : Int32) => bi1 ((if y184_0 = 0 then some (0) else some (1))) (fun (y235_0 : Int32) => plet (upd F27l 23 ((F27l 23) + y235_0)) (fun (F244 : tF) => bi1 ((if y213_0 = 0 then some (0) else some (1))) (fun (y254_0 : Int32) => plet (upd F244 24 ((F244 24) + y254_0)) (fun (F263 : tF) => bi1 ((if y184_0 = 0 then some (0) else some ((z27_2 + 1)))) (fun (y268_0 : Int32) => bi1 ((if y184_0 = 0 then (if y213_0 = 0 then some (0) else some ((z27_1 + 1))) else some ((z27_1 + 1)))) (fun (y281_0 : Int32) => bi1 ((if y268_0 ≤ (F263 25) then some ((F263 25)) else some (y268_0))) (fun (y303_0 : Int32) => plet (upd F263 25 y303_0) (fun (F314 : tF) => bi1 ((if y281_0 ≤ (F314 26) then some ((F314 26)) else some (y281_0))) (fun (y323_0 : Int32) => plet (upd F314 26 y323_0) (fun (F334 : tF) => plet (z27_0 + 1) (fun (x337 : Int32) => p_X8_readLog_L27 n G a1 K27 k27 x337 y281_0 y268_0 F334))))))))))))))) n 0 (-6) (-6) (-6))
theorem p_X8_readLog_L27_k {n : Nat} {G : tG} {a1 : Int32} {K0 : Int32 → Int32 → Int32 → tF → Option (tF × tG)} {k : Nat} {z27_0 : Int32} {z27_1 : Int32} {z27_2 : Int32} {F27l : tF} {x : tF × tG} (h : p_X8_readLog_L27 n G a1 K0 k z27_0 z27_1 z27_2 F27l = some x) : ∃ K, K = K0 ∧ p_X8_readLog_L27 n G a1 K k z27_0 z27_1 z27_2 F27l = some x := ⟨K0, rfl, h⟩
def p_X8_readLog (n : Nat) (F : tF) (G : tG) (a1 : Int32) : Option (tF × tG) :=
  plet (upd F 23 0) (fun (F2 : tF) => plet (upd F2 24 0) (fun (F7 : tF) => plet (upd F7 25 0) (fun (F12 : tF) => plet (upd F12 26 0) (fun (F17 : tF) => p_X8_readLog_L27 n G a1 (fun (z27_0 : Int32) (z27_1 : Int32) (z27_2 : Int32) (F27l : tF) => some (F27l, G)) n 0 0 0 F17))))
set_option maxHeartbeats 4000000 in
set_option maxRecDepth 100000 in
theorem c_X8_readLog (l : Launch) (D : va_G) (ad : Nat → Nat) (cA : ClassId) (n : Nat) (F : tF) (G : tG) (a1 : Int32) {F' : tF} {G' : tG} (h : p_X8_readLog n F G a1 = some (F', G')) : CV l yX8_readLog wsX8_readLog ({ frames := 0, cells := 0, slots := 0, locals := 0 } : Room) D cA (wM ad cA F G) [.ref (ad 0), .int (a1)] (wM ad cA F' G') := by
  rw [p_X8_readLog] at h
  refine metVm (w := wM ad cA) (cc := cX8_readLog) (maxL := 11) (by decide) rfl (Nat.le_of_ble_eq_true rfl) ?_
  intro p e s m args below meth c A ls Q hE hret
  obtain ⟨hx, hb, hts, hown, hml, hP, hK, hD, hN, hA, hl⟩ := hE
  have hown : s.vm.findClass RX8 = some m.cls := hown
  have hl : lv_has ls 11 [(0, .ref (ad 0)), (1, .int (a1))] := hl
  have hS : va_S A s.heap s.heap [] := va_S.rf
  have k_0 : (Cond.fieldLink RX8 224 "BellBookModel" "sureMinutes" "I").before args s = true := hts _ (List.mem_of_getElem? (i := 1) rfl)
  have n_8 : ∀ w ∈ u_ws RX8 TX8 46, w ∈ wsX8_readLog := fun w hw => List.mem_cons_of_mem _ (List.mem_append_right _ hw)
  have k_2 : (Cond.fieldLink RX8 227 "BellBookModel" "darkMinutes" "I").before args s = true := hts _ (List.mem_of_getElem? (i := 2) rfl)
  have k_3 : (Cond.fieldLink RX8 230 "BellBookModel" "longestSure" "I").before args s = true := hts _ (List.mem_of_getElem? (i := 3) rfl)
  have k_4 : (Cond.fieldLink RX8 233 "BellBookModel" "longestMaybe" "I").before args s = true := hts _ (List.mem_of_getElem? (i := 4) rfl)
  have k_5 : (Cond.fieldLink RX8 221 "BellBookModel" "entries" "I").before args s = true := hts _ (List.mem_of_getElem? (i := 5) rfl)
  have k_6 : (Cond.fieldLink RX8 74 "BellBookModel" "entryMan" "[I").before args s = true := hts _ (List.mem_of_getElem? (i := 6) rfl)
  have k_7 : (Cond.fieldLink RX8 71 "BellBookModel" "entryMinute" "[I").before args s = true := hts _ (List.mem_of_getElem? (i := 7) rfl)
  have k_8 : (Cond.fieldLink RX8 77 "BellBookModel" "entryWhere" "[I").before args s = true := hts _ (List.mem_of_getElem? (i := 8) rfl)
  refine lv_aload_n hx hb dX8_readLog_0 rfl (lv_at hl 0 rfl) ?_
  refine lv_iconst (v := 0) hx hb dX8_readLog_1 (by decide) ?_
  obtain ⟨F2, eF2⟩ : ∃ f : tF, f = upd F 23 0 := ⟨_, rfl⟩
  replace h := pl h eF2
  refine va_put (D := D) (ci := 8) (fs := vX8 ad F) (v := .int (0)) (ty := .int) (C := RX8) (T := TX8) (N := 46) hx hb hts n_8 tyX8 tyX8_ok nmX8 hown hK hP hD hS 0 wMg0 rfl 42 (by decide) k_0 (fun _ h9 => h9) rfl (tyX8_ok 42 (by decide)) rfl rfl (Nat.le_of_ble_eq_true rfl) dX8_readLog_2 (fun H locs hP hD hS => ?_)
  rw [wMp23 eF2] at hP hD
  refine lv_aload_n hx hb dX8_readLog_5 rfl (lv_at hl 0 rfl) ?_
  refine lv_iconst (v := 0) hx hb dX8_readLog_6 (by decide) ?_
  obtain ⟨F7, eF7⟩ : ∃ f : tF, f = upd F2 24 0 := ⟨_, rfl⟩
  replace h := pl h eF7
  refine va_put (D := D) (ci := 8) (fs := vX8 ad F2) (v := .int (0)) (ty := .int) (C := RX8) (T := TX8) (N := 46) hx hb hts n_8 tyX8 tyX8_ok nmX8 hown hK hP hD hS 0 wMg0 rfl 43 (by decide) k_2 (fun _ h9 => h9) rfl (tyX8_ok 43 (by decide)) rfl rfl (Nat.le_of_ble_eq_true rfl) dX8_readLog_7 (fun H locs hP hD hS => ?_)
  rw [wMp24 eF7] at hP hD
  refine lv_aload_n hx hb dX8_readLog_10 rfl (lv_at hl 0 rfl) ?_
  refine lv_iconst (v := 0) hx hb dX8_readLog_11 (by decide) ?_
  obtain ⟨F12, eF12⟩ : ∃ f : tF, f = upd F7 25 0 := ⟨_, rfl⟩
  replace h := pl h eF12
  refine va_put (D := D) (ci := 8) (fs := vX8 ad F7) (v := .int (0)) (ty := .int) (C := RX8) (T := TX8) (N := 46) hx hb hts n_8 tyX8 tyX8_ok nmX8 hown hK hP hD hS 0 wMg0 rfl 44 (by decide) k_3 (fun _ h9 => h9) rfl (tyX8_ok 44 (by decide)) rfl rfl (Nat.le_of_ble_eq_true rfl) dX8_readLog_12 (fun H locs hP hD hS => ?_)
  rw [wMp25 eF12] at hP hD
  refine lv_aload_n hx hb dX8_readLog_15 rfl (lv_at hl 0 rfl) ?_
  refine lv_iconst (v := 0) hx hb dX8_readLog_16 (by decide) ?_
  obtain ⟨F17, eF17⟩ : ∃ f : tF, f = upd F12 26 0 := ⟨_, rfl⟩
  replace h := pl h eF17
  refine va_put (D := D) (ci := 8) (fs := vX8 ad F12) (v := .int (0)) (ty := .int) (C := RX8) (T := TX8) (N := 46) hx hb hts n_8 tyX8 tyX8_ok nmX8 hown hK hP hD hS 0 wMg0 rfl 45 (by decide) k_4 (fun _ h9 => h9) rfl (tyX8_ok 45 (by decide)) rfl rfl (Nat.le_of_ble_eq_true rfl) dX8_readLog_17 (fun H locs hP hD hS => ?_)
  rw [wMp26 eF17] at hP hD
  refine lv_iconst (v := 0) hx hb dX8_readLog_20 (by decide) ?_
  refine lv_istore_n (lv' := [(2, .int (0)), (0, .ref (ad 0)), (1, .int (a1))]) hx hb dX8_readLog_21 rfl hl (by decide) rfl (fun ls hl => ?_)
  refine lv_iconst (v := 0) hx hb dX8_readLog_22 (by decide) ?_
  refine lv_istore_n (lv' := [(3, .int (0)), (2, .int (0)), (0, .ref (ad 0)), (1, .int (a1))]) hx hb dX8_readLog_23 rfl hl (by decide) rfl (fun ls hl => ?_)
  refine lv_iconst (v := 0) hx hb dX8_readLog_24 (by decide) ?_
  refine lv_istore (lv' := [(4, .int (0)), (3, .int (0)), (2, .int (0)), (0, .ref (ad 0)), (1, .int (a1))]) hx hb dX8_readLog_25 hl (by decide) rfl (fun ls hl => ?_)
  obtain ⟨K27, eK27, h⟩ := p_X8_readLog_L27_k h
  have JE27 : ∀ (z27_0 : Int32) (z27_1 : Int32) (z27_2 : Int32) (F27l : tF) (H : Heap) (locs : List Loc) (ls : Array Slot), K27 z27_0 z27_1 z27_2 F27l = some (F', G') → va_P D vwCl (wM ad cA F27l G) H → va_D A (wM ad cA F27l G) → va_S A s.heap H locs → lv_has ls 11 [(4, .int (z27_0)), (3, .int (z27_1)), (2, .int (z27_2)), (0, .ref (ad 0)), (1, .int (a1))] → W p l e ({ frames := 0, cells := 0, slots := 0, locals := 0 } : Room) s m args below meth c H locs 0 0 Q (F0 m 343 ls []) := by
    intro z27_0 z27_1 z27_2 F27l H locs ls h hP hD hS hl
    rw [eK27] at h
    exact hret _ _ _ _ _ _ dX8_readLog_343 h hP hD hS
  have LL27 : ∀ (k : Nat) (z27_0 : Int32) (z27_1 : Int32) (z27_2 : Int32) (F27l : tF) (H : Heap) (locs : List Loc) (ls : Array Slot), p_X8_readLog_L27 n G a1 K27 k z27_0 z27_1 z27_2 F27l = some (F', G') → va_P D vwCl (wM ad cA F27l G) H → va_D A (wM ad cA F27l G) → va_S A s.heap H locs → lv_has ls 11 [(4, .int (z27_0)), (3, .int (z27_1)), (2, .int (z27_2)), (0, .ref (ad 0)), (1, .int (a1))] → W p l e ({ frames := 0, cells := 0, slots := 0, locals := 0 } : Room) s m args below meth c H locs 0 0 Q (F0 m 27 ls []) := by
    intro k
    induction k with
    | zero =>
      intro z27_0 z27_1 z27_2 F27l H locs ls h hP hD hS hl
      rw [p_X8_readLog_L27] at h
      cases h
    | succ k27 ih27 =>
      intro z27_0 z27_1 z27_2 F27l H locs ls h hP hD hS hl
      rw [p_X8_readLog_L27] at h
      refine lv_iload hx hb dX8_readLog_27 (lv_at hl 0 rfl) ?_
      refine lv_sipush (v := 1000) hx hb dX8_readLog_29 (by decide) ?_
      refine lv_icmp_gt (tgt := 343) hx hb dX8_readLog_32 (by decide) (fun c32 => ?_) (fun c32 => ?_)
      · replace h := ifp h c32
        exact JE27 _ _ _ _ _ _ _ h hP hD hS (lv_sub hl [0, 1, 2, 3, 4] rfl)
      · replace h := ifn h c32
        refine lv_bipush (v := (-6)) hx hb dX8_readLog_35 (by decide) ?_
        refine lv_istore (lv' := [(5, .int ((-6))), (4, .int (z27_0)), (3, .int (z27_1)), (2, .int (z27_2)), (0, .ref (ad 0)), (1, .int (a1))]) hx hb dX8_readLog_37 hl (by decide) rfl (fun ls hl => ?_)
        refine lv_bipush (v := (-6)) hx hb dX8_readLog_39 (by decide) ?_
        refine lv_istore (lv' := [(6, .int ((-6))), (5, .int ((-6))), (4, .int (z27_0)), (3, .int (z27_1)), (2, .int (z27_2)), (0, .ref (ad 0)), (1, .int (a1))]) hx hb dX8_readLog_41 hl (by decide) rfl (fun ls hl => ?_)
        refine lv_bipush (v := (-6)) hx hb dX8_readLog_43 (by decide) ?_
        refine lv_istore (lv' := [(7, .int ((-6))), (6, .int ((-6))), (5, .int ((-6))), (4, .int (z27_0)), (3, .int (z27_1)), (2, .int (z27_2)), (0, .ref (ad 0)), (1, .int (a1))]) hx hb dX8_readLog_45 hl (by decide) rfl (fun ls hl => ?_)
        refine lv_iconst (v := 0) hx hb dX8_readLog_47 (by decide) ?_
        refine lv_istore (lv' := [(8, .int (0)), (7, .int ((-6))), (6, .int ((-6))), (5, .int ((-6))), (4, .int (z27_0)), (3, .int (z27_1)), (2, .int (z27_2)), (0, .ref (ad 0)), (1, .int (a1))]) hx hb dX8_readLog_48 hl (by decide) rfl (fun ls hl => ?_)
        obtain ⟨K50, eK50, h⟩ := p_X8_readLog_L50_k h
        have JE50 : ∀ (z50_0 : Int32) (z50_1 : Int32) (z50_2 : Int32) (z50_3 : Int32) (H : Heap) (locs : List Loc) (ls : Array Slot), K50 z50_0 z50_1 z50_2 z50_3 = some (F', G') → va_P D vwCl (wM ad cA F27l G) H → va_D A (wM ad cA F27l G) → va_S A s.heap H locs → lv_has ls 11 [(8, .int (z50_0)), (7, .int (z50_1)), (6, .int (z50_2)), (5, .int (z50_3)), (4, .int (z27_0)), (3, .int (z27_1)), (2, .int (z27_2)), (0, .ref (ad 0)), (1, .int (a1))] → W p l e ({ frames := 0, cells := 0, slots := 0, locals := 0 } : Room) s m args below meth c H locs 0 0 Q (F0 m 159 ls []) := by
          intro z50_0 z50_1 z50_2 z50_3 H locs ls h hP hD hS hl
          rw [eK50] at h
          refine lv_iload hx hb dX8_readLog_159 (lv_at hl 3 rfl) ?_
          obtain ⟨y161_0, q161, h⟩ := bi1e h
          have J161 : ∀ (wy161_0 : Int32), some (wy161_0) = some (y161_0) → ∀ (H : Heap) (locs : List Loc) (ls : Array Slot), va_P D vwCl (wM ad cA F27l G) H → va_D A (wM ad cA F27l G) → va_S A s.heap H locs → lv_has ls 11 [(8, .int (z50_0)), (7, .int (z50_1)), (6, .int (z50_2)), (5, .int (z50_3)), (4, .int (z27_0)), (3, .int (z27_1)), (2, .int (z27_2)), (0, .ref (ad 0)), (1, .int (a1))] → W p l e ({ frames := 0, cells := 0, slots := 0, locals := 0 } : Room) s m args below meth c H locs 0 0 Q (F0 m 179 ls [.int (wy161_0)]) := by
            intro wy161_0 e9 H locs ls hP hD hS hl
            cases e9
            refine lv_istore (lv' := [(8, .int (y161_0)), (7, .int (z50_1)), (6, .int (z50_2)), (5, .int (z50_3)), (4, .int (z27_0)), (3, .int (z27_1)), (2, .int (z27_2)), (0, .ref (ad 0)), (1, .int (a1))]) hx hb dX8_readLog_179 hl (by decide) rfl (fun ls hl => ?_)
            refine lv_iload hx hb dX8_readLog_181 (lv_at hl 3 rfl) ?_
            refine lv_iconst (v := 2) hx hb dX8_readLog_183 (by decide) ?_
            obtain ⟨y184_0, q184, h⟩ := bi1e h
            have J184 : ∀ (wy184_0 : Int32), some (wy184_0) = some (y184_0) → ∀ (H : Heap) (locs : List Loc) (ls : Array Slot), va_P D vwCl (wM ad cA F27l G) H → va_D A (wM ad cA F27l G) → va_S A s.heap H locs → lv_has ls 11 [(8, .int (y161_0)), (7, .int (z50_1)), (6, .int (z50_2)), (5, .int (z50_3)), (4, .int (z27_0)), (3, .int (z27_1)), (2, .int (z27_2)), (0, .ref (ad 0)), (1, .int (a1))] → W p l e ({ frames := 0, cells := 0, slots := 0, locals := 0 } : Room) s m args below meth c H locs 0 0 Q (F0 m 209 ls [.int (wy184_0)]) := by
              intro wy184_0 e9 H locs ls hP hD hS hl
              cases e9
              refine lv_istore (lv' := [(9, .int (y184_0)), (8, .int (y161_0)), (7, .int (z50_1)), (6, .int (z50_2)), (5, .int (z50_3)), (4, .int (z27_0)), (3, .int (z27_1)), (2, .int (z27_2)), (0, .ref (ad 0)), (1, .int (a1))]) hx hb dX8_readLog_209 hl (by decide) rfl (fun ls hl => ?_)
              refine lv_iload hx hb dX8_readLog_211 (lv_at hl 1 rfl) ?_
              obtain ⟨y213_0, q213, h⟩ := bi1e h
              have J213 : ∀ (wy213_0 : Int32), some (wy213_0) = some (y213_0) → ∀ (H : Heap) (locs : List Loc) (ls : Array Slot), va_P D vwCl (wM ad cA F27l G) H → va_D A (wM ad cA F27l G) → va_S A s.heap H locs → lv_has ls 11 [(9, .int (y184_0)), (8, .int (y161_0)), (7, .int (z50_1)), (6, .int (z50_2)), (5, .int (z50_3)), (4, .int (z27_0)), (3, .int (z27_1)), (2, .int (z27_2)), (0, .ref (ad 0)), (1, .int (a1))] → W p l e ({ frames := 0, cells := 0, slots := 0, locals := 0 } : Room) s m args below meth c H locs 0 0 Q (F0 m 226 ls [.int (wy213_0)]) := by
                intro wy213_0 e9 H locs ls hP hD hS hl
                cases e9
                refine lv_istore (lv' := [(10, .int (y213_0)), (9, .int (y184_0)), (8, .int (y161_0)), (7, .int (z50_1)), (6, .int (z50_2)), (5, .int (z50_3)), (4, .int (z27_0)), (3, .int (z27_1)), (2, .int (z27_2)), (0, .ref (ad 0)), (1, .int (a1))]) hx hb dX8_readLog_226 hl (by decide) rfl (fun ls hl => ?_)
                refine lv_aload_n hx hb dX8_readLog_228 rfl (lv_at hl 9 rfl) ?_
                refine lv_dup hx hb dX8_readLog_229 rfl ?_
                refine va_get (D := D) (ci := 8) (fs := vX8 ad F27l) (v := .int ((F27l 23))) (C := RX8) (T := TX8) (N := 46) hx hb hts n_8 hown hK hP 0 wMg0 rfl 42 (by decide) k_0 (fun _ h9 => h9) rfl dX8_readLog_230 ?_
                refine lv_iload hx hb dX8_readLog_233 (lv_at hl 1 rfl) ?_
                obtain ⟨y235_0, q235, h⟩ := bi1e h
                have J235 : ∀ (wy235_0 : Int32), some (wy235_0) = some (y235_0) → ∀ (H : Heap) (locs : List Loc) (ls : Array Slot), va_P D vwCl (wM ad cA F27l G) H → va_D A (wM ad cA F27l G) → va_S A s.heap H locs → lv_has ls 11 [(10, .int (y213_0)), (9, .int (y184_0)), (8, .int (y161_0)), (7, .int (z50_1)), (6, .int (z50_2)), (5, .int (z50_3)), (4, .int (z27_0)), (3, .int (z27_1)), (2, .int (z27_2)), (0, .ref (ad 0)), (1, .int (a1))] → W p l e ({ frames := 0, cells := 0, slots := 0, locals := 0 } : Room) s m args below meth c H locs 0 0 Q (F0 m 243 ls [.int (wy235_0), .int ((F27l 23)), .ref (ad 0)]) := by
                  intro wy235_0 e9 H locs ls hP hD hS hl
                  cases e9
                  refine lv_iadd hx hb dX8_readLog_243 ?_
                  obtain ⟨F244, eF244⟩ : ∃ f : tF, f = upd F27l 23 ((F27l 23) + y235_0) := ⟨_, rfl⟩
                  replace h := pl h eF244
                  refine va_put (D := D) (ci := 8) (fs := vX8 ad F27l) (v := .int (((F27l 23) + y235_0))) (ty := .int) (C := RX8) (T := TX8) (N := 46) hx hb hts n_8 tyX8 tyX8_ok nmX8 hown hK hP hD hS 0 wMg0 rfl 42 (by decide) k_0 (fun _ h9 => h9) rfl (tyX8_ok 42 (by decide)) rfl rfl (Nat.le_of_ble_eq_true rfl) dX8_readLog_244 (fun H locs hP hD hS => ?_)
                  rw [wMp23 eF244] at hP hD
                  refine lv_aload_n hx hb dX8_readLog_247 rfl (lv_at hl 9 rfl) ?_
                  refine lv_dup hx hb dX8_readLog_248 rfl ?_
                  refine va_get (D := D) (ci := 8) (fs := vX8 ad F244) (v := .int ((F244 24))) (C := RX8) (T := TX8) (N := 46) hx hb hts n_8 hown hK hP 0 wMg0 rfl 43 (by decide) k_2 (fun _ h9 => h9) rfl dX8_readLog_249 ?_
                  refine lv_iload hx hb dX8_readLog_252 (lv_at hl 0 rfl) ?_
                  obtain ⟨y254_0, q254, h⟩ := bi1e h
                  have J254 : ∀ (wy254_0 : Int32), some (wy254_0) = some (y254_0) → ∀ (H : Heap) (locs : List Loc) (ls : Array Slot), va_P D vwCl (wM ad cA F244 G) H → va_D A (wM ad cA F244 G) → va_S A s.heap H locs → lv_has ls 11 [(10, .int (y213_0)), (9, .int (y184_0)), (8, .int (y161_0)), (7, .int (z50_1)), (6, .int (z50_2)), (5, .int (z50_3)), (4, .int (z27_0)), (3, .int (z27_1)), (2, .int (z27_2)), (0, .ref (ad 0)), (1, .int (a1))] → W p l e ({ frames := 0, cells := 0, slots := 0, locals := 0 } : Room) s m args below meth c H locs 0 0 Q (F0 m 262 ls [.int (wy254_0), .int ((F244 24)), .ref (ad 0)]) := by
                    intro wy254_0 e9 H locs ls hP hD hS hl
                    cases e9
                    refine lv_iadd hx hb dX8_readLog_262 ?_
                    obtain ⟨F263, eF263⟩ : ∃ f : tF, f = upd F244 24 ((F244 24) + y254_0) := ⟨_, rfl⟩
                    replace h := pl h eF263
                    refine va_put (D := D) (ci := 8) (fs := vX8 ad F244) (v := .int (((F244 24) + y254_0))) (ty := .int) (C := RX8) (T := TX8) (N := 46) hx hb hts n_8 tyX8 tyX8_ok nmX8 hown hK hP hD hS 0 wMg0 rfl 43 (by decide) k_2 (fun _ h9 => h9) rfl (tyX8_ok 43 (by decide)) rfl rfl (Nat.le_of_ble_eq_true rfl) dX8_readLog_263 (fun H locs hP hD hS => ?_)
                    rw [wMp24 eF263] at hP hD
                    refine lv_iload hx hb dX8_readLog_266 (lv_at hl 1 rfl) ?_
                    obtain ⟨y268_0, q268, h⟩ := bi1e h
                    have J268 : ∀ (wy268_0 : Int32), some (wy268_0) = some (y268_0) → ∀ (H : Heap) (locs : List Loc) (ls : Array Slot), va_P D vwCl (wM ad cA F263 G) H → va_D A (wM ad cA F263 G) → va_S A s.heap H locs → lv_has ls 11 [(10, .int (y213_0)), (9, .int (y184_0)), (8, .int (y161_0)), (7, .int (z50_1)), (6, .int (z50_2)), (5, .int (z50_3)), (4, .int (z27_0)), (3, .int (z27_1)), (2, .int (z27_2)), (0, .ref (ad 0)), (1, .int (a1))] → W p l e ({ frames := 0, cells := 0, slots := 0, locals := 0 } : Room) s m args below meth c H locs 0 0 Q (F0 m 278 ls [.int (wy268_0)]) := by
                      intro wy268_0 e9 H locs ls hP hD hS hl
                      cases e9
                      refine lv_istore_n (lv' := [(2, .int (y268_0)), (10, .int (y213_0)), (9, .int (y184_0)), (8, .int (y161_0)), (7, .int (z50_1)), (6, .int (z50_2)), (5, .int (z50_3)), (4, .int (z27_0)), (3, .int (z27_1)), (0, .ref (ad 0)), (1, .int (a1))]) hx hb dX8_readLog_278 rfl hl (by decide) rfl (fun ls hl => ?_)
                      refine lv_iload hx hb dX8_readLog_279 (lv_at hl 2 rfl) ?_
                      obtain ⟨y281_0, q281, h⟩ := bi1e h
                      have J281 : ∀ (wy281_0 : Int32), some (wy281_0) = some (y281_0) → ∀ (H : Heap) (locs : List Loc) (ls : Array Slot), va_P D vwCl (wM ad cA F263 G) H → va_D A (wM ad cA F263 G) → va_S A s.heap H locs → lv_has ls 11 [(2, .int (y268_0)), (10, .int (y213_0)), (9, .int (y184_0)), (8, .int (y161_0)), (7, .int (z50_1)), (6, .int (z50_2)), (5, .int (z50_3)), (4, .int (z27_0)), (3, .int (z27_1)), (0, .ref (ad 0)), (1, .int (a1))] → W p l e ({ frames := 0, cells := 0, slots := 0, locals := 0 } : Room) s m args below meth c H locs 0 0 Q (F0 m 296 ls [.int (wy281_0)]) := by
                        intro wy281_0 e9 H locs ls hP hD hS hl
                        cases e9
                        refine lv_istore_n (lv' := [(3, .int (y281_0)), (2, .int (y268_0)), (10, .int (y213_0)), (9, .int (y184_0)), (8, .int (y161_0)), (7, .int (z50_1)), (6, .int (z50_2)), (5, .int (z50_3)), (4, .int (z27_0)), (0, .ref (ad 0)), (1, .int (a1))]) hx hb dX8_readLog_296 rfl hl (by decide) rfl (fun ls hl => ?_)
                        refine lv_aload_n hx hb dX8_readLog_297 rfl (lv_at hl 9 rfl) ?_
                        refine lv_iload_n hx hb dX8_readLog_298 rfl (lv_at hl 1 rfl) ?_
                        refine lv_aload_n hx hb dX8_readLog_299 rfl (lv_at hl 9 rfl) ?_
                        refine va_get (D := D) (ci := 8) (fs := vX8 ad F263) (v := .int ((F263 25))) (C := RX8) (T := TX8) (N := 46) hx hb hts n_8 hown hK hP 0 wMg0 rfl 44 (by decide) k_3 (fun _ h9 => h9) rfl dX8_readLog_300 ?_
                        obtain ⟨y303_0, q303, h⟩ := bi1e h
                        have J303 : ∀ (wy303_0 : Int32), some (wy303_0) = some (y303_0) → ∀ (H : Heap) (locs : List Loc) (ls : Array Slot), va_P D vwCl (wM ad cA F263 G) H → va_D A (wM ad cA F263 G) → va_S A s.heap H locs → lv_has ls 11 [(3, .int (y281_0)), (2, .int (y268_0)), (10, .int (y213_0)), (9, .int (y184_0)), (8, .int (y161_0)), (7, .int (z50_1)), (6, .int (z50_2)), (5, .int (z50_3)), (4, .int (z27_0)), (0, .ref (ad 0)), (1, .int (a1))] → W p l e ({ frames := 0, cells := 0, slots := 0, locals := 0 } : Room) s m args below meth c H locs 0 0 Q (F0 m 314 ls [.int (wy303_0), .ref (ad 0)]) := by
                          intro wy303_0 e9 H locs ls hP hD hS hl
                          cases e9
                          obtain ⟨F314, eF314⟩ : ∃ f : tF, f = upd F263 25 y303_0 := ⟨_, rfl⟩
                          replace h := pl h eF314
                          refine va_put (D := D) (ci := 8) (fs := vX8 ad F263) (v := .int (y303_0)) (ty := .int) (C := RX8) (T := TX8) (N := 46) hx hb hts n_8 tyX8 tyX8_ok nmX8 hown hK hP hD hS 0 wMg0 rfl 44 (by decide) k_3 (fun _ h9 => h9) rfl (tyX8_ok 44 (by decide)) rfl rfl (Nat.le_of_ble_eq_true rfl) dX8_readLog_314 (fun H locs hP hD hS => ?_)
                          rw [wMp25 eF314] at hP hD
                          refine lv_aload_n hx hb dX8_readLog_317 rfl (lv_at hl 9 rfl) ?_
                          refine lv_iload_n hx hb dX8_readLog_318 rfl (lv_at hl 0 rfl) ?_
                          refine lv_aload_n hx hb dX8_readLog_319 rfl (lv_at hl 9 rfl) ?_
                          refine va_get (D := D) (ci := 8) (fs := vX8 ad F314) (v := .int ((F314 26))) (C := RX8) (T := TX8) (N := 46) hx hb hts n_8 hown hK hP 0 wMg0 rfl 45 (by decide) k_4 (fun _ h9 => h9) rfl dX8_readLog_320 ?_
                          obtain ⟨y323_0, q323, h⟩ := bi1e h
                          have J323 : ∀ (wy323_0 : Int32), some (wy323_0) = some (y323_0) → ∀ (H : Heap) (locs : List Loc) (ls : Array Slot), va_P D vwCl (wM ad cA F314 G) H → va_D A (wM ad cA F314 G) → va_S A s.heap H locs → lv_has ls 11 [(3, .int (y281_0)), (2, .int (y268_0)), (10, .int (y213_0)), (9, .int (y184_0)), (8, .int (y161_0)), (7, .int (z50_1)), (6, .int (z50_2)), (5, .int (z50_3)), (4, .int (z27_0)), (0, .ref (ad 0)), (1, .int (a1))] → W p l e ({ frames := 0, cells := 0, slots := 0, locals := 0 } : Room) s m args below meth c H locs 0 0 Q (F0 m 334 ls [.int (wy323_0), .ref (ad 0)]) := by
                            intro wy323_0 e9 H locs ls hP hD hS hl
                            cases e9
                            obtain ⟨F334, eF334⟩ : ∃ f : tF, f = upd F314 26 y323_0 := ⟨_, rfl⟩
                            replace h := pl h eF334
                            refine va_put (D := D) (ci := 8) (fs := vX8 ad F314) (v := .int (y323_0)) (ty := .int) (C := RX8) (T := TX8) (N := 46) hx hb hts n_8 tyX8 tyX8_ok nmX8 hown hK hP hD hS 0 wMg0 rfl 45 (by decide) k_4 (fun _ h9 => h9) rfl (tyX8_ok 45 (by decide)) rfl rfl (Nat.le_of_ble_eq_true rfl) dX8_readLog_334 (fun H locs hP hD hS => ?_)
                            rw [wMp26 eF334] at hP hD
                            obtain ⟨x337, ex337⟩ : ∃ z : Int32, z = (z27_0 + 1) := ⟨_, rfl⟩
                            replace h := pl h ex337
                            refine lv_iinc (v := x337) (lv' := [(4, .int (x337)), (3, .int (y281_0)), (2, .int (y268_0)), (10, .int (y213_0)), (9, .int (y184_0)), (8, .int (y161_0)), (7, .int (z50_1)), (6, .int (z50_2)), (5, .int (z50_3)), (0, .ref (ad 0)), (1, .int (a1))]) hx hb dX8_readLog_337 hl (k := 8) rfl (by rw [ex337]; rfl) (by decide) rfl (fun ls hl => ?_)
                            refine lv_goto (tgt := 27) hx hb dX8_readLog_340 (by decide) ?_
                            exact ih27 _ _ _ _ _ _ _ h hP hD hS (lv_sub hl [0, 1, 2, 9, 10] rfl)
                          refine lv_icmp_le (tgt := 330) hx hb dX8_readLog_323 (by decide) (fun c323 => ?_) (fun c323 => ?_)
                          · replace q323 := ifp q323 c323
                            refine lv_aload_n hx hb dX8_readLog_330 rfl (lv_at hl 9 rfl) ?_
                            refine va_get (D := D) (ci := 8) (fs := vX8 ad F314) (v := .int ((F314 26))) (C := RX8) (T := TX8) (N := 46) hx hb hts n_8 hown hK hP 0 wMg0 rfl 45 (by decide) k_4 (fun _ h9 => h9) rfl dX8_readLog_331 ?_
                            exact J323 _ q323 _ _ _ hP hD hS (lv_sub hl [0, 1, 2, 3, 4, 5, 6, 7, 8, 9, 10] rfl)
                          · replace q323 := ifn q323 c323
                            refine lv_iload_n hx hb dX8_readLog_326 rfl (lv_at hl 0 rfl) ?_
                            refine lv_goto (tgt := 334) hx hb dX8_readLog_327 (by decide) ?_
                            exact J323 _ q323 _ _ _ hP hD hS (lv_sub hl [0, 1, 2, 3, 4, 5, 6, 7, 8, 9, 10] rfl)
                        refine lv_icmp_le (tgt := 310) hx hb dX8_readLog_303 (by decide) (fun c303 => ?_) (fun c303 => ?_)
                        · replace q303 := ifp q303 c303
                          refine lv_aload_n hx hb dX8_readLog_310 rfl (lv_at hl 9 rfl) ?_
                          refine va_get (D := D) (ci := 8) (fs := vX8 ad F263) (v := .int ((F263 25))) (C := RX8) (T := TX8) (N := 46) hx hb hts n_8 hown hK hP 0 wMg0 rfl 44 (by decide) k_3 (fun _ h9 => h9) rfl dX8_readLog_311 ?_
                          exact J303 _ q303 _ _ _ hP hD hS (lv_sub hl [0, 1, 2, 3, 4, 5, 6, 7, 8, 9, 10] rfl)
                        · replace q303 := ifn q303 c303
                          refine lv_iload_n hx hb dX8_readLog_306 rfl (lv_at hl 1 rfl) ?_
                          refine lv_goto (tgt := 314) hx hb dX8_readLog_307 (by decide) ?_
                          exact J303 _ q303 _ _ _ hP hD hS (lv_sub hl [0, 1, 2, 3, 4, 5, 6, 7, 8, 9, 10] rfl)
                      refine lv_if_ne (tgt := 289) hx hb dX8_readLog_281 (by decide) (fun c281 => ?_) (fun c281 => ?_)
                      · replace q281 := ifn q281 c281
                        refine lv_iload_n hx hb dX8_readLog_289 rfl (lv_at hl 8 rfl) ?_
                        refine lv_iconst (v := 1) hx hb dX8_readLog_290 (by decide) ?_
                        refine lv_iadd hx hb dX8_readLog_291 ?_
                        refine lv_goto (tgt := 296) hx hb dX8_readLog_292 (by decide) ?_
                        exact J281 _ q281 _ _ _ hP hD hS (lv_sub hl [0, 1, 2, 3, 4, 5, 6, 7, 8, 9, 10] rfl)
                      · replace q281 := ifp q281 c281
                        refine lv_iload hx hb dX8_readLog_284 (lv_at hl 1 rfl) ?_
                        refine lv_if_eq (tgt := 295) hx hb dX8_readLog_286 (by decide) (fun c286 => ?_) (fun c286 => ?_)
                        · replace q281 := ifp q281 c286
                          refine lv_iconst (v := 0) hx hb dX8_readLog_295 (by decide) ?_
                          exact J281 _ q281 _ _ _ hP hD hS (lv_sub hl [0, 1, 2, 3, 4, 5, 6, 7, 8, 9, 10] rfl)
                        · replace q281 := ifn q281 c286
                          refine lv_iload_n hx hb dX8_readLog_289 rfl (lv_at hl 8 rfl) ?_
                          refine lv_iconst (v := 1) hx hb dX8_readLog_290 (by decide) ?_
                          refine lv_iadd hx hb dX8_readLog_291 ?_
                          refine lv_goto (tgt := 296) hx hb dX8_readLog_292 (by decide) ?_
                          exact J281 _ q281 _ _ _ hP hD hS (lv_sub hl [0, 1, 2, 3, 4, 5, 6, 7, 8, 9, 10] rfl)
                    refine lv_if_eq (tgt := 277) hx hb dX8_readLog_268 (by decide) (fun c268 => ?_) (fun c268 => ?_)
                    · replace q268 := ifp q268 c268
                      refine lv_iconst (v := 0) hx hb dX8_readLog_277 (by decide) ?_
                      exact J268 _ q268 _ _ _ hP hD hS (lv_sub hl [0, 1, 2, 3, 4, 5, 6, 7, 8, 9, 10] rfl)
                    · replace q268 := ifn q268 c268
                      refine lv_iload_n hx hb dX8_readLog_271 rfl (lv_at hl 8 rfl) ?_
                      refine lv_iconst (v := 1) hx hb dX8_readLog_272 (by decide) ?_
                      refine lv_iadd hx hb dX8_readLog_273 ?_
                      refine lv_goto (tgt := 278) hx hb dX8_readLog_274 (by decide) ?_
                      exact J268 _ q268 _ _ _ hP hD hS (lv_sub hl [0, 1, 2, 3, 4, 5, 6, 7, 8, 9, 10] rfl)
                  refine lv_if_eq (tgt := 261) hx hb dX8_readLog_254 (by decide) (fun c254 => ?_) (fun c254 => ?_)
                  · replace q254 := ifp q254 c254
                    refine lv_iconst (v := 0) hx hb dX8_readLog_261 (by decide) ?_
                    exact J254 _ q254 _ _ _ hP hD hS (lv_sub hl [0, 1, 2, 3, 4, 5, 6, 7, 8, 9, 10] rfl)
                  · replace q254 := ifn q254 c254
                    refine lv_iconst (v := 1) hx hb dX8_readLog_257 (by decide) ?_
                    refine lv_goto (tgt := 262) hx hb dX8_readLog_258 (by decide) ?_
                    exact J254 _ q254 _ _ _ hP hD hS (lv_sub hl [0, 1, 2, 3, 4, 5, 6, 7, 8, 9, 10] rfl)
                refine lv_if_eq (tgt := 242) hx hb dX8_readLog_235 (by decide) (fun c235 => ?_) (fun c235 => ?_)
                · replace q235 := ifp q235 c235
                  refine lv_iconst (v := 0) hx hb dX8_readLog_242 (by decide) ?_
                  exact J235 _ q235 _ _ _ hP hD hS (lv_sub hl [0, 1, 2, 3, 4, 5, 6, 7, 8, 9, 10] rfl)
                · replace q235 := ifn q235 c235
                  refine lv_iconst (v := 1) hx hb dX8_readLog_238 (by decide) ?_
                  refine lv_goto (tgt := 243) hx hb dX8_readLog_239 (by decide) ?_
                  exact J235 _ q235 _ _ _ hP hD hS (lv_sub hl [0, 1, 2, 3, 4, 5, 6, 7, 8, 9, 10] rfl)
              refine lv_if_eq (tgt := 225) hx hb dX8_readLog_213 (by decide) (fun c213 => ?_) (fun c213 => ?_)
              · replace q213 := ifp q213 c213
                refine lv_iconst (v := 0) hx hb dX8_readLog_225 (by decide) ?_
                exact J213 _ q213 _ _ _ hP hD hS (lv_sub hl [0, 1, 2, 3, 4, 5, 6, 7, 8, 9] rfl)
              · replace q213 := ifn q213 c213
                refine lv_iload hx hb dX8_readLog_216 (lv_at hl 0 rfl) ?_
                refine lv_if_ne (tgt := 225) hx hb dX8_readLog_218 (by decide) (fun c218 => ?_) (fun c218 => ?_)
                · replace q213 := ifn q213 c218
                  refine lv_iconst (v := 0) hx hb dX8_readLog_225 (by decide) ?_
                  exact J213 _ q213 _ _ _ hP hD hS (lv_sub hl [0, 1, 2, 3, 4, 5, 6, 7, 8, 9] rfl)
                · replace q213 := ifp q213 c218
                  refine lv_iconst (v := 1) hx hb dX8_readLog_221 (by decide) ?_
                  refine lv_goto (tgt := 226) hx hb dX8_readLog_222 (by decide) ?_
                  exact J213 _ q213 _ _ _ hP hD hS (lv_sub hl [0, 1, 2, 3, 4, 5, 6, 7, 8, 9] rfl)
            refine lv_icmp_eq (tgt := 204) hx hb dX8_readLog_184 (by decide) (fun c184 => ?_) (fun c184 => ?_)
            · replace q184 := ifp q184 c184
              refine lv_iconst (v := 1) hx hb dX8_readLog_204 (by decide) ?_
              refine lv_goto (tgt := 209) hx hb dX8_readLog_205 (by decide) ?_
              exact J184 _ q184 _ _ _ hP hD hS (lv_sub hl [0, 1, 2, 3, 4, 5, 6, 7, 8] rfl)
            · replace q184 := ifn q184 c184
              refine lv_iload hx hb dX8_readLog_187 (lv_at hl 0 rfl) ?_
              refine lv_if_eq (tgt := 208) hx hb dX8_readLog_189 (by decide) (fun c189 => ?_) (fun c189 => ?_)
              · replace q184 := ifp q184 c189
                refine lv_iconst (v := 0) hx hb dX8_readLog_208 (by decide) ?_
                exact J184 _ q184 _ _ _ hP hD hS (lv_sub hl [0, 1, 2, 3, 4, 5, 6, 7, 8] rfl)
              · replace q184 := ifn q184 c189
                refine lv_iload hx hb dX8_readLog_192 (lv_at hl 2 rfl) ?_
                refine lv_iconst (v := 2) hx hb dX8_readLog_194 (by decide) ?_
                refine lv_icmp_ne (tgt := 208) hx hb dX8_readLog_195 (by decide) (fun c195 => ?_) (fun c195 => ?_)
                · replace q184 := ifn q184 c195
                  refine lv_iconst (v := 0) hx hb dX8_readLog_208 (by decide) ?_
                  exact J184 _ q184 _ _ _ hP hD hS (lv_sub hl [0, 1, 2, 3, 4, 5, 6, 7, 8] rfl)
                · replace q184 := ifp q184 c195
                  refine lv_iload hx hb dX8_readLog_198 (lv_at hl 1 rfl) ?_
                  refine lv_iconst (v := 2) hx hb dX8_readLog_200 (by decide) ?_
                  refine lv_icmp_ne (tgt := 208) hx hb dX8_readLog_201 (by decide) (fun c201 => ?_) (fun c201 => ?_)
                  · replace q184 := ifn q184 c201
                    refine lv_iconst (v := 0) hx hb dX8_readLog_208 (by decide) ?_
                    exact J184 _ q184 _ _ _ hP hD hS (lv_sub hl [0, 1, 2, 3, 4, 5, 6, 7, 8] rfl)
                  · replace q184 := ifp q184 c201
                    refine lv_iconst (v := 1) hx hb dX8_readLog_204 (by decide) ?_
                    refine lv_goto (tgt := 209) hx hb dX8_readLog_205 (by decide) ?_
                    exact J184 _ q184 _ _ _ hP hD hS (lv_sub hl [0, 1, 2, 3, 4, 5, 6, 7, 8] rfl)
          refine lv_if_ge (tgt := 178) hx hb dX8_readLog_161 (by decide) (fun c161 => ?_) (fun c161 => ?_)
          · replace q161 := ifp q161 c161
            refine lv_iconst (v := 0) hx hb dX8_readLog_178 (by decide) ?_
            exact J161 _ q161 _ _ _ hP hD hS (lv_sub hl [0, 1, 2, 3, 4, 5, 6, 7, 8] rfl)
          · replace q161 := ifn q161 c161
            refine lv_iload hx hb dX8_readLog_164 (lv_at hl 2 rfl) ?_
            refine lv_if_lt (tgt := 178) hx hb dX8_readLog_166 (by decide) (fun c166 => ?_) (fun c166 => ?_)
            · replace q161 := ifp q161 c166
              refine lv_iconst (v := 0) hx hb dX8_readLog_178 (by decide) ?_
              exact J161 _ q161 _ _ _ hP hD hS (lv_sub hl [0, 1, 2, 3, 4, 5, 6, 7, 8] rfl)
            · replace q161 := ifn q161 c166
              refine lv_iload hx hb dX8_readLog_169 (lv_at hl 1 rfl) ?_
              refine lv_if_lt (tgt := 178) hx hb dX8_readLog_171 (by decide) (fun c171 => ?_) (fun c171 => ?_)
              · replace q161 := ifp q161 c171
                refine lv_iconst (v := 0) hx hb dX8_readLog_178 (by decide) ?_
                exact J161 _ q161 _ _ _ hP hD hS (lv_sub hl [0, 1, 2, 3, 4, 5, 6, 7, 8] rfl)
              · replace q161 := ifn q161 c171
                refine lv_iconst (v := 1) hx hb dX8_readLog_174 (by decide) ?_
                refine lv_goto (tgt := 179) hx hb dX8_readLog_175 (by decide) ?_
                exact J161 _ q161 _ _ _ hP hD hS (lv_sub hl [0, 1, 2, 3, 4, 5, 6, 7, 8] rfl)
        have LL50 : ∀ (k : Nat) (z50_0 : Int32) (z50_1 : Int32) (z50_2 : Int32) (z50_3 : Int32) (H : Heap) (locs : List Loc) (ls : Array Slot), p_X8_readLog_L50 G F27l a1 z27_0 K50 k z50_0 z50_1 z50_2 z50_3 = some (F', G') → va_P D vwCl (wM ad cA F27l G) H → va_D A (wM ad cA F27l G) → va_S A s.heap H locs → lv_has ls 11 [(8, .int (z50_0)), (7, .int (z50_1)), (6, .int (z50_2)), (5, .int (z50_3)), (4, .int (z27_0)), (3, .int (z27_1)), (2, .int (z27_2)), (0, .ref (ad 0)), (1, .int (a1))] → W p l e ({ frames := 0, cells := 0, slots := 0, locals := 0 } : Room) s m args below meth c H locs 0 0 Q (F0 m 50 ls []) := by
          intro k
          induction k with
          | zero =>
            intro z50_0 z50_1 z50_2 z50_3 H locs ls h hP hD hS hl
            rw [p_X8_readLog_L50] at h
            cases h
          | succ k50 ih50 =>
            intro z50_0 z50_1 z50_2 z50_3 H locs ls h hP hD hS hl
            rw [p_X8_readLog_L50] at h
            refine lv_iload hx hb dX8_readLog_50 (lv_at hl 0 rfl) ?_
            refine lv_aload_n hx hb dX8_readLog_52 rfl (lv_at hl 7 rfl) ?_
            refine va_get (D := D) (ci := 8) (fs := vX8 ad F27l) (v := .int ((F27l 20))) (C := RX8) (T := TX8) (N := 46) hx hb hts n_8 hown hK hP 0 wMg0 rfl 33 (by decide) k_5 (fun _ h9 => h9) rfl dX8_readLog_53 ?_
            refine lv_icmp_ge (tgt := 159) hx hb dX8_readLog_56 (by decide) (fun c56 => ?_) (fun c56 => ?_)
            · replace h := ifp h c56
              exact JE50 _ _ _ _ _ _ _ h hP hD hS (lv_sub hl [0, 1, 2, 3, 4, 5, 6, 7, 8] rfl)
            · replace h := ifn h c56
              refine lv_aload_n hx hb dX8_readLog_59 rfl (lv_at hl 7 rfl) ?_
              refine va_get (D := D) (ci := 8) (fs := vX8 ad F27l) (v := .ref (ad 15)) (C := RX8) (T := TX8) (N := 46) hx hb hts n_8 hown hK hP 0 wMg0 rfl 35 (by decide) k_6 (fun _ h9 => h9) rfl dX8_readLog_60 ?_
              refine lv_iload hx hb dX8_readLog_63 (lv_at hl 0 rfl) ?_
              obtain ⟨g65, h⟩ := og h
              refine va_iald (D := D) hx hb hK hP 15 0 wMg15 rfl (inB_in g65) dX8_readLog_65 ?_
              refine lv_iload_n hx hb dX8_readLog_66 rfl (lv_at hl 8 rfl) ?_
              obtain ⟨y67_0, y67_1, y67_2, q67, h⟩ := bi3e h
              have J67 : ∀ (wy67_0 : Int32) (wy67_1 : Int32) (wy67_2 : Int32), some (wy67_0, wy67_1, wy67_2) = some (y67_0, y67_1, y67_2) → ∀ (H : Heap) (locs : List Loc) (ls : Array Slot), va_P D vwCl (wM ad cA F27l G) H → va_D A (wM ad cA F27l G) → va_S A s.heap H locs → lv_has ls 11 [(8, .int (z50_0)), (7, .int (wy67_0)), (6, .int (wy67_1)), (5, .int (wy67_2)), (4, .int (z27_0)), (3, .int (z27_1)), (2, .int (z27_2)), (0, .ref (ad 0)), (1, .int (a1))] → W p l e ({ frames := 0, cells := 0, slots := 0, locals := 0 } : Room) s m args below meth c H locs 0 0 Q (F0 m 153 ls []) := by
                intro wy67_0 wy67_1 wy67_2 e9 H locs ls hP hD hS hl
                cases e9
                obtain ⟨x153, ex153⟩ : ∃ z : Int32, z = (z50_0 + 1) := ⟨_, rfl⟩
                replace h := pl h ex153
                refine lv_iinc (v := x153) (lv' := [(8, .int (x153)), (7, .int (y67_0)), (6, .int (y67_1)), (5, .int (y67_2)), (4, .int (z27_0)), (3, .int (z27_1)), (2, .int (z27_2)), (0, .ref (ad 0)), (1, .int (a1))]) hx hb dX8_readLog_153 hl (k := 0) rfl (by rw [ex153]; rfl) (by decide) rfl (fun ls hl => ?_)
                refine lv_goto (tgt := 50) hx hb dX8_readLog_156 (by decide) ?_
                exact ih50 _ _ _ _ _ _ _ h hP hD hS (lv_sub hl [0, 1, 2, 3, 4, 5, 6, 7, 8] rfl)
              refine lv_icmp_ne (tgt := 153) hx hb dX8_readLog_67 (by decide) (fun c67 => ?_) (fun c67 => ?_)
              · replace q67 := ifn q67 c67
                exact J67 _ _ _ q67 _ _ _ hP hD hS (lv_sub hl [0, 1, 2, 3, 4, 5, 6, 7, 8] rfl)
              · replace q67 := ifp q67 c67
                refine lv_aload_n hx hb dX8_readLog_70 rfl (lv_at hl 7 rfl) ?_
                refine va_get (D := D) (ci := 8) (fs := vX8 ad F27l) (v := .ref (ad 14)) (C := RX8) (T := TX8) (N := 46) hx hb hts n_8 hown hK hP 0 wMg0 rfl 34 (by decide) k_7 (fun _ h9 => h9) rfl dX8_readLog_71 ?_
                refine lv_iload hx hb dX8_readLog_74 (lv_at hl 0 rfl) ?_
                obtain ⟨g76, q67⟩ := og q67
                refine va_iald (D := D) hx hb hK hP 14 0 wMg14 rfl (inB_in g76) dX8_readLog_76 ?_
                refine lv_iload hx hb dX8_readLog_77 (lv_at hl 4 rfl) ?_
                obtain ⟨y79_0, q79, q67⟩ := bi1e q67
                have J79 : ∀ (wy79_0 : Int32), some (wy79_0) = some (y79_0) → ∀ (H : Heap) (locs : List Loc) (ls : Array Slot), va_P D vwCl (wM ad cA F27l G) H → va_D A (wM ad cA F27l G) → va_S A s.heap H locs → lv_has ls 11 [(8, .int (z50_0)), (7, .int (z50_1)), (6, .int (z50_2)), (5, .int (z50_3)), (4, .int (z27_0)), (3, .int (z27_1)), (2, .int (z27_2)), (0, .ref (ad 0)), (1, .int (a1))] → W p l e ({ frames := 0, cells := 0, slots := 0, locals := 0 } : Room) s m args below meth c H locs 0 0 Q (F0 m 94 ls [.int (wy79_0)]) := by
                  intro wy79_0 e9 H locs ls hP hD hS hl
                  cases e9
                  refine lv_istore (lv' := [(5, .int (y79_0)), (8, .int (z50_0)), (7, .int (z50_1)), (6, .int (z50_2)), (4, .int (z27_0)), (3, .int (z27_1)), (2, .int (z27_2)), (0, .ref (ad 0)), (1, .int (a1))]) hx hb dX8_readLog_94 hl (by decide) rfl (fun ls hl => ?_)
                  refine lv_aload_n hx hb dX8_readLog_96 rfl (lv_at hl 7 rfl) ?_
                  refine va_get (D := D) (ci := 8) (fs := vX8 ad F27l) (v := .ref (ad 14)) (C := RX8) (T := TX8) (N := 46) hx hb hts n_8 hown hK hP 0 wMg0 rfl 34 (by decide) k_7 (fun _ h9 => h9) rfl dX8_readLog_97 ?_
                  refine lv_iload hx hb dX8_readLog_100 (lv_at hl 1 rfl) ?_
                  obtain ⟨g102, q67⟩ := og q67
                  refine va_iald (D := D) hx hb hK hP 14 0 wMg14 rfl (inB_in g102) dX8_readLog_102 ?_
                  refine lv_iload hx hb dX8_readLog_103 (lv_at hl 4 rfl) ?_
                  obtain ⟨y105_0, q105, q67⟩ := bi1e q67
                  have J105 : ∀ (wy105_0 : Int32), some (wy105_0) = some (y105_0) → ∀ (H : Heap) (locs : List Loc) (ls : Array Slot), va_P D vwCl (wM ad cA F27l G) H → va_D A (wM ad cA F27l G) → va_S A s.heap H locs → lv_has ls 11 [(5, .int (y79_0)), (8, .int (z50_0)), (7, .int (z50_1)), (6, .int (z50_2)), (4, .int (z27_0)), (3, .int (z27_1)), (2, .int (z27_2)), (0, .ref (ad 0)), (1, .int (a1))] → W p l e ({ frames := 0, cells := 0, slots := 0, locals := 0 } : Room) s m args below meth c H locs 0 0 Q (F0 m 120 ls [.int (wy105_0)]) := by
                    intro wy105_0 e9 H locs ls hP hD hS hl
                    cases e9
                    refine lv_istore (lv' := [(6, .int (y105_0)), (5, .int (y79_0)), (8, .int (z50_0)), (7, .int (z50_1)), (4, .int (z27_0)), (3, .int (z27_1)), (2, .int (z27_2)), (0, .ref (ad 0)), (1, .int (a1))]) hx hb dX8_readLog_120 hl (by decide) rfl (fun ls hl => ?_)
                    refine lv_iload hx hb dX8_readLog_122 (lv_at hl 3 rfl) ?_
                    obtain ⟨y124_0, q124, q67⟩ := bi1e q67
                    have J124 : ∀ (wy124_0 : Int32), some (wy124_0) = some (y124_0) → ∀ (H : Heap) (locs : List Loc) (ls : Array Slot), va_P D vwCl (wM ad cA F27l G) H → va_D A (wM ad cA F27l G) → va_S A s.heap H locs → lv_has ls 11 [(6, .int (y105_0)), (5, .int (y79_0)), (8, .int (z50_0)), (7, .int (z50_1)), (4, .int (z27_0)), (3, .int (z27_1)), (2, .int (z27_2)), (0, .ref (ad 0)), (1, .int (a1))] → W p l e ({ frames := 0, cells := 0, slots := 0, locals := 0 } : Room) s m args below meth c H locs 0 0 Q (F0 m 151 ls [.int (wy124_0)]) := by
                      intro wy124_0 e9 H locs ls hP hD hS hl
                      cases e9
                      refine lv_istore (lv' := [(7, .int (y124_0)), (6, .int (y105_0)), (5, .int (y79_0)), (8, .int (z50_0)), (4, .int (z27_0)), (3, .int (z27_1)), (2, .int (z27_2)), (0, .ref (ad 0)), (1, .int (a1))]) hx hb dX8_readLog_151 hl (by decide) rfl (fun ls hl => ?_)
                      exact J67 _ _ _ q67 _ _ _ hP hD hS (lv_sub hl [3, 0, 1, 2, 4, 5, 6, 7, 8] rfl)
                    refine lv_if_ge (tgt := 149) hx hb dX8_readLog_124 (by decide) (fun c124 => ?_) (fun c124 => ?_)
                    · replace q124 := ifp q124 c124
                      refine lv_iload hx hb dX8_readLog_149 (lv_at hl 3 rfl) ?_
                      exact J124 _ q124 _ _ _ hP hD hS (lv_sub hl [0, 1, 2, 3, 4, 5, 6, 7, 8] rfl)
                    · replace q124 := ifn q124 c124
                      refine lv_aload_n hx hb dX8_readLog_127 rfl (lv_at hl 7 rfl) ?_
                      refine va_get (D := D) (ci := 8) (fs := vX8 ad F27l) (v := .ref (ad 14)) (C := RX8) (T := TX8) (N := 46) hx hb hts n_8 hown hK hP 0 wMg0 rfl 34 (by decide) k_7 (fun _ h9 => h9) rfl dX8_readLog_128 ?_
                      refine lv_iload hx hb dX8_readLog_131 (lv_at hl 2 rfl) ?_
                      obtain ⟨g133, q124⟩ := og q124
                      refine va_iald (D := D) hx hb hK hP 14 0 wMg14 rfl (inB_in g133) dX8_readLog_133 ?_
                      refine lv_iload hx hb dX8_readLog_134 (lv_at hl 4 rfl) ?_
                      refine lv_icmp_le (tgt := 149) hx hb dX8_readLog_136 (by decide) (fun c136 => ?_) (fun c136 => ?_)
                      · replace q124 := ifp q124 c136
                        refine lv_iload hx hb dX8_readLog_149 (lv_at hl 3 rfl) ?_
                        exact J124 _ q124 _ _ _ hP hD hS (lv_sub hl [0, 1, 2, 3, 4, 5, 6, 7, 8] rfl)
                      · replace q124 := ifn q124 c136
                        refine lv_aload_n hx hb dX8_readLog_139 rfl (lv_at hl 7 rfl) ?_
                        refine va_get (D := D) (ci := 8) (fs := vX8 ad F27l) (v := .ref (ad 16)) (C := RX8) (T := TX8) (N := 46) hx hb hts n_8 hown hK hP 0 wMg0 rfl 36 (by decide) k_8 (fun _ h9 => h9) rfl dX8_readLog_140 ?_
                        refine lv_iload hx hb dX8_readLog_143 (lv_at hl 2 rfl) ?_
                        obtain ⟨g145, q124⟩ := og q124
                        refine va_iald (D := D) hx hb hK hP 16 0 wMg16 rfl (inB_in g145) dX8_readLog_145 ?_
                        refine lv_goto (tgt := 151) hx hb dX8_readLog_146 (by decide) ?_
                        exact J124 _ q124 _ _ _ hP hD hS (lv_sub hl [0, 1, 2, 3, 4, 5, 6, 7, 8] rfl)
                  refine lv_icmp_ge (tgt := 118) hx hb dX8_readLog_105 (by decide) (fun c105 => ?_) (fun c105 => ?_)
                  · replace q105 := ifp q105 c105
                    refine lv_iload hx hb dX8_readLog_118 (lv_at hl 3 rfl) ?_
                    exact J105 _ q105 _ _ _ hP hD hS (lv_sub hl [0, 1, 2, 3, 4, 5, 6, 7, 8] rfl)
                  · replace q105 := ifn q105 c105
                    refine lv_aload_n hx hb dX8_readLog_108 rfl (lv_at hl 7 rfl) ?_
                    refine va_get (D := D) (ci := 8) (fs := vX8 ad F27l) (v := .ref (ad 16)) (C := RX8) (T := TX8) (N := 46) hx hb hts n_8 hown hK hP 0 wMg0 rfl 36 (by decide) k_8 (fun _ h9 => h9) rfl dX8_readLog_109 ?_
                    refine lv_iload hx hb dX8_readLog_112 (lv_at hl 1 rfl) ?_
                    obtain ⟨g114, q105⟩ := og q105
                    refine va_iald (D := D) hx hb hK hP 16 0 wMg16 rfl (inB_in g114) dX8_readLog_114 ?_
                    refine lv_goto (tgt := 120) hx hb dX8_readLog_115 (by decide) ?_
                    exact J105 _ q105 _ _ _ hP hD hS (lv_sub hl [0, 1, 2, 3, 4, 5, 6, 7, 8] rfl)
                refine lv_icmp_ne (tgt := 92) hx hb dX8_readLog_79 (by decide) (fun c79 => ?_) (fun c79 => ?_)
                · replace q79 := ifn q79 c79
                  refine lv_iload hx hb dX8_readLog_92 (lv_at hl 3 rfl) ?_
                  exact J79 _ q79 _ _ _ hP hD hS (lv_sub hl [0, 1, 2, 3, 4, 5, 6, 7, 8] rfl)
                · replace q79 := ifp q79 c79
                  refine lv_aload_n hx hb dX8_readLog_82 rfl (lv_at hl 7 rfl) ?_
                  refine va_get (D := D) (ci := 8) (fs := vX8 ad F27l) (v := .ref (ad 16)) (C := RX8) (T := TX8) (N := 46) hx hb hts n_8 hown hK hP 0 wMg0 rfl 36 (by decide) k_8 (fun _ h9 => h9) rfl dX8_readLog_83 ?_
                  refine lv_iload hx hb dX8_readLog_86 (lv_at hl 0 rfl) ?_
                  obtain ⟨g88, q79⟩ := og q79
                  refine va_iald (D := D) hx hb hK hP 16 0 wMg16 rfl (inB_in g88) dX8_readLog_88 ?_
                  refine lv_goto (tgt := 94) hx hb dX8_readLog_89 (by decide) ?_
                  exact J79 _ q79 _ _ _ hP hD hS (lv_sub hl [0, 1, 2, 3, 4, 5, 6, 7, 8] rfl)
        exact LL50 n 0 (-6) (-6) (-6) _ _ _ h hP hD hS (lv_sub hl [0, 1, 2, 3, 4, 5, 6, 7, 8] rfl)
  exact LL27 n 0 0 0 F17 _ _ _ h hP hD hS (lv_sub hl [0, 1, 2, 3, 4] rfl)

def p_X8_log_L57 (F11 : tF) (G11 : tG) (a1 : Int32) (K57 : Int32 → Int32 → Option (Int32 × tF × tG)) : Nat → Int32 → Int32 → Option (Int32 × tF × tG)
  | 0, _, _ => none
  | k57 + 1, z57_0, z57_1 => (if (F11 20) ≤ z57_0 then K57 z57_0 z57_1 else oguard (inB z57_0 40) (bi1 ((if (G11 14 z57_0.toNatClampNeg) = a1 then some (1) else some (0))) (fun (y75_0 : Int32) => plet (z57_1 + y75_0) (fun (x84 : Int32) => plet (z57_0 + 1) (fun (x85 : Int32) => p_X8_log_L57 F11 G11 a1 K57 k57 x85 x84)))))
theorem p_X8_log_L57_k {F11 : tF} {G11 : tG} {a1 : Int32} {K0 : Int32 → Int32 → Option (Int32 × tF × tG)} {k : Nat} {z57_0 : Int32} {z57_1 : Int32} {x : Int32 × tF × tG} (h : p_X8_log_L57 F11 G11 a1 K0 k z57_0 z57_1 = some x) : ∃ K, K = K0 ∧ p_X8_log_L57 F11 G11 a1 K k z57_0 z57_1 = some x := ⟨K0, rfl, h⟩
def p_X8_log (n : Nat) (F : tF) (G : tG) (a1 : Int32) (a2 : Int32) : Option (Int32 × tF × tG) :=
  bi1 (p_X8_isMan a1) (fun x1 => (if x1 = 0 then some ((-1), F, G) else bi2 (p_X8_readLog n F G a1) (fun F11 G11 => (if a2 = 0 then p_X8_log_L57 F11 G11 a1 (fun (z57_0 : Int32) (z57_1 : Int32) => some (z57_1, F11, G11)) n 0 0 else (if a2 = 1 then some ((F11 25), F11, G11) else (if a2 = 2 then some ((F11 26), F11, G11) else (if a2 = 3 then bi1 ((if (F11 25) ≤ (F11 12) then (if (F11 26) ≤ (F11 12) then some (0) else some (1)) else some (2))) (fun (y111_0 : Int32) => some (y111_0, F11, G11)) else (if a2 = 4 then some ((F11 23), F11, G11) else (if a2 = 5 then some ((F11 24), F11, G11) else some ((-2), F11, G11))))))))))
set_option maxHeartbeats 4000000 in
set_option maxRecDepth 100000 in
theorem c_X8_log (l : Launch) (D : va_G) (ad : Nat → Nat) (cA : ClassId) (n : Nat) (F : tF) (G : tG) (a1 : Int32) (a2 : Int32) {r : Int32} {F' : tF} {G' : tG} (h : p_X8_log n F G a1 a2 = some (r, F', G')) : CI l yX8_log wsX8_log ({ frames := 2, cells := 0, slots := 0, locals := 42 } : Room) D cA (wM ad cA F G) [.ref (ad 0), .int (a1), .int (a2)] r (wM ad cA F' G') := by
  rw [p_X8_log] at h
  refine metIm (w := wM ad cA) (cc := cX8_log) (maxL := 5) (by decide) rfl (Nat.le_of_ble_eq_true rfl) ?_
  intro p e s m args below meth c A ls Q hE hret
  obtain ⟨hx, hb, hts, hown, hml, hP, hK, hD, hN, hA, hl⟩ := hE
  have hown : s.vm.findClass RX8 = some m.cls := hown
  have hl : lv_has ls 5 [(0, .ref (ad 0)), (1, .int (a1)), (2, .int (a2))] := hl
  have hS : va_S A s.heap s.heap [] := va_S.rf
  have k_0 : (Cond.fieldLink RX8 221 "BellBookModel" "entries" "I").before args s = true := hts _ (List.mem_of_getElem? (i := 1) rfl)
  have n_8 : ∀ w ∈ u_ws RX8 TX8 46, w ∈ wsX8_log := fun w hw => List.mem_cons_of_mem _ (List.mem_append_right _ hw)
  have k_2 : (Cond.fieldLink RX8 74 "BellBookModel" "entryMan" "[I").before args s = true := hts _ (List.mem_of_getElem? (i := 2) rfl)
  have k_3 : (Cond.fieldLink RX8 230 "BellBookModel" "longestSure" "I").before args s = true := hts _ (List.mem_of_getElem? (i := 3) rfl)
  have k_4 : (Cond.fieldLink RX8 233 "BellBookModel" "longestMaybe" "I").before args s = true := hts _ (List.mem_of_getElem? (i := 4) rfl)
  have k_5 : (Cond.fieldLink RX8 25 "BellBookModel" "stay" "I").before args s = true := hts _ (List.mem_of_getElem? (i := 5) rfl)
  have k_6 : (Cond.fieldLink RX8 224 "BellBookModel" "sureMinutes" "I").before args s = true := hts _ (List.mem_of_getElem? (i := 6) rfl)
  have k_7 : (Cond.fieldLink RX8 227 "BellBookModel" "darkMinutes" "I").before args s = true := hts _ (List.mem_of_getElem? (i := 7) rfl)
  refine lv_iload_n hx hb dX8_log_0 rfl (lv_at hl 1 rfl) ?_
  obtain ⟨x1, h1, h⟩ := bi1e h
  refine callSI (As := [.int (a1)]) (rest := []) ⟨hx, hb, hml, hown, hts⟩ (c_X8_isMan l D ad cA n F G a1 h1) (va_cwS 1 hts gX8_log_X8_isMan rfl rfl rfl (by decide +kernel) ⟨Nat.le_of_ble_eq_true rfl, Nat.le_of_ble_eq_true rfl⟩) hP hK hD hN hS hA rfl hl.1 rfl (Nat.le_of_ble_eq_true rfl) dX8_log_1 ⟨Nat.zero_le _, Nat.zero_le _⟩ (fun H locs hP hD hS => ?_)
  refine lv_if_ne (tgt := 9) hx hb dX8_log_4 (by decide) (fun c4 => ?_) (fun c4 => ?_)
  · replace h := ifn h c4
    refine lv_aload_n hx hb dX8_log_9 rfl (lv_at hl 0 rfl) ?_
    refine lv_iload_n hx hb dX8_log_10 rfl (lv_at hl 1 rfl) ?_
    obtain ⟨F11, G11, h11, h⟩ := bi2e h
    refine callVV (b := ad 0) (As := [.int (a1)]) (rest := []) ⟨hx, hb, hml, hown, hts⟩ (c_X8_readLog l D ad cA n F G a1 h11) (cwV 1 hts gX8_log_X8_readLog rfl rfl rfl (by decide +kernel) ⟨Nat.le_of_ble_eq_true rfl, Nat.le_of_ble_eq_true rfl⟩) (va_recv hK hP (ci := 8) (q0 := 0) rfl wMg0) hP hK hD hN hS hA rfl hl.1 rfl (Nat.le_of_ble_eq_true rfl) dX8_log_11 ⟨Nat.zero_le _, Nat.zero_le _⟩ (fun H locs hP hD hS => ?_)
    refine lv_iload_n hx hb dX8_log_14 rfl (lv_at hl 2 rfl) ?_
    by_cases c15_0 : a2 = 0
    · replace h := ifp h c15_0
      refine lv_tableIn (off := 37) (tgt := 52) hx hb dX8_log_15 (by rw [c15_0]; decide) (by rw [c15_0]; decide) (by rw [c15_0]; decide) (by decide) ?_
      refine lv_iconst (v := 0) hx hb dX8_log_52 (by decide) ?_
      refine lv_istore_n (lv' := [(3, .int (0)), (0, .ref (ad 0)), (1, .int (a1)), (2, .int (a2))]) hx hb dX8_log_53 rfl hl (by decide) rfl (fun ls hl => ?_)
      refine lv_iconst (v := 0) hx hb dX8_log_54 (by decide) ?_
      refine lv_istore (lv' := [(4, .int (0)), (3, .int (0)), (0, .ref (ad 0)), (1, .int (a1)), (2, .int (a2))]) hx hb dX8_log_55 hl (by decide) rfl (fun ls hl => ?_)
      obtain ⟨K57, eK57, h⟩ := p_X8_log_L57_k h
      have JE57 : ∀ (z57_0 : Int32) (z57_1 : Int32) (H : Heap) (locs : List Loc) (ls : Array Slot), K57 z57_0 z57_1 = some (r, F', G') → va_P D vwCl (wM ad cA F11 G11) H → va_D A (wM ad cA F11 G11) → va_S A s.heap H locs → lv_has ls 5 [(4, .int (z57_0)), (3, .int (z57_1)), (0, .ref (ad 0)), (1, .int (a1)), (2, .int (a2))] → W p l e ({ frames := 2, cells := 0, slots := 0, locals := 42 } : Room) s m args below meth c H locs 0 0 Q (F0 m 91 ls []) := by
        intro z57_0 z57_1 H locs ls h hP hD hS hl
        rw [eK57] at h
        refine lv_iload_n hx hb dX8_log_91 rfl (lv_at hl 1 rfl) ?_
        exact hret _ _ _ _ _ _ _ dX8_log_92 h hP hD hS
      have LL57 : ∀ (k : Nat) (z57_0 : Int32) (z57_1 : Int32) (H : Heap) (locs : List Loc) (ls : Array Slot), p_X8_log_L57 F11 G11 a1 K57 k z57_0 z57_1 = some (r, F', G') → va_P D vwCl (wM ad cA F11 G11) H → va_D A (wM ad cA F11 G11) → va_S A s.heap H locs → lv_has ls 5 [(4, .int (z57_0)), (3, .int (z57_1)), (0, .ref (ad 0)), (1, .int (a1)), (2, .int (a2))] → W p l e ({ frames := 2, cells := 0, slots := 0, locals := 42 } : Room) s m args below meth c H locs 0 0 Q (F0 m 57 ls []) := by
        intro k
        induction k with
        | zero =>
          intro z57_0 z57_1 H locs ls h hP hD hS hl
          rw [p_X8_log_L57] at h
          cases h
        | succ k57 ih57 =>
          intro z57_0 z57_1 H locs ls h hP hD hS hl
          rw [p_X8_log_L57] at h
          refine lv_iload hx hb dX8_log_57 (lv_at hl 0 rfl) ?_
          refine lv_aload_n hx hb dX8_log_59 rfl (lv_at hl 2 rfl) ?_
          refine va_get (D := D) (ci := 8) (fs := vX8 ad F11) (v := .int ((F11 20))) (C := RX8) (T := TX8) (N := 46) hx hb hts n_8 hown hK hP 0 wMg0 rfl 33 (by decide) k_0 (fun _ h9 => h9) rfl dX8_log_60 ?_
          refine lv_icmp_ge (tgt := 91) hx hb dX8_log_63 (by decide) (fun c63 => ?_) (fun c63 => ?_)
          · replace h := ifp h c63
            exact JE57 _ _ _ _ _ h hP hD hS (lv_sub hl [0, 1, 2, 3, 4] rfl)
          · replace h := ifn h c63
            refine lv_iload_n hx hb dX8_log_66 rfl (lv_at hl 1 rfl) ?_
            refine lv_aload_n hx hb dX8_log_67 rfl (lv_at hl 2 rfl) ?_
            refine va_get (D := D) (ci := 8) (fs := vX8 ad F11) (v := .ref (ad 15)) (C := RX8) (T := TX8) (N := 46) hx hb hts n_8 hown hK hP 0 wMg0 rfl 35 (by decide) k_2 (fun _ h9 => h9) rfl dX8_log_68 ?_
            refine lv_iload hx hb dX8_log_71 (lv_at hl 0 rfl) ?_
            obtain ⟨g73, h⟩ := og h
            refine va_iald (D := D) hx hb hK hP 15 0 wMg15 rfl (inB_in g73) dX8_log_73 ?_
            refine lv_iload_n hx hb dX8_log_74 rfl (lv_at hl 3 rfl) ?_
            obtain ⟨y75_0, q75, h⟩ := bi1e h
            have J75 : ∀ (wy75_0 : Int32), some (wy75_0) = some (y75_0) → ∀ (H : Heap) (locs : List Loc) (ls : Array Slot), va_P D vwCl (wM ad cA F11 G11) H → va_D A (wM ad cA F11 G11) → va_S A s.heap H locs → lv_has ls 5 [(4, .int (z57_0)), (3, .int (z57_1)), (0, .ref (ad 0)), (1, .int (a1)), (2, .int (a2))] → W p l e ({ frames := 2, cells := 0, slots := 0, locals := 42 } : Room) s m args below meth c H locs 0 0 Q (F0 m 83 ls [.int (wy75_0), .int (z57_1)]) := by
              intro wy75_0 e9 H locs ls hP hD hS hl
              cases e9
              refine lv_iadd hx hb dX8_log_83 ?_
              refine lv_topi (fun x84 ex84 => ?_)
              replace h := pl h ex84
              refine lv_istore_n (lv' := [(3, .int (x84)), (4, .int (z57_0)), (0, .ref (ad 0)), (1, .int (a1)), (2, .int (a2))]) hx hb dX8_log_84 rfl hl (by decide) rfl (fun ls hl => ?_)
              obtain ⟨x85, ex85⟩ : ∃ z : Int32, z = (z57_0 + 1) := ⟨_, rfl⟩
              replace h := pl h ex85
              refine lv_iinc (v := x85) (lv' := [(4, .int (x85)), (3, .int (x84)), (0, .ref (ad 0)), (1, .int (a1)), (2, .int (a2))]) hx hb dX8_log_85 hl (k := 1) rfl (by rw [ex85]; rfl) (by decide) rfl (fun ls hl => ?_)
              refine lv_goto (tgt := 57) hx hb dX8_log_88 (by decide) ?_
              exact ih57 _ _ _ _ _ h hP hD hS (lv_sub hl [0, 1, 2, 3, 4] rfl)
            refine lv_icmp_ne (tgt := 82) hx hb dX8_log_75 (by decide) (fun c75 => ?_) (fun c75 => ?_)
            · replace q75 := ifn q75 c75
              refine lv_iconst (v := 0) hx hb dX8_log_82 (by decide) ?_
              exact J75 _ q75 _ _ _ hP hD hS (lv_sub hl [0, 1, 2, 3, 4] rfl)
            · replace q75 := ifp q75 c75
              refine lv_iconst (v := 1) hx hb dX8_log_78 (by decide) ?_
              refine lv_goto (tgt := 83) hx hb dX8_log_79 (by decide) ?_
              exact J75 _ q75 _ _ _ hP hD hS (lv_sub hl [0, 1, 2, 3, 4] rfl)
      exact LL57 n 0 0 _ _ _ h hP hD hS (lv_sub hl [0, 1, 2, 3, 4] rfl)
    replace h := ifn h c15_0
    by_cases c15_1 : a2 = 1
    · replace h := ifp h c15_1
      refine lv_tableIn (off := 78) (tgt := 93) hx hb dX8_log_15 (by rw [c15_1]; decide) (by rw [c15_1]; decide) (by rw [c15_1]; decide) (by decide) ?_
      refine lv_aload_n hx hb dX8_log_93 rfl (lv_at hl 0 rfl) ?_
      refine va_get (D := D) (ci := 8) (fs := vX8 ad F11) (v := .int ((F11 25))) (C := RX8) (T := TX8) (N := 46) hx hb hts n_8 hown hK hP 0 wMg0 rfl 44 (by decide) k_3 (fun _ h9 => h9) rfl dX8_log_94 ?_
      exact hret _ _ _ _ _ _ _ dX8_log_97 h hP hD hS
    replace h := ifn h c15_1
    by_cases c15_2 : a2 = 2
    · replace h := ifp h c15_2
      refine lv_tableIn (off := 83) (tgt := 98) hx hb dX8_log_15 (by rw [c15_2]; decide) (by rw [c15_2]; decide) (by rw [c15_2]; decide) (by decide) ?_
      refine lv_aload_n hx hb dX8_log_98 rfl (lv_at hl 0 rfl) ?_
      refine va_get (D := D) (ci := 8) (fs := vX8 ad F11) (v := .int ((F11 26))) (C := RX8) (T := TX8) (N := 46) hx hb hts n_8 hown hK hP 0 wMg0 rfl 45 (by decide) k_4 (fun _ h9 => h9) rfl dX8_log_99 ?_
      exact hret _ _ _ _ _ _ _ dX8_log_102 h hP hD hS
    replace h := ifn h c15_2
    by_cases c15_3 : a2 = 3
    · replace h := ifp h c15_3
      refine lv_tableIn (off := 88) (tgt := 103) hx hb dX8_log_15 (by rw [c15_3]; decide) (by rw [c15_3]; decide) (by rw [c15_3]; decide) (by decide) ?_
      refine lv_aload_n hx hb dX8_log_103 rfl (lv_at hl 0 rfl) ?_
      refine va_get (D := D) (ci := 8) (fs := vX8 ad F11) (v := .int ((F11 25))) (C := RX8) (T := TX8) (N := 46) hx hb hts n_8 hown hK hP 0 wMg0 rfl 44 (by decide) k_3 (fun _ h9 => h9) rfl dX8_log_104 ?_
      refine lv_aload_n hx hb dX8_log_107 rfl (lv_at hl 0 rfl) ?_
      refine va_get (D := D) (ci := 8) (fs := vX8 ad F11) (v := .int ((F11 12))) (C := RX8) (T := TX8) (N := 46) hx hb hts n_8 hown hK hP 0 wMg0 rfl 12 (by decide) k_5 (fun _ h9 => h9) rfl dX8_log_108 ?_
      obtain ⟨y111_0, q111, h⟩ := bi1e h
      have J111 : ∀ (wy111_0 : Int32), some (wy111_0) = some (y111_0) → ∀ (H : Heap) (locs : List Loc) (ls : Array Slot), va_P D vwCl (wM ad cA F11 G11) H → va_D A (wM ad cA F11 G11) → va_S A s.heap H locs → lv_has ls 5 [(0, .ref (ad 0)), (1, .int (a1)), (2, .int (a2))] → W p l e ({ frames := 2, cells := 0, slots := 0, locals := 42 } : Room) s m args below meth c H locs 0 0 Q (F0 m 134 ls [.int (wy111_0)]) := by
        intro wy111_0 e9 H locs ls hP hD hS hl
        cases e9
        exact hret _ _ _ _ _ _ _ dX8_log_134 h hP hD hS
      refine lv_icmp_le (tgt := 118) hx hb dX8_log_111 (by decide) (fun c111 => ?_) (fun c111 => ?_)
      · replace q111 := ifp q111 c111
        refine lv_aload_n hx hb dX8_log_118 rfl (lv_at hl 0 rfl) ?_
        refine va_get (D := D) (ci := 8) (fs := vX8 ad F11) (v := .int ((F11 26))) (C := RX8) (T := TX8) (N := 46) hx hb hts n_8 hown hK hP 0 wMg0 rfl 45 (by decide) k_4 (fun _ h9 => h9) rfl dX8_log_119 ?_
        refine lv_aload_n hx hb dX8_log_122 rfl (lv_at hl 0 rfl) ?_
        refine va_get (D := D) (ci := 8) (fs := vX8 ad F11) (v := .int ((F11 12))) (C := RX8) (T := TX8) (N := 46) hx hb hts n_8 hown hK hP 0 wMg0 rfl 12 (by decide) k_5 (fun _ h9 => h9) rfl dX8_log_123 ?_
        refine lv_icmp_le (tgt := 133) hx hb dX8_log_126 (by decide) (fun c126 => ?_) (fun c126 => ?_)
        · replace q111 := ifp q111 c126
          refine lv_iconst (v := 0) hx hb dX8_log_133 (by decide) ?_
          exact J111 _ q111 _ _ _ hP hD hS (lv_sub hl [0, 1, 2] rfl)
        · replace q111 := ifn q111 c126
          refine lv_iconst (v := 1) hx hb dX8_log_129 (by decide) ?_
          refine lv_goto (tgt := 134) hx hb dX8_log_130 (by decide) ?_
          exact J111 _ q111 _ _ _ hP hD hS (lv_sub hl [0, 1, 2] rfl)
      · replace q111 := ifn q111 c111
        refine lv_iconst (v := 2) hx hb dX8_log_114 (by decide) ?_
        refine lv_goto (tgt := 134) hx hb dX8_log_115 (by decide) ?_
        exact J111 _ q111 _ _ _ hP hD hS (lv_sub hl [0, 1, 2] rfl)
    replace h := ifn h c15_3
    by_cases c15_4 : a2 = 4
    · replace h := ifp h c15_4
      refine lv_tableIn (off := 120) (tgt := 135) hx hb dX8_log_15 (by rw [c15_4]; decide) (by rw [c15_4]; decide) (by rw [c15_4]; decide) (by decide) ?_
      refine lv_aload_n hx hb dX8_log_135 rfl (lv_at hl 0 rfl) ?_
      refine va_get (D := D) (ci := 8) (fs := vX8 ad F11) (v := .int ((F11 23))) (C := RX8) (T := TX8) (N := 46) hx hb hts n_8 hown hK hP 0 wMg0 rfl 42 (by decide) k_6 (fun _ h9 => h9) rfl dX8_log_136 ?_
      exact hret _ _ _ _ _ _ _ dX8_log_139 h hP hD hS
    replace h := ifn h c15_4
    by_cases c15_5 : a2 = 5
    · replace h := ifp h c15_5
      refine lv_tableIn (off := 125) (tgt := 140) hx hb dX8_log_15 (by rw [c15_5]; decide) (by rw [c15_5]; decide) (by rw [c15_5]; decide) (by decide) ?_
      refine lv_aload_n hx hb dX8_log_140 rfl (lv_at hl 0 rfl) ?_
      refine va_get (D := D) (ci := 8) (fs := vX8 ad F11) (v := .int ((F11 24))) (C := RX8) (T := TX8) (N := 46) hx hb hts n_8 hown hK hP 0 wMg0 rfl 43 (by decide) k_7 (fun _ h9 => h9) rfl dX8_log_141 ?_
      exact hret _ _ _ _ _ _ _ dX8_log_144 h hP hD hS
    replace h := ifn h c15_5
    have ic15_0 : a2.toInt ≠ 0 := ne_toInt c15_0
    have ic15_1 : a2.toInt ≠ 1 := ne_toInt c15_1
    have ic15_2 : a2.toInt ≠ 2 := ne_toInt c15_2
    have ic15_3 : a2.toInt ≠ 3 := ne_toInt c15_3
    have ic15_4 : a2.toInt ≠ 4 := ne_toInt c15_4
    have ic15_5 : a2.toInt ≠ 5 := ne_toInt c15_5
    refine lv_tableOut (tgt := 145) hx hb dX8_log_15 (by omega) (by decide) ?_
    refine lv_bipush (v := (-2)) hx hb dX8_log_145 (by decide) ?_
    exact hret _ _ _ _ _ _ _ dX8_log_147 h hP hD hS
  · replace h := ifp h c4
    refine lv_iconst (v := (-1)) hx hb dX8_log_7 (by decide) ?_
    exact hret _ _ _ _ _ _ _ dX8_log_8 h hP hD hS
