set_option maxHeartbeats 4000000 in
set_option maxRecDepth 100000 in
theorem law_under {p : Program} {l : Launch} {e : Env} {s : State} {m : MethodId} {below : List Frame} {meth : Method} {c : Code} {D : va_G} {b L : Nat} {xs : Nat → Int32} {cA : ClassId} {ad bd : Nat → Nat} {n0 : Nat} {R : tF → tG → tF → tG → Prop} (C0 : lw_At p s m meth c b L xs) (hN : NwC s) (hK : va_K D vwCl [(cA, .int)] s) (s_under : simT_under n0 R) {x3 : Int32} (v1 : vp_in (x3 + 1) L) (v2 : vp_in (x3 + 2) L) (v3 : vp_in (x3 + 3) L) (v4 : vp_in (x3 + 4) L)
    (JT : ∀ (F : tF) (G : tG) (F2 : tF) (G2 : tG), R F G F2 G2 → ∀ (H : Heap) (locs : List Loc) (ls : Array Slot), va_P D vwCl (wC ad cA F G ++ wM bd cA F2 G2) H → va_D (fun q : Nat => s.heap.size ≤ q) (wC ad cA F G ++ wM bd cA F2 G2) → va_S (fun q : Nat => s.heap.size ≤ q) s.heap H locs → lv_has ls 4 [(0, .ref b), (1, .ref (ad 0)), (2, .ref (bd 0)), (3, .int x3)] → W p l e room_1 s m #[Value.ref b] below meth c H locs 51 8872 (lw_Z below #[Value.ref b] s) (F0 m 1147 ls [])) :
    ∀ (F : tF) (G : tG) (F2 : tF) (G2 : tG), R F G F2 G2 → ∀ (H : Heap) (locs : List Loc) (ls : Array Slot), va_P D vwCl (wC ad cA F G ++ wM bd cA F2 G2) H → va_D (fun q : Nat => s.heap.size ≤ q) (wC ad cA F G ++ wM bd cA F2 G2) → va_S (fun q : Nat => s.heap.size ≤ q) s.heap H locs → lv_has ls 4 [(0, .ref b), (1, .ref (ad 0)), (2, .ref (bd 0)), (3, .int x3)] → W p l e room_1 s m #[Value.ref b] below meth c H locs 51 8872 (lw_Z below #[Value.ref b] s) (F0 m 634 ls []) := by
  intro F G F2 G2 hR H locs ls hP hD hS hl
  obtain ⟨hx, hb, hr, hml, hown, hts, hX, hbl, hlocks, hgv⟩ := C0
  have hts := fun w h => hts w (wsL_law_in w h)
  have hown : s.vm.findClass RL = some m.cls := hown
  have hA : ∀ q : Nat, s.heap.size ≤ q → (fun q : Nat => s.heap.size ≤ q) q := fun _ h => h
  have hbA : ¬ (fun q : Nat => s.heap.size ≤ q) b := Nat.not_le.mpr hbl
  obtain ⟨e1, ee1⟩ : ∃ z : Int32, z = xs (x3 + 1).toNatClampNeg := ⟨_, rfl⟩
  obtain ⟨e2, ee2⟩ : ∃ z : Int32, z = xs (x3 + 2).toNatClampNeg := ⟨_, rfl⟩
  obtain ⟨e3, ee3⟩ : ∃ z : Int32, z = xs (x3 + 3).toNatClampNeg := ⟨_, rfl⟩
  obtain ⟨e4, ee4⟩ : ∃ z : Int32, z = xs (x3 + 4).toNatClampNeg := ⟨_, rfl⟩
  refine lv_aload_n hx hb dL_law_634 rfl (lv_at hl 1 rfl) ?_
  refine lv_aload_n hx hb dL_law_635 rfl (lv_at hl 0 rfl) ?_
  refine lv_iload_n hx hb dL_law_636 rfl (lv_at hl 3 rfl) ?_
  refine lv_iconst (v := 1) hx hb dL_law_637 (by decide) ?_
  refine lv_iadd hx hb dL_law_638 ?_
  refine va_sld hx hb hX hbl hbA hS v1 dL_law_639 ?_
  rw [← ee1]
  refine lv_aload_n hx hb dL_law_640 rfl (lv_at hl 0 rfl) ?_
  refine lv_iload_n hx hb dL_law_641 rfl (lv_at hl 3 rfl) ?_
  refine lv_iconst (v := 2) hx hb dL_law_642 (by decide) ?_
  refine lv_iadd hx hb dL_law_643 ?_
  refine va_sld hx hb hX hbl hbA hS v2 dL_law_644 ?_
  rw [← ee2]
  refine lv_aload_n hx hb dL_law_645 rfl (lv_at hl 0 rfl) ?_
  refine lv_iload_n hx hb dL_law_646 rfl (lv_at hl 3 rfl) ?_
  refine lv_iconst (v := 3) hx hb dL_law_647 (by decide) ?_
  refine lv_iadd hx hb dL_law_648 ?_
  refine va_sld hx hb hX hbl hbA hS v3 dL_law_649 ?_
  rw [← ee3]
  refine lv_if_eq (tgt := 657) hx hb dL_law_650 (by decide) (fun cb => ?_) (fun cb => ?_)
  · refine lv_iconst (v := 0) hx hb dL_law_657 (by decide) ?_
    obtain ⟨r, F', G', F2', G2', p7, p8, hR'⟩ := s_under F G F2 G2 e1 e2 0 hR
    refine lawX (ad := ad) (bd := bd) (F := F) (G := G) (F' := F') (G' := G') (As := [.int e1, .int e2, .int 0]) (rest := []) ⟨hx, hb, hml, hown, hts⟩ (c_X7_under l D ad cA n0 F G e1 e2 0 p7) (cwV 3 hts gL_law_X7_under rfl rfl rfl (by decide +kernel) ⟨Nat.le_of_ble_eq_true rfl, Nat.le_of_ble_eq_true rfl⟩) hP hK hD hN hS hA rfl hl.1 rfl (Nat.le_of_ble_eq_true rfl) dL_law_658 (fun H locs hP hD hS => ?_)
    refine lv_aload_n hx hb dL_law_661 rfl (lv_at hl 2 rfl) ?_
    refine lv_aload_n hx hb dL_law_662 rfl (lv_at hl 0 rfl) ?_
    refine lv_iload_n hx hb dL_law_663 rfl (lv_at hl 3 rfl) ?_
    refine lv_iconst (v := 1) hx hb dL_law_664 (by decide) ?_
    refine lv_iadd hx hb dL_law_665 ?_
    refine va_sld hx hb hX hbl hbA hS v1 dL_law_666 ?_
    rw [← ee1]
    refine lv_aload_n hx hb dL_law_667 rfl (lv_at hl 0 rfl) ?_
    refine lv_iload_n hx hb dL_law_668 rfl (lv_at hl 3 rfl) ?_
    refine lv_iconst (v := 2) hx hb dL_law_669 (by decide) ?_
    refine lv_iadd hx hb dL_law_670 ?_
    refine va_sld hx hb hX hbl hbA hS v2 dL_law_671 ?_
    rw [← ee2]
    refine lv_aload_n hx hb dL_law_672 rfl (lv_at hl 0 rfl) ?_
    refine lv_iload_n hx hb dL_law_673 rfl (lv_at hl 3 rfl) ?_
    refine lv_iconst (v := 3) hx hb dL_law_674 (by decide) ?_
    refine lv_iadd hx hb dL_law_675 ?_
    refine va_sld hx hb hX hbl hbA hS v3 dL_law_676 ?_
    rw [← ee3]
    refine lv_if_eq (tgt := 684) hx hb dL_law_677 (by decide) (fun _ => ?_) (fun c9 => absurd cb c9)
    refine lv_iconst (v := 0) hx hb dL_law_684 (by decide) ?_
    refine lawM (ad := ad) (bd := bd) (F := F2) (G := G2) (F' := F2') (G' := G2') (As := [.int e1, .int e2, .int 0]) (rest := [.int r]) ⟨hx, hb, hml, hown, hts⟩ (c_X8_under l D bd cA n0 F2 G2 e1 e2 0 p8) (cwV 3 hts gL_law_X8_under rfl rfl rfl (by decide +kernel) ⟨Nat.le_of_ble_eq_true rfl, Nat.le_of_ble_eq_true rfl⟩) hP hK hD hN hS hA rfl hl.1 rfl (Nat.le_of_ble_eq_true rfl) dL_law_685 (fun H locs hP hD hS => ?_)
    refine lv_icmp_eq (tgt := 1147) hx hb dL_law_688 (by decide) (fun _ => ?_) (fun c9 => absurd rfl c9)
    exact JT _ _ _ _ hR' _ _ ls hP hD hS hl
  · refine lv_iconst (v := 1) hx hb dL_law_653 (by decide) ?_
    refine lv_goto (tgt := 658) hx hb dL_law_654 (by decide) ?_
    obtain ⟨r, F', G', F2', G2', p7, p8, hR'⟩ := s_under F G F2 G2 e1 e2 1 hR
    refine lawX (ad := ad) (bd := bd) (F := F) (G := G) (F' := F') (G' := G') (As := [.int e1, .int e2, .int 1]) (rest := []) ⟨hx, hb, hml, hown, hts⟩ (c_X7_under l D ad cA n0 F G e1 e2 1 p7) (cwV 3 hts gL_law_X7_under rfl rfl rfl (by decide +kernel) ⟨Nat.le_of_ble_eq_true rfl, Nat.le_of_ble_eq_true rfl⟩) hP hK hD hN hS hA rfl hl.1 rfl (Nat.le_of_ble_eq_true rfl) dL_law_658 (fun H locs hP hD hS => ?_)
    refine lv_aload_n hx hb dL_law_661 rfl (lv_at hl 2 rfl) ?_
    refine lv_aload_n hx hb dL_law_662 rfl (lv_at hl 0 rfl) ?_
    refine lv_iload_n hx hb dL_law_663 rfl (lv_at hl 3 rfl) ?_
    refine lv_iconst (v := 1) hx hb dL_law_664 (by decide) ?_
    refine lv_iadd hx hb dL_law_665 ?_
    refine va_sld hx hb hX hbl hbA hS v1 dL_law_666 ?_
    rw [← ee1]
    refine lv_aload_n hx hb dL_law_667 rfl (lv_at hl 0 rfl) ?_
    refine lv_iload_n hx hb dL_law_668 rfl (lv_at hl 3 rfl) ?_
    refine lv_iconst (v := 2) hx hb dL_law_669 (by decide) ?_
    refine lv_iadd hx hb dL_law_670 ?_
    refine va_sld hx hb hX hbl hbA hS v2 dL_law_671 ?_
    rw [← ee2]
    refine lv_aload_n hx hb dL_law_672 rfl (lv_at hl 0 rfl) ?_
    refine lv_iload_n hx hb dL_law_673 rfl (lv_at hl 3 rfl) ?_
    refine lv_iconst (v := 3) hx hb dL_law_674 (by decide) ?_
    refine lv_iadd hx hb dL_law_675 ?_
    refine va_sld hx hb hX hbl hbA hS v3 dL_law_676 ?_
    rw [← ee3]
    refine lv_if_eq (tgt := 684) hx hb dL_law_677 (by decide) (fun c9 => absurd c9 cb) (fun _ => ?_)
    refine lv_iconst (v := 1) hx hb dL_law_680 (by decide) ?_
    refine lv_goto (tgt := 685) hx hb dL_law_681 (by decide) ?_
    refine lawM (ad := ad) (bd := bd) (F := F2) (G := G2) (F' := F2') (G' := G2') (As := [.int e1, .int e2, .int 1]) (rest := [.int r]) ⟨hx, hb, hml, hown, hts⟩ (c_X8_under l D bd cA n0 F2 G2 e1 e2 1 p8) (cwV 3 hts gL_law_X8_under rfl rfl rfl (by decide +kernel) ⟨Nat.le_of_ble_eq_true rfl, Nat.le_of_ble_eq_true rfl⟩) hP hK hD hN hS hA rfl hl.1 rfl (Nat.le_of_ble_eq_true rfl) dL_law_685 (fun H locs hP hD hS => ?_)
    refine lv_icmp_eq (tgt := 1147) hx hb dL_law_688 (by decide) (fun _ => ?_) (fun c9 => absurd rfl c9)
    exact JT _ _ _ _ hR' _ _ ls hP hD hS hl
set_option maxHeartbeats 4000000 in
set_option maxRecDepth 100000 in
theorem law_tangle {p : Program} {l : Launch} {e : Env} {s : State} {m : MethodId} {below : List Frame} {meth : Method} {c : Code} {D : va_G} {b L : Nat} {xs : Nat → Int32} {cA : ClassId} {ad bd : Nat → Nat} {n0 : Nat} {R : tF → tG → tF → tG → Prop} (C0 : lw_At p s m meth c b L xs) (hN : NwC s) (hK : va_K D vwCl [(cA, .int)] s) (s_tangle : simT_tangle n0 R) {x3 : Int32} (v1 : vp_in (x3 + 1) L) (v2 : vp_in (x3 + 2) L) (v3 : vp_in (x3 + 3) L) (v4 : vp_in (x3 + 4) L)
    (JT : ∀ (F : tF) (G : tG) (F2 : tF) (G2 : tG), R F G F2 G2 → ∀ (H : Heap) (locs : List Loc) (ls : Array Slot), va_P D vwCl (wC ad cA F G ++ wM bd cA F2 G2) H → va_D (fun q : Nat => s.heap.size ≤ q) (wC ad cA F G ++ wM bd cA F2 G2) → va_S (fun q : Nat => s.heap.size ≤ q) s.heap H locs → lv_has ls 4 [(0, .ref b), (1, .ref (ad 0)), (2, .ref (bd 0)), (3, .int x3)] → W p l e room_1 s m #[Value.ref b] below meth c H locs 51 8872 (lw_Z below #[Value.ref b] s) (F0 m 1147 ls [])) :
    ∀ (F : tF) (G : tG) (F2 : tF) (G2 : tG), R F G F2 G2 → ∀ (H : Heap) (locs : List Loc) (ls : Array Slot), va_P D vwCl (wC ad cA F G ++ wM bd cA F2 G2) H → va_D (fun q : Nat => s.heap.size ≤ q) (wC ad cA F G ++ wM bd cA F2 G2) → va_S (fun q : Nat => s.heap.size ≤ q) s.heap H locs → lv_has ls 4 [(0, .ref b), (1, .ref (ad 0)), (2, .ref (bd 0)), (3, .int x3)] → W p l e room_1 s m #[Value.ref b] below meth c H locs 51 8872 (lw_Z below #[Value.ref b] s) (F0 m 693 ls []) := by
  intro F G F2 G2 hR H locs ls hP hD hS hl
  obtain ⟨hx, hb, hr, hml, hown, hts, hX, hbl, hlocks, hgv⟩ := C0
  have hts := fun w h => hts w (wsL_law_in w h)
  have hown : s.vm.findClass RL = some m.cls := hown
  have hA : ∀ q : Nat, s.heap.size ≤ q → (fun q : Nat => s.heap.size ≤ q) q := fun _ h => h
  have hbA : ¬ (fun q : Nat => s.heap.size ≤ q) b := Nat.not_le.mpr hbl
  obtain ⟨e1, ee1⟩ : ∃ z : Int32, z = xs (x3 + 1).toNatClampNeg := ⟨_, rfl⟩
  obtain ⟨e2, ee2⟩ : ∃ z : Int32, z = xs (x3 + 2).toNatClampNeg := ⟨_, rfl⟩
  obtain ⟨e3, ee3⟩ : ∃ z : Int32, z = xs (x3 + 3).toNatClampNeg := ⟨_, rfl⟩
  obtain ⟨e4, ee4⟩ : ∃ z : Int32, z = xs (x3 + 4).toNatClampNeg := ⟨_, rfl⟩
  refine lv_aload_n hx hb dL_law_693 rfl (lv_at hl 1 rfl) ?_
  refine lv_aload_n hx hb dL_law_694 rfl (lv_at hl 0 rfl) ?_
  refine lv_iload_n hx hb dL_law_695 rfl (lv_at hl 3 rfl) ?_
  refine lv_iconst (v := 1) hx hb dL_law_696 (by decide) ?_
  refine lv_iadd hx hb dL_law_697 ?_
  refine va_sld hx hb hX hbl hbA hS v1 dL_law_698 ?_
  rw [← ee1]
  refine lv_aload_n hx hb dL_law_699 rfl (lv_at hl 0 rfl) ?_
  refine lv_iload_n hx hb dL_law_700 rfl (lv_at hl 3 rfl) ?_
  refine lv_iconst (v := 2) hx hb dL_law_701 (by decide) ?_
  refine lv_iadd hx hb dL_law_702 ?_
  refine va_sld hx hb hX hbl hbA hS v2 dL_law_703 ?_
  rw [← ee2]
  refine lv_if_eq (tgt := 711) hx hb dL_law_704 (by decide) (fun cb => ?_) (fun cb => ?_)
  · refine lv_iconst (v := 0) hx hb dL_law_711 (by decide) ?_
    obtain ⟨r, F', G', F2', G2', p7, p8, hR'⟩ := s_tangle F G F2 G2 e1 0 hR
    refine lawX (ad := ad) (bd := bd) (F := F) (G := G) (F' := F') (G' := G') (As := [.int e1, .int 0]) (rest := []) ⟨hx, hb, hml, hown, hts⟩ (c_X7_tangle l D ad cA n0 F G e1 0 p7) (cwV 2 hts gL_law_X7_tangle rfl rfl rfl (by decide +kernel) ⟨Nat.le_of_ble_eq_true rfl, Nat.le_of_ble_eq_true rfl⟩) hP hK hD hN hS hA rfl hl.1 rfl (Nat.le_of_ble_eq_true rfl) dL_law_712 (fun H locs hP hD hS => ?_)
    refine lv_aload_n hx hb dL_law_715 rfl (lv_at hl 2 rfl) ?_
    refine lv_aload_n hx hb dL_law_716 rfl (lv_at hl 0 rfl) ?_
    refine lv_iload_n hx hb dL_law_717 rfl (lv_at hl 3 rfl) ?_
    refine lv_iconst (v := 1) hx hb dL_law_718 (by decide) ?_
    refine lv_iadd hx hb dL_law_719 ?_
    refine va_sld hx hb hX hbl hbA hS v1 dL_law_720 ?_
    rw [← ee1]
    refine lv_aload_n hx hb dL_law_721 rfl (lv_at hl 0 rfl) ?_
    refine lv_iload_n hx hb dL_law_722 rfl (lv_at hl 3 rfl) ?_
    refine lv_iconst (v := 2) hx hb dL_law_723 (by decide) ?_
    refine lv_iadd hx hb dL_law_724 ?_
    refine va_sld hx hb hX hbl hbA hS v2 dL_law_725 ?_
    rw [← ee2]
    refine lv_if_eq (tgt := 733) hx hb dL_law_726 (by decide) (fun _ => ?_) (fun c9 => absurd cb c9)
    refine lv_iconst (v := 0) hx hb dL_law_733 (by decide) ?_
    refine lawM (ad := ad) (bd := bd) (F := F2) (G := G2) (F' := F2') (G' := G2') (As := [.int e1, .int 0]) (rest := [.int r]) ⟨hx, hb, hml, hown, hts⟩ (c_X8_tangle l D bd cA n0 F2 G2 e1 0 p8) (cwV 2 hts gL_law_X8_tangle rfl rfl rfl (by decide +kernel) ⟨Nat.le_of_ble_eq_true rfl, Nat.le_of_ble_eq_true rfl⟩) hP hK hD hN hS hA rfl hl.1 rfl (Nat.le_of_ble_eq_true rfl) dL_law_734 (fun H locs hP hD hS => ?_)
    refine lv_icmp_eq (tgt := 1147) hx hb dL_law_737 (by decide) (fun _ => ?_) (fun c9 => absurd rfl c9)
    exact JT _ _ _ _ hR' _ _ ls hP hD hS hl
  · refine lv_iconst (v := 1) hx hb dL_law_707 (by decide) ?_
    refine lv_goto (tgt := 712) hx hb dL_law_708 (by decide) ?_
    obtain ⟨r, F', G', F2', G2', p7, p8, hR'⟩ := s_tangle F G F2 G2 e1 1 hR
    refine lawX (ad := ad) (bd := bd) (F := F) (G := G) (F' := F') (G' := G') (As := [.int e1, .int 1]) (rest := []) ⟨hx, hb, hml, hown, hts⟩ (c_X7_tangle l D ad cA n0 F G e1 1 p7) (cwV 2 hts gL_law_X7_tangle rfl rfl rfl (by decide +kernel) ⟨Nat.le_of_ble_eq_true rfl, Nat.le_of_ble_eq_true rfl⟩) hP hK hD hN hS hA rfl hl.1 rfl (Nat.le_of_ble_eq_true rfl) dL_law_712 (fun H locs hP hD hS => ?_)
    refine lv_aload_n hx hb dL_law_715 rfl (lv_at hl 2 rfl) ?_
    refine lv_aload_n hx hb dL_law_716 rfl (lv_at hl 0 rfl) ?_
    refine lv_iload_n hx hb dL_law_717 rfl (lv_at hl 3 rfl) ?_
    refine lv_iconst (v := 1) hx hb dL_law_718 (by decide) ?_
    refine lv_iadd hx hb dL_law_719 ?_
    refine va_sld hx hb hX hbl hbA hS v1 dL_law_720 ?_
    rw [← ee1]
    refine lv_aload_n hx hb dL_law_721 rfl (lv_at hl 0 rfl) ?_
    refine lv_iload_n hx hb dL_law_722 rfl (lv_at hl 3 rfl) ?_
    refine lv_iconst (v := 2) hx hb dL_law_723 (by decide) ?_
    refine lv_iadd hx hb dL_law_724 ?_
    refine va_sld hx hb hX hbl hbA hS v2 dL_law_725 ?_
    rw [← ee2]
    refine lv_if_eq (tgt := 733) hx hb dL_law_726 (by decide) (fun c9 => absurd c9 cb) (fun _ => ?_)
    refine lv_iconst (v := 1) hx hb dL_law_729 (by decide) ?_
    refine lv_goto (tgt := 734) hx hb dL_law_730 (by decide) ?_
    refine lawM (ad := ad) (bd := bd) (F := F2) (G := G2) (F' := F2') (G' := G2') (As := [.int e1, .int 1]) (rest := [.int r]) ⟨hx, hb, hml, hown, hts⟩ (c_X8_tangle l D bd cA n0 F2 G2 e1 1 p8) (cwV 2 hts gL_law_X8_tangle rfl rfl rfl (by decide +kernel) ⟨Nat.le_of_ble_eq_true rfl, Nat.le_of_ble_eq_true rfl⟩) hP hK hD hN hS hA rfl hl.1 rfl (Nat.le_of_ble_eq_true rfl) dL_law_734 (fun H locs hP hD hS => ?_)
    refine lv_icmp_eq (tgt := 1147) hx hb dL_law_737 (by decide) (fun _ => ?_) (fun c9 => absurd rfl c9)
    exact JT _ _ _ _ hR' _ _ ls hP hD hS hl
set_option maxHeartbeats 4000000 in
set_option maxRecDepth 100000 in
theorem law_work {p : Program} {l : Launch} {e : Env} {s : State} {m : MethodId} {below : List Frame} {meth : Method} {c : Code} {D : va_G} {b L : Nat} {xs : Nat → Int32} {cA : ClassId} {ad bd : Nat → Nat} {n0 : Nat} {R : tF → tG → tF → tG → Prop} (C0 : lw_At p s m meth c b L xs) (hN : NwC s) (hK : va_K D vwCl [(cA, .int)] s) (s_work : simT_work n0 R) {x3 : Int32} (v1 : vp_in (x3 + 1) L) (v2 : vp_in (x3 + 2) L) (v3 : vp_in (x3 + 3) L) (v4 : vp_in (x3 + 4) L)
    (JT : ∀ (F : tF) (G : tG) (F2 : tF) (G2 : tG), R F G F2 G2 → ∀ (H : Heap) (locs : List Loc) (ls : Array Slot), va_P D vwCl (wC ad cA F G ++ wM bd cA F2 G2) H → va_D (fun q : Nat => s.heap.size ≤ q) (wC ad cA F G ++ wM bd cA F2 G2) → va_S (fun q : Nat => s.heap.size ≤ q) s.heap H locs → lv_has ls 4 [(0, .ref b), (1, .ref (ad 0)), (2, .ref (bd 0)), (3, .int x3)] → W p l e room_1 s m #[Value.ref b] below meth c H locs 51 8872 (lw_Z below #[Value.ref b] s) (F0 m 1147 ls [])) :
    ∀ (F : tF) (G : tG) (F2 : tF) (G2 : tG), R F G F2 G2 → ∀ (H : Heap) (locs : List Loc) (ls : Array Slot), va_P D vwCl (wC ad cA F G ++ wM bd cA F2 G2) H → va_D (fun q : Nat => s.heap.size ≤ q) (wC ad cA F G ++ wM bd cA F2 G2) → va_S (fun q : Nat => s.heap.size ≤ q) s.heap H locs → lv_has ls 4 [(0, .ref b), (1, .ref (ad 0)), (2, .ref (bd 0)), (3, .int x3)] → W p l e room_1 s m #[Value.ref b] below meth c H locs 51 8872 (lw_Z below #[Value.ref b] s) (F0 m 742 ls []) := by
  intro F G F2 G2 hR H locs ls hP hD hS hl
  obtain ⟨hx, hb, hr, hml, hown, hts, hX, hbl, hlocks, hgv⟩ := C0
  have hts := fun w h => hts w (wsL_law_in w h)
  have hown : s.vm.findClass RL = some m.cls := hown
  have hA : ∀ q : Nat, s.heap.size ≤ q → (fun q : Nat => s.heap.size ≤ q) q := fun _ h => h
  have hbA : ¬ (fun q : Nat => s.heap.size ≤ q) b := Nat.not_le.mpr hbl
  obtain ⟨e1, ee1⟩ : ∃ z : Int32, z = xs (x3 + 1).toNatClampNeg := ⟨_, rfl⟩
  obtain ⟨e2, ee2⟩ : ∃ z : Int32, z = xs (x3 + 2).toNatClampNeg := ⟨_, rfl⟩
  obtain ⟨e3, ee3⟩ : ∃ z : Int32, z = xs (x3 + 3).toNatClampNeg := ⟨_, rfl⟩
  obtain ⟨e4, ee4⟩ : ∃ z : Int32, z = xs (x3 + 4).toNatClampNeg := ⟨_, rfl⟩
  refine lv_aload_n hx hb dL_law_742 rfl (lv_at hl 1 rfl) ?_
  refine lv_aload_n hx hb dL_law_743 rfl (lv_at hl 0 rfl) ?_
  refine lv_iload_n hx hb dL_law_744 rfl (lv_at hl 3 rfl) ?_
  refine lv_iconst (v := 1) hx hb dL_law_745 (by decide) ?_
  refine lv_iadd hx hb dL_law_746 ?_
  refine va_sld hx hb hX hbl hbA hS v1 dL_law_747 ?_
  rw [← ee1]
  refine lv_aload_n hx hb dL_law_748 rfl (lv_at hl 0 rfl) ?_
  refine lv_iload_n hx hb dL_law_749 rfl (lv_at hl 3 rfl) ?_
  refine lv_iconst (v := 2) hx hb dL_law_750 (by decide) ?_
  refine lv_iadd hx hb dL_law_751 ?_
  refine va_sld hx hb hX hbl hbA hS v2 dL_law_752 ?_
  rw [← ee2]
  obtain ⟨r, F', G', F2', G2', p7, p8, hR'⟩ := s_work F G F2 G2 e1 e2 hR
  refine lawX (ad := ad) (bd := bd) (F := F) (G := G) (F' := F') (G' := G') (As := [.int e1, .int e2]) (rest := []) ⟨hx, hb, hml, hown, hts⟩ (c_X7_work l D ad cA n0 F G e1 e2 p7) (cwV 2 hts gL_law_X7_work rfl rfl rfl (by decide +kernel) ⟨Nat.le_of_ble_eq_true rfl, Nat.le_of_ble_eq_true rfl⟩) hP hK hD hN hS hA rfl hl.1 rfl (Nat.le_of_ble_eq_true rfl) dL_law_753 (fun H locs hP hD hS => ?_)
  refine lv_aload_n hx hb dL_law_756 rfl (lv_at hl 2 rfl) ?_
  refine lv_aload_n hx hb dL_law_757 rfl (lv_at hl 0 rfl) ?_
  refine lv_iload_n hx hb dL_law_758 rfl (lv_at hl 3 rfl) ?_
  refine lv_iconst (v := 1) hx hb dL_law_759 (by decide) ?_
  refine lv_iadd hx hb dL_law_760 ?_
  refine va_sld hx hb hX hbl hbA hS v1 dL_law_761 ?_
  rw [← ee1]
  refine lv_aload_n hx hb dL_law_762 rfl (lv_at hl 0 rfl) ?_
  refine lv_iload_n hx hb dL_law_763 rfl (lv_at hl 3 rfl) ?_
  refine lv_iconst (v := 2) hx hb dL_law_764 (by decide) ?_
  refine lv_iadd hx hb dL_law_765 ?_
  refine va_sld hx hb hX hbl hbA hS v2 dL_law_766 ?_
  rw [← ee2]
  refine lawM (ad := ad) (bd := bd) (F := F2) (G := G2) (F' := F2') (G' := G2') (As := [.int e1, .int e2]) (rest := [.int r]) ⟨hx, hb, hml, hown, hts⟩ (c_X8_work l D bd cA n0 F2 G2 e1 e2 p8) (cwV 2 hts gL_law_X8_work rfl rfl rfl (by decide +kernel) ⟨Nat.le_of_ble_eq_true rfl, Nat.le_of_ble_eq_true rfl⟩) hP hK hD hN hS hA rfl hl.1 rfl (Nat.le_of_ble_eq_true rfl) dL_law_767 (fun H locs hP hD hS => ?_)
  refine lv_icmp_eq (tgt := 1147) hx hb dL_law_770 (by decide) (fun _ => ?_) (fun c9 => absurd rfl c9)
  exact JT _ _ _ _ hR' _ _ ls hP hD hS hl
set_option maxHeartbeats 4000000 in
set_option maxRecDepth 100000 in
theorem law_ofThing {p : Program} {l : Launch} {e : Env} {s : State} {m : MethodId} {below : List Frame} {meth : Method} {c : Code} {D : va_G} {b L : Nat} {xs : Nat → Int32} {cA : ClassId} {ad bd : Nat → Nat} {n0 : Nat} {R : tF → tG → tF → tG → Prop} (C0 : lw_At p s m meth c b L xs) (hN : NwC s) (hK : va_K D vwCl [(cA, .int)] s) (s_ofThing : simT_ofThing n0 R) {x3 : Int32} (v1 : vp_in (x3 + 1) L) (v2 : vp_in (x3 + 2) L) (v3 : vp_in (x3 + 3) L) (v4 : vp_in (x3 + 4) L)
    (JT : ∀ (F : tF) (G : tG) (F2 : tF) (G2 : tG), R F G F2 G2 → ∀ (H : Heap) (locs : List Loc) (ls : Array Slot), va_P D vwCl (wC ad cA F G ++ wM bd cA F2 G2) H → va_D (fun q : Nat => s.heap.size ≤ q) (wC ad cA F G ++ wM bd cA F2 G2) → va_S (fun q : Nat => s.heap.size ≤ q) s.heap H locs → lv_has ls 4 [(0, .ref b), (1, .ref (ad 0)), (2, .ref (bd 0)), (3, .int x3)] → W p l e room_1 s m #[Value.ref b] below meth c H locs 51 8872 (lw_Z below #[Value.ref b] s) (F0 m 1147 ls [])) :
    ∀ (F : tF) (G : tG) (F2 : tF) (G2 : tG), R F G F2 G2 → ∀ (H : Heap) (locs : List Loc) (ls : Array Slot), va_P D vwCl (wC ad cA F G ++ wM bd cA F2 G2) H → va_D (fun q : Nat => s.heap.size ≤ q) (wC ad cA F G ++ wM bd cA F2 G2) → va_S (fun q : Nat => s.heap.size ≤ q) s.heap H locs → lv_has ls 4 [(0, .ref b), (1, .ref (ad 0)), (2, .ref (bd 0)), (3, .int x3)] → W p l e room_1 s m #[Value.ref b] below meth c H locs 51 8872 (lw_Z below #[Value.ref b] s) (F0 m 775 ls []) := by
  intro F G F2 G2 hR H locs ls hP hD hS hl
  obtain ⟨hx, hb, hr, hml, hown, hts, hX, hbl, hlocks, hgv⟩ := C0
  have hts := fun w h => hts w (wsL_law_in w h)
  have hown : s.vm.findClass RL = some m.cls := hown
  have hA : ∀ q : Nat, s.heap.size ≤ q → (fun q : Nat => s.heap.size ≤ q) q := fun _ h => h
  have hbA : ¬ (fun q : Nat => s.heap.size ≤ q) b := Nat.not_le.mpr hbl
  obtain ⟨e1, ee1⟩ : ∃ z : Int32, z = xs (x3 + 1).toNatClampNeg := ⟨_, rfl⟩
  obtain ⟨e2, ee2⟩ : ∃ z : Int32, z = xs (x3 + 2).toNatClampNeg := ⟨_, rfl⟩
  obtain ⟨e3, ee3⟩ : ∃ z : Int32, z = xs (x3 + 3).toNatClampNeg := ⟨_, rfl⟩
  obtain ⟨e4, ee4⟩ : ∃ z : Int32, z = xs (x3 + 4).toNatClampNeg := ⟨_, rfl⟩
  refine lv_aload_n hx hb dL_law_775 rfl (lv_at hl 1 rfl) ?_
  refine lv_aload_n hx hb dL_law_776 rfl (lv_at hl 0 rfl) ?_
  refine lv_iload_n hx hb dL_law_777 rfl (lv_at hl 3 rfl) ?_
  refine lv_iconst (v := 1) hx hb dL_law_778 (by decide) ?_
  refine lv_iadd hx hb dL_law_779 ?_
  refine va_sld hx hb hX hbl hbA hS v1 dL_law_780 ?_
  rw [← ee1]
  refine lv_aload_n hx hb dL_law_781 rfl (lv_at hl 0 rfl) ?_
  refine lv_iload_n hx hb dL_law_782 rfl (lv_at hl 3 rfl) ?_
  refine lv_iconst (v := 2) hx hb dL_law_783 (by decide) ?_
  refine lv_iadd hx hb dL_law_784 ?_
  refine va_sld hx hb hX hbl hbA hS v2 dL_law_785 ?_
  rw [← ee2]
  obtain ⟨r, p7, p8⟩ := s_ofThing F G F2 G2 e1 e2 hR
  refine lawX (ad := ad) (bd := bd) (F := F) (G := G) (F' := F) (G' := G) (As := [.int e1, .int e2]) (rest := []) ⟨hx, hb, hml, hown, hts⟩ (c_X7_ofThing l D ad cA n0 F G e1 e2 p7) (cwV 2 hts gL_law_X7_ofThing rfl rfl rfl (by decide +kernel) ⟨Nat.le_of_ble_eq_true rfl, Nat.le_of_ble_eq_true rfl⟩) hP hK hD hN hS hA rfl hl.1 rfl (Nat.le_of_ble_eq_true rfl) dL_law_786 (fun H locs hP hD hS => ?_)
  refine lv_aload_n hx hb dL_law_789 rfl (lv_at hl 2 rfl) ?_
  refine lv_aload_n hx hb dL_law_790 rfl (lv_at hl 0 rfl) ?_
  refine lv_iload_n hx hb dL_law_791 rfl (lv_at hl 3 rfl) ?_
  refine lv_iconst (v := 1) hx hb dL_law_792 (by decide) ?_
  refine lv_iadd hx hb dL_law_793 ?_
  refine va_sld hx hb hX hbl hbA hS v1 dL_law_794 ?_
  rw [← ee1]
  refine lv_aload_n hx hb dL_law_795 rfl (lv_at hl 0 rfl) ?_
  refine lv_iload_n hx hb dL_law_796 rfl (lv_at hl 3 rfl) ?_
  refine lv_iconst (v := 2) hx hb dL_law_797 (by decide) ?_
  refine lv_iadd hx hb dL_law_798 ?_
  refine va_sld hx hb hX hbl hbA hS v2 dL_law_799 ?_
  rw [← ee2]
  refine lawM (ad := ad) (bd := bd) (F := F2) (G := G2) (F' := F2) (G' := G2) (As := [.int e1, .int e2]) (rest := [.int r]) ⟨hx, hb, hml, hown, hts⟩ (c_X8_ofThing l D bd cA n0 F2 G2 e1 e2 p8) (cwV 2 hts gL_law_X8_ofThing rfl rfl rfl (by decide +kernel) ⟨Nat.le_of_ble_eq_true rfl, Nat.le_of_ble_eq_true rfl⟩) hP hK hD hN hS hA rfl hl.1 rfl (Nat.le_of_ble_eq_true rfl) dL_law_800 (fun H locs hP hD hS => ?_)
  refine lv_icmp_eq (tgt := 1147) hx hb dL_law_803 (by decide) (fun _ => ?_) (fun c9 => absurd rfl c9)
  exact JT _ _ _ _ hR _ _ ls hP hD hS hl
set_option maxHeartbeats 4000000 in
set_option maxRecDepth 100000 in
theorem law_tide {p : Program} {l : Launch} {e : Env} {s : State} {m : MethodId} {below : List Frame} {meth : Method} {c : Code} {D : va_G} {b L : Nat} {xs : Nat → Int32} {cA : ClassId} {ad bd : Nat → Nat} {n0 : Nat} {R : tF → tG → tF → tG → Prop} (C0 : lw_At p s m meth c b L xs) (hN : NwC s) (hK : va_K D vwCl [(cA, .int)] s) (s_tide : simT_tide n0 R) {x3 : Int32} (v1 : vp_in (x3 + 1) L) (v2 : vp_in (x3 + 2) L) (v3 : vp_in (x3 + 3) L) (v4 : vp_in (x3 + 4) L)
    (JT : ∀ (F : tF) (G : tG) (F2 : tF) (G2 : tG), R F G F2 G2 → ∀ (H : Heap) (locs : List Loc) (ls : Array Slot), va_P D vwCl (wC ad cA F G ++ wM bd cA F2 G2) H → va_D (fun q : Nat => s.heap.size ≤ q) (wC ad cA F G ++ wM bd cA F2 G2) → va_S (fun q : Nat => s.heap.size ≤ q) s.heap H locs → lv_has ls 4 [(0, .ref b), (1, .ref (ad 0)), (2, .ref (bd 0)), (3, .int x3)] → W p l e room_1 s m #[Value.ref b] below meth c H locs 51 8872 (lw_Z below #[Value.ref b] s) (F0 m 1147 ls [])) :
    ∀ (F : tF) (G : tG) (F2 : tF) (G2 : tG), R F G F2 G2 → ∀ (H : Heap) (locs : List Loc) (ls : Array Slot), va_P D vwCl (wC ad cA F G ++ wM bd cA F2 G2) H → va_D (fun q : Nat => s.heap.size ≤ q) (wC ad cA F G ++ wM bd cA F2 G2) → va_S (fun q : Nat => s.heap.size ≤ q) s.heap H locs → lv_has ls 4 [(0, .ref b), (1, .ref (ad 0)), (2, .ref (bd 0)), (3, .int x3)] → W p l e room_1 s m #[Value.ref b] below meth c H locs 51 8872 (lw_Z below #[Value.ref b] s) (F0 m 808 ls []) := by
  intro F G F2 G2 hR H locs ls hP hD hS hl
  obtain ⟨hx, hb, hr, hml, hown, hts, hX, hbl, hlocks, hgv⟩ := C0
  have hts := fun w h => hts w (wsL_law_in w h)
  have hown : s.vm.findClass RL = some m.cls := hown
  have hA : ∀ q : Nat, s.heap.size ≤ q → (fun q : Nat => s.heap.size ≤ q) q := fun _ h => h
  have hbA : ¬ (fun q : Nat => s.heap.size ≤ q) b := Nat.not_le.mpr hbl
  obtain ⟨e1, ee1⟩ : ∃ z : Int32, z = xs (x3 + 1).toNatClampNeg := ⟨_, rfl⟩
  obtain ⟨e2, ee2⟩ : ∃ z : Int32, z = xs (x3 + 2).toNatClampNeg := ⟨_, rfl⟩
  obtain ⟨e3, ee3⟩ : ∃ z : Int32, z = xs (x3 + 3).toNatClampNeg := ⟨_, rfl⟩
  obtain ⟨e4, ee4⟩ : ∃ z : Int32, z = xs (x3 + 4).toNatClampNeg := ⟨_, rfl⟩
  refine lv_aload_n hx hb dL_law_808 rfl (lv_at hl 1 rfl) ?_
  refine lv_aload_n hx hb dL_law_809 rfl (lv_at hl 0 rfl) ?_
  refine lv_iload_n hx hb dL_law_810 rfl (lv_at hl 3 rfl) ?_
  refine lv_iconst (v := 1) hx hb dL_law_811 (by decide) ?_
  refine lv_iadd hx hb dL_law_812 ?_
  refine va_sld hx hb hX hbl hbA hS v1 dL_law_813 ?_
  rw [← ee1]
  obtain ⟨r, F', G', F2', G2', p7, p8, hR'⟩ := s_tide F G F2 G2 e1 hR
  refine lawX (ad := ad) (bd := bd) (F := F) (G := G) (F' := F') (G' := G') (As := [.int e1]) (rest := []) ⟨hx, hb, hml, hown, hts⟩ (c_X7_tide l D ad cA n0 F G e1 p7) (cwV 1 hts gL_law_X7_tide rfl rfl rfl (by decide +kernel) ⟨Nat.le_of_ble_eq_true rfl, Nat.le_of_ble_eq_true rfl⟩) hP hK hD hN hS hA rfl hl.1 rfl (Nat.le_of_ble_eq_true rfl) dL_law_814 (fun H locs hP hD hS => ?_)
  refine lv_aload_n hx hb dL_law_817 rfl (lv_at hl 2 rfl) ?_
  refine lv_aload_n hx hb dL_law_818 rfl (lv_at hl 0 rfl) ?_
  refine lv_iload_n hx hb dL_law_819 rfl (lv_at hl 3 rfl) ?_
  refine lv_iconst (v := 1) hx hb dL_law_820 (by decide) ?_
  refine lv_iadd hx hb dL_law_821 ?_
  refine va_sld hx hb hX hbl hbA hS v1 dL_law_822 ?_
  rw [← ee1]
  refine lawM (ad := ad) (bd := bd) (F := F2) (G := G2) (F' := F2') (G' := G2') (As := [.int e1]) (rest := [.int r]) ⟨hx, hb, hml, hown, hts⟩ (c_X8_tide l D bd cA n0 F2 G2 e1 p8) (cwV 1 hts gL_law_X8_tide rfl rfl rfl (by decide +kernel) ⟨Nat.le_of_ble_eq_true rfl, Nat.le_of_ble_eq_true rfl⟩) hP hK hD hN hS hA rfl hl.1 rfl (Nat.le_of_ble_eq_true rfl) dL_law_823 (fun H locs hP hD hS => ?_)
  refine lv_icmp_eq (tgt := 1147) hx hb dL_law_826 (by decide) (fun _ => ?_) (fun c9 => absurd rfl c9)
  exact JT _ _ _ _ hR' _ _ ls hP hD hS hl
set_option maxHeartbeats 4000000 in
set_option maxRecDepth 100000 in
theorem law_calm {p : Program} {l : Launch} {e : Env} {s : State} {m : MethodId} {below : List Frame} {meth : Method} {c : Code} {D : va_G} {b L : Nat} {xs : Nat → Int32} {cA : ClassId} {ad bd : Nat → Nat} {n0 : Nat} {R : tF → tG → tF → tG → Prop} (C0 : lw_At p s m meth c b L xs) (hN : NwC s) (hK : va_K D vwCl [(cA, .int)] s) (s_calm : simT_calm n0 R) {x3 : Int32} (v1 : vp_in (x3 + 1) L) (v2 : vp_in (x3 + 2) L) (v3 : vp_in (x3 + 3) L) (v4 : vp_in (x3 + 4) L)
    (JT : ∀ (F : tF) (G : tG) (F2 : tF) (G2 : tG), R F G F2 G2 → ∀ (H : Heap) (locs : List Loc) (ls : Array Slot), va_P D vwCl (wC ad cA F G ++ wM bd cA F2 G2) H → va_D (fun q : Nat => s.heap.size ≤ q) (wC ad cA F G ++ wM bd cA F2 G2) → va_S (fun q : Nat => s.heap.size ≤ q) s.heap H locs → lv_has ls 4 [(0, .ref b), (1, .ref (ad 0)), (2, .ref (bd 0)), (3, .int x3)] → W p l e room_1 s m #[Value.ref b] below meth c H locs 51 8872 (lw_Z below #[Value.ref b] s) (F0 m 1147 ls [])) :
    ∀ (F : tF) (G : tG) (F2 : tF) (G2 : tG), R F G F2 G2 → ∀ (H : Heap) (locs : List Loc) (ls : Array Slot), va_P D vwCl (wC ad cA F G ++ wM bd cA F2 G2) H → va_D (fun q : Nat => s.heap.size ≤ q) (wC ad cA F G ++ wM bd cA F2 G2) → va_S (fun q : Nat => s.heap.size ≤ q) s.heap H locs → lv_has ls 4 [(0, .ref b), (1, .ref (ad 0)), (2, .ref (bd 0)), (3, .int x3)] → W p l e room_1 s m #[Value.ref b] below meth c H locs 51 8872 (lw_Z below #[Value.ref b] s) (F0 m 831 ls []) := by
  intro F G F2 G2 hR H locs ls hP hD hS hl
  obtain ⟨hx, hb, hr, hml, hown, hts, hX, hbl, hlocks, hgv⟩ := C0
  have hts := fun w h => hts w (wsL_law_in w h)
  have hown : s.vm.findClass RL = some m.cls := hown
  have hA : ∀ q : Nat, s.heap.size ≤ q → (fun q : Nat => s.heap.size ≤ q) q := fun _ h => h
  have hbA : ¬ (fun q : Nat => s.heap.size ≤ q) b := Nat.not_le.mpr hbl
  obtain ⟨e1, ee1⟩ : ∃ z : Int32, z = xs (x3 + 1).toNatClampNeg := ⟨_, rfl⟩
  obtain ⟨e2, ee2⟩ : ∃ z : Int32, z = xs (x3 + 2).toNatClampNeg := ⟨_, rfl⟩
  obtain ⟨e3, ee3⟩ : ∃ z : Int32, z = xs (x3 + 3).toNatClampNeg := ⟨_, rfl⟩
  obtain ⟨e4, ee4⟩ : ∃ z : Int32, z = xs (x3 + 4).toNatClampNeg := ⟨_, rfl⟩
  refine lv_aload_n hx hb dL_law_831 rfl (lv_at hl 1 rfl) ?_
  obtain ⟨r, F', G', F2', G2', p7, p8, hR'⟩ := s_calm F G F2 G2  hR
  refine lawX (ad := ad) (bd := bd) (F := F) (G := G) (F' := F') (G' := G') (As := []) (rest := []) ⟨hx, hb, hml, hown, hts⟩ (c_X7_calm l D ad cA n0 F G  p7) (cwV 0 hts gL_law_X7_calm rfl rfl rfl (by decide +kernel) ⟨Nat.le_of_ble_eq_true rfl, Nat.le_of_ble_eq_true rfl⟩) hP hK hD hN hS hA rfl hl.1 rfl (Nat.le_of_ble_eq_true rfl) dL_law_832 (fun H locs hP hD hS => ?_)
  refine lv_aload_n hx hb dL_law_835 rfl (lv_at hl 2 rfl) ?_
  refine lawM (ad := ad) (bd := bd) (F := F2) (G := G2) (F' := F2') (G' := G2') (As := []) (rest := [.int r]) ⟨hx, hb, hml, hown, hts⟩ (c_X8_calm l D bd cA n0 F2 G2  p8) (cwV 0 hts gL_law_X8_calm rfl rfl rfl (by decide +kernel) ⟨Nat.le_of_ble_eq_true rfl, Nat.le_of_ble_eq_true rfl⟩) hP hK hD hN hS hA rfl hl.1 rfl (Nat.le_of_ble_eq_true rfl) dL_law_836 (fun H locs hP hD hS => ?_)
  refine lv_icmp_eq (tgt := 1147) hx hb dL_law_839 (by decide) (fun _ => ?_) (fun c9 => absurd rfl c9)
  exact JT _ _ _ _ hR' _ _ ls hP hD hS hl
set_option maxHeartbeats 4000000 in
set_option maxRecDepth 100000 in
theorem law_best {p : Program} {l : Launch} {e : Env} {s : State} {m : MethodId} {below : List Frame} {meth : Method} {c : Code} {D : va_G} {b L : Nat} {xs : Nat → Int32} {cA : ClassId} {ad bd : Nat → Nat} {n0 : Nat} {R : tF → tG → tF → tG → Prop} (C0 : lw_At p s m meth c b L xs) (hN : NwC s) (hK : va_K D vwCl [(cA, .int)] s) (s_best : simT_best n0 R) {x3 : Int32} (v1 : vp_in (x3 + 1) L) (v2 : vp_in (x3 + 2) L) (v3 : vp_in (x3 + 3) L) (v4 : vp_in (x3 + 4) L)
    (JT : ∀ (F : tF) (G : tG) (F2 : tF) (G2 : tG), R F G F2 G2 → ∀ (H : Heap) (locs : List Loc) (ls : Array Slot), va_P D vwCl (wC ad cA F G ++ wM bd cA F2 G2) H → va_D (fun q : Nat => s.heap.size ≤ q) (wC ad cA F G ++ wM bd cA F2 G2) → va_S (fun q : Nat => s.heap.size ≤ q) s.heap H locs → lv_has ls 4 [(0, .ref b), (1, .ref (ad 0)), (2, .ref (bd 0)), (3, .int x3)] → W p l e room_1 s m #[Value.ref b] below meth c H locs 51 8872 (lw_Z below #[Value.ref b] s) (F0 m 1147 ls [])) :
    ∀ (F : tF) (G : tG) (F2 : tF) (G2 : tG), R F G F2 G2 → ∀ (H : Heap) (locs : List Loc) (ls : Array Slot), va_P D vwCl (wC ad cA F G ++ wM bd cA F2 G2) H → va_D (fun q : Nat => s.heap.size ≤ q) (wC ad cA F G ++ wM bd cA F2 G2) → va_S (fun q : Nat => s.heap.size ≤ q) s.heap H locs → lv_has ls 4 [(0, .ref b), (1, .ref (ad 0)), (2, .ref (bd 0)), (3, .int x3)] → W p l e room_1 s m #[Value.ref b] below meth c H locs 51 8872 (lw_Z below #[Value.ref b] s) (F0 m 844 ls []) := by
  intro F G F2 G2 hR H locs ls hP hD hS hl
  obtain ⟨hx, hb, hr, hml, hown, hts, hX, hbl, hlocks, hgv⟩ := C0
  have hts := fun w h => hts w (wsL_law_in w h)
  have hown : s.vm.findClass RL = some m.cls := hown
  have hA : ∀ q : Nat, s.heap.size ≤ q → (fun q : Nat => s.heap.size ≤ q) q := fun _ h => h
  have hbA : ¬ (fun q : Nat => s.heap.size ≤ q) b := Nat.not_le.mpr hbl
  obtain ⟨e1, ee1⟩ : ∃ z : Int32, z = xs (x3 + 1).toNatClampNeg := ⟨_, rfl⟩
  obtain ⟨e2, ee2⟩ : ∃ z : Int32, z = xs (x3 + 2).toNatClampNeg := ⟨_, rfl⟩
  obtain ⟨e3, ee3⟩ : ∃ z : Int32, z = xs (x3 + 3).toNatClampNeg := ⟨_, rfl⟩
  obtain ⟨e4, ee4⟩ : ∃ z : Int32, z = xs (x3 + 4).toNatClampNeg := ⟨_, rfl⟩
  refine lv_aload_n hx hb dL_law_844 rfl (lv_at hl 1 rfl) ?_
  refine lv_aload_n hx hb dL_law_845 rfl (lv_at hl 0 rfl) ?_
  refine lv_iload_n hx hb dL_law_846 rfl (lv_at hl 3 rfl) ?_
  refine lv_iconst (v := 1) hx hb dL_law_847 (by decide) ?_
  refine lv_iadd hx hb dL_law_848 ?_
  refine va_sld hx hb hX hbl hbA hS v1 dL_law_849 ?_
  rw [← ee1]
  obtain ⟨r, F', G', F2', G2', p7, p8, hR'⟩ := s_best F G F2 G2 e1 hR
  refine lawX (ad := ad) (bd := bd) (F := F) (G := G) (F' := F') (G' := G') (As := [.int e1]) (rest := []) ⟨hx, hb, hml, hown, hts⟩ (c_X7_best l D ad cA n0 F G e1 p7) (cwV 1 hts gL_law_X7_best rfl rfl rfl (by decide +kernel) ⟨Nat.le_of_ble_eq_true rfl, Nat.le_of_ble_eq_true rfl⟩) hP hK hD hN hS hA rfl hl.1 rfl (Nat.le_of_ble_eq_true rfl) dL_law_850 (fun H locs hP hD hS => ?_)
  refine lv_aload_n hx hb dL_law_853 rfl (lv_at hl 2 rfl) ?_
  refine lv_aload_n hx hb dL_law_854 rfl (lv_at hl 0 rfl) ?_
  refine lv_iload_n hx hb dL_law_855 rfl (lv_at hl 3 rfl) ?_
  refine lv_iconst (v := 1) hx hb dL_law_856 (by decide) ?_
  refine lv_iadd hx hb dL_law_857 ?_
  refine va_sld hx hb hX hbl hbA hS v1 dL_law_858 ?_
  rw [← ee1]
  refine lawM (ad := ad) (bd := bd) (F := F2) (G := G2) (F' := F2') (G' := G2') (As := [.int e1]) (rest := [.int r]) ⟨hx, hb, hml, hown, hts⟩ (c_X8_best l D bd cA n0 F2 G2 e1 p8) (cwV 1 hts gL_law_X8_best rfl rfl rfl (by decide +kernel) ⟨Nat.le_of_ble_eq_true rfl, Nat.le_of_ble_eq_true rfl⟩) hP hK hD hN hS hA rfl hl.1 rfl (Nat.le_of_ble_eq_true rfl) dL_law_859 (fun H locs hP hD hS => ?_)
  refine lv_icmp_eq (tgt := 1147) hx hb dL_law_862 (by decide) (fun _ => ?_) (fun c9 => absurd rfl c9)
  exact JT _ _ _ _ hR' _ _ ls hP hD hS hl
set_option maxHeartbeats 4000000 in
set_option maxRecDepth 100000 in
theorem law_tideOf {p : Program} {l : Launch} {e : Env} {s : State} {m : MethodId} {below : List Frame} {meth : Method} {c : Code} {D : va_G} {b L : Nat} {xs : Nat → Int32} {cA : ClassId} {ad bd : Nat → Nat} {n0 : Nat} {R : tF → tG → tF → tG → Prop} (C0 : lw_At p s m meth c b L xs) (hN : NwC s) (hK : va_K D vwCl [(cA, .int)] s) (s_tideOf : simT_tideOf n0 R) {x3 : Int32} (v1 : vp_in (x3 + 1) L) (v2 : vp_in (x3 + 2) L) (v3 : vp_in (x3 + 3) L) (v4 : vp_in (x3 + 4) L)
    (JT : ∀ (F : tF) (G : tG) (F2 : tF) (G2 : tG), R F G F2 G2 → ∀ (H : Heap) (locs : List Loc) (ls : Array Slot), va_P D vwCl (wC ad cA F G ++ wM bd cA F2 G2) H → va_D (fun q : Nat => s.heap.size ≤ q) (wC ad cA F G ++ wM bd cA F2 G2) → va_S (fun q : Nat => s.heap.size ≤ q) s.heap H locs → lv_has ls 4 [(0, .ref b), (1, .ref (ad 0)), (2, .ref (bd 0)), (3, .int x3)] → W p l e room_1 s m #[Value.ref b] below meth c H locs 51 8872 (lw_Z below #[Value.ref b] s) (F0 m 1147 ls [])) :
    ∀ (F : tF) (G : tG) (F2 : tF) (G2 : tG), R F G F2 G2 → ∀ (H : Heap) (locs : List Loc) (ls : Array Slot), va_P D vwCl (wC ad cA F G ++ wM bd cA F2 G2) H → va_D (fun q : Nat => s.heap.size ≤ q) (wC ad cA F G ++ wM bd cA F2 G2) → va_S (fun q : Nat => s.heap.size ≤ q) s.heap H locs → lv_has ls 4 [(0, .ref b), (1, .ref (ad 0)), (2, .ref (bd 0)), (3, .int x3)] → W p l e room_1 s m #[Value.ref b] below meth c H locs 51 8872 (lw_Z below #[Value.ref b] s) (F0 m 867 ls []) := by
  intro F G F2 G2 hR H locs ls hP hD hS hl
  obtain ⟨hx, hb, hr, hml, hown, hts, hX, hbl, hlocks, hgv⟩ := C0
  have hts := fun w h => hts w (wsL_law_in w h)
  have hown : s.vm.findClass RL = some m.cls := hown
  have hA : ∀ q : Nat, s.heap.size ≤ q → (fun q : Nat => s.heap.size ≤ q) q := fun _ h => h
  have hbA : ¬ (fun q : Nat => s.heap.size ≤ q) b := Nat.not_le.mpr hbl
  obtain ⟨e1, ee1⟩ : ∃ z : Int32, z = xs (x3 + 1).toNatClampNeg := ⟨_, rfl⟩
  obtain ⟨e2, ee2⟩ : ∃ z : Int32, z = xs (x3 + 2).toNatClampNeg := ⟨_, rfl⟩
  obtain ⟨e3, ee3⟩ : ∃ z : Int32, z = xs (x3 + 3).toNatClampNeg := ⟨_, rfl⟩
  obtain ⟨e4, ee4⟩ : ∃ z : Int32, z = xs (x3 + 4).toNatClampNeg := ⟨_, rfl⟩
  refine lv_aload_n hx hb dL_law_867 rfl (lv_at hl 1 rfl) ?_
  refine lv_aload_n hx hb dL_law_868 rfl (lv_at hl 0 rfl) ?_
  refine lv_iload_n hx hb dL_law_869 rfl (lv_at hl 3 rfl) ?_
  refine lv_iconst (v := 1) hx hb dL_law_870 (by decide) ?_
  refine lv_iadd hx hb dL_law_871 ?_
  refine va_sld hx hb hX hbl hbA hS v1 dL_law_872 ?_
  rw [← ee1]
  obtain ⟨r, F', G', F2', G2', p7, p8, hR'⟩ := s_tideOf F G F2 G2 e1 hR
  refine lawX (ad := ad) (bd := bd) (F := F) (G := G) (F' := F') (G' := G') (As := [.int e1]) (rest := []) ⟨hx, hb, hml, hown, hts⟩ (c_X7_tideOf l D ad cA n0 F G e1 p7) (cwV 1 hts gL_law_X7_tideOf rfl rfl rfl (by decide +kernel) ⟨Nat.le_of_ble_eq_true rfl, Nat.le_of_ble_eq_true rfl⟩) hP hK hD hN hS hA rfl hl.1 rfl (Nat.le_of_ble_eq_true rfl) dL_law_873 (fun H locs hP hD hS => ?_)
  refine lv_aload_n hx hb dL_law_876 rfl (lv_at hl 2 rfl) ?_
  refine lv_aload_n hx hb dL_law_877 rfl (lv_at hl 0 rfl) ?_
  refine lv_iload_n hx hb dL_law_878 rfl (lv_at hl 3 rfl) ?_
  refine lv_iconst (v := 1) hx hb dL_law_879 (by decide) ?_
  refine lv_iadd hx hb dL_law_880 ?_
  refine va_sld hx hb hX hbl hbA hS v1 dL_law_881 ?_
  rw [← ee1]
  refine lawM (ad := ad) (bd := bd) (F := F2) (G := G2) (F' := F2') (G' := G2') (As := [.int e1]) (rest := [.int r]) ⟨hx, hb, hml, hown, hts⟩ (c_X8_tideOf l D bd cA n0 F2 G2 e1 p8) (cwV 1 hts gL_law_X8_tideOf rfl rfl rfl (by decide +kernel) ⟨Nat.le_of_ble_eq_true rfl, Nat.le_of_ble_eq_true rfl⟩) hP hK hD hN hS hA rfl hl.1 rfl (Nat.le_of_ble_eq_true rfl) dL_law_882 (fun H locs hP hD hS => ?_)
  refine lv_icmp_eq (tgt := 1147) hx hb dL_law_885 (by decide) (fun _ => ?_) (fun c9 => absurd rfl c9)
  exact JT _ _ _ _ hR' _ _ ls hP hD hS hl
set_option maxHeartbeats 4000000 in
set_option maxRecDepth 100000 in
theorem law_sign {p : Program} {l : Launch} {e : Env} {s : State} {m : MethodId} {below : List Frame} {meth : Method} {c : Code} {D : va_G} {b L : Nat} {xs : Nat → Int32} {cA : ClassId} {ad bd : Nat → Nat} {n0 : Nat} {R : tF → tG → tF → tG → Prop} (C0 : lw_At p s m meth c b L xs) (hN : NwC s) (hK : va_K D vwCl [(cA, .int)] s) (s_sign : simT_sign n0 R) {x3 : Int32} (v1 : vp_in (x3 + 1) L) (v2 : vp_in (x3 + 2) L) (v3 : vp_in (x3 + 3) L) (v4 : vp_in (x3 + 4) L)
    (JT : ∀ (F : tF) (G : tG) (F2 : tF) (G2 : tG), R F G F2 G2 → ∀ (H : Heap) (locs : List Loc) (ls : Array Slot), va_P D vwCl (wC ad cA F G ++ wM bd cA F2 G2) H → va_D (fun q : Nat => s.heap.size ≤ q) (wC ad cA F G ++ wM bd cA F2 G2) → va_S (fun q : Nat => s.heap.size ≤ q) s.heap H locs → lv_has ls 4 [(0, .ref b), (1, .ref (ad 0)), (2, .ref (bd 0)), (3, .int x3)] → W p l e room_1 s m #[Value.ref b] below meth c H locs 51 8872 (lw_Z below #[Value.ref b] s) (F0 m 1147 ls [])) :
    ∀ (F : tF) (G : tG) (F2 : tF) (G2 : tG), R F G F2 G2 → ∀ (H : Heap) (locs : List Loc) (ls : Array Slot), va_P D vwCl (wC ad cA F G ++ wM bd cA F2 G2) H → va_D (fun q : Nat => s.heap.size ≤ q) (wC ad cA F G ++ wM bd cA F2 G2) → va_S (fun q : Nat => s.heap.size ≤ q) s.heap H locs → lv_has ls 4 [(0, .ref b), (1, .ref (ad 0)), (2, .ref (bd 0)), (3, .int x3)] → W p l e room_1 s m #[Value.ref b] below meth c H locs 51 8872 (lw_Z below #[Value.ref b] s) (F0 m 890 ls []) := by
  intro F G F2 G2 hR H locs ls hP hD hS hl
  obtain ⟨hx, hb, hr, hml, hown, hts, hX, hbl, hlocks, hgv⟩ := C0
  have hts := fun w h => hts w (wsL_law_in w h)
  have hown : s.vm.findClass RL = some m.cls := hown
  have hA : ∀ q : Nat, s.heap.size ≤ q → (fun q : Nat => s.heap.size ≤ q) q := fun _ h => h
  have hbA : ¬ (fun q : Nat => s.heap.size ≤ q) b := Nat.not_le.mpr hbl
  obtain ⟨e1, ee1⟩ : ∃ z : Int32, z = xs (x3 + 1).toNatClampNeg := ⟨_, rfl⟩
  obtain ⟨e2, ee2⟩ : ∃ z : Int32, z = xs (x3 + 2).toNatClampNeg := ⟨_, rfl⟩
  obtain ⟨e3, ee3⟩ : ∃ z : Int32, z = xs (x3 + 3).toNatClampNeg := ⟨_, rfl⟩
  obtain ⟨e4, ee4⟩ : ∃ z : Int32, z = xs (x3 + 4).toNatClampNeg := ⟨_, rfl⟩
  refine lv_aload_n hx hb dL_law_890 rfl (lv_at hl 1 rfl) ?_
  refine lv_aload_n hx hb dL_law_891 rfl (lv_at hl 0 rfl) ?_
  refine lv_iload_n hx hb dL_law_892 rfl (lv_at hl 3 rfl) ?_
  refine lv_iconst (v := 1) hx hb dL_law_893 (by decide) ?_
  refine lv_iadd hx hb dL_law_894 ?_
  refine va_sld hx hb hX hbl hbA hS v1 dL_law_895 ?_
  rw [← ee1]
  refine lv_aload_n hx hb dL_law_896 rfl (lv_at hl 0 rfl) ?_
  refine lv_iload_n hx hb dL_law_897 rfl (lv_at hl 3 rfl) ?_
  refine lv_iconst (v := 2) hx hb dL_law_898 (by decide) ?_
  refine lv_iadd hx hb dL_law_899 ?_
  refine va_sld hx hb hX hbl hbA hS v2 dL_law_900 ?_
  rw [← ee2]
  refine lv_aload_n hx hb dL_law_901 rfl (lv_at hl 0 rfl) ?_
  refine lv_iload_n hx hb dL_law_902 rfl (lv_at hl 3 rfl) ?_
  refine lv_iconst (v := 3) hx hb dL_law_903 (by decide) ?_
  refine lv_iadd hx hb dL_law_904 ?_
  refine va_sld hx hb hX hbl hbA hS v3 dL_law_905 ?_
  rw [← ee3]
  obtain ⟨r, F', G', F2', G2', p7, p8, hR'⟩ := s_sign F G F2 G2 e1 e2 e3 hR
  refine lawX (ad := ad) (bd := bd) (F := F) (G := G) (F' := F') (G' := G') (As := [.int e1, .int e2, .int e3]) (rest := []) ⟨hx, hb, hml, hown, hts⟩ (c_X7_sign l D ad cA n0 F G e1 e2 e3 p7) (cwV 3 hts gL_law_X7_sign rfl rfl rfl (by decide +kernel) ⟨Nat.le_of_ble_eq_true rfl, Nat.le_of_ble_eq_true rfl⟩) hP hK hD hN hS hA rfl hl.1 rfl (Nat.le_of_ble_eq_true rfl) dL_law_906 (fun H locs hP hD hS => ?_)
  refine lv_aload_n hx hb dL_law_909 rfl (lv_at hl 2 rfl) ?_
  refine lv_aload_n hx hb dL_law_910 rfl (lv_at hl 0 rfl) ?_
  refine lv_iload_n hx hb dL_law_911 rfl (lv_at hl 3 rfl) ?_
  refine lv_iconst (v := 1) hx hb dL_law_912 (by decide) ?_
  refine lv_iadd hx hb dL_law_913 ?_
  refine va_sld hx hb hX hbl hbA hS v1 dL_law_914 ?_
  rw [← ee1]
  refine lv_aload_n hx hb dL_law_915 rfl (lv_at hl 0 rfl) ?_
  refine lv_iload_n hx hb dL_law_916 rfl (lv_at hl 3 rfl) ?_
  refine lv_iconst (v := 2) hx hb dL_law_917 (by decide) ?_
  refine lv_iadd hx hb dL_law_918 ?_
  refine va_sld hx hb hX hbl hbA hS v2 dL_law_919 ?_
  rw [← ee2]
  refine lv_aload_n hx hb dL_law_920 rfl (lv_at hl 0 rfl) ?_
  refine lv_iload_n hx hb dL_law_921 rfl (lv_at hl 3 rfl) ?_
  refine lv_iconst (v := 3) hx hb dL_law_922 (by decide) ?_
  refine lv_iadd hx hb dL_law_923 ?_
  refine va_sld hx hb hX hbl hbA hS v3 dL_law_924 ?_
  rw [← ee3]
  refine lawM (ad := ad) (bd := bd) (F := F2) (G := G2) (F' := F2') (G' := G2') (As := [.int e1, .int e2, .int e3]) (rest := [.int r]) ⟨hx, hb, hml, hown, hts⟩ (c_X8_sign l D bd cA n0 F2 G2 e1 e2 e3 p8) (cwV 3 hts gL_law_X8_sign rfl rfl rfl (by decide +kernel) ⟨Nat.le_of_ble_eq_true rfl, Nat.le_of_ble_eq_true rfl⟩) hP hK hD hN hS hA rfl hl.1 rfl (Nat.le_of_ble_eq_true rfl) dL_law_925 (fun H locs hP hD hS => ?_)
  refine lv_icmp_eq (tgt := 1147) hx hb dL_law_928 (by decide) (fun _ => ?_) (fun c9 => absurd rfl c9)
  exact JT _ _ _ _ hR' _ _ ls hP hD hS hl
set_option maxHeartbeats 4000000 in
set_option maxRecDepth 100000 in
theorem law_heard {p : Program} {l : Launch} {e : Env} {s : State} {m : MethodId} {below : List Frame} {meth : Method} {c : Code} {D : va_G} {b L : Nat} {xs : Nat → Int32} {cA : ClassId} {ad bd : Nat → Nat} {n0 : Nat} {R : tF → tG → tF → tG → Prop} (C0 : lw_At p s m meth c b L xs) (hN : NwC s) (hK : va_K D vwCl [(cA, .int)] s) (s_heard : simT_heard n0 R) {x3 : Int32} (v1 : vp_in (x3 + 1) L) (v2 : vp_in (x3 + 2) L) (v3 : vp_in (x3 + 3) L) (v4 : vp_in (x3 + 4) L)
    (JT : ∀ (F : tF) (G : tG) (F2 : tF) (G2 : tG), R F G F2 G2 → ∀ (H : Heap) (locs : List Loc) (ls : Array Slot), va_P D vwCl (wC ad cA F G ++ wM bd cA F2 G2) H → va_D (fun q : Nat => s.heap.size ≤ q) (wC ad cA F G ++ wM bd cA F2 G2) → va_S (fun q : Nat => s.heap.size ≤ q) s.heap H locs → lv_has ls 4 [(0, .ref b), (1, .ref (ad 0)), (2, .ref (bd 0)), (3, .int x3)] → W p l e room_1 s m #[Value.ref b] below meth c H locs 51 8872 (lw_Z below #[Value.ref b] s) (F0 m 1147 ls [])) :
    ∀ (F : tF) (G : tG) (F2 : tF) (G2 : tG), R F G F2 G2 → ∀ (H : Heap) (locs : List Loc) (ls : Array Slot), va_P D vwCl (wC ad cA F G ++ wM bd cA F2 G2) H → va_D (fun q : Nat => s.heap.size ≤ q) (wC ad cA F G ++ wM bd cA F2 G2) → va_S (fun q : Nat => s.heap.size ≤ q) s.heap H locs → lv_has ls 4 [(0, .ref b), (1, .ref (ad 0)), (2, .ref (bd 0)), (3, .int x3)] → W p l e room_1 s m #[Value.ref b] below meth c H locs 51 8872 (lw_Z below #[Value.ref b] s) (F0 m 933 ls []) := by
  intro F G F2 G2 hR H locs ls hP hD hS hl
  obtain ⟨hx, hb, hr, hml, hown, hts, hX, hbl, hlocks, hgv⟩ := C0
  have hts := fun w h => hts w (wsL_law_in w h)
  have hown : s.vm.findClass RL = some m.cls := hown
  have hA : ∀ q : Nat, s.heap.size ≤ q → (fun q : Nat => s.heap.size ≤ q) q := fun _ h => h
  have hbA : ¬ (fun q : Nat => s.heap.size ≤ q) b := Nat.not_le.mpr hbl
  obtain ⟨e1, ee1⟩ : ∃ z : Int32, z = xs (x3 + 1).toNatClampNeg := ⟨_, rfl⟩
  obtain ⟨e2, ee2⟩ : ∃ z : Int32, z = xs (x3 + 2).toNatClampNeg := ⟨_, rfl⟩
  obtain ⟨e3, ee3⟩ : ∃ z : Int32, z = xs (x3 + 3).toNatClampNeg := ⟨_, rfl⟩
  obtain ⟨e4, ee4⟩ : ∃ z : Int32, z = xs (x3 + 4).toNatClampNeg := ⟨_, rfl⟩
  refine lv_aload_n hx hb dL_law_933 rfl (lv_at hl 1 rfl) ?_
  refine lv_aload_n hx hb dL_law_934 rfl (lv_at hl 0 rfl) ?_
  refine lv_iload_n hx hb dL_law_935 rfl (lv_at hl 3 rfl) ?_
  refine lv_iconst (v := 1) hx hb dL_law_936 (by decide) ?_
  refine lv_iadd hx hb dL_law_937 ?_
  refine va_sld hx hb hX hbl hbA hS v1 dL_law_938 ?_
  rw [← ee1]
  refine lv_aload_n hx hb dL_law_939 rfl (lv_at hl 0 rfl) ?_
  refine lv_iload_n hx hb dL_law_940 rfl (lv_at hl 3 rfl) ?_
  refine lv_iconst (v := 2) hx hb dL_law_941 (by decide) ?_
  refine lv_iadd hx hb dL_law_942 ?_
  refine va_sld hx hb hX hbl hbA hS v2 dL_law_943 ?_
  rw [← ee2]
  obtain ⟨r, p7, p8⟩ := s_heard F G F2 G2 e1 e2 hR
  refine lawX (ad := ad) (bd := bd) (F := F) (G := G) (F' := F) (G' := G) (As := [.int e1, .int e2]) (rest := []) ⟨hx, hb, hml, hown, hts⟩ (c_X7_heard l D ad cA n0 F G e1 e2 p7) (cwV 2 hts gL_law_X7_heard rfl rfl rfl (by decide +kernel) ⟨Nat.le_of_ble_eq_true rfl, Nat.le_of_ble_eq_true rfl⟩) hP hK hD hN hS hA rfl hl.1 rfl (Nat.le_of_ble_eq_true rfl) dL_law_944 (fun H locs hP hD hS => ?_)
  refine lv_aload_n hx hb dL_law_947 rfl (lv_at hl 2 rfl) ?_
  refine lv_aload_n hx hb dL_law_948 rfl (lv_at hl 0 rfl) ?_
  refine lv_iload_n hx hb dL_law_949 rfl (lv_at hl 3 rfl) ?_
  refine lv_iconst (v := 1) hx hb dL_law_950 (by decide) ?_
  refine lv_iadd hx hb dL_law_951 ?_
  refine va_sld hx hb hX hbl hbA hS v1 dL_law_952 ?_
  rw [← ee1]
  refine lv_aload_n hx hb dL_law_953 rfl (lv_at hl 0 rfl) ?_
  refine lv_iload_n hx hb dL_law_954 rfl (lv_at hl 3 rfl) ?_
  refine lv_iconst (v := 2) hx hb dL_law_955 (by decide) ?_
  refine lv_iadd hx hb dL_law_956 ?_
  refine va_sld hx hb hX hbl hbA hS v2 dL_law_957 ?_
  rw [← ee2]
  refine lawM (ad := ad) (bd := bd) (F := F2) (G := G2) (F' := F2) (G' := G2) (As := [.int e1, .int e2]) (rest := [.int r]) ⟨hx, hb, hml, hown, hts⟩ (c_X8_heard l D bd cA n0 F2 G2 e1 e2 p8) (cwV 2 hts gL_law_X8_heard rfl rfl rfl (by decide +kernel) ⟨Nat.le_of_ble_eq_true rfl, Nat.le_of_ble_eq_true rfl⟩) hP hK hD hN hS hA rfl hl.1 rfl (Nat.le_of_ble_eq_true rfl) dL_law_958 (fun H locs hP hD hS => ?_)
  refine lv_icmp_eq (tgt := 1147) hx hb dL_law_961 (by decide) (fun _ => ?_) (fun c9 => absurd rfl c9)
  exact JT _ _ _ _ hR _ _ ls hP hD hS hl
set_option maxHeartbeats 4000000 in
set_option maxRecDepth 100000 in
theorem law_hear {p : Program} {l : Launch} {e : Env} {s : State} {m : MethodId} {below : List Frame} {meth : Method} {c : Code} {D : va_G} {b L : Nat} {xs : Nat → Int32} {cA : ClassId} {ad bd : Nat → Nat} {n0 : Nat} {R : tF → tG → tF → tG → Prop} (C0 : lw_At p s m meth c b L xs) (hN : NwC s) (hK : va_K D vwCl [(cA, .int)] s) (s_hear : simT_hear n0 R) {x3 : Int32} (v1 : vp_in (x3 + 1) L) (v2 : vp_in (x3 + 2) L) (v3 : vp_in (x3 + 3) L) (v4 : vp_in (x3 + 4) L)
    (JT : ∀ (F : tF) (G : tG) (F2 : tF) (G2 : tG), R F G F2 G2 → ∀ (H : Heap) (locs : List Loc) (ls : Array Slot), va_P D vwCl (wC ad cA F G ++ wM bd cA F2 G2) H → va_D (fun q : Nat => s.heap.size ≤ q) (wC ad cA F G ++ wM bd cA F2 G2) → va_S (fun q : Nat => s.heap.size ≤ q) s.heap H locs → lv_has ls 4 [(0, .ref b), (1, .ref (ad 0)), (2, .ref (bd 0)), (3, .int x3)] → W p l e room_1 s m #[Value.ref b] below meth c H locs 51 8872 (lw_Z below #[Value.ref b] s) (F0 m 1147 ls [])) :
    ∀ (F : tF) (G : tG) (F2 : tF) (G2 : tG), R F G F2 G2 → ∀ (H : Heap) (locs : List Loc) (ls : Array Slot), va_P D vwCl (wC ad cA F G ++ wM bd cA F2 G2) H → va_D (fun q : Nat => s.heap.size ≤ q) (wC ad cA F G ++ wM bd cA F2 G2) → va_S (fun q : Nat => s.heap.size ≤ q) s.heap H locs → lv_has ls 4 [(0, .ref b), (1, .ref (ad 0)), (2, .ref (bd 0)), (3, .int x3)] → W p l e room_1 s m #[Value.ref b] below meth c H locs 51 8872 (lw_Z below #[Value.ref b] s) (F0 m 966 ls []) := by
  intro F G F2 G2 hR H locs ls hP hD hS hl
  obtain ⟨hx, hb, hr, hml, hown, hts, hX, hbl, hlocks, hgv⟩ := C0
  have hts := fun w h => hts w (wsL_law_in w h)
  have hown : s.vm.findClass RL = some m.cls := hown
  have hA : ∀ q : Nat, s.heap.size ≤ q → (fun q : Nat => s.heap.size ≤ q) q := fun _ h => h
  have hbA : ¬ (fun q : Nat => s.heap.size ≤ q) b := Nat.not_le.mpr hbl
  obtain ⟨e1, ee1⟩ : ∃ z : Int32, z = xs (x3 + 1).toNatClampNeg := ⟨_, rfl⟩
  obtain ⟨e2, ee2⟩ : ∃ z : Int32, z = xs (x3 + 2).toNatClampNeg := ⟨_, rfl⟩
  obtain ⟨e3, ee3⟩ : ∃ z : Int32, z = xs (x3 + 3).toNatClampNeg := ⟨_, rfl⟩
  obtain ⟨e4, ee4⟩ : ∃ z : Int32, z = xs (x3 + 4).toNatClampNeg := ⟨_, rfl⟩
  refine lv_aload_n hx hb dL_law_966 rfl (lv_at hl 1 rfl) ?_
  refine lv_aload_n hx hb dL_law_967 rfl (lv_at hl 0 rfl) ?_
  refine lv_iload_n hx hb dL_law_968 rfl (lv_at hl 3 rfl) ?_
  refine lv_iconst (v := 1) hx hb dL_law_969 (by decide) ?_
  refine lv_iadd hx hb dL_law_970 ?_
  refine va_sld hx hb hX hbl hbA hS v1 dL_law_971 ?_
  rw [← ee1]
  refine lv_aload_n hx hb dL_law_972 rfl (lv_at hl 0 rfl) ?_
  refine lv_iload_n hx hb dL_law_973 rfl (lv_at hl 3 rfl) ?_
  refine lv_iconst (v := 2) hx hb dL_law_974 (by decide) ?_
  refine lv_iadd hx hb dL_law_975 ?_
  refine va_sld hx hb hX hbl hbA hS v2 dL_law_976 ?_
  rw [← ee2]
  obtain ⟨r, F', G', F2', G2', p7, p8, hR'⟩ := s_hear F G F2 G2 e1 e2 hR
  refine lawX (ad := ad) (bd := bd) (F := F) (G := G) (F' := F') (G' := G') (As := [.int e1, .int e2]) (rest := []) ⟨hx, hb, hml, hown, hts⟩ (c_X7_hear l D ad cA n0 F G e1 e2 p7) (cwV 2 hts gL_law_X7_hear rfl rfl rfl (by decide +kernel) ⟨Nat.le_of_ble_eq_true rfl, Nat.le_of_ble_eq_true rfl⟩) hP hK hD hN hS hA rfl hl.1 rfl (Nat.le_of_ble_eq_true rfl) dL_law_977 (fun H locs hP hD hS => ?_)
  refine lv_aload_n hx hb dL_law_980 rfl (lv_at hl 2 rfl) ?_
  refine lv_aload_n hx hb dL_law_981 rfl (lv_at hl 0 rfl) ?_
  refine lv_iload_n hx hb dL_law_982 rfl (lv_at hl 3 rfl) ?_
  refine lv_iconst (v := 1) hx hb dL_law_983 (by decide) ?_
  refine lv_iadd hx hb dL_law_984 ?_
  refine va_sld hx hb hX hbl hbA hS v1 dL_law_985 ?_
  rw [← ee1]
  refine lv_aload_n hx hb dL_law_986 rfl (lv_at hl 0 rfl) ?_
  refine lv_iload_n hx hb dL_law_987 rfl (lv_at hl 3 rfl) ?_
  refine lv_iconst (v := 2) hx hb dL_law_988 (by decide) ?_
  refine lv_iadd hx hb dL_law_989 ?_
  refine va_sld hx hb hX hbl hbA hS v2 dL_law_990 ?_
  rw [← ee2]
  refine lawM (ad := ad) (bd := bd) (F := F2) (G := G2) (F' := F2') (G' := G2') (As := [.int e1, .int e2]) (rest := [.int r]) ⟨hx, hb, hml, hown, hts⟩ (c_X8_hear l D bd cA n0 F2 G2 e1 e2 p8) (cwV 2 hts gL_law_X8_hear rfl rfl rfl (by decide +kernel) ⟨Nat.le_of_ble_eq_true rfl, Nat.le_of_ble_eq_true rfl⟩) hP hK hD hN hS hA rfl hl.1 rfl (Nat.le_of_ble_eq_true rfl) dL_law_991 (fun H locs hP hD hS => ?_)
  refine lv_icmp_eq (tgt := 1147) hx hb dL_law_994 (by decide) (fun _ => ?_) (fun c9 => absurd rfl c9)
  exact JT _ _ _ _ hR' _ _ ls hP hD hS hl
set_option maxHeartbeats 4000000 in
set_option maxRecDepth 100000 in
theorem law_tell {p : Program} {l : Launch} {e : Env} {s : State} {m : MethodId} {below : List Frame} {meth : Method} {c : Code} {D : va_G} {b L : Nat} {xs : Nat → Int32} {cA : ClassId} {ad bd : Nat → Nat} {n0 : Nat} {R : tF → tG → tF → tG → Prop} (C0 : lw_At p s m meth c b L xs) (hN : NwC s) (hK : va_K D vwCl [(cA, .int)] s) (s_tell : simT_tell n0 R) {x3 : Int32} (v1 : vp_in (x3 + 1) L) (v2 : vp_in (x3 + 2) L) (v3 : vp_in (x3 + 3) L) (v4 : vp_in (x3 + 4) L)
    (JT : ∀ (F : tF) (G : tG) (F2 : tF) (G2 : tG), R F G F2 G2 → ∀ (H : Heap) (locs : List Loc) (ls : Array Slot), va_P D vwCl (wC ad cA F G ++ wM bd cA F2 G2) H → va_D (fun q : Nat => s.heap.size ≤ q) (wC ad cA F G ++ wM bd cA F2 G2) → va_S (fun q : Nat => s.heap.size ≤ q) s.heap H locs → lv_has ls 4 [(0, .ref b), (1, .ref (ad 0)), (2, .ref (bd 0)), (3, .int x3)] → W p l e room_1 s m #[Value.ref b] below meth c H locs 51 8872 (lw_Z below #[Value.ref b] s) (F0 m 1147 ls [])) :
    ∀ (F : tF) (G : tG) (F2 : tF) (G2 : tG), R F G F2 G2 → ∀ (H : Heap) (locs : List Loc) (ls : Array Slot), va_P D vwCl (wC ad cA F G ++ wM bd cA F2 G2) H → va_D (fun q : Nat => s.heap.size ≤ q) (wC ad cA F G ++ wM bd cA F2 G2) → va_S (fun q : Nat => s.heap.size ≤ q) s.heap H locs → lv_has ls 4 [(0, .ref b), (1, .ref (ad 0)), (2, .ref (bd 0)), (3, .int x3)] → W p l e room_1 s m #[Value.ref b] below meth c H locs 51 8872 (lw_Z below #[Value.ref b] s) (F0 m 999 ls []) := by
  intro F G F2 G2 hR H locs ls hP hD hS hl
  obtain ⟨hx, hb, hr, hml, hown, hts, hX, hbl, hlocks, hgv⟩ := C0
  have hts := fun w h => hts w (wsL_law_in w h)
  have hown : s.vm.findClass RL = some m.cls := hown
  have hA : ∀ q : Nat, s.heap.size ≤ q → (fun q : Nat => s.heap.size ≤ q) q := fun _ h => h
  have hbA : ¬ (fun q : Nat => s.heap.size ≤ q) b := Nat.not_le.mpr hbl
  obtain ⟨e1, ee1⟩ : ∃ z : Int32, z = xs (x3 + 1).toNatClampNeg := ⟨_, rfl⟩
  obtain ⟨e2, ee2⟩ : ∃ z : Int32, z = xs (x3 + 2).toNatClampNeg := ⟨_, rfl⟩
  obtain ⟨e3, ee3⟩ : ∃ z : Int32, z = xs (x3 + 3).toNatClampNeg := ⟨_, rfl⟩
  obtain ⟨e4, ee4⟩ : ∃ z : Int32, z = xs (x3 + 4).toNatClampNeg := ⟨_, rfl⟩
  refine lv_aload_n hx hb dL_law_999 rfl (lv_at hl 1 rfl) ?_
  obtain ⟨r, F', G', F2', G2', p7, p8, hR'⟩ := s_tell F G F2 G2  hR
  refine lawX (ad := ad) (bd := bd) (F := F) (G := G) (F' := F') (G' := G') (As := []) (rest := []) ⟨hx, hb, hml, hown, hts⟩ (c_X7_tell l D ad cA n0 F G  p7) (cwV 0 hts gL_law_X7_tell rfl rfl rfl (by decide +kernel) ⟨Nat.le_of_ble_eq_true rfl, Nat.le_of_ble_eq_true rfl⟩) hP hK hD hN hS hA rfl hl.1 rfl (Nat.le_of_ble_eq_true rfl) dL_law_1000 (fun H locs hP hD hS => ?_)
  refine lv_aload_n hx hb dL_law_1003 rfl (lv_at hl 2 rfl) ?_
  refine lawM (ad := ad) (bd := bd) (F := F2) (G := G2) (F' := F2') (G' := G2') (As := []) (rest := [.int r]) ⟨hx, hb, hml, hown, hts⟩ (c_X8_tell l D bd cA n0 F2 G2  p8) (cwV 0 hts gL_law_X8_tell rfl rfl rfl (by decide +kernel) ⟨Nat.le_of_ble_eq_true rfl, Nat.le_of_ble_eq_true rfl⟩) hP hK hD hN hS hA rfl hl.1 rfl (Nat.le_of_ble_eq_true rfl) dL_law_1004 (fun H locs hP hD hS => ?_)
  refine lv_icmp_eq (tgt := 1147) hx hb dL_law_1007 (by decide) (fun _ => ?_) (fun c9 => absurd rfl c9)
  exact JT _ _ _ _ hR' _ _ ls hP hD hS hl
set_option maxHeartbeats 4000000 in
set_option maxRecDepth 100000 in
theorem law_tight {p : Program} {l : Launch} {e : Env} {s : State} {m : MethodId} {below : List Frame} {meth : Method} {c : Code} {D : va_G} {b L : Nat} {xs : Nat → Int32} {cA : ClassId} {ad bd : Nat → Nat} {n0 : Nat} {R : tF → tG → tF → tG → Prop} (C0 : lw_At p s m meth c b L xs) (hN : NwC s) (hK : va_K D vwCl [(cA, .int)] s) (s_tight : simT_tight n0 R) {x3 : Int32} (v1 : vp_in (x3 + 1) L) (v2 : vp_in (x3 + 2) L) (v3 : vp_in (x3 + 3) L) (v4 : vp_in (x3 + 4) L)
    (JT : ∀ (F : tF) (G : tG) (F2 : tF) (G2 : tG), R F G F2 G2 → ∀ (H : Heap) (locs : List Loc) (ls : Array Slot), va_P D vwCl (wC ad cA F G ++ wM bd cA F2 G2) H → va_D (fun q : Nat => s.heap.size ≤ q) (wC ad cA F G ++ wM bd cA F2 G2) → va_S (fun q : Nat => s.heap.size ≤ q) s.heap H locs → lv_has ls 4 [(0, .ref b), (1, .ref (ad 0)), (2, .ref (bd 0)), (3, .int x3)] → W p l e room_1 s m #[Value.ref b] below meth c H locs 51 8872 (lw_Z below #[Value.ref b] s) (F0 m 1147 ls [])) :
    ∀ (F : tF) (G : tG) (F2 : tF) (G2 : tG), R F G F2 G2 → ∀ (H : Heap) (locs : List Loc) (ls : Array Slot), va_P D vwCl (wC ad cA F G ++ wM bd cA F2 G2) H → va_D (fun q : Nat => s.heap.size ≤ q) (wC ad cA F G ++ wM bd cA F2 G2) → va_S (fun q : Nat => s.heap.size ≤ q) s.heap H locs → lv_has ls 4 [(0, .ref b), (1, .ref (ad 0)), (2, .ref (bd 0)), (3, .int x3)] → W p l e room_1 s m #[Value.ref b] below meth c H locs 51 8872 (lw_Z below #[Value.ref b] s) (F0 m 1012 ls []) := by
  intro F G F2 G2 hR H locs ls hP hD hS hl
  obtain ⟨hx, hb, hr, hml, hown, hts, hX, hbl, hlocks, hgv⟩ := C0
  have hts := fun w h => hts w (wsL_law_in w h)
  have hown : s.vm.findClass RL = some m.cls := hown
  have hA : ∀ q : Nat, s.heap.size ≤ q → (fun q : Nat => s.heap.size ≤ q) q := fun _ h => h
  have hbA : ¬ (fun q : Nat => s.heap.size ≤ q) b := Nat.not_le.mpr hbl
  obtain ⟨e1, ee1⟩ : ∃ z : Int32, z = xs (x3 + 1).toNatClampNeg := ⟨_, rfl⟩
  obtain ⟨e2, ee2⟩ : ∃ z : Int32, z = xs (x3 + 2).toNatClampNeg := ⟨_, rfl⟩
  obtain ⟨e3, ee3⟩ : ∃ z : Int32, z = xs (x3 + 3).toNatClampNeg := ⟨_, rfl⟩
  obtain ⟨e4, ee4⟩ : ∃ z : Int32, z = xs (x3 + 4).toNatClampNeg := ⟨_, rfl⟩
  refine lv_aload_n hx hb dL_law_1012 rfl (lv_at hl 1 rfl) ?_
  obtain ⟨r, p7, p8⟩ := s_tight F G F2 G2  hR
  refine lawX (ad := ad) (bd := bd) (F := F) (G := G) (F' := F) (G' := G) (As := []) (rest := []) ⟨hx, hb, hml, hown, hts⟩ (c_X7_tight l D ad cA n0 F G  p7) (cwV 0 hts gL_law_X7_tight rfl rfl rfl (by decide +kernel) ⟨Nat.le_of_ble_eq_true rfl, Nat.le_of_ble_eq_true rfl⟩) hP hK hD hN hS hA rfl hl.1 rfl (Nat.le_of_ble_eq_true rfl) dL_law_1013 (fun H locs hP hD hS => ?_)
  refine lv_aload_n hx hb dL_law_1016 rfl (lv_at hl 2 rfl) ?_
  refine lawM (ad := ad) (bd := bd) (F := F2) (G := G2) (F' := F2) (G' := G2) (As := []) (rest := [.int r]) ⟨hx, hb, hml, hown, hts⟩ (c_X8_tight l D bd cA n0 F2 G2  p8) (cwV 0 hts gL_law_X8_tight rfl rfl rfl (by decide +kernel) ⟨Nat.le_of_ble_eq_true rfl, Nat.le_of_ble_eq_true rfl⟩) hP hK hD hN hS hA rfl hl.1 rfl (Nat.le_of_ble_eq_true rfl) dL_law_1017 (fun H locs hP hD hS => ?_)
  refine lv_icmp_eq (tgt := 1147) hx hb dL_law_1020 (by decide) (fun _ => ?_) (fun c9 => absurd rfl c9)
  exact JT _ _ _ _ hR _ _ ls hP hD hS hl
set_option maxHeartbeats 4000000 in
set_option maxRecDepth 100000 in
theorem law_free {p : Program} {l : Launch} {e : Env} {s : State} {m : MethodId} {below : List Frame} {meth : Method} {c : Code} {D : va_G} {b L : Nat} {xs : Nat → Int32} {cA : ClassId} {ad bd : Nat → Nat} {n0 : Nat} {R : tF → tG → tF → tG → Prop} (C0 : lw_At p s m meth c b L xs) (hN : NwC s) (hK : va_K D vwCl [(cA, .int)] s) (s_free : simT_free n0 R) {x3 : Int32} (v1 : vp_in (x3 + 1) L) (v2 : vp_in (x3 + 2) L) (v3 : vp_in (x3 + 3) L) (v4 : vp_in (x3 + 4) L)
    (JT : ∀ (F : tF) (G : tG) (F2 : tF) (G2 : tG), R F G F2 G2 → ∀ (H : Heap) (locs : List Loc) (ls : Array Slot), va_P D vwCl (wC ad cA F G ++ wM bd cA F2 G2) H → va_D (fun q : Nat => s.heap.size ≤ q) (wC ad cA F G ++ wM bd cA F2 G2) → va_S (fun q : Nat => s.heap.size ≤ q) s.heap H locs → lv_has ls 4 [(0, .ref b), (1, .ref (ad 0)), (2, .ref (bd 0)), (3, .int x3)] → W p l e room_1 s m #[Value.ref b] below meth c H locs 51 8872 (lw_Z below #[Value.ref b] s) (F0 m 1147 ls [])) :
    ∀ (F : tF) (G : tG) (F2 : tF) (G2 : tG), R F G F2 G2 → ∀ (H : Heap) (locs : List Loc) (ls : Array Slot), va_P D vwCl (wC ad cA F G ++ wM bd cA F2 G2) H → va_D (fun q : Nat => s.heap.size ≤ q) (wC ad cA F G ++ wM bd cA F2 G2) → va_S (fun q : Nat => s.heap.size ≤ q) s.heap H locs → lv_has ls 4 [(0, .ref b), (1, .ref (ad 0)), (2, .ref (bd 0)), (3, .int x3)] → W p l e room_1 s m #[Value.ref b] below meth c H locs 51 8872 (lw_Z below #[Value.ref b] s) (F0 m 1025 ls []) := by
  intro F G F2 G2 hR H locs ls hP hD hS hl
  obtain ⟨hx, hb, hr, hml, hown, hts, hX, hbl, hlocks, hgv⟩ := C0
  have hts := fun w h => hts w (wsL_law_in w h)
  have hown : s.vm.findClass RL = some m.cls := hown
  have hA : ∀ q : Nat, s.heap.size ≤ q → (fun q : Nat => s.heap.size ≤ q) q := fun _ h => h
  have hbA : ¬ (fun q : Nat => s.heap.size ≤ q) b := Nat.not_le.mpr hbl
  obtain ⟨e1, ee1⟩ : ∃ z : Int32, z = xs (x3 + 1).toNatClampNeg := ⟨_, rfl⟩
  obtain ⟨e2, ee2⟩ : ∃ z : Int32, z = xs (x3 + 2).toNatClampNeg := ⟨_, rfl⟩
  obtain ⟨e3, ee3⟩ : ∃ z : Int32, z = xs (x3 + 3).toNatClampNeg := ⟨_, rfl⟩
  obtain ⟨e4, ee4⟩ : ∃ z : Int32, z = xs (x3 + 4).toNatClampNeg := ⟨_, rfl⟩
  refine lv_aload_n hx hb dL_law_1025 rfl (lv_at hl 1 rfl) ?_
  refine lv_aload_n hx hb dL_law_1026 rfl (lv_at hl 0 rfl) ?_
  refine lv_iload_n hx hb dL_law_1027 rfl (lv_at hl 3 rfl) ?_
  refine lv_iconst (v := 1) hx hb dL_law_1028 (by decide) ?_
  refine lv_iadd hx hb dL_law_1029 ?_
  refine va_sld hx hb hX hbl hbA hS v1 dL_law_1030 ?_
  rw [← ee1]
  obtain ⟨r, p7, p8⟩ := s_free F G F2 G2 e1 hR
  refine lawX (ad := ad) (bd := bd) (F := F) (G := G) (F' := F) (G' := G) (As := [.int e1]) (rest := []) ⟨hx, hb, hml, hown, hts⟩ (c_X7_free l D ad cA n0 F G e1 p7) (cwV 1 hts gL_law_X7_free rfl rfl rfl (by decide +kernel) ⟨Nat.le_of_ble_eq_true rfl, Nat.le_of_ble_eq_true rfl⟩) hP hK hD hN hS hA rfl hl.1 rfl (Nat.le_of_ble_eq_true rfl) dL_law_1031 (fun H locs hP hD hS => ?_)
  refine lv_aload_n hx hb dL_law_1034 rfl (lv_at hl 2 rfl) ?_
  refine lv_aload_n hx hb dL_law_1035 rfl (lv_at hl 0 rfl) ?_
  refine lv_iload_n hx hb dL_law_1036 rfl (lv_at hl 3 rfl) ?_
  refine lv_iconst (v := 1) hx hb dL_law_1037 (by decide) ?_
  refine lv_iadd hx hb dL_law_1038 ?_
  refine va_sld hx hb hX hbl hbA hS v1 dL_law_1039 ?_
  rw [← ee1]
  refine lawM (ad := ad) (bd := bd) (F := F2) (G := G2) (F' := F2) (G' := G2) (As := [.int e1]) (rest := [.int r]) ⟨hx, hb, hml, hown, hts⟩ (c_X8_free l D bd cA n0 F2 G2 e1 p8) (cwV 1 hts gL_law_X8_free rfl rfl rfl (by decide +kernel) ⟨Nat.le_of_ble_eq_true rfl, Nat.le_of_ble_eq_true rfl⟩) hP hK hD hN hS hA rfl hl.1 rfl (Nat.le_of_ble_eq_true rfl) dL_law_1040 (fun H locs hP hD hS => ?_)
  refine lv_icmp_eq (tgt := 1147) hx hb dL_law_1043 (by decide) (fun _ => ?_) (fun c9 => absurd rfl c9)
  exact JT _ _ _ _ hR _ _ ls hP hD hS hl
set_option maxHeartbeats 4000000 in
set_option maxRecDepth 100000 in
theorem law_entry {p : Program} {l : Launch} {e : Env} {s : State} {m : MethodId} {below : List Frame} {meth : Method} {c : Code} {D : va_G} {b L : Nat} {xs : Nat → Int32} {cA : ClassId} {ad bd : Nat → Nat} {n0 : Nat} {R : tF → tG → tF → tG → Prop} (C0 : lw_At p s m meth c b L xs) (hN : NwC s) (hK : va_K D vwCl [(cA, .int)] s) (s_entry : simT_entry n0 R) {x3 : Int32} (v1 : vp_in (x3 + 1) L) (v2 : vp_in (x3 + 2) L) (v3 : vp_in (x3 + 3) L) (v4 : vp_in (x3 + 4) L)
    (JT : ∀ (F : tF) (G : tG) (F2 : tF) (G2 : tG), R F G F2 G2 → ∀ (H : Heap) (locs : List Loc) (ls : Array Slot), va_P D vwCl (wC ad cA F G ++ wM bd cA F2 G2) H → va_D (fun q : Nat => s.heap.size ≤ q) (wC ad cA F G ++ wM bd cA F2 G2) → va_S (fun q : Nat => s.heap.size ≤ q) s.heap H locs → lv_has ls 4 [(0, .ref b), (1, .ref (ad 0)), (2, .ref (bd 0)), (3, .int x3)] → W p l e room_1 s m #[Value.ref b] below meth c H locs 51 8872 (lw_Z below #[Value.ref b] s) (F0 m 1147 ls [])) :
    ∀ (F : tF) (G : tG) (F2 : tF) (G2 : tG), R F G F2 G2 → ∀ (H : Heap) (locs : List Loc) (ls : Array Slot), va_P D vwCl (wC ad cA F G ++ wM bd cA F2 G2) H → va_D (fun q : Nat => s.heap.size ≤ q) (wC ad cA F G ++ wM bd cA F2 G2) → va_S (fun q : Nat => s.heap.size ≤ q) s.heap H locs → lv_has ls 4 [(0, .ref b), (1, .ref (ad 0)), (2, .ref (bd 0)), (3, .int x3)] → W p l e room_1 s m #[Value.ref b] below meth c H locs 51 8872 (lw_Z below #[Value.ref b] s) (F0 m 1048 ls []) := by
  intro F G F2 G2 hR H locs ls hP hD hS hl
  obtain ⟨hx, hb, hr, hml, hown, hts, hX, hbl, hlocks, hgv⟩ := C0
  have hts := fun w h => hts w (wsL_law_in w h)
  have hown : s.vm.findClass RL = some m.cls := hown
  have hA : ∀ q : Nat, s.heap.size ≤ q → (fun q : Nat => s.heap.size ≤ q) q := fun _ h => h
  have hbA : ¬ (fun q : Nat => s.heap.size ≤ q) b := Nat.not_le.mpr hbl
  obtain ⟨e1, ee1⟩ : ∃ z : Int32, z = xs (x3 + 1).toNatClampNeg := ⟨_, rfl⟩
  obtain ⟨e2, ee2⟩ : ∃ z : Int32, z = xs (x3 + 2).toNatClampNeg := ⟨_, rfl⟩
  obtain ⟨e3, ee3⟩ : ∃ z : Int32, z = xs (x3 + 3).toNatClampNeg := ⟨_, rfl⟩
  obtain ⟨e4, ee4⟩ : ∃ z : Int32, z = xs (x3 + 4).toNatClampNeg := ⟨_, rfl⟩
  refine lv_aload_n hx hb dL_law_1048 rfl (lv_at hl 1 rfl) ?_
  refine lv_aload_n hx hb dL_law_1049 rfl (lv_at hl 0 rfl) ?_
  refine lv_iload_n hx hb dL_law_1050 rfl (lv_at hl 3 rfl) ?_
  refine lv_iconst (v := 1) hx hb dL_law_1051 (by decide) ?_
  refine lv_iadd hx hb dL_law_1052 ?_
  refine va_sld hx hb hX hbl hbA hS v1 dL_law_1053 ?_
  rw [← ee1]
  refine lv_aload_n hx hb dL_law_1054 rfl (lv_at hl 0 rfl) ?_
  refine lv_iload_n hx hb dL_law_1055 rfl (lv_at hl 3 rfl) ?_
  refine lv_iconst (v := 2) hx hb dL_law_1056 (by decide) ?_
  refine lv_iadd hx hb dL_law_1057 ?_
  refine va_sld hx hb hX hbl hbA hS v2 dL_law_1058 ?_
  rw [← ee2]
  refine lv_aload_n hx hb dL_law_1059 rfl (lv_at hl 0 rfl) ?_
  refine lv_iload_n hx hb dL_law_1060 rfl (lv_at hl 3 rfl) ?_
  refine lv_iconst (v := 3) hx hb dL_law_1061 (by decide) ?_
  refine lv_iadd hx hb dL_law_1062 ?_
  refine va_sld hx hb hX hbl hbA hS v3 dL_law_1063 ?_
  rw [← ee3]
  obtain ⟨r, F', G', F2', G2', p7, p8, hR'⟩ := s_entry F G F2 G2 e1 e2 e3 hR
  refine lawX (ad := ad) (bd := bd) (F := F) (G := G) (F' := F') (G' := G') (As := [.int e1, .int e2, .int e3]) (rest := []) ⟨hx, hb, hml, hown, hts⟩ (c_X7_entry l D ad cA n0 F G e1 e2 e3 p7) (cwV 3 hts gL_law_X7_entry rfl rfl rfl (by decide +kernel) ⟨Nat.le_of_ble_eq_true rfl, Nat.le_of_ble_eq_true rfl⟩) hP hK hD hN hS hA rfl hl.1 rfl (Nat.le_of_ble_eq_true rfl) dL_law_1064 (fun H locs hP hD hS => ?_)
  refine lv_aload_n hx hb dL_law_1067 rfl (lv_at hl 2 rfl) ?_
  refine lv_aload_n hx hb dL_law_1068 rfl (lv_at hl 0 rfl) ?_
  refine lv_iload_n hx hb dL_law_1069 rfl (lv_at hl 3 rfl) ?_
  refine lv_iconst (v := 1) hx hb dL_law_1070 (by decide) ?_
  refine lv_iadd hx hb dL_law_1071 ?_
  refine va_sld hx hb hX hbl hbA hS v1 dL_law_1072 ?_
  rw [← ee1]
  refine lv_aload_n hx hb dL_law_1073 rfl (lv_at hl 0 rfl) ?_
  refine lv_iload_n hx hb dL_law_1074 rfl (lv_at hl 3 rfl) ?_
  refine lv_iconst (v := 2) hx hb dL_law_1075 (by decide) ?_
  refine lv_iadd hx hb dL_law_1076 ?_
  refine va_sld hx hb hX hbl hbA hS v2 dL_law_1077 ?_
  rw [← ee2]
  refine lv_aload_n hx hb dL_law_1078 rfl (lv_at hl 0 rfl) ?_
  refine lv_iload_n hx hb dL_law_1079 rfl (lv_at hl 3 rfl) ?_
  refine lv_iconst (v := 3) hx hb dL_law_1080 (by decide) ?_
  refine lv_iadd hx hb dL_law_1081 ?_
  refine va_sld hx hb hX hbl hbA hS v3 dL_law_1082 ?_
  rw [← ee3]
  refine lawM (ad := ad) (bd := bd) (F := F2) (G := G2) (F' := F2') (G' := G2') (As := [.int e1, .int e2, .int e3]) (rest := [.int r]) ⟨hx, hb, hml, hown, hts⟩ (c_X8_entry l D bd cA n0 F2 G2 e1 e2 e3 p8) (cwV 3 hts gL_law_X8_entry rfl rfl rfl (by decide +kernel) ⟨Nat.le_of_ble_eq_true rfl, Nat.le_of_ble_eq_true rfl⟩) hP hK hD hN hS hA rfl hl.1 rfl (Nat.le_of_ble_eq_true rfl) dL_law_1083 (fun H locs hP hD hS => ?_)
  refine lv_icmp_eq (tgt := 1147) hx hb dL_law_1086 (by decide) (fun _ => ?_) (fun c9 => absurd rfl c9)
  exact JT _ _ _ _ hR' _ _ ls hP hD hS hl
set_option maxHeartbeats 4000000 in
set_option maxRecDepth 100000 in
theorem law_log {p : Program} {l : Launch} {e : Env} {s : State} {m : MethodId} {below : List Frame} {meth : Method} {c : Code} {D : va_G} {b L : Nat} {xs : Nat → Int32} {cA : ClassId} {ad bd : Nat → Nat} {n0 : Nat} {R : tF → tG → tF → tG → Prop} (C0 : lw_At p s m meth c b L xs) (hN : NwC s) (hK : va_K D vwCl [(cA, .int)] s) (s_log : simT_log n0 R) {x3 : Int32} (v1 : vp_in (x3 + 1) L) (v2 : vp_in (x3 + 2) L) (v3 : vp_in (x3 + 3) L) (v4 : vp_in (x3 + 4) L)
    (JT : ∀ (F : tF) (G : tG) (F2 : tF) (G2 : tG), R F G F2 G2 → ∀ (H : Heap) (locs : List Loc) (ls : Array Slot), va_P D vwCl (wC ad cA F G ++ wM bd cA F2 G2) H → va_D (fun q : Nat => s.heap.size ≤ q) (wC ad cA F G ++ wM bd cA F2 G2) → va_S (fun q : Nat => s.heap.size ≤ q) s.heap H locs → lv_has ls 4 [(0, .ref b), (1, .ref (ad 0)), (2, .ref (bd 0)), (3, .int x3)] → W p l e room_1 s m #[Value.ref b] below meth c H locs 51 8872 (lw_Z below #[Value.ref b] s) (F0 m 1147 ls [])) :
    ∀ (F : tF) (G : tG) (F2 : tF) (G2 : tG), R F G F2 G2 → ∀ (H : Heap) (locs : List Loc) (ls : Array Slot), va_P D vwCl (wC ad cA F G ++ wM bd cA F2 G2) H → va_D (fun q : Nat => s.heap.size ≤ q) (wC ad cA F G ++ wM bd cA F2 G2) → va_S (fun q : Nat => s.heap.size ≤ q) s.heap H locs → lv_has ls 4 [(0, .ref b), (1, .ref (ad 0)), (2, .ref (bd 0)), (3, .int x3)] → W p l e room_1 s m #[Value.ref b] below meth c H locs 51 8872 (lw_Z below #[Value.ref b] s) (F0 m 1091 ls []) := by
  intro F G F2 G2 hR H locs ls hP hD hS hl
  obtain ⟨hx, hb, hr, hml, hown, hts, hX, hbl, hlocks, hgv⟩ := C0
  have hts := fun w h => hts w (wsL_law_in w h)
  have hown : s.vm.findClass RL = some m.cls := hown
  have hA : ∀ q : Nat, s.heap.size ≤ q → (fun q : Nat => s.heap.size ≤ q) q := fun _ h => h
  have hbA : ¬ (fun q : Nat => s.heap.size ≤ q) b := Nat.not_le.mpr hbl
  obtain ⟨e1, ee1⟩ : ∃ z : Int32, z = xs (x3 + 1).toNatClampNeg := ⟨_, rfl⟩
  obtain ⟨e2, ee2⟩ : ∃ z : Int32, z = xs (x3 + 2).toNatClampNeg := ⟨_, rfl⟩
  obtain ⟨e3, ee3⟩ : ∃ z : Int32, z = xs (x3 + 3).toNatClampNeg := ⟨_, rfl⟩
  obtain ⟨e4, ee4⟩ : ∃ z : Int32, z = xs (x3 + 4).toNatClampNeg := ⟨_, rfl⟩
  refine lv_aload_n hx hb dL_law_1091 rfl (lv_at hl 1 rfl) ?_
  refine lv_aload_n hx hb dL_law_1092 rfl (lv_at hl 0 rfl) ?_
  refine lv_iload_n hx hb dL_law_1093 rfl (lv_at hl 3 rfl) ?_
  refine lv_iconst (v := 1) hx hb dL_law_1094 (by decide) ?_
  refine lv_iadd hx hb dL_law_1095 ?_
  refine va_sld hx hb hX hbl hbA hS v1 dL_law_1096 ?_
  rw [← ee1]
  refine lv_aload_n hx hb dL_law_1097 rfl (lv_at hl 0 rfl) ?_
  refine lv_iload_n hx hb dL_law_1098 rfl (lv_at hl 3 rfl) ?_
  refine lv_iconst (v := 2) hx hb dL_law_1099 (by decide) ?_
  refine lv_iadd hx hb dL_law_1100 ?_
  refine va_sld hx hb hX hbl hbA hS v2 dL_law_1101 ?_
  rw [← ee2]
  obtain ⟨r, F', G', F2', G2', p7, p8, hR'⟩ := s_log F G F2 G2 e1 e2 hR
  refine lawX (ad := ad) (bd := bd) (F := F) (G := G) (F' := F') (G' := G') (As := [.int e1, .int e2]) (rest := []) ⟨hx, hb, hml, hown, hts⟩ (c_X7_log l D ad cA n0 F G e1 e2 p7) (cwV 2 hts gL_law_X7_log rfl rfl rfl (by decide +kernel) ⟨Nat.le_of_ble_eq_true rfl, Nat.le_of_ble_eq_true rfl⟩) hP hK hD hN hS hA rfl hl.1 rfl (Nat.le_of_ble_eq_true rfl) dL_law_1102 (fun H locs hP hD hS => ?_)
  refine lv_aload_n hx hb dL_law_1105 rfl (lv_at hl 2 rfl) ?_
  refine lv_aload_n hx hb dL_law_1106 rfl (lv_at hl 0 rfl) ?_
  refine lv_iload_n hx hb dL_law_1107 rfl (lv_at hl 3 rfl) ?_
  refine lv_iconst (v := 1) hx hb dL_law_1108 (by decide) ?_
  refine lv_iadd hx hb dL_law_1109 ?_
  refine va_sld hx hb hX hbl hbA hS v1 dL_law_1110 ?_
  rw [← ee1]
  refine lv_aload_n hx hb dL_law_1111 rfl (lv_at hl 0 rfl) ?_
  refine lv_iload_n hx hb dL_law_1112 rfl (lv_at hl 3 rfl) ?_
  refine lv_iconst (v := 2) hx hb dL_law_1113 (by decide) ?_
  refine lv_iadd hx hb dL_law_1114 ?_
  refine va_sld hx hb hX hbl hbA hS v2 dL_law_1115 ?_
  rw [← ee2]
  refine lawM (ad := ad) (bd := bd) (F := F2) (G := G2) (F' := F2') (G' := G2') (As := [.int e1, .int e2]) (rest := [.int r]) ⟨hx, hb, hml, hown, hts⟩ (c_X8_log l D bd cA n0 F2 G2 e1 e2 p8) (cwV 2 hts gL_law_X8_log rfl rfl rfl (by decide +kernel) ⟨Nat.le_of_ble_eq_true rfl, Nat.le_of_ble_eq_true rfl⟩) hP hK hD hN hS hA rfl hl.1 rfl (Nat.le_of_ble_eq_true rfl) dL_law_1116 (fun H locs hP hD hS => ?_)
  refine lv_icmp_eq (tgt := 1147) hx hb dL_law_1119 (by decide) (fun _ => ?_) (fun c9 => absurd rfl c9)
  exact JT _ _ _ _ hR' _ _ ls hP hD hS hl
set_option maxHeartbeats 4000000 in
set_option maxRecDepth 100000 in
theorem law_told {p : Program} {l : Launch} {e : Env} {s : State} {m : MethodId} {below : List Frame} {meth : Method} {c : Code} {D : va_G} {b L : Nat} {xs : Nat → Int32} {cA : ClassId} {ad bd : Nat → Nat} {n0 : Nat} {R : tF → tG → tF → tG → Prop} (C0 : lw_At p s m meth c b L xs) (hN : NwC s) (hK : va_K D vwCl [(cA, .int)] s) (s_told : simT_told n0 R) {x3 : Int32} (v1 : vp_in (x3 + 1) L) (v2 : vp_in (x3 + 2) L) (v3 : vp_in (x3 + 3) L) (v4 : vp_in (x3 + 4) L)
    (JT : ∀ (F : tF) (G : tG) (F2 : tF) (G2 : tG), R F G F2 G2 → ∀ (H : Heap) (locs : List Loc) (ls : Array Slot), va_P D vwCl (wC ad cA F G ++ wM bd cA F2 G2) H → va_D (fun q : Nat => s.heap.size ≤ q) (wC ad cA F G ++ wM bd cA F2 G2) → va_S (fun q : Nat => s.heap.size ≤ q) s.heap H locs → lv_has ls 4 [(0, .ref b), (1, .ref (ad 0)), (2, .ref (bd 0)), (3, .int x3)] → W p l e room_1 s m #[Value.ref b] below meth c H locs 51 8872 (lw_Z below #[Value.ref b] s) (F0 m 1147 ls [])) :
    ∀ (F : tF) (G : tG) (F2 : tF) (G2 : tG), R F G F2 G2 → ∀ (H : Heap) (locs : List Loc) (ls : Array Slot), va_P D vwCl (wC ad cA F G ++ wM bd cA F2 G2) H → va_D (fun q : Nat => s.heap.size ≤ q) (wC ad cA F G ++ wM bd cA F2 G2) → va_S (fun q : Nat => s.heap.size ≤ q) s.heap H locs → lv_has ls 4 [(0, .ref b), (1, .ref (ad 0)), (2, .ref (bd 0)), (3, .int x3)] → W p l e room_1 s m #[Value.ref b] below meth c H locs 51 8872 (lw_Z below #[Value.ref b] s) (F0 m 1124 ls []) := by
  intro F G F2 G2 hR H locs ls hP hD hS hl
  obtain ⟨hx, hb, hr, hml, hown, hts, hX, hbl, hlocks, hgv⟩ := C0
  have hts := fun w h => hts w (wsL_law_in w h)
  have hown : s.vm.findClass RL = some m.cls := hown
  have hA : ∀ q : Nat, s.heap.size ≤ q → (fun q : Nat => s.heap.size ≤ q) q := fun _ h => h
  have hbA : ¬ (fun q : Nat => s.heap.size ≤ q) b := Nat.not_le.mpr hbl
  obtain ⟨e1, ee1⟩ : ∃ z : Int32, z = xs (x3 + 1).toNatClampNeg := ⟨_, rfl⟩
  obtain ⟨e2, ee2⟩ : ∃ z : Int32, z = xs (x3 + 2).toNatClampNeg := ⟨_, rfl⟩
  obtain ⟨e3, ee3⟩ : ∃ z : Int32, z = xs (x3 + 3).toNatClampNeg := ⟨_, rfl⟩
  obtain ⟨e4, ee4⟩ : ∃ z : Int32, z = xs (x3 + 4).toNatClampNeg := ⟨_, rfl⟩
  refine lv_aload_n hx hb dL_law_1124 rfl (lv_at hl 1 rfl) ?_
  refine lv_aload_n hx hb dL_law_1125 rfl (lv_at hl 0 rfl) ?_
  refine lv_iload_n hx hb dL_law_1126 rfl (lv_at hl 3 rfl) ?_
  refine lv_iconst (v := 1) hx hb dL_law_1127 (by decide) ?_
  refine lv_iadd hx hb dL_law_1128 ?_
  refine va_sld hx hb hX hbl hbA hS v1 dL_law_1129 ?_
  rw [← ee1]
  obtain ⟨r, p7, p8⟩ := s_told F G F2 G2 e1 hR
  refine lawX (ad := ad) (bd := bd) (F := F) (G := G) (F' := F) (G' := G) (As := [.int e1]) (rest := []) ⟨hx, hb, hml, hown, hts⟩ (c_X7_told l D ad cA n0 F G e1 p7) (cwV 1 hts gL_law_X7_told rfl rfl rfl (by decide +kernel) ⟨Nat.le_of_ble_eq_true rfl, Nat.le_of_ble_eq_true rfl⟩) hP hK hD hN hS hA rfl hl.1 rfl (Nat.le_of_ble_eq_true rfl) dL_law_1130 (fun H locs hP hD hS => ?_)
  refine lv_aload_n hx hb dL_law_1133 rfl (lv_at hl 2 rfl) ?_
  refine lv_aload_n hx hb dL_law_1134 rfl (lv_at hl 0 rfl) ?_
  refine lv_iload_n hx hb dL_law_1135 rfl (lv_at hl 3 rfl) ?_
  refine lv_iconst (v := 1) hx hb dL_law_1136 (by decide) ?_
  refine lv_iadd hx hb dL_law_1137 ?_
  refine va_sld hx hb hX hbl hbA hS v1 dL_law_1138 ?_
  rw [← ee1]
  refine lawM (ad := ad) (bd := bd) (F := F2) (G := G2) (F' := F2) (G' := G2) (As := [.int e1]) (rest := [.int r]) ⟨hx, hb, hml, hown, hts⟩ (c_X8_told l D bd cA n0 F2 G2 e1 p8) (cwV 1 hts gL_law_X8_told rfl rfl rfl (by decide +kernel) ⟨Nat.le_of_ble_eq_true rfl, Nat.le_of_ble_eq_true rfl⟩) hP hK hD hN hS hA rfl hl.1 rfl (Nat.le_of_ble_eq_true rfl) dL_law_1139 (fun H locs hP hD hS => ?_)
  refine lv_icmp_eq (tgt := 1147) hx hb dL_law_1142 (by decide) (fun _ => ?_) (fun c9 => absurd rfl c9)
  exact JT _ _ _ _ hR _ _ ls hP hD hS hl
