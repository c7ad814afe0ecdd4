set_option maxHeartbeats 4000000 in
set_option maxRecDepth 100000 in
theorem law_room {p : Program} {l : Launch} {e : Env} {s : State} {m : MethodId} {below : List Frame} {meth : Method} {c : Code} {D : va_G} {b L : Nat} {xs : Nat → Int32} {cA : ClassId} {ad bd : Nat → Nat} {n0 : Nat} {R : tF → tG → tF → tG → Prop} (C0 : lw_At p s m meth c b L xs) (hN : NwC s) (hK : va_K D vwCl [(cA, .int)] s) (s_room : simT_room n0 R) {x3 : Int32} (v1 : vp_in (x3 + 1) L) (v2 : vp_in (x3 + 2) L) (v3 : vp_in (x3 + 3) L) (v4 : vp_in (x3 + 4) L)
    (JT : ∀ (F : tF) (G : tG) (F2 : tF) (G2 : tG), R F G F2 G2 → ∀ (H : Heap) (locs : List Loc) (ls : Array Slot), va_P D vwCl (wC ad cA F G ++ wM bd cA F2 G2) H → va_D (fun q : Nat => s.heap.size ≤ q) (wC ad cA F G ++ wM bd cA F2 G2) → va_S (fun q : Nat => s.heap.size ≤ q) s.heap H locs → lv_has ls 4 [(0, .ref b), (1, .ref (ad 0)), (2, .ref (bd 0)), (3, .int x3)] → W p l e room_1 s m #[Value.ref b] below meth c H locs 51 8872 (lw_Z below #[Value.ref b] s) (F0 m 1147 ls [])) :
    ∀ (F : tF) (G : tG) (F2 : tF) (G2 : tG), R F G F2 G2 → ∀ (H : Heap) (locs : List Loc) (ls : Array Slot), va_P D vwCl (wC ad cA F G ++ wM bd cA F2 G2) H → va_D (fun q : Nat => s.heap.size ≤ q) (wC ad cA F G ++ wM bd cA F2 G2) → va_S (fun q : Nat => s.heap.size ≤ q) s.heap H locs → lv_has ls 4 [(0, .ref b), (1, .ref (ad 0)), (2, .ref (bd 0)), (3, .int x3)] → W p l e room_1 s m #[Value.ref b] below meth c H locs 51 8872 (lw_Z below #[Value.ref b] s) (F0 m 180 ls []) := by
  intro F G F2 G2 hR H locs ls hP hD hS hl
  obtain ⟨hx, hb, hr, hml, hown, hts, hX, hbl, hlocks, hgv⟩ := C0
  have hts := fun w h => hts w (wsL_law_in w h)
  have hown : s.vm.findClass RL = some m.cls := hown
  have hA : ∀ q : Nat, s.heap.size ≤ q → (fun q : Nat => s.heap.size ≤ q) q := fun _ h => h
  have hbA : ¬ (fun q : Nat => s.heap.size ≤ q) b := Nat.not_le.mpr hbl
  obtain ⟨e1, ee1⟩ : ∃ z : Int32, z = xs (x3 + 1).toNatClampNeg := ⟨_, rfl⟩
  obtain ⟨e2, ee2⟩ : ∃ z : Int32, z = xs (x3 + 2).toNatClampNeg := ⟨_, rfl⟩
  obtain ⟨e3, ee3⟩ : ∃ z : Int32, z = xs (x3 + 3).toNatClampNeg := ⟨_, rfl⟩
  obtain ⟨e4, ee4⟩ : ∃ z : Int32, z = xs (x3 + 4).toNatClampNeg := ⟨_, rfl⟩
  refine lv_aload_n hx hb dL_law_180 rfl (lv_at hl 1 rfl) ?_
  refine lv_aload_n hx hb dL_law_181 rfl (lv_at hl 0 rfl) ?_
  refine lv_iload_n hx hb dL_law_182 rfl (lv_at hl 3 rfl) ?_
  refine lv_iconst (v := 1) hx hb dL_law_183 (by decide) ?_
  refine lv_iadd hx hb dL_law_184 ?_
  refine va_sld hx hb hX hbl hbA hS v1 dL_law_185 ?_
  rw [← ee1]
  obtain ⟨r, F', G', F2', G2', p7, p8, hR'⟩ := s_room F G F2 G2 e1 hR
  refine lawX (ad := ad) (bd := bd) (F := F) (G := G) (F' := F') (G' := G') (As := [.int e1]) (rest := []) ⟨hx, hb, hml, hown, hts⟩ (c_X7_room l D ad cA n0 F G e1 p7) (cwV 1 hts gL_law_X7_room rfl rfl rfl (by decide +kernel) ⟨Nat.le_of_ble_eq_true rfl, Nat.le_of_ble_eq_true rfl⟩) hP hK hD hN hS hA rfl hl.1 rfl (Nat.le_of_ble_eq_true rfl) dL_law_186 (fun H locs hP hD hS => ?_)
  refine lv_aload_n hx hb dL_law_189 rfl (lv_at hl 2 rfl) ?_
  refine lv_aload_n hx hb dL_law_190 rfl (lv_at hl 0 rfl) ?_
  refine lv_iload_n hx hb dL_law_191 rfl (lv_at hl 3 rfl) ?_
  refine lv_iconst (v := 1) hx hb dL_law_192 (by decide) ?_
  refine lv_iadd hx hb dL_law_193 ?_
  refine va_sld hx hb hX hbl hbA hS v1 dL_law_194 ?_
  rw [← ee1]
  refine lawM (ad := ad) (bd := bd) (F := F2) (G := G2) (F' := F2') (G' := G2') (As := [.int e1]) (rest := [.int r]) ⟨hx, hb, hml, hown, hts⟩ (c_X8_room l D bd cA n0 F2 G2 e1 p8) (cwV 1 hts gL_law_X8_room rfl rfl rfl (by decide +kernel) ⟨Nat.le_of_ble_eq_true rfl, Nat.le_of_ble_eq_true rfl⟩) hP hK hD hN hS hA rfl hl.1 rfl (Nat.le_of_ble_eq_true rfl) dL_law_195 (fun H locs hP hD hS => ?_)
  refine lv_icmp_eq (tgt := 1147) hx hb dL_law_198 (by decide) (fun _ => ?_) (fun c9 => absurd rfl c9)
  exact JT _ _ _ _ hR' _ _ ls hP hD hS hl
set_option maxHeartbeats 4000000 in
set_option maxRecDepth 100000 in
theorem law_depth {p : Program} {l : Launch} {e : Env} {s : State} {m : MethodId} {below : List Frame} {meth : Method} {c : Code} {D : va_G} {b L : Nat} {xs : Nat → Int32} {cA : ClassId} {ad bd : Nat → Nat} {n0 : Nat} {R : tF → tG → tF → tG → Prop} (C0 : lw_At p s m meth c b L xs) (hN : NwC s) (hK : va_K D vwCl [(cA, .int)] s) (s_depth : simT_depth n0 R) {x3 : Int32} (v1 : vp_in (x3 + 1) L) (v2 : vp_in (x3 + 2) L) (v3 : vp_in (x3 + 3) L) (v4 : vp_in (x3 + 4) L)
    (JT : ∀ (F : tF) (G : tG) (F2 : tF) (G2 : tG), R F G F2 G2 → ∀ (H : Heap) (locs : List Loc) (ls : Array Slot), va_P D vwCl (wC ad cA F G ++ wM bd cA F2 G2) H → va_D (fun q : Nat => s.heap.size ≤ q) (wC ad cA F G ++ wM bd cA F2 G2) → va_S (fun q : Nat => s.heap.size ≤ q) s.heap H locs → lv_has ls 4 [(0, .ref b), (1, .ref (ad 0)), (2, .ref (bd 0)), (3, .int x3)] → W p l e room_1 s m #[Value.ref b] below meth c H locs 51 8872 (lw_Z below #[Value.ref b] s) (F0 m 1147 ls [])) :
    ∀ (F : tF) (G : tG) (F2 : tF) (G2 : tG), R F G F2 G2 → ∀ (H : Heap) (locs : List Loc) (ls : Array Slot), va_P D vwCl (wC ad cA F G ++ wM bd cA F2 G2) H → va_D (fun q : Nat => s.heap.size ≤ q) (wC ad cA F G ++ wM bd cA F2 G2) → va_S (fun q : Nat => s.heap.size ≤ q) s.heap H locs → lv_has ls 4 [(0, .ref b), (1, .ref (ad 0)), (2, .ref (bd 0)), (3, .int x3)] → W p l e room_1 s m #[Value.ref b] below meth c H locs 51 8872 (lw_Z below #[Value.ref b] s) (F0 m 203 ls []) := by
  intro F G F2 G2 hR H locs ls hP hD hS hl
  obtain ⟨hx, hb, hr, hml, hown, hts, hX, hbl, hlocks, hgv⟩ := C0
  have hts := fun w h => hts w (wsL_law_in w h)
  have hown : s.vm.findClass RL = some m.cls := hown
  have hA : ∀ q : Nat, s.heap.size ≤ q → (fun q : Nat => s.heap.size ≤ q) q := fun _ h => h
  have hbA : ¬ (fun q : Nat => s.heap.size ≤ q) b := Nat.not_le.mpr hbl
  obtain ⟨e1, ee1⟩ : ∃ z : Int32, z = xs (x3 + 1).toNatClampNeg := ⟨_, rfl⟩
  obtain ⟨e2, ee2⟩ : ∃ z : Int32, z = xs (x3 + 2).toNatClampNeg := ⟨_, rfl⟩
  obtain ⟨e3, ee3⟩ : ∃ z : Int32, z = xs (x3 + 3).toNatClampNeg := ⟨_, rfl⟩
  obtain ⟨e4, ee4⟩ : ∃ z : Int32, z = xs (x3 + 4).toNatClampNeg := ⟨_, rfl⟩
  refine lv_aload_n hx hb dL_law_203 rfl (lv_at hl 1 rfl) ?_
  refine lv_aload_n hx hb dL_law_204 rfl (lv_at hl 0 rfl) ?_
  refine lv_iload_n hx hb dL_law_205 rfl (lv_at hl 3 rfl) ?_
  refine lv_iconst (v := 1) hx hb dL_law_206 (by decide) ?_
  refine lv_iadd hx hb dL_law_207 ?_
  refine va_sld hx hb hX hbl hbA hS v1 dL_law_208 ?_
  rw [← ee1]
  obtain ⟨r, F', G', F2', G2', p7, p8, hR'⟩ := s_depth F G F2 G2 e1 hR
  refine lawX (ad := ad) (bd := bd) (F := F) (G := G) (F' := F') (G' := G') (As := [.int e1]) (rest := []) ⟨hx, hb, hml, hown, hts⟩ (c_X7_depth l D ad cA n0 F G e1 p7) (cwV 1 hts gL_law_X7_depth rfl rfl rfl (by decide +kernel) ⟨Nat.le_of_ble_eq_true rfl, Nat.le_of_ble_eq_true rfl⟩) hP hK hD hN hS hA rfl hl.1 rfl (Nat.le_of_ble_eq_true rfl) dL_law_209 (fun H locs hP hD hS => ?_)
  refine lv_aload_n hx hb dL_law_212 rfl (lv_at hl 2 rfl) ?_
  refine lv_aload_n hx hb dL_law_213 rfl (lv_at hl 0 rfl) ?_
  refine lv_iload_n hx hb dL_law_214 rfl (lv_at hl 3 rfl) ?_
  refine lv_iconst (v := 1) hx hb dL_law_215 (by decide) ?_
  refine lv_iadd hx hb dL_law_216 ?_
  refine va_sld hx hb hX hbl hbA hS v1 dL_law_217 ?_
  rw [← ee1]
  refine lawM (ad := ad) (bd := bd) (F := F2) (G := G2) (F' := F2') (G' := G2') (As := [.int e1]) (rest := [.int r]) ⟨hx, hb, hml, hown, hts⟩ (c_X8_depth l D bd cA n0 F2 G2 e1 p8) (cwV 1 hts gL_law_X8_depth rfl rfl rfl (by decide +kernel) ⟨Nat.le_of_ble_eq_true rfl, Nat.le_of_ble_eq_true rfl⟩) hP hK hD hN hS hA rfl hl.1 rfl (Nat.le_of_ble_eq_true rfl) dL_law_218 (fun H locs hP hD hS => ?_)
  refine lv_icmp_eq (tgt := 1147) hx hb dL_law_221 (by decide) (fun _ => ?_) (fun c9 => absurd rfl c9)
  exact JT _ _ _ _ hR' _ _ ls hP hD hS hl
set_option maxHeartbeats 4000000 in
set_option maxRecDepth 100000 in
theorem law_tip {p : Program} {l : Launch} {e : Env} {s : State} {m : MethodId} {below : List Frame} {meth : Method} {c : Code} {D : va_G} {b L : Nat} {xs : Nat → Int32} {cA : ClassId} {ad bd : Nat → Nat} {n0 : Nat} {R : tF → tG → tF → tG → Prop} (C0 : lw_At p s m meth c b L xs) (hN : NwC s) (hK : va_K D vwCl [(cA, .int)] s) (s_tip : simT_tip n0 R) {x3 : Int32} (v1 : vp_in (x3 + 1) L) (v2 : vp_in (x3 + 2) L) (v3 : vp_in (x3 + 3) L) (v4 : vp_in (x3 + 4) L)
    (JT : ∀ (F : tF) (G : tG) (F2 : tF) (G2 : tG), R F G F2 G2 → ∀ (H : Heap) (locs : List Loc) (ls : Array Slot), va_P D vwCl (wC ad cA F G ++ wM bd cA F2 G2) H → va_D (fun q : Nat => s.heap.size ≤ q) (wC ad cA F G ++ wM bd cA F2 G2) → va_S (fun q : Nat => s.heap.size ≤ q) s.heap H locs → lv_has ls 4 [(0, .ref b), (1, .ref (ad 0)), (2, .ref (bd 0)), (3, .int x3)] → W p l e room_1 s m #[Value.ref b] below meth c H locs 51 8872 (lw_Z below #[Value.ref b] s) (F0 m 1147 ls [])) :
    ∀ (F : tF) (G : tG) (F2 : tF) (G2 : tG), R F G F2 G2 → ∀ (H : Heap) (locs : List Loc) (ls : Array Slot), va_P D vwCl (wC ad cA F G ++ wM bd cA F2 G2) H → va_D (fun q : Nat => s.heap.size ≤ q) (wC ad cA F G ++ wM bd cA F2 G2) → va_S (fun q : Nat => s.heap.size ≤ q) s.heap H locs → lv_has ls 4 [(0, .ref b), (1, .ref (ad 0)), (2, .ref (bd 0)), (3, .int x3)] → W p l e room_1 s m #[Value.ref b] below meth c H locs 51 8872 (lw_Z below #[Value.ref b] s) (F0 m 226 ls []) := by
  intro F G F2 G2 hR H locs ls hP hD hS hl
  obtain ⟨hx, hb, hr, hml, hown, hts, hX, hbl, hlocks, hgv⟩ := C0
  have hts := fun w h => hts w (wsL_law_in w h)
  have hown : s.vm.findClass RL = some m.cls := hown
  have hA : ∀ q : Nat, s.heap.size ≤ q → (fun q : Nat => s.heap.size ≤ q) q := fun _ h => h
  have hbA : ¬ (fun q : Nat => s.heap.size ≤ q) b := Nat.not_le.mpr hbl
  obtain ⟨e1, ee1⟩ : ∃ z : Int32, z = xs (x3 + 1).toNatClampNeg := ⟨_, rfl⟩
  obtain ⟨e2, ee2⟩ : ∃ z : Int32, z = xs (x3 + 2).toNatClampNeg := ⟨_, rfl⟩
  obtain ⟨e3, ee3⟩ : ∃ z : Int32, z = xs (x3 + 3).toNatClampNeg := ⟨_, rfl⟩
  obtain ⟨e4, ee4⟩ : ∃ z : Int32, z = xs (x3 + 4).toNatClampNeg := ⟨_, rfl⟩
  refine lv_aload_n hx hb dL_law_226 rfl (lv_at hl 1 rfl) ?_
  obtain ⟨r, F', G', F2', G2', p7, p8, hR'⟩ := s_tip F G F2 G2  hR
  refine lawX (ad := ad) (bd := bd) (F := F) (G := G) (F' := F') (G' := G') (As := []) (rest := []) ⟨hx, hb, hml, hown, hts⟩ (c_X7_tip l D ad cA n0 F G  p7) (cwV 0 hts gL_law_X7_tip rfl rfl rfl (by decide +kernel) ⟨Nat.le_of_ble_eq_true rfl, Nat.le_of_ble_eq_true rfl⟩) hP hK hD hN hS hA rfl hl.1 rfl (Nat.le_of_ble_eq_true rfl) dL_law_227 (fun H locs hP hD hS => ?_)
  refine lv_aload_n hx hb dL_law_230 rfl (lv_at hl 2 rfl) ?_
  refine lawM (ad := ad) (bd := bd) (F := F2) (G := G2) (F' := F2') (G' := G2') (As := []) (rest := [.int r]) ⟨hx, hb, hml, hown, hts⟩ (c_X8_tip l D bd cA n0 F2 G2  p8) (cwV 0 hts gL_law_X8_tip rfl rfl rfl (by decide +kernel) ⟨Nat.le_of_ble_eq_true rfl, Nat.le_of_ble_eq_true rfl⟩) hP hK hD hN hS hA rfl hl.1 rfl (Nat.le_of_ble_eq_true rfl) dL_law_231 (fun H locs hP hD hS => ?_)
  refine lv_icmp_eq (tgt := 1147) hx hb dL_law_234 (by decide) (fun _ => ?_) (fun c9 => absurd rfl c9)
  exact JT _ _ _ _ hR' _ _ ls hP hD hS hl
set_option maxHeartbeats 4000000 in
set_option maxRecDepth 100000 in
theorem law_barrel {p : Program} {l : Launch} {e : Env} {s : State} {m : MethodId} {below : List Frame} {meth : Method} {c : Code} {D : va_G} {b L : Nat} {xs : Nat → Int32} {cA : ClassId} {ad bd : Nat → Nat} {n0 : Nat} {R : tF → tG → tF → tG → Prop} (C0 : lw_At p s m meth c b L xs) (hN : NwC s) (hK : va_K D vwCl [(cA, .int)] s) (s_barrel : simT_barrel n0 R) {x3 : Int32} (v1 : vp_in (x3 + 1) L) (v2 : vp_in (x3 + 2) L) (v3 : vp_in (x3 + 3) L) (v4 : vp_in (x3 + 4) L)
    (JT : ∀ (F : tF) (G : tG) (F2 : tF) (G2 : tG), R F G F2 G2 → ∀ (H : Heap) (locs : List Loc) (ls : Array Slot), va_P D vwCl (wC ad cA F G ++ wM bd cA F2 G2) H → va_D (fun q : Nat => s.heap.size ≤ q) (wC ad cA F G ++ wM bd cA F2 G2) → va_S (fun q : Nat => s.heap.size ≤ q) s.heap H locs → lv_has ls 4 [(0, .ref b), (1, .ref (ad 0)), (2, .ref (bd 0)), (3, .int x3)] → W p l e room_1 s m #[Value.ref b] below meth c H locs 51 8872 (lw_Z below #[Value.ref b] s) (F0 m 1147 ls [])) :
    ∀ (F : tF) (G : tG) (F2 : tF) (G2 : tG), R F G F2 G2 → ∀ (H : Heap) (locs : List Loc) (ls : Array Slot), va_P D vwCl (wC ad cA F G ++ wM bd cA F2 G2) H → va_D (fun q : Nat => s.heap.size ≤ q) (wC ad cA F G ++ wM bd cA F2 G2) → va_S (fun q : Nat => s.heap.size ≤ q) s.heap H locs → lv_has ls 4 [(0, .ref b), (1, .ref (ad 0)), (2, .ref (bd 0)), (3, .int x3)] → W p l e room_1 s m #[Value.ref b] below meth c H locs 51 8872 (lw_Z below #[Value.ref b] s) (F0 m 239 ls []) := by
  intro F G F2 G2 hR H locs ls hP hD hS hl
  obtain ⟨hx, hb, hr, hml, hown, hts, hX, hbl, hlocks, hgv⟩ := C0
  have hts := fun w h => hts w (wsL_law_in w h)
  have hown : s.vm.findClass RL = some m.cls := hown
  have hA : ∀ q : Nat, s.heap.size ≤ q → (fun q : Nat => s.heap.size ≤ q) q := fun _ h => h
  have hbA : ¬ (fun q : Nat => s.heap.size ≤ q) b := Nat.not_le.mpr hbl
  obtain ⟨e1, ee1⟩ : ∃ z : Int32, z = xs (x3 + 1).toNatClampNeg := ⟨_, rfl⟩
  obtain ⟨e2, ee2⟩ : ∃ z : Int32, z = xs (x3 + 2).toNatClampNeg := ⟨_, rfl⟩
  obtain ⟨e3, ee3⟩ : ∃ z : Int32, z = xs (x3 + 3).toNatClampNeg := ⟨_, rfl⟩
  obtain ⟨e4, ee4⟩ : ∃ z : Int32, z = xs (x3 + 4).toNatClampNeg := ⟨_, rfl⟩
  refine lv_aload_n hx hb dL_law_239 rfl (lv_at hl 1 rfl) ?_
  refine lv_aload_n hx hb dL_law_240 rfl (lv_at hl 0 rfl) ?_
  refine lv_iload_n hx hb dL_law_241 rfl (lv_at hl 3 rfl) ?_
  refine lv_iconst (v := 1) hx hb dL_law_242 (by decide) ?_
  refine lv_iadd hx hb dL_law_243 ?_
  refine va_sld hx hb hX hbl hbA hS v1 dL_law_244 ?_
  rw [← ee1]
  obtain ⟨r, F', G', F2', G2', p7, p8, hR'⟩ := s_barrel F G F2 G2 e1 hR
  refine lawX (ad := ad) (bd := bd) (F := F) (G := G) (F' := F') (G' := G') (As := [.int e1]) (rest := []) ⟨hx, hb, hml, hown, hts⟩ (c_X7_barrel l D ad cA n0 F G e1 p7) (cwV 1 hts gL_law_X7_barrel rfl rfl rfl (by decide +kernel) ⟨Nat.le_of_ble_eq_true rfl, Nat.le_of_ble_eq_true rfl⟩) hP hK hD hN hS hA rfl hl.1 rfl (Nat.le_of_ble_eq_true rfl) dL_law_245 (fun H locs hP hD hS => ?_)
  refine lv_aload_n hx hb dL_law_248 rfl (lv_at hl 2 rfl) ?_
  refine lv_aload_n hx hb dL_law_249 rfl (lv_at hl 0 rfl) ?_
  refine lv_iload_n hx hb dL_law_250 rfl (lv_at hl 3 rfl) ?_
  refine lv_iconst (v := 1) hx hb dL_law_251 (by decide) ?_
  refine lv_iadd hx hb dL_law_252 ?_
  refine va_sld hx hb hX hbl hbA hS v1 dL_law_253 ?_
  rw [← ee1]
  refine lawM (ad := ad) (bd := bd) (F := F2) (G := G2) (F' := F2') (G' := G2') (As := [.int e1]) (rest := [.int r]) ⟨hx, hb, hml, hown, hts⟩ (c_X8_barrel l D bd cA n0 F2 G2 e1 p8) (cwV 1 hts gL_law_X8_barrel rfl rfl rfl (by decide +kernel) ⟨Nat.le_of_ble_eq_true rfl, Nat.le_of_ble_eq_true rfl⟩) hP hK hD hN hS hA rfl hl.1 rfl (Nat.le_of_ble_eq_true rfl) dL_law_254 (fun H locs hP hD hS => ?_)
  refine lv_icmp_eq (tgt := 1147) hx hb dL_law_257 (by decide) (fun _ => ?_) (fun c9 => absurd rfl c9)
  exact JT _ _ _ _ hR' _ _ ls hP hD hS hl
set_option maxHeartbeats 4000000 in
set_option maxRecDepth 100000 in
theorem law_breath {p : Program} {l : Launch} {e : Env} {s : State} {m : MethodId} {below : List Frame} {meth : Method} {c : Code} {D : va_G} {b L : Nat} {xs : Nat → Int32} {cA : ClassId} {ad bd : Nat → Nat} {n0 : Nat} {R : tF → tG → tF → tG → Prop} (C0 : lw_At p s m meth c b L xs) (hN : NwC s) (hK : va_K D vwCl [(cA, .int)] s) (s_breath : simT_breath n0 R) {x3 : Int32} (v1 : vp_in (x3 + 1) L) (v2 : vp_in (x3 + 2) L) (v3 : vp_in (x3 + 3) L) (v4 : vp_in (x3 + 4) L)
    (JT : ∀ (F : tF) (G : tG) (F2 : tF) (G2 : tG), R F G F2 G2 → ∀ (H : Heap) (locs : List Loc) (ls : Array Slot), va_P D vwCl (wC ad cA F G ++ wM bd cA F2 G2) H → va_D (fun q : Nat => s.heap.size ≤ q) (wC ad cA F G ++ wM bd cA F2 G2) → va_S (fun q : Nat => s.heap.size ≤ q) s.heap H locs → lv_has ls 4 [(0, .ref b), (1, .ref (ad 0)), (2, .ref (bd 0)), (3, .int x3)] → W p l e room_1 s m #[Value.ref b] below meth c H locs 51 8872 (lw_Z below #[Value.ref b] s) (F0 m 1147 ls [])) :
    ∀ (F : tF) (G : tG) (F2 : tF) (G2 : tG), R F G F2 G2 → ∀ (H : Heap) (locs : List Loc) (ls : Array Slot), va_P D vwCl (wC ad cA F G ++ wM bd cA F2 G2) H → va_D (fun q : Nat => s.heap.size ≤ q) (wC ad cA F G ++ wM bd cA F2 G2) → va_S (fun q : Nat => s.heap.size ≤ q) s.heap H locs → lv_has ls 4 [(0, .ref b), (1, .ref (ad 0)), (2, .ref (bd 0)), (3, .int x3)] → W p l e room_1 s m #[Value.ref b] below meth c H locs 51 8872 (lw_Z below #[Value.ref b] s) (F0 m 262 ls []) := by
  intro F G F2 G2 hR H locs ls hP hD hS hl
  obtain ⟨hx, hb, hr, hml, hown, hts, hX, hbl, hlocks, hgv⟩ := C0
  have hts := fun w h => hts w (wsL_law_in w h)
  have hown : s.vm.findClass RL = some m.cls := hown
  have hA : ∀ q : Nat, s.heap.size ≤ q → (fun q : Nat => s.heap.size ≤ q) q := fun _ h => h
  have hbA : ¬ (fun q : Nat => s.heap.size ≤ q) b := Nat.not_le.mpr hbl
  obtain ⟨e1, ee1⟩ : ∃ z : Int32, z = xs (x3 + 1).toNatClampNeg := ⟨_, rfl⟩
  obtain ⟨e2, ee2⟩ : ∃ z : Int32, z = xs (x3 + 2).toNatClampNeg := ⟨_, rfl⟩
  obtain ⟨e3, ee3⟩ : ∃ z : Int32, z = xs (x3 + 3).toNatClampNeg := ⟨_, rfl⟩
  obtain ⟨e4, ee4⟩ : ∃ z : Int32, z = xs (x3 + 4).toNatClampNeg := ⟨_, rfl⟩
  refine lv_aload_n hx hb dL_law_262 rfl (lv_at hl 1 rfl) ?_
  refine lv_aload_n hx hb dL_law_263 rfl (lv_at hl 0 rfl) ?_
  refine lv_iload_n hx hb dL_law_264 rfl (lv_at hl 3 rfl) ?_
  refine lv_iconst (v := 1) hx hb dL_law_265 (by decide) ?_
  refine lv_iadd hx hb dL_law_266 ?_
  refine va_sld hx hb hX hbl hbA hS v1 dL_law_267 ?_
  rw [← ee1]
  obtain ⟨r, F', G', F2', G2', p7, p8, hR'⟩ := s_breath F G F2 G2 e1 hR
  refine lawX (ad := ad) (bd := bd) (F := F) (G := G) (F' := F') (G' := G') (As := [.int e1]) (rest := []) ⟨hx, hb, hml, hown, hts⟩ (c_X7_breath l D ad cA n0 F G e1 p7) (cwV 1 hts gL_law_X7_breath rfl rfl rfl (by decide +kernel) ⟨Nat.le_of_ble_eq_true rfl, Nat.le_of_ble_eq_true rfl⟩) hP hK hD hN hS hA rfl hl.1 rfl (Nat.le_of_ble_eq_true rfl) dL_law_268 (fun H locs hP hD hS => ?_)
  refine lv_aload_n hx hb dL_law_271 rfl (lv_at hl 2 rfl) ?_
  refine lv_aload_n hx hb dL_law_272 rfl (lv_at hl 0 rfl) ?_
  refine lv_iload_n hx hb dL_law_273 rfl (lv_at hl 3 rfl) ?_
  refine lv_iconst (v := 1) hx hb dL_law_274 (by decide) ?_
  refine lv_iadd hx hb dL_law_275 ?_
  refine va_sld hx hb hX hbl hbA hS v1 dL_law_276 ?_
  rw [← ee1]
  refine lawM (ad := ad) (bd := bd) (F := F2) (G := G2) (F' := F2') (G' := G2') (As := [.int e1]) (rest := [.int r]) ⟨hx, hb, hml, hown, hts⟩ (c_X8_breath l D bd cA n0 F2 G2 e1 p8) (cwV 1 hts gL_law_X8_breath rfl rfl rfl (by decide +kernel) ⟨Nat.le_of_ble_eq_true rfl, Nat.le_of_ble_eq_true rfl⟩) hP hK hD hN hS hA rfl hl.1 rfl (Nat.le_of_ble_eq_true rfl) dL_law_277 (fun H locs hP hD hS => ?_)
  refine lv_icmp_eq (tgt := 1147) hx hb dL_law_280 (by decide) (fun _ => ?_) (fun c9 => absurd rfl c9)
  exact JT _ _ _ _ hR' _ _ ls hP hD hS hl
set_option maxHeartbeats 4000000 in
set_option maxRecDepth 100000 in
theorem law_limit {p : Program} {l : Launch} {e : Env} {s : State} {m : MethodId} {below : List Frame} {meth : Method} {c : Code} {D : va_G} {b L : Nat} {xs : Nat → Int32} {cA : ClassId} {ad bd : Nat → Nat} {n0 : Nat} {R : tF → tG → tF → tG → Prop} (C0 : lw_At p s m meth c b L xs) (hN : NwC s) (hK : va_K D vwCl [(cA, .int)] s) (s_limit : simT_limit n0 R) {x3 : Int32} (v1 : vp_in (x3 + 1) L) (v2 : vp_in (x3 + 2) L) (v3 : vp_in (x3 + 3) L) (v4 : vp_in (x3 + 4) L)
    (JT : ∀ (F : tF) (G : tG) (F2 : tF) (G2 : tG), R F G F2 G2 → ∀ (H : Heap) (locs : List Loc) (ls : Array Slot), va_P D vwCl (wC ad cA F G ++ wM bd cA F2 G2) H → va_D (fun q : Nat => s.heap.size ≤ q) (wC ad cA F G ++ wM bd cA F2 G2) → va_S (fun q : Nat => s.heap.size ≤ q) s.heap H locs → lv_has ls 4 [(0, .ref b), (1, .ref (ad 0)), (2, .ref (bd 0)), (3, .int x3)] → W p l e room_1 s m #[Value.ref b] below meth c H locs 51 8872 (lw_Z below #[Value.ref b] s) (F0 m 1147 ls [])) :
    ∀ (F : tF) (G : tG) (F2 : tF) (G2 : tG), R F G F2 G2 → ∀ (H : Heap) (locs : List Loc) (ls : Array Slot), va_P D vwCl (wC ad cA F G ++ wM bd cA F2 G2) H → va_D (fun q : Nat => s.heap.size ≤ q) (wC ad cA F G ++ wM bd cA F2 G2) → va_S (fun q : Nat => s.heap.size ≤ q) s.heap H locs → lv_has ls 4 [(0, .ref b), (1, .ref (ad 0)), (2, .ref (bd 0)), (3, .int x3)] → W p l e room_1 s m #[Value.ref b] below meth c H locs 51 8872 (lw_Z below #[Value.ref b] s) (F0 m 285 ls []) := by
  intro F G F2 G2 hR H locs ls hP hD hS hl
  obtain ⟨hx, hb, hr, hml, hown, hts, hX, hbl, hlocks, hgv⟩ := C0
  have hts := fun w h => hts w (wsL_law_in w h)
  have hown : s.vm.findClass RL = some m.cls := hown
  have hA : ∀ q : Nat, s.heap.size ≤ q → (fun q : Nat => s.heap.size ≤ q) q := fun _ h => h
  have hbA : ¬ (fun q : Nat => s.heap.size ≤ q) b := Nat.not_le.mpr hbl
  obtain ⟨e1, ee1⟩ : ∃ z : Int32, z = xs (x3 + 1).toNatClampNeg := ⟨_, rfl⟩
  obtain ⟨e2, ee2⟩ : ∃ z : Int32, z = xs (x3 + 2).toNatClampNeg := ⟨_, rfl⟩
  obtain ⟨e3, ee3⟩ : ∃ z : Int32, z = xs (x3 + 3).toNatClampNeg := ⟨_, rfl⟩
  obtain ⟨e4, ee4⟩ : ∃ z : Int32, z = xs (x3 + 4).toNatClampNeg := ⟨_, rfl⟩
  refine lv_aload_n hx hb dL_law_285 rfl (lv_at hl 1 rfl) ?_
  refine lv_aload_n hx hb dL_law_286 rfl (lv_at hl 0 rfl) ?_
  refine lv_iload_n hx hb dL_law_287 rfl (lv_at hl 3 rfl) ?_
  refine lv_iconst (v := 1) hx hb dL_law_288 (by decide) ?_
  refine lv_iadd hx hb dL_law_289 ?_
  refine va_sld hx hb hX hbl hbA hS v1 dL_law_290 ?_
  rw [← ee1]
  obtain ⟨r, F', G', F2', G2', p7, p8, hR'⟩ := s_limit F G F2 G2 e1 hR
  refine lawX (ad := ad) (bd := bd) (F := F) (G := G) (F' := F') (G' := G') (As := [.int e1]) (rest := []) ⟨hx, hb, hml, hown, hts⟩ (c_X7_limit l D ad cA n0 F G e1 p7) (cwV 1 hts gL_law_X7_limit rfl rfl rfl (by decide +kernel) ⟨Nat.le_of_ble_eq_true rfl, Nat.le_of_ble_eq_true rfl⟩) hP hK hD hN hS hA rfl hl.1 rfl (Nat.le_of_ble_eq_true rfl) dL_law_291 (fun H locs hP hD hS => ?_)
  refine lv_aload_n hx hb dL_law_294 rfl (lv_at hl 2 rfl) ?_
  refine lv_aload_n hx hb dL_law_295 rfl (lv_at hl 0 rfl) ?_
  refine lv_iload_n hx hb dL_law_296 rfl (lv_at hl 3 rfl) ?_
  refine lv_iconst (v := 1) hx hb dL_law_297 (by decide) ?_
  refine lv_iadd hx hb dL_law_298 ?_
  refine va_sld hx hb hX hbl hbA hS v1 dL_law_299 ?_
  rw [← ee1]
  refine lawM (ad := ad) (bd := bd) (F := F2) (G := G2) (F' := F2') (G' := G2') (As := [.int e1]) (rest := [.int r]) ⟨hx, hb, hml, hown, hts⟩ (c_X8_limit l D bd cA n0 F2 G2 e1 p8) (cwV 1 hts gL_law_X8_limit rfl rfl rfl (by decide +kernel) ⟨Nat.le_of_ble_eq_true rfl, Nat.le_of_ble_eq_true rfl⟩) hP hK hD hN hS hA rfl hl.1 rfl (Nat.le_of_ble_eq_true rfl) dL_law_300 (fun H locs hP hD hS => ?_)
  refine lv_icmp_eq (tgt := 1147) hx hb dL_law_303 (by decide) (fun _ => ?_) (fun c9 => absurd rfl c9)
  exact JT _ _ _ _ hR' _ _ ls hP hD hS hl
set_option maxHeartbeats 4000000 in
set_option maxRecDepth 100000 in
theorem law_minutes {p : Program} {l : Launch} {e : Env} {s : State} {m : MethodId} {below : List Frame} {meth : Method} {c : Code} {D : va_G} {b L : Nat} {xs : Nat → Int32} {cA : ClassId} {ad bd : Nat → Nat} {n0 : Nat} {R : tF → tG → tF → tG → Prop} (C0 : lw_At p s m meth c b L xs) (hN : NwC s) (hK : va_K D vwCl [(cA, .int)] s) (s_minutes : simT_minutes n0 R) {x3 : Int32} (v1 : vp_in (x3 + 1) L) (v2 : vp_in (x3 + 2) L) (v3 : vp_in (x3 + 3) L) (v4 : vp_in (x3 + 4) L)
    (JT : ∀ (F : tF) (G : tG) (F2 : tF) (G2 : tG), R F G F2 G2 → ∀ (H : Heap) (locs : List Loc) (ls : Array Slot), va_P D vwCl (wC ad cA F G ++ wM bd cA F2 G2) H → va_D (fun q : Nat => s.heap.size ≤ q) (wC ad cA F G ++ wM bd cA F2 G2) → va_S (fun q : Nat => s.heap.size ≤ q) s.heap H locs → lv_has ls 4 [(0, .ref b), (1, .ref (ad 0)), (2, .ref (bd 0)), (3, .int x3)] → W p l e room_1 s m #[Value.ref b] below meth c H locs 51 8872 (lw_Z below #[Value.ref b] s) (F0 m 1147 ls [])) :
    ∀ (F : tF) (G : tG) (F2 : tF) (G2 : tG), R F G F2 G2 → ∀ (H : Heap) (locs : List Loc) (ls : Array Slot), va_P D vwCl (wC ad cA F G ++ wM bd cA F2 G2) H → va_D (fun q : Nat => s.heap.size ≤ q) (wC ad cA F G ++ wM bd cA F2 G2) → va_S (fun q : Nat => s.heap.size ≤ q) s.heap H locs → lv_has ls 4 [(0, .ref b), (1, .ref (ad 0)), (2, .ref (bd 0)), (3, .int x3)] → W p l e room_1 s m #[Value.ref b] below meth c H locs 51 8872 (lw_Z below #[Value.ref b] s) (F0 m 308 ls []) := by
  intro F G F2 G2 hR H locs ls hP hD hS hl
  obtain ⟨hx, hb, hr, hml, hown, hts, hX, hbl, hlocks, hgv⟩ := C0
  have hts := fun w h => hts w (wsL_law_in w h)
  have hown : s.vm.findClass RL = some m.cls := hown
  have hA : ∀ q : Nat, s.heap.size ≤ q → (fun q : Nat => s.heap.size ≤ q) q := fun _ h => h
  have hbA : ¬ (fun q : Nat => s.heap.size ≤ q) b := Nat.not_le.mpr hbl
  obtain ⟨e1, ee1⟩ : ∃ z : Int32, z = xs (x3 + 1).toNatClampNeg := ⟨_, rfl⟩
  obtain ⟨e2, ee2⟩ : ∃ z : Int32, z = xs (x3 + 2).toNatClampNeg := ⟨_, rfl⟩
  obtain ⟨e3, ee3⟩ : ∃ z : Int32, z = xs (x3 + 3).toNatClampNeg := ⟨_, rfl⟩
  obtain ⟨e4, ee4⟩ : ∃ z : Int32, z = xs (x3 + 4).toNatClampNeg := ⟨_, rfl⟩
  refine lv_aload_n hx hb dL_law_308 rfl (lv_at hl 1 rfl) ?_
  refine lv_aload_n hx hb dL_law_309 rfl (lv_at hl 0 rfl) ?_
  refine lv_iload_n hx hb dL_law_310 rfl (lv_at hl 3 rfl) ?_
  refine lv_iconst (v := 1) hx hb dL_law_311 (by decide) ?_
  refine lv_iadd hx hb dL_law_312 ?_
  refine va_sld hx hb hX hbl hbA hS v1 dL_law_313 ?_
  rw [← ee1]
  obtain ⟨r, F', G', F2', G2', p7, p8, hR'⟩ := s_minutes F G F2 G2 e1 hR
  refine lawX (ad := ad) (bd := bd) (F := F) (G := G) (F' := F') (G' := G') (As := [.int e1]) (rest := []) ⟨hx, hb, hml, hown, hts⟩ (c_X7_minutes l D ad cA n0 F G e1 p7) (cwV 1 hts gL_law_X7_minutes rfl rfl rfl (by decide +kernel) ⟨Nat.le_of_ble_eq_true rfl, Nat.le_of_ble_eq_true rfl⟩) hP hK hD hN hS hA rfl hl.1 rfl (Nat.le_of_ble_eq_true rfl) dL_law_314 (fun H locs hP hD hS => ?_)
  refine lv_aload_n hx hb dL_law_317 rfl (lv_at hl 2 rfl) ?_
  refine lv_aload_n hx hb dL_law_318 rfl (lv_at hl 0 rfl) ?_
  refine lv_iload_n hx hb dL_law_319 rfl (lv_at hl 3 rfl) ?_
  refine lv_iconst (v := 1) hx hb dL_law_320 (by decide) ?_
  refine lv_iadd hx hb dL_law_321 ?_
  refine va_sld hx hb hX hbl hbA hS v1 dL_law_322 ?_
  rw [← ee1]
  refine lawM (ad := ad) (bd := bd) (F := F2) (G := G2) (F' := F2') (G' := G2') (As := [.int e1]) (rest := [.int r]) ⟨hx, hb, hml, hown, hts⟩ (c_X8_minutes l D bd cA n0 F2 G2 e1 p8) (cwV 1 hts gL_law_X8_minutes rfl rfl rfl (by decide +kernel) ⟨Nat.le_of_ble_eq_true rfl, Nat.le_of_ble_eq_true rfl⟩) hP hK hD hN hS hA rfl hl.1 rfl (Nat.le_of_ble_eq_true rfl) dL_law_323 (fun H locs hP hD hS => ?_)
  refine lv_icmp_eq (tgt := 1147) hx hb dL_law_326 (by decide) (fun _ => ?_) (fun c9 => absurd rfl c9)
  exact JT _ _ _ _ hR' _ _ ls hP hD hS hl
set_option maxHeartbeats 4000000 in
set_option maxRecDepth 100000 in
theorem law_air {p : Program} {l : Launch} {e : Env} {s : State} {m : MethodId} {below : List Frame} {meth : Method} {c : Code} {D : va_G} {b L : Nat} {xs : Nat → Int32} {cA : ClassId} {ad bd : Nat → Nat} {n0 : Nat} {R : tF → tG → tF → tG → Prop} (C0 : lw_At p s m meth c b L xs) (hN : NwC s) (hK : va_K D vwCl [(cA, .int)] s) (s_air : simT_air n0 R) {x3 : Int32} (v1 : vp_in (x3 + 1) L) (v2 : vp_in (x3 + 2) L) (v3 : vp_in (x3 + 3) L) (v4 : vp_in (x3 + 4) L)
    (JT : ∀ (F : tF) (G : tG) (F2 : tF) (G2 : tG), R F G F2 G2 → ∀ (H : Heap) (locs : List Loc) (ls : Array Slot), va_P D vwCl (wC ad cA F G ++ wM bd cA F2 G2) H → va_D (fun q : Nat => s.heap.size ≤ q) (wC ad cA F G ++ wM bd cA F2 G2) → va_S (fun q : Nat => s.heap.size ≤ q) s.heap H locs → lv_has ls 4 [(0, .ref b), (1, .ref (ad 0)), (2, .ref (bd 0)), (3, .int x3)] → W p l e room_1 s m #[Value.ref b] below meth c H locs 51 8872 (lw_Z below #[Value.ref b] s) (F0 m 1147 ls [])) :
    ∀ (F : tF) (G : tG) (F2 : tF) (G2 : tG), R F G F2 G2 → ∀ (H : Heap) (locs : List Loc) (ls : Array Slot), va_P D vwCl (wC ad cA F G ++ wM bd cA F2 G2) H → va_D (fun q : Nat => s.heap.size ≤ q) (wC ad cA F G ++ wM bd cA F2 G2) → va_S (fun q : Nat => s.heap.size ≤ q) s.heap H locs → lv_has ls 4 [(0, .ref b), (1, .ref (ad 0)), (2, .ref (bd 0)), (3, .int x3)] → W p l e room_1 s m #[Value.ref b] below meth c H locs 51 8872 (lw_Z below #[Value.ref b] s) (F0 m 331 ls []) := by
  intro F G F2 G2 hR H locs ls hP hD hS hl
  obtain ⟨hx, hb, hr, hml, hown, hts, hX, hbl, hlocks, hgv⟩ := C0
  have hts := fun w h => hts w (wsL_law_in w h)
  have hown : s.vm.findClass RL = some m.cls := hown
  have hA : ∀ q : Nat, s.heap.size ≤ q → (fun q : Nat => s.heap.size ≤ q) q := fun _ h => h
  have hbA : ¬ (fun q : Nat => s.heap.size ≤ q) b := Nat.not_le.mpr hbl
  obtain ⟨e1, ee1⟩ : ∃ z : Int32, z = xs (x3 + 1).toNatClampNeg := ⟨_, rfl⟩
  obtain ⟨e2, ee2⟩ : ∃ z : Int32, z = xs (x3 + 2).toNatClampNeg := ⟨_, rfl⟩
  obtain ⟨e3, ee3⟩ : ∃ z : Int32, z = xs (x3 + 3).toNatClampNeg := ⟨_, rfl⟩
  obtain ⟨e4, ee4⟩ : ∃ z : Int32, z = xs (x3 + 4).toNatClampNeg := ⟨_, rfl⟩
  refine lv_aload_n hx hb dL_law_331 rfl (lv_at hl 1 rfl) ?_
  refine lv_aload_n hx hb dL_law_332 rfl (lv_at hl 0 rfl) ?_
  refine lv_iload_n hx hb dL_law_333 rfl (lv_at hl 3 rfl) ?_
  refine lv_iconst (v := 1) hx hb dL_law_334 (by decide) ?_
  refine lv_iadd hx hb dL_law_335 ?_
  refine va_sld hx hb hX hbl hbA hS v1 dL_law_336 ?_
  rw [← ee1]
  obtain ⟨r, p7, p8⟩ := s_air F G F2 G2 e1 hR
  refine lawX (ad := ad) (bd := bd) (F := F) (G := G) (F' := F) (G' := G) (As := [.int e1]) (rest := []) ⟨hx, hb, hml, hown, hts⟩ (c_X7_air l D ad cA n0 F G e1 p7) (cwV 1 hts gL_law_X7_air rfl rfl rfl (by decide +kernel) ⟨Nat.le_of_ble_eq_true rfl, Nat.le_of_ble_eq_true rfl⟩) hP hK hD hN hS hA rfl hl.1 rfl (Nat.le_of_ble_eq_true rfl) dL_law_337 (fun H locs hP hD hS => ?_)
  refine lv_aload_n hx hb dL_law_340 rfl (lv_at hl 2 rfl) ?_
  refine lv_aload_n hx hb dL_law_341 rfl (lv_at hl 0 rfl) ?_
  refine lv_iload_n hx hb dL_law_342 rfl (lv_at hl 3 rfl) ?_
  refine lv_iconst (v := 1) hx hb dL_law_343 (by decide) ?_
  refine lv_iadd hx hb dL_law_344 ?_
  refine va_sld hx hb hX hbl hbA hS v1 dL_law_345 ?_
  rw [← ee1]
  refine lawM (ad := ad) (bd := bd) (F := F2) (G := G2) (F' := F2) (G' := G2) (As := [.int e1]) (rest := [.int r]) ⟨hx, hb, hml, hown, hts⟩ (c_X8_air l D bd cA n0 F2 G2 e1 p8) (cwV 1 hts gL_law_X8_air rfl rfl rfl (by decide +kernel) ⟨Nat.le_of_ble_eq_true rfl, Nat.le_of_ble_eq_true rfl⟩) hP hK hD hN hS hA rfl hl.1 rfl (Nat.le_of_ble_eq_true rfl) dL_law_346 (fun H locs hP hD hS => ?_)
  refine lv_icmp_eq (tgt := 1147) hx hb dL_law_349 (by decide) (fun _ => ?_) (fun c9 => absurd rfl c9)
  exact JT _ _ _ _ hR _ _ ls hP hD hS hl
set_option maxHeartbeats 4000000 in
set_option maxRecDepth 100000 in
theorem law_fewest {p : Program} {l : Launch} {e : Env} {s : State} {m : MethodId} {below : List Frame} {meth : Method} {c : Code} {D : va_G} {b L : Nat} {xs : Nat → Int32} {cA : ClassId} {ad bd : Nat → Nat} {n0 : Nat} {R : tF → tG → tF → tG → Prop} (C0 : lw_At p s m meth c b L xs) (hN : NwC s) (hK : va_K D vwCl [(cA, .int)] s) (s_fewest : simT_fewest n0 R) {x3 : Int32} (v1 : vp_in (x3 + 1) L) (v2 : vp_in (x3 + 2) L) (v3 : vp_in (x3 + 3) L) (v4 : vp_in (x3 + 4) L)
    (JT : ∀ (F : tF) (G : tG) (F2 : tF) (G2 : tG), R F G F2 G2 → ∀ (H : Heap) (locs : List Loc) (ls : Array Slot), va_P D vwCl (wC ad cA F G ++ wM bd cA F2 G2) H → va_D (fun q : Nat => s.heap.size ≤ q) (wC ad cA F G ++ wM bd cA F2 G2) → va_S (fun q : Nat => s.heap.size ≤ q) s.heap H locs → lv_has ls 4 [(0, .ref b), (1, .ref (ad 0)), (2, .ref (bd 0)), (3, .int x3)] → W p l e room_1 s m #[Value.ref b] below meth c H locs 51 8872 (lw_Z below #[Value.ref b] s) (F0 m 1147 ls [])) :
    ∀ (F : tF) (G : tG) (F2 : tF) (G2 : tG), R F G F2 G2 → ∀ (H : Heap) (locs : List Loc) (ls : Array Slot), va_P D vwCl (wC ad cA F G ++ wM bd cA F2 G2) H → va_D (fun q : Nat => s.heap.size ≤ q) (wC ad cA F G ++ wM bd cA F2 G2) → va_S (fun q : Nat => s.heap.size ≤ q) s.heap H locs → lv_has ls 4 [(0, .ref b), (1, .ref (ad 0)), (2, .ref (bd 0)), (3, .int x3)] → W p l e room_1 s m #[Value.ref b] below meth c H locs 51 8872 (lw_Z below #[Value.ref b] s) (F0 m 354 ls []) := by
  intro F G F2 G2 hR H locs ls hP hD hS hl
  obtain ⟨hx, hb, hr, hml, hown, hts, hX, hbl, hlocks, hgv⟩ := C0
  have hts := fun w h => hts w (wsL_law_in w h)
  have hown : s.vm.findClass RL = some m.cls := hown
  have hA : ∀ q : Nat, s.heap.size ≤ q → (fun q : Nat => s.heap.size ≤ q) q := fun _ h => h
  have hbA : ¬ (fun q : Nat => s.heap.size ≤ q) b := Nat.not_le.mpr hbl
  obtain ⟨e1, ee1⟩ : ∃ z : Int32, z = xs (x3 + 1).toNatClampNeg := ⟨_, rfl⟩
  obtain ⟨e2, ee2⟩ : ∃ z : Int32, z = xs (x3 + 2).toNatClampNeg := ⟨_, rfl⟩
  obtain ⟨e3, ee3⟩ : ∃ z : Int32, z = xs (x3 + 3).toNatClampNeg := ⟨_, rfl⟩
  obtain ⟨e4, ee4⟩ : ∃ z : Int32, z = xs (x3 + 4).toNatClampNeg := ⟨_, rfl⟩
  refine lv_aload_n hx hb dL_law_354 rfl (lv_at hl 1 rfl) ?_
  refine lv_aload_n hx hb dL_law_355 rfl (lv_at hl 0 rfl) ?_
  refine lv_iload_n hx hb dL_law_356 rfl (lv_at hl 3 rfl) ?_
  refine lv_iconst (v := 1) hx hb dL_law_357 (by decide) ?_
  refine lv_iadd hx hb dL_law_358 ?_
  refine va_sld hx hb hX hbl hbA hS v1 dL_law_359 ?_
  rw [← ee1]
  obtain ⟨r, F2', G2', p7, p8, hR'⟩ := s_fewest F G F2 G2 e1 hR
  refine lawX (ad := ad) (bd := bd) (F := F) (G := G) (F' := F) (G' := G) (As := [.int e1]) (rest := []) ⟨hx, hb, hml, hown, hts⟩ (c_X7_fewest l D ad cA n0 F G e1 p7) (cwV 1 hts gL_law_X7_fewest rfl rfl rfl (by decide +kernel) ⟨Nat.le_of_ble_eq_true rfl, Nat.le_of_ble_eq_true rfl⟩) hP hK hD hN hS hA rfl hl.1 rfl (Nat.le_of_ble_eq_true rfl) dL_law_360 (fun H locs hP hD hS => ?_)
  refine lv_aload_n hx hb dL_law_363 rfl (lv_at hl 2 rfl) ?_
  refine lv_aload_n hx hb dL_law_364 rfl (lv_at hl 0 rfl) ?_
  refine lv_iload_n hx hb dL_law_365 rfl (lv_at hl 3 rfl) ?_
  refine lv_iconst (v := 1) hx hb dL_law_366 (by decide) ?_
  refine lv_iadd hx hb dL_law_367 ?_
  refine va_sld hx hb hX hbl hbA hS v1 dL_law_368 ?_
  rw [← ee1]
  refine lawM (ad := ad) (bd := bd) (F := F2) (G := G2) (F' := F2') (G' := G2') (As := [.int e1]) (rest := [.int r]) ⟨hx, hb, hml, hown, hts⟩ (c_X8_fewest l D bd cA n0 F2 G2 e1 p8) (cwV 1 hts gL_law_X8_fewest rfl rfl rfl (by decide +kernel) ⟨Nat.le_of_ble_eq_true rfl, Nat.le_of_ble_eq_true rfl⟩) hP hK hD hN hS hA rfl hl.1 rfl (Nat.le_of_ble_eq_true rfl) dL_law_369 (fun H locs hP hD hS => ?_)
  refine lv_icmp_eq (tgt := 1147) hx hb dL_law_372 (by decide) (fun _ => ?_) (fun c9 => absurd rfl c9)
  exact JT _ _ _ _ hR' _ _ ls hP hD hS hl
set_option maxHeartbeats 4000000 in
set_option maxRecDepth 100000 in
theorem law_go {p : Program} {l : Launch} {e : Env} {s : State} {m : MethodId} {below : List Frame} {meth : Method} {c : Code} {D : va_G} {b L : Nat} {xs : Nat → Int32} {cA : ClassId} {ad bd : Nat → Nat} {n0 : Nat} {R : tF → tG → tF → tG → Prop} (C0 : lw_At p s m meth c b L xs) (hN : NwC s) (hK : va_K D vwCl [(cA, .int)] s) (s_go : simT_go n0 R) {x3 : Int32} (v1 : vp_in (x3 + 1) L) (v2 : vp_in (x3 + 2) L) (v3 : vp_in (x3 + 3) L) (v4 : vp_in (x3 + 4) L)
    (JT : ∀ (F : tF) (G : tG) (F2 : tF) (G2 : tG), R F G F2 G2 → ∀ (H : Heap) (locs : List Loc) (ls : Array Slot), va_P D vwCl (wC ad cA F G ++ wM bd cA F2 G2) H → va_D (fun q : Nat => s.heap.size ≤ q) (wC ad cA F G ++ wM bd cA F2 G2) → va_S (fun q : Nat => s.heap.size ≤ q) s.heap H locs → lv_has ls 4 [(0, .ref b), (1, .ref (ad 0)), (2, .ref (bd 0)), (3, .int x3)] → W p l e room_1 s m #[Value.ref b] below meth c H locs 51 8872 (lw_Z below #[Value.ref b] s) (F0 m 1147 ls [])) :
    ∀ (F : tF) (G : tG) (F2 : tF) (G2 : tG), R F G F2 G2 → ∀ (H : Heap) (locs : List Loc) (ls : Array Slot), va_P D vwCl (wC ad cA F G ++ wM bd cA F2 G2) H → va_D (fun q : Nat => s.heap.size ≤ q) (wC ad cA F G ++ wM bd cA F2 G2) → va_S (fun q : Nat => s.heap.size ≤ q) s.heap H locs → lv_has ls 4 [(0, .ref b), (1, .ref (ad 0)), (2, .ref (bd 0)), (3, .int x3)] → W p l e room_1 s m #[Value.ref b] below meth c H locs 51 8872 (lw_Z below #[Value.ref b] s) (F0 m 377 ls []) := by
  intro F G F2 G2 hR H locs ls hP hD hS hl
  obtain ⟨hx, hb, hr, hml, hown, hts, hX, hbl, hlocks, hgv⟩ := C0
  have hts := fun w h => hts w (wsL_law_in w h)
  have hown : s.vm.findClass RL = some m.cls := hown
  have hA : ∀ q : Nat, s.heap.size ≤ q → (fun q : Nat => s.heap.size ≤ q) q := fun _ h => h
  have hbA : ¬ (fun q : Nat => s.heap.size ≤ q) b := Nat.not_le.mpr hbl
  obtain ⟨e1, ee1⟩ : ∃ z : Int32, z = xs (x3 + 1).toNatClampNeg := ⟨_, rfl⟩
  obtain ⟨e2, ee2⟩ : ∃ z : Int32, z = xs (x3 + 2).toNatClampNeg := ⟨_, rfl⟩
  obtain ⟨e3, ee3⟩ : ∃ z : Int32, z = xs (x3 + 3).toNatClampNeg := ⟨_, rfl⟩
  obtain ⟨e4, ee4⟩ : ∃ z : Int32, z = xs (x3 + 4).toNatClampNeg := ⟨_, rfl⟩
  refine lv_aload_n hx hb dL_law_377 rfl (lv_at hl 1 rfl) ?_
  refine lv_aload_n hx hb dL_law_378 rfl (lv_at hl 0 rfl) ?_
  refine lv_iload_n hx hb dL_law_379 rfl (lv_at hl 3 rfl) ?_
  refine lv_iconst (v := 1) hx hb dL_law_380 (by decide) ?_
  refine lv_iadd hx hb dL_law_381 ?_
  refine va_sld hx hb hX hbl hbA hS v1 dL_law_382 ?_
  rw [← ee1]
  refine lv_aload_n hx hb dL_law_383 rfl (lv_at hl 0 rfl) ?_
  refine lv_iload_n hx hb dL_law_384 rfl (lv_at hl 3 rfl) ?_
  refine lv_iconst (v := 2) hx hb dL_law_385 (by decide) ?_
  refine lv_iadd hx hb dL_law_386 ?_
  refine va_sld hx hb hX hbl hbA hS v2 dL_law_387 ?_
  rw [← ee2]
  refine lv_if_eq (tgt := 395) hx hb dL_law_388 (by decide) (fun cb => ?_) (fun cb => ?_)
  · refine lv_iconst (v := 0) hx hb dL_law_395 (by decide) ?_
    obtain ⟨r, F', G', F2', G2', p7, p8, hR'⟩ := s_go F G F2 G2 e1 0 hR
    refine lawX (ad := ad) (bd := bd) (F := F) (G := G) (F' := F') (G' := G') (As := [.int e1, .int 0]) (rest := []) ⟨hx, hb, hml, hown, hts⟩ (c_X7_go l D ad cA n0 F G e1 0 p7) (cwV 2 hts gL_law_X7_go rfl rfl rfl (by decide +kernel) ⟨Nat.le_of_ble_eq_true rfl, Nat.le_of_ble_eq_true rfl⟩) hP hK hD hN hS hA rfl hl.1 rfl (Nat.le_of_ble_eq_true rfl) dL_law_396 (fun H locs hP hD hS => ?_)
    refine lv_aload_n hx hb dL_law_399 rfl (lv_at hl 2 rfl) ?_
    refine lv_aload_n hx hb dL_law_400 rfl (lv_at hl 0 rfl) ?_
    refine lv_iload_n hx hb dL_law_401 rfl (lv_at hl 3 rfl) ?_
    refine lv_iconst (v := 1) hx hb dL_law_402 (by decide) ?_
    refine lv_iadd hx hb dL_law_403 ?_
    refine va_sld hx hb hX hbl hbA hS v1 dL_law_404 ?_
    rw [← ee1]
    refine lv_aload_n hx hb dL_law_405 rfl (lv_at hl 0 rfl) ?_
    refine lv_iload_n hx hb dL_law_406 rfl (lv_at hl 3 rfl) ?_
    refine lv_iconst (v := 2) hx hb dL_law_407 (by decide) ?_
    refine lv_iadd hx hb dL_law_408 ?_
    refine va_sld hx hb hX hbl hbA hS v2 dL_law_409 ?_
    rw [← ee2]
    refine lv_if_eq (tgt := 417) hx hb dL_law_410 (by decide) (fun _ => ?_) (fun c9 => absurd cb c9)
    refine lv_iconst (v := 0) hx hb dL_law_417 (by decide) ?_
    refine lawM (ad := ad) (bd := bd) (F := F2) (G := G2) (F' := F2') (G' := G2') (As := [.int e1, .int 0]) (rest := [.int r]) ⟨hx, hb, hml, hown, hts⟩ (c_X8_go l D bd cA n0 F2 G2 e1 0 p8) (cwV 2 hts gL_law_X8_go rfl rfl rfl (by decide +kernel) ⟨Nat.le_of_ble_eq_true rfl, Nat.le_of_ble_eq_true rfl⟩) hP hK hD hN hS hA rfl hl.1 rfl (Nat.le_of_ble_eq_true rfl) dL_law_418 (fun H locs hP hD hS => ?_)
    refine lv_icmp_eq (tgt := 1147) hx hb dL_law_421 (by decide) (fun _ => ?_) (fun c9 => absurd rfl c9)
    exact JT _ _ _ _ hR' _ _ ls hP hD hS hl
  · refine lv_iconst (v := 1) hx hb dL_law_391 (by decide) ?_
    refine lv_goto (tgt := 396) hx hb dL_law_392 (by decide) ?_
    obtain ⟨r, F', G', F2', G2', p7, p8, hR'⟩ := s_go F G F2 G2 e1 1 hR
    refine lawX (ad := ad) (bd := bd) (F := F) (G := G) (F' := F') (G' := G') (As := [.int e1, .int 1]) (rest := []) ⟨hx, hb, hml, hown, hts⟩ (c_X7_go l D ad cA n0 F G e1 1 p7) (cwV 2 hts gL_law_X7_go rfl rfl rfl (by decide +kernel) ⟨Nat.le_of_ble_eq_true rfl, Nat.le_of_ble_eq_true rfl⟩) hP hK hD hN hS hA rfl hl.1 rfl (Nat.le_of_ble_eq_true rfl) dL_law_396 (fun H locs hP hD hS => ?_)
    refine lv_aload_n hx hb dL_law_399 rfl (lv_at hl 2 rfl) ?_
    refine lv_aload_n hx hb dL_law_400 rfl (lv_at hl 0 rfl) ?_
    refine lv_iload_n hx hb dL_law_401 rfl (lv_at hl 3 rfl) ?_
    refine lv_iconst (v := 1) hx hb dL_law_402 (by decide) ?_
    refine lv_iadd hx hb dL_law_403 ?_
    refine va_sld hx hb hX hbl hbA hS v1 dL_law_404 ?_
    rw [← ee1]
    refine lv_aload_n hx hb dL_law_405 rfl (lv_at hl 0 rfl) ?_
    refine lv_iload_n hx hb dL_law_406 rfl (lv_at hl 3 rfl) ?_
    refine lv_iconst (v := 2) hx hb dL_law_407 (by decide) ?_
    refine lv_iadd hx hb dL_law_408 ?_
    refine va_sld hx hb hX hbl hbA hS v2 dL_law_409 ?_
    rw [← ee2]
    refine lv_if_eq (tgt := 417) hx hb dL_law_410 (by decide) (fun c9 => absurd c9 cb) (fun _ => ?_)
    refine lv_iconst (v := 1) hx hb dL_law_413 (by decide) ?_
    refine lv_goto (tgt := 418) hx hb dL_law_414 (by decide) ?_
    refine lawM (ad := ad) (bd := bd) (F := F2) (G := G2) (F' := F2') (G' := G2') (As := [.int e1, .int 1]) (rest := [.int r]) ⟨hx, hb, hml, hown, hts⟩ (c_X8_go l D bd cA n0 F2 G2 e1 1 p8) (cwV 2 hts gL_law_X8_go rfl rfl rfl (by decide +kernel) ⟨Nat.le_of_ble_eq_true rfl, Nat.le_of_ble_eq_true rfl⟩) hP hK hD hN hS hA rfl hl.1 rfl (Nat.le_of_ble_eq_true rfl) dL_law_418 (fun H locs hP hD hS => ?_)
    refine lv_icmp_eq (tgt := 1147) hx hb dL_law_421 (by decide) (fun _ => ?_) (fun c9 => absurd rfl c9)
    exact JT _ _ _ _ hR' _ _ ls hP hD hS hl
set_option maxHeartbeats 4000000 in
set_option maxRecDepth 100000 in
theorem law_out {p : Program} {l : Launch} {e : Env} {s : State} {m : MethodId} {below : List Frame} {meth : Method} {c : Code} {D : va_G} {b L : Nat} {xs : Nat → Int32} {cA : ClassId} {ad bd : Nat → Nat} {n0 : Nat} {R : tF → tG → tF → tG → Prop} (C0 : lw_At p s m meth c b L xs) (hN : NwC s) (hK : va_K D vwCl [(cA, .int)] s) (s_out : simT_out n0 R) {x3 : Int32} (v1 : vp_in (x3 + 1) L) (v2 : vp_in (x3 + 2) L) (v3 : vp_in (x3 + 3) L) (v4 : vp_in (x3 + 4) L)
    (JT : ∀ (F : tF) (G : tG) (F2 : tF) (G2 : tG), R F G F2 G2 → ∀ (H : Heap) (locs : List Loc) (ls : Array Slot), va_P D vwCl (wC ad cA F G ++ wM bd cA F2 G2) H → va_D (fun q : Nat => s.heap.size ≤ q) (wC ad cA F G ++ wM bd cA F2 G2) → va_S (fun q : Nat => s.heap.size ≤ q) s.heap H locs → lv_has ls 4 [(0, .ref b), (1, .ref (ad 0)), (2, .ref (bd 0)), (3, .int x3)] → W p l e room_1 s m #[Value.ref b] below meth c H locs 51 8872 (lw_Z below #[Value.ref b] s) (F0 m 1147 ls [])) :
    ∀ (F : tF) (G : tG) (F2 : tF) (G2 : tG), R F G F2 G2 → ∀ (H : Heap) (locs : List Loc) (ls : Array Slot), va_P D vwCl (wC ad cA F G ++ wM bd cA F2 G2) H → va_D (fun q : Nat => s.heap.size ≤ q) (wC ad cA F G ++ wM bd cA F2 G2) → va_S (fun q : Nat => s.heap.size ≤ q) s.heap H locs → lv_has ls 4 [(0, .ref b), (1, .ref (ad 0)), (2, .ref (bd 0)), (3, .int x3)] → W p l e room_1 s m #[Value.ref b] below meth c H locs 51 8872 (lw_Z below #[Value.ref b] s) (F0 m 426 ls []) := by
  intro F G F2 G2 hR H locs ls hP hD hS hl
  obtain ⟨hx, hb, hr, hml, hown, hts, hX, hbl, hlocks, hgv⟩ := C0
  have hts := fun w h => hts w (wsL_law_in w h)
  have hown : s.vm.findClass RL = some m.cls := hown
  have hA : ∀ q : Nat, s.heap.size ≤ q → (fun q : Nat => s.heap.size ≤ q) q := fun _ h => h
  have hbA : ¬ (fun q : Nat => s.heap.size ≤ q) b := Nat.not_le.mpr hbl
  obtain ⟨e1, ee1⟩ : ∃ z : Int32, z = xs (x3 + 1).toNatClampNeg := ⟨_, rfl⟩
  obtain ⟨e2, ee2⟩ : ∃ z : Int32, z = xs (x3 + 2).toNatClampNeg := ⟨_, rfl⟩
  obtain ⟨e3, ee3⟩ : ∃ z : Int32, z = xs (x3 + 3).toNatClampNeg := ⟨_, rfl⟩
  obtain ⟨e4, ee4⟩ : ∃ z : Int32, z = xs (x3 + 4).toNatClampNeg := ⟨_, rfl⟩
  refine lv_aload_n hx hb dL_law_426 rfl (lv_at hl 1 rfl) ?_
  refine lv_aload_n hx hb dL_law_427 rfl (lv_at hl 0 rfl) ?_
  refine lv_iload_n hx hb dL_law_428 rfl (lv_at hl 3 rfl) ?_
  refine lv_iconst (v := 1) hx hb dL_law_429 (by decide) ?_
  refine lv_iadd hx hb dL_law_430 ?_
  refine va_sld hx hb hX hbl hbA hS v1 dL_law_431 ?_
  rw [← ee1]
  refine lv_aload_n hx hb dL_law_432 rfl (lv_at hl 0 rfl) ?_
  refine lv_iload_n hx hb dL_law_433 rfl (lv_at hl 3 rfl) ?_
  refine lv_iconst (v := 2) hx hb dL_law_434 (by decide) ?_
  refine lv_iadd hx hb dL_law_435 ?_
  refine va_sld hx hb hX hbl hbA hS v2 dL_law_436 ?_
  rw [← ee2]
  refine lv_aload_n hx hb dL_law_437 rfl (lv_at hl 0 rfl) ?_
  refine lv_iload_n hx hb dL_law_438 rfl (lv_at hl 3 rfl) ?_
  refine lv_iconst (v := 3) hx hb dL_law_439 (by decide) ?_
  refine lv_iadd hx hb dL_law_440 ?_
  refine va_sld hx hb hX hbl hbA hS v3 dL_law_441 ?_
  rw [← ee3]
  obtain ⟨r, F', G', F2', G2', p7, p8, hR'⟩ := s_out F G F2 G2 e1 e2 e3 hR
  refine lawX (ad := ad) (bd := bd) (F := F) (G := G) (F' := F') (G' := G') (As := [.int e1, .int e2, .int e3]) (rest := []) ⟨hx, hb, hml, hown, hts⟩ (c_X7_out l D ad cA n0 F G e1 e2 e3 p7) (cwV 3 hts gL_law_X7_out rfl rfl rfl (by decide +kernel) ⟨Nat.le_of_ble_eq_true rfl, Nat.le_of_ble_eq_true rfl⟩) hP hK hD hN hS hA rfl hl.1 rfl (Nat.le_of_ble_eq_true rfl) dL_law_442 (fun H locs hP hD hS => ?_)
  refine lv_aload_n hx hb dL_law_445 rfl (lv_at hl 2 rfl) ?_
  refine lv_aload_n hx hb dL_law_446 rfl (lv_at hl 0 rfl) ?_
  refine lv_iload_n hx hb dL_law_447 rfl (lv_at hl 3 rfl) ?_
  refine lv_iconst (v := 1) hx hb dL_law_448 (by decide) ?_
  refine lv_iadd hx hb dL_law_449 ?_
  refine va_sld hx hb hX hbl hbA hS v1 dL_law_450 ?_
  rw [← ee1]
  refine lv_aload_n hx hb dL_law_451 rfl (lv_at hl 0 rfl) ?_
  refine lv_iload_n hx hb dL_law_452 rfl (lv_at hl 3 rfl) ?_
  refine lv_iconst (v := 2) hx hb dL_law_453 (by decide) ?_
  refine lv_iadd hx hb dL_law_454 ?_
  refine va_sld hx hb hX hbl hbA hS v2 dL_law_455 ?_
  rw [← ee2]
  refine lv_aload_n hx hb dL_law_456 rfl (lv_at hl 0 rfl) ?_
  refine lv_iload_n hx hb dL_law_457 rfl (lv_at hl 3 rfl) ?_
  refine lv_iconst (v := 3) hx hb dL_law_458 (by decide) ?_
  refine lv_iadd hx hb dL_law_459 ?_
  refine va_sld hx hb hX hbl hbA hS v3 dL_law_460 ?_
  rw [← ee3]
  refine lawM (ad := ad) (bd := bd) (F := F2) (G := G2) (F' := F2') (G' := G2') (As := [.int e1, .int e2, .int e3]) (rest := [.int r]) ⟨hx, hb, hml, hown, hts⟩ (c_X8_out l D bd cA n0 F2 G2 e1 e2 e3 p8) (cwV 3 hts gL_law_X8_out rfl rfl rfl (by decide +kernel) ⟨Nat.le_of_ble_eq_true rfl, Nat.le_of_ble_eq_true rfl⟩) hP hK hD hN hS hA rfl hl.1 rfl (Nat.le_of_ble_eq_true rfl) dL_law_461 (fun H locs hP hD hS => ?_)
  refine lv_icmp_eq (tgt := 1147) hx hb dL_law_464 (by decide) (fun _ => ?_) (fun c9 => absurd rfl c9)
  exact JT _ _ _ _ hR' _ _ ls hP hD hS hl
set_option maxHeartbeats 4000000 in
set_option maxRecDepth 100000 in
theorem law_hose {p : Program} {l : Launch} {e : Env} {s : State} {m : MethodId} {below : List Frame} {meth : Method} {c : Code} {D : va_G} {b L : Nat} {xs : Nat → Int32} {cA : ClassId} {ad bd : Nat → Nat} {n0 : Nat} {R : tF → tG → tF → tG → Prop} (C0 : lw_At p s m meth c b L xs) (hN : NwC s) (hK : va_K D vwCl [(cA, .int)] s) (s_hose : simT_hose n0 R) {x3 : Int32} (v1 : vp_in (x3 + 1) L) (v2 : vp_in (x3 + 2) L) (v3 : vp_in (x3 + 3) L) (v4 : vp_in (x3 + 4) L)
    (JT : ∀ (F : tF) (G : tG) (F2 : tF) (G2 : tG), R F G F2 G2 → ∀ (H : Heap) (locs : List Loc) (ls : Array Slot), va_P D vwCl (wC ad cA F G ++ wM bd cA F2 G2) H → va_D (fun q : Nat => s.heap.size ≤ q) (wC ad cA F G ++ wM bd cA F2 G2) → va_S (fun q : Nat => s.heap.size ≤ q) s.heap H locs → lv_has ls 4 [(0, .ref b), (1, .ref (ad 0)), (2, .ref (bd 0)), (3, .int x3)] → W p l e room_1 s m #[Value.ref b] below meth c H locs 51 8872 (lw_Z below #[Value.ref b] s) (F0 m 1147 ls [])) :
    ∀ (F : tF) (G : tG) (F2 : tF) (G2 : tG), R F G F2 G2 → ∀ (H : Heap) (locs : List Loc) (ls : Array Slot), va_P D vwCl (wC ad cA F G ++ wM bd cA F2 G2) H → va_D (fun q : Nat => s.heap.size ≤ q) (wC ad cA F G ++ wM bd cA F2 G2) → va_S (fun q : Nat => s.heap.size ≤ q) s.heap H locs → lv_has ls 4 [(0, .ref b), (1, .ref (ad 0)), (2, .ref (bd 0)), (3, .int x3)] → W p l e room_1 s m #[Value.ref b] below meth c H locs 51 8872 (lw_Z below #[Value.ref b] s) (F0 m 469 ls []) := by
  intro F G F2 G2 hR H locs ls hP hD hS hl
  obtain ⟨hx, hb, hr, hml, hown, hts, hX, hbl, hlocks, hgv⟩ := C0
  have hts := fun w h => hts w (wsL_law_in w h)
  have hown : s.vm.findClass RL = some m.cls := hown
  have hA : ∀ q : Nat, s.heap.size ≤ q → (fun q : Nat => s.heap.size ≤ q) q := fun _ h => h
  have hbA : ¬ (fun q : Nat => s.heap.size ≤ q) b := Nat.not_le.mpr hbl
  obtain ⟨e1, ee1⟩ : ∃ z : Int32, z = xs (x3 + 1).toNatClampNeg := ⟨_, rfl⟩
  obtain ⟨e2, ee2⟩ : ∃ z : Int32, z = xs (x3 + 2).toNatClampNeg := ⟨_, rfl⟩
  obtain ⟨e3, ee3⟩ : ∃ z : Int32, z = xs (x3 + 3).toNatClampNeg := ⟨_, rfl⟩
  obtain ⟨e4, ee4⟩ : ∃ z : Int32, z = xs (x3 + 4).toNatClampNeg := ⟨_, rfl⟩
  refine lv_aload_n hx hb dL_law_469 rfl (lv_at hl 1 rfl) ?_
  refine lv_aload_n hx hb dL_law_470 rfl (lv_at hl 0 rfl) ?_
  refine lv_iload_n hx hb dL_law_471 rfl (lv_at hl 3 rfl) ?_
  refine lv_iconst (v := 1) hx hb dL_law_472 (by decide) ?_
  refine lv_iadd hx hb dL_law_473 ?_
  refine va_sld hx hb hX hbl hbA hS v1 dL_law_474 ?_
  rw [← ee1]
  refine lv_aload_n hx hb dL_law_475 rfl (lv_at hl 0 rfl) ?_
  refine lv_iload_n hx hb dL_law_476 rfl (lv_at hl 3 rfl) ?_
  refine lv_iconst (v := 2) hx hb dL_law_477 (by decide) ?_
  refine lv_iadd hx hb dL_law_478 ?_
  refine va_sld hx hb hX hbl hbA hS v2 dL_law_479 ?_
  rw [← ee2]
  obtain ⟨r, F', G', F2', G2', p7, p8, hR'⟩ := s_hose F G F2 G2 e1 e2 hR
  refine lawX (ad := ad) (bd := bd) (F := F) (G := G) (F' := F') (G' := G') (As := [.int e1, .int e2]) (rest := []) ⟨hx, hb, hml, hown, hts⟩ (c_X7_hose l D ad cA n0 F G e1 e2 p7) (cwV 2 hts gL_law_X7_hose rfl rfl rfl (by decide +kernel) ⟨Nat.le_of_ble_eq_true rfl, Nat.le_of_ble_eq_true rfl⟩) hP hK hD hN hS hA rfl hl.1 rfl (Nat.le_of_ble_eq_true rfl) dL_law_480 (fun H locs hP hD hS => ?_)
  refine lv_aload_n hx hb dL_law_483 rfl (lv_at hl 2 rfl) ?_
  refine lv_aload_n hx hb dL_law_484 rfl (lv_at hl 0 rfl) ?_
  refine lv_iload_n hx hb dL_law_485 rfl (lv_at hl 3 rfl) ?_
  refine lv_iconst (v := 1) hx hb dL_law_486 (by decide) ?_
  refine lv_iadd hx hb dL_law_487 ?_
  refine va_sld hx hb hX hbl hbA hS v1 dL_law_488 ?_
  rw [← ee1]
  refine lv_aload_n hx hb dL_law_489 rfl (lv_at hl 0 rfl) ?_
  refine lv_iload_n hx hb dL_law_490 rfl (lv_at hl 3 rfl) ?_
  refine lv_iconst (v := 2) hx hb dL_law_491 (by decide) ?_
  refine lv_iadd hx hb dL_law_492 ?_
  refine va_sld hx hb hX hbl hbA hS v2 dL_law_493 ?_
  rw [← ee2]
  refine lawM (ad := ad) (bd := bd) (F := F2) (G := G2) (F' := F2') (G' := G2') (As := [.int e1, .int e2]) (rest := [.int r]) ⟨hx, hb, hml, hown, hts⟩ (c_X8_hose l D bd cA n0 F2 G2 e1 e2 p8) (cwV 2 hts gL_law_X8_hose rfl rfl rfl (by decide +kernel) ⟨Nat.le_of_ble_eq_true rfl, Nat.le_of_ble_eq_true rfl⟩) hP hK hD hN hS hA rfl hl.1 rfl (Nat.le_of_ble_eq_true rfl) dL_law_494 (fun H locs hP hD hS => ?_)
  refine lv_icmp_eq (tgt := 1147) hx hb dL_law_497 (by decide) (fun _ => ?_) (fun c9 => absurd rfl c9)
  exact JT _ _ _ _ hR' _ _ ls hP hD hS hl
set_option maxHeartbeats 4000000 in
set_option maxRecDepth 100000 in
theorem law_stay {p : Program} {l : Launch} {e : Env} {s : State} {m : MethodId} {below : List Frame} {meth : Method} {c : Code} {D : va_G} {b L : Nat} {xs : Nat → Int32} {cA : ClassId} {ad bd : Nat → Nat} {n0 : Nat} {R : tF → tG → tF → tG → Prop} (C0 : lw_At p s m meth c b L xs) (hN : NwC s) (hK : va_K D vwCl [(cA, .int)] s) (s_stay : simT_stay n0 R) {x3 : Int32} (v1 : vp_in (x3 + 1) L) (v2 : vp_in (x3 + 2) L) (v3 : vp_in (x3 + 3) L) (v4 : vp_in (x3 + 4) L)
    (JT : ∀ (F : tF) (G : tG) (F2 : tF) (G2 : tG), R F G F2 G2 → ∀ (H : Heap) (locs : List Loc) (ls : Array Slot), va_P D vwCl (wC ad cA F G ++ wM bd cA F2 G2) H → va_D (fun q : Nat => s.heap.size ≤ q) (wC ad cA F G ++ wM bd cA F2 G2) → va_S (fun q : Nat => s.heap.size ≤ q) s.heap H locs → lv_has ls 4 [(0, .ref b), (1, .ref (ad 0)), (2, .ref (bd 0)), (3, .int x3)] → W p l e room_1 s m #[Value.ref b] below meth c H locs 51 8872 (lw_Z below #[Value.ref b] s) (F0 m 1147 ls [])) :
    ∀ (F : tF) (G : tG) (F2 : tF) (G2 : tG), R F G F2 G2 → ∀ (H : Heap) (locs : List Loc) (ls : Array Slot), va_P D vwCl (wC ad cA F G ++ wM bd cA F2 G2) H → va_D (fun q : Nat => s.heap.size ≤ q) (wC ad cA F G ++ wM bd cA F2 G2) → va_S (fun q : Nat => s.heap.size ≤ q) s.heap H locs → lv_has ls 4 [(0, .ref b), (1, .ref (ad 0)), (2, .ref (bd 0)), (3, .int x3)] → W p l e room_1 s m #[Value.ref b] below meth c H locs 51 8872 (lw_Z below #[Value.ref b] s) (F0 m 502 ls []) := by
  intro F G F2 G2 hR H locs ls hP hD hS hl
  obtain ⟨hx, hb, hr, hml, hown, hts, hX, hbl, hlocks, hgv⟩ := C0
  have hts := fun w h => hts w (wsL_law_in w h)
  have hown : s.vm.findClass RL = some m.cls := hown
  have hA : ∀ q : Nat, s.heap.size ≤ q → (fun q : Nat => s.heap.size ≤ q) q := fun _ h => h
  have hbA : ¬ (fun q : Nat => s.heap.size ≤ q) b := Nat.not_le.mpr hbl
  obtain ⟨e1, ee1⟩ : ∃ z : Int32, z = xs (x3 + 1).toNatClampNeg := ⟨_, rfl⟩
  obtain ⟨e2, ee2⟩ : ∃ z : Int32, z = xs (x3 + 2).toNatClampNeg := ⟨_, rfl⟩
  obtain ⟨e3, ee3⟩ : ∃ z : Int32, z = xs (x3 + 3).toNatClampNeg := ⟨_, rfl⟩
  obtain ⟨e4, ee4⟩ : ∃ z : Int32, z = xs (x3 + 4).toNatClampNeg := ⟨_, rfl⟩
  refine lv_aload_n hx hb dL_law_502 rfl (lv_at hl 1 rfl) ?_
  refine lv_aload_n hx hb dL_law_503 rfl (lv_at hl 0 rfl) ?_
  refine lv_iload_n hx hb dL_law_504 rfl (lv_at hl 3 rfl) ?_
  refine lv_iconst (v := 1) hx hb dL_law_505 (by decide) ?_
  refine lv_iadd hx hb dL_law_506 ?_
  refine va_sld hx hb hX hbl hbA hS v1 dL_law_507 ?_
  rw [← ee1]
  obtain ⟨r, F', G', F2', G2', p7, p8, hR'⟩ := s_stay F G F2 G2 e1 hR
  refine lawX (ad := ad) (bd := bd) (F := F) (G := G) (F' := F') (G' := G') (As := [.int e1]) (rest := []) ⟨hx, hb, hml, hown, hts⟩ (c_X7_stay l D ad cA n0 F G e1 p7) (cwV 1 hts gL_law_X7_stay rfl rfl rfl (by decide +kernel) ⟨Nat.le_of_ble_eq_true rfl, Nat.le_of_ble_eq_true rfl⟩) hP hK hD hN hS hA rfl hl.1 rfl (Nat.le_of_ble_eq_true rfl) dL_law_508 (fun H locs hP hD hS => ?_)
  refine lv_aload_n hx hb dL_law_511 rfl (lv_at hl 2 rfl) ?_
  refine lv_aload_n hx hb dL_law_512 rfl (lv_at hl 0 rfl) ?_
  refine lv_iload_n hx hb dL_law_513 rfl (lv_at hl 3 rfl) ?_
  refine lv_iconst (v := 1) hx hb dL_law_514 (by decide) ?_
  refine lv_iadd hx hb dL_law_515 ?_
  refine va_sld hx hb hX hbl hbA hS v1 dL_law_516 ?_
  rw [← ee1]
  refine lawM (ad := ad) (bd := bd) (F := F2) (G := G2) (F' := F2') (G' := G2') (As := [.int e1]) (rest := [.int r]) ⟨hx, hb, hml, hown, hts⟩ (c_X8_stay l D bd cA n0 F2 G2 e1 p8) (cwV 1 hts gL_law_X8_stay rfl rfl rfl (by decide +kernel) ⟨Nat.le_of_ble_eq_true rfl, Nat.le_of_ble_eq_true rfl⟩) hP hK hD hN hS hA rfl hl.1 rfl (Nat.le_of_ble_eq_true rfl) dL_law_517 (fun H locs hP hD hS => ?_)
  refine lv_icmp_eq (tgt := 1147) hx hb dL_law_520 (by decide) (fun _ => ?_) (fun c9 => absurd rfl c9)
  exact JT _ _ _ _ hR' _ _ ls hP hD hS hl
set_option maxHeartbeats 4000000 in
set_option maxRecDepth 100000 in
theorem law_hang {p : Program} {l : Launch} {e : Env} {s : State} {m : MethodId} {below : List Frame} {meth : Method} {c : Code} {D : va_G} {b L : Nat} {xs : Nat → Int32} {cA : ClassId} {ad bd : Nat → Nat} {n0 : Nat} {R : tF → tG → tF → tG → Prop} (C0 : lw_At p s m meth c b L xs) (hN : NwC s) (hK : va_K D vwCl [(cA, .int)] s) (s_hang : simT_hang n0 R) {x3 : Int32} (v1 : vp_in (x3 + 1) L) (v2 : vp_in (x3 + 2) L) (v3 : vp_in (x3 + 3) L) (v4 : vp_in (x3 + 4) L)
    (JT : ∀ (F : tF) (G : tG) (F2 : tF) (G2 : tG), R F G F2 G2 → ∀ (H : Heap) (locs : List Loc) (ls : Array Slot), va_P D vwCl (wC ad cA F G ++ wM bd cA F2 G2) H → va_D (fun q : Nat => s.heap.size ≤ q) (wC ad cA F G ++ wM bd cA F2 G2) → va_S (fun q : Nat => s.heap.size ≤ q) s.heap H locs → lv_has ls 4 [(0, .ref b), (1, .ref (ad 0)), (2, .ref (bd 0)), (3, .int x3)] → W p l e room_1 s m #[Value.ref b] below meth c H locs 51 8872 (lw_Z below #[Value.ref b] s) (F0 m 1147 ls [])) :
    ∀ (F : tF) (G : tG) (F2 : tF) (G2 : tG), R F G F2 G2 → ∀ (H : Heap) (locs : List Loc) (ls : Array Slot), va_P D vwCl (wC ad cA F G ++ wM bd cA F2 G2) H → va_D (fun q : Nat => s.heap.size ≤ q) (wC ad cA F G ++ wM bd cA F2 G2) → va_S (fun q : Nat => s.heap.size ≤ q) s.heap H locs → lv_has ls 4 [(0, .ref b), (1, .ref (ad 0)), (2, .ref (bd 0)), (3, .int x3)] → W p l e room_1 s m #[Value.ref b] below meth c H locs 51 8872 (lw_Z below #[Value.ref b] s) (F0 m 525 ls []) := by
  intro F G F2 G2 hR H locs ls hP hD hS hl
  obtain ⟨hx, hb, hr, hml, hown, hts, hX, hbl, hlocks, hgv⟩ := C0
  have hts := fun w h => hts w (wsL_law_in w h)
  have hown : s.vm.findClass RL = some m.cls := hown
  have hA : ∀ q : Nat, s.heap.size ≤ q → (fun q : Nat => s.heap.size ≤ q) q := fun _ h => h
  have hbA : ¬ (fun q : Nat => s.heap.size ≤ q) b := Nat.not_le.mpr hbl
  obtain ⟨e1, ee1⟩ : ∃ z : Int32, z = xs (x3 + 1).toNatClampNeg := ⟨_, rfl⟩
  obtain ⟨e2, ee2⟩ : ∃ z : Int32, z = xs (x3 + 2).toNatClampNeg := ⟨_, rfl⟩
  obtain ⟨e3, ee3⟩ : ∃ z : Int32, z = xs (x3 + 3).toNatClampNeg := ⟨_, rfl⟩
  obtain ⟨e4, ee4⟩ : ∃ z : Int32, z = xs (x3 + 4).toNatClampNeg := ⟨_, rfl⟩
  refine lv_aload_n hx hb dL_law_525 rfl (lv_at hl 1 rfl) ?_
  refine lv_aload_n hx hb dL_law_526 rfl (lv_at hl 0 rfl) ?_
  refine lv_iload_n hx hb dL_law_527 rfl (lv_at hl 3 rfl) ?_
  refine lv_iconst (v := 1) hx hb dL_law_528 (by decide) ?_
  refine lv_iadd hx hb dL_law_529 ?_
  refine va_sld hx hb hX hbl hbA hS v1 dL_law_530 ?_
  rw [← ee1]
  obtain ⟨r, F', G', F2', G2', p7, p8, hR'⟩ := s_hang F G F2 G2 e1 hR
  refine lawX (ad := ad) (bd := bd) (F := F) (G := G) (F' := F') (G' := G') (As := [.int e1]) (rest := []) ⟨hx, hb, hml, hown, hts⟩ (c_X7_hang l D ad cA n0 F G e1 p7) (cwV 1 hts gL_law_X7_hang rfl rfl rfl (by decide +kernel) ⟨Nat.le_of_ble_eq_true rfl, Nat.le_of_ble_eq_true rfl⟩) hP hK hD hN hS hA rfl hl.1 rfl (Nat.le_of_ble_eq_true rfl) dL_law_531 (fun H locs hP hD hS => ?_)
  refine lv_aload_n hx hb dL_law_534 rfl (lv_at hl 2 rfl) ?_
  refine lv_aload_n hx hb dL_law_535 rfl (lv_at hl 0 rfl) ?_
  refine lv_iload_n hx hb dL_law_536 rfl (lv_at hl 3 rfl) ?_
  refine lv_iconst (v := 1) hx hb dL_law_537 (by decide) ?_
  refine lv_iadd hx hb dL_law_538 ?_
  refine va_sld hx hb hX hbl hbA hS v1 dL_law_539 ?_
  rw [← ee1]
  refine lawM (ad := ad) (bd := bd) (F := F2) (G := G2) (F' := F2') (G' := G2') (As := [.int e1]) (rest := [.int r]) ⟨hx, hb, hml, hown, hts⟩ (c_X8_hang l D bd cA n0 F2 G2 e1 p8) (cwV 1 hts gL_law_X8_hang rfl rfl rfl (by decide +kernel) ⟨Nat.le_of_ble_eq_true rfl, Nat.le_of_ble_eq_true rfl⟩) hP hK hD hN hS hA rfl hl.1 rfl (Nat.le_of_ble_eq_true rfl) dL_law_540 (fun H locs hP hD hS => ?_)
  refine lv_icmp_eq (tgt := 1147) hx hb dL_law_543 (by decide) (fun _ => ?_) (fun c9 => absurd rfl c9)
  exact JT _ _ _ _ hR' _ _ ls hP hD hS hl
set_option maxHeartbeats 4000000 in
set_option maxRecDepth 100000 in
theorem law_man {p : Program} {l : Launch} {e : Env} {s : State} {m : MethodId} {below : List Frame} {meth : Method} {c : Code} {D : va_G} {b L : Nat} {xs : Nat → Int32} {cA : ClassId} {ad bd : Nat → Nat} {n0 : Nat} {R : tF → tG → tF → tG → Prop} (C0 : lw_At p s m meth c b L xs) (hN : NwC s) (hK : va_K D vwCl [(cA, .int)] s) (s_man : simT_man n0 R) {x3 : Int32} (v1 : vp_in (x3 + 1) L) (v2 : vp_in (x3 + 2) L) (v3 : vp_in (x3 + 3) L) (v4 : vp_in (x3 + 4) L)
    (JT : ∀ (F : tF) (G : tG) (F2 : tF) (G2 : tG), R F G F2 G2 → ∀ (H : Heap) (locs : List Loc) (ls : Array Slot), va_P D vwCl (wC ad cA F G ++ wM bd cA F2 G2) H → va_D (fun q : Nat => s.heap.size ≤ q) (wC ad cA F G ++ wM bd cA F2 G2) → va_S (fun q : Nat => s.heap.size ≤ q) s.heap H locs → lv_has ls 4 [(0, .ref b), (1, .ref (ad 0)), (2, .ref (bd 0)), (3, .int x3)] → W p l e room_1 s m #[Value.ref b] below meth c H locs 51 8872 (lw_Z below #[Value.ref b] s) (F0 m 1147 ls [])) :
    ∀ (F : tF) (G : tG) (F2 : tF) (G2 : tG), R F G F2 G2 → ∀ (H : Heap) (locs : List Loc) (ls : Array Slot), va_P D vwCl (wC ad cA F G ++ wM bd cA F2 G2) H → va_D (fun q : Nat => s.heap.size ≤ q) (wC ad cA F G ++ wM bd cA F2 G2) → va_S (fun q : Nat => s.heap.size ≤ q) s.heap H locs → lv_has ls 4 [(0, .ref b), (1, .ref (ad 0)), (2, .ref (bd 0)), (3, .int x3)] → W p l e room_1 s m #[Value.ref b] below meth c H locs 51 8872 (lw_Z below #[Value.ref b] s) (F0 m 548 ls []) := by
  intro F G F2 G2 hR H locs ls hP hD hS hl
  obtain ⟨hx, hb, hr, hml, hown, hts, hX, hbl, hlocks, hgv⟩ := C0
  have hts := fun w h => hts w (wsL_law_in w h)
  have hown : s.vm.findClass RL = some m.cls := hown
  have hA : ∀ q : Nat, s.heap.size ≤ q → (fun q : Nat => s.heap.size ≤ q) q := fun _ h => h
  have hbA : ¬ (fun q : Nat => s.heap.size ≤ q) b := Nat.not_le.mpr hbl
  obtain ⟨e1, ee1⟩ : ∃ z : Int32, z = xs (x3 + 1).toNatClampNeg := ⟨_, rfl⟩
  obtain ⟨e2, ee2⟩ : ∃ z : Int32, z = xs (x3 + 2).toNatClampNeg := ⟨_, rfl⟩
  obtain ⟨e3, ee3⟩ : ∃ z : Int32, z = xs (x3 + 3).toNatClampNeg := ⟨_, rfl⟩
  obtain ⟨e4, ee4⟩ : ∃ z : Int32, z = xs (x3 + 4).toNatClampNeg := ⟨_, rfl⟩
  refine lv_aload_n hx hb dL_law_548 rfl (lv_at hl 1 rfl) ?_
  refine lv_aload_n hx hb dL_law_549 rfl (lv_at hl 0 rfl) ?_
  refine lv_iload_n hx hb dL_law_550 rfl (lv_at hl 3 rfl) ?_
  refine lv_iconst (v := 1) hx hb dL_law_551 (by decide) ?_
  refine lv_iadd hx hb dL_law_552 ?_
  refine va_sld hx hb hX hbl hbA hS v1 dL_law_553 ?_
  rw [← ee1]
  refine lv_aload_n hx hb dL_law_554 rfl (lv_at hl 0 rfl) ?_
  refine lv_iload_n hx hb dL_law_555 rfl (lv_at hl 3 rfl) ?_
  refine lv_iconst (v := 2) hx hb dL_law_556 (by decide) ?_
  refine lv_iadd hx hb dL_law_557 ?_
  refine va_sld hx hb hX hbl hbA hS v2 dL_law_558 ?_
  rw [← ee2]
  obtain ⟨r, p7, p8⟩ := s_man F G F2 G2 e1 e2 hR
  refine lawX (ad := ad) (bd := bd) (F := F) (G := G) (F' := F) (G' := G) (As := [.int e1, .int e2]) (rest := []) ⟨hx, hb, hml, hown, hts⟩ (c_X7_man l D ad cA n0 F G e1 e2 p7) (cwV 2 hts gL_law_X7_man rfl rfl rfl (by decide +kernel) ⟨Nat.le_of_ble_eq_true rfl, Nat.le_of_ble_eq_true rfl⟩) hP hK hD hN hS hA rfl hl.1 rfl (Nat.le_of_ble_eq_true rfl) dL_law_559 (fun H locs hP hD hS => ?_)
  refine lv_aload_n hx hb dL_law_562 rfl (lv_at hl 2 rfl) ?_
  refine lv_aload_n hx hb dL_law_563 rfl (lv_at hl 0 rfl) ?_
  refine lv_iload_n hx hb dL_law_564 rfl (lv_at hl 3 rfl) ?_
  refine lv_iconst (v := 1) hx hb dL_law_565 (by decide) ?_
  refine lv_iadd hx hb dL_law_566 ?_
  refine va_sld hx hb hX hbl hbA hS v1 dL_law_567 ?_
  rw [← ee1]
  refine lv_aload_n hx hb dL_law_568 rfl (lv_at hl 0 rfl) ?_
  refine lv_iload_n hx hb dL_law_569 rfl (lv_at hl 3 rfl) ?_
  refine lv_iconst (v := 2) hx hb dL_law_570 (by decide) ?_
  refine lv_iadd hx hb dL_law_571 ?_
  refine va_sld hx hb hX hbl hbA hS v2 dL_law_572 ?_
  rw [← ee2]
  refine lawM (ad := ad) (bd := bd) (F := F2) (G := G2) (F' := F2) (G' := G2) (As := [.int e1, .int e2]) (rest := [.int r]) ⟨hx, hb, hml, hown, hts⟩ (c_X8_man l D bd cA n0 F2 G2 e1 e2 p8) (cwV 2 hts gL_law_X8_man rfl rfl rfl (by decide +kernel) ⟨Nat.le_of_ble_eq_true rfl, Nat.le_of_ble_eq_true rfl⟩) hP hK hD hN hS hA rfl hl.1 rfl (Nat.le_of_ble_eq_true rfl) dL_law_573 (fun H locs hP hD hS => ?_)
  refine lv_icmp_eq (tgt := 1147) hx hb dL_law_576 (by decide) (fun _ => ?_) (fun c9 => absurd rfl c9)
  exact JT _ _ _ _ hR _ _ ls hP hD hS hl
set_option maxHeartbeats 4000000 in
set_option maxRecDepth 100000 in
theorem law_thing {p : Program} {l : Launch} {e : Env} {s : State} {m : MethodId} {below : List Frame} {meth : Method} {c : Code} {D : va_G} {b L : Nat} {xs : Nat → Int32} {cA : ClassId} {ad bd : Nat → Nat} {n0 : Nat} {R : tF → tG → tF → tG → Prop} (C0 : lw_At p s m meth c b L xs) (hN : NwC s) (hK : va_K D vwCl [(cA, .int)] s) (s_thing : simT_thing n0 R) {x3 : Int32} (v1 : vp_in (x3 + 1) L) (v2 : vp_in (x3 + 2) L) (v3 : vp_in (x3 + 3) L) (v4 : vp_in (x3 + 4) L)
    (JT : ∀ (F : tF) (G : tG) (F2 : tF) (G2 : tG), R F G F2 G2 → ∀ (H : Heap) (locs : List Loc) (ls : Array Slot), va_P D vwCl (wC ad cA F G ++ wM bd cA F2 G2) H → va_D (fun q : Nat => s.heap.size ≤ q) (wC ad cA F G ++ wM bd cA F2 G2) → va_S (fun q : Nat => s.heap.size ≤ q) s.heap H locs → lv_has ls 4 [(0, .ref b), (1, .ref (ad 0)), (2, .ref (bd 0)), (3, .int x3)] → W p l e room_1 s m #[Value.ref b] below meth c H locs 51 8872 (lw_Z below #[Value.ref b] s) (F0 m 1147 ls [])) :
    ∀ (F : tF) (G : tG) (F2 : tF) (G2 : tG), R F G F2 G2 → ∀ (H : Heap) (locs : List Loc) (ls : Array Slot), va_P D vwCl (wC ad cA F G ++ wM bd cA F2 G2) H → va_D (fun q : Nat => s.heap.size ≤ q) (wC ad cA F G ++ wM bd cA F2 G2) → va_S (fun q : Nat => s.heap.size ≤ q) s.heap H locs → lv_has ls 4 [(0, .ref b), (1, .ref (ad 0)), (2, .ref (bd 0)), (3, .int x3)] → W p l e room_1 s m #[Value.ref b] below meth c H locs 51 8872 (lw_Z below #[Value.ref b] s) (F0 m 581 ls []) := by
  intro F G F2 G2 hR H locs ls hP hD hS hl
  obtain ⟨hx, hb, hr, hml, hown, hts, hX, hbl, hlocks, hgv⟩ := C0
  have hts := fun w h => hts w (wsL_law_in w h)
  have hown : s.vm.findClass RL = some m.cls := hown
  have hA : ∀ q : Nat, s.heap.size ≤ q → (fun q : Nat => s.heap.size ≤ q) q := fun _ h => h
  have hbA : ¬ (fun q : Nat => s.heap.size ≤ q) b := Nat.not_le.mpr hbl
  obtain ⟨e1, ee1⟩ : ∃ z : Int32, z = xs (x3 + 1).toNatClampNeg := ⟨_, rfl⟩
  obtain ⟨e2, ee2⟩ : ∃ z : Int32, z = xs (x3 + 2).toNatClampNeg := ⟨_, rfl⟩
  obtain ⟨e3, ee3⟩ : ∃ z : Int32, z = xs (x3 + 3).toNatClampNeg := ⟨_, rfl⟩
  obtain ⟨e4, ee4⟩ : ∃ z : Int32, z = xs (x3 + 4).toNatClampNeg := ⟨_, rfl⟩
  refine lv_aload_n hx hb dL_law_581 rfl (lv_at hl 1 rfl) ?_
  refine lv_aload_n hx hb dL_law_582 rfl (lv_at hl 0 rfl) ?_
  refine lv_iload_n hx hb dL_law_583 rfl (lv_at hl 3 rfl) ?_
  refine lv_iconst (v := 1) hx hb dL_law_584 (by decide) ?_
  refine lv_iadd hx hb dL_law_585 ?_
  refine va_sld hx hb hX hbl hbA hS v1 dL_law_586 ?_
  rw [← ee1]
  refine lv_aload_n hx hb dL_law_587 rfl (lv_at hl 0 rfl) ?_
  refine lv_iload_n hx hb dL_law_588 rfl (lv_at hl 3 rfl) ?_
  refine lv_iconst (v := 2) hx hb dL_law_589 (by decide) ?_
  refine lv_iadd hx hb dL_law_590 ?_
  refine va_sld hx hb hX hbl hbA hS v2 dL_law_591 ?_
  rw [← ee2]
  refine lv_aload_n hx hb dL_law_592 rfl (lv_at hl 0 rfl) ?_
  refine lv_iload_n hx hb dL_law_593 rfl (lv_at hl 3 rfl) ?_
  refine lv_iconst (v := 3) hx hb dL_law_594 (by decide) ?_
  refine lv_iadd hx hb dL_law_595 ?_
  refine va_sld hx hb hX hbl hbA hS v3 dL_law_596 ?_
  rw [← ee3]
  refine lv_aload_n hx hb dL_law_597 rfl (lv_at hl 0 rfl) ?_
  refine lv_iload_n hx hb dL_law_598 rfl (lv_at hl 3 rfl) ?_
  refine lv_iconst (v := 4) hx hb dL_law_599 (by decide) ?_
  refine lv_iadd hx hb dL_law_600 ?_
  refine va_sld hx hb hX hbl hbA hS v4 dL_law_601 ?_
  rw [← ee4]
  obtain ⟨r, F', G', F2', G2', p7, p8, hR'⟩ := s_thing F G F2 G2 e1 e2 e3 e4 hR
  refine lawX (ad := ad) (bd := bd) (F := F) (G := G) (F' := F') (G' := G') (As := [.int e1, .int e2, .int e3, .int e4]) (rest := []) ⟨hx, hb, hml, hown, hts⟩ (c_X7_thing l D ad cA n0 F G e1 e2 e3 e4 p7) (cwV 4 hts gL_law_X7_thing rfl rfl rfl (by decide +kernel) ⟨Nat.le_of_ble_eq_true rfl, Nat.le_of_ble_eq_true rfl⟩) hP hK hD hN hS hA rfl hl.1 rfl (Nat.le_of_ble_eq_true rfl) dL_law_602 (fun H locs hP hD hS => ?_)
  refine lv_aload_n hx hb dL_law_605 rfl (lv_at hl 2 rfl) ?_
  refine lv_aload_n hx hb dL_law_606 rfl (lv_at hl 0 rfl) ?_
  refine lv_iload_n hx hb dL_law_607 rfl (lv_at hl 3 rfl) ?_
  refine lv_iconst (v := 1) hx hb dL_law_608 (by decide) ?_
  refine lv_iadd hx hb dL_law_609 ?_
  refine va_sld hx hb hX hbl hbA hS v1 dL_law_610 ?_
  rw [← ee1]
  refine lv_aload_n hx hb dL_law_611 rfl (lv_at hl 0 rfl) ?_
  refine lv_iload_n hx hb dL_law_612 rfl (lv_at hl 3 rfl) ?_
  refine lv_iconst (v := 2) hx hb dL_law_613 (by decide) ?_
  refine lv_iadd hx hb dL_law_614 ?_
  refine va_sld hx hb hX hbl hbA hS v2 dL_law_615 ?_
  rw [← ee2]
  refine lv_aload_n hx hb dL_law_616 rfl (lv_at hl 0 rfl) ?_
  refine lv_iload_n hx hb dL_law_617 rfl (lv_at hl 3 rfl) ?_
  refine lv_iconst (v := 3) hx hb dL_law_618 (by decide) ?_
  refine lv_iadd hx hb dL_law_619 ?_
  refine va_sld hx hb hX hbl hbA hS v3 dL_law_620 ?_
  rw [← ee3]
  refine lv_aload_n hx hb dL_law_621 rfl (lv_at hl 0 rfl) ?_
  refine lv_iload_n hx hb dL_law_622 rfl (lv_at hl 3 rfl) ?_
  refine lv_iconst (v := 4) hx hb dL_law_623 (by decide) ?_
  refine lv_iadd hx hb dL_law_624 ?_
  refine va_sld hx hb hX hbl hbA hS v4 dL_law_625 ?_
  rw [← ee4]
  refine lawM (ad := ad) (bd := bd) (F := F2) (G := G2) (F' := F2') (G' := G2') (As := [.int e1, .int e2, .int e3, .int e4]) (rest := [.int r]) ⟨hx, hb, hml, hown, hts⟩ (c_X8_thing l D bd cA n0 F2 G2 e1 e2 e3 e4 p8) (cwV 4 hts gL_law_X8_thing rfl rfl rfl (by decide +kernel) ⟨Nat.le_of_ble_eq_true rfl, Nat.le_of_ble_eq_true rfl⟩) hP hK hD hN hS hA rfl hl.1 rfl (Nat.le_of_ble_eq_true rfl) dL_law_626 (fun H locs hP hD hS => ?_)
  refine lv_icmp_eq (tgt := 1147) hx hb dL_law_629 (by decide) (fun _ => ?_) (fun c9 => absurd rfl c9)
  exact JT _ _ _ _ hR' _ _ ls hP hD hS hl
