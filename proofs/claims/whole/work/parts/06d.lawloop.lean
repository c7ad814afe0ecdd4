theorem lw_idx {L i : Nat} {x3 : Int32} (hL : L ≤ 2560) (h : i + 5 ≤ L) (e : x3 = nI i) (k : Nat) (hk : k < 5) {y : Int32} (hy : y = nI k) : vp_in (x3 + y) L := by
  rw [e, hy, nI_add]; exact vp_in_nI (by omega) (by omega)
theorem lw_exit {L i : Nat} {x3 : Int32} (hL : L ≤ 2560) (hi : i ≤ L) (e : x3 = nI i) (h : ¬ Int32.ofNat L - 5 < x3) : i + 5 ≤ L := by
  rcases Nat.lt_or_ge (i + 4) L with q | q
  · omega
  · exfalso; apply h
    rw [e, Int32.lt_iff_toInt_lt]
    have a : (nI L - nI 5).toInt = (L : Int) - 5 := pk_sub_toInt (by omega) (by omega)
    have a' : (Int32.ofNat L - 5).toInt = (L : Int) - 5 := a
    rw [a', nI_toInt (by omega)]; omega
set_option maxHeartbeats 4000000 in
set_option maxRecDepth 100000 in
theorem law_loop {p : Program} {l : Launch} {e : Env} {s : State} {m : MethodId} {below : List Frame} {meth : Method} {c : Code} {D : va_G} {b L : Nat} {xs : Nat → Int32} {cA : ClassId} {ad bd : Nat → Nat} {n0 : Nat} {R : tF → tG → tF → tG → Prop} (hL : L ≤ 2560) (C0 : lw_At p s m meth c b L xs) (hN : NwC s) (hK : va_K D vwCl [(cA, .int)] s) (hAS : AllSim n0 R) :
    ∀ (n i : Nat) (x3 : Int32), i ≤ L → L + 1 ≤ i + n → x3 = nI i → ∀ (F : tF) (G : tG) (F2 : tF) (G2 : tG), R F G F2 G2 → ∀ (H : Heap) (locs : List Loc) (ls : Array Slot), va_P D vwCl (wC ad cA F G ++ wM bd cA F2 G2) H → va_D (fun q : Nat => s.heap.size ≤ q) (wC ad cA F G ++ wM bd cA F2 G2) → va_S (fun q : Nat => s.heap.size ≤ q) s.heap H locs → lv_has ls 4 [(0, .ref b), (1, .ref (ad 0)), (2, .ref (bd 0)), (3, .int x3)] → W p l e room_1 s m #[Value.ref b] below meth c H locs 51 8872 (lw_Z below #[Value.ref b] s) (F0 m 18 ls []) := by
  obtain ⟨hx, hb, hr, hml, hown, hts, hX, hbl, hlocks, hgv⟩ := id C0
  have hbA : ¬ (fun q : Nat => s.heap.size ≤ q) b := Nat.not_le.mpr hbl
  obtain ⟨s_room, s_depth, s_tip, s_barrel, s_breath, s_limit, s_minutes, s_air, s_fewest, s_go, s_out, s_hose, s_stay, s_hang, s_man, s_thing, s_under, s_tangle, s_work, s_ofThing, s_tide, s_calm, s_best, s_tideOf, s_sign, s_heard, s_hear, s_tell, s_tight, s_free, s_entry, s_log, s_told⟩ := hAS
  intro n
  induction n with
  | zero =>
    intro i x3 h1 h2
    exact absurd h2 (by omega)
  | succ n ih =>
    intro i x3 hi hin ex3 F G F2 G2 hR H locs ls hP hD hS hl
    refine lv_iload_n hx hb dL_law_18 rfl (lv_at hl 3 rfl) ?_
    refine lv_aload_n hx hb dL_law_19 rfl (lv_at hl 0 rfl) ?_
    refine va_slen hx hb hX hbl hbA hS dL_law_20 ?_
    refine lv_iconst (v := 5) hx hb dL_law_21 (by decide) ?_
    refine lv_isub hx hb dL_law_22 ?_
    refine lv_icmp_gt (tgt := 1153) hx hb dL_law_23 (by decide) (fun c_10 => ?_) (fun c_10 => ?_)
    · refine lv_iconst (v := 1) hx hb dL_law_1153 (by decide) ?_
      refine va_forget (fun q hq => hS.2.2 q hq) ?_
      exact lw_ret hx hb hr hlocks dL_law_1154
    have hlt := lw_exit hL hi ex3 c_10
    have v0 : vp_in x3 L := by rw [ex3]; exact vp_in_nI (by omega) (by omega)
    have v1 : vp_in (x3 + 1) L := lw_idx hL hlt ex3 1 (by omega) rfl
    have v2 : vp_in (x3 + 2) L := lw_idx hL hlt ex3 2 (by omega) rfl
    have v3 : vp_in (x3 + 3) L := lw_idx hL hlt ex3 3 (by omega) rfl
    have v4 : vp_in (x3 + 4) L := lw_idx hL hlt ex3 4 (by omega) rfl
    have JT : ∀ (F : tF) (G : tG) (F2 : tF) (G2 : tG), R F G F2 G2 → ∀ (H : Heap) (locs : List Loc) (ls : Array Slot), va_P D vwCl (wC ad cA F G ++ wM bd cA F2 G2) H → va_D (fun q : Nat => s.heap.size ≤ q) (wC ad cA F G ++ wM bd cA F2 G2) → va_S (fun q : Nat => s.heap.size ≤ q) s.heap H locs → lv_has ls 4 [(0, .ref b), (1, .ref (ad 0)), (2, .ref (bd 0)), (3, .int x3)] → W p l e room_1 s m #[Value.ref b] below meth c H locs 51 8872 (lw_Z below #[Value.ref b] s) (F0 m 1147 ls []) := by
      intro F G F2 G2 hR H locs ls hP hD hS hl
      obtain ⟨x4, ex4⟩ : ∃ y : Int32, y = x3 + 5 := ⟨_, rfl⟩
      refine lv_iinc (v := x4) (lv' := [(3, .int x4), (0, .ref b), (1, .ref (ad 0)), (2, .ref (bd 0))]) hx hb dL_law_1147 hl (k := 3) rfl (by rw [ex4]; rfl) (by decide) rfl (fun ls hl => ?_)
      refine lv_goto (tgt := 18) hx hb dL_law_1150 (by decide) ?_
      exact ih (i + 5) x4 (by omega) (by omega) (by rw [ex4, ex3]; exact nI_add i 5) F G F2 G2 hR _ _ ls hP hD hS (lv_sub hl [1, 2, 3, 0] rfl)
    refine lv_aload_n hx hb dL_law_26 rfl (lv_at hl 0 rfl) ?_
    refine lv_iload_n hx hb dL_law_27 rfl (lv_at hl 3 rfl) ?_
    refine va_sld hx hb hX hbl hbA hS v0 dL_law_28 ?_
    refine lv_bipush (v := 63) hx hb dL_law_29 (by decide) ?_
    refine lv_iand hx hb dL_law_31 ?_
    refine lv_topi (fun y ey => ?_)
    by_cases c0 : y = 0
    · refine lv_tableIn (off := 148) (tgt := 180) hx hb dL_law_32 (by rw [c0]; decide) (by rw [c0]; decide) (by rw [c0]; decide) (by decide) ?_
      exact law_room C0 hN hK s_room v1 v2 v3 v4 JT F G F2 G2 hR _ _ ls hP hD hS hl
    by_cases c1 : y = 1
    · refine lv_tableIn (off := 171) (tgt := 203) hx hb dL_law_32 (by rw [c1]; decide) (by rw [c1]; decide) (by rw [c1]; decide) (by decide) ?_
      exact law_depth C0 hN hK s_depth v1 v2 v3 v4 JT F G F2 G2 hR _ _ ls hP hD hS hl
    by_cases c2 : y = 2
    · refine lv_tableIn (off := 194) (tgt := 226) hx hb dL_law_32 (by rw [c2]; decide) (by rw [c2]; decide) (by rw [c2]; decide) (by decide) ?_
      exact law_tip C0 hN hK s_tip v1 v2 v3 v4 JT F G F2 G2 hR _ _ ls hP hD hS hl
    by_cases c3 : y = 3
    · refine lv_tableIn (off := 207) (tgt := 239) hx hb dL_law_32 (by rw [c3]; decide) (by rw [c3]; decide) (by rw [c3]; decide) (by decide) ?_
      exact law_barrel C0 hN hK s_barrel v1 v2 v3 v4 JT F G F2 G2 hR _ _ ls hP hD hS hl
    by_cases c4 : y = 4
    · refine lv_tableIn (off := 230) (tgt := 262) hx hb dL_law_32 (by rw [c4]; decide) (by rw [c4]; decide) (by rw [c4]; decide) (by decide) ?_
      exact law_breath C0 hN hK s_breath v1 v2 v3 v4 JT F G F2 G2 hR _ _ ls hP hD hS hl
    by_cases c5 : y = 5
    · refine lv_tableIn (off := 253) (tgt := 285) hx hb dL_law_32 (by rw [c5]; decide) (by rw [c5]; decide) (by rw [c5]; decide) (by decide) ?_
      exact law_limit C0 hN hK s_limit v1 v2 v3 v4 JT F G F2 G2 hR _ _ ls hP hD hS hl
    by_cases c6 : y = 6
    · refine lv_tableIn (off := 276) (tgt := 308) hx hb dL_law_32 (by rw [c6]; decide) (by rw [c6]; decide) (by rw [c6]; decide) (by decide) ?_
      exact law_minutes C0 hN hK s_minutes v1 v2 v3 v4 JT F G F2 G2 hR _ _ ls hP hD hS hl
    by_cases c7 : y = 7
    · refine lv_tableIn (off := 299) (tgt := 331) hx hb dL_law_32 (by rw [c7]; decide) (by rw [c7]; decide) (by rw [c7]; decide) (by decide) ?_
      exact law_air C0 hN hK s_air v1 v2 v3 v4 JT F G F2 G2 hR _ _ ls hP hD hS hl
    by_cases c8 : y = 8
    · refine lv_tableIn (off := 322) (tgt := 354) hx hb dL_law_32 (by rw [c8]; decide) (by rw [c8]; decide) (by rw [c8]; decide) (by decide) ?_
      exact law_fewest C0 hN hK s_fewest v1 v2 v3 v4 JT F G F2 G2 hR _ _ ls hP hD hS hl
    by_cases c9 : y = 9
    · refine lv_tableIn (off := 345) (tgt := 377) hx hb dL_law_32 (by rw [c9]; decide) (by rw [c9]; decide) (by rw [c9]; decide) (by decide) ?_
      exact law_go C0 hN hK s_go v1 v2 v3 v4 JT F G F2 G2 hR _ _ ls hP hD hS hl
    by_cases c10 : y = 10
    · refine lv_tableIn (off := 394) (tgt := 426) hx hb dL_law_32 (by rw [c10]; decide) (by rw [c10]; decide) (by rw [c10]; decide) (by decide) ?_
      exact law_out C0 hN hK s_out v1 v2 v3 v4 JT F G F2 G2 hR _ _ ls hP hD hS hl
    by_cases c11 : y = 11
    · refine lv_tableIn (off := 437) (tgt := 469) hx hb dL_law_32 (by rw [c11]; decide) (by rw [c11]; decide) (by rw [c11]; decide) (by decide) ?_
      exact law_hose C0 hN hK s_hose v1 v2 v3 v4 JT F G F2 G2 hR _ _ ls hP hD hS hl
    by_cases c12 : y = 12
    · refine lv_tableIn (off := 470) (tgt := 502) hx hb dL_law_32 (by rw [c12]; decide) (by rw [c12]; decide) (by rw [c12]; decide) (by decide) ?_
      exact law_stay C0 hN hK s_stay v1 v2 v3 v4 JT F G F2 G2 hR _ _ ls hP hD hS hl
    by_cases c13 : y = 13
    · refine lv_tableIn (off := 493) (tgt := 525) hx hb dL_law_32 (by rw [c13]; decide) (by rw [c13]; decide) (by rw [c13]; decide) (by decide) ?_
      exact law_hang C0 hN hK s_hang v1 v2 v3 v4 JT F G F2 G2 hR _ _ ls hP hD hS hl
    by_cases c14 : y = 14
    · refine lv_tableIn (off := 516) (tgt := 548) hx hb dL_law_32 (by rw [c14]; decide) (by rw [c14]; decide) (by rw [c14]; decide) (by decide) ?_
      exact law_man C0 hN hK s_man v1 v2 v3 v4 JT F G F2 G2 hR _ _ ls hP hD hS hl
    by_cases c15 : y = 15
    · refine lv_tableIn (off := 549) (tgt := 581) hx hb dL_law_32 (by rw [c15]; decide) (by rw [c15]; decide) (by rw [c15]; decide) (by decide) ?_
      exact law_thing C0 hN hK s_thing v1 v2 v3 v4 JT F G F2 G2 hR _ _ ls hP hD hS hl
    by_cases c16 : y = 16
    · refine lv_tableIn (off := 602) (tgt := 634) hx hb dL_law_32 (by rw [c16]; decide) (by rw [c16]; decide) (by rw [c16]; decide) (by decide) ?_
      exact law_under C0 hN hK s_under v1 v2 v3 v4 JT F G F2 G2 hR _ _ ls hP hD hS hl
    by_cases c17 : y = 17
    · refine lv_tableIn (off := 661) (tgt := 693) hx hb dL_law_32 (by rw [c17]; decide) (by rw [c17]; decide) (by rw [c17]; decide) (by decide) ?_
      exact law_tangle C0 hN hK s_tangle v1 v2 v3 v4 JT F G F2 G2 hR _ _ ls hP hD hS hl
    by_cases c18 : y = 18
    · refine lv_tableIn (off := 710) (tgt := 742) hx hb dL_law_32 (by rw [c18]; decide) (by rw [c18]; decide) (by rw [c18]; decide) (by decide) ?_
      exact law_work C0 hN hK s_work v1 v2 v3 v4 JT F G F2 G2 hR _ _ ls hP hD hS hl
    by_cases c19 : y = 19
    · refine lv_tableIn (off := 743) (tgt := 775) hx hb dL_law_32 (by rw [c19]; decide) (by rw [c19]; decide) (by rw [c19]; decide) (by decide) ?_
      exact law_ofThing C0 hN hK s_ofThing v1 v2 v3 v4 JT F G F2 G2 hR _ _ ls hP hD hS hl
    by_cases c20 : y = 20
    · refine lv_tableIn (off := 776) (tgt := 808) hx hb dL_law_32 (by rw [c20]; decide) (by rw [c20]; decide) (by rw [c20]; decide) (by decide) ?_
      exact law_tide C0 hN hK s_tide v1 v2 v3 v4 JT F G F2 G2 hR _ _ ls hP hD hS hl
    by_cases c21 : y = 21
    · refine lv_tableIn (off := 799) (tgt := 831) hx hb dL_law_32 (by rw [c21]; decide) (by rw [c21]; decide) (by rw [c21]; decide) (by decide) ?_
      exact law_calm C0 hN hK s_calm v1 v2 v3 v4 JT F G F2 G2 hR _ _ ls hP hD hS hl
    by_cases c22 : y = 22
    · refine lv_tableIn (off := 812) (tgt := 844) hx hb dL_law_32 (by rw [c22]; decide) (by rw [c22]; decide) (by rw [c22]; decide) (by decide) ?_
      exact law_best C0 hN hK s_best v1 v2 v3 v4 JT F G F2 G2 hR _ _ ls hP hD hS hl
    by_cases c23 : y = 23
    · refine lv_tableIn (off := 835) (tgt := 867) hx hb dL_law_32 (by rw [c23]; decide) (by rw [c23]; decide) (by rw [c23]; decide) (by decide) ?_
      exact law_tideOf C0 hN hK s_tideOf v1 v2 v3 v4 JT F G F2 G2 hR _ _ ls hP hD hS hl
    by_cases c24 : y = 24
    · refine lv_tableIn (off := 858) (tgt := 890) hx hb dL_law_32 (by rw [c24]; decide) (by rw [c24]; decide) (by rw [c24]; decide) (by decide) ?_
      exact law_sign C0 hN hK s_sign v1 v2 v3 v4 JT F G F2 G2 hR _ _ ls hP hD hS hl
    by_cases c25 : y = 25
    · refine lv_tableIn (off := 901) (tgt := 933) hx hb dL_law_32 (by rw [c25]; decide) (by rw [c25]; decide) (by rw [c25]; decide) (by decide) ?_
      exact law_heard C0 hN hK s_heard v1 v2 v3 v4 JT F G F2 G2 hR _ _ ls hP hD hS hl
    by_cases c26 : y = 26
    · refine lv_tableIn (off := 934) (tgt := 966) hx hb dL_law_32 (by rw [c26]; decide) (by rw [c26]; decide) (by rw [c26]; decide) (by decide) ?_
      exact law_hear C0 hN hK s_hear v1 v2 v3 v4 JT F G F2 G2 hR _ _ ls hP hD hS hl
    by_cases c27 : y = 27
    · refine lv_tableIn (off := 967) (tgt := 999) hx hb dL_law_32 (by rw [c27]; decide) (by rw [c27]; decide) (by rw [c27]; decide) (by decide) ?_
      exact law_tell C0 hN hK s_tell v1 v2 v3 v4 JT F G F2 G2 hR _ _ ls hP hD hS hl
    by_cases c28 : y = 28
    · refine lv_tableIn (off := 980) (tgt := 1012) hx hb dL_law_32 (by rw [c28]; decide) (by rw [c28]; decide) (by rw [c28]; decide) (by decide) ?_
      exact law_tight C0 hN hK s_tight v1 v2 v3 v4 JT F G F2 G2 hR _ _ ls hP hD hS hl
    by_cases c29 : y = 29
    · refine lv_tableIn (off := 993) (tgt := 1025) hx hb dL_law_32 (by rw [c29]; decide) (by rw [c29]; decide) (by rw [c29]; decide) (by decide) ?_
      exact law_free C0 hN hK s_free v1 v2 v3 v4 JT F G F2 G2 hR _ _ ls hP hD hS hl
    by_cases c30 : y = 30
    · refine lv_tableIn (off := 1016) (tgt := 1048) hx hb dL_law_32 (by rw [c30]; decide) (by rw [c30]; decide) (by rw [c30]; decide) (by decide) ?_
      exact law_entry C0 hN hK s_entry v1 v2 v3 v4 JT F G F2 G2 hR _ _ ls hP hD hS hl
    by_cases c31 : y = 31
    · refine lv_tableIn (off := 1059) (tgt := 1091) hx hb dL_law_32 (by rw [c31]; decide) (by rw [c31]; decide) (by rw [c31]; decide) (by decide) ?_
      exact law_log C0 hN hK s_log v1 v2 v3 v4 JT F G F2 G2 hR _ _ ls hP hD hS hl
    by_cases c32 : y = 32
    · refine lv_tableIn (off := 1092) (tgt := 1124) hx hb dL_law_32 (by rw [c32]; decide) (by rw [c32]; decide) (by rw [c32]; decide) (by decide) ?_
      exact law_told C0 hN hK s_told v1 v2 v3 v4 JT F G F2 G2 hR _ _ ls hP hD hS hl
    have ic0 : y.toInt ≠ 0 := ne_toInt c0
    have ic1 : y.toInt ≠ 1 := ne_toInt c1
    have ic2 : y.toInt ≠ 2 := ne_toInt c2
    have ic3 : y.toInt ≠ 3 := ne_toInt c3
    have ic4 : y.toInt ≠ 4 := ne_toInt c4
    have ic5 : y.toInt ≠ 5 := ne_toInt c5
    have ic6 : y.toInt ≠ 6 := ne_toInt c6
    have ic7 : y.toInt ≠ 7 := ne_toInt c7
    have ic8 : y.toInt ≠ 8 := ne_toInt c8
    have ic9 : y.toInt ≠ 9 := ne_toInt c9
    have ic10 : y.toInt ≠ 10 := ne_toInt c10
    have ic11 : y.toInt ≠ 11 := ne_toInt c11
    have ic12 : y.toInt ≠ 12 := ne_toInt c12
    have ic13 : y.toInt ≠ 13 := ne_toInt c13
    have ic14 : y.toInt ≠ 14 := ne_toInt c14
    have ic15 : y.toInt ≠ 15 := ne_toInt c15
    have ic16 : y.toInt ≠ 16 := ne_toInt c16
    have ic17 : y.toInt ≠ 17 := ne_toInt c17
    have ic18 : y.toInt ≠ 18 := ne_toInt c18
    have ic19 : y.toInt ≠ 19 := ne_toInt c19
    have ic20 : y.toInt ≠ 20 := ne_toInt c20
    have ic21 : y.toInt ≠ 21 := ne_toInt c21
    have ic22 : y.toInt ≠ 22 := ne_toInt c22
    have ic23 : y.toInt ≠ 23 := ne_toInt c23
    have ic24 : y.toInt ≠ 24 := ne_toInt c24
    have ic25 : y.toInt ≠ 25 := ne_toInt c25
    have ic26 : y.toInt ≠ 26 := ne_toInt c26
    have ic27 : y.toInt ≠ 27 := ne_toInt c27
    have ic28 : y.toInt ≠ 28 := ne_toInt c28
    have ic29 : y.toInt ≠ 29 := ne_toInt c29
    have ic30 : y.toInt ≠ 30 := ne_toInt c30
    have ic31 : y.toInt ≠ 31 := ne_toInt c31
    have ic32 : y.toInt ≠ 32 := ne_toInt c32
    refine lv_tableOut (tgt := 1147) hx hb dL_law_32 (by omega) (by decide) ?_
    exact JT F G F2 G2 hR _ _ ls hP hD hS hl
