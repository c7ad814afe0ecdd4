-- ===== PART A: goes FIRST, ahead of the names: the tables' words, and 'selects' of the private methods out of them =====
/-- a private method of a class that the tables say can be made, by its rows of tables_1 -/
def lw_okq (q : MethodName × Nat) : Prop := (q.1.cls ≠ "java/lang/invoke/MethodHandle" ∧ q.1.cls ≠ "java/lang/invoke/VarHandle") ∧ Cond.instantiable q.1.cls q.2 ∈ tables_1 ∧ Cond.privateMethod q.1 ∈ tables_1 ∧ Cond.instanceMethod q.1 ∈ tables_1
theorem lw_p0 : lw_okq (⟨"BellBook", "passMinute", "()V"⟩, 6) := ⟨⟨by decide +kernel, by decide +kernel⟩, List.mem_of_getElem? (i := 12) (by decide +kernel), List.mem_of_getElem? (i := 381) (by decide +kernel), List.mem_of_getElem? (i := 382) (by decide +kernel)⟩
theorem lw_p1 : lw_okq (⟨"BellBook", "toil", "(I)V"⟩, 6) := ⟨⟨by decide +kernel, by decide +kernel⟩, List.mem_of_getElem? (i := 12) (by decide +kernel), List.mem_of_getElem? (i := 404) (by decide +kernel), List.mem_of_getElem? (i := 405) (by decide +kernel)⟩
theorem lw_p2 : lw_okq (⟨"BellBook$Plan", "findLatest", "(LBellBook$Wreck;)V"⟩, 6) := ⟨⟨by decide +kernel, by decide +kernel⟩, List.mem_of_getElem? (i := 140) (by decide +kernel), List.mem_of_getElem? (i := 576) (by decide +kernel), List.mem_of_getElem? (i := 577) (by decide +kernel)⟩
theorem lw_p3 : lw_okq (⟨"BellBook$Plan", "latestOf", "(LBellBook$Wreck;I)I"⟩, 6) := ⟨⟨by decide +kernel, by decide +kernel⟩, List.mem_of_getElem? (i := 140) (by decide +kernel), List.mem_of_getElem? (i := 587) (by decide +kernel), List.mem_of_getElem? (i := 588) (by decide +kernel)⟩
theorem lw_p4 : lw_okq (⟨"BellBook$Plan", "chooseSet", "(LBellBook$Wreck;)I"⟩, 6) := ⟨⟨by decide +kernel, by decide +kernel⟩, List.mem_of_getElem? (i := 140) (by decide +kernel), List.mem_of_getElem? (i := 607) (by decide +kernel), List.mem_of_getElem? (i := 608) (by decide +kernel)⟩
theorem lw_p5 : lw_okq (⟨"BellBook$Plan", "setInOrder", "(LBellBook$Wreck;I)V"⟩, 6) := ⟨⟨by decide +kernel, by decide +kernel⟩, List.mem_of_getElem? (i := 140) (by decide +kernel), List.mem_of_getElem? (i := 621) (by decide +kernel), List.mem_of_getElem? (i := 622) (by decide +kernel)⟩
theorem lw_p6 : lw_okq (⟨"BellBook$Plan", "nextOf", "(LBellBook$Wreck;II)I"⟩, 6) := ⟨⟨by decide +kernel, by decide +kernel⟩, List.mem_of_getElem? (i := 140) (by decide +kernel), List.mem_of_getElem? (i := 625) (by decide +kernel), List.mem_of_getElem? (i := 626) (by decide +kernel)⟩
theorem lw_p7 : lw_okq (⟨"BellBook$Line", "isSet", "(I)Z"⟩, 5) := ⟨⟨by decide +kernel, by decide +kernel⟩, List.mem_of_getElem? (i := 224) (by decide +kernel), List.mem_of_getElem? (i := 654) (by decide +kernel), List.mem_of_getElem? (i := 655) (by decide +kernel)⟩
theorem lw_p8 : lw_okq (⟨"BellBook$Line", "fromSign", "(III)I"⟩, 5) := ⟨⟨by decide +kernel, by decide +kernel⟩, List.mem_of_getElem? (i := 224) (by decide +kernel), List.mem_of_getElem? (i := 658) (by decide +kernel), List.mem_of_getElem? (i := 659) (by decide +kernel)⟩
theorem lw_p9 : lw_okq (⟨"BellBook$Line", "fromRow", "(I)I"⟩, 5) := ⟨⟨by decide +kernel, by decide +kernel⟩, List.mem_of_getElem? (i := 224) (by decide +kernel), List.mem_of_getElem? (i := 690) (by decide +kernel), List.mem_of_getElem? (i := 691) (by decide +kernel)⟩
theorem lw_p10 : lw_okq (⟨"BellBook$Line", "fromSignsBehind", "(I)I"⟩, 5) := ⟨⟨by decide +kernel, by decide +kernel⟩, List.mem_of_getElem? (i := 224) (by decide +kernel), List.mem_of_getElem? (i := 702) (by decide +kernel), List.mem_of_getElem? (i := 703) (by decide +kernel)⟩
theorem lw_p11 : lw_okq (⟨"BellBook$Line", "isFarFromAll", "(III)Z"⟩, 5) := ⟨⟨by decide +kernel, by decide +kernel⟩, List.mem_of_getElem? (i := 224) (by decide +kernel), List.mem_of_getElem? (i := 715) (by decide +kernel), List.mem_of_getElem? (i := 716) (by decide +kernel)⟩
theorem lw_p12 : lw_okq (⟨"BellBook$Book", "forgetReading", "()V"⟩, 11) := ⟨⟨by decide +kernel, by decide +kernel⟩, List.mem_of_getElem? (i := 247) (by decide +kernel), List.mem_of_getElem? (i := 739) (by decide +kernel), List.mem_of_getElem? (i := 740) (by decide +kernel)⟩
theorem lw_p13 : lw_okq (⟨"BellBook$Book", "readGap", "(IZ)V"⟩, 11) := ⟨⟨by decide +kernel, by decide +kernel⟩, List.mem_of_getElem? (i := 247) (by decide +kernel), List.mem_of_getElem? (i := 743) (by decide +kernel), List.mem_of_getElem? (i := 744) (by decide +kernel)⟩
theorem lw_p14 : lw_okq (⟨"BellBook$Book", "addSure", "(I)V"⟩, 11) := ⟨⟨by decide +kernel, by decide +kernel⟩, List.mem_of_getElem? (i := 247) (by decide +kernel), List.mem_of_getElem? (i := 747) (by decide +kernel), List.mem_of_getElem? (i := 748) (by decide +kernel)⟩
theorem lw_p15 : lw_okq (⟨"BellBook$Book", "growMaybe", "(I)V"⟩, 11) := ⟨⟨by decide +kernel, by decide +kernel⟩, List.mem_of_getElem? (i := 247) (by decide +kernel), List.mem_of_getElem? (i := 752) (by decide +kernel), List.mem_of_getElem? (i := 753) (by decide +kernel)⟩
def lw_privs_1 : List (MethodName × Nat) := [(⟨"BellBook", "passMinute", "()V"⟩, 6), (⟨"BellBook", "toil", "(I)V"⟩, 6), (⟨"BellBook$Plan", "findLatest", "(LBellBook$Wreck;)V"⟩, 6), (⟨"BellBook$Plan", "latestOf", "(LBellBook$Wreck;I)I"⟩, 6), (⟨"BellBook$Plan", "chooseSet", "(LBellBook$Wreck;)I"⟩, 6), (⟨"BellBook$Plan", "setInOrder", "(LBellBook$Wreck;I)V"⟩, 6), (⟨"BellBook$Plan", "nextOf", "(LBellBook$Wreck;II)I"⟩, 6), (⟨"BellBook$Line", "isSet", "(I)Z"⟩, 5), (⟨"BellBook$Line", "fromSign", "(III)I"⟩, 5), (⟨"BellBook$Line", "fromRow", "(I)I"⟩, 5), (⟨"BellBook$Line", "fromSignsBehind", "(I)I"⟩, 5), (⟨"BellBook$Line", "isFarFromAll", "(III)Z"⟩, 5), (⟨"BellBook$Book", "forgetReading", "()V"⟩, 11), (⟨"BellBook$Book", "readGap", "(IZ)V"⟩, 11), (⟨"BellBook$Book", "addSure", "(I)V"⟩, 11), (⟨"BellBook$Book", "growMaybe", "(I)V"⟩, 11)]
theorem lw_r1 : ∀ q ∈ lw_privs_1, lw_okq q := List.forall_mem_cons.mpr ⟨lw_p0, List.forall_mem_cons.mpr ⟨lw_p1, List.forall_mem_cons.mpr ⟨lw_p2, List.forall_mem_cons.mpr ⟨lw_p3, List.forall_mem_cons.mpr ⟨lw_p4, List.forall_mem_cons.mpr ⟨lw_p5, List.forall_mem_cons.mpr ⟨lw_p6, List.forall_mem_cons.mpr ⟨lw_p7, List.forall_mem_cons.mpr ⟨lw_p8, List.forall_mem_cons.mpr ⟨lw_p9, List.forall_mem_cons.mpr ⟨lw_p10, List.forall_mem_cons.mpr ⟨lw_p11, List.forall_mem_cons.mpr ⟨lw_p12, List.forall_mem_cons.mpr ⟨lw_p13, List.forall_mem_cons.mpr ⟨lw_p14, List.forall_mem_cons.mpr ⟨lw_p15, fun _ h => absurd h List.not_mem_nil⟩⟩⟩⟩⟩⟩⟩⟩⟩⟩⟩⟩⟩⟩⟩⟩
theorem lw_p16 : lw_okq (⟨"BellBook$Book", "addDark", "(I)V"⟩, 11) := ⟨⟨by decide +kernel, by decide +kernel⟩, List.mem_of_getElem? (i := 247) (by decide +kernel), List.mem_of_getElem? (i := 756) (by decide +kernel), List.mem_of_getElem? (i := 757) (by decide +kernel)⟩
theorem lw_p17 : lw_okq (⟨"BellBook$Book", "readEntry", "(Z)V"⟩, 11) := ⟨⟨by decide +kernel, by decide +kernel⟩, List.mem_of_getElem? (i := 247) (by decide +kernel), List.mem_of_getElem? (i := 760) (by decide +kernel), List.mem_of_getElem? (i := 761) (by decide +kernel)⟩
theorem lw_p18 : lw_okq (⟨"BellBookModel", "breathing", "()I"⟩, 46) := ⟨⟨by decide +kernel, by decide +kernel⟩, List.mem_of_getElem? (i := 780) (by decide +kernel), List.mem_of_getElem? (i := 932) (by decide +kernel), List.mem_of_getElem? (i := 933) (by decide +kernel)⟩
theorem lw_p19 : lw_okq (⟨"BellBookModel", "outside", "()I"⟩, 46) := ⟨⟨by decide +kernel, by decide +kernel⟩, List.mem_of_getElem? (i := 780) (by decide +kernel), List.mem_of_getElem? (i := 940) (by decide +kernel), List.mem_of_getElem? (i := 941) (by decide +kernel)⟩
theorem lw_p20 : lw_okq (⟨"BellBookModel", "all", "()I"⟩, 46) := ⟨⟨by decide +kernel, by decide +kernel⟩, List.mem_of_getElem? (i := 780) (by decide +kernel), List.mem_of_getElem? (i := 944) (by decide +kernel), List.mem_of_getElem? (i := 945) (by decide +kernel)⟩
theorem lw_p21 : lw_okq (⟨"BellBookModel", "most", "()I"⟩, 46) := ⟨⟨by decide +kernel, by decide +kernel⟩, List.mem_of_getElem? (i := 780) (by decide +kernel), List.mem_of_getElem? (i := 948) (by decide +kernel), List.mem_of_getElem? (i := 949) (by decide +kernel)⟩
theorem lw_p22 : lw_okq (⟨"BellBookModel", "spill", "(I)I"⟩, 46) := ⟨⟨by decide +kernel, by decide +kernel⟩, List.mem_of_getElem? (i := 780) (by decide +kernel), List.mem_of_getElem? (i := 952) (by decide +kernel), List.mem_of_getElem? (i := 953) (by decide +kernel)⟩
theorem lw_p23 : lw_okq (⟨"BellBookModel", "live", "(I)I"⟩, 46) := ⟨⟨by decide +kernel, by decide +kernel⟩, List.mem_of_getElem? (i := 780) (by decide +kernel), List.mem_of_getElem? (i := 976) (by decide +kernel), List.mem_of_getElem? (i := 977) (by decide +kernel)⟩
theorem lw_p24 : lw_okq (⟨"BellBookModel", "onHose", "(I)I"⟩, 46) := ⟨⟨by decide +kernel, by decide +kernel⟩, List.mem_of_getElem? (i := 780) (by decide +kernel), List.mem_of_getElem? (i := 980) (by decide +kernel), List.mem_of_getElem? (i := 981) (by decide +kernel)⟩
theorem lw_p25 : lw_okq (⟨"BellBookModel", "labour", "(I)V"⟩, 46) := ⟨⟨by decide +kernel, by decide +kernel⟩, List.mem_of_getElem? (i := 780) (by decide +kernel), List.mem_of_getElem? (i := 984) (by decide +kernel), List.mem_of_getElem? (i := 985) (by decide +kernel)⟩
theorem lw_p26 : lw_okq (⟨"BellBookModel", "isFree", "(I)Z"⟩, 46) := ⟨⟨by decide +kernel, by decide +kernel⟩, List.mem_of_getElem? (i := 780) (by decide +kernel), List.mem_of_getElem? (i := 988) (by decide +kernel), List.mem_of_getElem? (i := 989) (by decide +kernel)⟩
theorem lw_p27 : lw_okq (⟨"BellBookModel", "foulness", "()I"⟩, 46) := ⟨⟨by decide +kernel, by decide +kernel⟩, List.mem_of_getElem? (i := 780) (by decide +kernel), List.mem_of_getElem? (i := 996) (by decide +kernel), List.mem_of_getElem? (i := 997) (by decide +kernel)⟩
theorem lw_p28 : lw_okq (⟨"BellBookModel", "last", "()I"⟩, 46) := ⟨⟨by decide +kernel, by decide +kernel⟩, List.mem_of_getElem? (i := 780) (by decide +kernel), List.mem_of_getElem? (i := 1000) (by decide +kernel), List.mem_of_getElem? (i := 1001) (by decide +kernel)⟩
theorem lw_p29 : lw_okq (⟨"BellBookModel", "isThing", "(I)Z"⟩, 46) := ⟨⟨by decide +kernel, by decide +kernel⟩, List.mem_of_getElem? (i := 780) (by decide +kernel), List.mem_of_getElem? (i := 1053) (by decide +kernel), List.mem_of_getElem? (i := 1054) (by decide +kernel)⟩
theorem lw_p30 : lw_okq (⟨"BellBookModel", "above", "(I)I"⟩, 46) := ⟨⟨by decide +kernel, by decide +kernel⟩, List.mem_of_getElem? (i := 780) (by decide +kernel), List.mem_of_getElem? (i := 1057) (by decide +kernel), List.mem_of_getElem? (i := 1058) (by decide +kernel)⟩
theorem lw_p31 : lw_okq (⟨"BellBookModel", "layBest", "()V"⟩, 46) := ⟨⟨by decide +kernel, by decide +kernel⟩, List.mem_of_getElem? (i := 780) (by decide +kernel), List.mem_of_getElem? (i := 1085) (by decide +kernel), List.mem_of_getElem? (i := 1086) (by decide +kernel)⟩
def lw_privs_2 : List (MethodName × Nat) := [(⟨"BellBook$Book", "addDark", "(I)V"⟩, 11), (⟨"BellBook$Book", "readEntry", "(Z)V"⟩, 11), (⟨"BellBookModel", "breathing", "()I"⟩, 46), (⟨"BellBookModel", "outside", "()I"⟩, 46), (⟨"BellBookModel", "all", "()I"⟩, 46), (⟨"BellBookModel", "most", "()I"⟩, 46), (⟨"BellBookModel", "spill", "(I)I"⟩, 46), (⟨"BellBookModel", "live", "(I)I"⟩, 46), (⟨"BellBookModel", "onHose", "(I)I"⟩, 46), (⟨"BellBookModel", "labour", "(I)V"⟩, 46), (⟨"BellBookModel", "isFree", "(I)Z"⟩, 46), (⟨"BellBookModel", "foulness", "()I"⟩, 46), (⟨"BellBookModel", "last", "()I"⟩, 46), (⟨"BellBookModel", "isThing", "(I)Z"⟩, 46), (⟨"BellBookModel", "above", "(I)I"⟩, 46), (⟨"BellBookModel", "layBest", "()V"⟩, 46)]
theorem lw_r2 : ∀ q ∈ lw_privs_2, lw_okq q := List.forall_mem_cons.mpr ⟨lw_p16, List.forall_mem_cons.mpr ⟨lw_p17, List.forall_mem_cons.mpr ⟨lw_p18, List.forall_mem_cons.mpr ⟨lw_p19, List.forall_mem_cons.mpr ⟨lw_p20, List.forall_mem_cons.mpr ⟨lw_p21, List.forall_mem_cons.mpr ⟨lw_p22, List.forall_mem_cons.mpr ⟨lw_p23, List.forall_mem_cons.mpr ⟨lw_p24, List.forall_mem_cons.mpr ⟨lw_p25, List.forall_mem_cons.mpr ⟨lw_p26, List.forall_mem_cons.mpr ⟨lw_p27, List.forall_mem_cons.mpr ⟨lw_p28, List.forall_mem_cons.mpr ⟨lw_p29, List.forall_mem_cons.mpr ⟨lw_p30, List.forall_mem_cons.mpr ⟨lw_p31, fun _ h => absurd h List.not_mem_nil⟩⟩⟩⟩⟩⟩⟩⟩⟩⟩⟩⟩⟩⟩⟩⟩
theorem lw_p32 : lw_okq (⟨"BellBookModel", "layEnds", "(II)V"⟩, 46) := ⟨⟨by decide +kernel, by decide +kernel⟩, List.mem_of_getElem? (i := 780) (by decide +kernel), List.mem_of_getElem? (i := 1089) (by decide +kernel), List.mem_of_getElem? (i := 1090) (by decide +kernel)⟩
theorem lw_p33 : lw_okq (⟨"BellBookModel", "endWith", "(II)I"⟩, 46) := ⟨⟨by decide +kernel, by decide +kernel⟩, List.mem_of_getElem? (i := 780) (by decide +kernel), List.mem_of_getElem? (i := 1093) (by decide +kernel), List.mem_of_getElem? (i := 1094) (by decide +kernel)⟩
theorem lw_p34 : lw_okq (⟨"BellBookModel", "left", "(I)I"⟩, 46) := ⟨⟨by decide +kernel, by decide +kernel⟩, List.mem_of_getElem? (i := 780) (by decide +kernel), List.mem_of_getElem? (i := 1097) (by decide +kernel), List.mem_of_getElem? (i := 1098) (by decide +kernel)⟩
theorem lw_p35 : lw_okq (⟨"BellBookModel", "hopeOf", "(I)I"⟩, 46) := ⟨⟨by decide +kernel, by decide +kernel⟩, List.mem_of_getElem? (i := 780) (by decide +kernel), List.mem_of_getElem? (i := 1101) (by decide +kernel), List.mem_of_getElem? (i := 1102) (by decide +kernel)⟩
theorem lw_p36 : lw_okq (⟨"BellBookModel", "workOfSet", "(I)I"⟩, 46) := ⟨⟨by decide +kernel, by decide +kernel⟩, List.mem_of_getElem? (i := 780) (by decide +kernel), List.mem_of_getElem? (i := 1105) (by decide +kernel), List.mem_of_getElem? (i := 1106) (by decide +kernel)⟩
theorem lw_p37 : lw_okq (⟨"BellBookModel", "apart", "(III)I"⟩, 46) := ⟨⟨by decide +kernel, by decide +kernel⟩, List.mem_of_getElem? (i := 780) (by decide +kernel), List.mem_of_getElem? (i := 1124) (by decide +kernel), List.mem_of_getElem? (i := 1125) (by decide +kernel)⟩
theorem lw_p38 : lw_okq (⟨"BellBookModel", "readLog", "(I)V"⟩, 46) := ⟨⟨by decide +kernel, by decide +kernel⟩, List.mem_of_getElem? (i := 780) (by decide +kernel), List.mem_of_getElem? (i := 1152) (by decide +kernel), List.mem_of_getElem? (i := 1153) (by decide +kernel)⟩
def lw_privs_3 : List (MethodName × Nat) := [(⟨"BellBookModel", "layEnds", "(II)V"⟩, 46), (⟨"BellBookModel", "endWith", "(II)I"⟩, 46), (⟨"BellBookModel", "left", "(I)I"⟩, 46), (⟨"BellBookModel", "hopeOf", "(I)I"⟩, 46), (⟨"BellBookModel", "workOfSet", "(I)I"⟩, 46), (⟨"BellBookModel", "apart", "(III)I"⟩, 46), (⟨"BellBookModel", "readLog", "(I)V"⟩, 46)]
theorem lw_r3 : ∀ q ∈ lw_privs_3, lw_okq q := List.forall_mem_cons.mpr ⟨lw_p32, List.forall_mem_cons.mpr ⟨lw_p33, List.forall_mem_cons.mpr ⟨lw_p34, List.forall_mem_cons.mpr ⟨lw_p35, List.forall_mem_cons.mpr ⟨lw_p36, List.forall_mem_cons.mpr ⟨lw_p37, List.forall_mem_cons.mpr ⟨lw_p38, fun _ h => absurd h List.not_mem_nil⟩⟩⟩⟩⟩⟩⟩
def lw_privs : List (MethodName × Nat) := lw_privs_1 ++ (lw_privs_2 ++ (lw_privs_3))
def lw_tbl : List Cond := k2_sels lw_privs ++ tables_1
theorem lw_privs_ok : ∀ q ∈ lw_privs, lw_okq q := by
  show ∀ q ∈ lw_privs_1 ++ (lw_privs_2 ++ (lw_privs_3)), lw_okq q
  exact List.forall_mem_append.mpr ⟨lw_r1, List.forall_mem_append.mpr ⟨lw_r2, lw_r3⟩⟩
/-! ===== BEGIN words of one list among another's, by their places ===== -/
theorem goodIn_r {big : List Cond} (ws : List Cond) (ps : List Nat) (hp : ws = ps.filterMap (fun i => big[i]?)) (h : ws.all goodWord = true) : GoodIn big ws := by
  intro w hw
  have h1 := List.all_eq_true.mp h w hw
  rw [hp] at hw
  obtain ⟨i, -, hi⟩ := List.mem_filterMap.mp hw
  have hm : w ∈ big := by first | exact List.mem_of_getElem? hi | exact List.getElem?_mem hi
  exact ⟨hm, good_of_word h1⟩
theorem goodIn_app {big a b : List Cond} (ha : GoodIn big a) (hb : GoodIn big b) : GoodIn big (a ++ b) := fun w h => (List.mem_append.mp h).elim (ha w) (hb w)
theorem goodIn_ca {big a b : List Cond} {c : Cond} (ha : GoodIn big (c :: a)) (hb : GoodIn big b) : GoodIn big (c :: (a ++ b)) := fun w h => (List.mem_cons.mp h).elim (fun e => ha w (List.mem_cons.mpr (Or.inl e))) (fun h => (List.mem_append.mp h).elim (fun h => ha w (List.mem_cons.mpr (Or.inr h))) (hb w))
theorem goodIn_sub {big ws : List Cond} (hm : ∀ w ∈ ws, w ∈ big) (h : ws.all goodWord = true) : GoodIn big ws := fun w hw => ⟨hm w hw, good_of_word (List.all_eq_true.mp h w hw)⟩
/-! ===== END ===== -/

/-! ===== BEGIN printed: names, fields, word lists, decode rows ===== -/
def RX0 : String := "BellBook$Bell"
def TX0 : u_T := fun k => match k with
  | 0 => ("BellBook$Bell", "room", "I", false)
  | 1 => ("BellBook$Bell", "depth", "I", false)
  | 2 => ("BellBook$Bell", "fresh", "I", false)
  | 3 => ("BellBook$Bell", "foul", "I", false)
  | 4 => ("BellBook$Bell", "sent", "I", false)
  | 5 => ("BellBook$Bell", "breathed", "I", false)
  | 6 => ("BellBook$Bell", "spilled", "I", false)
  | 7 => ("BellBook$Bell", "barrels", "I", false)
  | 8 => ("BellBook$Bell", "breathLacks", "I", false)
  | 9 => ("BellBook$Bell", "stayLacks", "I", false)
  | 10 => ("BellBook$Bell", "breath", "I", false)
  | _ => ("BellBook$Bell", "limit", "I", false)
def tyX0 : Nat → FieldType := fun k => match k with
  | 0 => .int
  | 1 => .int
  | 2 => .int
  | 3 => .int
  | 4 => .int
  | 5 => .int
  | 6 => .int
  | 7 => .int
  | 8 => .int
  | 9 => .int
  | 10 => .int
  | _ => .int
abbrev wsX00 : List Cond := u_ws RX0 TX0 12
theorem nmX0 : ∀ a, a < 12 → ∀ b, b < 12 → a ≠ b → (TX0 a).2.1 ≠ (TX0 b).2.1 := by decide +kernel
theorem tyX0_ok : ∀ k, k < 12 → parseFieldDescriptor (TX0 k).2.2.1 = some (tyX0 k) := by decide +kernel
abbrev cX0_init : ByteArray := prog_2_method_1_code
def yX0_init : MethodName := ⟨RX0, "<init>", "()V"⟩
abbrev cX0_beginAnew : ByteArray := prog_2_method_2_code
def yX0_beginAnew : MethodName := ⟨RX0, "beginAnew", "(I)V"⟩
abbrev cX0_shares : ByteArray := prog_2_method_3_code
def yX0_shares : MethodName := ⟨RX0, "shares", "()I"⟩
abbrev cX0_most : ByteArray := prog_2_method_4_code
def yX0_most : MethodName := ⟨RX0, "most", "()I"⟩
abbrev cX0_dry : ByteArray := prog_2_method_5_code
def yX0_dry : MethodName := ⟨RX0, "dry", "()I"⟩
abbrev cX0_spill : ByteArray := prog_2_method_6_code
def yX0_spill : MethodName := ⟨RX0, "spill", "(I)I"⟩
abbrev cX0_spillOver : ByteArray := prog_2_method_7_code
def yX0_spillOver : MethodName := ⟨RX0, "spillOver", "()I"⟩
abbrev cX0_letIn : ByteArray := prog_2_method_8_code
def yX0_letIn : MethodName := ⟨RX0, "letIn", "(I)I"⟩
abbrev cX0_breathe : ByteArray := prog_2_method_9_code
def yX0_breathe : MethodName := ⟨RX0, "breathe", "()V"⟩
abbrev cX0_lasts : ByteArray := prog_2_method_10_code
def yX0_lasts : MethodName := ⟨RX0, "lasts", "(I)I"⟩
abbrev cX0_fewestBarrels : ByteArray := prog_2_method_11_code
def yX0_fewestBarrels : MethodName := ⟨RX0, "fewestBarrels", "(I)I"⟩
abbrev cX0_foulness : ByteArray := prog_2_method_12_code
def yX0_foulness : MethodName := ⟨RX0, "foulness", "(II)I"⟩
abbrev cX0_foulPart : ByteArray := prog_2_method_13_code
def yX0_foulPart : MethodName := ⟨RX0, "foulPart", "(III)I"⟩
def RX1 : String := "BellBook$Book"
def TX1 : u_T := fun k => match k with
  | 0 => ("BellBook$Book", "minutes", "[I", true)
  | 1 => ("BellBook$Book", "men", "[I", true)
  | 2 => ("BellBook$Book", "places", "[I", true)
  | 3 => ("BellBook$Book", "count", "I", false)
  | 4 => ("BellBook$Book", "seen", "I", false)
  | 5 => ("BellBook$Book", "sure", "I", false)
  | 6 => ("BellBook$Book", "dark", "I", false)
  | 7 => ("BellBook$Book", "longestSure", "I", false)
  | 8 => ("BellBook$Book", "longestMaybe", "I", false)
  | 9 => ("BellBook$Book", "sureRow", "I", false)
  | _ => ("BellBook$Book", "maybeRow", "I", false)
def tyX1 : Nat → FieldType := fun k => match k with
  | 0 => .array .int
  | 1 => .array .int
  | 2 => .array .int
  | 3 => .int
  | 4 => .int
  | 5 => .int
  | 6 => .int
  | 7 => .int
  | 8 => .int
  | 9 => .int
  | _ => .int
abbrev wsX10 : List Cond := u_ws RX1 TX1 11
theorem nmX1 : ∀ a, a < 11 → ∀ b, b < 11 → a ≠ b → (TX1 a).2.1 ≠ (TX1 b).2.1 := by decide +kernel
theorem tyX1_ok : ∀ k, k < 11 → parseFieldDescriptor (TX1 k).2.2.1 = some (tyX1 k) := by decide +kernel
abbrev cX1_init : ByteArray := prog_3_method_1_code
def yX1_init : MethodName := ⟨RX1, "<init>", "()V"⟩
abbrev cX1_mayFollow : ByteArray := prog_3_method_2_code
def yX1_mayFollow : MethodName := ⟨RX1, "mayFollow", "(II)Z"⟩
abbrev cX1_add : ByteArray := prog_3_method_3_code
def yX1_add : MethodName := ⟨RX1, "add", "(III)I"⟩
abbrev cX1_read : ByteArray := prog_3_method_4_code
def yX1_read : MethodName := ⟨RX1, "read", "(I)V"⟩
abbrev cX1_forgetReading : ByteArray := prog_3_method_5_code
def yX1_forgetReading : MethodName := ⟨RX1, "forgetReading", "()V"⟩
abbrev cX1_readGap : ByteArray := prog_3_method_6_code
def yX1_readGap : MethodName := ⟨RX1, "readGap", "(IZ)V"⟩
abbrev cX1_readEntry : ByteArray := prog_3_method_7_code
def yX1_readEntry : MethodName := ⟨RX1, "readEntry", "(Z)V"⟩
abbrev cX1_addSure : ByteArray := prog_3_method_8_code
def yX1_addSure : MethodName := ⟨RX1, "addSure", "(I)V"⟩
abbrev cX1_addDark : ByteArray := prog_3_method_9_code
def yX1_addDark : MethodName := ⟨RX1, "addDark", "(I)V"⟩
abbrev cX1_growMaybe : ByteArray := prog_3_method_10_code
def yX1_growMaybe : MethodName := ⟨RX1, "growMaybe", "(I)V"⟩
abbrev cX1_verdict : ByteArray := prog_3_method_11_code
def yX1_verdict : MethodName := ⟨RX1, "verdict", "(I)I"⟩
def RX2 : String := "BellBook$Crew"
def TX2 : u_T := fun k => match k with
  | 0 => ("BellBook$Crew", "where", "[I", true)
  | 1 => ("BellBook$Crew", "square", "[I", true)
  | 2 => ("BellBook$Crew", "hose", "[I", true)
  | 3 => ("BellBook$Crew", "stayed", "[I", true)
  | 4 => ("BellBook$Crew", "task", "[I", true)
  | 5 => ("BellBook$Crew", "length", "[I", true)
  | 6 => ("BellBook$Crew", "stay", "I", false)
  | _ => ("BellBook$Crew", "bellSquare", "I", false)
def tyX2 : Nat → FieldType := fun k => match k with
  | 0 => .array .int
  | 1 => .array .int
  | 2 => .array .int
  | 3 => .array .int
  | 4 => .array .int
  | 5 => .array .int
  | 6 => .int
  | _ => .int
abbrev wsX20 : List Cond := u_ws RX2 TX2 8
theorem nmX2 : ∀ a, a < 8 → ∀ b, b < 8 → a ≠ b → (TX2 a).2.1 ≠ (TX2 b).2.1 := by decide +kernel
theorem tyX2_ok : ∀ k, k < 8 → parseFieldDescriptor (TX2 k).2.2.1 = some (tyX2 k) := by decide +kernel
abbrev cX2_init : ByteArray := prog_4_method_1_code
def yX2_init : MethodName := ⟨RX2, "<init>", "()V"⟩
abbrev cX2_countBelow : ByteArray := prog_4_method_2_code
def yX2_countBelow : MethodName := ⟨RX2, "countBelow", "()I"⟩
abbrev cX2_anyOut : ByteArray := prog_4_method_3_code
def yX2_anyOut : MethodName := ⟨RX2, "anyOut", "()Z"⟩
abbrev cX2_countOn : ByteArray := prog_4_method_4_code
def yX2_countOn : MethodName := ⟨RX2, "countOn", "(I)I"⟩
abbrev cX2_othersOn : ByteArray := prog_4_method_5_code
def yX2_othersOn : MethodName := ⟨RX2, "othersOn", "(II)I"⟩
abbrev cX2_bring : ByteArray := prog_4_method_6_code
def yX2_bring : MethodName := ⟨RX2, "bring", "(II)V"⟩
abbrev cX2_send : ByteArray := prog_4_method_7_code
def yX2_send : MethodName := ⟨RX2, "send", "(III)V"⟩
abbrev cX2_countMinuteOut : ByteArray := prog_4_method_8_code
def yX2_countMinuteOut : MethodName := ⟨RX2, "countMinuteOut", "(I)Z"⟩
def RX3 : String := "BellBook$Line"
def TX3 : u_T := fun k => match k with
  | 0 => ("BellBook$Line", "first", "[I", true)
  | 1 => ("BellBook$Line", "second", "[I", true)
  | 2 => ("BellBook$Line", "heardFirst", "[I", true)
  | 3 => ("BellBook$Line", "heardSecond", "[I", true)
  | _ => ("BellBook$Line", "hearings", "I", false)
def tyX3 : Nat → FieldType := fun k => match k with
  | 0 => .array .int
  | 1 => .array .int
  | 2 => .array .int
  | 3 => .array .int
  | _ => .int
abbrev wsX30 : List Cond := u_ws RX3 TX3 5
theorem nmX3 : ∀ a, a < 5 → ∀ b, b < 5 → a ≠ b → (TX3 a).2.1 ≠ (TX3 b).2.1 := by decide +kernel
theorem tyX3_ok : ∀ k, k < 5 → parseFieldDescriptor (TX3 k).2.2.1 = some (tyX3 k) := by decide +kernel
abbrev cX3_init : ByteArray := prog_5_method_1_code
def yX3_init : MethodName := ⟨RX3, "<init>", "()V"⟩
abbrev cX3_isTugs : ByteArray := prog_5_method_2_code
def yX3_isTugs : MethodName := ⟨RX3, "isTugs", "(II)Z"⟩
abbrev cX3_isHearing : ByteArray := prog_5_method_3_code
def yX3_isHearing : MethodName := ⟨RX3, "isHearing", "(II)Z"⟩
abbrev cX3_put : ByteArray := prog_5_method_4_code
def yX3_put : MethodName := ⟨RX3, "put", "(III)V"⟩
abbrev cX3_isSet : ByteArray := prog_5_method_5_code
def yX3_isSet : MethodName := ⟨RX3, "isSet", "(I)Z"⟩
abbrev cX3_countSigns : ByteArray := prog_5_method_6_code
def yX3_countSigns : MethodName := ⟨RX3, "countSigns", "()I"⟩
abbrev cX3_fromSign : ByteArray := prog_5_method_7_code
def yX3_fromSign : MethodName := ⟨RX3, "fromSign", "(III)I"⟩
abbrev cX3_signOf : ByteArray := prog_5_method_8_code
def yX3_signOf : MethodName := ⟨RX3, "signOf", "(II)I"⟩
abbrev cX3_onlyOneApart : ByteArray := prog_5_method_9_code
def yX3_onlyOneApart : MethodName := ⟨RX3, "onlyOneApart", "(II)I"⟩
abbrev cX3_addHearing : ByteArray := prog_5_method_10_code
def yX3_addHearing : MethodName := ⟨RX3, "addHearing", "(II)I"⟩
abbrev cX3_nearestToRow : ByteArray := prog_5_method_11_code
def yX3_nearestToRow : MethodName := ⟨RX3, "nearestToRow", "()I"⟩
abbrev cX3_fromRow : ByteArray := prog_5_method_12_code
def yX3_fromRow : MethodName := ⟨RX3, "fromRow", "(I)I"⟩
abbrev cX3_leastApart : ByteArray := prog_5_method_13_code
def yX3_leastApart : MethodName := ⟨RX3, "leastApart", "()I"⟩
abbrev cX3_fromSignsBehind : ByteArray := prog_5_method_14_code
def yX3_fromSignsBehind : MethodName := ⟨RX3, "fromSignsBehind", "(I)I"⟩
abbrev cX3_firstFree : ByteArray := prog_5_method_15_code
def yX3_firstFree : MethodName := ⟨RX3, "firstFree", "(I)I"⟩
abbrev cX3_isFarFromAll : ByteArray := prog_5_method_16_code
def yX3_isFarFromAll : MethodName := ⟨RX3, "isFarFromAll", "(III)Z"⟩
def RX4 : String := "BellBook$Plan"
def TX4 : u_T := fun k => match k with
  | 0 => ("BellBook$Plan", "order", "[I", true)
  | 1 => ("BellBook$Plan", "when", "[I", true)
  | 2 => ("BellBook$Plan", "count", "I", false)
  | 3 => ("BellBook$Plan", "hope", "I", false)
  | 4 => ("BellBook$Plan", "toil", "I", false)
  | _ => ("BellBook$Plan", "latest", "[I", true)
def tyX4 : Nat → FieldType := fun k => match k with
  | 0 => .array .int
  | 1 => .array .int
  | 2 => .int
  | 3 => .int
  | 4 => .int
  | _ => .array .int
abbrev wsX40 : List Cond := u_ws RX4 TX4 6
theorem nmX4 : ∀ a, a < 6 → ∀ b, b < 6 → a ≠ b → (TX4 a).2.1 ≠ (TX4 b).2.1 := by decide +kernel
theorem tyX4_ok : ∀ k, k < 6 → parseFieldDescriptor (TX4 k).2.2.1 = some (tyX4 k) := by decide +kernel
abbrev cX4_init : ByteArray := prog_6_method_1_code
def yX4_init : MethodName := ⟨RX4, "<init>", "()V"⟩
abbrev cX4_make : ByteArray := prog_6_method_2_code
def yX4_make : MethodName := ⟨RX4, "make", "(LBellBook$Wreck;)V"⟩
abbrev cX4_findLatest : ByteArray := prog_6_method_3_code
def yX4_findLatest : MethodName := ⟨RX4, "findLatest", "(LBellBook$Wreck;)V"⟩
abbrev cX4_latestOf : ByteArray := prog_6_method_4_code
def yX4_latestOf : MethodName := ⟨RX4, "latestOf", "(LBellBook$Wreck;I)I"⟩
abbrev cX4_mayBeFirst : ByteArray := prog_6_method_5_code
def yX4_mayBeFirst : MethodName := ⟨RX4, "mayBeFirst", "(LBellBook$Wreck;II)Z"⟩
abbrev cX4_chooseSet : ByteArray := prog_6_method_6_code
def yX4_chooseSet : MethodName := ⟨RX4, "chooseSet", "(LBellBook$Wreck;)I"⟩
abbrev cX4_hopeOf : ByteArray := prog_6_method_7_code
def yX4_hopeOf : MethodName := ⟨RX4, "hopeOf", "(LBellBook$Wreck;I)I"⟩
abbrev cX4_toilOf : ByteArray := prog_6_method_8_code
def yX4_toilOf : MethodName := ⟨RX4, "toilOf", "(LBellBook$Wreck;I)I"⟩
abbrev cX4_setInOrder : ByteArray := prog_6_method_9_code
def yX4_setInOrder : MethodName := ⟨RX4, "setInOrder", "(LBellBook$Wreck;I)V"⟩
abbrev cX4_nextOf : ByteArray := prog_6_method_10_code
def yX4_nextOf : MethodName := ⟨RX4, "nextOf", "(LBellBook$Wreck;II)I"⟩
def RX5 : String := "BellBook$Tides"
def TX5 : u_T := fun k => match k with
  | 0 => ("BellBook$Tides", "length", "[I", true)
  | _ => ("BellBook$Tides", "count", "I", false)
def tyX5 : Nat → FieldType := fun k => match k with
  | 0 => .array .int
  | _ => .int
abbrev wsX50 : List Cond := u_ws RX5 TX5 2
theorem nmX5 : ∀ a, a < 2 → ∀ b, b < 2 → a ≠ b → (TX5 a).2.1 ≠ (TX5 b).2.1 := by decide +kernel
theorem tyX5_ok : ∀ k, k < 2 → parseFieldDescriptor (TX5 k).2.2.1 = some (tyX5 k) := by decide +kernel
abbrev cX5_init : ByteArray := prog_7_method_1_code
def yX5_init : MethodName := ⟨RX5, "<init>", "()V"⟩
abbrev cX5_add : ByteArray := prog_7_method_2_code
def yX5_add : MethodName := ⟨RX5, "add", "(I)I"⟩
abbrev cX5_tideAt : ByteArray := prog_7_method_3_code
def yX5_tideAt : MethodName := ⟨RX5, "tideAt", "(I)I"⟩
abbrev cX5_lastMoment : ByteArray := prog_7_method_4_code
def yX5_lastMoment : MethodName := ⟨RX5, "lastMoment", "()I"⟩
abbrev cX5_soonestEnd : ByteArray := prog_7_method_5_code
def yX5_soonestEnd : MethodName := ⟨RX5, "soonestEnd", "(II)I"⟩
abbrev cX5_latestBegin : ByteArray := prog_7_method_6_code
def yX5_latestBegin : MethodName := ⟨RX5, "latestBegin", "(II)I"⟩
abbrev cX5_moment : ByteArray := prog_7_method_7_code
def yX5_moment : MethodName := ⟨RX5, "moment", "(II)I"⟩
def RX6 : String := "BellBook$Wreck"
def TX6 : u_T := fun k => match k with
  | 0 => ("BellBook$Wreck", "square", "[I", true)
  | 1 => ("BellBook$Wreck", "worth", "[I", true)
  | 2 => ("BellBook$Wreck", "work", "[I", true)
  | 3 => ("BellBook$Wreck", "odds", "[I", true)
  | 4 => ("BellBook$Wreck", "worked", "[I", true)
  | 5 => ("BellBook$Wreck", "under", "[I", true)
  | 6 => ("BellBook$Wreck", "tides", "LBellBook$Tides;", true)
  | 7 => ("BellBook$Wreck", "plan", "LBellBook$Plan;", true)
  | 8 => ("BellBook$Wreck", "count", "I", false)
  | 9 => ("BellBook$Wreck", "raised", "I", false)
  | 10 => ("BellBook$Wreck", "tangled", "I", false)
  | _ => ("BellBook$Wreck", "planStands", "Z", false)
def tyX6 : Nat → FieldType := fun k => match k with
  | 0 => .array .int
  | 1 => .array .int
  | 2 => .array .int
  | 3 => .array .int
  | 4 => .array .int
  | 5 => .array .int
  | 6 => .object "BellBook$Tides"
  | 7 => .object "BellBook$Plan"
  | 8 => .int
  | 9 => .int
  | 10 => .int
  | _ => .boolean
abbrev wsX60 : List Cond := u_ws RX6 TX6 12
theorem nmX6 : ∀ a, a < 12 → ∀ b, b < 12 → a ≠ b → (TX6 a).2.1 ≠ (TX6 b).2.1 := by decide +kernel
theorem tyX6_ok : ∀ k, k < 12 → parseFieldDescriptor (TX6 k).2.2.1 = some (tyX6 k) := by decide +kernel
abbrev cX6_init : ByteArray := prog_8_method_1_code
def yX6_init : MethodName := ⟨RX6, "<init>", "()V"⟩
abbrev cX6_has : ByteArray := prog_8_method_2_code
def yX6_has : MethodName := ⟨RX6, "has", "(I)Z"⟩
abbrev cX6_add : ByteArray := prog_8_method_3_code
def yX6_add : MethodName := ⟨RX6, "add", "(IIII)I"⟩
abbrev cX6_layUnder : ByteArray := prog_8_method_4_code
def yX6_layUnder : MethodName := ⟨RX6, "layUnder", "(IIZ)V"⟩
abbrev cX6_markTangled : ByteArray := prog_8_method_5_code
def yX6_markTangled : MethodName := ⟨RX6, "markTangled", "(IZ)V"⟩
abbrev cX6_liesBelow : ByteArray := prog_8_method_6_code
def yX6_liesBelow : MethodName := ⟨RX6, "liesBelow", "(II)Z"⟩
abbrev cX6_isFree : ByteArray := prog_8_method_7_code
def yX6_isFree : MethodName := ⟨RX6, "isFree", "(I)Z"⟩
abbrev cX6_canBeWorked : ByteArray := prog_8_method_8_code
def yX6_canBeWorked : MethodName := ⟨RX6, "canBeWorked", "(I)Z"⟩
abbrev cX6_workMinute : ByteArray := prog_8_method_9_code
def yX6_workMinute : MethodName := ⟨RX6, "workMinute", "(I)V"⟩
abbrev cX6_raisedWorth : ByteArray := prog_8_method_10_code
def yX6_raisedWorth : MethodName := ⟨RX6, "raisedWorth", "()I"⟩
abbrev cX6_addTide : ByteArray := prog_8_method_11_code
def yX6_addTide : MethodName := ⟨RX6, "addTide", "(I)I"⟩
abbrev cX6_dropTides : ByteArray := prog_8_method_12_code
def yX6_dropTides : MethodName := ⟨RX6, "dropTides", "()I"⟩
abbrev cX6_bestPlan : ByteArray := prog_8_method_13_code
def yX6_bestPlan : MethodName := ⟨RX6, "bestPlan", "()LBellBook$Plan;"⟩
abbrev cX6_left : ByteArray := prog_8_method_14_code
def yX6_left : MethodName := ⟨RX6, "left", "(I)I"⟩
abbrev cX6_isWhole : ByteArray := prog_8_method_15_code
def yX6_isWhole : MethodName := ⟨RX6, "isWhole", "(I)Z"⟩
def RX7 : String := "BellBook"
def TX7 : u_T := fun k => match k with
  | 0 => ("BellBook", "bell", "LBellBook$Bell;", true)
  | 1 => ("BellBook", "crew", "LBellBook$Crew;", true)
  | 2 => ("BellBook", "wreck", "LBellBook$Wreck;", true)
  | 3 => ("BellBook", "line", "LBellBook$Line;", true)
  | 4 => ("BellBook", "book", "LBellBook$Book;", true)
  | _ => ("BellBook", "minute", "I", false)
def tyX7 : Nat → FieldType := fun k => match k with
  | 0 => .object "BellBook$Bell"
  | 1 => .object "BellBook$Crew"
  | 2 => .object "BellBook$Wreck"
  | 3 => .object "BellBook$Line"
  | 4 => .object "BellBook$Book"
  | _ => .int
abbrev wsX70 : List Cond := u_ws RX7 TX7 6
theorem nmX7 : ∀ a, a < 6 → ∀ b, b < 6 → a ≠ b → (TX7 a).2.1 ≠ (TX7 b).2.1 := by decide +kernel
theorem tyX7_ok : ∀ k, k < 6 → parseFieldDescriptor (TX7 k).2.2.1 = some (tyX7 k) := by decide +kernel
abbrev cX7_init : ByteArray := prog_1_method_1_code
def yX7_init : MethodName := ⟨RX7, "<init>", "()V"⟩
abbrev cX7_room : ByteArray := prog_1_method_2_code
def yX7_room : MethodName := ⟨RX7, "room", "(I)I"⟩
abbrev cX7_depth : ByteArray := prog_1_method_3_code
def yX7_depth : MethodName := ⟨RX7, "depth", "(I)I"⟩
abbrev cX7_tip : ByteArray := prog_1_method_4_code
def yX7_tip : MethodName := ⟨RX7, "tip", "()I"⟩
abbrev cX7_barrel : ByteArray := prog_1_method_5_code
def yX7_barrel : MethodName := ⟨RX7, "barrel", "(I)I"⟩
abbrev cX7_breath : ByteArray := prog_1_method_6_code
def yX7_breath : MethodName := ⟨RX7, "breath", "(I)I"⟩
abbrev cX7_limit : ByteArray := prog_1_method_7_code
def yX7_limit : MethodName := ⟨RX7, "limit", "(I)I"⟩
abbrev cX7_minutes : ByteArray := prog_1_method_8_code
def yX7_minutes : MethodName := ⟨RX7, "minutes", "(I)I"⟩
abbrev cX7_air : ByteArray := prog_1_method_9_code
def yX7_air : MethodName := ⟨RX7, "air", "(I)I"⟩
abbrev cX7_fewest : ByteArray := prog_1_method_10_code
def yX7_fewest : MethodName := ⟨RX7, "fewest", "(I)I"⟩
abbrev cX7_go : ByteArray := prog_1_method_11_code
def yX7_go : MethodName := ⟨RX7, "go", "(IZ)I"⟩
abbrev cX7_out : ByteArray := prog_1_method_12_code
def yX7_out : MethodName := ⟨RX7, "out", "(III)I"⟩
abbrev cX7_hose : ByteArray := prog_1_method_13_code
def yX7_hose : MethodName := ⟨RX7, "hose", "(II)I"⟩
abbrev cX7_stay : ByteArray := prog_1_method_14_code
def yX7_stay : MethodName := ⟨RX7, "stay", "(I)I"⟩
abbrev cX7_hang : ByteArray := prog_1_method_15_code
def yX7_hang : MethodName := ⟨RX7, "hang", "(I)I"⟩
abbrev cX7_man : ByteArray := prog_1_method_16_code
def yX7_man : MethodName := ⟨RX7, "man", "(II)I"⟩
abbrev cX7_thing : ByteArray := prog_1_method_17_code
def yX7_thing : MethodName := ⟨RX7, "thing", "(IIII)I"⟩
abbrev cX7_under : ByteArray := prog_1_method_18_code
def yX7_under : MethodName := ⟨RX7, "under", "(IIZ)I"⟩
abbrev cX7_tangle : ByteArray := prog_1_method_19_code
def yX7_tangle : MethodName := ⟨RX7, "tangle", "(IZ)I"⟩
abbrev cX7_work : ByteArray := prog_1_method_20_code
def yX7_work : MethodName := ⟨RX7, "work", "(II)I"⟩
abbrev cX7_ofThing : ByteArray := prog_1_method_21_code
def yX7_ofThing : MethodName := ⟨RX7, "ofThing", "(II)I"⟩
abbrev cX7_tide : ByteArray := prog_1_method_22_code
def yX7_tide : MethodName := ⟨RX7, "tide", "(I)I"⟩
abbrev cX7_calm : ByteArray := prog_1_method_23_code
def yX7_calm : MethodName := ⟨RX7, "calm", "()I"⟩
abbrev cX7_best : ByteArray := prog_1_method_24_code
def yX7_best : MethodName := ⟨RX7, "best", "(I)I"⟩
abbrev cX7_tideOf : ByteArray := prog_1_method_25_code
def yX7_tideOf : MethodName := ⟨RX7, "tideOf", "(I)I"⟩
abbrev cX7_sign : ByteArray := prog_1_method_26_code
def yX7_sign : MethodName := ⟨RX7, "sign", "(III)I"⟩
abbrev cX7_heard : ByteArray := prog_1_method_27_code
def yX7_heard : MethodName := ⟨RX7, "heard", "(II)I"⟩
abbrev cX7_hear : ByteArray := prog_1_method_28_code
def yX7_hear : MethodName := ⟨RX7, "hear", "(II)I"⟩
abbrev cX7_tell : ByteArray := prog_1_method_29_code
def yX7_tell : MethodName := ⟨RX7, "tell", "()I"⟩
abbrev cX7_tight : ByteArray := prog_1_method_30_code
def yX7_tight : MethodName := ⟨RX7, "tight", "()I"⟩
abbrev cX7_free : ByteArray := prog_1_method_31_code
def yX7_free : MethodName := ⟨RX7, "free", "(I)I"⟩
abbrev cX7_entry : ByteArray := prog_1_method_32_code
def yX7_entry : MethodName := ⟨RX7, "entry", "(III)I"⟩
abbrev cX7_log : ByteArray := prog_1_method_33_code
def yX7_log : MethodName := ⟨RX7, "log", "(II)I"⟩
abbrev cX7_told : ByteArray := prog_1_method_34_code
def yX7_told : MethodName := ⟨RX7, "told", "(I)I"⟩
abbrev cX7_passMinute : ByteArray := prog_1_method_35_code
def yX7_passMinute : MethodName := ⟨RX7, "passMinute", "()V"⟩
abbrev cX7_toil : ByteArray := prog_1_method_36_code
def yX7_toil : MethodName := ⟨RX7, "toil", "(I)V"⟩
abbrev cX7_within : ByteArray := prog_1_method_37_code
def yX7_within : MethodName := ⟨RX7, "within", "(III)Z"⟩
abbrev cX7_isMan : ByteArray := prog_1_method_38_code
def yX7_isMan : MethodName := ⟨RX7, "isMan", "(I)Z"⟩
abbrev cX7_isHose : ByteArray := prog_1_method_39_code
def yX7_isHose : MethodName := ⟨RX7, "isHose", "(I)Z"⟩
abbrev cX7_isSquare : ByteArray := prog_1_method_40_code
def yX7_isSquare : MethodName := ⟨RX7, "isSquare", "(I)Z"⟩
abbrev cX7_bit : ByteArray := prog_1_method_41_code
def yX7_bit : MethodName := ⟨RX7, "bit", "(II)I"⟩
abbrev cX7_distance : ByteArray := prog_1_method_42_code
def yX7_distance : MethodName := ⟨RX7, "distance", "(II)I"⟩
abbrev cX7_apart : ByteArray := prog_1_method_43_code
def yX7_apart : MethodName := ⟨RX7, "apart", "(IIII)I"⟩
def RX8 : String := "BellBookModel"
def TX8 : u_T := fun k => match k with
  | 0 => ("BellBookModel", "room", "I", false)
  | 1 => ("BellBookModel", "depth", "I", false)
  | 2 => ("BellBookModel", "fresh", "I", false)
  | 3 => ("BellBookModel", "foul", "I", false)
  | 4 => ("BellBookModel", "sent", "I", false)
  | 5 => ("BellBookModel", "breathed", "I", false)
  | 6 => ("BellBookModel", "spilled", "I", false)
  | 7 => ("BellBookModel", "barrels", "I", false)
  | 8 => ("BellBookModel", "lacks", "I", false)
  | 9 => ("BellBookModel", "lacksBeyond", "I", false)
  | 10 => ("BellBookModel", "breath", "I", false)
  | 11 => ("BellBookModel", "limit", "I", false)
  | 12 => ("BellBookModel", "stay", "I", false)
  | 13 => ("BellBookModel", "minute", "I", false)
  | 14 => ("BellBookModel", "bell", "I", false)
  | 15 => ("BellBookModel", "where", "[I", true)
  | 16 => ("BellBookModel", "square", "[I", true)
  | 17 => ("BellBookModel", "hoseOf", "[I", true)
  | 18 => ("BellBookModel", "count", "[I", true)
  | 19 => ("BellBookModel", "workOf", "[I", true)
  | 20 => ("BellBookModel", "length", "[I", true)
  | 21 => ("BellBookModel", "things", "I", false)
  | 22 => ("BellBookModel", "thing", "[I", true)
  | 23 => ("BellBookModel", "under", "[I", true)
  | 24 => ("BellBookModel", "raised", "I", false)
  | 25 => ("BellBookModel", "tangled", "I", false)
  | 26 => ("BellBookModel", "tides", "I", false)
  | 27 => ("BellBookModel", "tide", "[I", true)
  | 28 => ("BellBookModel", "tugsA", "[I", true)
  | 29 => ("BellBookModel", "tugsB", "[I", true)
  | 30 => ("BellBookModel", "hearings", "I", false)
  | 31 => ("BellBookModel", "heardA", "[I", true)
  | 32 => ("BellBookModel", "heardB", "[I", true)
  | 33 => ("BellBookModel", "entries", "I", false)
  | 34 => ("BellBookModel", "entryMinute", "[I", true)
  | 35 => ("BellBookModel", "entryMan", "[I", true)
  | 36 => ("BellBookModel", "entryWhere", "[I", true)
  | 37 => ("BellBookModel", "end", "[I", true)
  | 38 => ("BellBookModel", "bestSet", "I", false)
  | 39 => ("BellBookModel", "many", "I", false)
  | 40 => ("BellBookModel", "order", "[I", true)
  | 41 => ("BellBookModel", "inTide", "[I", true)
  | 42 => ("BellBookModel", "sureMinutes", "I", false)
  | 43 => ("BellBookModel", "darkMinutes", "I", false)
  | 44 => ("BellBookModel", "longestSure", "I", false)
  | _ => ("BellBookModel", "longestMaybe", "I", false)
def tyX8 : Nat → FieldType := fun k => match k with
  | 0 => .int
  | 1 => .int
  | 2 => .int
  | 3 => .int
  | 4 => .int
  | 5 => .int
  | 6 => .int
  | 7 => .int
  | 8 => .int
  | 9 => .int
  | 10 => .int
  | 11 => .int
  | 12 => .int
  | 13 => .int
  | 14 => .int
  | 15 => .array .int
  | 16 => .array .int
  | 17 => .array .int
  | 18 => .array .int
  | 19 => .array .int
  | 20 => .array .int
  | 21 => .int
  | 22 => .array .int
  | 23 => .array .int
  | 24 => .int
  | 25 => .int
  | 26 => .int
  | 27 => .array .int
  | 28 => .array .int
  | 29 => .array .int
  | 30 => .int
  | 31 => .array .int
  | 32 => .array .int
  | 33 => .int
  | 34 => .array .int
  | 35 => .array .int
  | 36 => .array .int
  | 37 => .array .int
  | 38 => .int
  | 39 => .int
  | 40 => .array .int
  | 41 => .array .int
  | 42 => .int
  | 43 => .int
  | 44 => .int
  | _ => .int
abbrev wsX80 : List Cond := u_ws RX8 TX8 46
theorem nmX8 : ∀ a, a < 46 → ∀ b, b < 46 → a ≠ b → (TX8 a).2.1 ≠ (TX8 b).2.1 := by decide +kernel
theorem tyX8_ok : ∀ k, k < 46 → parseFieldDescriptor (TX8 k).2.2.1 = some (tyX8 k) := by decide +kernel
abbrev cX8_init : ByteArray := prog_10_method_1_code
def yX8_init : MethodName := ⟨RX8, "<init>", "()V"⟩
abbrev cX8_in : ByteArray := prog_10_method_2_code
def yX8_in : MethodName := ⟨RX8, "in", "(III)Z"⟩
abbrev cX8_most : ByteArray := prog_10_method_3_code
def yX8_most : MethodName := ⟨RX8, "most", "()I"⟩
abbrev cX8_all : ByteArray := prog_10_method_4_code
def yX8_all : MethodName := ⟨RX8, "all", "()I"⟩
abbrev cX8_spill : ByteArray := prog_10_method_5_code
def yX8_spill : MethodName := ⟨RX8, "spill", "(I)I"⟩
abbrev cX8_outside : ByteArray := prog_10_method_6_code
def yX8_outside : MethodName := ⟨RX8, "outside", "()I"⟩
abbrev cX8_breathing : ByteArray := prog_10_method_7_code
def yX8_breathing : MethodName := ⟨RX8, "breathing", "()I"⟩
abbrev cX8_room : ByteArray := prog_10_method_8_code
def yX8_room : MethodName := ⟨RX8, "room", "(I)I"⟩
abbrev cX8_depth : ByteArray := prog_10_method_9_code
def yX8_depth : MethodName := ⟨RX8, "depth", "(I)I"⟩
abbrev cX8_tip : ByteArray := prog_10_method_10_code
def yX8_tip : MethodName := ⟨RX8, "tip", "()I"⟩
abbrev cX8_barrel : ByteArray := prog_10_method_11_code
def yX8_barrel : MethodName := ⟨RX8, "barrel", "(I)I"⟩
abbrev cX8_breath : ByteArray := prog_10_method_12_code
def yX8_breath : MethodName := ⟨RX8, "breath", "(I)I"⟩
abbrev cX8_limit : ByteArray := prog_10_method_13_code
def yX8_limit : MethodName := ⟨RX8, "limit", "(I)I"⟩
abbrev cX8_onHose : ByteArray := prog_10_method_14_code
def yX8_onHose : MethodName := ⟨RX8, "onHose", "(I)I"⟩
abbrev cX8_live : ByteArray := prog_10_method_15_code
def yX8_live : MethodName := ⟨RX8, "live", "(I)I"⟩
abbrev cX8_isFree : ByteArray := prog_10_method_16_code
def yX8_isFree : MethodName := ⟨RX8, "isFree", "(I)Z"⟩
abbrev cX8_labour : ByteArray := prog_10_method_17_code
def yX8_labour : MethodName := ⟨RX8, "labour", "(I)V"⟩
abbrev cX8_minutes : ByteArray := prog_10_method_18_code
def yX8_minutes : MethodName := ⟨RX8, "minutes", "(I)I"⟩
abbrev cX8_foulness : ByteArray := prog_10_method_19_code
def yX8_foulness : MethodName := ⟨RX8, "foulness", "()I"⟩
abbrev cX8_last : ByteArray := prog_10_method_20_code
def yX8_last : MethodName := ⟨RX8, "last", "()I"⟩
abbrev cX8_air : ByteArray := prog_10_method_21_code
def yX8_air : MethodName := ⟨RX8, "air", "(I)I"⟩
abbrev cX8_fewest : ByteArray := prog_10_method_22_code
def yX8_fewest : MethodName := ⟨RX8, "fewest", "(I)I"⟩
abbrev cX8_isMan : ByteArray := prog_10_method_23_code
def yX8_isMan : MethodName := ⟨RX8, "isMan", "(I)Z"⟩
abbrev cX8_isHose : ByteArray := prog_10_method_24_code
def yX8_isHose : MethodName := ⟨RX8, "isHose", "(I)Z"⟩
abbrev cX8_isSquare : ByteArray := prog_10_method_25_code
def yX8_isSquare : MethodName := ⟨RX8, "isSquare", "(I)Z"⟩
abbrev cX8_go : ByteArray := prog_10_method_26_code
def yX8_go : MethodName := ⟨RX8, "go", "(IZ)I"⟩
abbrev cX8_size : ByteArray := prog_10_method_27_code
def yX8_size : MethodName := ⟨RX8, "size", "(I)I"⟩
abbrev cX8_out : ByteArray := prog_10_method_28_code
def yX8_out : MethodName := ⟨RX8, "out", "(III)I"⟩
abbrev cX8_hose : ByteArray := prog_10_method_29_code
def yX8_hose : MethodName := ⟨RX8, "hose", "(II)I"⟩
abbrev cX8_stay : ByteArray := prog_10_method_30_code
def yX8_stay : MethodName := ⟨RX8, "stay", "(I)I"⟩
abbrev cX8_hang : ByteArray := prog_10_method_31_code
def yX8_hang : MethodName := ⟨RX8, "hang", "(I)I"⟩
abbrev cX8_man : ByteArray := prog_10_method_32_code
def yX8_man : MethodName := ⟨RX8, "man", "(II)I"⟩
abbrev cX8_isThing : ByteArray := prog_10_method_33_code
def yX8_isThing : MethodName := ⟨RX8, "isThing", "(I)Z"⟩
abbrev cX8_thing : ByteArray := prog_10_method_34_code
def yX8_thing : MethodName := ⟨RX8, "thing", "(IIII)I"⟩
abbrev cX8_above : ByteArray := prog_10_method_35_code
def yX8_above : MethodName := ⟨RX8, "above", "(I)I"⟩
abbrev cX8_under : ByteArray := prog_10_method_36_code
def yX8_under : MethodName := ⟨RX8, "under", "(IIZ)I"⟩
abbrev cX8_tangle : ByteArray := prog_10_method_37_code
def yX8_tangle : MethodName := ⟨RX8, "tangle", "(IZ)I"⟩
abbrev cX8_work : ByteArray := prog_10_method_38_code
def yX8_work : MethodName := ⟨RX8, "work", "(II)I"⟩
abbrev cX8_ofThing : ByteArray := prog_10_method_39_code
def yX8_ofThing : MethodName := ⟨RX8, "ofThing", "(II)I"⟩
abbrev cX8_tide : ByteArray := prog_10_method_40_code
def yX8_tide : MethodName := ⟨RX8, "tide", "(I)I"⟩
abbrev cX8_calm : ByteArray := prog_10_method_41_code
def yX8_calm : MethodName := ⟨RX8, "calm", "()I"⟩
abbrev cX8_left : ByteArray := prog_10_method_42_code
def yX8_left : MethodName := ⟨RX8, "left", "(I)I"⟩
abbrev cX8_endWith : ByteArray := prog_10_method_43_code
def yX8_endWith : MethodName := ⟨RX8, "endWith", "(II)I"⟩
abbrev cX8_layEnds : ByteArray := prog_10_method_44_code
def yX8_layEnds : MethodName := ⟨RX8, "layEnds", "(II)V"⟩
abbrev cX8_hopeOf : ByteArray := prog_10_method_45_code
def yX8_hopeOf : MethodName := ⟨RX8, "hopeOf", "(I)I"⟩
abbrev cX8_workOfSet : ByteArray := prog_10_method_46_code
def yX8_workOfSet : MethodName := ⟨RX8, "workOfSet", "(I)I"⟩
abbrev cX8_layBest : ByteArray := prog_10_method_47_code
def yX8_layBest : MethodName := ⟨RX8, "layBest", "()V"⟩
abbrev cX8_best : ByteArray := prog_10_method_48_code
def yX8_best : MethodName := ⟨RX8, "best", "(I)I"⟩
abbrev cX8_tideOf : ByteArray := prog_10_method_49_code
def yX8_tideOf : MethodName := ⟨RX8, "tideOf", "(I)I"⟩
abbrev cX8_apart : ByteArray := prog_10_method_50_code
def yX8_apart : MethodName := ⟨RX8, "apart", "(III)I"⟩
abbrev cX8_sign : ByteArray := prog_10_method_51_code
def yX8_sign : MethodName := ⟨RX8, "sign", "(III)I"⟩
abbrev cX8_isHeard : ByteArray := prog_10_method_52_code
def yX8_isHeard : MethodName := ⟨RX8, "isHeard", "(I)Z"⟩
abbrev cX8_heard : ByteArray := prog_10_method_53_code
def yX8_heard : MethodName := ⟨RX8, "heard", "(II)I"⟩
abbrev cX8_hear : ByteArray := prog_10_method_54_code
def yX8_hear : MethodName := ⟨RX8, "hear", "(II)I"⟩
abbrev cX8_tell : ByteArray := prog_10_method_55_code
def yX8_tell : MethodName := ⟨RX8, "tell", "()I"⟩
abbrev cX8_tight : ByteArray := prog_10_method_56_code
def yX8_tight : MethodName := ⟨RX8, "tight", "()I"⟩
abbrev cX8_free : ByteArray := prog_10_method_57_code
def yX8_free : MethodName := ⟨RX8, "free", "(I)I"⟩
abbrev cX8_entry : ByteArray := prog_10_method_58_code
def yX8_entry : MethodName := ⟨RX8, "entry", "(III)I"⟩
abbrev cX8_readLog : ByteArray := prog_10_method_59_code
def yX8_readLog : MethodName := ⟨RX8, "readLog", "(I)V"⟩
abbrev cX8_log : ByteArray := prog_10_method_60_code
def yX8_log : MethodName := ⟨RX8, "log", "(II)I"⟩
abbrev cX8_told : ByteArray := prog_10_method_61_code
def yX8_told : MethodName := ⟨RX8, "told", "(I)I"⟩
def RJ9 : String := "java/lang/Math"
def TJ9 : u_T := fun k => match k with
  | _ => ("", "", "", false)
def tyJ9 : Nat → FieldType := fun k => match k with
  | _ => .int
abbrev wsJ90 : List Cond := u_ws RJ9 TJ9 0
theorem nmJ9 : ∀ a, a < 0 → ∀ b, b < 0 → a ≠ b → (TJ9 a).2.1 ≠ (TJ9 b).2.1 := by decide +kernel
theorem tyJ9_ok : ∀ k, k < 0 → parseFieldDescriptor (TJ9 k).2.2.1 = some (tyJ9 k) := by decide +kernel
abbrev cJ9_abs_0f7a4 : ByteArray := prog_11_method_59_code
def yJ9_abs_0f7a4 : MethodName := ⟨RJ9, "abs", "(I)I"⟩
abbrev cJ9_max_7cf53 : ByteArray := prog_11_method_65_code
def yJ9_max_7cf53 : MethodName := ⟨RJ9, "max", "(II)I"⟩
abbrev cJ9_min_7cf53 : ByteArray := prog_11_method_69_code
def yJ9_min_7cf53 : MethodName := ⟨RJ9, "min", "(II)I"⟩
def RL : String := "BellBookLaw"
abbrev cL_law : ByteArray := code
def yL_law : MethodName := ⟨RL, "law", "([I)Z"⟩
def wsX0_beginAnew : List Cond := .code yX0_beginAnew cX0_beginAnew 2 none :: ([.fieldLink RX0 25 "BellBook$Bell" "room" "I", .fieldLink RX0 28 "BellBook$Bell" "fresh" "I", .fieldLink RX0 31 "BellBook$Bell" "foul" "I", .fieldLink RX0 34 "BellBook$Bell" "sent" "I", .fieldLink RX0 37 "BellBook$Bell" "breathed" "I", .fieldLink RX0 40 "BellBook$Bell" "spilled" "I", .fieldLink RX0 43 "BellBook$Bell" "barrels" "I", .fieldLink RX0 46 "BellBook$Bell" "breathLacks" "I", .fieldLink RX0 49 "BellBook$Bell" "stayLacks" "I"] ++ wsX00)
def wsX0_init : List Cond := .code yX0_init cX0_init 1 none :: ([.methodLink RX0 3 objectInit, .instanceMethod objectInit, .code objectInit ⟨#[0xb1]⟩ 1 none, .fieldLink RX0 9 "BellBook$Bell" "depth" "I", .fieldLink RX0 15 "BellBook$Bell" "breath" "I", .fieldLink RX0 18 "BellBook$Bell" "limit" "I", .methodLink RX0 21 yX0_beginAnew, .instanceMethod yX0_beginAnew, .selects RX0 yX0_beginAnew yX0_beginAnew, .initialized RX0, .code yX0_beginAnew cX0_beginAnew 2 none, .fieldLink RX0 25 "BellBook$Bell" "room" "I", .fieldLink RX0 28 "BellBook$Bell" "fresh" "I", .fieldLink RX0 31 "BellBook$Bell" "foul" "I", .fieldLink RX0 34 "BellBook$Bell" "sent" "I", .fieldLink RX0 37 "BellBook$Bell" "breathed" "I", .fieldLink RX0 40 "BellBook$Bell" "spilled" "I", .fieldLink RX0 43 "BellBook$Bell" "barrels" "I", .fieldLink RX0 46 "BellBook$Bell" "breathLacks" "I", .fieldLink RX0 49 "BellBook$Bell" "stayLacks" "I"] ++ wsX00)
def wsX0_shares : List Cond := .code yX0_shares cX0_shares 1 (some .int) :: ([.fieldLink RX0 28 "BellBook$Bell" "fresh" "I", .fieldLink RX0 31 "BellBook$Bell" "foul" "I"] ++ wsX00)
def wsX0_most : List Cond := .code yX0_most cX0_most 1 (some .int) :: ([.fieldLink RX0 25 "BellBook$Bell" "room" "I", .fieldLink RX0 9 "BellBook$Bell" "depth" "I"] ++ wsX00)
def wsX0_dry : List Cond := .code yX0_dry cX0_dry 1 (some .int) :: ([.fieldLink RX0 9 "BellBook$Bell" "depth" "I", .methodLink RX0 52 yX0_shares, .instanceMethod yX0_shares, .selects RX0 yX0_shares yX0_shares, .initialized RX0, .code yX0_shares cX0_shares 1 (some .int), .fieldLink RX0 28 "BellBook$Bell" "fresh" "I", .fieldLink RX0 31 "BellBook$Bell" "foul" "I"] ++ wsX00)
def wsX0_foulPart : List Cond := .code yX0_foulPart cX0_foulPart 4 (some .int) :: ([])
def wsX0_spill : List Cond := .code yX0_spill cX0_spill 3 (some .int) :: ([.fieldLink RX0 28 "BellBook$Bell" "fresh" "I", .fieldLink RX0 31 "BellBook$Bell" "foul" "I", .fieldLink RX0 40 "BellBook$Bell" "spilled" "I", .methodLink RX0 56 yX0_foulPart, .static yX0_foulPart, .initialized RX0, .code yX0_foulPart cX0_foulPart 4 (some .int)] ++ wsX00)
def wsX0_spillOver_r1 : List Cond := [Cond.methodLink RX0 63 Lib.Math.max.name, Cond.static Lib.Math.max.name, Cond.initialized "java/lang/Math", Cond.code Lib.Math.max.name Lib.Math.max.code 2 (some .int), Cond.methodLink RX0 52 yX0_shares, Cond.instanceMethod yX0_shares, Cond.selects RX0 yX0_shares yX0_shares, Cond.initialized RX0, Cond.code yX0_shares cX0_shares 1 (some .int), Cond.fieldLink RX0 28 "BellBook$Bell" "fresh" "I", Cond.fieldLink RX0 31 "BellBook$Bell" "foul" "I", Cond.methodLink RX0 60 yX0_most, Cond.instanceMethod yX0_most, Cond.selects RX0 yX0_most yX0_most, Cond.code yX0_most cX0_most 1 (some .int), Cond.fieldLink RX0 25 "BellBook$Bell" "room" "I", Cond.fieldLink RX0 9 "BellBook$Bell" "depth" "I", Cond.methodLink RX0 69 yX0_spill, Cond.instanceMethod yX0_spill, Cond.selects RX0 yX0_spill yX0_spill, Cond.code yX0_spill cX0_spill 3 (some .int), Cond.fieldLink RX0 40 "BellBook$Bell" "spilled" "I", Cond.methodLink RX0 56 yX0_foulPart, Cond.static yX0_foulPart]
def wsX0_spillOver_r2 : List Cond := [Cond.code yX0_foulPart cX0_foulPart 4 (some .int)]
def wsX0_spillOver : List Cond := .code yX0_spillOver cX0_spillOver 1 (some .int) :: ((wsX0_spillOver_r1 ++ wsX0_spillOver_r2) ++ wsX00)
def wsX0_letIn_r1 : List Cond := [Cond.fieldLink RX0 43 "BellBook$Bell" "barrels" "I", Cond.fieldLink RX0 34 "BellBook$Bell" "sent" "I", Cond.fieldLink RX0 28 "BellBook$Bell" "fresh" "I", Cond.methodLink RX0 73 yX0_spillOver, Cond.instanceMethod yX0_spillOver, Cond.selects RX0 yX0_spillOver yX0_spillOver, Cond.initialized RX0, Cond.code yX0_spillOver cX0_spillOver 1 (some .int), Cond.methodLink RX0 63 Lib.Math.max.name, Cond.static Lib.Math.max.name, Cond.initialized "java/lang/Math", Cond.code Lib.Math.max.name Lib.Math.max.code 2 (some .int), Cond.methodLink RX0 52 yX0_shares, Cond.instanceMethod yX0_shares, Cond.selects RX0 yX0_shares yX0_shares, Cond.code yX0_shares cX0_shares 1 (some .int), Cond.fieldLink RX0 31 "BellBook$Bell" "foul" "I", Cond.methodLink RX0 60 yX0_most, Cond.instanceMethod yX0_most, Cond.selects RX0 yX0_most yX0_most, Cond.code yX0_most cX0_most 1 (some .int), Cond.fieldLink RX0 25 "BellBook$Bell" "room" "I", Cond.fieldLink RX0 9 "BellBook$Bell" "depth" "I", Cond.methodLink RX0 69 yX0_spill]
def wsX0_letIn_r2 : List Cond := [Cond.instanceMethod yX0_spill, Cond.selects RX0 yX0_spill yX0_spill, Cond.code yX0_spill cX0_spill 3 (some .int), Cond.fieldLink RX0 40 "BellBook$Bell" "spilled" "I", Cond.methodLink RX0 56 yX0_foulPart, Cond.static yX0_foulPart, Cond.code yX0_foulPart cX0_foulPart 4 (some .int)]
def wsX0_letIn : List Cond := .code yX0_letIn cX0_letIn 2 (some .int) :: ((wsX0_letIn_r1 ++ wsX0_letIn_r2) ++ wsX00)
def wsX0_breathe : List Cond := .code yX0_breathe cX0_breathe 2 none :: ([.fieldLink RX0 15 "BellBook$Bell" "breath" "I", .fieldLink RX0 28 "BellBook$Bell" "fresh" "I", .methodLink RX0 76 Lib.Math.min.name, .static Lib.Math.min.name, .initialized "java/lang/Math", .code Lib.Math.min.name Lib.Math.min.code 2 (some .int), .fieldLink RX0 31 "BellBook$Bell" "foul" "I", .fieldLink RX0 37 "BellBook$Bell" "breathed" "I", .fieldLink RX0 46 "BellBook$Bell" "breathLacks" "I"] ++ wsX00)
def wsX0_lasts : List Cond := .code yX0_lasts cX0_lasts 3 (some .int) :: ([.fieldLink RX0 15 "BellBook$Bell" "breath" "I", .constant RX0 79 (100000), .fieldLink RX0 28 "BellBook$Bell" "fresh" "I"] ++ wsX00)
def wsX0_foulness : List Cond := .code yX0_foulness cX0_foulness 2 (some .int) :: ([.methodLink RX0 56 yX0_foulPart, .static yX0_foulPart, .initialized RX0, .code yX0_foulPart cX0_foulPart 4 (some .int)])
def wsX0_fewestBarrels : List Cond := .code yX0_fewestBarrels cX0_fewestBarrels 7 (some .int) :: ([.fieldLink RX0 28 "BellBook$Bell" "fresh" "I", .fieldLink RX0 31 "BellBook$Bell" "foul" "I", .fieldLink RX0 18 "BellBook$Bell" "limit" "I", .methodLink RX0 63 Lib.Math.max.name, .static Lib.Math.max.name, .initialized "java/lang/Math", .code Lib.Math.max.name Lib.Math.max.code 2 (some .int), .methodLink RX0 80 yX0_foulness, .static yX0_foulness, .initialized RX0, .code yX0_foulness cX0_foulness 2 (some .int), .methodLink RX0 56 yX0_foulPart, .static yX0_foulPart, .code yX0_foulPart cX0_foulPart 4 (some .int), .methodLink RX0 60 yX0_most, .instanceMethod yX0_most, .selects RX0 yX0_most yX0_most, .code yX0_most cX0_most 1 (some .int), .fieldLink RX0 25 "BellBook$Bell" "room" "I", .fieldLink RX0 9 "BellBook$Bell" "depth" "I"] ++ wsX00)
def wsX1_init : List Cond := .code yX1_init cX1_init 1 none :: ([.methodLink RX1 3 objectInit, .instanceMethod objectInit, .code objectInit ⟨#[0xb1]⟩ 1 none, .arrayClass .int, .fieldLink RX1 11 "BellBook$Book" "minutes" "[I", .fieldLink RX1 15 "BellBook$Book" "men" "[I", .fieldLink RX1 18 "BellBook$Book" "places" "[I", .fieldLink RX1 21 "BellBook$Book" "count" "I"] ++ wsX10)
def wsX1_mayFollow : List Cond := .code yX1_mayFollow cX1_mayFollow 4 (some .boolean) :: ([.fieldLink RX1 21 "BellBook$Book" "count" "I", .fieldLink RX1 11 "BellBook$Book" "minutes" "[I", .fieldLink RX1 15 "BellBook$Book" "men" "[I"] ++ wsX10)
def wsX1_add : List Cond := .code yX1_add cX1_add 5 (some .int) :: ([.fieldLink RX1 21 "BellBook$Book" "count" "I", .fieldLink RX1 11 "BellBook$Book" "minutes" "[I", .fieldLink RX1 15 "BellBook$Book" "men" "[I", .fieldLink RX1 18 "BellBook$Book" "places" "[I"] ++ wsX10)
def wsX1_forgetReading : List Cond := .code yX1_forgetReading cX1_forgetReading 1 none :: ([.fieldLink RX1 36 "BellBook$Book" "seen" "I", .fieldLink RX1 39 "BellBook$Book" "sure" "I", .fieldLink RX1 42 "BellBook$Book" "dark" "I", .fieldLink RX1 45 "BellBook$Book" "longestSure" "I", .fieldLink RX1 48 "BellBook$Book" "longestMaybe" "I", .fieldLink RX1 51 "BellBook$Book" "sureRow" "I", .fieldLink RX1 54 "BellBook$Book" "maybeRow" "I"] ++ wsX10)
def wsX1_growMaybe : List Cond := .code yX1_growMaybe cX1_growMaybe 2 none :: ([.fieldLink RX1 54 "BellBook$Book" "maybeRow" "I", .fieldLink RX1 48 "BellBook$Book" "longestMaybe" "I", .methodLink RX1 64 Lib.Math.max.name, .static Lib.Math.max.name, .initialized "java/lang/Math", .code Lib.Math.max.name Lib.Math.max.code 2 (some .int)] ++ wsX10)
def wsX1_addSure : List Cond := .code yX1_addSure cX1_addSure 2 none :: ([.fieldLink RX1 39 "BellBook$Book" "sure" "I", .fieldLink RX1 51 "BellBook$Book" "sureRow" "I", .fieldLink RX1 45 "BellBook$Book" "longestSure" "I", .methodLink RX1 64 Lib.Math.max.name, .static Lib.Math.max.name, .initialized "java/lang/Math", .code Lib.Math.max.name Lib.Math.max.code 2 (some .int), .methodLink RX1 70 yX1_growMaybe, .instanceMethod yX1_growMaybe, .selects RX1 yX1_growMaybe yX1_growMaybe, .initialized RX1, .code yX1_growMaybe cX1_growMaybe 2 none, .fieldLink RX1 54 "BellBook$Book" "maybeRow" "I", .fieldLink RX1 48 "BellBook$Book" "longestMaybe" "I"] ++ wsX10)
def wsX1_addDark : List Cond := .code yX1_addDark cX1_addDark 2 none :: ([.fieldLink RX1 42 "BellBook$Book" "dark" "I", .fieldLink RX1 51 "BellBook$Book" "sureRow" "I", .methodLink RX1 70 yX1_growMaybe, .instanceMethod yX1_growMaybe, .selects RX1 yX1_growMaybe yX1_growMaybe, .initialized RX1, .code yX1_growMaybe cX1_growMaybe 2 none, .fieldLink RX1 54 "BellBook$Book" "maybeRow" "I", .fieldLink RX1 48 "BellBook$Book" "longestMaybe" "I", .methodLink RX1 64 Lib.Math.max.name, .static Lib.Math.max.name, .initialized "java/lang/Math", .code Lib.Math.max.name Lib.Math.max.code 2 (some .int)] ++ wsX10)
def wsX1_readGap : List Cond := .code yX1_readGap cX1_readGap 3 none :: ([.methodLink RX1 57 yX1_addSure, .instanceMethod yX1_addSure, .selects RX1 yX1_addSure yX1_addSure, .initialized RX1, .code yX1_addSure cX1_addSure 2 none, .fieldLink RX1 39 "BellBook$Book" "sure" "I", .fieldLink RX1 51 "BellBook$Book" "sureRow" "I", .fieldLink RX1 45 "BellBook$Book" "longestSure" "I", .methodLink RX1 64 Lib.Math.max.name, .static Lib.Math.max.name, .initialized "java/lang/Math", .code Lib.Math.max.name Lib.Math.max.code 2 (some .int), .methodLink RX1 70 yX1_growMaybe, .instanceMethod yX1_growMaybe, .selects RX1 yX1_growMaybe yX1_growMaybe, .code yX1_growMaybe cX1_growMaybe 2 none, .fieldLink RX1 54 "BellBook$Book" "maybeRow" "I", .fieldLink RX1 48 "BellBook$Book" "longestMaybe" "I", .methodLink RX1 61 yX1_addDark, .instanceMethod yX1_addDark, .selects RX1 yX1_addDark yX1_addDark, .code yX1_addDark cX1_addDark 2 none, .fieldLink RX1 42 "BellBook$Book" "dark" "I"] ++ wsX10)
def wsX1_readEntry : List Cond := .code yX1_readEntry cX1_readEntry 2 none :: ([.fieldLink RX1 36 "BellBook$Book" "seen" "I", .fieldLink RX1 51 "BellBook$Book" "sureRow" "I", .fieldLink RX1 54 "BellBook$Book" "maybeRow" "I", .methodLink RX1 57 yX1_addSure, .instanceMethod yX1_addSure, .selects RX1 yX1_addSure yX1_addSure, .initialized RX1, .code yX1_addSure cX1_addSure 2 none, .fieldLink RX1 39 "BellBook$Book" "sure" "I", .fieldLink RX1 45 "BellBook$Book" "longestSure" "I", .methodLink RX1 64 Lib.Math.max.name, .static Lib.Math.max.name, .initialized "java/lang/Math", .code Lib.Math.max.name Lib.Math.max.code 2 (some .int), .methodLink RX1 70 yX1_growMaybe, .instanceMethod yX1_growMaybe, .selects RX1 yX1_growMaybe yX1_growMaybe, .code yX1_growMaybe cX1_growMaybe 2 none, .fieldLink RX1 48 "BellBook$Book" "longestMaybe" "I"] ++ wsX10)
def wsX1_read_r1 : List Cond := [Cond.fieldLink RX1 21 "BellBook$Book" "count" "I", Cond.fieldLink RX1 15 "BellBook$Book" "men" "[I", Cond.fieldLink RX1 11 "BellBook$Book" "minutes" "[I", Cond.fieldLink RX1 18 "BellBook$Book" "places" "[I", Cond.methodLink RX1 25 yX1_forgetReading, Cond.instanceMethod yX1_forgetReading, Cond.selects RX1 yX1_forgetReading yX1_forgetReading, Cond.initialized RX1, Cond.code yX1_forgetReading cX1_forgetReading 1 none, Cond.fieldLink RX1 36 "BellBook$Book" "seen" "I", Cond.fieldLink RX1 39 "BellBook$Book" "sure" "I", Cond.fieldLink RX1 42 "BellBook$Book" "dark" "I", Cond.fieldLink RX1 45 "BellBook$Book" "longestSure" "I", Cond.fieldLink RX1 48 "BellBook$Book" "longestMaybe" "I", Cond.fieldLink RX1 51 "BellBook$Book" "sureRow" "I", Cond.fieldLink RX1 54 "BellBook$Book" "maybeRow" "I", Cond.methodLink RX1 28 yX1_readGap, Cond.instanceMethod yX1_readGap, Cond.selects RX1 yX1_readGap yX1_readGap, Cond.code yX1_readGap cX1_readGap 3 none, Cond.methodLink RX1 57 yX1_addSure, Cond.instanceMethod yX1_addSure, Cond.selects RX1 yX1_addSure yX1_addSure, Cond.code yX1_addSure cX1_addSure 2 none]
def wsX1_read_r2 : List Cond := [Cond.methodLink RX1 64 Lib.Math.max.name, Cond.static Lib.Math.max.name, Cond.initialized "java/lang/Math", Cond.code Lib.Math.max.name Lib.Math.max.code 2 (some .int), Cond.methodLink RX1 70 yX1_growMaybe, Cond.instanceMethod yX1_growMaybe, Cond.selects RX1 yX1_growMaybe yX1_growMaybe, Cond.code yX1_growMaybe cX1_growMaybe 2 none, Cond.methodLink RX1 61 yX1_addDark, Cond.instanceMethod yX1_addDark, Cond.selects RX1 yX1_addDark yX1_addDark, Cond.code yX1_addDark cX1_addDark 2 none, Cond.methodLink RX1 32 yX1_readEntry, Cond.instanceMethod yX1_readEntry, Cond.selects RX1 yX1_readEntry yX1_readEntry, Cond.code yX1_readEntry cX1_readEntry 2 none]
def wsX1_read : List Cond := .code yX1_read cX1_read 4 none :: ((wsX1_read_r1 ++ wsX1_read_r2) ++ wsX10)
def wsX1_verdict : List Cond := .code yX1_verdict cX1_verdict 2 (some .int) :: ([.fieldLink RX1 45 "BellBook$Book" "longestSure" "I", .fieldLink RX1 48 "BellBook$Book" "longestMaybe" "I"] ++ wsX10)
def wsX2_init : List Cond := .code yX2_init cX2_init 2 none :: ([.methodLink RX2 3 objectInit, .instanceMethod objectInit, .code objectInit ⟨#[0xb1]⟩ 1 none, .arrayClass .int, .fieldLink RX2 9 "BellBook$Crew" "where" "[I", .fieldLink RX2 15 "BellBook$Crew" "square" "[I", .fieldLink RX2 18 "BellBook$Crew" "hose" "[I", .fieldLink RX2 21 "BellBook$Crew" "stayed" "[I", .fieldLink RX2 24 "BellBook$Crew" "task" "[I", .fieldLink RX2 27 "BellBook$Crew" "length" "[I", .fieldLink RX2 30 "BellBook$Crew" "stay" "I", .fieldLink RX2 34 "BellBook$Crew" "bellSquare" "I"] ++ wsX20)
def wsX2_countBelow : List Cond := .code yX2_countBelow cX2_countBelow 3 (some .int) :: ([.fieldLink RX2 9 "BellBook$Crew" "where" "[I"] ++ wsX20)
def wsX2_anyOut : List Cond := .code yX2_anyOut cX2_anyOut 2 (some .boolean) :: ([.fieldLink RX2 9 "BellBook$Crew" "where" "[I"] ++ wsX20)
def wsX2_othersOn : List Cond := .code yX2_othersOn cX2_othersOn 5 (some .int) :: ([.fieldLink RX2 18 "BellBook$Crew" "hose" "[I"] ++ wsX20)
def wsX2_countOn : List Cond := .code yX2_countOn cX2_countOn 2 (some .int) :: ([.methodLink RX2 37 yX2_othersOn, .instanceMethod yX2_othersOn, .selects RX2 yX2_othersOn yX2_othersOn, .initialized RX2, .code yX2_othersOn cX2_othersOn 5 (some .int), .fieldLink RX2 18 "BellBook$Crew" "hose" "[I"] ++ wsX20)
def wsX2_bring : List Cond := .code yX2_bring cX2_bring 3 none :: ([.fieldLink RX2 9 "BellBook$Crew" "where" "[I", .fieldLink RX2 15 "BellBook$Crew" "square" "[I", .fieldLink RX2 18 "BellBook$Crew" "hose" "[I", .fieldLink RX2 21 "BellBook$Crew" "stayed" "[I"] ++ wsX20)
def wsX2_send : List Cond := .code yX2_send cX2_send 4 none :: ([.fieldLink RX2 9 "BellBook$Crew" "where" "[I", .fieldLink RX2 18 "BellBook$Crew" "hose" "[I", .fieldLink RX2 15 "BellBook$Crew" "square" "[I"] ++ wsX20)
def wsX2_countMinuteOut : List Cond := .code yX2_countMinuteOut cX2_countMinuteOut 2 (some .boolean) :: ([.fieldLink RX2 21 "BellBook$Crew" "stayed" "[I", .fieldLink RX2 18 "BellBook$Crew" "hose" "[I", .fieldLink RX2 30 "BellBook$Crew" "stay" "I", .methodLink RX2 41 yX2_countOn, .instanceMethod yX2_countOn, .selects RX2 yX2_countOn yX2_countOn, .initialized RX2, .code yX2_countOn cX2_countOn 2 (some .int), .methodLink RX2 37 yX2_othersOn, .instanceMethod yX2_othersOn, .selects RX2 yX2_othersOn yX2_othersOn, .code yX2_othersOn cX2_othersOn 5 (some .int)] ++ wsX20)
def wsX3_init : List Cond := .code yX3_init cX3_init 1 none :: ([.methodLink RX3 3 objectInit, .instanceMethod objectInit, .code objectInit ⟨#[0xb1]⟩ 1 none, .arrayClass .int, .fieldLink RX3 11 "BellBook$Line" "first" "[I", .fieldLink RX3 15 "BellBook$Line" "second" "[I", .fieldLink RX3 18 "BellBook$Line" "heardFirst" "[I", .fieldLink RX3 21 "BellBook$Line" "heardSecond" "[I", .fieldLink RX3 24 "BellBook$Line" "hearings" "I"] ++ wsX30)
def wsX7_within : List Cond := .code yX7_within cX7_within 3 (some .boolean) :: ([])
def wsX3_isTugs : List Cond := .code yX3_isTugs cX3_isTugs 2 (some .boolean) :: ([.static yX7_within, .initialized RX7, .code yX7_within cX7_within 3 (some .boolean)])
def wsX3_isHearing : List Cond := .code yX3_isHearing cX3_isHearing 2 (some .boolean) :: ([.static yX7_within, .initialized RX7, .code yX7_within cX7_within 3 (some .boolean)])
def wsX3_put : List Cond := .code yX3_put cX3_put 4 none :: ([.fieldLink RX3 11 "BellBook$Line" "first" "[I", .fieldLink RX3 15 "BellBook$Line" "second" "[I"] ++ wsX30)
def wsX3_isSet : List Cond := .code yX3_isSet cX3_isSet 2 (some .boolean) :: ([.fieldLink RX3 11 "BellBook$Line" "first" "[I"] ++ wsX30)
def wsX3_countSigns : List Cond := .code yX3_countSigns cX3_countSigns 3 (some .int) :: ([.methodLink RX3 32 yX3_isSet, .instanceMethod yX3_isSet, .selects RX3 yX3_isSet yX3_isSet, .initialized RX3, .code yX3_isSet cX3_isSet 2 (some .boolean), .fieldLink RX3 11 "BellBook$Line" "first" "[I"] ++ wsX30)
def wsX7_apart : List Cond := .code yX7_apart cX7_apart 4 (some .int) :: ([.methodLink RX7 347 Lib.Math.abs.name, .static Lib.Math.abs.name, .initialized "java/lang/Math", .code Lib.Math.abs.name Lib.Math.abs.code 1 (some .int)])
def wsX3_fromSign : List Cond := .code yX3_fromSign cX3_fromSign 4 (some .int) :: ([.fieldLink RX3 11 "BellBook$Line" "first" "[I", .fieldLink RX3 15 "BellBook$Line" "second" "[I", .static yX7_apart, .initialized RX7, .code yX7_apart cX7_apart 4 (some .int), .methodLink RX7 347 Lib.Math.abs.name, .static Lib.Math.abs.name, .initialized "java/lang/Math", .code Lib.Math.abs.name Lib.Math.abs.code 1 (some .int)] ++ wsX30)
def wsX3_signOf : List Cond := .code yX3_signOf cX3_signOf 4 (some .int) :: ([.methodLink RX3 32 yX3_isSet, .instanceMethod yX3_isSet, .selects RX3 yX3_isSet yX3_isSet, .initialized RX3, .code yX3_isSet cX3_isSet 2 (some .boolean), .fieldLink RX3 11 "BellBook$Line" "first" "[I", .methodLink RX3 40 yX3_fromSign, .instanceMethod yX3_fromSign, .selects RX3 yX3_fromSign yX3_fromSign, .code yX3_fromSign cX3_fromSign 4 (some .int), .fieldLink RX3 15 "BellBook$Line" "second" "[I", .static yX7_apart, .initialized RX7, .code yX7_apart cX7_apart 4 (some .int), .methodLink RX7 347 Lib.Math.abs.name, .static Lib.Math.abs.name, .initialized "java/lang/Math", .code Lib.Math.abs.name Lib.Math.abs.code 1 (some .int)] ++ wsX30)
def wsX3_onlyOneApart : List Cond := .code yX3_onlyOneApart cX3_onlyOneApart 5 (some .int) :: ([.methodLink RX3 32 yX3_isSet, .instanceMethod yX3_isSet, .selects RX3 yX3_isSet yX3_isSet, .initialized RX3, .code yX3_isSet cX3_isSet 2 (some .boolean), .fieldLink RX3 11 "BellBook$Line" "first" "[I", .methodLink RX3 40 yX3_fromSign, .instanceMethod yX3_fromSign, .selects RX3 yX3_fromSign yX3_fromSign, .code yX3_fromSign cX3_fromSign 4 (some .int), .fieldLink RX3 15 "BellBook$Line" "second" "[I", .static yX7_apart, .initialized RX7, .code yX7_apart cX7_apart 4 (some .int), .methodLink RX7 347 Lib.Math.abs.name, .static Lib.Math.abs.name, .initialized "java/lang/Math", .code Lib.Math.abs.name Lib.Math.abs.code 1 (some .int)] ++ wsX30)
def wsX3_addHearing : List Cond := .code yX3_addHearing cX3_addHearing 3 (some .int) :: ([.fieldLink RX3 18 "BellBook$Line" "heardFirst" "[I", .fieldLink RX3 24 "BellBook$Line" "hearings" "I", .fieldLink RX3 21 "BellBook$Line" "heardSecond" "[I"] ++ wsX30)
def wsX3_fromRow : List Cond := .code yX3_fromRow cX3_fromRow 4 (some .int) :: ([.fieldLink RX3 24 "BellBook$Line" "hearings" "I", .fieldLink RX3 18 "BellBook$Line" "heardFirst" "[I", .fieldLink RX3 21 "BellBook$Line" "heardSecond" "[I", .methodLink RX3 40 yX3_fromSign, .instanceMethod yX3_fromSign, .selects RX3 yX3_fromSign yX3_fromSign, .initialized RX3, .code yX3_fromSign cX3_fromSign 4 (some .int), .fieldLink RX3 11 "BellBook$Line" "first" "[I", .fieldLink RX3 15 "BellBook$Line" "second" "[I", .static yX7_apart, .initialized RX7, .code yX7_apart cX7_apart 4 (some .int), .methodLink RX7 347 Lib.Math.abs.name, .static Lib.Math.abs.name, .initialized "java/lang/Math", .code Lib.Math.abs.name Lib.Math.abs.code 1 (some .int)] ++ wsX30)
def wsX3_nearestToRow_r1 : List Cond := [Cond.methodLink RX3 32 yX3_isSet, Cond.instanceMethod yX3_isSet, Cond.selects RX3 yX3_isSet yX3_isSet, Cond.initialized RX3, Cond.code yX3_isSet cX3_isSet 2 (some .boolean), Cond.fieldLink RX3 11 "BellBook$Line" "first" "[I", Cond.methodLink RX3 44 yX3_fromRow, Cond.instanceMethod yX3_fromRow, Cond.selects RX3 yX3_fromRow yX3_fromRow, Cond.code yX3_fromRow cX3_fromRow 4 (some .int), Cond.fieldLink RX3 24 "BellBook$Line" "hearings" "I", Cond.fieldLink RX3 18 "BellBook$Line" "heardFirst" "[I", Cond.fieldLink RX3 21 "BellBook$Line" "heardSecond" "[I", Cond.methodLink RX3 40 yX3_fromSign, Cond.instanceMethod yX3_fromSign, Cond.selects RX3 yX3_fromSign yX3_fromSign, Cond.code yX3_fromSign cX3_fromSign 4 (some .int), Cond.fieldLink RX3 15 "BellBook$Line" "second" "[I", Cond.static yX7_apart, Cond.initialized RX7, Cond.code yX7_apart cX7_apart 4 (some .int), Cond.methodLink RX7 347 Lib.Math.abs.name, Cond.static Lib.Math.abs.name, Cond.initialized "java/lang/Math"]
def wsX3_nearestToRow_r2 : List Cond := [Cond.code Lib.Math.abs.name Lib.Math.abs.code 1 (some .int)]
def wsX3_nearestToRow : List Cond := .code yX3_nearestToRow cX3_nearestToRow 5 (some .int) :: ((wsX3_nearestToRow_r1 ++ wsX3_nearestToRow_r2) ++ wsX30)
def wsX3_fromSignsBehind : List Cond := .code yX3_fromSignsBehind cX3_fromSignsBehind 4 (some .int) :: ([.fieldLink RX3 11 "BellBook$Line" "first" "[I", .fieldLink RX3 15 "BellBook$Line" "second" "[I", .methodLink RX3 51 Lib.Math.min.name, .static Lib.Math.min.name, .initialized "java/lang/Math", .code Lib.Math.min.name Lib.Math.min.code 2 (some .int), .methodLink RX3 32 yX3_isSet, .instanceMethod yX3_isSet, .selects RX3 yX3_isSet yX3_isSet, .initialized RX3, .code yX3_isSet cX3_isSet 2 (some .boolean), .methodLink RX3 40 yX3_fromSign, .instanceMethod yX3_fromSign, .selects RX3 yX3_fromSign yX3_fromSign, .code yX3_fromSign cX3_fromSign 4 (some .int), .static yX7_apart, .initialized RX7, .code yX7_apart cX7_apart 4 (some .int), .methodLink RX7 347 Lib.Math.abs.name, .static Lib.Math.abs.name, .code Lib.Math.abs.name Lib.Math.abs.code 1 (some .int)] ++ wsX30)
def wsX3_leastApart_r1 : List Cond := [Cond.methodLink RX3 51 Lib.Math.min.name, Cond.static Lib.Math.min.name, Cond.initialized "java/lang/Math", Cond.code Lib.Math.min.name Lib.Math.min.code 2 (some .int), Cond.methodLink RX3 32 yX3_isSet, Cond.instanceMethod yX3_isSet, Cond.selects RX3 yX3_isSet yX3_isSet, Cond.initialized RX3, Cond.code yX3_isSet cX3_isSet 2 (some .boolean), Cond.fieldLink RX3 11 "BellBook$Line" "first" "[I", Cond.methodLink RX3 48 yX3_fromSignsBehind, Cond.instanceMethod yX3_fromSignsBehind, Cond.selects RX3 yX3_fromSignsBehind yX3_fromSignsBehind, Cond.code yX3_fromSignsBehind cX3_fromSignsBehind 4 (some .int), Cond.fieldLink RX3 15 "BellBook$Line" "second" "[I", Cond.methodLink RX3 40 yX3_fromSign, Cond.instanceMethod yX3_fromSign, Cond.selects RX3 yX3_fromSign yX3_fromSign, Cond.code yX3_fromSign cX3_fromSign 4 (some .int), Cond.static yX7_apart, Cond.initialized RX7, Cond.code yX7_apart cX7_apart 4 (some .int), Cond.methodLink RX7 347 Lib.Math.abs.name, Cond.static Lib.Math.abs.name]
def wsX3_leastApart_r2 : List Cond := [Cond.code Lib.Math.abs.name Lib.Math.abs.code 1 (some .int)]
def wsX3_leastApart : List Cond := .code yX3_leastApart cX3_leastApart 3 (some .int) :: ((wsX3_leastApart_r1 ++ wsX3_leastApart_r2) ++ wsX30)
def wsX3_isFarFromAll : List Cond := .code yX3_isFarFromAll cX3_isFarFromAll 5 (some .boolean) :: ([.methodLink RX3 32 yX3_isSet, .instanceMethod yX3_isSet, .selects RX3 yX3_isSet yX3_isSet, .initialized RX3, .code yX3_isSet cX3_isSet 2 (some .boolean), .fieldLink RX3 11 "BellBook$Line" "first" "[I", .methodLink RX3 40 yX3_fromSign, .instanceMethod yX3_fromSign, .selects RX3 yX3_fromSign yX3_fromSign, .code yX3_fromSign cX3_fromSign 4 (some .int), .fieldLink RX3 15 "BellBook$Line" "second" "[I", .static yX7_apart, .initialized RX7, .code yX7_apart cX7_apart 4 (some .int), .methodLink RX7 347 Lib.Math.abs.name, .static Lib.Math.abs.name, .initialized "java/lang/Math", .code Lib.Math.abs.name Lib.Math.abs.code 1 (some .int)] ++ wsX30)
def wsX3_firstFree : List Cond := .code yX3_firstFree cX3_firstFree 4 (some .int) :: ([.methodLink RX3 57 yX3_isFarFromAll, .instanceMethod yX3_isFarFromAll, .selects RX3 yX3_isFarFromAll yX3_isFarFromAll, .initialized RX3, .code yX3_isFarFromAll cX3_isFarFromAll 5 (some .boolean), .methodLink RX3 32 yX3_isSet, .instanceMethod yX3_isSet, .selects RX3 yX3_isSet yX3_isSet, .code yX3_isSet cX3_isSet 2 (some .boolean), .fieldLink RX3 11 "BellBook$Line" "first" "[I", .methodLink RX3 40 yX3_fromSign, .instanceMethod yX3_fromSign, .selects RX3 yX3_fromSign yX3_fromSign, .code yX3_fromSign cX3_fromSign 4 (some .int), .fieldLink RX3 15 "BellBook$Line" "second" "[I", .static yX7_apart, .initialized RX7, .code yX7_apart cX7_apart 4 (some .int), .methodLink RX7 347 Lib.Math.abs.name, .static Lib.Math.abs.name, .initialized "java/lang/Math", .code Lib.Math.abs.name Lib.Math.abs.code 1 (some .int)] ++ wsX30)
def wsX4_init : List Cond := .code yX4_init cX4_init 1 none :: ([.methodLink RX4 3 objectInit, .instanceMethod objectInit, .code objectInit ⟨#[0xb1]⟩ 1 none, .arrayClass .int, .fieldLink RX4 11 "BellBook$Plan" "order" "[I", .fieldLink RX4 17 "BellBook$Plan" "when" "[I", .fieldLink RX4 20 "BellBook$Plan" "latest" "[I", .fieldLink RX4 23 "BellBook$Plan" "count" "I", .fieldLink RX4 27 "BellBook$Plan" "hope" "I", .fieldLink RX4 30 "BellBook$Plan" "toil" "I"] ++ wsX40)
def wsX5_moment : List Cond := .code yX5_moment cX5_moment 2 (some .int) :: ([])
def wsX5_lastMoment : List Cond := .code yX5_lastMoment cX5_lastMoment 1 (some .int) :: ([.fieldLink RX5 13 "BellBook$Tides" "count" "I", .fieldLink RX5 9 "BellBook$Tides" "length" "[I", .methodLink RX5 17 yX5_moment, .static yX5_moment, .initialized RX5, .code yX5_moment cX5_moment 2 (some .int)] ++ wsX50)
def wsX7_bit : List Cond := .code yX7_bit cX7_bit 2 (some .int) :: ([])
def wsX4_mayBeFirst : List Cond := .code yX4_mayBeFirst cX4_mayBeFirst 3 (some .boolean) :: ([.fieldLink RX4 86 "BellBook$Wreck" "under" "[I", .static yX7_bit, .initialized RX7, .code yX7_bit cX7_bit 2 (some .int)] ++ wsX60)
def wsX6_left : List Cond := .code yX6_left cX6_left 2 (some .int) :: ([.fieldLink RX6 16 "BellBook$Wreck" "work" "[I", .fieldLink RX6 22 "BellBook$Wreck" "worked" "[I"] ++ wsX60)
def wsX5_tideAt : List Cond := .code yX5_tideAt cX5_tideAt 1 (some .int) :: ([])
def wsX5_latestBegin : List Cond := .code yX5_latestBegin cX5_latestBegin 4 (some .int) :: ([.fieldLink RX5 9 "BellBook$Tides" "length" "[I", .methodLink RX5 21 yX5_tideAt, .static yX5_tideAt, .initialized RX5, .code yX5_tideAt cX5_tideAt 1 (some .int), .methodLink RX5 17 yX5_moment, .static yX5_moment, .code yX5_moment cX5_moment 2 (some .int)] ++ wsX50)
def wsX4_latestOf_r1 : List Cond := [Cond.fieldLink RX4 61 "BellBook$Wreck" "count" "I", Cond.fieldLink RX4 20 "BellBook$Plan" "latest" "[I", Cond.fieldLink RX4 51 "BellBook$Wreck" "tides" "LBellBook$Tides;", Cond.methodLink RX4 78 Lib.Math.max.name, Cond.static Lib.Math.max.name, Cond.initialized "java/lang/Math", Cond.code Lib.Math.max.name Lib.Math.max.code 2 (some .int), Cond.methodLink RX4 66 yX4_mayBeFirst, Cond.static yX4_mayBeFirst, Cond.initialized RX4, Cond.code yX4_mayBeFirst cX4_mayBeFirst 3 (some .boolean), Cond.fieldLink RX4 86 "BellBook$Wreck" "under" "[I", Cond.static yX7_bit, Cond.initialized RX7, Cond.code yX7_bit cX7_bit 2 (some .int), Cond.methodLink RX4 70 yX6_left, Cond.instanceMethod yX6_left, Cond.selects RX6 yX6_left yX6_left, Cond.initialized RX6, Cond.code yX6_left cX6_left 2 (some .int), Cond.fieldLink RX6 16 "BellBook$Wreck" "work" "[I", Cond.fieldLink RX6 22 "BellBook$Wreck" "worked" "[I", Cond.methodLink RX4 74 yX5_latestBegin, Cond.instanceMethod yX5_latestBegin]
def wsX4_latestOf_r2 : List Cond := [Cond.selects RX5 yX5_latestBegin yX5_latestBegin, Cond.initialized RX5, Cond.code yX5_latestBegin cX5_latestBegin 4 (some .int), Cond.fieldLink RX5 9 "BellBook$Tides" "length" "[I", Cond.methodLink RX5 21 yX5_tideAt, Cond.static yX5_tideAt, Cond.code yX5_tideAt cX5_tideAt 1 (some .int), Cond.methodLink RX5 17 yX5_moment, Cond.static yX5_moment, Cond.code yX5_moment cX5_moment 2 (some .int)]
def wsX4_latestOf : List Cond := .code yX4_latestOf cX4_latestOf 6 (some .int) :: ((wsX4_latestOf_r1 ++ wsX4_latestOf_r2) ++ wsX60 ++ wsX40 ++ wsX50)
def wsX4_findLatest_r1 : List Cond := [Cond.fieldLink RX4 45 "BellBook$Wreck" "raised" "I", Cond.fieldLink RX4 48 "BellBook$Wreck" "tangled" "I", Cond.fieldLink RX4 20 "BellBook$Plan" "latest" "[I", Cond.fieldLink RX4 51 "BellBook$Wreck" "tides" "LBellBook$Tides;", Cond.fieldLink RX4 61 "BellBook$Wreck" "count" "I", Cond.methodLink RX4 55 yX5_lastMoment, Cond.instanceMethod yX5_lastMoment, Cond.selects RX5 yX5_lastMoment yX5_lastMoment, Cond.initialized RX5, Cond.code yX5_lastMoment cX5_lastMoment 1 (some .int), Cond.fieldLink RX5 13 "BellBook$Tides" "count" "I", Cond.fieldLink RX5 9 "BellBook$Tides" "length" "[I", Cond.methodLink RX5 17 yX5_moment, Cond.static yX5_moment, Cond.code yX5_moment cX5_moment 2 (some .int), Cond.methodLink RX4 62 yX4_latestOf, Cond.instanceMethod yX4_latestOf, Cond.selects RX4 yX4_latestOf yX4_latestOf, Cond.initialized RX4, Cond.code yX4_latestOf cX4_latestOf 6 (some .int), Cond.methodLink RX4 78 Lib.Math.max.name, Cond.static Lib.Math.max.name, Cond.initialized "java/lang/Math", Cond.code Lib.Math.max.name Lib.Math.max.code 2 (some .int)]
def wsX4_findLatest_r2 : List Cond := [Cond.methodLink RX4 66 yX4_mayBeFirst, Cond.static yX4_mayBeFirst, Cond.code yX4_mayBeFirst cX4_mayBeFirst 3 (some .boolean), Cond.fieldLink RX4 86 "BellBook$Wreck" "under" "[I", Cond.static yX7_bit, Cond.initialized RX7, Cond.code yX7_bit cX7_bit 2 (some .int), Cond.methodLink RX4 70 yX6_left, Cond.instanceMethod yX6_left, Cond.selects RX6 yX6_left yX6_left, Cond.initialized RX6, Cond.code yX6_left cX6_left 2 (some .int), Cond.fieldLink RX6 16 "BellBook$Wreck" "work" "[I", Cond.fieldLink RX6 22 "BellBook$Wreck" "worked" "[I", Cond.methodLink RX4 74 yX5_latestBegin, Cond.instanceMethod yX5_latestBegin, Cond.selects RX5 yX5_latestBegin yX5_latestBegin, Cond.code yX5_latestBegin cX5_latestBegin 4 (some .int), Cond.methodLink RX5 21 yX5_tideAt, Cond.static yX5_tideAt, Cond.code yX5_tideAt cX5_tideAt 1 (some .int)]
def wsX4_findLatest : List Cond := .code yX4_findLatest cX4_findLatest 4 none :: ((wsX4_findLatest_r1 ++ wsX4_findLatest_r2) ++ wsX60 ++ wsX40 ++ wsX50)
def wsX6_isWhole : List Cond := .code yX6_isWhole cX6_isWhole 3 (some .boolean) :: ([.fieldLink RX6 42 "BellBook$Wreck" "count" "I", .fieldLink RX6 25 "BellBook$Wreck" "under" "[I", .fieldLink RX6 46 "BellBook$Wreck" "raised" "I", .static yX7_bit, .initialized RX7, .code yX7_bit cX7_bit 2 (some .int)] ++ wsX60)
def wsX4_hopeOf : List Cond := .code yX4_hopeOf cX4_hopeOf 4 (some .int) :: ([.fieldLink RX4 61 "BellBook$Wreck" "count" "I", .fieldLink RX4 99 "BellBook$Wreck" "worth" "[I", .fieldLink RX4 102 "BellBook$Wreck" "odds" "[I", .static yX7_bit, .initialized RX7, .code yX7_bit cX7_bit 2 (some .int)] ++ wsX60)
def wsX4_toilOf : List Cond := .code yX4_toilOf cX4_toilOf 4 (some .int) :: ([.fieldLink RX4 61 "BellBook$Wreck" "count" "I", .static yX7_bit, .initialized RX7, .code yX7_bit cX7_bit 2 (some .int), .methodLink RX4 70 yX6_left, .instanceMethod yX6_left, .selects RX6 yX6_left yX6_left, .initialized RX6, .code yX6_left cX6_left 2 (some .int), .fieldLink RX6 16 "BellBook$Wreck" "work" "[I", .fieldLink RX6 22 "BellBook$Wreck" "worked" "[I"] ++ wsX60)
def wsX4_chooseSet_r1 : List Cond := [Cond.fieldLink RX4 27 "BellBook$Plan" "hope" "I", Cond.fieldLink RX4 30 "BellBook$Plan" "toil" "I", Cond.fieldLink RX4 61 "BellBook$Wreck" "count" "I", Cond.fieldLink RX4 20 "BellBook$Plan" "latest" "[I", Cond.methodLink RX4 89 yX6_isWhole, Cond.instanceMethod yX6_isWhole, Cond.selects RX6 yX6_isWhole yX6_isWhole, Cond.initialized RX6, Cond.code yX6_isWhole cX6_isWhole 3 (some .boolean), Cond.fieldLink RX6 42 "BellBook$Wreck" "count" "I", Cond.fieldLink RX6 25 "BellBook$Wreck" "under" "[I", Cond.fieldLink RX6 46 "BellBook$Wreck" "raised" "I", Cond.static yX7_bit, Cond.initialized RX7, Cond.code yX7_bit cX7_bit 2 (some .int), Cond.methodLink RX4 93 yX4_hopeOf, Cond.static yX4_hopeOf, Cond.initialized RX4, Cond.code yX4_hopeOf cX4_hopeOf 4 (some .int), Cond.fieldLink RX4 99 "BellBook$Wreck" "worth" "[I", Cond.fieldLink RX4 102 "BellBook$Wreck" "odds" "[I", Cond.methodLink RX4 96 yX4_toilOf, Cond.static yX4_toilOf, Cond.code yX4_toilOf cX4_toilOf 4 (some .int)]
def wsX4_chooseSet_r2 : List Cond := [Cond.methodLink RX4 70 yX6_left, Cond.instanceMethod yX6_left, Cond.selects RX6 yX6_left yX6_left, Cond.code yX6_left cX6_left 2 (some .int), Cond.fieldLink RX6 16 "BellBook$Wreck" "work" "[I", Cond.fieldLink RX6 22 "BellBook$Wreck" "worked" "[I"]
def wsX4_chooseSet : List Cond := .code yX4_chooseSet cX4_chooseSet 6 (some .int) :: ((wsX4_chooseSet_r1 ++ wsX4_chooseSet_r2) ++ wsX40 ++ wsX60)
def wsX5_soonestEnd : List Cond := .code yX5_soonestEnd cX5_soonestEnd 5 (some .int) :: ([.fieldLink RX5 13 "BellBook$Tides" "count" "I", .fieldLink RX5 9 "BellBook$Tides" "length" "[I", .methodLink RX5 21 yX5_tideAt, .static yX5_tideAt, .initialized RX5, .code yX5_tideAt cX5_tideAt 1 (some .int), .methodLink RX5 17 yX5_moment, .static yX5_moment, .code yX5_moment cX5_moment 2 (some .int)] ++ wsX50)
def wsX4_nextOf_r1 : List Cond := [Cond.fieldLink RX4 61 "BellBook$Wreck" "count" "I", Cond.fieldLink RX4 51 "BellBook$Wreck" "tides" "LBellBook$Tides;", Cond.fieldLink RX4 20 "BellBook$Plan" "latest" "[I", Cond.methodLink RX4 66 yX4_mayBeFirst, Cond.static yX4_mayBeFirst, Cond.initialized RX4, Cond.code yX4_mayBeFirst cX4_mayBeFirst 3 (some .boolean), Cond.fieldLink RX4 86 "BellBook$Wreck" "under" "[I", Cond.static yX7_bit, Cond.initialized RX7, Cond.code yX7_bit cX7_bit 2 (some .int), Cond.methodLink RX4 70 yX6_left, Cond.instanceMethod yX6_left, Cond.selects RX6 yX6_left yX6_left, Cond.initialized RX6, Cond.code yX6_left cX6_left 2 (some .int), Cond.fieldLink RX6 16 "BellBook$Wreck" "work" "[I", Cond.fieldLink RX6 22 "BellBook$Wreck" "worked" "[I", Cond.methodLink RX4 109 yX5_soonestEnd, Cond.instanceMethod yX5_soonestEnd, Cond.selects RX5 yX5_soonestEnd yX5_soonestEnd, Cond.initialized RX5, Cond.code yX5_soonestEnd cX5_soonestEnd 5 (some .int), Cond.fieldLink RX5 13 "BellBook$Tides" "count" "I"]
def wsX4_nextOf_r2 : List Cond := [Cond.fieldLink RX5 9 "BellBook$Tides" "length" "[I", Cond.methodLink RX5 21 yX5_tideAt, Cond.static yX5_tideAt, Cond.code yX5_tideAt cX5_tideAt 1 (some .int), Cond.methodLink RX5 17 yX5_moment, Cond.static yX5_moment, Cond.code yX5_moment cX5_moment 2 (some .int)]
def wsX4_nextOf : List Cond := .code yX4_nextOf cX4_nextOf 6 (some .int) :: ((wsX4_nextOf_r1 ++ wsX4_nextOf_r2) ++ wsX60 ++ wsX40 ++ wsX50)
def wsX4_setInOrder_r1 : List Cond := [Cond.fieldLink RX4 23 "BellBook$Plan" "count" "I", Cond.fieldLink RX4 51 "BellBook$Wreck" "tides" "LBellBook$Tides;", Cond.fieldLink RX4 11 "BellBook$Plan" "order" "[I", Cond.fieldLink RX4 17 "BellBook$Plan" "when" "[I", Cond.methodLink RX4 105 yX4_nextOf, Cond.instanceMethod yX4_nextOf, Cond.selects RX4 yX4_nextOf yX4_nextOf, Cond.initialized RX4, Cond.code yX4_nextOf cX4_nextOf 6 (some .int), Cond.fieldLink RX4 61 "BellBook$Wreck" "count" "I", Cond.fieldLink RX4 20 "BellBook$Plan" "latest" "[I", Cond.methodLink RX4 66 yX4_mayBeFirst, Cond.static yX4_mayBeFirst, Cond.code yX4_mayBeFirst cX4_mayBeFirst 3 (some .boolean), Cond.fieldLink RX4 86 "BellBook$Wreck" "under" "[I", Cond.static yX7_bit, Cond.initialized RX7, Cond.code yX7_bit cX7_bit 2 (some .int), Cond.methodLink RX4 70 yX6_left, Cond.instanceMethod yX6_left, Cond.selects RX6 yX6_left yX6_left, Cond.initialized RX6, Cond.code yX6_left cX6_left 2 (some .int), Cond.fieldLink RX6 16 "BellBook$Wreck" "work" "[I"]
def wsX4_setInOrder_r2 : List Cond := [Cond.fieldLink RX6 22 "BellBook$Wreck" "worked" "[I", Cond.methodLink RX4 109 yX5_soonestEnd, Cond.instanceMethod yX5_soonestEnd, Cond.selects RX5 yX5_soonestEnd yX5_soonestEnd, Cond.initialized RX5, Cond.code yX5_soonestEnd cX5_soonestEnd 5 (some .int), Cond.fieldLink RX5 13 "BellBook$Tides" "count" "I", Cond.fieldLink RX5 9 "BellBook$Tides" "length" "[I", Cond.methodLink RX5 21 yX5_tideAt, Cond.static yX5_tideAt, Cond.code yX5_tideAt cX5_tideAt 1 (some .int), Cond.methodLink RX5 17 yX5_moment, Cond.static yX5_moment, Cond.code yX5_moment cX5_moment 2 (some .int), Cond.methodLink RX4 112 yX5_tideAt]
def wsX4_setInOrder : List Cond := .code yX4_setInOrder cX4_setInOrder 7 none :: ((wsX4_setInOrder_r1 ++ wsX4_setInOrder_r2) ++ wsX40 ++ wsX60 ++ wsX50)
def wsX4_make_r1 : List Cond := [Cond.methodLink RX4 33 yX4_findLatest, Cond.instanceMethod yX4_findLatest, Cond.selects RX4 yX4_findLatest yX4_findLatest, Cond.initialized RX4, Cond.code yX4_findLatest cX4_findLatest 4 none, Cond.fieldLink RX4 45 "BellBook$Wreck" "raised" "I", Cond.fieldLink RX4 48 "BellBook$Wreck" "tangled" "I", Cond.fieldLink RX4 20 "BellBook$Plan" "latest" "[I", Cond.fieldLink RX4 51 "BellBook$Wreck" "tides" "LBellBook$Tides;", Cond.fieldLink RX4 61 "BellBook$Wreck" "count" "I", Cond.methodLink RX4 55 yX5_lastMoment, Cond.instanceMethod yX5_lastMoment, Cond.selects RX5 yX5_lastMoment yX5_lastMoment, Cond.initialized RX5, Cond.code yX5_lastMoment cX5_lastMoment 1 (some .int), Cond.fieldLink RX5 13 "BellBook$Tides" "count" "I", Cond.fieldLink RX5 9 "BellBook$Tides" "length" "[I", Cond.methodLink RX5 17 yX5_moment, Cond.static yX5_moment, Cond.code yX5_moment cX5_moment 2 (some .int), Cond.methodLink RX4 62 yX4_latestOf, Cond.instanceMethod yX4_latestOf, Cond.selects RX4 yX4_latestOf yX4_latestOf, Cond.code yX4_latestOf cX4_latestOf 6 (some .int)]
def wsX4_make_r2 : List Cond := [Cond.methodLink RX4 78 Lib.Math.max.name, Cond.static Lib.Math.max.name, Cond.initialized "java/lang/Math", Cond.code Lib.Math.max.name Lib.Math.max.code 2 (some .int), Cond.methodLink RX4 66 yX4_mayBeFirst, Cond.static yX4_mayBeFirst, Cond.code yX4_mayBeFirst cX4_mayBeFirst 3 (some .boolean), Cond.fieldLink RX4 86 "BellBook$Wreck" "under" "[I", Cond.static yX7_bit, Cond.initialized RX7, Cond.code yX7_bit cX7_bit 2 (some .int), Cond.methodLink RX4 70 yX6_left, Cond.instanceMethod yX6_left, Cond.selects RX6 yX6_left yX6_left, Cond.initialized RX6, Cond.code yX6_left cX6_left 2 (some .int), Cond.fieldLink RX6 16 "BellBook$Wreck" "work" "[I", Cond.fieldLink RX6 22 "BellBook$Wreck" "worked" "[I", Cond.methodLink RX4 74 yX5_latestBegin, Cond.instanceMethod yX5_latestBegin, Cond.selects RX5 yX5_latestBegin yX5_latestBegin, Cond.code yX5_latestBegin cX5_latestBegin 4 (some .int), Cond.methodLink RX5 21 yX5_tideAt, Cond.static yX5_tideAt]
def wsX4_make_r3 : List Cond := [Cond.code yX5_tideAt cX5_tideAt 1 (some .int), Cond.methodLink RX4 37 yX4_chooseSet, Cond.instanceMethod yX4_chooseSet, Cond.selects RX4 yX4_chooseSet yX4_chooseSet, Cond.code yX4_chooseSet cX4_chooseSet 6 (some .int), Cond.fieldLink RX4 27 "BellBook$Plan" "hope" "I", Cond.fieldLink RX4 30 "BellBook$Plan" "toil" "I", Cond.methodLink RX4 89 yX6_isWhole, Cond.instanceMethod yX6_isWhole, Cond.selects RX6 yX6_isWhole yX6_isWhole, Cond.code yX6_isWhole cX6_isWhole 3 (some .boolean), Cond.fieldLink RX6 42 "BellBook$Wreck" "count" "I", Cond.fieldLink RX6 25 "BellBook$Wreck" "under" "[I", Cond.fieldLink RX6 46 "BellBook$Wreck" "raised" "I", Cond.methodLink RX4 93 yX4_hopeOf, Cond.static yX4_hopeOf, Cond.code yX4_hopeOf cX4_hopeOf 4 (some .int), Cond.fieldLink RX4 99 "BellBook$Wreck" "worth" "[I", Cond.fieldLink RX4 102 "BellBook$Wreck" "odds" "[I", Cond.methodLink RX4 96 yX4_toilOf, Cond.static yX4_toilOf, Cond.code yX4_toilOf cX4_toilOf 4 (some .int), Cond.methodLink RX4 41 yX4_setInOrder, Cond.instanceMethod yX4_setInOrder]
def wsX4_make_r4 : List Cond := [Cond.selects RX4 yX4_setInOrder yX4_setInOrder, Cond.code yX4_setInOrder cX4_setInOrder 7 none, Cond.fieldLink RX4 23 "BellBook$Plan" "count" "I", Cond.fieldLink RX4 11 "BellBook$Plan" "order" "[I", Cond.fieldLink RX4 17 "BellBook$Plan" "when" "[I", Cond.methodLink RX4 105 yX4_nextOf, Cond.instanceMethod yX4_nextOf, Cond.selects RX4 yX4_nextOf yX4_nextOf, Cond.code yX4_nextOf cX4_nextOf 6 (some .int), Cond.methodLink RX4 109 yX5_soonestEnd, Cond.instanceMethod yX5_soonestEnd, Cond.selects RX5 yX5_soonestEnd yX5_soonestEnd, Cond.code yX5_soonestEnd cX5_soonestEnd 5 (some .int), Cond.methodLink RX4 112 yX5_tideAt]
def wsX4_make : List Cond := .code yX4_make cX4_make 2 none :: ((wsX4_make_r1 ++ (wsX4_make_r2 ++ (wsX4_make_r3 ++ wsX4_make_r4))) ++ wsX60 ++ wsX40 ++ wsX50)
def wsX5_init : List Cond := .code yX5_init cX5_init 1 none :: ([.methodLink RX5 1 objectInit, .instanceMethod objectInit, .code objectInit ⟨#[0xb1]⟩ 1 none, .arrayClass .int, .fieldLink RX5 9 "BellBook$Tides" "length" "[I", .fieldLink RX5 13 "BellBook$Tides" "count" "I"] ++ wsX50)
def wsX5_add : List Cond := .code yX5_add cX5_add 2 (some .int) :: ([.fieldLink RX5 9 "BellBook$Tides" "length" "[I", .fieldLink RX5 13 "BellBook$Tides" "count" "I"] ++ wsX50)
def wsX6_init_r1 : List Cond := [Cond.methodLink RX6 1 objectInit, Cond.instanceMethod objectInit, Cond.code objectInit ⟨#[0xb1]⟩ 1 none, Cond.arrayClass .int, Cond.fieldLink RX6 9 "BellBook$Wreck" "square" "[I", Cond.fieldLink RX6 13 "BellBook$Wreck" "worth" "[I", Cond.fieldLink RX6 16 "BellBook$Wreck" "work" "[I", Cond.fieldLink RX6 19 "BellBook$Wreck" "odds" "[I", Cond.fieldLink RX6 22 "BellBook$Wreck" "worked" "[I", Cond.fieldLink RX6 25 "BellBook$Wreck" "under" "[I", Cond.classLink RX6 28 RX5, Cond.instantiable RX5 2, Cond.initialized RX5, Cond.fieldLink RX6 31 "BellBook$Wreck" "tides" "LBellBook$Tides;", Cond.classLink RX6 35 RX4, Cond.instantiable RX4 6, Cond.initialized RX4, Cond.fieldLink RX6 38 "BellBook$Wreck" "plan" "LBellBook$Plan;", Cond.fieldLink RX6 42 "BellBook$Wreck" "count" "I", Cond.fieldLink RX6 46 "BellBook$Wreck" "raised" "I", Cond.fieldLink RX6 49 "BellBook$Wreck" "tangled" "I", Cond.fieldLink RX6 52 "BellBook$Wreck" "planStands" "Z", Cond.methodLink RX6 30 yX5_init, Cond.instanceMethod yX5_init]
def wsX6_init_r2 : List Cond := [Cond.code yX5_init cX5_init 1 none, Cond.methodLink RX5 1 objectInit, Cond.fieldLink RX5 9 "BellBook$Tides" "length" "[I", Cond.fieldLink RX5 13 "BellBook$Tides" "count" "I", Cond.methodLink RX6 37 yX4_init, Cond.instanceMethod yX4_init, Cond.code yX4_init cX4_init 1 none, Cond.methodLink RX4 3 objectInit, Cond.fieldLink RX4 11 "BellBook$Plan" "order" "[I", Cond.fieldLink RX4 17 "BellBook$Plan" "when" "[I", Cond.fieldLink RX4 20 "BellBook$Plan" "latest" "[I", Cond.fieldLink RX4 23 "BellBook$Plan" "count" "I", Cond.fieldLink RX4 27 "BellBook$Plan" "hope" "I", Cond.fieldLink RX4 30 "BellBook$Plan" "toil" "I"]
def wsX6_init : List Cond := .code yX6_init cX6_init 1 none :: ((wsX6_init_r1 ++ wsX6_init_r2) ++ wsX60 ++ wsX50 ++ wsX40)
def wsX6_has : List Cond := .code yX6_has cX6_has 2 (some .boolean) :: ([.fieldLink RX6 42 "BellBook$Wreck" "count" "I", .static yX7_within, .initialized RX7, .code yX7_within cX7_within 3 (some .boolean)] ++ wsX60)
def wsX6_add : List Cond := .code yX6_add cX6_add 6 (some .int) :: ([.fieldLink RX6 42 "BellBook$Wreck" "count" "I", .fieldLink RX6 9 "BellBook$Wreck" "square" "[I", .fieldLink RX6 13 "BellBook$Wreck" "worth" "[I", .fieldLink RX6 16 "BellBook$Wreck" "work" "[I", .fieldLink RX6 19 "BellBook$Wreck" "odds" "[I", .fieldLink RX6 52 "BellBook$Wreck" "planStands" "Z"] ++ wsX60)
def wsX6_layUnder : List Cond := .code yX6_layUnder cX6_layUnder 4 none :: ([.fieldLink RX6 25 "BellBook$Wreck" "under" "[I", .fieldLink RX6 52 "BellBook$Wreck" "planStands" "Z"] ++ wsX60)
def wsX6_markTangled : List Cond := .code yX6_markTangled cX6_markTangled 3 none :: ([.fieldLink RX6 49 "BellBook$Wreck" "tangled" "I", .fieldLink RX6 52 "BellBook$Wreck" "planStands" "Z"] ++ wsX60)
def wsX6_liesBelow : List Cond := .code yX6_liesBelow cX6_liesBelow 6 (some .boolean) :: ([.fieldLink RX6 42 "BellBook$Wreck" "count" "I", .fieldLink RX6 25 "BellBook$Wreck" "under" "[I", .static yX7_bit, .initialized RX7, .code yX7_bit cX7_bit 2 (some .int)] ++ wsX60)
def wsX6_isFree : List Cond := .code yX6_isFree cX6_isFree 2 (some .boolean) :: ([.fieldLink RX6 25 "BellBook$Wreck" "under" "[I", .fieldLink RX6 46 "BellBook$Wreck" "raised" "I"] ++ wsX60)
def wsX6_canBeWorked : List Cond := .code yX6_canBeWorked cX6_canBeWorked 2 (some .boolean) :: ([.fieldLink RX6 46 "BellBook$Wreck" "raised" "I", .fieldLink RX6 49 "BellBook$Wreck" "tangled" "I", .methodLink RX6 66 yX6_isFree, .instanceMethod yX6_isFree, .selects RX6 yX6_isFree yX6_isFree, .initialized RX6, .code yX6_isFree cX6_isFree 2 (some .boolean), .fieldLink RX6 25 "BellBook$Wreck" "under" "[I", .static yX7_bit, .initialized RX7, .code yX7_bit cX7_bit 2 (some .int)] ++ wsX60)
def wsX6_workMinute : List Cond := .code yX6_workMinute cX6_workMinute 2 none :: ([.fieldLink RX6 22 "BellBook$Wreck" "worked" "[I", .fieldLink RX6 16 "BellBook$Wreck" "work" "[I", .fieldLink RX6 46 "BellBook$Wreck" "raised" "I", .fieldLink RX6 52 "BellBook$Wreck" "planStands" "Z"] ++ wsX60)
def wsX6_raisedWorth : List Cond := .code yX6_raisedWorth cX6_raisedWorth 3 (some .int) :: ([.fieldLink RX6 42 "BellBook$Wreck" "count" "I", .fieldLink RX6 46 "BellBook$Wreck" "raised" "I", .fieldLink RX6 13 "BellBook$Wreck" "worth" "[I", .static yX7_bit, .initialized RX7, .code yX7_bit cX7_bit 2 (some .int)] ++ wsX60)
def wsX6_addTide : List Cond := .code yX6_addTide cX6_addTide 2 (some .int) :: ([.fieldLink RX6 52 "BellBook$Wreck" "planStands" "Z", .fieldLink RX6 31 "BellBook$Wreck" "tides" "LBellBook$Tides;", .methodLink RX6 70 yX5_add, .instanceMethod yX5_add, .selects RX5 yX5_add yX5_add, .initialized RX5, .code yX5_add cX5_add 2 (some .int), .fieldLink RX5 9 "BellBook$Tides" "length" "[I", .fieldLink RX5 13 "BellBook$Tides" "count" "I"] ++ wsX60 ++ wsX50)
def wsX6_dropTides : List Cond := .code yX6_dropTides cX6_dropTides 2 (some .int) :: ([.fieldLink RX6 31 "BellBook$Wreck" "tides" "LBellBook$Tides;", .fieldLink RX6 74 "BellBook$Tides" "count" "I", .fieldLink RX6 52 "BellBook$Wreck" "planStands" "Z"] ++ wsX60 ++ wsX50)
def wsX6_bestPlan_r1 : List Cond := [Cond.fieldLink RX6 52 "BellBook$Wreck" "planStands" "Z", Cond.fieldLink RX6 38 "BellBook$Wreck" "plan" "LBellBook$Plan;", Cond.methodLink RX6 75 yX4_make, Cond.instanceMethod yX4_make, Cond.selects RX4 yX4_make yX4_make, Cond.initialized RX4, Cond.code yX4_make cX4_make 2 none, Cond.methodLink RX4 33 yX4_findLatest, Cond.instanceMethod yX4_findLatest, Cond.selects RX4 yX4_findLatest yX4_findLatest, Cond.code yX4_findLatest cX4_findLatest 4 none, Cond.fieldLink RX4 45 "BellBook$Wreck" "raised" "I", Cond.fieldLink RX4 48 "BellBook$Wreck" "tangled" "I", Cond.fieldLink RX4 20 "BellBook$Plan" "latest" "[I", Cond.fieldLink RX4 51 "BellBook$Wreck" "tides" "LBellBook$Tides;", Cond.fieldLink RX4 61 "BellBook$Wreck" "count" "I", Cond.methodLink RX4 55 yX5_lastMoment, Cond.instanceMethod yX5_lastMoment, Cond.selects RX5 yX5_lastMoment yX5_lastMoment, Cond.initialized RX5, Cond.code yX5_lastMoment cX5_lastMoment 1 (some .int), Cond.fieldLink RX5 13 "BellBook$Tides" "count" "I", Cond.fieldLink RX5 9 "BellBook$Tides" "length" "[I", Cond.methodLink RX5 17 yX5_moment]
def wsX6_bestPlan_r2 : List Cond := [Cond.static yX5_moment, Cond.code yX5_moment cX5_moment 2 (some .int), Cond.methodLink RX4 62 yX4_latestOf, Cond.instanceMethod yX4_latestOf, Cond.selects RX4 yX4_latestOf yX4_latestOf, Cond.code yX4_latestOf cX4_latestOf 6 (some .int), Cond.methodLink RX4 78 Lib.Math.max.name, Cond.static Lib.Math.max.name, Cond.initialized "java/lang/Math", Cond.code Lib.Math.max.name Lib.Math.max.code 2 (some .int), Cond.methodLink RX4 66 yX4_mayBeFirst, Cond.static yX4_mayBeFirst, Cond.code yX4_mayBeFirst cX4_mayBeFirst 3 (some .boolean), Cond.fieldLink RX4 86 "BellBook$Wreck" "under" "[I", Cond.static yX7_bit, Cond.initialized RX7, Cond.code yX7_bit cX7_bit 2 (some .int), Cond.methodLink RX4 70 yX6_left, Cond.instanceMethod yX6_left, Cond.selects RX6 yX6_left yX6_left, Cond.initialized RX6, Cond.code yX6_left cX6_left 2 (some .int), Cond.fieldLink RX6 16 "BellBook$Wreck" "work" "[I", Cond.fieldLink RX6 22 "BellBook$Wreck" "worked" "[I"]
def wsX6_bestPlan_r3 : List Cond := [Cond.methodLink RX4 74 yX5_latestBegin, Cond.instanceMethod yX5_latestBegin, Cond.selects RX5 yX5_latestBegin yX5_latestBegin, Cond.code yX5_latestBegin cX5_latestBegin 4 (some .int), Cond.methodLink RX5 21 yX5_tideAt, Cond.static yX5_tideAt, Cond.code yX5_tideAt cX5_tideAt 1 (some .int), Cond.methodLink RX4 37 yX4_chooseSet, Cond.instanceMethod yX4_chooseSet, Cond.selects RX4 yX4_chooseSet yX4_chooseSet, Cond.code yX4_chooseSet cX4_chooseSet 6 (some .int), Cond.fieldLink RX4 27 "BellBook$Plan" "hope" "I", Cond.fieldLink RX4 30 "BellBook$Plan" "toil" "I", Cond.methodLink RX4 89 yX6_isWhole, Cond.instanceMethod yX6_isWhole, Cond.selects RX6 yX6_isWhole yX6_isWhole, Cond.code yX6_isWhole cX6_isWhole 3 (some .boolean), Cond.fieldLink RX6 42 "BellBook$Wreck" "count" "I", Cond.fieldLink RX6 25 "BellBook$Wreck" "under" "[I", Cond.fieldLink RX6 46 "BellBook$Wreck" "raised" "I", Cond.methodLink RX4 93 yX4_hopeOf, Cond.static yX4_hopeOf, Cond.code yX4_hopeOf cX4_hopeOf 4 (some .int), Cond.fieldLink RX4 99 "BellBook$Wreck" "worth" "[I"]
def wsX6_bestPlan_r4 : List Cond := [Cond.fieldLink RX4 102 "BellBook$Wreck" "odds" "[I", Cond.methodLink RX4 96 yX4_toilOf, Cond.static yX4_toilOf, Cond.code yX4_toilOf cX4_toilOf 4 (some .int), Cond.methodLink RX4 41 yX4_setInOrder, Cond.instanceMethod yX4_setInOrder, Cond.selects RX4 yX4_setInOrder yX4_setInOrder, Cond.code yX4_setInOrder cX4_setInOrder 7 none, Cond.fieldLink RX4 23 "BellBook$Plan" "count" "I", Cond.fieldLink RX4 11 "BellBook$Plan" "order" "[I", Cond.fieldLink RX4 17 "BellBook$Plan" "when" "[I", Cond.methodLink RX4 105 yX4_nextOf, Cond.instanceMethod yX4_nextOf, Cond.selects RX4 yX4_nextOf yX4_nextOf, Cond.code yX4_nextOf cX4_nextOf 6 (some .int), Cond.methodLink RX4 109 yX5_soonestEnd, Cond.instanceMethod yX5_soonestEnd, Cond.selects RX5 yX5_soonestEnd yX5_soonestEnd, Cond.code yX5_soonestEnd cX5_soonestEnd 5 (some .int), Cond.methodLink RX4 112 yX5_tideAt]
def wsX6_bestPlan : List Cond := .code yX6_bestPlan cX6_bestPlan 1 (some (.object "BellBook$Plan")) :: ((wsX6_bestPlan_r1 ++ (wsX6_bestPlan_r2 ++ (wsX6_bestPlan_r3 ++ wsX6_bestPlan_r4))) ++ wsX60 ++ wsX40 ++ wsX50)
def wsX7_init_r1 : List Cond := [Cond.methodLink RX7 3 objectInit, Cond.instanceMethod objectInit, Cond.code objectInit ⟨#[0xb1]⟩ 1 none, Cond.classLink RX7 9 RX0, Cond.instantiable RX0 12, Cond.initialized RX0, Cond.fieldLink RX7 12 "BellBook" "bell" "LBellBook$Bell;", Cond.classLink RX7 16 RX2, Cond.instantiable RX2 8, Cond.initialized RX2, Cond.fieldLink RX7 19 "BellBook" "crew" "LBellBook$Crew;", Cond.classLink RX7 23 RX6, Cond.instantiable RX6 12, Cond.initialized RX6, Cond.fieldLink RX7 26 "BellBook" "wreck" "LBellBook$Wreck;", Cond.classLink RX7 30 RX3, Cond.instantiable RX3 5, Cond.initialized RX3, Cond.fieldLink RX7 33 "BellBook" "line" "LBellBook$Line;", Cond.classLink RX7 37 RX1, Cond.instantiable RX1 11, Cond.initialized RX1, Cond.fieldLink RX7 40 "BellBook" "book" "LBellBook$Book;", Cond.fieldLink RX7 44 "BellBook" "minute" "I"]
def wsX7_init_r2 : List Cond := [Cond.methodLink RX7 11 yX0_init, Cond.instanceMethod yX0_init, Cond.code yX0_init cX0_init 1 none, Cond.methodLink RX0 3 objectInit, Cond.fieldLink RX0 9 "BellBook$Bell" "depth" "I", Cond.fieldLink RX0 15 "BellBook$Bell" "breath" "I", Cond.fieldLink RX0 18 "BellBook$Bell" "limit" "I", Cond.methodLink RX0 21 yX0_beginAnew, Cond.instanceMethod yX0_beginAnew, Cond.selects RX0 yX0_beginAnew yX0_beginAnew, Cond.code yX0_beginAnew cX0_beginAnew 2 none, Cond.fieldLink RX0 25 "BellBook$Bell" "room" "I", Cond.fieldLink RX0 28 "BellBook$Bell" "fresh" "I", Cond.fieldLink RX0 31 "BellBook$Bell" "foul" "I", Cond.fieldLink RX0 34 "BellBook$Bell" "sent" "I", Cond.fieldLink RX0 37 "BellBook$Bell" "breathed" "I", Cond.fieldLink RX0 40 "BellBook$Bell" "spilled" "I", Cond.fieldLink RX0 43 "BellBook$Bell" "barrels" "I", Cond.fieldLink RX0 46 "BellBook$Bell" "breathLacks" "I", Cond.fieldLink RX0 49 "BellBook$Bell" "stayLacks" "I", Cond.methodLink RX7 18 yX2_init, Cond.instanceMethod yX2_init, Cond.code yX2_init cX2_init 2 none, Cond.methodLink RX2 3 objectInit]
def wsX7_init_r3 : List Cond := [Cond.arrayClass .int, Cond.fieldLink RX2 9 "BellBook$Crew" "where" "[I", Cond.fieldLink RX2 15 "BellBook$Crew" "square" "[I", Cond.fieldLink RX2 18 "BellBook$Crew" "hose" "[I", Cond.fieldLink RX2 21 "BellBook$Crew" "stayed" "[I", Cond.fieldLink RX2 24 "BellBook$Crew" "task" "[I", Cond.fieldLink RX2 27 "BellBook$Crew" "length" "[I", Cond.fieldLink RX2 30 "BellBook$Crew" "stay" "I", Cond.fieldLink RX2 34 "BellBook$Crew" "bellSquare" "I", Cond.methodLink RX7 25 yX6_init, Cond.instanceMethod yX6_init, Cond.code yX6_init cX6_init 1 none, Cond.methodLink RX6 1 objectInit, Cond.fieldLink RX6 9 "BellBook$Wreck" "square" "[I", Cond.fieldLink RX6 13 "BellBook$Wreck" "worth" "[I", Cond.fieldLink RX6 16 "BellBook$Wreck" "work" "[I", Cond.fieldLink RX6 19 "BellBook$Wreck" "odds" "[I", Cond.fieldLink RX6 22 "BellBook$Wreck" "worked" "[I", Cond.fieldLink RX6 25 "BellBook$Wreck" "under" "[I", Cond.classLink RX6 28 RX5, Cond.instantiable RX5 2, Cond.initialized RX5, Cond.fieldLink RX6 31 "BellBook$Wreck" "tides" "LBellBook$Tides;", Cond.classLink RX6 35 RX4]
def wsX7_init_r4 : List Cond := [Cond.instantiable RX4 6, Cond.initialized RX4, Cond.fieldLink RX6 38 "BellBook$Wreck" "plan" "LBellBook$Plan;", Cond.fieldLink RX6 42 "BellBook$Wreck" "count" "I", Cond.fieldLink RX6 46 "BellBook$Wreck" "raised" "I", Cond.fieldLink RX6 49 "BellBook$Wreck" "tangled" "I", Cond.fieldLink RX6 52 "BellBook$Wreck" "planStands" "Z", Cond.methodLink RX6 30 yX5_init, Cond.instanceMethod yX5_init, Cond.code yX5_init cX5_init 1 none, Cond.methodLink RX5 1 objectInit, Cond.fieldLink RX5 9 "BellBook$Tides" "length" "[I", Cond.fieldLink RX5 13 "BellBook$Tides" "count" "I", Cond.methodLink RX6 37 yX4_init, Cond.instanceMethod yX4_init, Cond.code yX4_init cX4_init 1 none, Cond.methodLink RX4 3 objectInit, Cond.fieldLink RX4 11 "BellBook$Plan" "order" "[I", Cond.fieldLink RX4 17 "BellBook$Plan" "when" "[I", Cond.fieldLink RX4 20 "BellBook$Plan" "latest" "[I", Cond.fieldLink RX4 23 "BellBook$Plan" "count" "I", Cond.fieldLink RX4 27 "BellBook$Plan" "hope" "I", Cond.fieldLink RX4 30 "BellBook$Plan" "toil" "I", Cond.methodLink RX7 32 yX3_init]
def wsX7_init_r5 : List Cond := [Cond.instanceMethod yX3_init, Cond.code yX3_init cX3_init 1 none, Cond.methodLink RX3 3 objectInit, Cond.fieldLink RX3 11 "BellBook$Line" "first" "[I", Cond.fieldLink RX3 15 "BellBook$Line" "second" "[I", Cond.fieldLink RX3 18 "BellBook$Line" "heardFirst" "[I", Cond.fieldLink RX3 21 "BellBook$Line" "heardSecond" "[I", Cond.fieldLink RX3 24 "BellBook$Line" "hearings" "I", Cond.methodLink RX7 39 yX1_init, Cond.instanceMethod yX1_init, Cond.code yX1_init cX1_init 1 none, Cond.methodLink RX1 3 objectInit, Cond.fieldLink RX1 11 "BellBook$Book" "minutes" "[I", Cond.fieldLink RX1 15 "BellBook$Book" "men" "[I", Cond.fieldLink RX1 18 "BellBook$Book" "places" "[I", Cond.fieldLink RX1 21 "BellBook$Book" "count" "I"]
def wsX7_init : List Cond := .code yX7_init cX7_init 1 none :: ((wsX7_init_r1 ++ (wsX7_init_r2 ++ (wsX7_init_r3 ++ (wsX7_init_r4 ++ wsX7_init_r5)))) ++ wsX00 ++ wsX70 ++ wsX20 ++ wsX60 ++ wsX30 ++ wsX10 ++ wsX50 ++ wsX40)
def wsX7_room_r1 : List Cond := [Cond.fieldLink RX7 19 "BellBook" "crew" "LBellBook$Crew;", Cond.fieldLink RX7 12 "BellBook" "bell" "LBellBook$Bell;", Cond.fieldLink RX7 56 "BellBook$Bell" "depth" "I", Cond.fieldLink RX7 59 "BellBook$Bell" "room" "I", Cond.methodLink RX7 48 yX7_within, Cond.static yX7_within, Cond.initialized RX7, Cond.code yX7_within cX7_within 3 (some .boolean), Cond.methodLink RX7 52 yX2_countBelow, Cond.instanceMethod yX2_countBelow, Cond.selects RX2 yX2_countBelow yX2_countBelow, Cond.initialized RX2, Cond.code yX2_countBelow cX2_countBelow 3 (some .int), Cond.fieldLink RX2 9 "BellBook$Crew" "where" "[I", Cond.methodLink RX7 62 yX0_beginAnew, Cond.instanceMethod yX0_beginAnew, Cond.selects RX0 yX0_beginAnew yX0_beginAnew, Cond.initialized RX0, Cond.code yX0_beginAnew cX0_beginAnew 2 none, Cond.fieldLink RX0 25 "BellBook$Bell" "room" "I", Cond.fieldLink RX0 28 "BellBook$Bell" "fresh" "I", Cond.fieldLink RX0 31 "BellBook$Bell" "foul" "I", Cond.fieldLink RX0 34 "BellBook$Bell" "sent" "I", Cond.fieldLink RX0 37 "BellBook$Bell" "breathed" "I"]
def wsX7_room_r2 : List Cond := [Cond.fieldLink RX0 40 "BellBook$Bell" "spilled" "I", Cond.fieldLink RX0 43 "BellBook$Bell" "barrels" "I", Cond.fieldLink RX0 46 "BellBook$Bell" "breathLacks" "I", Cond.fieldLink RX0 49 "BellBook$Bell" "stayLacks" "I"]
def wsX7_room : List Cond := .code yX7_room cX7_room 3 (some .int) :: ((wsX7_room_r1 ++ wsX7_room_r2) ++ wsX70 ++ wsX00 ++ wsX20)
def wsX7_depth_r1 : List Cond := [Cond.fieldLink RX7 19 "BellBook" "crew" "LBellBook$Crew;", Cond.fieldLink RX7 12 "BellBook" "bell" "LBellBook$Bell;", Cond.fieldLink RX7 56 "BellBook$Bell" "depth" "I", Cond.methodLink RX7 48 yX7_within, Cond.static yX7_within, Cond.initialized RX7, Cond.code yX7_within cX7_within 3 (some .boolean), Cond.methodLink RX7 66 yX2_anyOut, Cond.instanceMethod yX2_anyOut, Cond.selects RX2 yX2_anyOut yX2_anyOut, Cond.initialized RX2, Cond.code yX2_anyOut cX2_anyOut 2 (some .boolean), Cond.fieldLink RX2 9 "BellBook$Crew" "where" "[I", Cond.methodLink RX7 70 yX0_spillOver, Cond.instanceMethod yX0_spillOver, Cond.selects RX0 yX0_spillOver yX0_spillOver, Cond.initialized RX0, Cond.code yX0_spillOver cX0_spillOver 1 (some .int), Cond.methodLink RX0 63 Lib.Math.max.name, Cond.static Lib.Math.max.name, Cond.initialized "java/lang/Math", Cond.code Lib.Math.max.name Lib.Math.max.code 2 (some .int), Cond.methodLink RX0 52 yX0_shares, Cond.instanceMethod yX0_shares]
def wsX7_depth_r2 : List Cond := [Cond.selects RX0 yX0_shares yX0_shares, Cond.code yX0_shares cX0_shares 1 (some .int), Cond.fieldLink RX0 28 "BellBook$Bell" "fresh" "I", Cond.fieldLink RX0 31 "BellBook$Bell" "foul" "I", Cond.methodLink RX0 60 yX0_most, Cond.instanceMethod yX0_most, Cond.selects RX0 yX0_most yX0_most, Cond.code yX0_most cX0_most 1 (some .int), Cond.fieldLink RX0 25 "BellBook$Bell" "room" "I", Cond.fieldLink RX0 9 "BellBook$Bell" "depth" "I", Cond.methodLink RX0 69 yX0_spill, Cond.instanceMethod yX0_spill, Cond.selects RX0 yX0_spill yX0_spill, Cond.code yX0_spill cX0_spill 3 (some .int), Cond.fieldLink RX0 40 "BellBook$Bell" "spilled" "I", Cond.methodLink RX0 56 yX0_foulPart, Cond.static yX0_foulPart, Cond.code yX0_foulPart cX0_foulPart 4 (some .int)]
def wsX7_depth : List Cond := .code yX7_depth cX7_depth 2 (some .int) :: ((wsX7_depth_r1 ++ wsX7_depth_r2) ++ wsX70 ++ wsX00 ++ wsX20)
def wsX7_tip : List Cond := .code yX7_tip cX7_tip 1 (some .int) :: ([.fieldLink RX7 12 "BellBook" "bell" "LBellBook$Bell;", .methodLink RX7 73 yX0_shares, .instanceMethod yX0_shares, .selects RX0 yX0_shares yX0_shares, .initialized RX0, .code yX0_shares cX0_shares 1 (some .int), .fieldLink RX0 28 "BellBook$Bell" "fresh" "I", .fieldLink RX0 31 "BellBook$Bell" "foul" "I", .methodLink RX7 76 yX0_spill, .instanceMethod yX0_spill, .selects RX0 yX0_spill yX0_spill, .code yX0_spill cX0_spill 3 (some .int), .fieldLink RX0 40 "BellBook$Bell" "spilled" "I", .methodLink RX0 56 yX0_foulPart, .static yX0_foulPart, .code yX0_foulPart cX0_foulPart 4 (some .int)] ++ wsX70 ++ wsX00)
def wsX7_barrel_r1 : List Cond := [Cond.fieldLink RX7 12 "BellBook" "bell" "LBellBook$Bell;", Cond.fieldLink RX7 80 "BellBook$Bell" "barrels" "I", Cond.methodLink RX7 48 yX7_within, Cond.static yX7_within, Cond.initialized RX7, Cond.code yX7_within cX7_within 3 (some .boolean), Cond.methodLink RX7 83 yX0_letIn, Cond.instanceMethod yX0_letIn, Cond.selects RX0 yX0_letIn yX0_letIn, Cond.initialized RX0, Cond.code yX0_letIn cX0_letIn 2 (some .int), Cond.fieldLink RX0 43 "BellBook$Bell" "barrels" "I", Cond.fieldLink RX0 34 "BellBook$Bell" "sent" "I", Cond.fieldLink RX0 28 "BellBook$Bell" "fresh" "I", Cond.methodLink RX0 73 yX0_spillOver, Cond.instanceMethod yX0_spillOver, Cond.selects RX0 yX0_spillOver yX0_spillOver, Cond.code yX0_spillOver cX0_spillOver 1 (some .int), Cond.methodLink RX0 63 Lib.Math.max.name, Cond.static Lib.Math.max.name, Cond.initialized "java/lang/Math", Cond.code Lib.Math.max.name Lib.Math.max.code 2 (some .int), Cond.methodLink RX0 52 yX0_shares, Cond.instanceMethod yX0_shares]
