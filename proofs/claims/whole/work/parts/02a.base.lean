/-! pure words: a method's meaning is a function into Option (none: it throws, or the fuel is out) -/
abbrev tF : Type := Nat → Int32
abbrev tG : Type := Nat → Nat → Int32
def upG (G : tG) (j : Nat) (g : Nat → Int32) : tG := fun k => if k = j then g else G k
def plet {α β : Type} (a : α) (k : α → β) : β := k a
theorem pl {α β : Type} {a y : α} {k : α → Option β} {x : β} (h : plet a k = some x) (e : y = a) : k y = some x := by subst e; exact h
def oguard {α : Type} (b : Bool) (k : Option α) : Option α := match b with
  | true => k
  | false => none
theorem og {α : Type} {b : Bool} {k : Option α} {x : α} (h : oguard b k = some x) : b = true ∧ k = some x := by
  cases b with
  | false => cases h
  | true => exact ⟨rfl, h⟩
def inB (i : Int32) (n : Nat) : Bool := decide (¬ (i < 0 ∨ n ≤ i.toNatClampNeg))
theorem inB_in {i : Int32} {n : Nat} (h : inB i n = true) : vp_in i n := (of_decide_eq_true h : ¬ (i < 0 ∨ n ≤ i.toNatClampNeg))
def nzB (y : Int32) : Bool := decide (¬ y = 0)
theorem nzB_ne {y : Int32} (h : nzB y = true) : ¬ y = 0 := of_decide_eq_true h
def nzL (y : Int64) : Bool := decide (¬ y = 0)
theorem nzL_ne {y : Int64} (h : nzL y = true) : ¬ y = 0 := of_decide_eq_true h
def btB (y : Int32) : Bool := decide (y = 0 ∨ y = 1)
theorem btB_nar {y : Int32} (h : btB y = true) : narrow .boolean (.int y) = .int y := by
  rcases (of_decide_eq_true h : y = 0 ∨ y = 1) with rfl | rfl <;> rfl
theorem ifp {α : Type} {c : Prop} {i : Decidable c} {a b : Option α} {x : α} (h : (@ite _ c i a b) = some x) (hc : c) : a = some x := by rw [if_pos hc] at h; exact h
theorem ifn {α : Type} {c : Prop} {i : Decidable c} {a b : Option α} {x : α} (h : (@ite _ c i a b) = some x) (hc : ¬ c) : b = some x := by rw [if_neg hc] at h; exact h
def bi1 {α β : Type} (o : Option α) (k : α → Option β) : Option β := match o with
  | none => none
  | some a => k a
theorem bi1e {α β : Type} {o : Option α} {k : α → Option β} {x : β} (h : bi1 o k = some x) : ∃ a, o = some a ∧ k a = some x := by
  cases o with
  | none => cases h
  | some a => exact ⟨a, rfl, h⟩
def bi2 {α α2 β : Type} (o : Option (α × α2)) (k : α → α2 → Option β) : Option β := match o with
  | none => none
  | some (a, a2) => k a a2
theorem bi2e {α α2 β : Type} {o : Option (α × α2)} {k : α → α2 → Option β} {x : β} (h : bi2 o k = some x) : ∃ a a2, o = some (a, a2) ∧ k a a2 = some x := by
  rcases o with _ | ⟨a, a2⟩
  · cases h
  · exact ⟨a, a2, rfl, h⟩
def bi3 {α α2 α3 β : Type} (o : Option (α × α2 × α3)) (k : α → α2 → α3 → Option β) : Option β := match o with
  | none => none
  | some (a, a2, a3) => k a a2 a3
theorem bi3e {α α2 α3 β : Type} {o : Option (α × α2 × α3)} {k : α → α2 → α3 → Option β} {x : β} (h : bi3 o k = some x) : ∃ a a2 a3, o = some (a, a2, a3) ∧ k a a2 a3 = some x := by
  rcases o with _ | ⟨a, a2, a3⟩
  · cases h
  · exact ⟨a, a2, a3, rfl, h⟩
def bi4 {α α2 α3 α4 β : Type} (o : Option (α × α2 × α3 × α4)) (k : α → α2 → α3 → α4 → Option β) : Option β := match o with
  | none => none
  | some (a, a2, a3, a4) => k a a2 a3 a4
theorem bi4e {α α2 α3 α4 β : Type} {o : Option (α × α2 × α3 × α4)} {k : α → α2 → α3 → α4 → Option β} {x : β} (h : bi4 o k = some x) : ∃ a a2 a3 a4, o = some (a, a2, a3, a4) ∧ k a a2 a3 a4 = some x := by
  rcases o with _ | ⟨a, a2, a3, a4⟩
  · cases h
  · exact ⟨a, a2, a3, a4, rfl, h⟩
def bi5 {α α2 α3 α4 α5 β : Type} (o : Option (α × α2 × α3 × α4 × α5)) (k : α → α2 → α3 → α4 → α5 → Option β) : Option β := match o with
  | none => none
  | some (a, a2, a3, a4, a5) => k a a2 a3 a4 a5
theorem bi5e {α α2 α3 α4 α5 β : Type} {o : Option (α × α2 × α3 × α4 × α5)} {k : α → α2 → α3 → α4 → α5 → Option β} {x : β} (h : bi5 o k = some x) : ∃ a a2 a3 a4 a5, o = some (a, a2, a3, a4, a5) ∧ k a a2 a3 a4 a5 = some x := by
  rcases o with _ | ⟨a, a2, a3, a4, a5⟩
  · cases h
  · exact ⟨a, a2, a3, a4, a5, rfl, h⟩
/-! contracts over a whole world -/
def NwC (U : State) : Prop := va_Nw (.methodLinkNest RX6 56 yX7_within "BellBook") U ∧ va_Nw (.methodLinkNest RX6 62 yX7_bit "BellBook") U ∧ va_Nw (.methodLinkNest RX4 83 yX7_bit "BellBook") U ∧ va_Nw (.methodLinkNest RX3 28 yX7_within "BellBook") U ∧ va_Nw (.methodLinkNest RX3 36 yX7_apart "BellBook") U
theorem NwC_same {u U : State} (h : u.vm = U.vm) (q : NwC u) : NwC U := ⟨va_Nw.same rfl h q.1, va_Nw.same rfl h q.2.1, va_Nw.same rfl h q.2.2.1, va_Nw.same rfl h q.2.2.2.1, va_Nw.same rfl h q.2.2.2.2⟩
theorem NwC_warm {s U : State} (h : s.WarmedH U.vm) (q : NwC s) : NwC U := ⟨va_Nw.warmM h q.1, va_Nw.warmM h q.2.1, va_Nw.warmM h q.2.2.1, va_Nw.warmM h q.2.2.2.1, va_Nw.warmM h q.2.2.2.2⟩
def cP (D : va_G) (cA : ClassId) (ws : va_W) (sz : Nat) (U : State) : Prop := U.heap.size = sz ∧ va_P D vwCl ws U.heap ∧ va_K D vwCl [(cA, .int)] U ∧ va_D (fun _ => True) ws ∧ NwC U
def cB (D : va_G) (cA : ClassId) (ws : va_W) (A : Nat → Prop) (t : State) : Prop := va_P D vwCl ws t.heap ∧ va_K D vwCl [(cA, .int)] t ∧ va_D A ws
abbrev QI (D : va_G) (cA : ClassId) (ws : va_W) (r : Int32) (A : Nat → Prop) : Array Value → State → Outcome → State → Prop := va_Qi (fun (x : Int32) (_ : Unit) => x = r) (fun _ t => cB D cA ws A t) A
abbrev QV (D : va_G) (cA : ClassId) (ws : va_W) (A : Nat → Prop) : Array Value → State → Outcome → State → Prop := va_Qv (fun (_ : Unit) => True) (fun _ t => cB D cA ws A t) A
abbrev QR (D : va_G) (cA : ClassId) (ws : va_W) (b : Nat) (A : Nat → Prop) : Array Value → State → Outcome → State → Prop := va_Qr (fun (_ : Unit) => True) (fun _ a t => a = b ∧ cB D cA ws A t) A
def CI (l : Launch) (y : MethodName) (Ws : List Cond) (rm : Room) (D : va_G) (cA : ClassId) (ws : va_W) (As : List Value) (r : Int32) (ws' : va_W) : Prop := ∀ sz : Nat, Met l y Ws rm (va_Pc As (cP D cA ws sz)) (QI D cA ws' r (va_A ws sz)) 0 0 (va_A ws sz)
def CV (l : Launch) (y : MethodName) (Ws : List Cond) (rm : Room) (D : va_G) (cA : ClassId) (ws : va_W) (As : List Value) (ws' : va_W) : Prop := ∀ sz : Nat, Met l y Ws rm (va_Pc As (cP D cA ws sz)) (QV D cA ws' (va_A ws sz)) 0 0 (va_A ws sz)
def CR (l : Launch) (y : MethodName) (Ws : List Cond) (rm : Room) (D : va_G) (cA : ClassId) (ws : va_W) (As : List Value) (b : Nat) (ws' : va_W) : Prop := ∀ sz : Nat, Met l y Ws rm (va_Pc As (cP D cA ws sz)) (QR D cA ws' b (va_A ws sz)) 0 0 (va_A ws sz)
theorem freeA {A0 : Nat → Prop} {ws : va_W} {H0 H : Heap} {locs : List Loc} (hD : va_D A0 ws) (hS : va_S A0 H0 H locs) (hA : ∀ q : Nat, H0.size ≤ q → A0 q) : ∀ q : Nat, va_A ws H.size q → A0 q := by
  intro q h
  rcases h with ⟨k, e, hk⟩ | h
  · exact hD.2 k (q, e) hk
  · exact hA q (Nat.le_trans hS.1 h)
theorem preBlind {D : va_G} {cA : ClassId} {ws : va_W} {sz : Nat} {As : List Value} : FrameBlind (va_Pc As (cP D cA ws sz)) := fun a U g mk q => by
  obtain ⟨q0, q1, qP, qK, qD, qN⟩ := q
  exact ⟨q0, q1, qP, va_K.moved (u := U) (U := U.calling g mk a) (Vm.Alike.refl U.vm) qK, qD, NwC_same (u := U) rfl qN⟩
theorem preAt {D : va_G} {cA : ClassId} {ws : va_W} {s : State} {H : Heap} {A : Nat → Prop} (As : List Value) (hP : va_P D vwCl ws H) (hK : va_K D vwCl [(cA, .int)] s) (hD : va_D A ws) (hN : NwC s) : ∀ U : State, U.heap = H → s.WarmedH U.vm → va_Pc As (cP D cA ws H.size) As.toArray U :=
  fun U hU hW => ⟨rfl, by rw [hU], by rw [hU]; exact hP, va_K.moved hW.alike hK, hD.weaken (fun _ _ _ _ => trivial), NwC_warm hW hN⟩
section CALLS
variable {p : Program} {l : Launch} {e : Env} {R : Room} {s : State} {m : MethodId} {args : Array Value} {below : List Frame} {meth : Method} {c : Code} {H : Heap} {locs : List Loc} {cells slots : Nat} {Q : State → Prop}
variable {D : va_G} {cA : ClassId} {ws ws' : va_W} {A : Nat → Prop} {y : MethodName} {bytes cc : ByteArray} {maxL nL n index pc : Nat} {ret : Option FieldType} {Ws : List Cond} {rm : Room} {Ts : List Cond} {own C : String} {b : Nat} {As rest st : List Value} {ls : Array Slot} {r : Int32}
theorem callVI (Sx : CallFix p m c cc nL s args Ts own) (hM : CI l y Ws rm D cA ws (.ref b :: As) r ws') (cw : CallW R s args own C index y bytes maxL ret Ws rm 0 0 n) (hrecv : ∃ cellB : Cell, H[b]? = some cellB ∧ cellB.vm.isStatics = false ∧ s.vm.findClass C = some cellB.cls)
    (hP : va_P D vwCl ws H) (hK : va_K D vwCl [(cA, .int)] s) (hD : va_D A ws) (hN : NwC s) (hS : va_S A s.heap H locs) (hA : ∀ q : Nat, s.heap.size ≤ q → A q)
    (hn : As.length = n) (hsize : ls.size = nL) (hst : st = As.reverse ++ .ref b :: rest) (hroom : (rest.map fun v => v.category).sum ≤ 8) (hdg : decode cc pc = .ok (.invokevirtual index, 3)) (hcl : cells ≤ R.cells ∧ slots ≤ R.slots)
    (kk : ∀ (H1 : Heap) (locs1 : List Loc), va_P D vwCl ws' H1 → va_D A ws' → va_S A s.heap H1 locs1 → W p l e R s m args below meth c H1 locs1 cells slots Q (F0 m (pc + 3) ls (.int r :: rest))) : W p l e R s m args below meth c H locs cells slots Q (F0 m pc ls st) := by
  refine va_calli (va_runV Sx (hM H.size) cw ⟨preBlind, hrecv, preAt _ hP hK hD hN⟩ rfl hn hsize hst (lv_room hroom) hdg hcl) hS (fun q _ h => freeA hD hS hA q h) (freeA hD hS hA) (fun r1 u t H1 locs1 ht hvm hw hB hz1 hk1 hS1 => ?_)
  obtain ⟨hP1, hK1, hD1⟩ := hB
  rw [ht] at hP1
  subst hw
  exact kk H1 locs1 hP1 (hD1.weaken (fun k q hk hq => freeA hD hS hA q.1 hq)) hS1
theorem callVV (Sx : CallFix p m c cc nL s args Ts own) (hM : CV l y Ws rm D cA ws (.ref b :: As) ws') (cw : CallW R s args own C index y bytes maxL ret Ws rm 0 0 n) (hrecv : ∃ cellB : Cell, H[b]? = some cellB ∧ cellB.vm.isStatics = false ∧ s.vm.findClass C = some cellB.cls)
    (hP : va_P D vwCl ws H) (hK : va_K D vwCl [(cA, .int)] s) (hD : va_D A ws) (hN : NwC s) (hS : va_S A s.heap H locs) (hA : ∀ q : Nat, s.heap.size ≤ q → A q)
    (hn : As.length = n) (hsize : ls.size = nL) (hst : st = As.reverse ++ .ref b :: rest) (hroom : (rest.map fun v => v.category).sum ≤ 8) (hdg : decode cc pc = .ok (.invokevirtual index, 3)) (hcl : cells ≤ R.cells ∧ slots ≤ R.slots)
    (kk : ∀ (H1 : Heap) (locs1 : List Loc), va_P D vwCl ws' H1 → va_D A ws' → va_S A s.heap H1 locs1 → W p l e R s m args below meth c H1 locs1 cells slots Q (F0 m (pc + 3) ls rest)) : W p l e R s m args below meth c H locs cells slots Q (F0 m pc ls st) := by
  refine va_callv (va_runV Sx (hM H.size) cw ⟨preBlind, hrecv, preAt _ hP hK hD hN⟩ rfl hn hsize hst (lv_room hroom) hdg hcl) hS (fun q _ h => freeA hD hS hA q h) (freeA hD hS hA) (fun u t H1 locs1 ht hvm hw hB hz1 hk1 hS1 => ?_)
  obtain ⟨hP1, hK1, hD1⟩ := hB
  rw [ht] at hP1
  exact kk H1 locs1 hP1 (hD1.weaken (fun k q hk hq => freeA hD hS hA q.1 hq)) hS1
theorem callVR {b0 : Nat} (Sx : CallFix p m c cc nL s args Ts own) (hM : CR l y Ws rm D cA ws (.ref b :: As) b0 ws') (cw : CallW R s args own C index y bytes maxL ret Ws rm 0 0 n) (hrecv : ∃ cellB : Cell, H[b]? = some cellB ∧ cellB.vm.isStatics = false ∧ s.vm.findClass C = some cellB.cls)
    (hP : va_P D vwCl ws H) (hK : va_K D vwCl [(cA, .int)] s) (hD : va_D A ws) (hN : NwC s) (hS : va_S A s.heap H locs) (hA : ∀ q : Nat, s.heap.size ≤ q → A q)
    (hn : As.length = n) (hsize : ls.size = nL) (hst : st = As.reverse ++ .ref b :: rest) (hroom : (rest.map fun v => v.category).sum ≤ 8) (hdg : decode cc pc = .ok (.invokevirtual index, 3)) (hcl : cells ≤ R.cells ∧ slots ≤ R.slots)
    (kk : ∀ (H1 : Heap) (locs1 : List Loc), va_P D vwCl ws' H1 → va_D A ws' → va_S A s.heap H1 locs1 → W p l e R s m args below meth c H1 locs1 cells slots Q (F0 m (pc + 3) ls (.ref b0 :: rest))) : W p l e R s m args below meth c H locs cells slots Q (F0 m pc ls st) := by
  refine va_callr (va_runV Sx (hM H.size) cw ⟨preBlind, hrecv, preAt _ hP hK hD hN⟩ rfl hn hsize hst (lv_room hroom) hdg hcl) hS (fun q _ h => freeA hD hS hA q h) (freeA hD hS hA) (fun u a t H1 locs1 ht hvm hw hB hz1 hk1 hS1 => ?_)
  obtain ⟨ha, hP1, hK1, hD1⟩ := hB
  rw [ht] at hP1
  subst ha
  exact kk H1 locs1 hP1 (hD1.weaken (fun k q hk hq => freeA hD hS hA q.1 hq)) hS1
theorem callSI (Sx : CallFix p m c cc nL s args Ts own) (hM : CI l y Ws rm D cA ws As r ws') (cw : CallB R s args own index y bytes maxL ret Ws rm 0 0 n ∧ (Cond.static y).before args s = true)
    (hP : va_P D vwCl ws H) (hK : va_K D vwCl [(cA, .int)] s) (hD : va_D A ws) (hN : NwC s) (hS : va_S A s.heap H locs) (hA : ∀ q : Nat, s.heap.size ≤ q → A q)
    (hn : As.length = n) (hsize : ls.size = nL) (hst : st = As.reverse ++ rest) (hroom : (rest.map fun v => v.category).sum ≤ 8) (hdg : decode cc pc = .ok (.invokestatic index, 3)) (hcl : cells ≤ R.cells ∧ slots ≤ R.slots)
    (kk : ∀ (H1 : Heap) (locs1 : List Loc), va_P D vwCl ws' H1 → va_D A ws' → va_S A s.heap H1 locs1 → W p l e R s m args below meth c H1 locs1 cells slots Q (F0 m (pc + 3) ls (.int r :: rest))) : W p l e R s m args below meth c H locs cells slots Q (F0 m pc ls st) := by
  refine va_calli (va_runS Sx (hM H.size) cw ⟨preBlind, preAt _ hP hK hD hN⟩ rfl hn hsize hst (lv_room hroom) hdg hcl) hS (fun q _ h => freeA hD hS hA q h) (freeA hD hS hA) (fun r1 u t H1 locs1 ht hvm hw hB hz1 hk1 hS1 => ?_)
  obtain ⟨hP1, hK1, hD1⟩ := hB
  rw [ht] at hP1
  subst hw
  exact kk H1 locs1 hP1 (hD1.weaken (fun k q hk hq => freeA hD hS hA q.1 hq)) hS1
theorem callNI {host : String} (Sx : CallFix p m c cc nL s args Ts own) (hM : CI l y Ws rm D cA ws As r ws') (cw : va_CN R s args own index y host bytes maxL ret Ws rm 0 0 n ∧ (Cond.static y).before args s = true ∧ True)
    (hP : va_P D vwCl ws H) (hK : va_K D vwCl [(cA, .int)] s) (hD : va_D A ws) (hN : NwC s) (hS : va_S A s.heap H locs) (hA : ∀ q : Nat, s.heap.size ≤ q → A q)
    (hn : As.length = n) (hsize : ls.size = nL) (hst : st = As.reverse ++ rest) (hroom : (rest.map fun v => v.category).sum ≤ 8) (hdg : decode cc pc = .ok (.invokestatic index, 3)) (hcl : cells ≤ R.cells ∧ slots ≤ R.slots)
    (kk : ∀ (H1 : Heap) (locs1 : List Loc), va_P D vwCl ws' H1 → va_D A ws' → va_S A s.heap H1 locs1 → W p l e R s m args below meth c H1 locs1 cells slots Q (F0 m (pc + 3) ls (.int r :: rest))) : W p l e R s m args below meth c H locs cells slots Q (F0 m pc ls st) := by
  refine va_calli (va_runSN Sx (hM H.size) cw ⟨preBlind, preAt _ hP hK hD hN⟩ rfl hn hsize hst (lv_room hroom) hdg hcl) hS (fun q _ h => freeA hD hS hA q h) (freeA hD hS hA) (fun r1 u t H1 locs1 ht hvm hw hB hz1 hk1 hS1 => ?_)
  obtain ⟨hP1, hK1, hD1⟩ := hB
  rw [ht] at hP1
  subst hw
  exact kk H1 locs1 hP1 (hD1.weaken (fun k q hk hq => freeA hD hS hA q.1 hq)) hS1
end CALLS
/-! a method's entry and its end -/
def eHead (p : Program) (l : Launch) (e : Env) (rm : Room) (s : State) (m : MethodId) (args : Array Value) (below : List Frame) (meth : Method) (c : Code) (D : va_G) (cA : ClassId) (ws : va_W) (cc : ByteArray) (maxL : Nat) (Ws : List Cond) (y : MethodName) (As : List Value) (A : Nat → Prop) (ls : Array Slot) : Prop :=
  p.tables.exec = Jvm.exec ∧ c.code = cc ∧ (∀ w ∈ Ws, w.before args s = true) ∧ s.vm.findClass y.cls = some m.cls ∧ c.maxLocals = maxL ∧ va_P D vwCl ws s.heap ∧ va_K D vwCl [(cA, .int)] s ∧ va_D A ws ∧ NwC s ∧ (∀ q : Nat, s.heap.size ≤ q → A q) ∧ lv_has ls maxL (lv_args 0 As)
section ENTRY
variable {l : Launch} {y : MethodName} {Ws Ws' : List Cond} {rm : Room} {D : va_G} {cA : ClassId} {w : tF → tG → va_W} {As : List Value} {cc : ByteArray} {maxL : Nat}
theorem metIm {F G F' G' : _} {r : Int32} (hy : plainName y.cls = true) (hw : Ws = Cond.code y cc maxL (some .int) :: Ws') (hlen : (lg_sl As).length ≤ maxL)
    (body : ∀ (p : Program) (e : Env) (s : State) (m : MethodId) (args : Array Value) (below : List Frame) (meth : Method) (c : Code) (A : Nat → Prop) (ls : Array Slot) (Q : State → Prop), eHead p l e rm s m args below meth c D cA (w F G) cc maxL Ws y As A ls →
      (∀ (H : Heap) (locs : List Loc) (pc : Nat) (ls : Array Slot) (v : Int32) (F1 : tF) (G1 : tG), decode cc pc = .ok (.ireturn, 1) → some (v, F1, G1) = some (r, F', G') → va_P D vwCl (w F1 G1) H → va_D A (w F1 G1) → va_S A s.heap H locs → W p l e rm s m args below meth c H locs 0 0 Q (F0 m pc ls [.int v])) →
      W p l e rm s m args below meth c s.heap [] 0 0 Q (F0 m 0 ls [])) : CI l y Ws rm D cA (w F G) As r (w F' G') := by
  intro sz
  refine Met.ofW (cc := cc) (maxL := maxL) (ret := some .int) hy hw ?_
  intro p e s m args below meth c s₁ B hml hv
  obtain ⟨rfl, hsz, hP, hK, hD0, hN⟩ := hv
  subst hsz
  have hl := lv_entry As (n := maxL) hlen
  have hr := B.returns
  have hlocks := B.notSynchronized
  rw [lg_entry_eq]
  refine body p e s m _ below meth c (va_A (w F G) s.heap.size) _ _ ⟨B.exec, B.bytes, atoms_spec (ws := Ws) B.pre, findClass_of_methodNamed B.named, hml, hP, hK, hD0.self, hN, fun q h => Or.inr h, hl⟩ ?_
  intro H locs pc ls v F1 G1 hdg h hP hD hS
  cases h
  exact W.iret B.exec B.bytes hr (fun t ht hW => ⟨⟨_, (), rfl, rfl, by rw [ht]; exact hP, va_K.moved hW.alike hK, hD⟩, hS.F ht⟩) hS.2.2 hdg hlocks
theorem metIr {F G : _} {r : Int32} (hy : plainName y.cls = true) (hw : Ws = Cond.code y cc maxL (some .int) :: Ws') (hlen : (lg_sl As).length ≤ maxL)
    (body : ∀ (p : Program) (e : Env) (s : State) (m : MethodId) (args : Array Value) (below : List Frame) (meth : Method) (c : Code) (A : Nat → Prop) (ls : Array Slot) (Q : State → Prop), eHead p l e rm s m args below meth c D cA (w F G) cc maxL Ws y As A ls →
      (∀ (H : Heap) (locs : List Loc) (pc : Nat) (ls : Array Slot) (v : Int32), decode cc pc = .ok (.ireturn, 1) → some v = some r → va_P D vwCl (w F G) H → va_D A (w F G) → va_S A s.heap H locs → W p l e rm s m args below meth c H locs 0 0 Q (F0 m pc ls [.int v])) →
      W p l e rm s m args below meth c s.heap [] 0 0 Q (F0 m 0 ls [])) : CI l y Ws rm D cA (w F G) As r (w F G) := by
  intro sz
  refine Met.ofW (cc := cc) (maxL := maxL) (ret := some .int) hy hw ?_
  intro p e s m args below meth c s₁ B hml hv
  obtain ⟨rfl, hsz, hP, hK, hD0, hN⟩ := hv
  subst hsz
  have hl := lv_entry As (n := maxL) hlen
  have hr := B.returns
  have hlocks := B.notSynchronized
  rw [lg_entry_eq]
  refine body p e s m _ below meth c (va_A (w F G) s.heap.size) _ _ ⟨B.exec, B.bytes, atoms_spec (ws := Ws) B.pre, findClass_of_methodNamed B.named, hml, hP, hK, hD0.self, hN, fun q h => Or.inr h, hl⟩ ?_
  intro H locs pc ls v hdg h hP hD hS
  cases h
  exact W.iret B.exec B.bytes hr (fun t ht hW => ⟨⟨_, (), rfl, rfl, by rw [ht]; exact hP, va_K.moved hW.alike hK, hD⟩, hS.F ht⟩) hS.2.2 hdg hlocks
theorem metZm {F G F' G' : _} {r : Int32} (hy : plainName y.cls = true) (hw : Ws = Cond.code y cc maxL (some .boolean) :: Ws') (hlen : (lg_sl As).length ≤ maxL)
    (body : ∀ (p : Program) (e : Env) (s : State) (m : MethodId) (args : Array Value) (below : List Frame) (meth : Method) (c : Code) (A : Nat → Prop) (ls : Array Slot) (Q : State → Prop), eHead p l e rm s m args below meth c D cA (w F G) cc maxL Ws y As A ls →
      (∀ (H : Heap) (locs : List Loc) (pc : Nat) (ls : Array Slot) (v : Int32) (F1 : tF) (G1 : tG), decode cc pc = .ok (.ireturn, 1) → btB v = true → some (v, F1, G1) = some (r, F', G') → va_P D vwCl (w F1 G1) H → va_D A (w F1 G1) → va_S A s.heap H locs → W p l e rm s m args below meth c H locs 0 0 Q (F0 m pc ls [.int v])) →
      W p l e rm s m args below meth c s.heap [] 0 0 Q (F0 m 0 ls [])) : CI l y Ws rm D cA (w F G) As r (w F' G') := by
  intro sz
  refine Met.ofW (cc := cc) (maxL := maxL) (ret := some .boolean) hy hw ?_
  intro p e s m args below meth c s₁ B hml hv
  obtain ⟨rfl, hsz, hP, hK, hD0, hN⟩ := hv
  subst hsz
  have hl := lv_entry As (n := maxL) hlen
  have hr := B.returns
  have hlocks := B.notSynchronized
  rw [lg_entry_eq]
  refine body p e s m _ below meth c (va_A (w F G) s.heap.size) _ _ ⟨B.exec, B.bytes, atoms_spec (ws := Ws) B.pre, findClass_of_methodNamed B.named, hml, hP, hK, hD0.self, hN, fun q h => Or.inr h, hl⟩ ?_
  intro H locs pc ls v F1 G1 hdg hbt h hP hD hS
  cases h
  exact W.zret B.exec B.bytes hr (btB_nar hbt) (fun t ht hW => ⟨⟨_, (), rfl, rfl, by rw [ht]; exact hP, va_K.moved hW.alike hK, hD⟩, hS.F ht⟩) hS.2.2 hdg hlocks
theorem metZr {F G : _} {r : Int32} (hy : plainName y.cls = true) (hw : Ws = Cond.code y cc maxL (some .boolean) :: Ws') (hlen : (lg_sl As).length ≤ maxL)
    (body : ∀ (p : Program) (e : Env) (s : State) (m : MethodId) (args : Array Value) (below : List Frame) (meth : Method) (c : Code) (A : Nat → Prop) (ls : Array Slot) (Q : State → Prop), eHead p l e rm s m args below meth c D cA (w F G) cc maxL Ws y As A ls →
      (∀ (H : Heap) (locs : List Loc) (pc : Nat) (ls : Array Slot) (v : Int32), decode cc pc = .ok (.ireturn, 1) → btB v = true → some v = some r → va_P D vwCl (w F G) H → va_D A (w F G) → va_S A s.heap H locs → W p l e rm s m args below meth c H locs 0 0 Q (F0 m pc ls [.int v])) →
      W p l e rm s m args below meth c s.heap [] 0 0 Q (F0 m 0 ls [])) : CI l y Ws rm D cA (w F G) As r (w F G) := by
  intro sz
  refine Met.ofW (cc := cc) (maxL := maxL) (ret := some .boolean) hy hw ?_
  intro p e s m args below meth c s₁ B hml hv
  obtain ⟨rfl, hsz, hP, hK, hD0, hN⟩ := hv
  subst hsz
  have hl := lv_entry As (n := maxL) hlen
  have hr := B.returns
  have hlocks := B.notSynchronized
  rw [lg_entry_eq]
  refine body p e s m _ below meth c (va_A (w F G) s.heap.size) _ _ ⟨B.exec, B.bytes, atoms_spec (ws := Ws) B.pre, findClass_of_methodNamed B.named, hml, hP, hK, hD0.self, hN, fun q h => Or.inr h, hl⟩ ?_
  intro H locs pc ls v hdg hbt h hP hD hS
  cases h
  exact W.zret B.exec B.bytes hr (btB_nar hbt) (fun t ht hW => ⟨⟨_, (), rfl, rfl, by rw [ht]; exact hP, va_K.moved hW.alike hK, hD⟩, hS.F ht⟩) hS.2.2 hdg hlocks
theorem metVm {F G F' G' : _} (hy : plainName y.cls = true) (hw : Ws = Cond.code y cc maxL none :: Ws') (hlen : (lg_sl As).length ≤ maxL)
    (body : ∀ (p : Program) (e : Env) (s : State) (m : MethodId) (args : Array Value) (below : List Frame) (meth : Method) (c : Code) (A : Nat → Prop) (ls : Array Slot) (Q : State → Prop), eHead p l e rm s m args below meth c D cA (w F G) cc maxL Ws y As A ls →
      (∀ (H : Heap) (locs : List Loc) (pc : Nat) (ls : Array Slot) (F1 : tF) (G1 : tG), decode cc pc = .ok (.return_, 1) → some (F1, G1) = some (F', G') → va_P D vwCl (w F1 G1) H → va_D A (w F1 G1) → va_S A s.heap H locs → W p l e rm s m args below meth c H locs 0 0 Q (F0 m pc ls [])) →
      W p l e rm s m args below meth c s.heap [] 0 0 Q (F0 m 0 ls [])) : CV l y Ws rm D cA (w F G) As (w F' G') := by
  intro sz
  refine Met.ofW (cc := cc) (maxL := maxL) (ret := none) hy hw ?_
  intro p e s m args below meth c s₁ B hml hv
  obtain ⟨rfl, hsz, hP, hK, hD0, hN⟩ := hv
  subst hsz
  have hl := lv_entry As (n := maxL) hlen
  have hr := B.returns
  have hlocks := B.notSynchronized
  rw [lg_entry_eq]
  refine body p e s m _ below meth c (va_A (w F G) s.heap.size) _ _ ⟨B.exec, B.bytes, atoms_spec (ws := Ws) B.pre, findClass_of_methodNamed B.named, hml, hP, hK, hD0.self, hN, fun q h => Or.inr h, hl⟩ ?_
  intro H locs pc ls F1 G1 hdg h hP hD hS
  cases h
  exact W.vret B.exec B.bytes hr (fun t ht hW => ⟨⟨(), rfl, trivial, by rw [ht]; exact hP, va_K.moved hW.alike hK, hD⟩, hS.F ht⟩) hS.2.2 hdg hlocks
theorem metRm {F G F' G' : _} {b : Nat} {cn : String} (hy : plainName y.cls = true) (hw : Ws = Cond.code y cc maxL (some (.object cn)) :: Ws') (hlen : (lg_sl As).length ≤ maxL)
    (body : ∀ (p : Program) (e : Env) (s : State) (m : MethodId) (args : Array Value) (below : List Frame) (meth : Method) (c : Code) (A : Nat → Prop) (ls : Array Slot) (Q : State → Prop), eHead p l e rm s m args below meth c D cA (w F G) cc maxL Ws y As A ls →
      (∀ (H : Heap) (locs : List Loc) (pc : Nat) (ls : Array Slot) (F1 : tF) (G1 : tG), decode cc pc = .ok (.areturn, 1) → some (F1, G1) = some (F', G') → va_P D vwCl (w F1 G1) H → va_D A (w F1 G1) → va_S A s.heap H locs → W p l e rm s m args below meth c H locs 0 0 Q (F0 m pc ls [.ref b])) →
      W p l e rm s m args below meth c s.heap [] 0 0 Q (F0 m 0 ls [])) : CR l y Ws rm D cA (w F G) As b (w F' G') := by
  intro sz
  refine Met.ofW (cc := cc) (maxL := maxL) (ret := some (.object cn)) hy hw ?_
  intro p e s m args below meth c s₁ B hml hv
  obtain ⟨rfl, hsz, hP, hK, hD0, hN⟩ := hv
  subst hsz
  have hl := lv_entry As (n := maxL) hlen
  have hr := B.returns
  have hlocks := B.notSynchronized
  rw [lg_entry_eq]
  refine body p e s m _ below meth c (va_A (w F G) s.heap.size) _ _ ⟨B.exec, B.bytes, atoms_spec (ws := Ws) B.pre, findClass_of_methodNamed B.named, hml, hP, hK, hD0.self, hN, fun q h => Or.inr h, hl⟩ ?_
  intro H locs pc ls F1 G1 hdg h hP hD hS
  cases h
  exact W.aret B.exec B.bytes hr (Or.inl ⟨cn, rfl⟩) (Or.inr ⟨b, rfl⟩) (fun t ht hW => ⟨⟨(), b, rfl, trivial, rfl, by rw [ht]; exact hP, va_K.moved hW.alike hK, hD⟩, hS.F ht⟩) hS.2.2 hdg hlocks
end ENTRY
