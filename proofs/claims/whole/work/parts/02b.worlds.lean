def stG (G : tG) (j : Nat) (i : Int32) (v : Int32) : tG := upG G j (upd (G j) i.toNatClampNeg v)
theorem ne_toInt {x y : Int32} (h : ¬ x = y) : x.toInt ≠ y.toInt := fun e => h (Int32.toInt_inj.mp e)
-- BellBook: bell=ref, crew=ref, wreck=ref, line=ref, book=ref, minute=F0
def vX7 (ad : Nat → Nat) (F : tF) : List Value := [.ref (ad 1), .ref (ad 2), .ref (ad 9), .ref (ad 22), .ref (ad 27), .int (F 0)]
-- BellBook$Bell: room=F1, depth=F2, fresh=F3, foul=F4, sent=F5, breathed=F6, spilled=F7, barrels=F8, breathLacks=F9, stayLacks=F10, breath=F11, limit=F12
def vX0 (ad : Nat → Nat) (F : tF) : List Value := [.int (F 1), .int (F 2), .int (F 3), .int (F 4), .int (F 5), .int (F 6), .int (F 7), .int (F 8), .int (F 9), .int (F 10), .int (F 11), .int (F 12)]
-- BellBook$Crew: where=G0, square=G1, hose=G2, stayed=G3, task=G4, length=G5, stay=F13, bellSquare=F14
def vX2 (ad : Nat → Nat) (F : tF) : List Value := [.ref (ad 3), .ref (ad 4), .ref (ad 5), .ref (ad 6), .ref (ad 7), .ref (ad 8), .int (F 13), .int (F 14)]
-- BellBook$Wreck: square=G6, worth=G7, work=G8, odds=G9, worked=G10, under=G11, tides=ref, plan=ref, count=F15, raised=F16, tangled=F17, planStands=F18
def vX6 (ad : Nat → Nat) (F : tF) : List Value := [.ref (ad 10), .ref (ad 11), .ref (ad 12), .ref (ad 13), .ref (ad 14), .ref (ad 15), .ref (ad 16), .ref (ad 18), .int (F 15), .int (F 16), .int (F 17), .int (F 18)]
-- BellBook$Tides: length=G12, count=F19
def vX5 (ad : Nat → Nat) (F : tF) : List Value := [.ref (ad 17), .int (F 19)]
-- BellBook$Plan: order=G13, when=G14, count=F20, hope=F21, toil=F22, latest=G15
def vX4 (ad : Nat → Nat) (F : tF) : List Value := [.ref (ad 19), .ref (ad 20), .int (F 20), .int (F 21), .int (F 22), .ref (ad 21)]
-- BellBook$Line: first=G16, second=G17, heardFirst=G18, heardSecond=G19, hearings=F23
def vX3 (ad : Nat → Nat) (F : tF) : List Value := [.ref (ad 23), .ref (ad 24), .ref (ad 25), .ref (ad 26), .int (F 23)]
-- BellBook$Book: minutes=G20, men=G21, places=G22, count=F24, seen=F25, sure=F26, dark=F27, longestSure=F28, longestMaybe=F29, sureRow=F30, maybeRow=F31
def vX1 (ad : Nat → Nat) (F : tF) : List Value := [.ref (ad 28), .ref (ad 29), .ref (ad 30), .int (F 24), .int (F 25), .int (F 26), .int (F 27), .int (F 28), .int (F 29), .int (F 30), .int (F 31)]
def wC (ad : Nat → Nat) (cA : ClassId) (F : tF) (G : tG) : va_W := [(ad 0, .inr (7, vX7 ad F)), (ad 1, .inr (0, vX0 ad F)), (ad 2, .inr (2, vX2 ad F)), (ad 3, .inl (cA, 6, .inl (G 0))), (ad 4, .inl (cA, 6, .inl (G 1))), (ad 5, .inl (cA, 6, .inl (G 2))), (ad 6, .inl (cA, 6, .inl (G 3))), (ad 7, .inl (cA, 6, .inl (G 4))), (ad 8, .inl (cA, 3, .inl (G 5))), (ad 9, .inr (6, vX6 ad F)), (ad 10, .inl (cA, 12, .inl (G 6))), (ad 11, .inl (cA, 12, .inl (G 7))), (ad 12, .inl (cA, 12, .inl (G 8))), (ad 13, .inl (cA, 12, .inl (G 9))), (ad 14, .inl (cA, 12, .inl (G 10))), (ad 15, .inl (cA, 12, .inl (G 11))), (ad 16, .inr (5, vX5 ad F)), (ad 17, .inl (cA, 5, .inl (G 12))), (ad 18, .inr (4, vX4 ad F)), (ad 19, .inl (cA, 12, .inl (G 13))), (ad 20, .inl (cA, 12, .inl (G 14))), (ad 21, .inl (cA, 4096, .inl (G 15))), (ad 22, .inr (3, vX3 ad F)), (ad 23, .inl (cA, 12, .inl (G 16))), (ad 24, .inl (cA, 12, .inl (G 17))), (ad 25, .inl (cA, 4, .inl (G 18))), (ad 26, .inl (cA, 4, .inl (G 19))), (ad 27, .inr (1, vX1 ad F)), (ad 28, .inl (cA, 40, .inl (G 20))), (ad 29, .inl (cA, 40, .inl (G 21))), (ad 30, .inl (cA, 40, .inl (G 22)))]
theorem wCg0 {ad : Nat → Nat} {cA : ClassId} {F : tF} {G : tG} : (wC ad cA F G)[0]? = some (ad 0, .inr (7, vX7 ad F)) := rfl
theorem wCp0 {ad : Nat → Nat} {cA : ClassId} {F F1 : tF} {G : tG} {v : Int32} (e : F1 = upd F 0 v) : (wC ad cA F G).set 0 (ad 0, .inr (7, (vX7 ad F).set 5 (.int v))) = wC ad cA F1 G := by subst e; rfl
theorem wCg1 {ad : Nat → Nat} {cA : ClassId} {F : tF} {G : tG} : (wC ad cA F G)[1]? = some (ad 1, .inr (0, vX0 ad F)) := rfl
theorem wCp1 {ad : Nat → Nat} {cA : ClassId} {F F1 : tF} {G : tG} {v : Int32} (e : F1 = upd F 1 v) : (wC ad cA F G).set 1 (ad 1, .inr (0, (vX0 ad F).set 0 (.int v))) = wC ad cA F1 G := by subst e; rfl
theorem wCp2 {ad : Nat → Nat} {cA : ClassId} {F F1 : tF} {G : tG} {v : Int32} (e : F1 = upd F 2 v) : (wC ad cA F G).set 1 (ad 1, .inr (0, (vX0 ad F).set 1 (.int v))) = wC ad cA F1 G := by subst e; rfl
theorem wCp3 {ad : Nat → Nat} {cA : ClassId} {F F1 : tF} {G : tG} {v : Int32} (e : F1 = upd F 3 v) : (wC ad cA F G).set 1 (ad 1, .inr (0, (vX0 ad F).set 2 (.int v))) = wC ad cA F1 G := by subst e; rfl
theorem wCp4 {ad : Nat → Nat} {cA : ClassId} {F F1 : tF} {G : tG} {v : Int32} (e : F1 = upd F 4 v) : (wC ad cA F G).set 1 (ad 1, .inr (0, (vX0 ad F).set 3 (.int v))) = wC ad cA F1 G := by subst e; rfl
theorem wCp5 {ad : Nat → Nat} {cA : ClassId} {F F1 : tF} {G : tG} {v : Int32} (e : F1 = upd F 5 v) : (wC ad cA F G).set 1 (ad 1, .inr (0, (vX0 ad F).set 4 (.int v))) = wC ad cA F1 G := by subst e; rfl
theorem wCp6 {ad : Nat → Nat} {cA : ClassId} {F F1 : tF} {G : tG} {v : Int32} (e : F1 = upd F 6 v) : (wC ad cA F G).set 1 (ad 1, .inr (0, (vX0 ad F).set 5 (.int v))) = wC ad cA F1 G := by subst e; rfl
theorem wCp7 {ad : Nat → Nat} {cA : ClassId} {F F1 : tF} {G : tG} {v : Int32} (e : F1 = upd F 7 v) : (wC ad cA F G).set 1 (ad 1, .inr (0, (vX0 ad F).set 6 (.int v))) = wC ad cA F1 G := by subst e; rfl
theorem wCp8 {ad : Nat → Nat} {cA : ClassId} {F F1 : tF} {G : tG} {v : Int32} (e : F1 = upd F 8 v) : (wC ad cA F G).set 1 (ad 1, .inr (0, (vX0 ad F).set 7 (.int v))) = wC ad cA F1 G := by subst e; rfl
theorem wCp9 {ad : Nat → Nat} {cA : ClassId} {F F1 : tF} {G : tG} {v : Int32} (e : F1 = upd F 9 v) : (wC ad cA F G).set 1 (ad 1, .inr (0, (vX0 ad F).set 8 (.int v))) = wC ad cA F1 G := by subst e; rfl
theorem wCp10 {ad : Nat → Nat} {cA : ClassId} {F F1 : tF} {G : tG} {v : Int32} (e : F1 = upd F 10 v) : (wC ad cA F G).set 1 (ad 1, .inr (0, (vX0 ad F).set 9 (.int v))) = wC ad cA F1 G := by subst e; rfl
theorem wCp11 {ad : Nat → Nat} {cA : ClassId} {F F1 : tF} {G : tG} {v : Int32} (e : F1 = upd F 11 v) : (wC ad cA F G).set 1 (ad 1, .inr (0, (vX0 ad F).set 10 (.int v))) = wC ad cA F1 G := by subst e; rfl
theorem wCp12 {ad : Nat → Nat} {cA : ClassId} {F F1 : tF} {G : tG} {v : Int32} (e : F1 = upd F 12 v) : (wC ad cA F G).set 1 (ad 1, .inr (0, (vX0 ad F).set 11 (.int v))) = wC ad cA F1 G := by subst e; rfl
theorem wCg2 {ad : Nat → Nat} {cA : ClassId} {F : tF} {G : tG} : (wC ad cA F G)[2]? = some (ad 2, .inr (2, vX2 ad F)) := rfl
theorem wCp13 {ad : Nat → Nat} {cA : ClassId} {F F1 : tF} {G : tG} {v : Int32} (e : F1 = upd F 13 v) : (wC ad cA F G).set 2 (ad 2, .inr (2, (vX2 ad F).set 6 (.int v))) = wC ad cA F1 G := by subst e; rfl
theorem wCp14 {ad : Nat → Nat} {cA : ClassId} {F F1 : tF} {G : tG} {v : Int32} (e : F1 = upd F 14 v) : (wC ad cA F G).set 2 (ad 2, .inr (2, (vX2 ad F).set 7 (.int v))) = wC ad cA F1 G := by subst e; rfl
theorem wCg3 {ad : Nat → Nat} {cA : ClassId} {F : tF} {G : tG} : (wC ad cA F G)[3]? = some (ad 3, .inl (cA, 6, .inl (G 0))) := rfl
theorem wCa0 {ad : Nat → Nat} {cA : ClassId} {F : tF} {G G1 : tG} {i v : Int32} (e : G1 = stG G 0 i v) : (wC ad cA F G).set 3 (ad 3, .inl (cA, 6, .inl (upd (G 0) i.toNatClampNeg v))) = wC ad cA F G1 := by subst e; rfl
theorem wCg4 {ad : Nat → Nat} {cA : ClassId} {F : tF} {G : tG} : (wC ad cA F G)[4]? = some (ad 4, .inl (cA, 6, .inl (G 1))) := rfl
theorem wCa1 {ad : Nat → Nat} {cA : ClassId} {F : tF} {G G1 : tG} {i v : Int32} (e : G1 = stG G 1 i v) : (wC ad cA F G).set 4 (ad 4, .inl (cA, 6, .inl (upd (G 1) i.toNatClampNeg v))) = wC ad cA F G1 := by subst e; rfl
theorem wCg5 {ad : Nat → Nat} {cA : ClassId} {F : tF} {G : tG} : (wC ad cA F G)[5]? = some (ad 5, .inl (cA, 6, .inl (G 2))) := rfl
theorem wCa2 {ad : Nat → Nat} {cA : ClassId} {F : tF} {G G1 : tG} {i v : Int32} (e : G1 = stG G 2 i v) : (wC ad cA F G).set 5 (ad 5, .inl (cA, 6, .inl (upd (G 2) i.toNatClampNeg v))) = wC ad cA F G1 := by subst e; rfl
theorem wCg6 {ad : Nat → Nat} {cA : ClassId} {F : tF} {G : tG} : (wC ad cA F G)[6]? = some (ad 6, .inl (cA, 6, .inl (G 3))) := rfl
theorem wCa3 {ad : Nat → Nat} {cA : ClassId} {F : tF} {G G1 : tG} {i v : Int32} (e : G1 = stG G 3 i v) : (wC ad cA F G).set 6 (ad 6, .inl (cA, 6, .inl (upd (G 3) i.toNatClampNeg v))) = wC ad cA F G1 := by subst e; rfl
theorem wCg7 {ad : Nat → Nat} {cA : ClassId} {F : tF} {G : tG} : (wC ad cA F G)[7]? = some (ad 7, .inl (cA, 6, .inl (G 4))) := rfl
theorem wCa4 {ad : Nat → Nat} {cA : ClassId} {F : tF} {G G1 : tG} {i v : Int32} (e : G1 = stG G 4 i v) : (wC ad cA F G).set 7 (ad 7, .inl (cA, 6, .inl (upd (G 4) i.toNatClampNeg v))) = wC ad cA F G1 := by subst e; rfl
theorem wCg8 {ad : Nat → Nat} {cA : ClassId} {F : tF} {G : tG} : (wC ad cA F G)[8]? = some (ad 8, .inl (cA, 3, .inl (G 5))) := rfl
theorem wCa5 {ad : Nat → Nat} {cA : ClassId} {F : tF} {G G1 : tG} {i v : Int32} (e : G1 = stG G 5 i v) : (wC ad cA F G).set 8 (ad 8, .inl (cA, 3, .inl (upd (G 5) i.toNatClampNeg v))) = wC ad cA F G1 := by subst e; rfl
theorem wCg9 {ad : Nat → Nat} {cA : ClassId} {F : tF} {G : tG} : (wC ad cA F G)[9]? = some (ad 9, .inr (6, vX6 ad F)) := rfl
theorem wCp15 {ad : Nat → Nat} {cA : ClassId} {F F1 : tF} {G : tG} {v : Int32} (e : F1 = upd F 15 v) : (wC ad cA F G).set 9 (ad 9, .inr (6, (vX6 ad F).set 8 (.int v))) = wC ad cA F1 G := by subst e; rfl
theorem wCp16 {ad : Nat → Nat} {cA : ClassId} {F F1 : tF} {G : tG} {v : Int32} (e : F1 = upd F 16 v) : (wC ad cA F G).set 9 (ad 9, .inr (6, (vX6 ad F).set 9 (.int v))) = wC ad cA F1 G := by subst e; rfl
theorem wCp17 {ad : Nat → Nat} {cA : ClassId} {F F1 : tF} {G : tG} {v : Int32} (e : F1 = upd F 17 v) : (wC ad cA F G).set 9 (ad 9, .inr (6, (vX6 ad F).set 10 (.int v))) = wC ad cA F1 G := by subst e; rfl
theorem wCp18 {ad : Nat → Nat} {cA : ClassId} {F F1 : tF} {G : tG} {v : Int32} (e : F1 = upd F 18 v) : (wC ad cA F G).set 9 (ad 9, .inr (6, (vX6 ad F).set 11 (.int v))) = wC ad cA F1 G := by subst e; rfl
theorem wCg10 {ad : Nat → Nat} {cA : ClassId} {F : tF} {G : tG} : (wC ad cA F G)[10]? = some (ad 10, .inl (cA, 12, .inl (G 6))) := rfl
theorem wCa6 {ad : Nat → Nat} {cA : ClassId} {F : tF} {G G1 : tG} {i v : Int32} (e : G1 = stG G 6 i v) : (wC ad cA F G).set 10 (ad 10, .inl (cA, 12, .inl (upd (G 6) i.toNatClampNeg v))) = wC ad cA F G1 := by subst e; rfl
theorem wCg11 {ad : Nat → Nat} {cA : ClassId} {F : tF} {G : tG} : (wC ad cA F G)[11]? = some (ad 11, .inl (cA, 12, .inl (G 7))) := rfl
theorem wCa7 {ad : Nat → Nat} {cA : ClassId} {F : tF} {G G1 : tG} {i v : Int32} (e : G1 = stG G 7 i v) : (wC ad cA F G).set 11 (ad 11, .inl (cA, 12, .inl (upd (G 7) i.toNatClampNeg v))) = wC ad cA F G1 := by subst e; rfl
theorem wCg12 {ad : Nat → Nat} {cA : ClassId} {F : tF} {G : tG} : (wC ad cA F G)[12]? = some (ad 12, .inl (cA, 12, .inl (G 8))) := rfl
theorem wCa8 {ad : Nat → Nat} {cA : ClassId} {F : tF} {G G1 : tG} {i v : Int32} (e : G1 = stG G 8 i v) : (wC ad cA F G).set 12 (ad 12, .inl (cA, 12, .inl (upd (G 8) i.toNatClampNeg v))) = wC ad cA F G1 := by subst e; rfl
theorem wCg13 {ad : Nat → Nat} {cA : ClassId} {F : tF} {G : tG} : (wC ad cA F G)[13]? = some (ad 13, .inl (cA, 12, .inl (G 9))) := rfl
theorem wCa9 {ad : Nat → Nat} {cA : ClassId} {F : tF} {G G1 : tG} {i v : Int32} (e : G1 = stG G 9 i v) : (wC ad cA F G).set 13 (ad 13, .inl (cA, 12, .inl (upd (G 9) i.toNatClampNeg v))) = wC ad cA F G1 := by subst e; rfl
theorem wCg14 {ad : Nat → Nat} {cA : ClassId} {F : tF} {G : tG} : (wC ad cA F G)[14]? = some (ad 14, .inl (cA, 12, .inl (G 10))) := rfl
theorem wCa10 {ad : Nat → Nat} {cA : ClassId} {F : tF} {G G1 : tG} {i v : Int32} (e : G1 = stG G 10 i v) : (wC ad cA F G).set 14 (ad 14, .inl (cA, 12, .inl (upd (G 10) i.toNatClampNeg v))) = wC ad cA F G1 := by subst e; rfl
theorem wCg15 {ad : Nat → Nat} {cA : ClassId} {F : tF} {G : tG} : (wC ad cA F G)[15]? = some (ad 15, .inl (cA, 12, .inl (G 11))) := rfl
theorem wCa11 {ad : Nat → Nat} {cA : ClassId} {F : tF} {G G1 : tG} {i v : Int32} (e : G1 = stG G 11 i v) : (wC ad cA F G).set 15 (ad 15, .inl (cA, 12, .inl (upd (G 11) i.toNatClampNeg v))) = wC ad cA F G1 := by subst e; rfl
theorem wCg16 {ad : Nat → Nat} {cA : ClassId} {F : tF} {G : tG} : (wC ad cA F G)[16]? = some (ad 16, .inr (5, vX5 ad F)) := rfl
theorem wCp19 {ad : Nat → Nat} {cA : ClassId} {F F1 : tF} {G : tG} {v : Int32} (e : F1 = upd F 19 v) : (wC ad cA F G).set 16 (ad 16, .inr (5, (vX5 ad F).set 1 (.int v))) = wC ad cA F1 G := by subst e; rfl
theorem wCg17 {ad : Nat → Nat} {cA : ClassId} {F : tF} {G : tG} : (wC ad cA F G)[17]? = some (ad 17, .inl (cA, 5, .inl (G 12))) := rfl
theorem wCa12 {ad : Nat → Nat} {cA : ClassId} {F : tF} {G G1 : tG} {i v : Int32} (e : G1 = stG G 12 i v) : (wC ad cA F G).set 17 (ad 17, .inl (cA, 5, .inl (upd (G 12) i.toNatClampNeg v))) = wC ad cA F G1 := by subst e; rfl
theorem wCg18 {ad : Nat → Nat} {cA : ClassId} {F : tF} {G : tG} : (wC ad cA F G)[18]? = some (ad 18, .inr (4, vX4 ad F)) := rfl
theorem wCp20 {ad : Nat → Nat} {cA : ClassId} {F F1 : tF} {G : tG} {v : Int32} (e : F1 = upd F 20 v) : (wC ad cA F G).set 18 (ad 18, .inr (4, (vX4 ad F).set 2 (.int v))) = wC ad cA F1 G := by subst e; rfl
theorem wCp21 {ad : Nat → Nat} {cA : ClassId} {F F1 : tF} {G : tG} {v : Int32} (e : F1 = upd F 21 v) : (wC ad cA F G).set 18 (ad 18, .inr (4, (vX4 ad F).set 3 (.int v))) = wC ad cA F1 G := by subst e; rfl
theorem wCp22 {ad : Nat → Nat} {cA : ClassId} {F F1 : tF} {G : tG} {v : Int32} (e : F1 = upd F 22 v) : (wC ad cA F G).set 18 (ad 18, .inr (4, (vX4 ad F).set 4 (.int v))) = wC ad cA F1 G := by subst e; rfl
theorem wCg19 {ad : Nat → Nat} {cA : ClassId} {F : tF} {G : tG} : (wC ad cA F G)[19]? = some (ad 19, .inl (cA, 12, .inl (G 13))) := rfl
theorem wCa13 {ad : Nat → Nat} {cA : ClassId} {F : tF} {G G1 : tG} {i v : Int32} (e : G1 = stG G 13 i v) : (wC ad cA F G).set 19 (ad 19, .inl (cA, 12, .inl (upd (G 13) i.toNatClampNeg v))) = wC ad cA F G1 := by subst e; rfl
theorem wCg20 {ad : Nat → Nat} {cA : ClassId} {F : tF} {G : tG} : (wC ad cA F G)[20]? = some (ad 20, .inl (cA, 12, .inl (G 14))) := rfl
theorem wCa14 {ad : Nat → Nat} {cA : ClassId} {F : tF} {G G1 : tG} {i v : Int32} (e : G1 = stG G 14 i v) : (wC ad cA F G).set 20 (ad 20, .inl (cA, 12, .inl (upd (G 14) i.toNatClampNeg v))) = wC ad cA F G1 := by subst e; rfl
theorem wCg21 {ad : Nat → Nat} {cA : ClassId} {F : tF} {G : tG} : (wC ad cA F G)[21]? = some (ad 21, .inl (cA, 4096, .inl (G 15))) := rfl
theorem wCa15 {ad : Nat → Nat} {cA : ClassId} {F : tF} {G G1 : tG} {i v : Int32} (e : G1 = stG G 15 i v) : (wC ad cA F G).set 21 (ad 21, .inl (cA, 4096, .inl (upd (G 15) i.toNatClampNeg v))) = wC ad cA F G1 := by subst e; rfl
theorem wCg22 {ad : Nat → Nat} {cA : ClassId} {F : tF} {G : tG} : (wC ad cA F G)[22]? = some (ad 22, .inr (3, vX3 ad F)) := rfl
theorem wCp23 {ad : Nat → Nat} {cA : ClassId} {F F1 : tF} {G : tG} {v : Int32} (e : F1 = upd F 23 v) : (wC ad cA F G).set 22 (ad 22, .inr (3, (vX3 ad F).set 4 (.int v))) = wC ad cA F1 G := by subst e; rfl
theorem wCg23 {ad : Nat → Nat} {cA : ClassId} {F : tF} {G : tG} : (wC ad cA F G)[23]? = some (ad 23, .inl (cA, 12, .inl (G 16))) := rfl
theorem wCa16 {ad : Nat → Nat} {cA : ClassId} {F : tF} {G G1 : tG} {i v : Int32} (e : G1 = stG G 16 i v) : (wC ad cA F G).set 23 (ad 23, .inl (cA, 12, .inl (upd (G 16) i.toNatClampNeg v))) = wC ad cA F G1 := by subst e; rfl
theorem wCg24 {ad : Nat → Nat} {cA : ClassId} {F : tF} {G : tG} : (wC ad cA F G)[24]? = some (ad 24, .inl (cA, 12, .inl (G 17))) := rfl
theorem wCa17 {ad : Nat → Nat} {cA : ClassId} {F : tF} {G G1 : tG} {i v : Int32} (e : G1 = stG G 17 i v) : (wC ad cA F G).set 24 (ad 24, .inl (cA, 12, .inl (upd (G 17) i.toNatClampNeg v))) = wC ad cA F G1 := by subst e; rfl
theorem wCg25 {ad : Nat → Nat} {cA : ClassId} {F : tF} {G : tG} : (wC ad cA F G)[25]? = some (ad 25, .inl (cA, 4, .inl (G 18))) := rfl
theorem wCa18 {ad : Nat → Nat} {cA : ClassId} {F : tF} {G G1 : tG} {i v : Int32} (e : G1 = stG G 18 i v) : (wC ad cA F G).set 25 (ad 25, .inl (cA, 4, .inl (upd (G 18) i.toNatClampNeg v))) = wC ad cA F G1 := by subst e; rfl
theorem wCg26 {ad : Nat → Nat} {cA : ClassId} {F : tF} {G : tG} : (wC ad cA F G)[26]? = some (ad 26, .inl (cA, 4, .inl (G 19))) := rfl
theorem wCa19 {ad : Nat → Nat} {cA : ClassId} {F : tF} {G G1 : tG} {i v : Int32} (e : G1 = stG G 19 i v) : (wC ad cA F G).set 26 (ad 26, .inl (cA, 4, .inl (upd (G 19) i.toNatClampNeg v))) = wC ad cA F G1 := by subst e; rfl
theorem wCg27 {ad : Nat → Nat} {cA : ClassId} {F : tF} {G : tG} : (wC ad cA F G)[27]? = some (ad 27, .inr (1, vX1 ad F)) := rfl
theorem wCp24 {ad : Nat → Nat} {cA : ClassId} {F F1 : tF} {G : tG} {v : Int32} (e : F1 = upd F 24 v) : (wC ad cA F G).set 27 (ad 27, .inr (1, (vX1 ad F).set 3 (.int v))) = wC ad cA F1 G := by subst e; rfl
theorem wCp25 {ad : Nat → Nat} {cA : ClassId} {F F1 : tF} {G : tG} {v : Int32} (e : F1 = upd F 25 v) : (wC ad cA F G).set 27 (ad 27, .inr (1, (vX1 ad F).set 4 (.int v))) = wC ad cA F1 G := by subst e; rfl
theorem wCp26 {ad : Nat → Nat} {cA : ClassId} {F F1 : tF} {G : tG} {v : Int32} (e : F1 = upd F 26 v) : (wC ad cA F G).set 27 (ad 27, .inr (1, (vX1 ad F).set 5 (.int v))) = wC ad cA F1 G := by subst e; rfl
theorem wCp27 {ad : Nat → Nat} {cA : ClassId} {F F1 : tF} {G : tG} {v : Int32} (e : F1 = upd F 27 v) : (wC ad cA F G).set 27 (ad 27, .inr (1, (vX1 ad F).set 6 (.int v))) = wC ad cA F1 G := by subst e; rfl
theorem wCp28 {ad : Nat → Nat} {cA : ClassId} {F F1 : tF} {G : tG} {v : Int32} (e : F1 = upd F 28 v) : (wC ad cA F G).set 27 (ad 27, .inr (1, (vX1 ad F).set 7 (.int v))) = wC ad cA F1 G := by subst e; rfl
theorem wCp29 {ad : Nat → Nat} {cA : ClassId} {F F1 : tF} {G : tG} {v : Int32} (e : F1 = upd F 29 v) : (wC ad cA F G).set 27 (ad 27, .inr (1, (vX1 ad F).set 8 (.int v))) = wC ad cA F1 G := by subst e; rfl
theorem wCp30 {ad : Nat → Nat} {cA : ClassId} {F F1 : tF} {G : tG} {v : Int32} (e : F1 = upd F 30 v) : (wC ad cA F G).set 27 (ad 27, .inr (1, (vX1 ad F).set 9 (.int v))) = wC ad cA F1 G := by subst e; rfl
theorem wCp31 {ad : Nat → Nat} {cA : ClassId} {F F1 : tF} {G : tG} {v : Int32} (e : F1 = upd F 31 v) : (wC ad cA F G).set 27 (ad 27, .inr (1, (vX1 ad F).set 10 (.int v))) = wC ad cA F1 G := by subst e; rfl
theorem wCg28 {ad : Nat → Nat} {cA : ClassId} {F : tF} {G : tG} : (wC ad cA F G)[28]? = some (ad 28, .inl (cA, 40, .inl (G 20))) := rfl
theorem wCa20 {ad : Nat → Nat} {cA : ClassId} {F : tF} {G G1 : tG} {i v : Int32} (e : G1 = stG G 20 i v) : (wC ad cA F G).set 28 (ad 28, .inl (cA, 40, .inl (upd (G 20) i.toNatClampNeg v))) = wC ad cA F G1 := by subst e; rfl
theorem wCg29 {ad : Nat → Nat} {cA : ClassId} {F : tF} {G : tG} : (wC ad cA F G)[29]? = some (ad 29, .inl (cA, 40, .inl (G 21))) := rfl
theorem wCa21 {ad : Nat → Nat} {cA : ClassId} {F : tF} {G G1 : tG} {i v : Int32} (e : G1 = stG G 21 i v) : (wC ad cA F G).set 29 (ad 29, .inl (cA, 40, .inl (upd (G 21) i.toNatClampNeg v))) = wC ad cA F G1 := by subst e; rfl
theorem wCg30 {ad : Nat → Nat} {cA : ClassId} {F : tF} {G : tG} : (wC ad cA F G)[30]? = some (ad 30, .inl (cA, 40, .inl (G 22))) := rfl
theorem wCa22 {ad : Nat → Nat} {cA : ClassId} {F : tF} {G G1 : tG} {i v : Int32} (e : G1 = stG G 22 i v) : (wC ad cA F G).set 30 (ad 30, .inl (cA, 40, .inl (upd (G 22) i.toNatClampNeg v))) = wC ad cA F G1 := by subst e; rfl
-- BellBookModel: room=F0, depth=F1, fresh=F2, foul=F3, sent=F4, breathed=F5, spilled=F6, barrels=F7, lacks=F8, lacksBeyond=F9, breath=F10, limit=F11, stay=F12, minute=F13, bell=F14, where=G0, square=G1, hoseOf=G2, count=G3, workOf=G4, length=G5, things=F15, thing=G6, under=G7, raised=F16, tangled=F17, tides=F18, tide=G8, tugsA=G9, tugsB=G10, hearings=F19, heardA=G11, heardB=G12, entries=F20, entryMinute=G13, entryMan=G14, entryWhere=G15, end=G16, bestSet=F21, many=F22, order=G17, inTide=G18, sureMinutes=F23, darkMinutes=F24, longestSure=F25, longestMaybe=F26
def vX8 (ad : Nat → Nat) (F : tF) : List Value := [.int (F 0), .int (F 1), .int (F 2), .int (F 3), .int (F 4), .int (F 5), .int (F 6), .int (F 7), .int (F 8), .int (F 9), .int (F 10), .int (F 11), .int (F 12), .int (F 13), .int (F 14), .ref (ad 1), .ref (ad 2), .ref (ad 3), .ref (ad 4), .ref (ad 5), .ref (ad 6), .int (F 15), .ref (ad 7), .ref (ad 8), .int (F 16), .int (F 17), .int (F 18), .ref (ad 9), .ref (ad 10), .ref (ad 11), .int (F 19), .ref (ad 12), .ref (ad 13), .int (F 20), .ref (ad 14), .ref (ad 15), .ref (ad 16), .ref (ad 17), .int (F 21), .int (F 22), .ref (ad 18), .ref (ad 19), .int (F 23), .int (F 24), .int (F 25), .int (F 26)]
def wM (ad : Nat → Nat) (cA : ClassId) (F : tF) (G : tG) : va_W := [(ad 0, .inr (8, vX8 ad F)), (ad 1, .inl (cA, 6, .inl (G 0))), (ad 2, .inl (cA, 6, .inl (G 1))), (ad 3, .inl (cA, 6, .inl (G 2))), (ad 4, .inl (cA, 6, .inl (G 3))), (ad 5, .inl (cA, 6, .inl (G 4))), (ad 6, .inl (cA, 3, .inl (G 5))), (ad 7, .inl (cA, 60, .inl (G 6))), (ad 8, .inl (cA, 12, .inl (G 7))), (ad 9, .inl (cA, 5, .inl (G 8))), (ad 10, .inl (cA, 12, .inl (G 9))), (ad 11, .inl (cA, 12, .inl (G 10))), (ad 12, .inl (cA, 4, .inl (G 11))), (ad 13, .inl (cA, 4, .inl (G 12))), (ad 14, .inl (cA, 40, .inl (G 13))), (ad 15, .inl (cA, 40, .inl (G 14))), (ad 16, .inl (cA, 40, .inl (G 15))), (ad 17, .inl (cA, 4096, .inl (G 16))), (ad 18, .inl (cA, 12, .inl (G 17))), (ad 19, .inl (cA, 12, .inl (G 18)))]
theorem wMg0 {ad : Nat → Nat} {cA : ClassId} {F : tF} {G : tG} : (wM ad cA F G)[0]? = some (ad 0, .inr (8, vX8 ad F)) := rfl
theorem wMp0 {ad : Nat → Nat} {cA : ClassId} {F F1 : tF} {G : tG} {v : Int32} (e : F1 = upd F 0 v) : (wM ad cA F G).set 0 (ad 0, .inr (8, (vX8 ad F).set 0 (.int v))) = wM ad cA F1 G := by subst e; rfl
theorem wMp1 {ad : Nat → Nat} {cA : ClassId} {F F1 : tF} {G : tG} {v : Int32} (e : F1 = upd F 1 v) : (wM ad cA F G).set 0 (ad 0, .inr (8, (vX8 ad F).set 1 (.int v))) = wM ad cA F1 G := by subst e; rfl
theorem wMp2 {ad : Nat → Nat} {cA : ClassId} {F F1 : tF} {G : tG} {v : Int32} (e : F1 = upd F 2 v) : (wM ad cA F G).set 0 (ad 0, .inr (8, (vX8 ad F).set 2 (.int v))) = wM ad cA F1 G := by subst e; rfl
theorem wMp3 {ad : Nat → Nat} {cA : ClassId} {F F1 : tF} {G : tG} {v : Int32} (e : F1 = upd F 3 v) : (wM ad cA F G).set 0 (ad 0, .inr (8, (vX8 ad F).set 3 (.int v))) = wM ad cA F1 G := by subst e; rfl
theorem wMp4 {ad : Nat → Nat} {cA : ClassId} {F F1 : tF} {G : tG} {v : Int32} (e : F1 = upd F 4 v) : (wM ad cA F G).set 0 (ad 0, .inr (8, (vX8 ad F).set 4 (.int v))) = wM ad cA F1 G := by subst e; rfl
theorem wMp5 {ad : Nat → Nat} {cA : ClassId} {F F1 : tF} {G : tG} {v : Int32} (e : F1 = upd F 5 v) : (wM ad cA F G).set 0 (ad 0, .inr (8, (vX8 ad F).set 5 (.int v))) = wM ad cA F1 G := by subst e; rfl
theorem wMp6 {ad : Nat → Nat} {cA : ClassId} {F F1 : tF} {G : tG} {v : Int32} (e : F1 = upd F 6 v) : (wM ad cA F G).set 0 (ad 0, .inr (8, (vX8 ad F).set 6 (.int v))) = wM ad cA F1 G := by subst e; rfl
theorem wMp7 {ad : Nat → Nat} {cA : ClassId} {F F1 : tF} {G : tG} {v : Int32} (e : F1 = upd F 7 v) : (wM ad cA F G).set 0 (ad 0, .inr (8, (vX8 ad F).set 7 (.int v))) = wM ad cA F1 G := by subst e; rfl
theorem wMp8 {ad : Nat → Nat} {cA : ClassId} {F F1 : tF} {G : tG} {v : Int32} (e : F1 = upd F 8 v) : (wM ad cA F G).set 0 (ad 0, .inr (8, (vX8 ad F).set 8 (.int v))) = wM ad cA F1 G := by subst e; rfl
theorem wMp9 {ad : Nat → Nat} {cA : ClassId} {F F1 : tF} {G : tG} {v : Int32} (e : F1 = upd F 9 v) : (wM ad cA F G).set 0 (ad 0, .inr (8, (vX8 ad F).set 9 (.int v))) = wM ad cA F1 G := by subst e; rfl
theorem wMp10 {ad : Nat → Nat} {cA : ClassId} {F F1 : tF} {G : tG} {v : Int32} (e : F1 = upd F 10 v) : (wM ad cA F G).set 0 (ad 0, .inr (8, (vX8 ad F).set 10 (.int v))) = wM ad cA F1 G := by subst e; rfl
theorem wMp11 {ad : Nat → Nat} {cA : ClassId} {F F1 : tF} {G : tG} {v : Int32} (e : F1 = upd F 11 v) : (wM ad cA F G).set 0 (ad 0, .inr (8, (vX8 ad F).set 11 (.int v))) = wM ad cA F1 G := by subst e; rfl
theorem wMp12 {ad : Nat → Nat} {cA : ClassId} {F F1 : tF} {G : tG} {v : Int32} (e : F1 = upd F 12 v) : (wM ad cA F G).set 0 (ad 0, .inr (8, (vX8 ad F).set 12 (.int v))) = wM ad cA F1 G := by subst e; rfl
theorem wMp13 {ad : Nat → Nat} {cA : ClassId} {F F1 : tF} {G : tG} {v : Int32} (e : F1 = upd F 13 v) : (wM ad cA F G).set 0 (ad 0, .inr (8, (vX8 ad F).set 13 (.int v))) = wM ad cA F1 G := by subst e; rfl
theorem wMp14 {ad : Nat → Nat} {cA : ClassId} {F F1 : tF} {G : tG} {v : Int32} (e : F1 = upd F 14 v) : (wM ad cA F G).set 0 (ad 0, .inr (8, (vX8 ad F).set 14 (.int v))) = wM ad cA F1 G := by subst e; rfl
theorem wMp15 {ad : Nat → Nat} {cA : ClassId} {F F1 : tF} {G : tG} {v : Int32} (e : F1 = upd F 15 v) : (wM ad cA F G).set 0 (ad 0, .inr (8, (vX8 ad F).set 21 (.int v))) = wM ad cA F1 G := by subst e; rfl
theorem wMp16 {ad : Nat → Nat} {cA : ClassId} {F F1 : tF} {G : tG} {v : Int32} (e : F1 = upd F 16 v) : (wM ad cA F G).set 0 (ad 0, .inr (8, (vX8 ad F).set 24 (.int v))) = wM ad cA F1 G := by subst e; rfl
theorem wMp17 {ad : Nat → Nat} {cA : ClassId} {F F1 : tF} {G : tG} {v : Int32} (e : F1 = upd F 17 v) : (wM ad cA F G).set 0 (ad 0, .inr (8, (vX8 ad F).set 25 (.int v))) = wM ad cA F1 G := by subst e; rfl
theorem wMp18 {ad : Nat → Nat} {cA : ClassId} {F F1 : tF} {G : tG} {v : Int32} (e : F1 = upd F 18 v) : (wM ad cA F G).set 0 (ad 0, .inr (8, (vX8 ad F).set 26 (.int v))) = wM ad cA F1 G := by subst e; rfl
theorem wMp19 {ad : Nat → Nat} {cA : ClassId} {F F1 : tF} {G : tG} {v : Int32} (e : F1 = upd F 19 v) : (wM ad cA F G).set 0 (ad 0, .inr (8, (vX8 ad F).set 30 (.int v))) = wM ad cA F1 G := by subst e; rfl
theorem wMp20 {ad : Nat → Nat} {cA : ClassId} {F F1 : tF} {G : tG} {v : Int32} (e : F1 = upd F 20 v) : (wM ad cA F G).set 0 (ad 0, .inr (8, (vX8 ad F).set 33 (.int v))) = wM ad cA F1 G := by subst e; rfl
theorem wMp21 {ad : Nat → Nat} {cA : ClassId} {F F1 : tF} {G : tG} {v : Int32} (e : F1 = upd F 21 v) : (wM ad cA F G).set 0 (ad 0, .inr (8, (vX8 ad F).set 38 (.int v))) = wM ad cA F1 G := by subst e; rfl
theorem wMp22 {ad : Nat → Nat} {cA : ClassId} {F F1 : tF} {G : tG} {v : Int32} (e : F1 = upd F 22 v) : (wM ad cA F G).set 0 (ad 0, .inr (8, (vX8 ad F).set 39 (.int v))) = wM ad cA F1 G := by subst e; rfl
theorem wMp23 {ad : Nat → Nat} {cA : ClassId} {F F1 : tF} {G : tG} {v : Int32} (e : F1 = upd F 23 v) : (wM ad cA F G).set 0 (ad 0, .inr (8, (vX8 ad F).set 42 (.int v))) = wM ad cA F1 G := by subst e; rfl
theorem wMp24 {ad : Nat → Nat} {cA : ClassId} {F F1 : tF} {G : tG} {v : Int32} (e : F1 = upd F 24 v) : (wM ad cA F G).set 0 (ad 0, .inr (8, (vX8 ad F).set 43 (.int v))) = wM ad cA F1 G := by subst e; rfl
theorem wMp25 {ad : Nat → Nat} {cA : ClassId} {F F1 : tF} {G : tG} {v : Int32} (e : F1 = upd F 25 v) : (wM ad cA F G).set 0 (ad 0, .inr (8, (vX8 ad F).set 44 (.int v))) = wM ad cA F1 G := by subst e; rfl
theorem wMp26 {ad : Nat → Nat} {cA : ClassId} {F F1 : tF} {G : tG} {v : Int32} (e : F1 = upd F 26 v) : (wM ad cA F G).set 0 (ad 0, .inr (8, (vX8 ad F).set 45 (.int v))) = wM ad cA F1 G := by subst e; rfl
theorem wMg1 {ad : Nat → Nat} {cA : ClassId} {F : tF} {G : tG} : (wM ad cA F G)[1]? = some (ad 1, .inl (cA, 6, .inl (G 0))) := rfl
theorem wMa0 {ad : Nat → Nat} {cA : ClassId} {F : tF} {G G1 : tG} {i v : Int32} (e : G1 = stG G 0 i v) : (wM ad cA F G).set 1 (ad 1, .inl (cA, 6, .inl (upd (G 0) i.toNatClampNeg v))) = wM ad cA F G1 := by subst e; rfl
theorem wMg2 {ad : Nat → Nat} {cA : ClassId} {F : tF} {G : tG} : (wM ad cA F G)[2]? = some (ad 2, .inl (cA, 6, .inl (G 1))) := rfl
theorem wMa1 {ad : Nat → Nat} {cA : ClassId} {F : tF} {G G1 : tG} {i v : Int32} (e : G1 = stG G 1 i v) : (wM ad cA F G).set 2 (ad 2, .inl (cA, 6, .inl (upd (G 1) i.toNatClampNeg v))) = wM ad cA F G1 := by subst e; rfl
theorem wMg3 {ad : Nat → Nat} {cA : ClassId} {F : tF} {G : tG} : (wM ad cA F G)[3]? = some (ad 3, .inl (cA, 6, .inl (G 2))) := rfl
theorem wMa2 {ad : Nat → Nat} {cA : ClassId} {F : tF} {G G1 : tG} {i v : Int32} (e : G1 = stG G 2 i v) : (wM ad cA F G).set 3 (ad 3, .inl (cA, 6, .inl (upd (G 2) i.toNatClampNeg v))) = wM ad cA F G1 := by subst e; rfl
theorem wMg4 {ad : Nat → Nat} {cA : ClassId} {F : tF} {G : tG} : (wM ad cA F G)[4]? = some (ad 4, .inl (cA, 6, .inl (G 3))) := rfl
theorem wMa3 {ad : Nat → Nat} {cA : ClassId} {F : tF} {G G1 : tG} {i v : Int32} (e : G1 = stG G 3 i v) : (wM ad cA F G).set 4 (ad 4, .inl (cA, 6, .inl (upd (G 3) i.toNatClampNeg v))) = wM ad cA F G1 := by subst e; rfl
theorem wMg5 {ad : Nat → Nat} {cA : ClassId} {F : tF} {G : tG} : (wM ad cA F G)[5]? = some (ad 5, .inl (cA, 6, .inl (G 4))) := rfl
theorem wMa4 {ad : Nat → Nat} {cA : ClassId} {F : tF} {G G1 : tG} {i v : Int32} (e : G1 = stG G 4 i v) : (wM ad cA F G).set 5 (ad 5, .inl (cA, 6, .inl (upd (G 4) i.toNatClampNeg v))) = wM ad cA F G1 := by subst e; rfl
theorem wMg6 {ad : Nat → Nat} {cA : ClassId} {F : tF} {G : tG} : (wM ad cA F G)[6]? = some (ad 6, .inl (cA, 3, .inl (G 5))) := rfl
theorem wMa5 {ad : Nat → Nat} {cA : ClassId} {F : tF} {G G1 : tG} {i v : Int32} (e : G1 = stG G 5 i v) : (wM ad cA F G).set 6 (ad 6, .inl (cA, 3, .inl (upd (G 5) i.toNatClampNeg v))) = wM ad cA F G1 := by subst e; rfl
theorem wMg7 {ad : Nat → Nat} {cA : ClassId} {F : tF} {G : tG} : (wM ad cA F G)[7]? = some (ad 7, .inl (cA, 60, .inl (G 6))) := rfl
theorem wMa6 {ad : Nat → Nat} {cA : ClassId} {F : tF} {G G1 : tG} {i v : Int32} (e : G1 = stG G 6 i v) : (wM ad cA F G).set 7 (ad 7, .inl (cA, 60, .inl (upd (G 6) i.toNatClampNeg v))) = wM ad cA F G1 := by subst e; rfl
theorem wMg8 {ad : Nat → Nat} {cA : ClassId} {F : tF} {G : tG} : (wM ad cA F G)[8]? = some (ad 8, .inl (cA, 12, .inl (G 7))) := rfl
theorem wMa7 {ad : Nat → Nat} {cA : ClassId} {F : tF} {G G1 : tG} {i v : Int32} (e : G1 = stG G 7 i v) : (wM ad cA F G).set 8 (ad 8, .inl (cA, 12, .inl (upd (G 7) i.toNatClampNeg v))) = wM ad cA F G1 := by subst e; rfl
theorem wMg9 {ad : Nat → Nat} {cA : ClassId} {F : tF} {G : tG} : (wM ad cA F G)[9]? = some (ad 9, .inl (cA, 5, .inl (G 8))) := rfl
theorem wMa8 {ad : Nat → Nat} {cA : ClassId} {F : tF} {G G1 : tG} {i v : Int32} (e : G1 = stG G 8 i v) : (wM ad cA F G).set 9 (ad 9, .inl (cA, 5, .inl (upd (G 8) i.toNatClampNeg v))) = wM ad cA F G1 := by subst e; rfl
theorem wMg10 {ad : Nat → Nat} {cA : ClassId} {F : tF} {G : tG} : (wM ad cA F G)[10]? = some (ad 10, .inl (cA, 12, .inl (G 9))) := rfl
theorem wMa9 {ad : Nat → Nat} {cA : ClassId} {F : tF} {G G1 : tG} {i v : Int32} (e : G1 = stG G 9 i v) : (wM ad cA F G).set 10 (ad 10, .inl (cA, 12, .inl (upd (G 9) i.toNatClampNeg v))) = wM ad cA F G1 := by subst e; rfl
theorem wMg11 {ad : Nat → Nat} {cA : ClassId} {F : tF} {G : tG} : (wM ad cA F G)[11]? = some (ad 11, .inl (cA, 12, .inl (G 10))) := rfl
theorem wMa10 {ad : Nat → Nat} {cA : ClassId} {F : tF} {G G1 : tG} {i v : Int32} (e : G1 = stG G 10 i v) : (wM ad cA F G).set 11 (ad 11, .inl (cA, 12, .inl (upd (G 10) i.toNatClampNeg v))) = wM ad cA F G1 := by subst e; rfl
theorem wMg12 {ad : Nat → Nat} {cA : ClassId} {F : tF} {G : tG} : (wM ad cA F G)[12]? = some (ad 12, .inl (cA, 4, .inl (G 11))) := rfl
theorem wMa11 {ad : Nat → Nat} {cA : ClassId} {F : tF} {G G1 : tG} {i v : Int32} (e : G1 = stG G 11 i v) : (wM ad cA F G).set 12 (ad 12, .inl (cA, 4, .inl (upd (G 11) i.toNatClampNeg v))) = wM ad cA F G1 := by subst e; rfl
theorem wMg13 {ad : Nat → Nat} {cA : ClassId} {F : tF} {G : tG} : (wM ad cA F G)[13]? = some (ad 13, .inl (cA, 4, .inl (G 12))) := rfl
theorem wMa12 {ad : Nat → Nat} {cA : ClassId} {F : tF} {G G1 : tG} {i v : Int32} (e : G1 = stG G 12 i v) : (wM ad cA F G).set 13 (ad 13, .inl (cA, 4, .inl (upd (G 12) i.toNatClampNeg v))) = wM ad cA F G1 := by subst e; rfl
theorem wMg14 {ad : Nat → Nat} {cA : ClassId} {F : tF} {G : tG} : (wM ad cA F G)[14]? = some (ad 14, .inl (cA, 40, .inl (G 13))) := rfl
theorem wMa13 {ad : Nat → Nat} {cA : ClassId} {F : tF} {G G1 : tG} {i v : Int32} (e : G1 = stG G 13 i v) : (wM ad cA F G).set 14 (ad 14, .inl (cA, 40, .inl (upd (G 13) i.toNatClampNeg v))) = wM ad cA F G1 := by subst e; rfl
theorem wMg15 {ad : Nat → Nat} {cA : ClassId} {F : tF} {G : tG} : (wM ad cA F G)[15]? = some (ad 15, .inl (cA, 40, .inl (G 14))) := rfl
theorem wMa14 {ad : Nat → Nat} {cA : ClassId} {F : tF} {G G1 : tG} {i v : Int32} (e : G1 = stG G 14 i v) : (wM ad cA F G).set 15 (ad 15, .inl (cA, 40, .inl (upd (G 14) i.toNatClampNeg v))) = wM ad cA F G1 := by subst e; rfl
theorem wMg16 {ad : Nat → Nat} {cA : ClassId} {F : tF} {G : tG} : (wM ad cA F G)[16]? = some (ad 16, .inl (cA, 40, .inl (G 15))) := rfl
theorem wMa15 {ad : Nat → Nat} {cA : ClassId} {F : tF} {G G1 : tG} {i v : Int32} (e : G1 = stG G 15 i v) : (wM ad cA F G).set 16 (ad 16, .inl (cA, 40, .inl (upd (G 15) i.toNatClampNeg v))) = wM ad cA F G1 := by subst e; rfl
theorem wMg17 {ad : Nat → Nat} {cA : ClassId} {F : tF} {G : tG} : (wM ad cA F G)[17]? = some (ad 17, .inl (cA, 4096, .inl (G 16))) := rfl
theorem wMa16 {ad : Nat → Nat} {cA : ClassId} {F : tF} {G G1 : tG} {i v : Int32} (e : G1 = stG G 16 i v) : (wM ad cA F G).set 17 (ad 17, .inl (cA, 4096, .inl (upd (G 16) i.toNatClampNeg v))) = wM ad cA F G1 := by subst e; rfl
theorem wMg18 {ad : Nat → Nat} {cA : ClassId} {F : tF} {G : tG} : (wM ad cA F G)[18]? = some (ad 18, .inl (cA, 12, .inl (G 17))) := rfl
theorem wMa17 {ad : Nat → Nat} {cA : ClassId} {F : tF} {G G1 : tG} {i v : Int32} (e : G1 = stG G 17 i v) : (wM ad cA F G).set 18 (ad 18, .inl (cA, 12, .inl (upd (G 17) i.toNatClampNeg v))) = wM ad cA F G1 := by subst e; rfl
theorem wMg19 {ad : Nat → Nat} {cA : ClassId} {F : tF} {G : tG} : (wM ad cA F G)[19]? = some (ad 19, .inl (cA, 12, .inl (G 18))) := rfl
theorem wMa18 {ad : Nat → Nat} {cA : ClassId} {F : tF} {G G1 : tG} {i v : Int32} (e : G1 = stG G 18 i v) : (wM ad cA F G).set 19 (ad 19, .inl (cA, 12, .inl (upd (G 18) i.toNatClampNeg v))) = wM ad cA F G1 := by subst e; rfl
