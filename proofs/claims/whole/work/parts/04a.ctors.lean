theorem newa0 (N : Nat) (cA : ClassId) : vp_cell cA (N, .inl (fun _ => 0)) = arrV cA N (fun _ => defaultValue .int) := rfl
theorem raI {D : va_G} {cl : List vw_C} {tys : List (ClassId × FieldType)} {U : State} {c1 c2 : ClassId} (hK : va_K D cl tys U) (i j : Nat) (hi : tys[i]? = some (c1, .int)) (hj : tys[j]? = some (c2, .int)) : c1 = c2 := by
  have a : U.vm.findClass ("[" ++ FieldType.int.toString) = some c1 := (hK.2 i _ hi).2
  have b : U.vm.findClass ("[" ++ FieldType.int.toString) = some c2 := (hK.2 j _ hj).2
  exact Option.some.inj (a.symm.trans b)

