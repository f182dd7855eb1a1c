/-! Rows for the constructors. -/
/-- two rows of one type are of one class -/
theorem K_uniq {D : va_G} {cl : List vw_C} {tys : List (ClassId × FieldType)} {U : State} (hK : va_K D cl tys U) {i j : Nat} {c1 c2 : ClassId} {ty : FieldType} (h1 : tys[i]? = some (c1, ty)) (h2 : tys[j]? = some (c2, ty)) : c1 = c2 := by
  have key : ∀ c : ClassId, va_RA U c ty → U.vm.findClass ("[" ++ ty.toString) = some c := fun c a => by
    cases ty <;> first | exact a | (obtain ⟨_, _, _, _, _, q⟩ := a; exact q)
  exact Option.some.inj ((key _ (hK.2 i _ h1).2).symm.trans (key _ (hK.2 j _ h2).2))
