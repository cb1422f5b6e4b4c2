-- objects are made: what the constructors stand on
theorem va_K_uniq {D : va_G} {cl : List vw_C} {tys : List (ClassId × FieldType)} {U : State} (h : va_K D cl tys U) {i j : Nat} {c c' : ClassId} {ty : FieldType} (hi : tys[i]? = some (c, ty)) (hj : tys[j]? = some (c', ty)) : c = c' := by
  have h1 := (h.2 i _ hi).2
  have h2 := (h.2 j _ hj).2
  cases ty with
  | object C =>
    obtain ⟨k1, m1, -, -, -, e1⟩ := h1
    obtain ⟨k2, m2, -, -, -, e2⟩ := h2
    exact Option.some.inj (e1.symm.trans e2)
  | _ => exact Option.some.inj (h1.symm.trans h2)
abbrev nwA : Cond := .methodLinkNest RX6 25 yX4_init RX6
abbrev nwB : Cond := .methodLinkNest RX6 32 yX0_init RX6
abbrev nwC : Cond := .methodLinkNest RX6 46 yX2_init RX6
abbrev nwD : Cond := .methodLinkNest RX6 65 yX5_init RX6
abbrev nwE : Cond := .methodLinkNest RX6 66 yX3_init RX6
abbrev nwF : Cond := .methodLinkNest RX1 21 yX0_init RX6
def NWS (U : State) : Prop := (va_AO "LentYouths$Sheet" U ∧ va_AO "LentYouths$Person" U ∧ va_AO "LentYouths$Exchange" U) ∧ va_Nw nwA U ∧ va_Nw nwB U ∧ va_Nw nwC U ∧ va_Nw nwD U ∧ va_Nw nwE U ∧ va_Nw nwF U
theorem NWS.call {U : State} {g : JFrame} {mk : MethodId} {a : Array Value} (h : NWS U) : NWS (U.calling g mk a) := by
  obtain ⟨⟨h1, h2, h3⟩, a1, a2, a3, a4, a5, a6⟩ := h
  exact ⟨⟨va_AO.moved (Vm.Alike.refl U.vm) h1, va_AO.moved (Vm.Alike.refl U.vm) h2, va_AO.moved (Vm.Alike.refl U.vm) h3⟩, va_Nw.same rfl rfl a1, va_Nw.same rfl rfl a2, va_Nw.same rfl rfl a3, va_Nw.same rfl rfl a4, va_Nw.same rfl rfl a5, va_Nw.same rfl rfl a6⟩
theorem NWS.warm {s U : State} (hW : s.WarmedH U.vm) (h : NWS s) : NWS U := by
  obtain ⟨⟨h1, h2, h3⟩, a1, a2, a3, a4, a5, a6⟩ := h
  exact ⟨⟨va_AO.moved hW.alike h1, va_AO.moved hW.alike h2, va_AO.moved hW.alike h3⟩, va_Nw.warmM hW a1, va_Nw.warmM hW a2, va_Nw.warmM hW a3, va_Nw.warmM hW a4, va_Nw.warmM hW a5, va_Nw.warmM hW a6⟩
def cPre (sz h0 : Nat) (dC : Nat → ClassId) (dI : Nat → Nat → Nat) (e : va_E) (U : State) : Prop := U.heap.size = sz ∧ va_P (dC, dI) vwCl [(h0, e)] U.heap ∧ va_K (dC, dI) vwCl [] U ∧ va_D (fun _ => True) [(h0, e)] ∧ NWS U
theorem cPre.call {sz h0 : Nat} {dC : Nat → ClassId} {dI : Nat → Nat → Nat} {e : va_E} {U : State} {g : JFrame} {mk : MethodId} {a : Array Value} (h : cPre sz h0 dC dI e U) : cPre sz h0 dC dI e (U.calling g mk a) := by
  obtain ⟨h1, h2, h3, h4, h5⟩ := h
  exact ⟨h1, h2, va_K.moved (u := U) (U := U.calling g mk a) (Vm.Alike.refl U.vm) h3, h4, h5.call⟩
abbrev NU : Type := (Nat → Nat) × (Nat → ClassId)
