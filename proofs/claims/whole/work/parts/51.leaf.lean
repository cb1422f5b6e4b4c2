-- the constructors (printed by gen3.py)
theorem hd_X5_init : yX5_init.cls ≠ "java/lang/invoke/MethodHandle" ∧ yX5_init.cls ≠ "java/lang/invoke/VarHandle" ∧ (parseMethodDescriptor yX5_init.desc).map (fun d => d.parameters.length) = some 0 := by decide +kernel
abbrev rm_X5_init : Room := { frames := 1, cells := 1, slots := 60, locals := 12 }
def n_at_X5 (dC : Nat → ClassId) (dI : Nat → Nat → Nat) (A : Nat → Prop) (h0 : Nat) (u : NU) (t : State) : Prop := va_P (dC, dI) vwCl [(h0, .inr (5, [.ref (u.1 0), .int 0, .int 0, .int 0])), ((u.1 0), .inl ((u.2 0), (60, .inl (fun _ => 0))))] t.heap ∧ va_K (dC, dI) vwCl [((u.2 0), .int)] t ∧ va_D A [(h0, .inr (5, [.ref (u.1 0), .int 0, .int 0, .int 0])), ((u.1 0), .inl ((u.2 0), (60, .inl (fun _ => 0))))]
set_option maxHeartbeats 4000000 in
set_option maxRecDepth 100000 in
theorem n_X5_init (l : Launch) (dC : Nat → ClassId) (dI : Nat → Nat → Nat) (h0 sz : Nat) : Met l yX5_init (Cond.code yX5_init cX5_init 1 none :: wAll) rm_X5_init (va_Pc [.ref h0] (cPre sz h0 dC dI (.inr (5, [.null, .int 0, .int 0, .int 0])))) (va_Qv (fun _ : NU => True) (n_at_X5 dC dI (va_A [(h0, .inr (5, [.null, .int 0, .int 0, .int 0]))] sz) h0) (va_A [(h0, .inr (5, [.null, .int 0, .int 0, .int 0]))] sz)) 1 60 (va_A [(h0, .inr (5, [.null, .int 0, .int 0, .int 0]))] sz) := by
  refine Met.ofW (cc := cX5_init) (maxL := 1) (ret := none) (by decide) rfl ?_
  intro p e s m args below meth c s₁ B hml hv
  obtain ⟨rfl, hsz, hP, hK, hD0, hNW⟩ := hv
  have hx := B.exec
  have hb := B.bytes
  have hr := B.returns
  have hts : ∀ w ∈ wAll, w.before _ s = true := fun w hw => atoms_spec (ws := Cond.code yX5_init cX5_init 1 none :: wAll) B.pre w (List.mem_cons_of_mem _ hw)
  have hown : s.vm.findClass RX5 = some m.cls := findClass_of_methodNamed B.named
  have hlocks := B.notSynchronized
  have hin : meth.name = "<init>" := (name_of_methodNamed B.named B.method).1
  subst hsz
  have hD := hD0.self (sz := s.heap.size)
  generalize hAe : va_A [(h0, .inr (5, [.null, .int 0, .int 0, .int 0]))] s.heap.size = A at hD ⊢
  have hA : ∀ q : Nat, s.heap.size ≤ q → A q := fun q h => by rw [← hAe]; exact Or.inr h
  have hS : va_S A s.heap s.heap [] := va_S.rf
  have hP : va_P (dC, dI) vwCl [(h0, .inr (5, [.null, .int 0, .int 0, .int 0]))] s.heap := hP
  have hl := lv_entry ([.ref h0]) (n := 1) (Nat.le_of_ble_eq_true rfl)
  rw [lg_entry_eq]
  generalize (lg_sl ([.ref h0]) ++ List.replicate (1 - (lg_sl ([.ref h0])).length) Slot.unset).toArray = ls at hl ⊢
  have hl : lv_has ls 1 [(0, .ref h0)] := hl
  refine lv_aload_n hx hb dX5_init_0 rfl (lv_at hl 0 rfl) ?_
  refine W.objInit hx hb hown (hts _ wM_X5_3) (hts _ wI_objectInit) (hts _ wC_objectInit) rfl (by rw [hml]; exact hl.1) rfl dX5_init_1 (Nat.le_of_ble_eq_true rfl) (Nat.le_of_ble_eq_true rfl) ?_
  refine W.eq (g2 := F0 m 4 ls []) rfl ?_
  refine lv_aload_n hx hb dX5_init_4 rfl (lv_at hl 0 rfl) ?_
  refine lv_bipush (v := 60) hx hb dX5_init_5 (by decide) ?_
  refine va_newa (atype := .int) (a0 := (60, .inl (fun _ => 0))) (ty := .int) hx hb (hts _ wR_int) rfl hK hP hD hS hA (fun _ => rfl) (by decide) (by decide) (by decide) (show 0 + 1 ≤ 1 by decide) (show 0 + 60 ≤ 60 by decide) dX5_init_7 (fun q0 c0 H hK hP hD hS => ?_)
  have hK : va_K (dC, dI) vwCl [(c0, .int)] s := hK
  have hK := hK.sub (tys' := [(c0, .int)]) [0] rfl
  have hP : va_P (dC, dI) vwCl [(h0, .inr (5, [.null, .int 0, .int 0, .int 0])), (q0, .inl (c0, (60, .inl (fun _ => 0))))] H := hP
  have hD : va_D A [(h0, .inr (5, [.null, .int 0, .int 0, .int 0])), (q0, .inl (c0, (60, .inl (fun _ => 0))))] := hD
  refine W.widen (k := 1) (n := 60) (by omega) (by omega) ?_
  refine va_putF (D := (dC, dI)) (ci := 5) (v := .ref q0) (ty := tyX5 0) (C := RX5) (T := TX5) (N := 4) hx hb hts wU_X5 tyX5 tyX5_ok nmX5 hown hK hP hD hS 0 rfl rfl 0 (by decide) (hts _ wF_X5_9) (fun _ h9 => h9) rfl hin rfl (tyX5_ok 0 (by decide)) rfl rfl (Nat.le_of_ble_eq_true rfl) dX5_init_9 (fun H locs hP hD hS => ?_)
  have hP : va_P (dC, dI) vwCl [(h0, .inr (5, [.ref q0, .int 0, .int 0, .int 0])), (q0, .inl (c0, (60, .inl (fun _ => 0))))] H := hP
  have hD : va_D A [(h0, .inr (5, [.ref q0, .int 0, .int 0, .int 0])), (q0, .inl (c0, (60, .inl (fun _ => 0))))] := hD
  refine lv_aload_n hx hb dX5_init_12 rfl (lv_at hl 0 rfl) ?_
  refine lv_iconst (v := 0) hx hb dX5_init_13 (by decide) ?_
  refine va_put (D := (dC, dI)) (ci := 5) (v := .int 0) (ty := tyX5 1) (C := RX5) (T := TX5) (N := 4) hx hb hts wU_X5 tyX5 tyX5_ok nmX5 hown hK hP hD hS 0 rfl rfl 1 (by decide) (hts _ wF_X5_15) (fun _ h9 => h9) rfl (tyX5_ok 1 (by decide)) rfl rfl (Nat.le_of_ble_eq_true rfl) dX5_init_14 (fun H locs hP hD hS => ?_)
  have hP : va_P (dC, dI) vwCl [(h0, .inr (5, [.ref q0, .int 0, .int 0, .int 0])), (q0, .inl (c0, (60, .inl (fun _ => 0))))] H := hP
  have hD : va_D A [(h0, .inr (5, [.ref q0, .int 0, .int 0, .int 0])), (q0, .inl (c0, (60, .inl (fun _ => 0))))] := hD
  refine lv_aload_n hx hb dX5_init_17 rfl (lv_at hl 0 rfl) ?_
  refine lv_iconst (v := 0) hx hb dX5_init_18 (by decide) ?_
  refine va_put (D := (dC, dI)) (ci := 5) (v := .int 0) (ty := tyX5 2) (C := RX5) (T := TX5) (N := 4) hx hb hts wU_X5 tyX5 tyX5_ok nmX5 hown hK hP hD hS 0 rfl rfl 2 (by decide) (hts _ wF_X5_19) (fun _ h9 => h9) rfl (tyX5_ok 2 (by decide)) rfl rfl (Nat.le_of_ble_eq_true rfl) dX5_init_19 (fun H locs hP hD hS => ?_)
  have hP : va_P (dC, dI) vwCl [(h0, .inr (5, [.ref q0, .int 0, .int 0, .int 0])), (q0, .inl (c0, (60, .inl (fun _ => 0))))] H := hP
  have hD : va_D A [(h0, .inr (5, [.ref q0, .int 0, .int 0, .int 0])), (q0, .inl (c0, (60, .inl (fun _ => 0))))] := hD
  refine lv_aload_n hx hb dX5_init_22 rfl (lv_at hl 0 rfl) ?_
  refine lv_iconst (v := 0) hx hb dX5_init_23 (by decide) ?_
  refine va_put (D := (dC, dI)) (ci := 5) (v := .int 0) (ty := tyX5 3) (C := RX5) (T := TX5) (N := 4) hx hb hts wU_X5 tyX5 tyX5_ok nmX5 hown hK hP hD hS 0 rfl rfl 3 (by decide) (hts _ wF_X5_23) (fun _ h9 => h9) rfl (tyX5_ok 3 (by decide)) rfl rfl (Nat.le_of_ble_eq_true rfl) dX5_init_24 (fun H locs hP hD hS => ?_)
  have hP : va_P (dC, dI) vwCl [(h0, .inr (5, [.ref q0, .int 0, .int 0, .int 0])), (q0, .inl (c0, (60, .inl (fun _ => 0))))] H := hP
  have hD : va_D A [(h0, .inr (5, [.ref q0, .int 0, .int 0, .int 0])), (q0, .inl (c0, (60, .inl (fun _ => 0))))] := hD
  have hP9 := hP.sub (ws' := [(h0, .inr (5, [.ref q0, .int 0, .int 0, .int 0])), (q0, .inl (c0, (60, .inl (fun _ => 0))))]) [0, 1] rfl
  have hD9 := hD.sub (ws' := [(h0, .inr (5, [.ref q0, .int 0, .int 0, .int 0])), (q0, .inl (c0, (60, .inl (fun _ => 0))))]) [0, 1] (by decide) rfl
  exact W.vret hx hb hr (fun t ht hW => ⟨⟨((fun k => ([q0] : List Nat).getD k 0), (fun k => ([c0] : List ClassId).getD k 0)), rfl, trivial, by rw [ht]; exact hP9, va_K.moved hW.alike hK, hD9⟩, hS.F ht⟩) hS.2.2 dX5_init_27
theorem hd_X3_init : yX3_init.cls ≠ "java/lang/invoke/MethodHandle" ∧ yX3_init.cls ≠ "java/lang/invoke/VarHandle" ∧ (parseMethodDescriptor yX3_init.desc).map (fun d => d.parameters.length) = some 0 := by decide +kernel
abbrev rm_X3_init : Room := { frames := 1, cells := 0, slots := 0, locals := 12 }
def n_at_X3 (dC : Nat → ClassId) (dI : Nat → Nat → Nat) (A : Nat → Prop) (h0 : Nat) (u : NU) (t : State) : Prop := va_P (dC, dI) vwCl [(h0, .inr (3, [.int 0, .int 0, .int 6, .int 1]))] t.heap ∧ va_K (dC, dI) vwCl [] t ∧ va_D A [(h0, .inr (3, [.int 0, .int 0, .int 6, .int 1]))]
set_option maxHeartbeats 4000000 in
set_option maxRecDepth 100000 in
theorem n_X3_init (l : Launch) (dC : Nat → ClassId) (dI : Nat → Nat → Nat) (h0 sz : Nat) : Met l yX3_init (Cond.code yX3_init cX3_init 1 none :: wAll) rm_X3_init (va_Pc [.ref h0] (cPre sz h0 dC dI (.inr (3, [.int 0, .int 0, .int 0, .int 0])))) (va_Qv (fun _ : NU => True) (n_at_X3 dC dI (va_A [(h0, .inr (3, [.int 0, .int 0, .int 0, .int 0]))] sz) h0) (va_A [(h0, .inr (3, [.int 0, .int 0, .int 0, .int 0]))] sz)) 0 0 (va_A [(h0, .inr (3, [.int 0, .int 0, .int 0, .int 0]))] sz) := by
  refine Met.ofW (cc := cX3_init) (maxL := 1) (ret := none) (by decide) rfl ?_
  intro p e s m args below meth c s₁ B hml hv
  obtain ⟨rfl, hsz, hP, hK, hD0, hNW⟩ := hv
  have hx := B.exec
  have hb := B.bytes
  have hr := B.returns
  have hts : ∀ w ∈ wAll, w.before _ s = true := fun w hw => atoms_spec (ws := Cond.code yX3_init cX3_init 1 none :: wAll) B.pre w (List.mem_cons_of_mem _ hw)
  have hown : s.vm.findClass RX3 = some m.cls := findClass_of_methodNamed B.named
  have hlocks := B.notSynchronized
  have hin : meth.name = "<init>" := (name_of_methodNamed B.named B.method).1
  subst hsz
  have hD := hD0.self (sz := s.heap.size)
  generalize hAe : va_A [(h0, .inr (3, [.int 0, .int 0, .int 0, .int 0]))] s.heap.size = A at hD ⊢
  have hA : ∀ q : Nat, s.heap.size ≤ q → A q := fun q h => by rw [← hAe]; exact Or.inr h
  have hS : va_S A s.heap s.heap [] := va_S.rf
  have hP : va_P (dC, dI) vwCl [(h0, .inr (3, [.int 0, .int 0, .int 0, .int 0]))] s.heap := hP
  have hl := lv_entry ([.ref h0]) (n := 1) (Nat.le_of_ble_eq_true rfl)
  rw [lg_entry_eq]
  generalize (lg_sl ([.ref h0]) ++ List.replicate (1 - (lg_sl ([.ref h0])).length) Slot.unset).toArray = ls at hl ⊢
  have hl : lv_has ls 1 [(0, .ref h0)] := hl
  refine lv_aload_n hx hb dX3_init_0 rfl (lv_at hl 0 rfl) ?_
  refine W.objInit hx hb hown (hts _ wM_X3_3) (hts _ wI_objectInit) (hts _ wC_objectInit) rfl (by rw [hml]; exact hl.1) rfl dX3_init_1 (Nat.le_of_ble_eq_true rfl) (Nat.le_of_ble_eq_true rfl) ?_
  refine W.eq (g2 := F0 m 4 ls []) rfl ?_
  refine lv_aload_n hx hb dX3_init_4 rfl (lv_at hl 0 rfl) ?_
  refine lv_iconst (v := 0) hx hb dX3_init_5 (by decide) ?_
  refine va_put (D := (dC, dI)) (ci := 3) (v := .int 0) (ty := tyX3 0) (C := RX3) (T := TX3) (N := 4) hx hb hts wU_X3 tyX3 tyX3_ok nmX3 hown hK hP hD hS 0 rfl rfl 0 (by decide) (hts _ wF_X3_9) (fun _ h9 => h9) rfl (tyX3_ok 0 (by decide)) rfl rfl (Nat.le_of_ble_eq_true rfl) dX3_init_6 (fun H locs hP hD hS => ?_)
  have hP : va_P (dC, dI) vwCl [(h0, .inr (3, [.int 0, .int 0, .int 0, .int 0]))] H := hP
  have hD : va_D A [(h0, .inr (3, [.int 0, .int 0, .int 0, .int 0]))] := hD
  refine lv_aload_n hx hb dX3_init_9 rfl (lv_at hl 0 rfl) ?_
  refine lv_iconst (v := 0) hx hb dX3_init_10 (by decide) ?_
  refine va_put (D := (dC, dI)) (ci := 3) (v := .int 0) (ty := tyX3 1) (C := RX3) (T := TX3) (N := 4) hx hb hts wU_X3 tyX3 tyX3_ok nmX3 hown hK hP hD hS 0 rfl rfl 1 (by decide) (hts _ wF_X3_15) (fun _ h9 => h9) rfl (tyX3_ok 1 (by decide)) rfl rfl (Nat.le_of_ble_eq_true rfl) dX3_init_11 (fun H locs hP hD hS => ?_)
  have hP : va_P (dC, dI) vwCl [(h0, .inr (3, [.int 0, .int 0, .int 0, .int 0]))] H := hP
  have hD : va_D A [(h0, .inr (3, [.int 0, .int 0, .int 0, .int 0]))] := hD
  refine lv_aload_n hx hb dX3_init_14 rfl (lv_at hl 0 rfl) ?_
  refine lv_bipush (v := 6) hx hb dX3_init_15 (by decide) ?_
  refine va_put (D := (dC, dI)) (ci := 3) (v := .int 6) (ty := tyX3 2) (C := RX3) (T := TX3) (N := 4) hx hb hts wU_X3 tyX3 tyX3_ok nmX3 hown hK hP hD hS 0 rfl rfl 2 (by decide) (hts _ wF_X3_18) (fun _ h9 => h9) rfl (tyX3_ok 2 (by decide)) rfl rfl (Nat.le_of_ble_eq_true rfl) dX3_init_17 (fun H locs hP hD hS => ?_)
  have hP : va_P (dC, dI) vwCl [(h0, .inr (3, [.int 0, .int 0, .int 6, .int 0]))] H := hP
  have hD : va_D A [(h0, .inr (3, [.int 0, .int 0, .int 6, .int 0]))] := hD
  refine lv_aload_n hx hb dX3_init_20 rfl (lv_at hl 0 rfl) ?_
  refine lv_iconst (v := 1) hx hb dX3_init_21 (by decide) ?_
  refine va_put (D := (dC, dI)) (ci := 3) (v := .int 1) (ty := tyX3 3) (C := RX3) (T := TX3) (N := 4) hx hb hts wU_X3 tyX3 tyX3_ok nmX3 hown hK hP hD hS 0 rfl rfl 3 (by decide) (hts _ wF_X3_21) (fun _ h9 => h9) rfl (tyX3_ok 3 (by decide)) rfl rfl (Nat.le_of_ble_eq_true rfl) dX3_init_22 (fun H locs hP hD hS => ?_)
  have hP : va_P (dC, dI) vwCl [(h0, .inr (3, [.int 0, .int 0, .int 6, .int 1]))] H := hP
  have hD : va_D A [(h0, .inr (3, [.int 0, .int 0, .int 6, .int 1]))] := hD
  have hP9 := hP.sub (ws' := [(h0, .inr (3, [.int 0, .int 0, .int 6, .int 1]))]) [0] rfl
  have hD9 := hD.sub (ws' := [(h0, .inr (3, [.int 0, .int 0, .int 6, .int 1]))]) [0] (by decide) rfl
  exact W.vret hx hb hr (fun t ht hW => ⟨⟨((fun k => ([] : List Nat).getD k 0), (fun k => ([] : List ClassId).getD k 0)), rfl, trivial, by rw [ht]; exact hP9, va_K.moved hW.alike hK, hD9⟩, hS.F ht⟩) hS.2.2 dX3_init_25
theorem hd_X4_init : yX4_init.cls ≠ "java/lang/invoke/MethodHandle" ∧ yX4_init.cls ≠ "java/lang/invoke/VarHandle" ∧ (parseMethodDescriptor yX4_init.desc).map (fun d => d.parameters.length) = some 0 := by decide +kernel
abbrev rm_X4_init : Room := { frames := 1, cells := 3, slots := 24, locals := 12 }
def n_at_X4 (dC : Nat → ClassId) (dI : Nat → Nat → Nat) (A : Nat → Prop) (h0 : Nat) (u : NU) (t : State) : Prop := va_P (dC, dI) vwCl [(h0, .inr (4, [.ref (u.1 0), .ref (u.1 1), .ref (u.1 2), .int 0])), ((u.1 0), .inl ((u.2 0), (8, .inl (fun _ => 0)))), ((u.1 1), .inl ((u.2 0), (8, .inl (fun _ => 0)))), ((u.1 2), .inl ((u.2 1), (8, .inl (fun _ => 0))))] t.heap ∧ va_K (dC, dI) vwCl [((u.2 0), .int), ((u.2 1), .boolean)] t ∧ va_D A [(h0, .inr (4, [.ref (u.1 0), .ref (u.1 1), .ref (u.1 2), .int 0])), ((u.1 0), .inl ((u.2 0), (8, .inl (fun _ => 0)))), ((u.1 1), .inl ((u.2 0), (8, .inl (fun _ => 0)))), ((u.1 2), .inl ((u.2 1), (8, .inl (fun _ => 0))))]
set_option maxHeartbeats 4000000 in
set_option maxRecDepth 100000 in
theorem n_X4_init (l : Launch) (dC : Nat → ClassId) (dI : Nat → Nat → Nat) (h0 sz : Nat) : Met l yX4_init (Cond.code yX4_init cX4_init 1 none :: wAll) rm_X4_init (va_Pc [.ref h0] (cPre sz h0 dC dI (.inr (4, [.null, .null, .null, .int 0])))) (va_Qv (fun _ : NU => True) (n_at_X4 dC dI (va_A [(h0, .inr (4, [.null, .null, .null, .int 0]))] sz) h0) (va_A [(h0, .inr (4, [.null, .null, .null, .int 0]))] sz)) 3 24 (va_A [(h0, .inr (4, [.null, .null, .null, .int 0]))] sz) := by
  refine Met.ofW (cc := cX4_init) (maxL := 1) (ret := none) (by decide) rfl ?_
  intro p e s m args below meth c s₁ B hml hv
  obtain ⟨rfl, hsz, hP, hK, hD0, hNW⟩ := hv
  have hx := B.exec
  have hb := B.bytes
  have hr := B.returns
  have hts : ∀ w ∈ wAll, w.before _ s = true := fun w hw => atoms_spec (ws := Cond.code yX4_init cX4_init 1 none :: wAll) B.pre w (List.mem_cons_of_mem _ hw)
  have hown : s.vm.findClass RX4 = some m.cls := findClass_of_methodNamed B.named
  have hlocks := B.notSynchronized
  have hin : meth.name = "<init>" := (name_of_methodNamed B.named B.method).1
  subst hsz
  have hD := hD0.self (sz := s.heap.size)
  generalize hAe : va_A [(h0, .inr (4, [.null, .null, .null, .int 0]))] s.heap.size = A at hD ⊢
  have hA : ∀ q : Nat, s.heap.size ≤ q → A q := fun q h => by rw [← hAe]; exact Or.inr h
  have hS : va_S A s.heap s.heap [] := va_S.rf
  have hP : va_P (dC, dI) vwCl [(h0, .inr (4, [.null, .null, .null, .int 0]))] s.heap := hP
  have hl := lv_entry ([.ref h0]) (n := 1) (Nat.le_of_ble_eq_true rfl)
  rw [lg_entry_eq]
  generalize (lg_sl ([.ref h0]) ++ List.replicate (1 - (lg_sl ([.ref h0])).length) Slot.unset).toArray = ls at hl ⊢
  have hl : lv_has ls 1 [(0, .ref h0)] := hl
  refine lv_aload_n hx hb dX4_init_0 rfl (lv_at hl 0 rfl) ?_
  refine W.objInit hx hb hown (hts _ wM_X4_3) (hts _ wI_objectInit) (hts _ wC_objectInit) rfl (by rw [hml]; exact hl.1) rfl dX4_init_1 (Nat.le_of_ble_eq_true rfl) (Nat.le_of_ble_eq_true rfl) ?_
  refine W.eq (g2 := F0 m 4 ls []) rfl ?_
  refine lv_aload_n hx hb dX4_init_4 rfl (lv_at hl 0 rfl) ?_
  refine lv_bipush (v := 8) hx hb dX4_init_5 (by decide) ?_
  refine va_newa (atype := .int) (a0 := (8, .inl (fun _ => 0))) (ty := .int) hx hb (hts _ wR_int) rfl hK hP hD hS hA (fun _ => rfl) (by decide) (by decide) (by decide) (show 0 + 1 ≤ 3 by decide) (show 0 + 8 ≤ 24 by decide) dX4_init_7 (fun q0 c0 H hK hP hD hS => ?_)
  have hK : va_K (dC, dI) vwCl [(c0, .int)] s := hK
  have hK := hK.sub (tys' := [(c0, .int)]) [0] rfl
  have hP : va_P (dC, dI) vwCl [(h0, .inr (4, [.null, .null, .null, .int 0])), (q0, .inl (c0, (8, .inl (fun _ => 0))))] H := hP
  have hD : va_D A [(h0, .inr (4, [.null, .null, .null, .int 0])), (q0, .inl (c0, (8, .inl (fun _ => 0))))] := hD
  refine W.widen (k := 1) (n := 8) (by omega) (by omega) ?_
  refine va_putF (D := (dC, dI)) (ci := 4) (v := .ref q0) (ty := tyX4 0) (C := RX4) (T := TX4) (N := 4) hx hb hts wU_X4 tyX4 tyX4_ok nmX4 hown hK hP hD hS 0 rfl rfl 0 (by decide) (hts _ wF_X4_9) (fun _ h9 => h9) rfl hin rfl (tyX4_ok 0 (by decide)) rfl rfl (Nat.le_of_ble_eq_true rfl) dX4_init_9 (fun H locs hP hD hS => ?_)
  have hP : va_P (dC, dI) vwCl [(h0, .inr (4, [.ref q0, .null, .null, .int 0])), (q0, .inl (c0, (8, .inl (fun _ => 0))))] H := hP
  have hD : va_D A [(h0, .inr (4, [.ref q0, .null, .null, .int 0])), (q0, .inl (c0, (8, .inl (fun _ => 0))))] := hD
  refine lv_aload_n hx hb dX4_init_12 rfl (lv_at hl 0 rfl) ?_
  refine lv_bipush (v := 8) hx hb dX4_init_13 (by decide) ?_
  refine va_newa (atype := .int) (a0 := (8, .inl (fun _ => 0))) (ty := .int) hx hb (hts _ wR_int) rfl hK hP hD hS hA (fun _ => rfl) (by decide) (by decide) (by decide) (show 1 + 1 ≤ 3 by decide) (show 8 + 8 ≤ 24 by decide) dX4_init_15 (fun q1 c1 H hK hP hD hS => ?_)
  have hK : va_K (dC, dI) vwCl [(c0, .int), (c1, .int)] s := hK
  obtain rfl := va_K_uniq hK (i := 0) (j := 1) rfl rfl
  have hK := hK.sub (tys' := [(c0, .int)]) [0] rfl
  have hP : va_P (dC, dI) vwCl [(h0, .inr (4, [.ref q0, .null, .null, .int 0])), (q0, .inl (c0, (8, .inl (fun _ => 0)))), (q1, .inl (c0, (8, .inl (fun _ => 0))))] H := hP
  have hD : va_D A [(h0, .inr (4, [.ref q0, .null, .null, .int 0])), (q0, .inl (c0, (8, .inl (fun _ => 0)))), (q1, .inl (c0, (8, .inl (fun _ => 0))))] := hD
  refine W.widen (k := 2) (n := 16) (by omega) (by omega) ?_
  refine va_putF (D := (dC, dI)) (ci := 4) (v := .ref q1) (ty := tyX4 1) (C := RX4) (T := TX4) (N := 4) hx hb hts wU_X4 tyX4 tyX4_ok nmX4 hown hK hP hD hS 0 rfl rfl 1 (by decide) (hts _ wF_X4_15) (fun _ h9 => h9) rfl hin rfl (tyX4_ok 1 (by decide)) rfl rfl (Nat.le_of_ble_eq_true rfl) dX4_init_17 (fun H locs hP hD hS => ?_)
  have hP : va_P (dC, dI) vwCl [(h0, .inr (4, [.ref q0, .ref q1, .null, .int 0])), (q0, .inl (c0, (8, .inl (fun _ => 0)))), (q1, .inl (c0, (8, .inl (fun _ => 0))))] H := hP
  have hD : va_D A [(h0, .inr (4, [.ref q0, .ref q1, .null, .int 0])), (q0, .inl (c0, (8, .inl (fun _ => 0)))), (q1, .inl (c0, (8, .inl (fun _ => 0))))] := hD
  refine lv_aload_n hx hb dX4_init_20 rfl (lv_at hl 0 rfl) ?_
  refine lv_bipush (v := 8) hx hb dX4_init_21 (by decide) ?_
  refine va_newa (atype := .boolean) (a0 := (8, .inl (fun _ => 0))) (ty := .boolean) hx hb (hts _ wR_boolean) rfl hK hP hD hS hA (fun _ => rfl) (by decide) (by decide) (by decide) (show 2 + 1 ≤ 3 by decide) (show 16 + 8 ≤ 24 by decide) dX4_init_23 (fun q2 c2 H hK hP hD hS => ?_)
  have hK : va_K (dC, dI) vwCl [(c0, .int), (c2, .boolean)] s := hK
  have hK := hK.sub (tys' := [(c0, .int), (c2, .boolean)]) [0, 1] rfl
  have hP : va_P (dC, dI) vwCl [(h0, .inr (4, [.ref q0, .ref q1, .null, .int 0])), (q0, .inl (c0, (8, .inl (fun _ => 0)))), (q1, .inl (c0, (8, .inl (fun _ => 0)))), (q2, .inl (c2, (8, .inl (fun _ => 0))))] H := hP
  have hD : va_D A [(h0, .inr (4, [.ref q0, .ref q1, .null, .int 0])), (q0, .inl (c0, (8, .inl (fun _ => 0)))), (q1, .inl (c0, (8, .inl (fun _ => 0)))), (q2, .inl (c2, (8, .inl (fun _ => 0))))] := hD
  refine W.widen (k := 3) (n := 24) (by omega) (by omega) ?_
  refine va_putF (D := (dC, dI)) (ci := 4) (v := .ref q2) (ty := tyX4 2) (C := RX4) (T := TX4) (N := 4) hx hb hts wU_X4 tyX4 tyX4_ok nmX4 hown hK hP hD hS 0 rfl rfl 2 (by decide) (hts _ wF_X4_18) (fun _ h9 => h9) rfl hin rfl (tyX4_ok 2 (by decide)) rfl rfl (Nat.le_of_ble_eq_true rfl) dX4_init_25 (fun H locs hP hD hS => ?_)
  have hP : va_P (dC, dI) vwCl [(h0, .inr (4, [.ref q0, .ref q1, .ref q2, .int 0])), (q0, .inl (c0, (8, .inl (fun _ => 0)))), (q1, .inl (c0, (8, .inl (fun _ => 0)))), (q2, .inl (c2, (8, .inl (fun _ => 0))))] H := hP
  have hD : va_D A [(h0, .inr (4, [.ref q0, .ref q1, .ref q2, .int 0])), (q0, .inl (c0, (8, .inl (fun _ => 0)))), (q1, .inl (c0, (8, .inl (fun _ => 0)))), (q2, .inl (c2, (8, .inl (fun _ => 0))))] := hD
  refine lv_aload_n hx hb dX4_init_28 rfl (lv_at hl 0 rfl) ?_
  refine lv_iconst (v := 0) hx hb dX4_init_29 (by decide) ?_
  refine va_put (D := (dC, dI)) (ci := 4) (v := .int 0) (ty := tyX4 3) (C := RX4) (T := TX4) (N := 4) hx hb hts wU_X4 tyX4 tyX4_ok nmX4 hown hK hP hD hS 0 rfl rfl 3 (by decide) (hts _ wF_X4_22) (fun _ h9 => h9) rfl (tyX4_ok 3 (by decide)) rfl rfl (Nat.le_of_ble_eq_true rfl) dX4_init_30 (fun H locs hP hD hS => ?_)
  have hP : va_P (dC, dI) vwCl [(h0, .inr (4, [.ref q0, .ref q1, .ref q2, .int 0])), (q0, .inl (c0, (8, .inl (fun _ => 0)))), (q1, .inl (c0, (8, .inl (fun _ => 0)))), (q2, .inl (c2, (8, .inl (fun _ => 0))))] H := hP
  have hD : va_D A [(h0, .inr (4, [.ref q0, .ref q1, .ref q2, .int 0])), (q0, .inl (c0, (8, .inl (fun _ => 0)))), (q1, .inl (c0, (8, .inl (fun _ => 0)))), (q2, .inl (c2, (8, .inl (fun _ => 0))))] := hD
  have hP9 := hP.sub (ws' := [(h0, .inr (4, [.ref q0, .ref q1, .ref q2, .int 0])), (q0, .inl (c0, (8, .inl (fun _ => 0)))), (q1, .inl (c0, (8, .inl (fun _ => 0)))), (q2, .inl (c2, (8, .inl (fun _ => 0))))]) [0, 1, 2, 3] rfl
  have hD9 := hD.sub (ws' := [(h0, .inr (4, [.ref q0, .ref q1, .ref q2, .int 0])), (q0, .inl (c0, (8, .inl (fun _ => 0)))), (q1, .inl (c0, (8, .inl (fun _ => 0)))), (q2, .inl (c2, (8, .inl (fun _ => 0))))]) [0, 1, 2, 3] (by decide) rfl
  exact W.vret hx hb hr (fun t ht hW => ⟨⟨((fun k => ([q0, q1, q2] : List Nat).getD k 0), (fun k => ([c0, c2] : List ClassId).getD k 0)), rfl, trivial, by rw [ht]; exact hP9, va_K.moved hW.alike hK, hD9⟩, hS.F ht⟩) hS.2.2 dX4_init_33
theorem hd_X0_init : yX0_init.cls ≠ "java/lang/invoke/MethodHandle" ∧ yX0_init.cls ≠ "java/lang/invoke/VarHandle" ∧ (parseMethodDescriptor yX0_init.desc).map (fun d => d.parameters.length) = some 0 := by decide +kernel
abbrev rm_X0_init : Room := { frames := 1, cells := 7, slots := 66, locals := 12 }
def n_at_X0 (dC : Nat → ClassId) (dI : Nat → Nat → Nat) (A : Nat → Prop) (h0 : Nat) (u : NU) (t : State) : Prop := va_P (dC, dI) vwCl [(h0, .inr (0, [.ref (u.1 0), .ref (u.1 1), .ref (u.1 2), .ref (u.1 3), .ref (u.1 4), .ref (u.1 5), .ref (u.1 6), .int 0])), ((u.1 0), .inl ((u.2 0), (6, .inl (fun _ => 0)))), ((u.1 1), .inl ((u.2 0), (6, .inl (fun _ => 0)))), ((u.1 2), .inl ((u.2 0), (6, .inl (fun _ => 0)))), ((u.1 3), .inl ((u.2 0), (6, .inl (fun _ => 0)))), ((u.1 4), .inl ((u.2 0), (6, .inl (fun _ => 0)))), ((u.1 5), .inl ((u.2 0), (36, .inl (fun _ => 0)))), ((u.1 6), .inl ((u.2 1), (0, .inr (.inr (.inr (.inr (fun _ => none)))))))] t.heap ∧ va_K (dC, dI) vwCl [((u.2 0), .int), ((u.2 1), .object "LentYouths$Person")] t ∧ va_D A [(h0, .inr (0, [.ref (u.1 0), .ref (u.1 1), .ref (u.1 2), .ref (u.1 3), .ref (u.1 4), .ref (u.1 5), .ref (u.1 6), .int 0])), ((u.1 0), .inl ((u.2 0), (6, .inl (fun _ => 0)))), ((u.1 1), .inl ((u.2 0), (6, .inl (fun _ => 0)))), ((u.1 2), .inl ((u.2 0), (6, .inl (fun _ => 0)))), ((u.1 3), .inl ((u.2 0), (6, .inl (fun _ => 0)))), ((u.1 4), .inl ((u.2 0), (6, .inl (fun _ => 0)))), ((u.1 5), .inl ((u.2 0), (36, .inl (fun _ => 0)))), ((u.1 6), .inl ((u.2 1), (0, .inr (.inr (.inr (.inr (fun _ => none)))))))]
set_option maxHeartbeats 4000000 in
set_option maxRecDepth 100000 in
theorem n_X0_init (l : Launch) (dC : Nat → ClassId) (dI : Nat → Nat → Nat) (h0 sz : Nat) : Met l yX0_init (Cond.code yX0_init cX0_init 1 none :: wAll) rm_X0_init (va_Pc [.ref h0] (cPre sz h0 dC dI (.inr (0, [.null, .null, .null, .null, .null, .null, .null, .int 0])))) (va_Qv (fun _ : NU => True) (n_at_X0 dC dI (va_A [(h0, .inr (0, [.null, .null, .null, .null, .null, .null, .null, .int 0]))] sz) h0) (va_A [(h0, .inr (0, [.null, .null, .null, .null, .null, .null, .null, .int 0]))] sz)) 7 66 (va_A [(h0, .inr (0, [.null, .null, .null, .null, .null, .null, .null, .int 0]))] sz) := by
  refine Met.ofW (cc := cX0_init) (maxL := 1) (ret := none) (by decide) rfl ?_
  intro p e s m args below meth c s₁ B hml hv
  obtain ⟨rfl, hsz, hP, hK, hD0, hNW⟩ := hv
  have hx := B.exec
  have hb := B.bytes
  have hr := B.returns
  have hts : ∀ w ∈ wAll, w.before _ s = true := fun w hw => atoms_spec (ws := Cond.code yX0_init cX0_init 1 none :: wAll) B.pre w (List.mem_cons_of_mem _ hw)
  have hown : s.vm.findClass RX0 = some m.cls := findClass_of_methodNamed B.named
  have hlocks := B.notSynchronized
  have hin : meth.name = "<init>" := (name_of_methodNamed B.named B.method).1
  subst hsz
  have hD := hD0.self (sz := s.heap.size)
  generalize hAe : va_A [(h0, .inr (0, [.null, .null, .null, .null, .null, .null, .null, .int 0]))] s.heap.size = A at hD ⊢
  have hA : ∀ q : Nat, s.heap.size ≤ q → A q := fun q h => by rw [← hAe]; exact Or.inr h
  have hS : va_S A s.heap s.heap [] := va_S.rf
  have hP : va_P (dC, dI) vwCl [(h0, .inr (0, [.null, .null, .null, .null, .null, .null, .null, .int 0]))] s.heap := hP
  have hl := lv_entry ([.ref h0]) (n := 1) (Nat.le_of_ble_eq_true rfl)
  rw [lg_entry_eq]
  generalize (lg_sl ([.ref h0]) ++ List.replicate (1 - (lg_sl ([.ref h0])).length) Slot.unset).toArray = ls at hl ⊢
  have hl : lv_has ls 1 [(0, .ref h0)] := hl
  refine lv_aload_n hx hb dX0_init_0 rfl (lv_at hl 0 rfl) ?_
  refine W.objInit hx hb hown (hts _ wM_X0_3) (hts _ wI_objectInit) (hts _ wC_objectInit) rfl (by rw [hml]; exact hl.1) rfl dX0_init_1 (Nat.le_of_ble_eq_true rfl) (Nat.le_of_ble_eq_true rfl) ?_
  refine W.eq (g2 := F0 m 4 ls []) rfl ?_
  refine lv_aload_n hx hb dX0_init_4 rfl (lv_at hl 0 rfl) ?_
  refine lv_bipush (v := 6) hx hb dX0_init_5 (by decide) ?_
  refine va_newa (atype := .int) (a0 := (6, .inl (fun _ => 0))) (ty := .int) hx hb (hts _ wR_int) rfl hK hP hD hS hA (fun _ => rfl) (by decide) (by decide) (by decide) (show 0 + 1 ≤ 7 by decide) (show 0 + 6 ≤ 66 by decide) dX0_init_7 (fun q0 c0 H hK hP hD hS => ?_)
  have hK : va_K (dC, dI) vwCl [(c0, .int)] s := hK
  have hK := hK.sub (tys' := [(c0, .int)]) [0] rfl
  have hP : va_P (dC, dI) vwCl [(h0, .inr (0, [.null, .null, .null, .null, .null, .null, .null, .int 0])), (q0, .inl (c0, (6, .inl (fun _ => 0))))] H := hP
  have hD : va_D A [(h0, .inr (0, [.null, .null, .null, .null, .null, .null, .null, .int 0])), (q0, .inl (c0, (6, .inl (fun _ => 0))))] := hD
  refine W.widen (k := 1) (n := 6) (by omega) (by omega) ?_
  refine va_putF (D := (dC, dI)) (ci := 0) (v := .ref q0) (ty := tyX0 0) (C := RX0) (T := TX0) (N := 8) hx hb hts wU_X0 tyX0 tyX0_ok nmX0 hown hK hP hD hS 0 rfl rfl 0 (by decide) (hts _ wF_X0_9) (fun _ h9 => h9) rfl hin rfl (tyX0_ok 0 (by decide)) rfl rfl (Nat.le_of_ble_eq_true rfl) dX0_init_9 (fun H locs hP hD hS => ?_)
  have hP : va_P (dC, dI) vwCl [(h0, .inr (0, [.ref q0, .null, .null, .null, .null, .null, .null, .int 0])), (q0, .inl (c0, (6, .inl (fun _ => 0))))] H := hP
  have hD : va_D A [(h0, .inr (0, [.ref q0, .null, .null, .null, .null, .null, .null, .int 0])), (q0, .inl (c0, (6, .inl (fun _ => 0))))] := hD
  refine lv_aload_n hx hb dX0_init_12 rfl (lv_at hl 0 rfl) ?_
  refine lv_bipush (v := 6) hx hb dX0_init_13 (by decide) ?_
  refine va_newa (atype := .int) (a0 := (6, .inl (fun _ => 0))) (ty := .int) hx hb (hts _ wR_int) rfl hK hP hD hS hA (fun _ => rfl) (by decide) (by decide) (by decide) (show 1 + 1 ≤ 7 by decide) (show 6 + 6 ≤ 66 by decide) dX0_init_15 (fun q1 c1 H hK hP hD hS => ?_)
  have hK : va_K (dC, dI) vwCl [(c0, .int), (c1, .int)] s := hK
  obtain rfl := va_K_uniq hK (i := 0) (j := 1) rfl rfl
  have hK := hK.sub (tys' := [(c0, .int)]) [0] rfl
  have hP : va_P (dC, dI) vwCl [(h0, .inr (0, [.ref q0, .null, .null, .null, .null, .null, .null, .int 0])), (q0, .inl (c0, (6, .inl (fun _ => 0)))), (q1, .inl (c0, (6, .inl (fun _ => 0))))] H := hP
  have hD : va_D A [(h0, .inr (0, [.ref q0, .null, .null, .null, .null, .null, .null, .int 0])), (q0, .inl (c0, (6, .inl (fun _ => 0)))), (q1, .inl (c0, (6, .inl (fun _ => 0))))] := hD
  refine W.widen (k := 2) (n := 12) (by omega) (by omega) ?_
  refine va_putF (D := (dC, dI)) (ci := 0) (v := .ref q1) (ty := tyX0 1) (C := RX0) (T := TX0) (N := 8) hx hb hts wU_X0 tyX0 tyX0_ok nmX0 hown hK hP hD hS 0 rfl rfl 1 (by decide) (hts _ wF_X0_15) (fun _ h9 => h9) rfl hin rfl (tyX0_ok 1 (by decide)) rfl rfl (Nat.le_of_ble_eq_true rfl) dX0_init_17 (fun H locs hP hD hS => ?_)
  have hP : va_P (dC, dI) vwCl [(h0, .inr (0, [.ref q0, .ref q1, .null, .null, .null, .null, .null, .int 0])), (q0, .inl (c0, (6, .inl (fun _ => 0)))), (q1, .inl (c0, (6, .inl (fun _ => 0))))] H := hP
  have hD : va_D A [(h0, .inr (0, [.ref q0, .ref q1, .null, .null, .null, .null, .null, .int 0])), (q0, .inl (c0, (6, .inl (fun _ => 0)))), (q1, .inl (c0, (6, .inl (fun _ => 0))))] := hD
  refine lv_aload_n hx hb dX0_init_20 rfl (lv_at hl 0 rfl) ?_
  refine lv_bipush (v := 6) hx hb dX0_init_21 (by decide) ?_
  refine va_newa (atype := .int) (a0 := (6, .inl (fun _ => 0))) (ty := .int) hx hb (hts _ wR_int) rfl hK hP hD hS hA (fun _ => rfl) (by decide) (by decide) (by decide) (show 2 + 1 ≤ 7 by decide) (show 12 + 6 ≤ 66 by decide) dX0_init_23 (fun q2 c2 H hK hP hD hS => ?_)
  have hK : va_K (dC, dI) vwCl [(c0, .int), (c2, .int)] s := hK
  obtain rfl := va_K_uniq hK (i := 0) (j := 1) rfl rfl
  have hK := hK.sub (tys' := [(c0, .int)]) [0] rfl
  have hP : va_P (dC, dI) vwCl [(h0, .inr (0, [.ref q0, .ref q1, .null, .null, .null, .null, .null, .int 0])), (q0, .inl (c0, (6, .inl (fun _ => 0)))), (q1, .inl (c0, (6, .inl (fun _ => 0)))), (q2, .inl (c0, (6, .inl (fun _ => 0))))] H := hP
  have hD : va_D A [(h0, .inr (0, [.ref q0, .ref q1, .null, .null, .null, .null, .null, .int 0])), (q0, .inl (c0, (6, .inl (fun _ => 0)))), (q1, .inl (c0, (6, .inl (fun _ => 0)))), (q2, .inl (c0, (6, .inl (fun _ => 0))))] := hD
  refine W.widen (k := 3) (n := 18) (by omega) (by omega) ?_
  refine va_putF (D := (dC, dI)) (ci := 0) (v := .ref q2) (ty := tyX0 2) (C := RX0) (T := TX0) (N := 8) hx hb hts wU_X0 tyX0 tyX0_ok nmX0 hown hK hP hD hS 0 rfl rfl 2 (by decide) (hts _ wF_X0_18) (fun _ h9 => h9) rfl hin rfl (tyX0_ok 2 (by decide)) rfl rfl (Nat.le_of_ble_eq_true rfl) dX0_init_25 (fun H locs hP hD hS => ?_)
  have hP : va_P (dC, dI) vwCl [(h0, .inr (0, [.ref q0, .ref q1, .ref q2, .null, .null, .null, .null, .int 0])), (q0, .inl (c0, (6, .inl (fun _ => 0)))), (q1, .inl (c0, (6, .inl (fun _ => 0)))), (q2, .inl (c0, (6, .inl (fun _ => 0))))] H := hP
  have hD : va_D A [(h0, .inr (0, [.ref q0, .ref q1, .ref q2, .null, .null, .null, .null, .int 0])), (q0, .inl (c0, (6, .inl (fun _ => 0)))), (q1, .inl (c0, (6, .inl (fun _ => 0)))), (q2, .inl (c0, (6, .inl (fun _ => 0))))] := hD
  refine lv_aload_n hx hb dX0_init_28 rfl (lv_at hl 0 rfl) ?_
  refine lv_bipush (v := 6) hx hb dX0_init_29 (by decide) ?_
  refine va_newa (atype := .int) (a0 := (6, .inl (fun _ => 0))) (ty := .int) hx hb (hts _ wR_int) rfl hK hP hD hS hA (fun _ => rfl) (by decide) (by decide) (by decide) (show 3 + 1 ≤ 7 by decide) (show 18 + 6 ≤ 66 by decide) dX0_init_31 (fun q3 c3 H hK hP hD hS => ?_)
  have hK : va_K (dC, dI) vwCl [(c0, .int), (c3, .int)] s := hK
  obtain rfl := va_K_uniq hK (i := 0) (j := 1) rfl rfl
  have hK := hK.sub (tys' := [(c0, .int)]) [0] rfl
  have hP : va_P (dC, dI) vwCl [(h0, .inr (0, [.ref q0, .ref q1, .ref q2, .null, .null, .null, .null, .int 0])), (q0, .inl (c0, (6, .inl (fun _ => 0)))), (q1, .inl (c0, (6, .inl (fun _ => 0)))), (q2, .inl (c0, (6, .inl (fun _ => 0)))), (q3, .inl (c0, (6, .inl (fun _ => 0))))] H := hP
  have hD : va_D A [(h0, .inr (0, [.ref q0, .ref q1, .ref q2, .null, .null, .null, .null, .int 0])), (q0, .inl (c0, (6, .inl (fun _ => 0)))), (q1, .inl (c0, (6, .inl (fun _ => 0)))), (q2, .inl (c0, (6, .inl (fun _ => 0)))), (q3, .inl (c0, (6, .inl (fun _ => 0))))] := hD
  refine W.widen (k := 4) (n := 24) (by omega) (by omega) ?_
  refine va_putF (D := (dC, dI)) (ci := 0) (v := .ref q3) (ty := tyX0 3) (C := RX0) (T := TX0) (N := 8) hx hb hts wU_X0 tyX0 tyX0_ok nmX0 hown hK hP hD hS 0 rfl rfl 3 (by decide) (hts _ wF_X0_21) (fun _ h9 => h9) rfl hin rfl (tyX0_ok 3 (by decide)) rfl rfl (Nat.le_of_ble_eq_true rfl) dX0_init_33 (fun H locs hP hD hS => ?_)
  have hP : va_P (dC, dI) vwCl [(h0, .inr (0, [.ref q0, .ref q1, .ref q2, .ref q3, .null, .null, .null, .int 0])), (q0, .inl (c0, (6, .inl (fun _ => 0)))), (q1, .inl (c0, (6, .inl (fun _ => 0)))), (q2, .inl (c0, (6, .inl (fun _ => 0)))), (q3, .inl (c0, (6, .inl (fun _ => 0))))] H := hP
  have hD : va_D A [(h0, .inr (0, [.ref q0, .ref q1, .ref q2, .ref q3, .null, .null, .null, .int 0])), (q0, .inl (c0, (6, .inl (fun _ => 0)))), (q1, .inl (c0, (6, .inl (fun _ => 0)))), (q2, .inl (c0, (6, .inl (fun _ => 0)))), (q3, .inl (c0, (6, .inl (fun _ => 0))))] := hD
  refine lv_aload_n hx hb dX0_init_36 rfl (lv_at hl 0 rfl) ?_
  refine lv_bipush (v := 6) hx hb dX0_init_37 (by decide) ?_
  refine va_newa (atype := .int) (a0 := (6, .inl (fun _ => 0))) (ty := .int) hx hb (hts _ wR_int) rfl hK hP hD hS hA (fun _ => rfl) (by decide) (by decide) (by decide) (show 4 + 1 ≤ 7 by decide) (show 24 + 6 ≤ 66 by decide) dX0_init_39 (fun q4 c4 H hK hP hD hS => ?_)
  have hK : va_K (dC, dI) vwCl [(c0, .int), (c4, .int)] s := hK
  obtain rfl := va_K_uniq hK (i := 0) (j := 1) rfl rfl
  have hK := hK.sub (tys' := [(c0, .int)]) [0] rfl
  have hP : va_P (dC, dI) vwCl [(h0, .inr (0, [.ref q0, .ref q1, .ref q2, .ref q3, .null, .null, .null, .int 0])), (q0, .inl (c0, (6, .inl (fun _ => 0)))), (q1, .inl (c0, (6, .inl (fun _ => 0)))), (q2, .inl (c0, (6, .inl (fun _ => 0)))), (q3, .inl (c0, (6, .inl (fun _ => 0)))), (q4, .inl (c0, (6, .inl (fun _ => 0))))] H := hP
  have hD : va_D A [(h0, .inr (0, [.ref q0, .ref q1, .ref q2, .ref q3, .null, .null, .null, .int 0])), (q0, .inl (c0, (6, .inl (fun _ => 0)))), (q1, .inl (c0, (6, .inl (fun _ => 0)))), (q2, .inl (c0, (6, .inl (fun _ => 0)))), (q3, .inl (c0, (6, .inl (fun _ => 0)))), (q4, .inl (c0, (6, .inl (fun _ => 0))))] := hD
  refine W.widen (k := 5) (n := 30) (by omega) (by omega) ?_
  refine va_putF (D := (dC, dI)) (ci := 0) (v := .ref q4) (ty := tyX0 4) (C := RX0) (T := TX0) (N := 8) hx hb hts wU_X0 tyX0 tyX0_ok nmX0 hown hK hP hD hS 0 rfl rfl 4 (by decide) (hts _ wF_X0_24) (fun _ h9 => h9) rfl hin rfl (tyX0_ok 4 (by decide)) rfl rfl (Nat.le_of_ble_eq_true rfl) dX0_init_41 (fun H locs hP hD hS => ?_)
  have hP : va_P (dC, dI) vwCl [(h0, .inr (0, [.ref q0, .ref q1, .ref q2, .ref q3, .ref q4, .null, .null, .int 0])), (q0, .inl (c0, (6, .inl (fun _ => 0)))), (q1, .inl (c0, (6, .inl (fun _ => 0)))), (q2, .inl (c0, (6, .inl (fun _ => 0)))), (q3, .inl (c0, (6, .inl (fun _ => 0)))), (q4, .inl (c0, (6, .inl (fun _ => 0))))] H := hP
  have hD : va_D A [(h0, .inr (0, [.ref q0, .ref q1, .ref q2, .ref q3, .ref q4, .null, .null, .int 0])), (q0, .inl (c0, (6, .inl (fun _ => 0)))), (q1, .inl (c0, (6, .inl (fun _ => 0)))), (q2, .inl (c0, (6, .inl (fun _ => 0)))), (q3, .inl (c0, (6, .inl (fun _ => 0)))), (q4, .inl (c0, (6, .inl (fun _ => 0))))] := hD
  refine lv_aload_n hx hb dX0_init_44 rfl (lv_at hl 0 rfl) ?_
  refine lv_bipush (v := 36) hx hb dX0_init_45 (by decide) ?_
  refine va_newa (atype := .int) (a0 := (36, .inl (fun _ => 0))) (ty := .int) hx hb (hts _ wR_int) rfl hK hP hD hS hA (fun _ => rfl) (by decide) (by decide) (by decide) (show 5 + 1 ≤ 7 by decide) (show 30 + 36 ≤ 66 by decide) dX0_init_47 (fun q5 c5 H hK hP hD hS => ?_)
  have hK : va_K (dC, dI) vwCl [(c0, .int), (c5, .int)] s := hK
  obtain rfl := va_K_uniq hK (i := 0) (j := 1) rfl rfl
  have hK := hK.sub (tys' := [(c0, .int)]) [0] rfl
  have hP : va_P (dC, dI) vwCl [(h0, .inr (0, [.ref q0, .ref q1, .ref q2, .ref q3, .ref q4, .null, .null, .int 0])), (q0, .inl (c0, (6, .inl (fun _ => 0)))), (q1, .inl (c0, (6, .inl (fun _ => 0)))), (q2, .inl (c0, (6, .inl (fun _ => 0)))), (q3, .inl (c0, (6, .inl (fun _ => 0)))), (q4, .inl (c0, (6, .inl (fun _ => 0)))), (q5, .inl (c0, (36, .inl (fun _ => 0))))] H := hP
  have hD : va_D A [(h0, .inr (0, [.ref q0, .ref q1, .ref q2, .ref q3, .ref q4, .null, .null, .int 0])), (q0, .inl (c0, (6, .inl (fun _ => 0)))), (q1, .inl (c0, (6, .inl (fun _ => 0)))), (q2, .inl (c0, (6, .inl (fun _ => 0)))), (q3, .inl (c0, (6, .inl (fun _ => 0)))), (q4, .inl (c0, (6, .inl (fun _ => 0)))), (q5, .inl (c0, (36, .inl (fun _ => 0))))] := hD
  refine W.widen (k := 6) (n := 66) (by omega) (by omega) ?_
  refine va_putF (D := (dC, dI)) (ci := 0) (v := .ref q5) (ty := tyX0 5) (C := RX0) (T := TX0) (N := 8) hx hb hts wU_X0 tyX0 tyX0_ok nmX0 hown hK hP hD hS 0 rfl rfl 5 (by decide) (hts _ wF_X0_27) (fun _ h9 => h9) rfl hin rfl (tyX0_ok 5 (by decide)) rfl rfl (Nat.le_of_ble_eq_true rfl) dX0_init_49 (fun H locs hP hD hS => ?_)
  have hP : va_P (dC, dI) vwCl [(h0, .inr (0, [.ref q0, .ref q1, .ref q2, .ref q3, .ref q4, .ref q5, .null, .int 0])), (q0, .inl (c0, (6, .inl (fun _ => 0)))), (q1, .inl (c0, (6, .inl (fun _ => 0)))), (q2, .inl (c0, (6, .inl (fun _ => 0)))), (q3, .inl (c0, (6, .inl (fun _ => 0)))), (q4, .inl (c0, (6, .inl (fun _ => 0)))), (q5, .inl (c0, (36, .inl (fun _ => 0))))] H := hP
  have hD : va_D A [(h0, .inr (0, [.ref q0, .ref q1, .ref q2, .ref q3, .ref q4, .ref q5, .null, .int 0])), (q0, .inl (c0, (6, .inl (fun _ => 0)))), (q1, .inl (c0, (6, .inl (fun _ => 0)))), (q2, .inl (c0, (6, .inl (fun _ => 0)))), (q3, .inl (c0, (6, .inl (fun _ => 0)))), (q4, .inl (c0, (6, .inl (fun _ => 0)))), (q5, .inl (c0, (36, .inl (fun _ => 0))))] := hD
  refine lv_aload_n hx hb dX0_init_52 rfl (lv_at hl 0 rfl) ?_
  refine lv_iconst (v := 0) hx hb dX0_init_53 (by decide) ?_
  refine va_newq (C := "LentYouths$Person") (N' := 0) hx hb hown (hts _ wD_X0_30) hNW.1.2.1 hK hP hD hS hA (by decide) (by decide) (by decide) (show 6 + 1 ≤ 7 by decide) (show 66 + 0 ≤ 66 by decide) dX0_init_54 (fun q6 c6 H hK hP hD hS => ?_)
  have hK : va_K (dC, dI) vwCl [(c0, .int), (c6, .object "LentYouths$Person")] s := hK
  have hK := hK.sub (tys' := [(c0, .int), (c6, .object "LentYouths$Person")]) [0, 1] rfl
  have hP : va_P (dC, dI) vwCl [(h0, .inr (0, [.ref q0, .ref q1, .ref q2, .ref q3, .ref q4, .ref q5, .null, .int 0])), (q0, .inl (c0, (6, .inl (fun _ => 0)))), (q1, .inl (c0, (6, .inl (fun _ => 0)))), (q2, .inl (c0, (6, .inl (fun _ => 0)))), (q3, .inl (c0, (6, .inl (fun _ => 0)))), (q4, .inl (c0, (6, .inl (fun _ => 0)))), (q5, .inl (c0, (36, .inl (fun _ => 0)))), (q6, .inl (c6, (0, .inr (.inr (.inr (.inr (fun _ => none)))))))] H := hP
  have hD : va_D A [(h0, .inr (0, [.ref q0, .ref q1, .ref q2, .ref q3, .ref q4, .ref q5, .null, .int 0])), (q0, .inl (c0, (6, .inl (fun _ => 0)))), (q1, .inl (c0, (6, .inl (fun _ => 0)))), (q2, .inl (c0, (6, .inl (fun _ => 0)))), (q3, .inl (c0, (6, .inl (fun _ => 0)))), (q4, .inl (c0, (6, .inl (fun _ => 0)))), (q5, .inl (c0, (36, .inl (fun _ => 0)))), (q6, .inl (c6, (0, .inr (.inr (.inr (.inr (fun _ => none)))))))] := hD
  refine W.widen (k := 7) (n := 66) (by omega) (by omega) ?_
  refine va_put (D := (dC, dI)) (ci := 0) (v := .ref q6) (ty := tyX0 6) (C := RX0) (T := TX0) (N := 8) hx hb hts wU_X0 tyX0 tyX0_ok nmX0 hown hK hP hD hS 0 rfl rfl 6 (by decide) (hts _ wF_X0_32) (fun _ h9 => h9) rfl (tyX0_ok 6 (by decide)) rfl rfl (Nat.le_of_ble_eq_true rfl) dX0_init_57 (fun H locs hP hD hS => ?_)
  have hP : va_P (dC, dI) vwCl [(h0, .inr (0, [.ref q0, .ref q1, .ref q2, .ref q3, .ref q4, .ref q5, .ref q6, .int 0])), (q0, .inl (c0, (6, .inl (fun _ => 0)))), (q1, .inl (c0, (6, .inl (fun _ => 0)))), (q2, .inl (c0, (6, .inl (fun _ => 0)))), (q3, .inl (c0, (6, .inl (fun _ => 0)))), (q4, .inl (c0, (6, .inl (fun _ => 0)))), (q5, .inl (c0, (36, .inl (fun _ => 0)))), (q6, .inl (c6, (0, .inr (.inr (.inr (.inr (fun _ => none)))))))] H := hP
  have hD : va_D A [(h0, .inr (0, [.ref q0, .ref q1, .ref q2, .ref q3, .ref q4, .ref q5, .ref q6, .int 0])), (q0, .inl (c0, (6, .inl (fun _ => 0)))), (q1, .inl (c0, (6, .inl (fun _ => 0)))), (q2, .inl (c0, (6, .inl (fun _ => 0)))), (q3, .inl (c0, (6, .inl (fun _ => 0)))), (q4, .inl (c0, (6, .inl (fun _ => 0)))), (q5, .inl (c0, (36, .inl (fun _ => 0)))), (q6, .inl (c6, (0, .inr (.inr (.inr (.inr (fun _ => none)))))))] := hD
  refine lv_aload_n hx hb dX0_init_60 rfl (lv_at hl 0 rfl) ?_
  refine lv_iconst (v := 0) hx hb dX0_init_61 (by decide) ?_
  refine va_put (D := (dC, dI)) (ci := 0) (v := .int 0) (ty := tyX0 7) (C := RX0) (T := TX0) (N := 8) hx hb hts wU_X0 tyX0 tyX0_ok nmX0 hown hK hP hD hS 0 rfl rfl 7 (by decide) (hts _ wF_X0_36) (fun _ h9 => h9) rfl (tyX0_ok 7 (by decide)) rfl rfl (Nat.le_of_ble_eq_true rfl) dX0_init_62 (fun H locs hP hD hS => ?_)
  have hP : va_P (dC, dI) vwCl [(h0, .inr (0, [.ref q0, .ref q1, .ref q2, .ref q3, .ref q4, .ref q5, .ref q6, .int 0])), (q0, .inl (c0, (6, .inl (fun _ => 0)))), (q1, .inl (c0, (6, .inl (fun _ => 0)))), (q2, .inl (c0, (6, .inl (fun _ => 0)))), (q3, .inl (c0, (6, .inl (fun _ => 0)))), (q4, .inl (c0, (6, .inl (fun _ => 0)))), (q5, .inl (c0, (36, .inl (fun _ => 0)))), (q6, .inl (c6, (0, .inr (.inr (.inr (.inr (fun _ => none)))))))] H := hP
  have hD : va_D A [(h0, .inr (0, [.ref q0, .ref q1, .ref q2, .ref q3, .ref q4, .ref q5, .ref q6, .int 0])), (q0, .inl (c0, (6, .inl (fun _ => 0)))), (q1, .inl (c0, (6, .inl (fun _ => 0)))), (q2, .inl (c0, (6, .inl (fun _ => 0)))), (q3, .inl (c0, (6, .inl (fun _ => 0)))), (q4, .inl (c0, (6, .inl (fun _ => 0)))), (q5, .inl (c0, (36, .inl (fun _ => 0)))), (q6, .inl (c6, (0, .inr (.inr (.inr (.inr (fun _ => none)))))))] := hD
  have hP9 := hP.sub (ws' := [(h0, .inr (0, [.ref q0, .ref q1, .ref q2, .ref q3, .ref q4, .ref q5, .ref q6, .int 0])), (q0, .inl (c0, (6, .inl (fun _ => 0)))), (q1, .inl (c0, (6, .inl (fun _ => 0)))), (q2, .inl (c0, (6, .inl (fun _ => 0)))), (q3, .inl (c0, (6, .inl (fun _ => 0)))), (q4, .inl (c0, (6, .inl (fun _ => 0)))), (q5, .inl (c0, (36, .inl (fun _ => 0)))), (q6, .inl (c6, (0, .inr (.inr (.inr (.inr (fun _ => none)))))))]) [0, 1, 2, 3, 4, 5, 6, 7] rfl
  have hD9 := hD.sub (ws' := [(h0, .inr (0, [.ref q0, .ref q1, .ref q2, .ref q3, .ref q4, .ref q5, .ref q6, .int 0])), (q0, .inl (c0, (6, .inl (fun _ => 0)))), (q1, .inl (c0, (6, .inl (fun _ => 0)))), (q2, .inl (c0, (6, .inl (fun _ => 0)))), (q3, .inl (c0, (6, .inl (fun _ => 0)))), (q4, .inl (c0, (6, .inl (fun _ => 0)))), (q5, .inl (c0, (36, .inl (fun _ => 0)))), (q6, .inl (c6, (0, .inr (.inr (.inr (.inr (fun _ => none)))))))]) [0, 1, 2, 3, 4, 5, 6, 7] (by decide) rfl
  exact W.vret hx hb hr (fun t ht hW => ⟨⟨((fun k => ([q0, q1, q2, q3, q4, q5, q6] : List Nat).getD k 0), (fun k => ([c0, c6] : List ClassId).getD k 0)), rfl, trivial, by rw [ht]; exact hP9, va_K.moved hW.alike hK, hD9⟩, hS.F ht⟩) hS.2.2 dX0_init_65
theorem hd_X2_init : yX2_init.cls ≠ "java/lang/invoke/MethodHandle" ∧ yX2_init.cls ≠ "java/lang/invoke/VarHandle" ∧ (parseMethodDescriptor yX2_init.desc).map (fun d => d.parameters.length) = some 0 := by decide +kernel
abbrev rm_X2_init : Room := { frames := 1, cells := 2, slots := 70, locals := 12 }
def n_at_X2 (dC : Nat → ClassId) (dI : Nat → Nat → Nat) (A : Nat → Prop) (h0 : Nat) (u : NU) (t : State) : Prop := va_P (dC, dI) vwCl [(h0, .inr (2, [.ref (u.1 0), .ref (u.1 1)])), ((u.1 0), .inl ((u.2 0), (64, .inl (fun _ => 0)))), ((u.1 1), .inl ((u.2 0), (6, .inl (fun _ => 0))))] t.heap ∧ va_K (dC, dI) vwCl [((u.2 0), .int)] t ∧ va_D A [(h0, .inr (2, [.ref (u.1 0), .ref (u.1 1)])), ((u.1 0), .inl ((u.2 0), (64, .inl (fun _ => 0)))), ((u.1 1), .inl ((u.2 0), (6, .inl (fun _ => 0))))]
set_option maxHeartbeats 4000000 in
set_option maxRecDepth 100000 in
theorem n_X2_init (l : Launch) (dC : Nat → ClassId) (dI : Nat → Nat → Nat) (h0 sz : Nat) : Met l yX2_init (Cond.code yX2_init cX2_init 1 none :: wAll) rm_X2_init (va_Pc [.ref h0] (cPre sz h0 dC dI (.inr (2, [.null, .null])))) (va_Qv (fun _ : NU => True) (n_at_X2 dC dI (va_A [(h0, .inr (2, [.null, .null]))] sz) h0) (va_A [(h0, .inr (2, [.null, .null]))] sz)) 2 70 (va_A [(h0, .inr (2, [.null, .null]))] sz) := by
  refine Met.ofW (cc := cX2_init) (maxL := 1) (ret := none) (by decide) rfl ?_
  intro p e s m args below meth c s₁ B hml hv
  obtain ⟨rfl, hsz, hP, hK, hD0, hNW⟩ := hv
  have hx := B.exec
  have hb := B.bytes
  have hr := B.returns
  have hts : ∀ w ∈ wAll, w.before _ s = true := fun w hw => atoms_spec (ws := Cond.code yX2_init cX2_init 1 none :: wAll) B.pre w (List.mem_cons_of_mem _ hw)
  have hown : s.vm.findClass RX2 = some m.cls := findClass_of_methodNamed B.named
  have hlocks := B.notSynchronized
  have hin : meth.name = "<init>" := (name_of_methodNamed B.named B.method).1
  subst hsz
  have hD := hD0.self (sz := s.heap.size)
  generalize hAe : va_A [(h0, .inr (2, [.null, .null]))] s.heap.size = A at hD ⊢
  have hA : ∀ q : Nat, s.heap.size ≤ q → A q := fun q h => by rw [← hAe]; exact Or.inr h
  have hS : va_S A s.heap s.heap [] := va_S.rf
  have hP : va_P (dC, dI) vwCl [(h0, .inr (2, [.null, .null]))] s.heap := hP
  have hl := lv_entry ([.ref h0]) (n := 1) (Nat.le_of_ble_eq_true rfl)
  rw [lg_entry_eq]
  generalize (lg_sl ([.ref h0]) ++ List.replicate (1 - (lg_sl ([.ref h0])).length) Slot.unset).toArray = ls at hl ⊢
  have hl : lv_has ls 1 [(0, .ref h0)] := hl
  refine lv_aload_n hx hb dX2_init_0 rfl (lv_at hl 0 rfl) ?_
  refine W.objInit hx hb hown (hts _ wM_X2_3) (hts _ wI_objectInit) (hts _ wC_objectInit) rfl (by rw [hml]; exact hl.1) rfl dX2_init_1 (Nat.le_of_ble_eq_true rfl) (Nat.le_of_ble_eq_true rfl) ?_
  refine W.eq (g2 := F0 m 4 ls []) rfl ?_
  refine lv_aload_n hx hb dX2_init_4 rfl (lv_at hl 0 rfl) ?_
  refine lv_bipush (v := 64) hx hb dX2_init_5 (by decide) ?_
  refine va_newa (atype := .int) (a0 := (64, .inl (fun _ => 0))) (ty := .int) hx hb (hts _ wR_int) rfl hK hP hD hS hA (fun _ => rfl) (by decide) (by decide) (by decide) (show 0 + 1 ≤ 2 by decide) (show 0 + 64 ≤ 70 by decide) dX2_init_7 (fun q0 c0 H hK hP hD hS => ?_)
  have hK : va_K (dC, dI) vwCl [(c0, .int)] s := hK
  have hK := hK.sub (tys' := [(c0, .int)]) [0] rfl
  have hP : va_P (dC, dI) vwCl [(h0, .inr (2, [.null, .null])), (q0, .inl (c0, (64, .inl (fun _ => 0))))] H := hP
  have hD : va_D A [(h0, .inr (2, [.null, .null])), (q0, .inl (c0, (64, .inl (fun _ => 0))))] := hD
  refine W.widen (k := 1) (n := 64) (by omega) (by omega) ?_
  refine va_putF (D := (dC, dI)) (ci := 2) (v := .ref q0) (ty := tyX2 0) (C := RX2) (T := TX2) (N := 2) hx hb hts wU_X2 tyX2 tyX2_ok nmX2 hown hK hP hD hS 0 rfl rfl 0 (by decide) (hts _ wF_X2_9) (fun _ h9 => h9) rfl hin rfl (tyX2_ok 0 (by decide)) rfl rfl (Nat.le_of_ble_eq_true rfl) dX2_init_9 (fun H locs hP hD hS => ?_)
  have hP : va_P (dC, dI) vwCl [(h0, .inr (2, [.ref q0, .null])), (q0, .inl (c0, (64, .inl (fun _ => 0))))] H := hP
  have hD : va_D A [(h0, .inr (2, [.ref q0, .null])), (q0, .inl (c0, (64, .inl (fun _ => 0))))] := hD
  refine lv_aload_n hx hb dX2_init_12 rfl (lv_at hl 0 rfl) ?_
  refine lv_bipush (v := 6) hx hb dX2_init_13 (by decide) ?_
  refine va_newa (atype := .int) (a0 := (6, .inl (fun _ => 0))) (ty := .int) hx hb (hts _ wR_int) rfl hK hP hD hS hA (fun _ => rfl) (by decide) (by decide) (by decide) (show 1 + 1 ≤ 2 by decide) (show 64 + 6 ≤ 70 by decide) dX2_init_15 (fun q1 c1 H hK hP hD hS => ?_)
  have hK : va_K (dC, dI) vwCl [(c0, .int), (c1, .int)] s := hK
  obtain rfl := va_K_uniq hK (i := 0) (j := 1) rfl rfl
  have hK := hK.sub (tys' := [(c0, .int)]) [0] rfl
  have hP : va_P (dC, dI) vwCl [(h0, .inr (2, [.ref q0, .null])), (q0, .inl (c0, (64, .inl (fun _ => 0)))), (q1, .inl (c0, (6, .inl (fun _ => 0))))] H := hP
  have hD : va_D A [(h0, .inr (2, [.ref q0, .null])), (q0, .inl (c0, (64, .inl (fun _ => 0)))), (q1, .inl (c0, (6, .inl (fun _ => 0))))] := hD
  refine W.widen (k := 2) (n := 70) (by omega) (by omega) ?_
  refine va_putF (D := (dC, dI)) (ci := 2) (v := .ref q1) (ty := tyX2 1) (C := RX2) (T := TX2) (N := 2) hx hb hts wU_X2 tyX2 tyX2_ok nmX2 hown hK hP hD hS 0 rfl rfl 1 (by decide) (hts _ wF_X2_15) (fun _ h9 => h9) rfl hin rfl (tyX2_ok 1 (by decide)) rfl rfl (Nat.le_of_ble_eq_true rfl) dX2_init_17 (fun H locs hP hD hS => ?_)
  have hP : va_P (dC, dI) vwCl [(h0, .inr (2, [.ref q0, .ref q1])), (q0, .inl (c0, (64, .inl (fun _ => 0)))), (q1, .inl (c0, (6, .inl (fun _ => 0))))] H := hP
  have hD : va_D A [(h0, .inr (2, [.ref q0, .ref q1])), (q0, .inl (c0, (64, .inl (fun _ => 0)))), (q1, .inl (c0, (6, .inl (fun _ => 0))))] := hD
  have hP9 := hP.sub (ws' := [(h0, .inr (2, [.ref q0, .ref q1])), (q0, .inl (c0, (64, .inl (fun _ => 0)))), (q1, .inl (c0, (6, .inl (fun _ => 0))))]) [0, 1, 2] rfl
  have hD9 := hD.sub (ws' := [(h0, .inr (2, [.ref q0, .ref q1])), (q0, .inl (c0, (64, .inl (fun _ => 0)))), (q1, .inl (c0, (6, .inl (fun _ => 0))))]) [0, 1, 2] (by decide) rfl
  exact W.vret hx hb hr (fun t ht hW => ⟨⟨((fun k => ([q0, q1] : List Nat).getD k 0), (fun k => ([c0] : List ClassId).getD k 0)), rfl, trivial, by rw [ht]; exact hP9, va_K.moved hW.alike hK, hD9⟩, hS.F ht⟩) hS.2.2 dX2_init_20
