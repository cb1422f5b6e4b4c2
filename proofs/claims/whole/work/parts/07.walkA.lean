-- walks (printed by gen2.py)
abbrev rm_X6_lastsOf : Room := { frames := 0, cells := 0, slots := 0, locals := 0 }
theorem hd_X6_lastsOf : yX6_lastsOf.cls ≠ "java/lang/invoke/MethodHandle" ∧ yX6_lastsOf.cls ≠ "java/lang/invoke/VarHandle" ∧ (parseMethodDescriptor yX6_lastsOf.desc).map (fun d => d.parameters.length) = some 2 := by decide +kernel
set_option maxHeartbeats 4000000 in
set_option maxRecDepth 100000 in
theorem k_X6_lastsOf {Θ : TH} {l : Launch} (O : okT Θ (eX Θ) 68) (v0 : Int32) (v1 : Int32) (σ0 : Mem) {y : Int32} (h : X6_lastsOf v0 v1 = y) : Met l yX6_lastsOf (Cond.code yX6_lastsOf cX6_lastsOf 2 (some .int) :: wAll) rm_X6_lastsOf (va_Pc [.int v0, .int v1] (tS Θ σ0)) (qI Θ y σ0) 0 0 (tA Θ) := by
  refine x_ent (by decide) (Nat.le_of_ble_eq_true rfl) (fun p e s m below meth c X hr hlk hP ls hl => ?_)
  have hS : va_S (tA Θ) s.heap s.heap [] := va_S.rf
  have hl : lv_has ls 2 [(0, .int v0), (1, .int v1)] := hl
  have hx := X.1
  have hb := X.2.1
  unfold X6_lastsOf at h
  refine lv_iload_n hx hb dX6_lastsOf_0 rfl (lv_at hl 0 rfl) ?_
  by_cases c_1 : v0 = 1
  · have h := ite_t c_1 h
    refine lv_lookup (off := 33) (tgt := 34) hx hb dX6_lastsOf_1 (by decide) (by rw [c_1]; rfl) (by decide) ?_
    refine lv_iload_n hx hb dX6_lastsOf_34 rfl (lv_at hl 1 rfl) ?_
    refine lv_iconst (v := 1) hx hb dX6_lastsOf_35 (by decide) ?_
    refine lv_iadd hx hb dX6_lastsOf_36 ?_
    subst h
    exact x_reti X hP hS hr hlk rfl rfl dX6_lastsOf_37
  · have h := ite_f c_1 h
    by_cases c_2 : v0 = 2
    · have h := ite_t c_2 h
      refine lv_lookup (off := 27) (tgt := 28) hx hb dX6_lastsOf_1 (by decide) (by rw [c_2]; rfl) (by decide) ?_
      refine lv_iconst (v := 2) hx hb dX6_lastsOf_28 (by decide) ?_
      refine lv_iload_n hx hb dX6_lastsOf_29 rfl (lv_at hl 1 rfl) ?_
      refine lv_iconst (v := 1) hx hb dX6_lastsOf_30 (by decide) ?_
      refine lv_iadd hx hb dX6_lastsOf_31 ?_
      refine lv_imul hx hb dX6_lastsOf_32 ?_
      subst h
      exact x_reti X hP hS hr hlk rfl rfl dX6_lastsOf_33
    · have h := ite_f c_2 h
      refine lv_lookup (off := 37) (tgt := 38) hx hb dX6_lastsOf_1 (by decide) (by show Op.lookupswitch.offset [(1, 33), (2, 27)] 37 _ = 37; rw [lv_osw (a := 1) c_1 (by decide), lv_osw (a := 2) c_2 (by decide)]; rfl) (by decide) ?_
      refine lv_iload_n hx hb dX6_lastsOf_38 rfl (lv_at hl 1 rfl) ?_
      subst h
      exact x_reti X hP hS hr hlk rfl rfl dX6_lastsOf_39
abbrev rm_X3_lasts : Room := { frames := 1, cells := 0, slots := 0, locals := 21 }
theorem hd_X3_lasts : yX3_lasts.cls ≠ "java/lang/invoke/MethodHandle" ∧ yX3_lasts.cls ≠ "java/lang/invoke/VarHandle" ∧ (parseMethodDescriptor yX3_lasts.desc).map (fun d => d.parameters.length) = some 0 := by decide +kernel
set_option maxHeartbeats 4000000 in
set_option maxRecDepth 100000 in
theorem k_X3_lasts {Θ : TH} {l : Launch} (O : okT Θ (eX Θ) 68) {n0 : Nat} (h0 : isPe n0) (σ0 : Mem) {y : Int32} (h : X3_lasts n0 σ0 = y) : Met l yX3_lasts (Cond.code yX3_lasts cX3_lasts 1 (some .int) :: wAll) rm_X3_lasts (va_Pc [.ref (ta Θ n0)] (tS Θ σ0)) (qI Θ y σ0) 0 0 (tA Θ) := by
  refine x_ent (by decide) (Nat.le_of_ble_eq_true rfl) (fun p e s m below meth c X hr hlk hP ls hl => ?_)
  have hS : va_S (tA Θ) s.heap s.heap [] := va_S.rf
  have hl : lv_has ls 1 [(0, .ref (ta Θ n0))] := hl
  have hx := X.1
  have hb := X.2.1
  unfold X3_lasts at h
  refine lv_aload_n hx hb dX3_lasts_0 rfl (lv_at hl 0 rfl) ?_
  refine g_X3_9 X O hP h0 dX3_lasts_1 ?_
  refine lv_aload_n hx hb dX3_lasts_4 rfl (lv_at hl 0 rfl) ?_
  refine g_X3_21 X O hP h0 dX3_lasts_5 ?_
  refine x_calli (x_runSN X hP hS hl.1 (As := [.int (σ0 n0 0), .int (σ0 n0 3)]) (rest := []) (k_X6_lastsOf O (σ0 n0 0) (σ0 n0 3) σ0 rfl) wT_yX6_lastsOf wN_X6 wC_yX6_lastsOf hd_X6_lastsOf rfl ⟨rfl, rfl⟩ ⟨(Nat.le_of_ble_eq_true rfl), (Nat.le_of_ble_eq_true rfl)⟩ ⟨Nat.zero_le _, Nat.zero_le _⟩ rfl (Nat.le_of_ble_eq_true rfl) dX3_lasts_8) hS (fun H locs hP hS => ?_)
  subst h
  exact x_reti X hP hS hr hlk rfl rfl dX3_lasts_11
abbrev rm_X0_place : Room := { frames := 0, cells := 0, slots := 0, locals := 0 }
theorem hd_X0_place : yX0_place.cls ≠ "java/lang/invoke/MethodHandle" ∧ yX0_place.cls ≠ "java/lang/invoke/VarHandle" ∧ (parseMethodDescriptor yX0_place.desc).map (fun d => d.parameters.length) = some 3 := by decide +kernel
set_option maxHeartbeats 4000000 in
set_option maxRecDepth 100000 in
theorem k_X0_place {Θ : TH} {l : Launch} (O : okT Θ (eX Θ) 68) {n0 : Nat} (h0 : isEx n0) (v1 : Int32) (v2 : Int32) (v3 : Int32) (σ0 : Mem) {y : Mem} (h : X0_place n0 v1 v2 v3 σ0 = some y) : Met l yX0_place (Cond.code yX0_place cX0_place 4 none :: wAll) rm_X0_place (va_Pc [.ref (ta Θ n0), .int v1, .int v2, .int v3] (tS Θ σ0)) (qV Θ y) 0 0 (tA Θ) := by
  refine x_ent (by decide) (Nat.le_of_ble_eq_true rfl) (fun p e s m below meth c X hr hlk hP ls hl => ?_)
  have hS : va_S (tA Θ) s.heap s.heap [] := va_S.rf
  have hl : lv_has ls 4 [(0, .ref (ta Θ n0)), (1, .int v1), (2, .int v2), (3, .int v3)] := hl
  have hx := X.1
  have hb := X.2.1
  unfold X0_place at h
  refine lv_aload_n hx hb dX0_place_0 rfl (lv_at hl 0 rfl) ?_
  refine g_X0_9 X O hP h0 dX0_place_1 ?_
  refine lv_iload_n hx hb dX0_place_4 rfl (lv_at hl 1 rfl) ?_
  refine lv_iload_n hx hb dX0_place_5 rfl (lv_at hl 2 rfl) ?_
  obtain ⟨g_1, h⟩ := grd_s h
  obtain ⟨σ_2, e_3, h⟩ := bnd_s h
  refine x_iast X O hP hS (iI_X0_1 h0) g_1 dX0_place_6 e_3 (fun H locs hP hS => ?_)
  refine lv_aload_n hx hb dX0_place_7 rfl (lv_at hl 0 rfl) ?_
  refine g_X0_15 X O hP h0 dX0_place_8 ?_
  refine lv_iload_n hx hb dX0_place_11 rfl (lv_at hl 1 rfl) ?_
  refine lv_iload_n hx hb dX0_place_12 rfl (lv_at hl 3 rfl) ?_
  obtain ⟨g_4, h⟩ := grd_s h
  obtain ⟨σ_5, e_6, h⟩ := bnd_s h
  refine x_iast X O hP hS (iI_X0_2 h0) g_4 dX0_place_13 e_6 (fun H locs hP hS => ?_)
  refine lv_aload_n hx hb dX0_place_14 rfl (lv_at hl 0 rfl) ?_
  refine g_X0_24 X O hP h0 dX0_place_15 ?_
  refine lv_iload_n hx hb dX0_place_18 rfl (lv_at hl 1 rfl) ?_
  refine lv_iload_n hx hb dX0_place_19 rfl (lv_at hl 2 rfl) ?_
  obtain ⟨g_7, h⟩ := grd_s h
  obtain ⟨σ_8, e_9, h⟩ := bnd_s h
  refine x_iast X O hP hS (iI_X0_5 h0) g_7 dX0_place_20 e_9 (fun H locs hP hS => ?_)
  refine lv_aload_n hx hb dX0_place_21 rfl (lv_at hl 0 rfl) ?_
  refine g_X0_27 X O hP h0 dX0_place_22 ?_
  refine lv_bipush (v := 6) hx hb dX0_place_25 (by decide) ?_
  refine lv_iload_n hx hb dX0_place_27 rfl (lv_at hl 1 rfl) ?_
  refine lv_imul hx hb dX0_place_28 ?_
  refine lv_iload_n hx hb dX0_place_29 rfl (lv_at hl 1 rfl) ?_
  refine lv_iadd hx hb dX0_place_30 ?_
  refine lv_iload_n hx hb dX0_place_31 rfl (lv_at hl 2 rfl) ?_
  obtain ⟨g_10, h⟩ := grd_s h
  obtain ⟨σ_11, e_12, h⟩ := bnd_s h
  refine x_iast X O hP hS (iI_X0_6 h0) g_10 dX0_place_32 e_12 (fun H locs hP hS => ?_)
  have h := some_i h
  subst h
  exact x_retv X hP hS hr hlk rfl dX0_place_33
abbrev rm_X0_begin : Room := { frames := 2, cells := 0, slots := 0, locals := 41 }
set_option maxHeartbeats 4000000 in
set_option maxRecDepth 100000 in
theorem w_X0_begin_L22 {F : Nat} {Θ : TH} {p : Program} {l : Launch} {e : Env} {s : State} {m : MethodId} {args : Array Value} {below : List Frame} {meth : Method} {c : Code} (X : CX Θ p s m args c RX0 cX0_begin 4) (O : okT Θ (eX Θ) 68) (hr : meth.sig.returnType = none) (hlk : meth.locks = false) {n0 : Nat} (h0 : isEx n0) {y : Mem} {k44 : Mem → Option (Mem)} (hk44 : ∀ (σ0 : Mem), k44 σ0 = some y → ∀ (H : Heap) (locs : List Loc) (ls : Array Slot), va_P (tD Θ) vwCl (tw Θ σ0) H → va_S (tA Θ) s.heap H locs → lv_has ls 4 [(0, .ref (ta Θ n0))] → W p l e rm_X0_begin s m args below meth c H locs 0 0 (MQ below (qV Θ y) args s 0 0 (tA Θ)) (F0 m 44 ls [])) :
    ∀ (f : Nat) (v3 : Int32) (σ0 : Mem), X0_begin_L22 F n0 k44 f v3 σ0 = some y → ∀ (H : Heap) (locs : List Loc) (ls : Array Slot), va_P (tD Θ) vwCl (tw Θ σ0) H → va_S (tA Θ) s.heap H locs → lv_has ls 4 [(0, .ref (ta Θ n0)), (3, .int v3)] → W p l e rm_X0_begin s m args below meth c H locs 0 0 (MQ below (qV Θ y) args s 0 0 (tA Θ)) (F0 m 22 ls []) := by
  have hx := X.1
  have hb := X.2.1
  intro f
  induction f with
  | zero => intro v3 σ0 h; cases h
  | succ f ih =>
    intro v3 σ0 h H locs ls hP hS hl
    rw [X0_begin_L22] at h
    refine lv_iload_n hx hb dX0_begin_22 rfl (lv_at hl 1 rfl) ?_
    refine lv_aload_n hx hb dX0_begin_23 rfl (lv_at hl 0 rfl) ?_
    refine g_X0_27 X O hP h0 dX0_begin_24 ?_
    refine x_alenI X O hP (v := 36) (iI_X0_6 h0) rfl dX0_begin_27 ?_
    refine lv_icmp_ge (tgt := 44) hx hb dX0_begin_28 (by decide) (fun c_5 => ?_) (fun c_5 => ?_)
    · have h := ite_t c_5 h
      exact hk44 σ0 h _ _ _ hP hS (lv_sub hl [0] rfl)
    · have h := ite_f c_5 h
      refine lv_aload_n hx hb dX0_begin_31 rfl (lv_at hl 0 rfl) ?_
      refine g_X0_27 X O hP h0 dX0_begin_32 ?_
      refine lv_iload_n hx hb dX0_begin_35 rfl (lv_at hl 1 rfl) ?_
      refine lv_iconst (v := 0) hx hb dX0_begin_36 (by decide) ?_
      obtain ⟨g_6, h⟩ := grd_s h
      obtain ⟨σ_7, e_8, h⟩ := bnd_s h
      refine x_iast X O hP hS (iI_X0_6 h0) g_6 dX0_begin_37 e_8 (fun H locs hP hS => ?_)
      refine lv_iinc (v := v3 + 1) (lv' := [(3, .int (v3 + 1)), (0, .ref (ta Θ n0))]) hx hb dX0_begin_38 hl (k := 1) rfl rfl (by decide) rfl (fun ls hl => ?_)
      refine lv_goto (tgt := 22) hx hb dX0_begin_41 (by decide) ?_
      exact ih (v3 + 1) σ_7 h _ _ _ hP hS (lv_sub hl [1, 0] rfl)
set_option maxHeartbeats 4000000 in
set_option maxRecDepth 100000 in
theorem w_X0_begin_L46 {F : Nat} {Θ : TH} {p : Program} {l : Launch} {e : Env} {s : State} {m : MethodId} {args : Array Value} {below : List Frame} {meth : Method} {c : Code} (X : CX Θ p s m args c RX0 cX0_begin 4) (O : okT Θ (eX Θ) 68) (hr : meth.sig.returnType = none) (hlk : meth.locks = false) {n0 : Nat} (h0 : isEx n0) {y : Mem} :
    ∀ (f : Nat) (v3 : Int32) (σ0 : Mem), X0_begin_L46 F n0 f v3 σ0 = some y → ∀ (H : Heap) (locs : List Loc) (ls : Array Slot), va_P (tD Θ) vwCl (tw Θ σ0) H → va_S (tA Θ) s.heap H locs → lv_has ls 4 [(0, .ref (ta Θ n0)), (3, .int v3)] → W p l e rm_X0_begin s m args below meth c H locs 0 0 (MQ below (qV Θ y) args s 0 0 (tA Θ)) (F0 m 46 ls []) := by
  have hx := X.1
  have hb := X.2.1
  intro f
  induction f with
  | zero => intro v3 σ0 h; cases h
  | succ f ih =>
    intro v3 σ0 h H locs ls hP hS hl
    rw [X0_begin_L46] at h
    refine lv_iload_n hx hb dX0_begin_46 rfl (lv_at hl 1 rfl) ?_
    refine lv_aload_n hx hb dX0_begin_47 rfl (lv_at hl 0 rfl) ?_
    refine g_X0_36 X O hP h0 dX0_begin_48 ?_
    refine lv_icmp_ge (tgt := 97) hx hb dX0_begin_51 (by decide) (fun c_10 => ?_) (fun c_10 => ?_)
    · have h := ite_t c_10 h
      have h := some_i h
      subst h
      exact x_retv X hP hS hr hlk rfl dX0_begin_97
    · have h := ite_f c_10 h
      refine lv_aload_n hx hb dX0_begin_54 rfl (lv_at hl 0 rfl) ?_
      refine g_X0_18 X O hP h0 dX0_begin_55 ?_
      refine lv_iload_n hx hb dX0_begin_58 rfl (lv_at hl 1 rfl) ?_
      refine lv_iconst (v := 0) hx hb dX0_begin_59 (by decide) ?_
      obtain ⟨g_11, h⟩ := grd_s h
      obtain ⟨σ_12, e_13, h⟩ := bnd_s h
      refine x_iast X O hP hS (iI_X0_3 h0) g_11 dX0_begin_60 e_13 (fun H locs hP hS => ?_)
      refine lv_aload_n hx hb dX0_begin_61 rfl (lv_at hl 0 rfl) ?_
      refine g_X0_21 X O hP h0 dX0_begin_62 ?_
      refine lv_iload_n hx hb dX0_begin_65 rfl (lv_at hl 1 rfl) ?_
      refine lv_iload_n hx hb dX0_begin_66 rfl (lv_at hl 1 rfl) ?_
      obtain ⟨g_14, h⟩ := grd_s h
      obtain ⟨σ_15, e_16, h⟩ := bnd_s h
      refine x_iast X O hP hS (iI_X0_4 h0) g_14 dX0_begin_67 e_16 (fun H locs hP hS => ?_)
      refine lv_aload_n hx hb dX0_begin_68 rfl (lv_at hl 0 rfl) ?_
      refine lv_iload_n hx hb dX0_begin_69 rfl (lv_at hl 1 rfl) ?_
      refine lv_aload_n hx hb dX0_begin_70 rfl (lv_at hl 0 rfl) ?_
      obtain ⟨g_17, h⟩ := grd_s h
      refine g_X0_32 X O hP h0 g_17 dX0_begin_71 ?_
      refine lv_iload_n hx hb dX0_begin_74 rfl (lv_at hl 1 rfl) ?_
      obtain ⟨g_18, h⟩ := grd_s h
      refine x_aald X O hP (k := 2) (n := 6) (t0 := 3) (C := "LentYouths$Person") (g := fun j => 22 + j) (by decide) rfl rfl g_18 dX0_begin_75 ?_
      refine g_X0_46 X O hP (isPe_at g_18) dX0_begin_76 ?_
      refine lv_aload_n hx hb dX0_begin_79 rfl (lv_at hl 0 rfl) ?_
      obtain ⟨g_19, h⟩ := grd_s h
      refine g_X0_32 X O hP h0 g_19 dX0_begin_80 ?_
      refine lv_iload_n hx hb dX0_begin_83 rfl (lv_at hl 1 rfl) ?_
      obtain ⟨g_20, h⟩ := grd_s h
      refine x_aald X O hP (k := 2) (n := 6) (t0 := 3) (C := "LentYouths$Person") (g := fun j => 22 + j) (by decide) rfl rfl g_20 dX0_begin_84 ?_
      refine x_calli (x_runV X O hP hS hl.1 (As := []) (rest := [.int (σ_15 (22 + v3.toNatClampNeg) 1), .int v3, .ref (ta Θ n0)]) (k_X3_lasts O (isPe_at g_20) σ_15 rfl) (lt_X3 (isPe_at g_20)) (e_X3 (isPe_at g_20) _) rfl wM_X0_49 wI_yX3_lasts wS_yX3_lasts wN_X3 wC_yX3_lasts hd_X3_lasts rfl ⟨rfl, rfl⟩ ⟨(Nat.le_of_ble_eq_true rfl), (Nat.le_of_ble_eq_true rfl)⟩ ⟨Nat.zero_le _, Nat.zero_le _⟩ rfl (Nat.le_of_ble_eq_true rfl) dX0_begin_85) hS (fun H locs hP hS => ?_)
      obtain ⟨σ_21, e_22, h⟩ := ob_s h
      refine x_callv (x_runV X O hP hS hl.1 (As := [.int v3, .int (σ_15 (22 + v3.toNatClampNeg) 1), .int (X3_lasts (22 + v3.toNatClampNeg) σ_15)]) (rest := []) (k_X0_place O h0 v3 (σ_15 (22 + v3.toNatClampNeg) 1) (X3_lasts (22 + v3.toNatClampNeg) σ_15) σ_15 e_22) (lt_X0 h0) (e_X0 h0 _) rfl wM_X0_52 wI_yX0_place wS_yX0_place wN_X0 wC_yX0_place hd_X0_place rfl ⟨rfl, rfl⟩ ⟨(Nat.le_of_ble_eq_true rfl), (Nat.le_of_ble_eq_true rfl)⟩ ⟨Nat.zero_le _, Nat.zero_le _⟩ rfl (Nat.le_of_ble_eq_true rfl) dX0_begin_88) hS (fun H locs hP hS => ?_)
      refine lv_iinc (v := v3 + 1) (lv' := [(3, .int (v3 + 1)), (0, .ref (ta Θ n0))]) hx hb dX0_begin_91 hl (k := 1) rfl rfl (by decide) rfl (fun ls hl => ?_)
      refine lv_goto (tgt := 46) hx hb dX0_begin_94 (by decide) ?_
      exact ih (v3 + 1) σ_21 h _ _ _ hP hS (lv_sub hl [1, 0] rfl)
theorem hd_X0_begin : yX0_begin.cls ≠ "java/lang/invoke/MethodHandle" ∧ yX0_begin.cls ≠ "java/lang/invoke/VarHandle" ∧ (parseMethodDescriptor yX0_begin.desc).map (fun d => d.parameters.length) = some 2 := by decide +kernel
set_option maxHeartbeats 4000000 in
set_option maxRecDepth 100000 in
theorem k_X0_begin {F : Nat} {Θ : TH} {l : Launch} (O : okT Θ (eX Θ) 68) {n0 : Nat} (h0 : isEx n0) (v2 : Int32) (σ0 : Mem) {y : Mem} (h : X0_begin F n0 v2 σ0 = some y) : Met l yX0_begin (Cond.code yX0_begin cX0_begin 4 none :: wAll) rm_X0_begin (va_Pc [.ref (ta Θ n0), .ref (ta Θ 2), .int v2] (tS Θ σ0)) (qV Θ y) 0 0 (tA Θ) := by
  refine x_ent (by decide) (Nat.le_of_ble_eq_true rfl) (fun p e s m below meth c X hr hlk hP ls hl => ?_)
  have hS : va_S (tA Θ) s.heap s.heap [] := va_S.rf
  have hl : lv_has ls 4 [(0, .ref (ta Θ n0)), (1, .ref (ta Θ 2)), (2, .int v2)] := hl
  have hx := X.1
  have hb := X.2.1
  unfold X0_begin at h
  refine lv_aload_n hx hb dX0_begin_0 rfl (lv_at hl 0 rfl) ?_
  refine lv_aload_n hx hb dX0_begin_1 rfl (lv_at hl 1 rfl) ?_
  obtain ⟨σ_1, e_2, h⟩ := bnd_s h
  refine p_X0_32 X O hP hS h0 dX0_begin_2 e_2 (fun H locs hP hS => ?_)
  refine lv_aload_n hx hb dX0_begin_5 rfl (lv_at hl 0 rfl) ?_
  refine lv_iload_n hx hb dX0_begin_6 rfl (lv_at hl 2 rfl) ?_
  refine lv_aload_n hx hb dX0_begin_7 rfl (lv_at hl 1 rfl) ?_
  refine x_alen X O hP (k := 2) (n := 6) (t0 := 3) (ty := .object "LentYouths$Person") (v := 6) (by decide) rfl rfl rfl dX0_begin_8 ?_
  refine lv_bipush (v := 6) hx hb dX0_begin_9 (by decide) ?_
  refine va_mmin hx hb (X.2.2.1.trans hl.1.symm) X.2.2.2.1 (X.2.2.2.2.1 _ wM_Math_min) (X.2.2.2.2.1 _ wT_Math_min) (X.2.2.2.2.1 _ wN_J9) (X.2.2.2.2.1 _ wC_Math_min) (Nat.le_of_ble_eq_true rfl) (Nat.le_of_ble_eq_true rfl) (Nat.zero_le _) (Nat.zero_le _) dX0_begin_11 ?_
  refine va_mmin hx hb (X.2.2.1.trans hl.1.symm) X.2.2.2.1 (X.2.2.2.2.1 _ wM_Math_min) (X.2.2.2.2.1 _ wT_Math_min) (X.2.2.2.2.1 _ wN_J9) (X.2.2.2.2.1 _ wC_Math_min) (Nat.le_of_ble_eq_true rfl) (Nat.le_of_ble_eq_true rfl) (Nat.zero_le _) (Nat.zero_le _) dX0_begin_14 ?_
  obtain ⟨σ_3, e_4, h⟩ := bnd_s h
  refine p_X0_36 X O hP hS h0 dX0_begin_17 e_4 (fun H locs hP hS => ?_)
  refine lv_iconst (v := 0) hx hb dX0_begin_20 (by decide) ?_
  refine lv_istore_n (lv' := [(3, .int 0), (0, .ref (ta Θ n0)), (1, .ref (ta Θ 2)), (2, .int v2)]) hx hb dX0_begin_21 rfl hl (by decide) rfl (fun ls hl => ?_)
  refine w_X0_begin_L22 X O hr hlk h0 ?_ _ (0 : Int32) σ_3 h _ _ _ hP hS (lv_sub hl [1, 0] rfl)
  · intro σ_9 h H locs ls hP hS hl
    refine lv_iconst (v := 0) hx hb dX0_begin_44 (by decide) ?_
    refine lv_istore_n (lv' := [(3, .int 0), (0, .ref (ta Θ n0))]) hx hb dX0_begin_45 rfl hl (by decide) rfl (fun ls hl => ?_)
    refine w_X0_begin_L46 X O hr hlk h0  _ (0 : Int32) σ_9 h _ _ _ hP hS (lv_sub hl [1, 0] rfl)
abbrev rm_X0_becomeLike : Room := { frames := 1, cells := 0, slots := 0, locals := 40 }
theorem hd_X0_becomeLike : yX0_becomeLike.cls ≠ "java/lang/invoke/MethodHandle" ∧ yX0_becomeLike.cls ≠ "java/lang/invoke/VarHandle" ∧ (parseMethodDescriptor yX0_becomeLike.desc).map (fun d => d.parameters.length) = some 1 := by decide +kernel
set_option maxHeartbeats 4000000 in
set_option maxRecDepth 100000 in
theorem k_X0_becomeLike {Θ : TH} {l : Launch} (O : okT Θ (eX Θ) 68) {n0 : Nat} (h0 : isEx n0) {n1 : Nat} (h1 : isEx n1) (σ0 : Mem) {y : Mem} (h : X0_becomeLike n0 n1 σ0 = some y) : Met l yX0_becomeLike (Cond.code yX0_becomeLike cX0_becomeLike 2 none :: wAll) rm_X0_becomeLike (va_Pc [.ref (ta Θ n0), .ref (ta Θ n1)] (tS Θ σ0)) (qV Θ y) 0 0 (tA Θ) := by
  refine x_ent (by decide) (Nat.le_of_ble_eq_true rfl) (fun p e s m below meth c X hr hlk hP ls hl => ?_)
  have hS : va_S (tA Θ) s.heap s.heap [] := va_S.rf
  have hl : lv_has ls 2 [(0, .ref (ta Θ n0)), (1, .ref (ta Θ n1))] := hl
  have hx := X.1
  have hb := X.2.1
  unfold X0_becomeLike at h
  refine lv_aload_n hx hb dX0_becomeLike_0 rfl (lv_at hl 0 rfl) ?_
  refine lv_aload_n hx hb dX0_becomeLike_1 rfl (lv_at hl 1 rfl) ?_
  obtain ⟨g_1, h⟩ := grd_s h
  refine g_X0_32 X O hP h1 g_1 dX0_becomeLike_2 ?_
  obtain ⟨σ_2, e_3, h⟩ := bnd_s h
  refine p_X0_32 X O hP hS h0 dX0_becomeLike_5 e_3 (fun H locs hP hS => ?_)
  refine lv_aload_n hx hb dX0_becomeLike_8 rfl (lv_at hl 0 rfl) ?_
  refine lv_aload_n hx hb dX0_becomeLike_9 rfl (lv_at hl 1 rfl) ?_
  refine g_X0_36 X O hP h1 dX0_becomeLike_10 ?_
  obtain ⟨σ_4, e_5, h⟩ := bnd_s h
  refine p_X0_36 X O hP hS h0 dX0_becomeLike_13 e_5 (fun H locs hP hS => ?_)
  refine lv_aload_n hx hb dX0_becomeLike_16 rfl (lv_at hl 1 rfl) ?_
  refine g_X0_9 X O hP h1 dX0_becomeLike_17 ?_
  refine lv_iconst (v := 0) hx hb dX0_becomeLike_20 (by decide) ?_
  refine lv_aload_n hx hb dX0_becomeLike_21 rfl (lv_at hl 0 rfl) ?_
  refine g_X0_9 X O hP h0 dX0_becomeLike_22 ?_
  refine lv_iconst (v := 0) hx hb dX0_becomeLike_25 (by decide) ?_
  refine lv_bipush (v := 6) hx hb dX0_becomeLike_26 (by decide) ?_
  obtain ⟨g_6, h⟩ := grd_s h
  obtain ⟨σ_7, e_8, h⟩ := bnd_s h
  obtain ⟨y1, y2, y3, y4, y5⟩ := cpOk_s g_6
  refine x_copy X O hP hS hl.1 (iI_X0_1 h1) (iI_X0_1 h0) wM_X0_56 y1 y2 y3 y4 y5 ⟨Nat.le_of_ble_eq_true rfl, (by decide)⟩ dX0_becomeLike_28 e_8 (fun H locs hP hS => ?_)
  refine lv_aload_n hx hb dX0_becomeLike_31 rfl (lv_at hl 1 rfl) ?_
  refine g_X0_15 X O hP h1 dX0_becomeLike_32 ?_
  refine lv_iconst (v := 0) hx hb dX0_becomeLike_35 (by decide) ?_
  refine lv_aload_n hx hb dX0_becomeLike_36 rfl (lv_at hl 0 rfl) ?_
  refine g_X0_15 X O hP h0 dX0_becomeLike_37 ?_
  refine lv_iconst (v := 0) hx hb dX0_becomeLike_40 (by decide) ?_
  refine lv_bipush (v := 6) hx hb dX0_becomeLike_41 (by decide) ?_
  obtain ⟨g_9, h⟩ := grd_s h
  obtain ⟨σ_10, e_11, h⟩ := bnd_s h
  obtain ⟨y1, y2, y3, y4, y5⟩ := cpOk_s g_9
  refine x_copy X O hP hS hl.1 (iI_X0_2 h1) (iI_X0_2 h0) wM_X0_56 y1 y2 y3 y4 y5 ⟨Nat.le_of_ble_eq_true rfl, (by decide)⟩ dX0_becomeLike_43 e_11 (fun H locs hP hS => ?_)
  refine lv_aload_n hx hb dX0_becomeLike_46 rfl (lv_at hl 1 rfl) ?_
  refine g_X0_18 X O hP h1 dX0_becomeLike_47 ?_
  refine lv_iconst (v := 0) hx hb dX0_becomeLike_50 (by decide) ?_
  refine lv_aload_n hx hb dX0_becomeLike_51 rfl (lv_at hl 0 rfl) ?_
  refine g_X0_18 X O hP h0 dX0_becomeLike_52 ?_
  refine lv_iconst (v := 0) hx hb dX0_becomeLike_55 (by decide) ?_
  refine lv_bipush (v := 6) hx hb dX0_becomeLike_56 (by decide) ?_
  obtain ⟨g_12, h⟩ := grd_s h
  obtain ⟨σ_13, e_14, h⟩ := bnd_s h
  obtain ⟨y1, y2, y3, y4, y5⟩ := cpOk_s g_12
  refine x_copy X O hP hS hl.1 (iI_X0_3 h1) (iI_X0_3 h0) wM_X0_56 y1 y2 y3 y4 y5 ⟨Nat.le_of_ble_eq_true rfl, (by decide)⟩ dX0_becomeLike_58 e_14 (fun H locs hP hS => ?_)
  refine lv_aload_n hx hb dX0_becomeLike_61 rfl (lv_at hl 1 rfl) ?_
  refine g_X0_21 X O hP h1 dX0_becomeLike_62 ?_
  refine lv_iconst (v := 0) hx hb dX0_becomeLike_65 (by decide) ?_
  refine lv_aload_n hx hb dX0_becomeLike_66 rfl (lv_at hl 0 rfl) ?_
  refine g_X0_21 X O hP h0 dX0_becomeLike_67 ?_
  refine lv_iconst (v := 0) hx hb dX0_becomeLike_70 (by decide) ?_
  refine lv_bipush (v := 6) hx hb dX0_becomeLike_71 (by decide) ?_
  obtain ⟨g_15, h⟩ := grd_s h
  obtain ⟨σ_16, e_17, h⟩ := bnd_s h
  obtain ⟨y1, y2, y3, y4, y5⟩ := cpOk_s g_15
  refine x_copy X O hP hS hl.1 (iI_X0_4 h1) (iI_X0_4 h0) wM_X0_56 y1 y2 y3 y4 y5 ⟨Nat.le_of_ble_eq_true rfl, (by decide)⟩ dX0_becomeLike_73 e_17 (fun H locs hP hS => ?_)
  refine lv_aload_n hx hb dX0_becomeLike_76 rfl (lv_at hl 1 rfl) ?_
  refine g_X0_24 X O hP h1 dX0_becomeLike_77 ?_
  refine lv_iconst (v := 0) hx hb dX0_becomeLike_80 (by decide) ?_
  refine lv_aload_n hx hb dX0_becomeLike_81 rfl (lv_at hl 0 rfl) ?_
  refine g_X0_24 X O hP h0 dX0_becomeLike_82 ?_
  refine lv_iconst (v := 0) hx hb dX0_becomeLike_85 (by decide) ?_
  refine lv_bipush (v := 6) hx hb dX0_becomeLike_86 (by decide) ?_
  obtain ⟨g_18, h⟩ := grd_s h
  obtain ⟨σ_19, e_20, h⟩ := bnd_s h
  obtain ⟨y1, y2, y3, y4, y5⟩ := cpOk_s g_18
  refine x_copy X O hP hS hl.1 (iI_X0_5 h1) (iI_X0_5 h0) wM_X0_56 y1 y2 y3 y4 y5 ⟨Nat.le_of_ble_eq_true rfl, (by decide)⟩ dX0_becomeLike_88 e_20 (fun H locs hP hS => ?_)
  refine lv_aload_n hx hb dX0_becomeLike_91 rfl (lv_at hl 1 rfl) ?_
  refine g_X0_27 X O hP h1 dX0_becomeLike_92 ?_
  refine lv_iconst (v := 0) hx hb dX0_becomeLike_95 (by decide) ?_
  refine lv_aload_n hx hb dX0_becomeLike_96 rfl (lv_at hl 0 rfl) ?_
  refine g_X0_27 X O hP h0 dX0_becomeLike_97 ?_
  refine lv_iconst (v := 0) hx hb dX0_becomeLike_100 (by decide) ?_
  refine lv_aload_n hx hb dX0_becomeLike_101 rfl (lv_at hl 0 rfl) ?_
  refine g_X0_27 X O hP h0 dX0_becomeLike_102 ?_
  refine x_alenI X O hP (v := 36) (iI_X0_6 h0) rfl dX0_becomeLike_105 ?_
  obtain ⟨g_21, h⟩ := grd_s h
  obtain ⟨σ_22, e_23, h⟩ := bnd_s h
  obtain ⟨y1, y2, y3, y4, y5⟩ := cpOk_s g_21
  refine x_copy X O hP hS hl.1 (iI_X0_6 h1) (iI_X0_6 h0) wM_X0_56 y1 y2 y3 y4 y5 ⟨Nat.le_of_ble_eq_true rfl, (by decide)⟩ dX0_becomeLike_106 e_23 (fun H locs hP hS => ?_)
  have h := some_i h
  subst h
  exact x_retv X hP hS hr hlk rfl dX0_becomeLike_109
abbrev rm_X0_canLend : Room := { frames := 0, cells := 0, slots := 0, locals := 0 }
theorem hd_X0_canLend : yX0_canLend.cls ≠ "java/lang/invoke/MethodHandle" ∧ yX0_canLend.cls ≠ "java/lang/invoke/VarHandle" ∧ (parseMethodDescriptor yX0_canLend.desc).map (fun d => d.parameters.length) = some 2 := by decide +kernel
set_option maxHeartbeats 4000000 in
set_option maxRecDepth 100000 in
theorem k_X0_canLend {Θ : TH} {l : Launch} (O : okT Θ (eX Θ) 68) {n0 : Nat} (h0 : isEx n0) (v1 : Int32) (v2 : Int32) (σ0 : Mem) {y : Int32} (h : X0_canLend n0 v1 v2 σ0 = some y) : Met l yX0_canLend (Cond.code yX0_canLend cX0_canLend 3 (some .boolean) :: wAll) rm_X0_canLend (va_Pc [.ref (ta Θ n0), .int v1, .int v2] (tS Θ σ0)) (qI Θ y σ0) 0 0 (tA Θ) := by
  refine x_ent (by decide) (Nat.le_of_ble_eq_true rfl) (fun p e s m below meth c X hr hlk hP ls hl => ?_)
  have hS : va_S (tA Θ) s.heap s.heap [] := va_S.rf
  have hl : lv_has ls 3 [(0, .ref (ta Θ n0)), (1, .int v1), (2, .int v2)] := hl
  have hx := X.1
  have hb := X.2.1
  unfold X0_canLend at h
  refine lv_iload_n hx hb dX0_canLend_0 rfl (lv_at hl 1 rfl) ?_
  refine lv_iload_n hx hb dX0_canLend_1 rfl (lv_at hl 2 rfl) ?_
  refine lv_icmp_eq (tgt := 37) hx hb dX0_canLend_2 (by decide) (fun c_1 => ?_) (fun c_1 => ?_)
  · have h := ite_t c_1 h
    refine lv_iconst (v := 0) hx hb dX0_canLend_37 (by decide) ?_
    have h := some_i h
    subst h
    exact x_retz X hP hS hr hlk (Or.inl rfl) rfl rfl dX0_canLend_38
  · have h := ite_f c_1 h
    refine lv_aload_n hx hb dX0_canLend_5 rfl (lv_at hl 0 rfl) ?_
    refine g_X0_9 X O hP h0 dX0_canLend_6 ?_
    refine lv_aload_n hx hb dX0_canLend_9 rfl (lv_at hl 0 rfl) ?_
    refine g_X0_21 X O hP h0 dX0_canLend_10 ?_
    refine lv_iload_n hx hb dX0_canLend_13 rfl (lv_at hl 1 rfl) ?_
    obtain ⟨g_2, h⟩ := grd_s h
    refine x_iald X O hP (iI_X0_4 h0) g_2 dX0_canLend_14 ?_
    obtain ⟨g_3, h⟩ := grd_s h
    refine x_iald X O hP (iI_X0_1 h0) g_3 dX0_canLend_15 ?_
    refine lv_if_eq (tgt := 37) hx hb dX0_canLend_16 (by decide) (fun c_4 => ?_) (fun c_4 => ?_)
    · have h := ite_t c_4 h
      refine lv_iconst (v := 0) hx hb dX0_canLend_37 (by decide) ?_
      have h := some_i h
      subst h
      exact x_retz X hP hS hr hlk (Or.inl rfl) rfl rfl dX0_canLend_38
    · have h := ite_f c_4 h
      refine lv_aload_n hx hb dX0_canLend_19 rfl (lv_at hl 0 rfl) ?_
      refine g_X0_9 X O hP h0 dX0_canLend_20 ?_
      refine lv_aload_n hx hb dX0_canLend_23 rfl (lv_at hl 0 rfl) ?_
      refine g_X0_21 X O hP h0 dX0_canLend_24 ?_
      refine lv_iload_n hx hb dX0_canLend_27 rfl (lv_at hl 2 rfl) ?_
      obtain ⟨g_5, h⟩ := grd_s h
      refine x_iald X O hP (iI_X0_4 h0) g_5 dX0_canLend_28 ?_
      obtain ⟨g_6, h⟩ := grd_s h
      refine x_iald X O hP (iI_X0_1 h0) g_6 dX0_canLend_29 ?_
      refine lv_if_eq (tgt := 37) hx hb dX0_canLend_30 (by decide) (fun c_7 => ?_) (fun c_7 => ?_)
      · have h := ite_t c_7 h
        refine lv_iconst (v := 0) hx hb dX0_canLend_37 (by decide) ?_
        have h := some_i h
        subst h
        exact x_retz X hP hS hr hlk (Or.inl rfl) rfl rfl dX0_canLend_38
      · have h := ite_f c_7 h
        refine lv_iconst (v := 1) hx hb dX0_canLend_33 (by decide) ?_
        refine lv_goto (tgt := 38) hx hb dX0_canLend_34 (by decide) ?_
        have h := some_i h
        subst h
        exact x_retz X hP hS hr hlk (Or.inr rfl) rfl rfl dX0_canLend_38
abbrev rm_X0_wearOff : Room := { frames := 0, cells := 0, slots := 0, locals := 0 }
theorem hd_X0_wearOff : yX0_wearOff.cls ≠ "java/lang/invoke/MethodHandle" ∧ yX0_wearOff.cls ≠ "java/lang/invoke/VarHandle" ∧ (parseMethodDescriptor yX0_wearOff.desc).map (fun d => d.parameters.length) = some 1 := by decide +kernel
set_option maxHeartbeats 4000000 in
set_option maxRecDepth 100000 in
theorem k_X0_wearOff {Θ : TH} {l : Launch} (O : okT Θ (eX Θ) 68) {n0 : Nat} (h0 : isEx n0) (v1 : Int32) (σ0 : Mem) {y : Mem} (h : X0_wearOff n0 v1 σ0 = some y) : Met l yX0_wearOff (Cond.code yX0_wearOff cX0_wearOff 2 none :: wAll) rm_X0_wearOff (va_Pc [.ref (ta Θ n0), .int v1] (tS Θ σ0)) (qV Θ y) 0 0 (tA Θ) := by
  refine x_ent (by decide) (Nat.le_of_ble_eq_true rfl) (fun p e s m below meth c X hr hlk hP ls hl => ?_)
  have hS : va_S (tA Θ) s.heap s.heap [] := va_S.rf
  have hl : lv_has ls 2 [(0, .ref (ta Θ n0)), (1, .int v1)] := hl
  have hx := X.1
  have hb := X.2.1
  unfold X0_wearOff at h
  refine lv_aload_n hx hb dX0_wearOff_0 rfl (lv_at hl 0 rfl) ?_
  refine g_X0_18 X O hP h0 dX0_wearOff_1 ?_
  refine lv_iload_n hx hb dX0_wearOff_4 rfl (lv_at hl 1 rfl) ?_
  refine lv_dup2_11 hx hb dX0_wearOff_5 rfl rfl ?_
  obtain ⟨g_1, h⟩ := grd_s h
  refine x_iald X O hP (iI_X0_3 h0) g_1 dX0_wearOff_6 ?_
  refine lv_iconst (v := 1) hx hb dX0_wearOff_7 (by decide) ?_
  refine lv_iadd hx hb dX0_wearOff_8 ?_
  obtain ⟨g_2, h⟩ := grd_s h
  obtain ⟨σ_3, e_4, h⟩ := bnd_s h
  refine x_iast X O hP hS (iI_X0_3 h0) g_2 dX0_wearOff_9 e_4 (fun H locs hP hS => ?_)
  refine lv_aload_n hx hb dX0_wearOff_10 rfl (lv_at hl 0 rfl) ?_
  refine g_X0_18 X O hP h0 dX0_wearOff_11 ?_
  refine lv_iload_n hx hb dX0_wearOff_14 rfl (lv_at hl 1 rfl) ?_
  obtain ⟨g_5, h⟩ := grd_s h
  refine x_iald X O hP (iI_X0_3 h0) g_5 dX0_wearOff_15 ?_
  refine lv_aload_n hx hb dX0_wearOff_16 rfl (lv_at hl 0 rfl) ?_
  refine g_X0_15 X O hP h0 dX0_wearOff_17 ?_
  refine lv_iload_n hx hb dX0_wearOff_20 rfl (lv_at hl 1 rfl) ?_
  obtain ⟨g_6, h⟩ := grd_s h
  refine x_iald X O hP (iI_X0_2 h0) g_6 dX0_wearOff_21 ?_
  refine lv_icmp_le (tgt := 42) hx hb dX0_wearOff_22 (by decide) (fun c_7 => ?_) (fun c_7 => ?_)
  · have h := ite_t c_7 h
    have h := some_i h
    subst h
    exact x_retv X hP hS hr hlk rfl dX0_wearOff_42
  · have h := ite_f c_7 h
    refine lv_aload_n hx hb dX0_wearOff_25 rfl (lv_at hl 0 rfl) ?_
    refine g_X0_9 X O hP h0 dX0_wearOff_26 ?_
    refine lv_iload_n hx hb dX0_wearOff_29 rfl (lv_at hl 1 rfl) ?_
    refine lv_dup2_11 hx hb dX0_wearOff_30 rfl rfl ?_
    obtain ⟨g_8, h⟩ := grd_s h
    refine x_iald X O hP (iI_X0_1 h0) g_8 dX0_wearOff_31 ?_
    refine lv_aload_n hx hb dX0_wearOff_32 rfl (lv_at hl 0 rfl) ?_
    refine g_X0_9 X O hP h0 dX0_wearOff_33 ?_
    refine lv_iload_n hx hb dX0_wearOff_36 rfl (lv_at hl 1 rfl) ?_
    obtain ⟨g_9, h⟩ := grd_s h
    refine x_iald X O hP (iI_X0_1 h0) g_9 dX0_wearOff_37 ?_
    refine lv_iconst (v := 1) hx hb dX0_wearOff_38 (by decide) ?_
    refine lv_isub hx hb dX0_wearOff_39 ?_
    refine lv_iand hx hb dX0_wearOff_40 ?_
    obtain ⟨g_10, h⟩ := grd_s h
    obtain ⟨σ_11, e_12, h⟩ := bnd_s h
    refine x_iast X O hP hS (iI_X0_1 h0) g_10 dX0_wearOff_41 e_12 (fun H locs hP hS => ?_)
    have h := some_i h
    subst h
    exact x_retv X hP hS hr hlk rfl dX0_wearOff_42
abbrev rm_X0_show : Room := { frames := 0, cells := 0, slots := 0, locals := 0 }
theorem hd_X0_show : yX0_show.cls ≠ "java/lang/invoke/MethodHandle" ∧ yX0_show.cls ≠ "java/lang/invoke/VarHandle" ∧ (parseMethodDescriptor yX0_show.desc).map (fun d => d.parameters.length) = some 1 := by decide +kernel
set_option maxHeartbeats 4000000 in
set_option maxRecDepth 100000 in
theorem k_X0_show {Θ : TH} {l : Launch} (O : okT Θ (eX Θ) 68) {n0 : Nat} (h0 : isEx n0) (v1 : Int32) (σ0 : Mem) {y : Mem} (h : X0_show n0 v1 σ0 = some y) : Met l yX0_show (Cond.code yX0_show cX0_show 2 none :: wAll) rm_X0_show (va_Pc [.ref (ta Θ n0), .int v1] (tS Θ σ0)) (qV Θ y) 0 0 (tA Θ) := by
  refine x_ent (by decide) (Nat.le_of_ble_eq_true rfl) (fun p e s m below meth c X hr hlk hP ls hl => ?_)
  have hS : va_S (tA Θ) s.heap s.heap [] := va_S.rf
  have hl : lv_has ls 2 [(0, .ref (ta Θ n0)), (1, .int v1)] := hl
  have hx := X.1
  have hb := X.2.1
  unfold X0_show at h
  refine lv_aload_n hx hb dX0_show_0 rfl (lv_at hl 0 rfl) ?_
  refine g_X0_24 X O hP h0 dX0_show_1 ?_
  refine lv_iload_n hx hb dX0_show_4 rfl (lv_at hl 1 rfl) ?_
  refine lv_dup2_11 hx hb dX0_show_5 rfl rfl ?_
  obtain ⟨g_1, h⟩ := grd_s h
  refine x_iald X O hP (iI_X0_5 h0) g_1 dX0_show_6 ?_
  refine lv_aload_n hx hb dX0_show_7 rfl (lv_at hl 0 rfl) ?_
  refine g_X0_9 X O hP h0 dX0_show_8 ?_
  refine lv_aload_n hx hb dX0_show_11 rfl (lv_at hl 0 rfl) ?_
  refine g_X0_21 X O hP h0 dX0_show_12 ?_
  refine lv_iload_n hx hb dX0_show_15 rfl (lv_at hl 1 rfl) ?_
  obtain ⟨g_2, h⟩ := grd_s h
  refine x_iald X O hP (iI_X0_4 h0) g_2 dX0_show_16 ?_
  obtain ⟨g_3, h⟩ := grd_s h
  refine x_iald X O hP (iI_X0_1 h0) g_3 dX0_show_17 ?_
  refine lv_ior hx hb dX0_show_18 ?_
  obtain ⟨g_4, h⟩ := grd_s h
  obtain ⟨σ_5, e_6, h⟩ := bnd_s h
  refine x_iast X O hP hS (iI_X0_5 h0) g_4 dX0_show_19 e_6 (fun H locs hP hS => ?_)
  refine lv_aload_n hx hb dX0_show_20 rfl (lv_at hl 0 rfl) ?_
  refine g_X0_27 X O hP h0 dX0_show_21 ?_
  refine lv_bipush (v := 6) hx hb dX0_show_24 (by decide) ?_
  refine lv_iload_n hx hb dX0_show_26 rfl (lv_at hl 1 rfl) ?_
  refine lv_imul hx hb dX0_show_27 ?_
  refine lv_aload_n hx hb dX0_show_28 rfl (lv_at hl 0 rfl) ?_
  refine g_X0_21 X O hP h0 dX0_show_29 ?_
  refine lv_iload_n hx hb dX0_show_32 rfl (lv_at hl 1 rfl) ?_
  obtain ⟨g_7, h⟩ := grd_s h
  refine x_iald X O hP (iI_X0_4 h0) g_7 dX0_show_33 ?_
  refine lv_iadd hx hb dX0_show_34 ?_
  refine lv_dup2_11 hx hb dX0_show_35 rfl rfl ?_
  obtain ⟨g_8, h⟩ := grd_s h
  refine x_iald X O hP (iI_X0_6 h0) g_8 dX0_show_36 ?_
  refine lv_aload_n hx hb dX0_show_37 rfl (lv_at hl 0 rfl) ?_
  refine g_X0_9 X O hP h0 dX0_show_38 ?_
  refine lv_aload_n hx hb dX0_show_41 rfl (lv_at hl 0 rfl) ?_
  refine g_X0_21 X O hP h0 dX0_show_42 ?_
  refine lv_iload_n hx hb dX0_show_45 rfl (lv_at hl 1 rfl) ?_
  obtain ⟨g_9, h⟩ := grd_s h
  refine x_iald X O hP (iI_X0_4 h0) g_9 dX0_show_46 ?_
  obtain ⟨g_10, h⟩ := grd_s h
  refine x_iald X O hP (iI_X0_1 h0) g_10 dX0_show_47 ?_
  refine lv_ior hx hb dX0_show_48 ?_
  obtain ⟨g_11, h⟩ := grd_s h
  obtain ⟨σ_12, e_13, h⟩ := bnd_s h
  refine x_iast X O hP hS (iI_X0_6 h0) g_11 dX0_show_49 e_13 (fun H locs hP hS => ?_)
  have h := some_i h
  subst h
  exact x_retv X hP hS hr hlk rfl dX0_show_50
abbrev rm_X0_lend : Room := { frames := 1, cells := 0, slots := 0, locals := 21 }
theorem hd_X0_lend : yX0_lend.cls ≠ "java/lang/invoke/MethodHandle" ∧ yX0_lend.cls ≠ "java/lang/invoke/VarHandle" ∧ (parseMethodDescriptor yX0_lend.desc).map (fun d => d.parameters.length) = some 2 := by decide +kernel
set_option maxHeartbeats 4000000 in
set_option maxRecDepth 100000 in
theorem k_X0_lend {Θ : TH} {l : Launch} (O : okT Θ (eX Θ) 68) {n0 : Nat} (h0 : isEx n0) (v1 : Int32) (v2 : Int32) (σ0 : Mem) {y : Mem} (h : X0_lend n0 v1 v2 σ0 = some y) : Met l yX0_lend (Cond.code yX0_lend cX0_lend 4 none :: wAll) rm_X0_lend (va_Pc [.ref (ta Θ n0), .int v1, .int v2] (tS Θ σ0)) (qV Θ y) 0 0 (tA Θ) := by
  refine x_ent (by decide) (Nat.le_of_ble_eq_true rfl) (fun p e s m below meth c X hr hlk hP ls hl => ?_)
  have hS : va_S (tA Θ) s.heap s.heap [] := va_S.rf
  have hl : lv_has ls 4 [(0, .ref (ta Θ n0)), (1, .int v1), (2, .int v2)] := hl
  have hx := X.1
  have hb := X.2.1
  unfold X0_lend at h
  refine lv_aload_n hx hb dX0_lend_0 rfl (lv_at hl 0 rfl) ?_
  refine g_X0_21 X O hP h0 dX0_lend_1 ?_
  refine lv_iload_n hx hb dX0_lend_4 rfl (lv_at hl 1 rfl) ?_
  obtain ⟨g_1, h⟩ := grd_s h
  refine x_iald X O hP (iI_X0_4 h0) g_1 dX0_lend_5 ?_
  obtain ⟨v3_2, e_3, h⟩ := bnd_s h
  refine lv_nam e_3 ?_
  refine lv_istore_n (lv' := [(3, .int v3_2), (0, .ref (ta Θ n0)), (1, .int v1), (2, .int v2)]) hx hb dX0_lend_6 rfl hl (by decide) rfl (fun ls hl => ?_)
  refine lv_aload_n hx hb dX0_lend_7 rfl (lv_at hl 1 rfl) ?_
  refine g_X0_21 X O hP h0 dX0_lend_8 ?_
  refine lv_iload_n hx hb dX0_lend_11 rfl (lv_at hl 2 rfl) ?_
  refine lv_aload_n hx hb dX0_lend_12 rfl (lv_at hl 1 rfl) ?_
  refine g_X0_21 X O hP h0 dX0_lend_13 ?_
  refine lv_iload_n hx hb dX0_lend_16 rfl (lv_at hl 3 rfl) ?_
  obtain ⟨g_4, h⟩ := grd_s h
  refine x_iald X O hP (iI_X0_4 h0) g_4 dX0_lend_17 ?_
  obtain ⟨g_5, h⟩ := grd_s h
  obtain ⟨σ_6, e_7, h⟩ := bnd_s h
  refine x_iast X O hP hS (iI_X0_4 h0) g_5 dX0_lend_18 e_7 (fun H locs hP hS => ?_)
  refine lv_aload_n hx hb dX0_lend_19 rfl (lv_at hl 1 rfl) ?_
  refine g_X0_21 X O hP h0 dX0_lend_20 ?_
  refine lv_iload_n hx hb dX0_lend_23 rfl (lv_at hl 3 rfl) ?_
  refine lv_iload_n hx hb dX0_lend_24 rfl (lv_at hl 0 rfl) ?_
  obtain ⟨g_8, h⟩ := grd_s h
  obtain ⟨σ_9, e_10, h⟩ := bnd_s h
  refine x_iast X O hP hS (iI_X0_4 h0) g_8 dX0_lend_25 e_10 (fun H locs hP hS => ?_)
  refine lv_aload_n hx hb dX0_lend_26 rfl (lv_at hl 1 rfl) ?_
  refine lv_aload_n hx hb dX0_lend_27 rfl (lv_at hl 1 rfl) ?_
  refine g_X0_21 X O hP h0 dX0_lend_28 ?_
  refine lv_iload_n hx hb dX0_lend_31 rfl (lv_at hl 2 rfl) ?_
  obtain ⟨g_11, h⟩ := grd_s h
  refine x_iald X O hP (iI_X0_4 h0) g_11 dX0_lend_32 ?_
  obtain ⟨σ_12, e_13, h⟩ := ob_s h
  refine x_callv (x_runV X O hP hS hl.1 (As := [.int (σ_9 (n0 + 4) v1.toNatClampNeg)]) (rest := []) (k_X0_wearOff O h0 (σ_9 (n0 + 4) v1.toNatClampNeg) σ_9 e_13) (lt_X0 h0) (e_X0 h0 _) rfl wM_X0_73 wI_yX0_wearOff wS_yX0_wearOff wN_X0 wC_yX0_wearOff hd_X0_wearOff rfl ⟨rfl, rfl⟩ ⟨(Nat.le_of_ble_eq_true rfl), (Nat.le_of_ble_eq_true rfl)⟩ ⟨Nat.zero_le _, Nat.zero_le _⟩ rfl (Nat.le_of_ble_eq_true rfl) dX0_lend_33) hS (fun H locs hP hS => ?_)
  refine lv_aload_n hx hb dX0_lend_36 rfl (lv_at hl 1 rfl) ?_
  refine lv_aload_n hx hb dX0_lend_37 rfl (lv_at hl 1 rfl) ?_
  refine g_X0_21 X O hP h0 dX0_lend_38 ?_
  refine lv_iload_n hx hb dX0_lend_41 rfl (lv_at hl 3 rfl) ?_
  obtain ⟨g_14, h⟩ := grd_s h
  refine x_iald X O hP (iI_X0_4 h0) g_14 dX0_lend_42 ?_
  obtain ⟨σ_15, e_16, h⟩ := ob_s h
  refine x_callv (x_runV X O hP hS hl.1 (As := [.int (σ_12 (n0 + 4) v2.toNatClampNeg)]) (rest := []) (k_X0_wearOff O h0 (σ_12 (n0 + 4) v2.toNatClampNeg) σ_12 e_16) (lt_X0 h0) (e_X0 h0 _) rfl wM_X0_73 wI_yX0_wearOff wS_yX0_wearOff wN_X0 wC_yX0_wearOff hd_X0_wearOff rfl ⟨rfl, rfl⟩ ⟨(Nat.le_of_ble_eq_true rfl), (Nat.le_of_ble_eq_true rfl)⟩ ⟨Nat.zero_le _, Nat.zero_le _⟩ rfl (Nat.le_of_ble_eq_true rfl) dX0_lend_43) hS (fun H locs hP hS => ?_)
  refine lv_aload_n hx hb dX0_lend_46 rfl (lv_at hl 1 rfl) ?_
  refine lv_iload_n hx hb dX0_lend_47 rfl (lv_at hl 2 rfl) ?_
  obtain ⟨σ_17, e_18, h⟩ := ob_s h
  refine x_callv (x_runV X O hP hS hl.1 (As := [.int v1]) (rest := []) (k_X0_show O h0 v1 σ_15 e_18) (lt_X0 h0) (e_X0 h0 _) rfl wM_X0_77 wI_yX0_show wS_yX0_show wN_X0 wC_yX0_show hd_X0_show rfl ⟨rfl, rfl⟩ ⟨(Nat.le_of_ble_eq_true rfl), (Nat.le_of_ble_eq_true rfl)⟩ ⟨Nat.zero_le _, Nat.zero_le _⟩ rfl (Nat.le_of_ble_eq_true rfl) dX0_lend_48) hS (fun H locs hP hS => ?_)
  refine lv_aload_n hx hb dX0_lend_51 rfl (lv_at hl 1 rfl) ?_
  refine lv_iload_n hx hb dX0_lend_52 rfl (lv_at hl 3 rfl) ?_
  obtain ⟨σ_19, e_20, h⟩ := ob_s h
  refine x_callv (x_runV X O hP hS hl.1 (As := [.int v2]) (rest := []) (k_X0_show O h0 v2 σ_17 e_20) (lt_X0 h0) (e_X0 h0 _) rfl wM_X0_77 wI_yX0_show wS_yX0_show wN_X0 wC_yX0_show hd_X0_show rfl ⟨rfl, rfl⟩ ⟨(Nat.le_of_ble_eq_true rfl), (Nat.le_of_ble_eq_true rfl)⟩ ⟨Nat.zero_le _, Nat.zero_le _⟩ rfl (Nat.le_of_ble_eq_true rfl) dX0_lend_53) hS (fun H locs hP hS => ?_)
  have h := some_i h
  subst h
  exact x_retv X hP hS hr hlk rfl dX0_lend_56
abbrev rm_X0_play : Room := { frames := 2, cells := 0, slots := 0, locals := 44 }
set_option maxHeartbeats 4000000 in
set_option maxRecDepth 100000 in
theorem w_X0_play_L2 {F : Nat} {Θ : TH} {p : Program} {l : Launch} {e : Env} {s : State} {m : MethodId} {args : Array Value} {below : List Frame} {meth : Method} {c : Code} (X : CX Θ p s m args c RX0 cX0_play 4) (O : okT Θ (eX Θ) 68) (hr : meth.sig.returnType = some .int) (hlk : meth.locks = false) {n0 : Nat} (h0 : isEx n0) (v2 : Int32) {y : Int32 × Mem} :
    ∀ (f : Nat) (v3 : Int32) (σ0 : Mem), X0_play_L2 F n0 v2 f v3 σ0 = some y → ∀ (H : Heap) (locs : List Loc) (ls : Array Slot), va_P (tD Θ) vwCl (tw Θ σ0) H → va_S (tA Θ) s.heap H locs → lv_has ls 4 [(0, .ref (ta Θ n0)), (1, .ref (ta Θ 13)), (2, .int v2), (3, .int v3)] → W p l e rm_X0_play s m args below meth c H locs 0 0 (MQ below (qI Θ y.1 y.2) args s 0 0 (tA Θ)) (F0 m 2 ls []) := by
  have hx := X.1
  have hb := X.2.1
  intro f
  induction f with
  | zero => intro v3 σ0 h; cases h
  | succ f ih =>
    intro v3 σ0 h H locs ls hP hS hl
    rw [X0_play_L2] at h
    refine lv_iload_n hx hb dX0_play_2 rfl (lv_at hl 3 rfl) ?_
    refine lv_iload_n hx hb dX0_play_3 rfl (lv_at hl 2 rfl) ?_
    refine lv_icmp_ge (tgt := 50) hx hb dX0_play_4 (by decide) (fun c_1 => ?_) (fun c_1 => ?_)
    · have h := ite_t c_1 h
      refine lv_bipush (v := (-9)) hx hb dX0_play_50 (by decide) ?_
      have h := some_i h
      subst h
      exact x_reti X hP hS hr hlk rfl rfl dX0_play_52
    · have h := ite_f c_1 h
      refine lv_aload_n hx hb dX0_play_7 rfl (lv_at hl 0 rfl) ?_
      refine lv_aload_n hx hb dX0_play_8 rfl (lv_at hl 1 rfl) ?_
      refine lv_iconst (v := 2) hx hb dX0_play_9 (by decide) ?_
      refine lv_iload_n hx hb dX0_play_10 rfl (lv_at hl 3 rfl) ?_
      refine lv_imul hx hb dX0_play_11 ?_
      obtain ⟨g_2, h⟩ := grd_s h
      refine x_iald X O hP iI_13 g_2 dX0_play_12 ?_
      refine lv_aload_n hx hb dX0_play_13 rfl (lv_at hl 1 rfl) ?_
      refine lv_iconst (v := 2) hx hb dX0_play_14 (by decide) ?_
      refine lv_iload_n hx hb dX0_play_15 rfl (lv_at hl 3 rfl) ?_
      refine lv_imul hx hb dX0_play_16 ?_
      refine lv_iconst (v := 1) hx hb dX0_play_17 (by decide) ?_
      refine lv_iadd hx hb dX0_play_18 ?_
      obtain ⟨g_3, h⟩ := grd_s h
      refine x_iald X O hP iI_13 g_3 dX0_play_19 ?_
      obtain ⟨z_4, e_5, h⟩ := ob_s h
      refine x_calli (x_runV X O hP hS hl.1 (As := [.int (σ0 13 ((2 : Int32) * v3).toNatClampNeg), .int (σ0 13 (((2 : Int32) * v3) + 1).toNatClampNeg)]) (rest := []) (k_X0_canLend O h0 (σ0 13 ((2 : Int32) * v3).toNatClampNeg) (σ0 13 (((2 : Int32) * v3) + 1).toNatClampNeg) σ0 e_5) (lt_X0 h0) (e_X0 h0 _) rfl wM_X0_62 wI_yX0_canLend wS_yX0_canLend wN_X0 wC_yX0_canLend hd_X0_canLend rfl ⟨rfl, rfl⟩ ⟨(Nat.le_of_ble_eq_true rfl), (Nat.le_of_ble_eq_true rfl)⟩ ⟨Nat.zero_le _, Nat.zero_le _⟩ rfl (Nat.le_of_ble_eq_true rfl) dX0_play_20) hS (fun H locs hP hS => ?_)
      refine lv_if_ne (tgt := 28) hx hb dX0_play_23 (by decide) (fun c_6 => ?_) (fun c_6 => ?_)
      · have h := ite_f c_6 h
        refine lv_aload_n hx hb dX0_play_28 rfl (lv_at hl 0 rfl) ?_
        refine lv_aload_n hx hb dX0_play_29 rfl (lv_at hl 1 rfl) ?_
        refine lv_iconst (v := 2) hx hb dX0_play_30 (by decide) ?_
        refine lv_iload_n hx hb dX0_play_31 rfl (lv_at hl 3 rfl) ?_
        refine lv_imul hx hb dX0_play_32 ?_
        obtain ⟨g_7, h⟩ := grd_s h
        refine x_iald X O hP iI_13 g_7 dX0_play_33 ?_
        refine lv_aload_n hx hb dX0_play_34 rfl (lv_at hl 1 rfl) ?_
        refine lv_iconst (v := 2) hx hb dX0_play_35 (by decide) ?_
        refine lv_iload_n hx hb dX0_play_36 rfl (lv_at hl 3 rfl) ?_
        refine lv_imul hx hb dX0_play_37 ?_
        refine lv_iconst (v := 1) hx hb dX0_play_38 (by decide) ?_
        refine lv_iadd hx hb dX0_play_39 ?_
        obtain ⟨g_8, h⟩ := grd_s h
        refine x_iald X O hP iI_13 g_8 dX0_play_40 ?_
        obtain ⟨σ_9, e_10, h⟩ := ob_s h
        refine x_callv (x_runV X O hP hS hl.1 (As := [.int (σ0 13 ((2 : Int32) * v3).toNatClampNeg), .int (σ0 13 (((2 : Int32) * v3) + 1).toNatClampNeg)]) (rest := []) (k_X0_lend O h0 (σ0 13 ((2 : Int32) * v3).toNatClampNeg) (σ0 13 (((2 : Int32) * v3) + 1).toNatClampNeg) σ0 e_10) (lt_X0 h0) (e_X0 h0 _) rfl wM_X0_66 wI_yX0_lend wS_yX0_lend wN_X0 wC_yX0_lend hd_X0_lend rfl ⟨rfl, rfl⟩ ⟨(Nat.le_of_ble_eq_true rfl), (Nat.le_of_ble_eq_true rfl)⟩ ⟨Nat.zero_le _, Nat.zero_le _⟩ rfl (Nat.le_of_ble_eq_true rfl) dX0_play_41) hS (fun H locs hP hS => ?_)
        refine lv_iinc (v := v3 + 1) (lv' := [(3, .int (v3 + 1)), (0, .ref (ta Θ n0)), (1, .ref (ta Θ 13)), (2, .int v2)]) hx hb dX0_play_44 hl (k := 3) rfl rfl (by decide) rfl (fun ls hl => ?_)
        refine lv_goto (tgt := 2) hx hb dX0_play_47 (by decide) ?_
        exact ih (v3 + 1) σ_9 h _ _ _ hP hS (lv_sub hl [1, 2, 3, 0] rfl)
      · have h := ite_t c_6 h
        refine lv_iload_n hx hb dX0_play_26 rfl (lv_at hl 3 rfl) ?_
        have h := some_i h
        subst h
        exact x_reti X hP hS hr hlk rfl rfl dX0_play_27
theorem hd_X0_play : yX0_play.cls ≠ "java/lang/invoke/MethodHandle" ∧ yX0_play.cls ≠ "java/lang/invoke/VarHandle" ∧ (parseMethodDescriptor yX0_play.desc).map (fun d => d.parameters.length) = some 2 := by decide +kernel
set_option maxHeartbeats 4000000 in
set_option maxRecDepth 100000 in
theorem k_X0_play {F : Nat} {Θ : TH} {l : Launch} (O : okT Θ (eX Θ) 68) {n0 : Nat} (h0 : isEx n0) (v2 : Int32) (σ0 : Mem) {y : Int32 × Mem} (h : X0_play F n0 v2 σ0 = some y) : Met l yX0_play (Cond.code yX0_play cX0_play 4 (some .int) :: wAll) rm_X0_play (va_Pc [.ref (ta Θ n0), .ref (ta Θ 13), .int v2] (tS Θ σ0)) (qI Θ y.1 y.2) 0 0 (tA Θ) := by
  refine x_ent (by decide) (Nat.le_of_ble_eq_true rfl) (fun p e s m below meth c X hr hlk hP ls hl => ?_)
  have hS : va_S (tA Θ) s.heap s.heap [] := va_S.rf
  have hl : lv_has ls 4 [(0, .ref (ta Θ n0)), (1, .ref (ta Θ 13)), (2, .int v2)] := hl
  have hx := X.1
  have hb := X.2.1
  unfold X0_play at h
  refine lv_iconst (v := 0) hx hb dX0_play_0 (by decide) ?_
  refine lv_istore_n (lv' := [(3, .int 0), (0, .ref (ta Θ n0)), (1, .ref (ta Θ 13)), (2, .int v2)]) hx hb dX0_play_1 rfl hl (by decide) rfl (fun ls hl => ?_)
  refine w_X0_play_L2 X O hr hlk h0 v2  _ (0 : Int32) σ0 h _ _ _ hP hS (lv_sub hl [1, 2, 3, 0] rfl)
abbrev rm_X3_wantedSet : Room := { frames := 0, cells := 0, slots := 0, locals := 0 }
theorem hd_X3_wantedSet : yX3_wantedSet.cls ≠ "java/lang/invoke/MethodHandle" ∧ yX3_wantedSet.cls ≠ "java/lang/invoke/VarHandle" ∧ (parseMethodDescriptor yX3_wantedSet.desc).map (fun d => d.parameters.length) = some 0 := by decide +kernel
set_option maxHeartbeats 4000000 in
set_option maxRecDepth 100000 in
theorem k_X3_wantedSet {Θ : TH} {l : Launch} (O : okT Θ (eX Θ) 68) {n0 : Nat} (h0 : isPe n0) (σ0 : Mem) {y : Int32} (h : X3_wantedSet n0 σ0 = y) : Met l yX3_wantedSet (Cond.code yX3_wantedSet cX3_wantedSet 1 (some .int) :: wAll) rm_X3_wantedSet (va_Pc [.ref (ta Θ n0)] (tS Θ σ0)) (qI Θ y σ0) 0 0 (tA Θ) := by
  refine x_ent (by decide) (Nat.le_of_ble_eq_true rfl) (fun p e s m below meth c X hr hlk hP ls hl => ?_)
  have hS : va_S (tA Θ) s.heap s.heap [] := va_S.rf
  have hl : lv_has ls 1 [(0, .ref (ta Θ n0))] := hl
  have hx := X.1
  have hb := X.2.1
  unfold X3_wantedSet at h
  refine lv_aload_n hx hb dX3_wantedSet_0 rfl (lv_at hl 0 rfl) ?_
  refine g_X3_18 X O hP h0 dX3_wantedSet_1 ?_
  refine lv_bipush (v := 6) hx hb dX3_wantedSet_4 (by decide) ?_
  refine lv_icmp_ne (tgt := 13) hx hb dX3_wantedSet_6 (by decide) (fun c_1 => ?_) (fun c_1 => ?_)
  · have h := ite_f c_1 h
    refine lv_iconst (v := 1) hx hb dX3_wantedSet_13 (by decide) ?_
    refine lv_aload_n hx hb dX3_wantedSet_14 rfl (lv_at hl 0 rfl) ?_
    refine g_X3_18 X O hP h0 dX3_wantedSet_15 ?_
    refine lv_ishl hx hb dX3_wantedSet_18 ?_
    subst h
    exact x_reti X hP hS hr hlk rfl rfl dX3_wantedSet_19
  · have h := ite_t c_1 h
    refine lv_iconst (v := 0) hx hb dX3_wantedSet_9 (by decide) ?_
    refine lv_goto (tgt := 19) hx hb dX3_wantedSet_10 (by decide) ?_
    subst h
    exact x_reti X hP hS hr hlk rfl rfl dX3_wantedSet_19
abbrev rm_X3_isMendedBy : Room := { frames := 1, cells := 0, slots := 0, locals := 20 }
theorem hd_X3_isMendedBy : yX3_isMendedBy.cls ≠ "java/lang/invoke/MethodHandle" ∧ yX3_isMendedBy.cls ≠ "java/lang/invoke/VarHandle" ∧ (parseMethodDescriptor yX3_isMendedBy.desc).map (fun d => d.parameters.length) = some 1 := by decide +kernel
set_option maxHeartbeats 4000000 in
set_option maxRecDepth 100000 in
theorem k_X3_isMendedBy {Θ : TH} {l : Launch} (O : okT Θ (eX Θ) 68) {n0 : Nat} (h0 : isPe n0) (v1 : Int32) (σ0 : Mem) {y : Int32} (h : X3_isMendedBy n0 v1 σ0 = y) : Met l yX3_isMendedBy (Cond.code yX3_isMendedBy cX3_isMendedBy 2 (some .boolean) :: wAll) rm_X3_isMendedBy (va_Pc [.ref (ta Θ n0), .int v1] (tS Θ σ0)) (qI Θ y σ0) 0 0 (tA Θ) := by
  refine x_ent (by decide) (Nat.le_of_ble_eq_true rfl) (fun p e s m below meth c X hr hlk hP ls hl => ?_)
  have hS : va_S (tA Θ) s.heap s.heap [] := va_S.rf
  have hl : lv_has ls 2 [(0, .ref (ta Θ n0)), (1, .int v1)] := hl
  have hx := X.1
  have hb := X.2.1
  unfold X3_isMendedBy at h
  refine lv_aload_n hx hb dX3_isMendedBy_0 rfl (lv_at hl 0 rfl) ?_
  refine g_X3_18 X O hP h0 dX3_isMendedBy_1 ?_
  refine lv_bipush (v := 6) hx hb dX3_isMendedBy_4 (by decide) ?_
  refine lv_icmp_eq (tgt := 18) hx hb dX3_isMendedBy_6 (by decide) (fun c_1 => ?_) (fun c_1 => ?_)
  · have h := ite_t c_1 h
    refine lv_iconst (v := 1) hx hb dX3_isMendedBy_18 (by decide) ?_
    refine lv_goto (tgt := 23) hx hb dX3_isMendedBy_19 (by decide) ?_
    subst h
    exact x_retz X hP hS hr hlk (Or.inr rfl) rfl rfl dX3_isMendedBy_23
  · have h := ite_f c_1 h
    refine lv_iload_n hx hb dX3_isMendedBy_9 rfl (lv_at hl 1 rfl) ?_
    refine lv_aload_n hx hb dX3_isMendedBy_10 rfl (lv_at hl 0 rfl) ?_
    refine x_calli (x_runV X O hP hS hl.1 (As := []) (rest := [.int v1]) (k_X3_wantedSet O h0 σ0 rfl) (lt_X3 h0) (e_X3 h0 _) rfl wM_X3_34 wI_yX3_wantedSet wS_yX3_wantedSet wN_X3 wC_yX3_wantedSet hd_X3_wantedSet rfl ⟨rfl, rfl⟩ ⟨(Nat.le_of_ble_eq_true rfl), (Nat.le_of_ble_eq_true rfl)⟩ ⟨Nat.zero_le _, Nat.zero_le _⟩ rfl (Nat.le_of_ble_eq_true rfl) dX3_isMendedBy_11) hS (fun H locs hP hS => ?_)
    refine lv_iand hx hb dX3_isMendedBy_14 ?_
    refine lv_if_eq (tgt := 22) hx hb dX3_isMendedBy_15 (by decide) (fun c_2 => ?_) (fun c_2 => ?_)
    · have h := ite_t c_2 h
      refine lv_iconst (v := 0) hx hb dX3_isMendedBy_22 (by decide) ?_
      subst h
      exact x_retz X hP hS hr hlk (Or.inl rfl) rfl rfl dX3_isMendedBy_23
    · have h := ite_f c_2 h
      refine lv_iconst (v := 1) hx hb dX3_isMendedBy_18 (by decide) ?_
      refine lv_goto (tgt := 23) hx hb dX3_isMendedBy_19 (by decide) ?_
      subst h
      exact x_retz X hP hS hr hlk (Or.inr rfl) rfl rfl dX3_isMendedBy_23
abbrev rm_X0_mended : Room := { frames := 2, cells := 0, slots := 0, locals := 41 }
set_option maxHeartbeats 4000000 in
set_option maxRecDepth 100000 in
theorem w_X0_mended_L4 {F : Nat} {Θ : TH} {p : Program} {l : Launch} {e : Env} {s : State} {m : MethodId} {args : Array Value} {below : List Frame} {meth : Method} {c : Code} (X : CX Θ p s m args c RX0 cX0_mended 3) (O : okT Θ (eX Θ) 68) (hr : meth.sig.returnType = some .int) (hlk : meth.locks = false) {n0 : Nat} (h0 : isEx n0) (σ0 : Mem) {y : Int32} :
    ∀ (f : Nat) (v1 : Int32) (v2 : Int32), X0_mended_L4 F n0 σ0 f v1 v2 = some y → ∀ (H : Heap) (locs : List Loc) (ls : Array Slot), va_P (tD Θ) vwCl (tw Θ σ0) H → va_S (tA Θ) s.heap H locs → lv_has ls 3 [(0, .ref (ta Θ n0)), (1, .int v1), (2, .int v2)] → W p l e rm_X0_mended s m args below meth c H locs 0 0 (MQ below (qI Θ y σ0) args s 0 0 (tA Θ)) (F0 m 4 ls []) := by
  have hx := X.1
  have hb := X.2.1
  intro f
  induction f with
  | zero => intro v1 v2 h; cases h
  | succ f ih =>
    intro v1 v2 h H locs ls hP hS hl
    rw [X0_mended_L4] at h
    refine lv_iload_n hx hb dX0_mended_4 rfl (lv_at hl 2 rfl) ?_
    refine lv_aload_n hx hb dX0_mended_5 rfl (lv_at hl 0 rfl) ?_
    refine g_X0_36 X O hP h0 dX0_mended_6 ?_
    refine lv_icmp_ge (tgt := 42) hx hb dX0_mended_9 (by decide) (fun c_1 => ?_) (fun c_1 => ?_)
    · have h := ite_t c_1 h
      refine lv_iload_n hx hb dX0_mended_42 rfl (lv_at hl 1 rfl) ?_
      have h := some_i h
      subst h
      exact x_reti X hP hS hr hlk rfl rfl dX0_mended_43
    · have h := ite_f c_1 h
      refine lv_aload_n hx hb dX0_mended_12 rfl (lv_at hl 0 rfl) ?_
      obtain ⟨g_2, h⟩ := grd_s h
      refine g_X0_32 X O hP h0 g_2 dX0_mended_13 ?_
      refine lv_iload_n hx hb dX0_mended_16 rfl (lv_at hl 2 rfl) ?_
      obtain ⟨g_3, h⟩ := grd_s h
      refine x_aald X O hP (k := 2) (n := 6) (t0 := 3) (C := "LentYouths$Person") (g := fun j => 22 + j) (by decide) rfl rfl g_3 dX0_mended_17 ?_
      refine lv_aload_n hx hb dX0_mended_18 rfl (lv_at hl 0 rfl) ?_
      refine g_X0_24 X O hP h0 dX0_mended_19 ?_
      refine lv_iload_n hx hb dX0_mended_22 rfl (lv_at hl 2 rfl) ?_
      obtain ⟨g_4, h⟩ := grd_s h
      refine x_iald X O hP (iI_X0_5 h0) g_4 dX0_mended_23 ?_
      refine x_calli (x_runV X O hP hS hl.1 (As := [.int (σ0 (n0 + 5) v2.toNatClampNeg)]) (rest := []) (k_X3_isMendedBy O (isPe_at g_3) (σ0 (n0 + 5) v2.toNatClampNeg) σ0 rfl) (lt_X3 (isPe_at g_3)) (e_X3 (isPe_at g_3) _) rfl wM_X0_80 wI_yX3_isMendedBy wS_yX3_isMendedBy wN_X3 wC_yX3_isMendedBy hd_X3_isMendedBy rfl ⟨rfl, rfl⟩ ⟨(Nat.le_of_ble_eq_true rfl), (Nat.le_of_ble_eq_true rfl)⟩ ⟨Nat.zero_le _, Nat.zero_le _⟩ rfl (Nat.le_of_ble_eq_true rfl) dX0_mended_24) hS (fun H locs hP hS => ?_)
      refine lv_if_eq (tgt := 36) hx hb dX0_mended_27 (by decide) (fun c_5 => ?_) (fun c_5 => ?_)
      · have h := ite_t c_5 h
        refine lv_iinc (v := v2 + 1) (lv' := [(2, .int (v2 + 1)), (0, .ref (ta Θ n0)), (1, .int v1)]) hx hb dX0_mended_36 hl (k := 2) rfl rfl (by decide) rfl (fun ls hl => ?_)
        refine lv_goto (tgt := 4) hx hb dX0_mended_39 (by decide) ?_
        exact ih v1 (v2 + 1) h _ _ _ hP hS (lv_sub hl [1, 2, 0] rfl)
      · have h := ite_f c_5 h
        refine lv_iload_n hx hb dX0_mended_30 rfl (lv_at hl 1 rfl) ?_
        refine lv_iconst (v := 1) hx hb dX0_mended_31 (by decide) ?_
        refine lv_iload_n hx hb dX0_mended_32 rfl (lv_at hl 2 rfl) ?_
        refine lv_ishl hx hb dX0_mended_33 ?_
        refine lv_ior hx hb dX0_mended_34 ?_
        obtain ⟨v1_6, e_7, h⟩ := bnd_s h
        refine lv_nam e_7 ?_
        refine lv_istore_n (lv' := [(1, .int v1_6), (0, .ref (ta Θ n0)), (2, .int v2)]) hx hb dX0_mended_35 rfl hl (by decide) rfl (fun ls hl => ?_)
        refine lv_iinc (v := v2 + 1) (lv' := [(2, .int (v2 + 1)), (1, .int v1_6), (0, .ref (ta Θ n0))]) hx hb dX0_mended_36 hl (k := 2) rfl rfl (by decide) rfl (fun ls hl => ?_)
        refine lv_goto (tgt := 4) hx hb dX0_mended_39 (by decide) ?_
        exact ih v1_6 (v2 + 1) h _ _ _ hP hS (lv_sub hl [2, 1, 0] rfl)
theorem hd_X0_mended : yX0_mended.cls ≠ "java/lang/invoke/MethodHandle" ∧ yX0_mended.cls ≠ "java/lang/invoke/VarHandle" ∧ (parseMethodDescriptor yX0_mended.desc).map (fun d => d.parameters.length) = some 0 := by decide +kernel
set_option maxHeartbeats 4000000 in
set_option maxRecDepth 100000 in
theorem k_X0_mended {F : Nat} {Θ : TH} {l : Launch} (O : okT Θ (eX Θ) 68) {n0 : Nat} (h0 : isEx n0) (σ0 : Mem) {y : Int32} (h : X0_mended F n0 σ0 = some y) : Met l yX0_mended (Cond.code yX0_mended cX0_mended 3 (some .int) :: wAll) rm_X0_mended (va_Pc [.ref (ta Θ n0)] (tS Θ σ0)) (qI Θ y σ0) 0 0 (tA Θ) := by
  refine x_ent (by decide) (Nat.le_of_ble_eq_true rfl) (fun p e s m below meth c X hr hlk hP ls hl => ?_)
  have hS : va_S (tA Θ) s.heap s.heap [] := va_S.rf
  have hl : lv_has ls 3 [(0, .ref (ta Θ n0))] := hl
  have hx := X.1
  have hb := X.2.1
  unfold X0_mended at h
  refine lv_iconst (v := 0) hx hb dX0_mended_0 (by decide) ?_
  refine lv_istore_n (lv' := [(1, .int 0), (0, .ref (ta Θ n0))]) hx hb dX0_mended_1 rfl hl (by decide) rfl (fun ls hl => ?_)
  refine lv_iconst (v := 0) hx hb dX0_mended_2 (by decide) ?_
  refine lv_istore_n (lv' := [(2, .int 0), (1, .int 0), (0, .ref (ta Θ n0))]) hx hb dX0_mended_3 rfl hl (by decide) rfl (fun ls hl => ?_)
  refine w_X0_mended_L4 X O hr hlk h0 σ0  _ (0 : Int32) (0 : Int32) h _ _ _ hP hS (lv_sub hl [2, 1, 0] rfl)
abbrev rm_X0_firstThatMendsAll : Room := { frames := 3, cells := 0, slots := 0, locals := 63 }
set_option maxHeartbeats 4000000 in
set_option maxRecDepth 100000 in
theorem w_X0_firstThatMendsAll_L23 {F : Nat} {Θ : TH} {p : Program} {l : Launch} {e : Env} {s : State} {m : MethodId} {args : Array Value} {below : List Frame} {meth : Method} {c : Code} (X : CX Θ p s m args c RX0 cX0_firstThatMendsAll 5) (O : okT Θ (eX Θ) 68) (hr : meth.sig.returnType = some .int) (hlk : meth.locks = false) {n0 : Nat} (h0 : isEx n0) (v2 : Int32) (v3 : Int32) {y : Int32 × Mem} :
    ∀ (f : Nat) (v4 : Int32) (σ0 : Mem), X0_firstThatMendsAll_L23 F n0 v2 v3 f v4 σ0 = some y → ∀ (H : Heap) (locs : List Loc) (ls : Array Slot), va_P (tD Θ) vwCl (tw Θ σ0) H → va_S (tA Θ) s.heap H locs → lv_has ls 5 [(0, .ref (ta Θ n0)), (1, .ref (ta Θ 13)), (2, .int v2), (3, .int v3), (4, .int v4)] → W p l e rm_X0_firstThatMendsAll s m args below meth c H locs 0 0 (MQ below (qI Θ y.1 y.2) args s 0 0 (tA Θ)) (F0 m 23 ls []) := by
  have hx := X.1
  have hb := X.2.1
  intro f
  induction f with
  | zero => intro v4 σ0 h; cases h
  | succ f ih =>
    intro v4 σ0 h H locs ls hP hS hl
    rw [X0_firstThatMendsAll_L23] at h
    refine lv_iload hx hb dX0_firstThatMendsAll_23 (lv_at hl 4 rfl) ?_
    refine lv_iload_n hx hb dX0_firstThatMendsAll_25 rfl (lv_at hl 2 rfl) ?_
    refine lv_icmp_ge (tgt := 64) hx hb dX0_firstThatMendsAll_26 (by decide) (fun c_6 => ?_) (fun c_6 => ?_)
    · have h := ite_t c_6 h
      refine lv_bipush (v := (-9)) hx hb dX0_firstThatMendsAll_64 (by decide) ?_
      have h := some_i h
      subst h
      exact x_reti X hP hS hr hlk rfl rfl dX0_firstThatMendsAll_66
    · have h := ite_f c_6 h
      refine lv_aload_n hx hb dX0_firstThatMendsAll_29 rfl (lv_at hl 0 rfl) ?_
      refine lv_aload_n hx hb dX0_firstThatMendsAll_30 rfl (lv_at hl 1 rfl) ?_
      refine lv_iconst (v := 2) hx hb dX0_firstThatMendsAll_31 (by decide) ?_
      refine lv_iload hx hb dX0_firstThatMendsAll_32 (lv_at hl 4 rfl) ?_
      refine lv_imul hx hb dX0_firstThatMendsAll_34 ?_
      obtain ⟨g_7, h⟩ := grd_s h
      refine x_iald X O hP iI_13 g_7 dX0_firstThatMendsAll_35 ?_
      refine lv_aload_n hx hb dX0_firstThatMendsAll_36 rfl (lv_at hl 1 rfl) ?_
      refine lv_iconst (v := 2) hx hb dX0_firstThatMendsAll_37 (by decide) ?_
      refine lv_iload hx hb dX0_firstThatMendsAll_38 (lv_at hl 4 rfl) ?_
      refine lv_imul hx hb dX0_firstThatMendsAll_40 ?_
      refine lv_iconst (v := 1) hx hb dX0_firstThatMendsAll_41 (by decide) ?_
      refine lv_iadd hx hb dX0_firstThatMendsAll_42 ?_
      obtain ⟨g_8, h⟩ := grd_s h
      refine x_iald X O hP iI_13 g_8 dX0_firstThatMendsAll_43 ?_
      obtain ⟨σ_9, e_10, h⟩ := ob_s h
      refine x_callv (x_runV X O hP hS hl.1 (As := [.int (σ0 13 ((2 : Int32) * v4).toNatClampNeg), .int (σ0 13 (((2 : Int32) * v4) + 1).toNatClampNeg)]) (rest := []) (k_X0_lend O h0 (σ0 13 ((2 : Int32) * v4).toNatClampNeg) (σ0 13 (((2 : Int32) * v4) + 1).toNatClampNeg) σ0 e_10) (lt_X0 h0) (e_X0 h0 _) rfl wM_X0_66 wI_yX0_lend wS_yX0_lend wN_X0 wC_yX0_lend hd_X0_lend rfl ⟨rfl, rfl⟩ ⟨(Nat.le_of_ble_eq_true rfl), (Nat.le_of_ble_eq_true rfl)⟩ ⟨Nat.zero_le _, Nat.zero_le _⟩ rfl (Nat.le_of_ble_eq_true rfl) dX0_firstThatMendsAll_44) hS (fun H locs hP hS => ?_)
      refine lv_aload_n hx hb dX0_firstThatMendsAll_47 rfl (lv_at hl 0 rfl) ?_
      obtain ⟨z_11, e_12, h⟩ := ob_s h
      refine x_calli (x_runV X O hP hS hl.1 (As := []) (rest := []) (k_X0_mended O h0 σ_9 e_12) (lt_X0 h0) (e_X0 h0 _) rfl wM_X0_70 wI_yX0_mended wS_yX0_mended wN_X0 wC_yX0_mended hd_X0_mended rfl ⟨rfl, rfl⟩ ⟨(Nat.le_of_ble_eq_true rfl), (Nat.le_of_ble_eq_true rfl)⟩ ⟨Nat.zero_le _, Nat.zero_le _⟩ rfl (Nat.le_of_ble_eq_true rfl) dX0_firstThatMendsAll_48) hS (fun H locs hP hS => ?_)
      refine lv_iload_n hx hb dX0_firstThatMendsAll_51 rfl (lv_at hl 3 rfl) ?_
      refine lv_icmp_ne (tgt := 58) hx hb dX0_firstThatMendsAll_52 (by decide) (fun c_13 => ?_) (fun c_13 => ?_)
      · have h := ite_f c_13 h
        refine lv_iinc (v := v4 + 1) (lv' := [(4, .int (v4 + 1)), (0, .ref (ta Θ n0)), (1, .ref (ta Θ 13)), (2, .int v2), (3, .int v3)]) hx hb dX0_firstThatMendsAll_58 hl (k := 4) rfl rfl (by decide) rfl (fun ls hl => ?_)
        refine lv_goto (tgt := 23) hx hb dX0_firstThatMendsAll_61 (by decide) ?_
        exact ih (v4 + 1) σ_9 h _ _ _ hP hS (lv_sub hl [1, 2, 3, 4, 0] rfl)
      · have h := ite_t c_13 h
        refine lv_iload hx hb dX0_firstThatMendsAll_55 (lv_at hl 4 rfl) ?_
        have h := some_i h
        subst h
        exact x_reti X hP hS hr hlk rfl rfl dX0_firstThatMendsAll_57
theorem hd_X0_firstThatMendsAll : yX0_firstThatMendsAll.cls ≠ "java/lang/invoke/MethodHandle" ∧ yX0_firstThatMendsAll.cls ≠ "java/lang/invoke/VarHandle" ∧ (parseMethodDescriptor yX0_firstThatMendsAll.desc).map (fun d => d.parameters.length) = some 2 := by decide +kernel
set_option maxHeartbeats 4000000 in
set_option maxRecDepth 100000 in
theorem k_X0_firstThatMendsAll {F : Nat} {Θ : TH} {l : Launch} (O : okT Θ (eX Θ) 68) {n0 : Nat} (h0 : isEx n0) (v2 : Int32) (σ0 : Mem) {y : Int32 × Mem} (h : X0_firstThatMendsAll F n0 v2 σ0 = some y) : Met l yX0_firstThatMendsAll (Cond.code yX0_firstThatMendsAll cX0_firstThatMendsAll 5 (some .int) :: wAll) rm_X0_firstThatMendsAll (va_Pc [.ref (ta Θ n0), .ref (ta Θ 13), .int v2] (tS Θ σ0)) (qI Θ y.1 y.2) 0 0 (tA Θ) := by
  refine x_ent (by decide) (Nat.le_of_ble_eq_true rfl) (fun p e s m below meth c X hr hlk hP ls hl => ?_)
  have hS : va_S (tA Θ) s.heap s.heap [] := va_S.rf
  have hl : lv_has ls 5 [(0, .ref (ta Θ n0)), (1, .ref (ta Θ 13)), (2, .int v2)] := hl
  have hx := X.1
  have hb := X.2.1
  unfold X0_firstThatMendsAll at h
  refine lv_iconst (v := 1) hx hb dX0_firstThatMendsAll_0 (by decide) ?_
  refine lv_aload_n hx hb dX0_firstThatMendsAll_1 rfl (lv_at hl 0 rfl) ?_
  refine g_X0_36 X O hP h0 dX0_firstThatMendsAll_2 ?_
  refine lv_ishl hx hb dX0_firstThatMendsAll_5 ?_
  refine lv_iconst (v := 1) hx hb dX0_firstThatMendsAll_6 (by decide) ?_
  refine lv_isub hx hb dX0_firstThatMendsAll_7 ?_
  obtain ⟨v3_1, e_2, h⟩ := bnd_s h
  refine lv_nam e_2 ?_
  refine lv_istore_n (lv' := [(3, .int v3_1), (0, .ref (ta Θ n0)), (1, .ref (ta Θ 13)), (2, .int v2)]) hx hb dX0_firstThatMendsAll_8 rfl hl (by decide) rfl (fun ls hl => ?_)
  refine lv_aload_n hx hb dX0_firstThatMendsAll_9 rfl (lv_at hl 1 rfl) ?_
  obtain ⟨z_3, e_4, h⟩ := ob_s h
  refine x_calli (x_runV X O hP hS hl.1 (As := []) (rest := []) (k_X0_mended O h0 σ0 e_4) (lt_X0 h0) (e_X0 h0 _) rfl wM_X0_70 wI_yX0_mended wS_yX0_mended wN_X0 wC_yX0_mended hd_X0_mended rfl ⟨rfl, rfl⟩ ⟨(Nat.le_of_ble_eq_true rfl), (Nat.le_of_ble_eq_true rfl)⟩ ⟨Nat.zero_le _, Nat.zero_le _⟩ rfl (Nat.le_of_ble_eq_true rfl) dX0_firstThatMendsAll_10) hS (fun H locs hP hS => ?_)
  refine lv_iload_n hx hb dX0_firstThatMendsAll_13 rfl (lv_at hl 0 rfl) ?_
  refine lv_icmp_ne (tgt := 20) hx hb dX0_firstThatMendsAll_14 (by decide) (fun c_5 => ?_) (fun c_5 => ?_)
  · have h := ite_f c_5 h
    refine lv_iconst (v := 0) hx hb dX0_firstThatMendsAll_20 (by decide) ?_
    refine lv_istore (lv' := [(4, .int 0), (3, .int v3_1), (0, .ref (ta Θ n0)), (1, .ref (ta Θ 13)), (2, .int v2)]) hx hb dX0_firstThatMendsAll_21 hl (by decide) rfl (fun ls hl => ?_)
    refine w_X0_firstThatMendsAll_L23 X O hr hlk h0 v2 v3_1  _ (0 : Int32) σ0 h _ _ _ hP hS (lv_sub hl [2, 3, 4, 1, 0] rfl)
  · have h := ite_t c_5 h
    refine lv_bipush (v := (-9)) hx hb dX0_firstThatMendsAll_17 (by decide) ?_
    have h := some_i h
    subst h
    exact x_reti X hP hS hr hlk rfl rfl dX0_firstThatMendsAll_19
abbrev rm_X0_childhoodsThatShowed : Room := { frames := 0, cells := 0, slots := 0, locals := 0 }
set_option maxHeartbeats 4000000 in
set_option maxRecDepth 100000 in
theorem w_X0_childhoodsThatShowed_L5 {F : Nat} {Θ : TH} {p : Program} {l : Launch} {e : Env} {s : State} {m : MethodId} {args : Array Value} {below : List Frame} {meth : Method} {c : Code} (X : CX Θ p s m args c RX0 cX0_childhoodsThatShowed 5) (O : okT Θ (eX Θ) 68) (hr : meth.sig.returnType = some .int) (hlk : meth.locks = false) {n0 : Nat} (h0 : isEx n0) (v1 : Int32) (v2 : Int32) (σ0 : Mem) {y : Int32} :
    ∀ (f : Nat) (v3 : Int32) (v4 : Int32), X0_childhoodsThatShowed_L5 F n0 v1 v2 σ0 f v3 v4 = some y → ∀ (H : Heap) (locs : List Loc) (ls : Array Slot), va_P (tD Θ) vwCl (tw Θ σ0) H → va_S (tA Θ) s.heap H locs → lv_has ls 5 [(0, .ref (ta Θ n0)), (1, .int v1), (2, .int v2), (3, .int v3), (4, .int v4)] → W p l e rm_X0_childhoodsThatShowed s m args below meth c H locs 0 0 (MQ below (qI Θ y σ0) args s 0 0 (tA Θ)) (F0 m 5 ls []) := by
  have hx := X.1
  have hb := X.2.1
  intro f
  induction f with
  | zero => intro v3 v4 h; cases h
  | succ f ih =>
    intro v3 v4 h H locs ls hP hS hl
    rw [X0_childhoodsThatShowed_L5] at h
    refine lv_iload hx hb dX0_childhoodsThatShowed_5 (lv_at hl 4 rfl) ?_
    refine lv_aload_n hx hb dX0_childhoodsThatShowed_7 rfl (lv_at hl 0 rfl) ?_
    refine g_X0_36 X O hP h0 dX0_childhoodsThatShowed_8 ?_
    refine lv_icmp_ge (tgt := 40) hx hb dX0_childhoodsThatShowed_11 (by decide) (fun c_1 => ?_) (fun c_1 => ?_)
    · have h := ite_t c_1 h
      refine lv_iload_n hx hb dX0_childhoodsThatShowed_40 rfl (lv_at hl 3 rfl) ?_
      have h := some_i h
      subst h
      exact x_reti X hP hS hr hlk rfl rfl dX0_childhoodsThatShowed_41
    · have h := ite_f c_1 h
      refine lv_aload_n hx hb dX0_childhoodsThatShowed_14 rfl (lv_at hl 0 rfl) ?_
      refine g_X0_27 X O hP h0 dX0_childhoodsThatShowed_15 ?_
      refine lv_bipush (v := 6) hx hb dX0_childhoodsThatShowed_18 (by decide) ?_
      refine lv_iload_n hx hb dX0_childhoodsThatShowed_20 rfl (lv_at hl 1 rfl) ?_
      refine lv_imul hx hb dX0_childhoodsThatShowed_21 ?_
      refine lv_iload hx hb dX0_childhoodsThatShowed_22 (lv_at hl 4 rfl) ?_
      refine lv_iadd hx hb dX0_childhoodsThatShowed_24 ?_
      obtain ⟨g_2, h⟩ := grd_s h
      refine x_iald X O hP (iI_X0_6 h0) g_2 dX0_childhoodsThatShowed_25 ?_
      refine lv_iload_n hx hb dX0_childhoodsThatShowed_26 rfl (lv_at hl 2 rfl) ?_
      refine lv_iand hx hb dX0_childhoodsThatShowed_27 ?_
      refine lv_if_eq (tgt := 34) hx hb dX0_childhoodsThatShowed_28 (by decide) (fun c_3 => ?_) (fun c_3 => ?_)
      · have h := ite_t c_3 h
        refine lv_iinc (v := v4 + 1) (lv' := [(4, .int (v4 + 1)), (0, .ref (ta Θ n0)), (1, .int v1), (2, .int v2), (3, .int v3)]) hx hb dX0_childhoodsThatShowed_34 hl (k := 4) rfl rfl (by decide) rfl (fun ls hl => ?_)
        refine lv_goto (tgt := 5) hx hb dX0_childhoodsThatShowed_37 (by decide) ?_
        exact ih v3 (v4 + 1) h _ _ _ hP hS (lv_sub hl [1, 2, 3, 4, 0] rfl)
      · have h := ite_f c_3 h
        refine lv_iinc (v := v3 + 1) (lv' := [(3, .int (v3 + 1)), (0, .ref (ta Θ n0)), (1, .int v1), (2, .int v2), (4, .int v4)]) hx hb dX0_childhoodsThatShowed_31 hl (k := 3) rfl rfl (by decide) rfl (fun ls hl => ?_)
        refine lv_iinc (v := v4 + 1) (lv' := [(4, .int (v4 + 1)), (3, .int (v3 + 1)), (0, .ref (ta Θ n0)), (1, .int v1), (2, .int v2)]) hx hb dX0_childhoodsThatShowed_34 hl (k := 4) rfl rfl (by decide) rfl (fun ls hl => ?_)
        refine lv_goto (tgt := 5) hx hb dX0_childhoodsThatShowed_37 (by decide) ?_
        exact ih (v3 + 1) (v4 + 1) h _ _ _ hP hS (lv_sub hl [2, 3, 4, 1, 0] rfl)
theorem hd_X0_childhoodsThatShowed : yX0_childhoodsThatShowed.cls ≠ "java/lang/invoke/MethodHandle" ∧ yX0_childhoodsThatShowed.cls ≠ "java/lang/invoke/VarHandle" ∧ (parseMethodDescriptor yX0_childhoodsThatShowed.desc).map (fun d => d.parameters.length) = some 2 := by decide +kernel
set_option maxHeartbeats 4000000 in
set_option maxRecDepth 100000 in
theorem k_X0_childhoodsThatShowed {F : Nat} {Θ : TH} {l : Launch} (O : okT Θ (eX Θ) 68) {n0 : Nat} (h0 : isEx n0) (v1 : Int32) (v2 : Int32) (σ0 : Mem) {y : Int32} (h : X0_childhoodsThatShowed F n0 v1 v2 σ0 = some y) : Met l yX0_childhoodsThatShowed (Cond.code yX0_childhoodsThatShowed cX0_childhoodsThatShowed 5 (some .int) :: wAll) rm_X0_childhoodsThatShowed (va_Pc [.ref (ta Θ n0), .int v1, .int v2] (tS Θ σ0)) (qI Θ y σ0) 0 0 (tA Θ) := by
  refine x_ent (by decide) (Nat.le_of_ble_eq_true rfl) (fun p e s m below meth c X hr hlk hP ls hl => ?_)
  have hS : va_S (tA Θ) s.heap s.heap [] := va_S.rf
  have hl : lv_has ls 5 [(0, .ref (ta Θ n0)), (1, .int v1), (2, .int v2)] := hl
  have hx := X.1
  have hb := X.2.1
  unfold X0_childhoodsThatShowed at h
  refine lv_iconst (v := 0) hx hb dX0_childhoodsThatShowed_0 (by decide) ?_
  refine lv_istore_n (lv' := [(3, .int 0), (0, .ref (ta Θ n0)), (1, .int v1), (2, .int v2)]) hx hb dX0_childhoodsThatShowed_1 rfl hl (by decide) rfl (fun ls hl => ?_)
  refine lv_iconst (v := 0) hx hb dX0_childhoodsThatShowed_2 (by decide) ?_
  refine lv_istore (lv' := [(4, .int 0), (3, .int 0), (0, .ref (ta Θ n0)), (1, .int v1), (2, .int v2)]) hx hb dX0_childhoodsThatShowed_3 hl (by decide) rfl (fun ls hl => ?_)
  refine w_X0_childhoodsThatShowed_L5 X O hr hlk h0 v1 v2 σ0  _ (0 : Int32) (0 : Int32) h _ _ _ hP hS (lv_sub hl [2, 3, 4, 1, 0] rfl)
abbrev rm_X0_loansHome : Room := { frames := 0, cells := 0, slots := 0, locals := 0 }
set_option maxHeartbeats 4000000 in
set_option maxRecDepth 100000 in
theorem w_X0_loansHome_L31 {F : Nat} {Θ : TH} {p : Program} {l : Launch} {e : Env} {s : State} {m : MethodId} {args : Array Value} {below : List Frame} {meth : Method} {c : Code} (X : CX Θ p s m args c RX0 cX0_loansHome 6) (O : okT Θ (eX Θ) 68) (hr : meth.sig.returnType = some .int) (hlk : meth.locks = false) {n0 : Nat} (h0 : isEx n0) (v1 : Int32) (v3 : Int32) (σ0 : Mem) {y : Int32} {k62 : Int32 → Option (Int32)} (hk62 : ∀ (v2 : Int32), k62 v2 = some y → ∀ (H : Heap) (locs : List Loc) (ls : Array Slot), va_P (tD Θ) vwCl (tw Θ σ0) H → va_S (tA Θ) s.heap H locs → lv_has ls 6 [(0, .ref (ta Θ n0)), (1, .int v1), (2, .int v2), (3, .int v3)] → W p l e rm_X0_loansHome s m args below meth c H locs 0 0 (MQ below (qI Θ y σ0) args s 0 0 (tA Θ)) (F0 m 62 ls [])) :
    ∀ (f : Nat) (v2 : Int32) (v4 : Int32) (v5 : Int32), X0_loansHome_L31 F n0 v1 v3 σ0 k62 f v2 v4 v5 = some y → ∀ (H : Heap) (locs : List Loc) (ls : Array Slot), va_P (tD Θ) vwCl (tw Θ σ0) H → va_S (tA Θ) s.heap H locs → lv_has ls 6 [(0, .ref (ta Θ n0)), (1, .int v1), (2, .int v2), (3, .int v3), (4, .int v4), (5, .int v5)] → W p l e rm_X0_loansHome s m args below meth c H locs 0 0 (MQ below (qI Θ y σ0) args s 0 0 (tA Θ)) (F0 m 31 ls []) := by
  have hx := X.1
  have hb := X.2.1
  intro f
  induction f with
  | zero => intro v2 v4 v5 h; cases h
  | succ f ih =>
    intro v2 v4 v5 h H locs ls hP hS hl
    rw [X0_loansHome_L31] at h
    refine lv_iload hx hb dX0_loansHome_31 (lv_at hl 5 rfl) ?_
    refine lv_aload_n hx hb dX0_loansHome_33 rfl (lv_at hl 0 rfl) ?_
    refine g_X0_36 X O hP h0 dX0_loansHome_34 ?_
    refine lv_icmp_ge (tgt := 62) hx hb dX0_loansHome_37 (by decide) (fun c_3 => ?_) (fun c_3 => ?_)
    · have h := ite_t c_3 h
      exact hk62 v2 h _ _ _ hP hS (lv_sub hl [0, 1, 2, 3] rfl)
    · have h := ite_f c_3 h
      refine lv_iload_n hx hb dX0_loansHome_40 rfl (lv_at hl 2 rfl) ?_
      refine lv_iconst (v := 1) hx hb dX0_loansHome_41 (by decide) ?_
      refine lv_iload hx hb dX0_loansHome_42 (lv_at hl 4 rfl) ?_
      refine lv_ishl hx hb dX0_loansHome_44 ?_
      refine lv_ior hx hb dX0_loansHome_45 ?_
      obtain ⟨v2_4, e_5, h⟩ := bnd_s h
      refine lv_nam e_5 ?_
      refine lv_istore_n (lv' := [(2, .int v2_4), (0, .ref (ta Θ n0)), (1, .int v1), (3, .int v3), (4, .int v4), (5, .int v5)]) hx hb dX0_loansHome_46 rfl hl (by decide) rfl (fun ls hl => ?_)
      refine lv_aload_n hx hb dX0_loansHome_47 rfl (lv_at hl 1 rfl) ?_
      refine g_X0_21 X O hP h0 dX0_loansHome_48 ?_
      refine lv_iload hx hb dX0_loansHome_51 (lv_at hl 4 rfl) ?_
      obtain ⟨g_6, h⟩ := grd_s h
      refine x_iald X O hP (iI_X0_4 h0) g_6 dX0_loansHome_53 ?_
      obtain ⟨v4_7, e_8, h⟩ := bnd_s h
      refine lv_nam e_8 ?_
      refine lv_istore (lv' := [(4, .int v4_7), (2, .int v2_4), (0, .ref (ta Θ n0)), (1, .int v1), (3, .int v3), (5, .int v5)]) hx hb dX0_loansHome_54 hl (by decide) rfl (fun ls hl => ?_)
      refine lv_iinc (v := v5 + 1) (lv' := [(5, .int (v5 + 1)), (4, .int v4_7), (2, .int v2_4), (0, .ref (ta Θ n0)), (1, .int v1), (3, .int v3)]) hx hb dX0_loansHome_56 hl (k := 5) rfl rfl (by decide) rfl (fun ls hl => ?_)
      refine lv_goto (tgt := 31) hx hb dX0_loansHome_59 (by decide) ?_
      exact ih v2_4 v4_7 (v5 + 1) h _ _ _ hP hS (lv_sub hl [3, 4, 2, 5, 1, 0] rfl)
set_option maxHeartbeats 4000000 in
set_option maxRecDepth 100000 in
theorem w_X0_loansHome_L6 {F : Nat} {Θ : TH} {p : Program} {l : Launch} {e : Env} {s : State} {m : MethodId} {args : Array Value} {below : List Frame} {meth : Method} {c : Code} (X : CX Θ p s m args c RX0 cX0_loansHome 6) (O : okT Θ (eX Θ) 68) (hr : meth.sig.returnType = some .int) (hlk : meth.locks = false) {n0 : Nat} (h0 : isEx n0) (σ0 : Mem) {y : Int32} :
    ∀ (f : Nat) (v1 : Int32) (v2 : Int32) (v3 : Int32), X0_loansHome_L6 F n0 σ0 f v1 v2 v3 = some y → ∀ (H : Heap) (locs : List Loc) (ls : Array Slot), va_P (tD Θ) vwCl (tw Θ σ0) H → va_S (tA Θ) s.heap H locs → lv_has ls 6 [(0, .ref (ta Θ n0)), (1, .int v1), (2, .int v2), (3, .int v3)] → W p l e rm_X0_loansHome s m args below meth c H locs 0 0 (MQ below (qI Θ y σ0) args s 0 0 (tA Θ)) (F0 m 6 ls []) := by
  have hx := X.1
  have hb := X.2.1
  intro f
  induction f with
  | zero => intro v1 v2 v3 h; cases h
  | succ f ih =>
    intro v1 v2 v3 h H locs ls hP hS hl
    rw [X0_loansHome_L6] at h
    refine lv_iload_n hx hb dX0_loansHome_6 rfl (lv_at hl 3 rfl) ?_
    refine lv_aload_n hx hb dX0_loansHome_7 rfl (lv_at hl 0 rfl) ?_
    refine g_X0_36 X O hP h0 dX0_loansHome_8 ?_
    refine lv_icmp_ge (tgt := 68) hx hb dX0_loansHome_11 (by decide) (fun c_1 => ?_) (fun c_1 => ?_)
    · have h := ite_t c_1 h
      refine lv_aload_n hx hb dX0_loansHome_68 rfl (lv_at hl 0 rfl) ?_
      refine g_X0_36 X O hP h0 dX0_loansHome_69 ?_
      refine lv_iload_n hx hb dX0_loansHome_72 rfl (lv_at hl 1 rfl) ?_
      refine lv_isub hx hb dX0_loansHome_73 ?_
      have h := some_i h
      subst h
      exact x_reti X hP hS hr hlk rfl rfl dX0_loansHome_74
    · have h := ite_f c_1 h
      refine lv_iload_n hx hb dX0_loansHome_14 rfl (lv_at hl 2 rfl) ?_
      refine lv_iload_n hx hb dX0_loansHome_15 rfl (lv_at hl 3 rfl) ?_
      refine lv_ishr hx hb dX0_loansHome_16 ?_
      refine lv_iconst (v := 1) hx hb dX0_loansHome_17 (by decide) ?_
      refine lv_iand hx hb dX0_loansHome_18 ?_
      refine lv_if_ne (tgt := 25) hx hb dX0_loansHome_19 (by decide) (fun c_2 => ?_) (fun c_2 => ?_)
      · have h := ite_f c_2 h
        refine lv_iload_n hx hb dX0_loansHome_25 rfl (lv_at hl 3 rfl) ?_
        refine lv_istore (lv' := [(4, .int v3), (0, .ref (ta Θ n0)), (1, .int v1), (2, .int v2), (3, .int v3)]) hx hb dX0_loansHome_26 hl (by decide) rfl (fun ls hl => ?_)
        refine lv_iconst (v := 0) hx hb dX0_loansHome_28 (by decide) ?_
        refine lv_istore (lv' := [(5, .int 0), (4, .int v3), (0, .ref (ta Θ n0)), (1, .int v1), (2, .int v2), (3, .int v3)]) hx hb dX0_loansHome_29 hl (by decide) rfl (fun ls hl => ?_)
        refine w_X0_loansHome_L31 X O hr hlk h0 v1 v3 σ0 ?_ _ v2 v3 (0 : Int32) h _ _ _ hP hS (lv_sub hl [2, 3, 4, 5, 1, 0] rfl)
        · intro v2_9 h H locs ls hP hS hl
          refine lv_iinc (v := v3 + 1) (lv' := [(3, .int (v3 + 1)), (0, .ref (ta Θ n0)), (1, .int v1), (2, .int v2_9)]) hx hb dX0_loansHome_62 hl (k := 3) rfl rfl (by decide) rfl (fun ls hl => ?_)
          refine lv_goto (tgt := 6) hx hb dX0_loansHome_65 (by decide) ?_
          exact ih v1 v2_9 (v3 + 1) h _ _ _ hP hS (lv_sub hl [1, 2, 3, 0] rfl)
      · have h := ite_t c_2 h
        refine lv_iinc (v := v1 + 1) (lv' := [(1, .int (v1 + 1)), (0, .ref (ta Θ n0)), (2, .int v2), (3, .int v3)]) hx hb dX0_loansHome_22 hl (k := 1) rfl rfl (by decide) rfl (fun ls hl => ?_)
        refine lv_iload_n hx hb dX0_loansHome_25 rfl (lv_at hl 3 rfl) ?_
        refine lv_istore (lv' := [(4, .int v3), (1, .int (v1 + 1)), (0, .ref (ta Θ n0)), (2, .int v2), (3, .int v3)]) hx hb dX0_loansHome_26 hl (by decide) rfl (fun ls hl => ?_)
        refine lv_iconst (v := 0) hx hb dX0_loansHome_28 (by decide) ?_
        refine lv_istore (lv' := [(5, .int 0), (4, .int v3), (1, .int (v1 + 1)), (0, .ref (ta Θ n0)), (2, .int v2), (3, .int v3)]) hx hb dX0_loansHome_29 hl (by decide) rfl (fun ls hl => ?_)
        refine w_X0_loansHome_L31 X O hr hlk h0 (v1 + 1) v3 σ0 ?_ _ v2 v3 (0 : Int32) h _ _ _ hP hS (lv_sub hl [3, 2, 4, 5, 1, 0] rfl)
        · intro v2_10 h H locs ls hP hS hl
          refine lv_iinc (v := v3 + 1) (lv' := [(3, .int (v3 + 1)), (0, .ref (ta Θ n0)), (1, .int (v1 + 1)), (2, .int v2_10)]) hx hb dX0_loansHome_62 hl (k := 3) rfl rfl (by decide) rfl (fun ls hl => ?_)
          refine lv_goto (tgt := 6) hx hb dX0_loansHome_65 (by decide) ?_
          exact ih (v1 + 1) v2_10 (v3 + 1) h _ _ _ hP hS (lv_sub hl [1, 2, 3, 0] rfl)
theorem hd_X0_loansHome : yX0_loansHome.cls ≠ "java/lang/invoke/MethodHandle" ∧ yX0_loansHome.cls ≠ "java/lang/invoke/VarHandle" ∧ (parseMethodDescriptor yX0_loansHome.desc).map (fun d => d.parameters.length) = some 0 := by decide +kernel
set_option maxHeartbeats 4000000 in
set_option maxRecDepth 100000 in
theorem k_X0_loansHome {F : Nat} {Θ : TH} {l : Launch} (O : okT Θ (eX Θ) 68) {n0 : Nat} (h0 : isEx n0) (σ0 : Mem) {y : Int32} (h : X0_loansHome F n0 σ0 = some y) : Met l yX0_loansHome (Cond.code yX0_loansHome cX0_loansHome 6 (some .int) :: wAll) rm_X0_loansHome (va_Pc [.ref (ta Θ n0)] (tS Θ σ0)) (qI Θ y σ0) 0 0 (tA Θ) := by
  refine x_ent (by decide) (Nat.le_of_ble_eq_true rfl) (fun p e s m below meth c X hr hlk hP ls hl => ?_)
  have hS : va_S (tA Θ) s.heap s.heap [] := va_S.rf
  have hl : lv_has ls 6 [(0, .ref (ta Θ n0))] := hl
  have hx := X.1
  have hb := X.2.1
  unfold X0_loansHome at h
  refine lv_iconst (v := 0) hx hb dX0_loansHome_0 (by decide) ?_
  refine lv_istore_n (lv' := [(1, .int 0), (0, .ref (ta Θ n0))]) hx hb dX0_loansHome_1 rfl hl (by decide) rfl (fun ls hl => ?_)
  refine lv_iconst (v := 0) hx hb dX0_loansHome_2 (by decide) ?_
  refine lv_istore_n (lv' := [(2, .int 0), (1, .int 0), (0, .ref (ta Θ n0))]) hx hb dX0_loansHome_3 rfl hl (by decide) rfl (fun ls hl => ?_)
  refine lv_iconst (v := 0) hx hb dX0_loansHome_4 (by decide) ?_
  refine lv_istore_n (lv' := [(3, .int 0), (2, .int 0), (1, .int 0), (0, .ref (ta Θ n0))]) hx hb dX0_loansHome_5 rfl hl (by decide) rfl (fun ls hl => ?_)
  refine w_X0_loansHome_L6 X O hr hlk h0 σ0  _ (0 : Int32) (0 : Int32) (0 : Int32) h _ _ _ hP hS (lv_sub hl [3, 2, 1, 0] rfl)
abbrev rm_J6_bitCount_0f7a4 : Room := { frames := 0, cells := 0, slots := 0, locals := 0 }
theorem hd_J6_bitCount_0f7a4 : yJ6_bitCount_0f7a4.cls ≠ "java/lang/invoke/MethodHandle" ∧ yJ6_bitCount_0f7a4.cls ≠ "java/lang/invoke/VarHandle" ∧ (parseMethodDescriptor yJ6_bitCount_0f7a4.desc).map (fun d => d.parameters.length) = some 1 := by decide +kernel
set_option maxHeartbeats 4000000 in
set_option maxRecDepth 100000 in
theorem k_J6_bitCount_0f7a4 {Θ : TH} {l : Launch} (O : okT Θ (eX Θ) 68) (v0 : Int32) (σ0 : Mem) {y : Int32} (h : J6_bitCount_0f7a4 v0 = y) : Met l yJ6_bitCount_0f7a4 (Cond.code yJ6_bitCount_0f7a4 cJ6_bitCount_0f7a4 1 (some .int) :: wAll) rm_J6_bitCount_0f7a4 (va_Pc [.int v0] (tS Θ σ0)) (qI Θ y σ0) 0 0 (tA Θ) := by
  refine x_ent (by decide) (Nat.le_of_ble_eq_true rfl) (fun p e s m below meth c X hr hlk hP ls hl => ?_)
  have hS : va_S (tA Θ) s.heap s.heap [] := va_S.rf
  have hl : lv_has ls 1 [(0, .int v0)] := hl
  have hx := X.1
  have hb := X.2.1
  unfold J6_bitCount_0f7a4 at h
  refine lv_iload_n hx hb dJ6_bitCount_0f7a4_0 rfl (lv_at hl 0 rfl) ?_
  refine lv_iload_n hx hb dJ6_bitCount_0f7a4_1 rfl (lv_at hl 0 rfl) ?_
  refine lv_iconst (v := 1) hx hb dJ6_bitCount_0f7a4_2 (by decide) ?_
  refine lv_iushr (v := (v0.toUInt32 >>> ((1 : Int32).toUInt32 &&& Int32.toUInt32 31)).toInt32) hx hb dJ6_bitCount_0f7a4_3 rfl ?_
  refine lv_ldcw (v := 1431655765) hx hb X.2.2.2.1 (X.2.2.2.2.1 _ wK_J6_265) dJ6_bitCount_0f7a4_4 ?_
  refine lv_iand hx hb dJ6_bitCount_0f7a4_7 ?_
  refine lv_isub hx hb dJ6_bitCount_0f7a4_8 ?_
  obtain ⟨v0_1, e_2, h⟩ := bnd_s h
  refine lv_nam e_2 ?_
  refine lv_istore_n (lv' := [(0, .int v0_1)]) hx hb dJ6_bitCount_0f7a4_9 rfl hl (by decide) rfl (fun ls hl => ?_)
  refine lv_iload_n hx hb dJ6_bitCount_0f7a4_10 rfl (lv_at hl 0 rfl) ?_
  refine lv_ldcw (v := 858993459) hx hb X.2.2.2.1 (X.2.2.2.2.1 _ wK_J6_266) dJ6_bitCount_0f7a4_11 ?_
  refine lv_iand hx hb dJ6_bitCount_0f7a4_14 ?_
  refine lv_iload_n hx hb dJ6_bitCount_0f7a4_15 rfl (lv_at hl 0 rfl) ?_
  refine lv_iconst (v := 2) hx hb dJ6_bitCount_0f7a4_16 (by decide) ?_
  refine lv_iushr (v := (v0_1.toUInt32 >>> ((2 : Int32).toUInt32 &&& Int32.toUInt32 31)).toInt32) hx hb dJ6_bitCount_0f7a4_17 rfl ?_
  refine lv_ldcw (v := 858993459) hx hb X.2.2.2.1 (X.2.2.2.2.1 _ wK_J6_266) dJ6_bitCount_0f7a4_18 ?_
  refine lv_iand hx hb dJ6_bitCount_0f7a4_21 ?_
  refine lv_iadd hx hb dJ6_bitCount_0f7a4_22 ?_
  obtain ⟨v0_3, e_4, h⟩ := bnd_s h
  refine lv_nam e_4 ?_
  refine lv_istore_n (lv' := [(0, .int v0_3)]) hx hb dJ6_bitCount_0f7a4_23 rfl hl (by decide) rfl (fun ls hl => ?_)
  refine lv_iload_n hx hb dJ6_bitCount_0f7a4_24 rfl (lv_at hl 0 rfl) ?_
  refine lv_iload_n hx hb dJ6_bitCount_0f7a4_25 rfl (lv_at hl 0 rfl) ?_
  refine lv_iconst (v := 4) hx hb dJ6_bitCount_0f7a4_26 (by decide) ?_
  refine lv_iushr (v := (v0_3.toUInt32 >>> ((4 : Int32).toUInt32 &&& Int32.toUInt32 31)).toInt32) hx hb dJ6_bitCount_0f7a4_27 rfl ?_
  refine lv_iadd hx hb dJ6_bitCount_0f7a4_28 ?_
  refine lv_ldcw (v := 252645135) hx hb X.2.2.2.1 (X.2.2.2.2.1 _ wK_J6_267) dJ6_bitCount_0f7a4_29 ?_
  refine lv_iand hx hb dJ6_bitCount_0f7a4_32 ?_
  obtain ⟨v0_5, e_6, h⟩ := bnd_s h
  refine lv_nam e_6 ?_
  refine lv_istore_n (lv' := [(0, .int v0_5)]) hx hb dJ6_bitCount_0f7a4_33 rfl hl (by decide) rfl (fun ls hl => ?_)
  refine lv_iload_n hx hb dJ6_bitCount_0f7a4_34 rfl (lv_at hl 0 rfl) ?_
  refine lv_iload_n hx hb dJ6_bitCount_0f7a4_35 rfl (lv_at hl 0 rfl) ?_
  refine lv_bipush (v := 8) hx hb dJ6_bitCount_0f7a4_36 (by decide) ?_
  refine lv_iushr (v := (v0_5.toUInt32 >>> ((8 : Int32).toUInt32 &&& Int32.toUInt32 31)).toInt32) hx hb dJ6_bitCount_0f7a4_38 rfl ?_
  refine lv_iadd hx hb dJ6_bitCount_0f7a4_39 ?_
  obtain ⟨v0_7, e_8, h⟩ := bnd_s h
  refine lv_nam e_8 ?_
  refine lv_istore_n (lv' := [(0, .int v0_7)]) hx hb dJ6_bitCount_0f7a4_40 rfl hl (by decide) rfl (fun ls hl => ?_)
  refine lv_iload_n hx hb dJ6_bitCount_0f7a4_41 rfl (lv_at hl 0 rfl) ?_
  refine lv_iload_n hx hb dJ6_bitCount_0f7a4_42 rfl (lv_at hl 0 rfl) ?_
  refine lv_bipush (v := 16) hx hb dJ6_bitCount_0f7a4_43 (by decide) ?_
  refine lv_iushr (v := (v0_7.toUInt32 >>> ((16 : Int32).toUInt32 &&& Int32.toUInt32 31)).toInt32) hx hb dJ6_bitCount_0f7a4_45 rfl ?_
  refine lv_iadd hx hb dJ6_bitCount_0f7a4_46 ?_
  obtain ⟨v0_9, e_10, h⟩ := bnd_s h
  refine lv_nam e_10 ?_
  refine lv_istore_n (lv' := [(0, .int v0_9)]) hx hb dJ6_bitCount_0f7a4_47 rfl hl (by decide) rfl (fun ls hl => ?_)
  refine lv_iload_n hx hb dJ6_bitCount_0f7a4_48 rfl (lv_at hl 0 rfl) ?_
  refine lv_bipush (v := 63) hx hb dJ6_bitCount_0f7a4_49 (by decide) ?_
  refine lv_iand hx hb dJ6_bitCount_0f7a4_51 ?_
  subst h
  exact x_reti X hP hS hr hlk rfl rfl dJ6_bitCount_0f7a4_52
def rm_X1_mends (d : Nat) : Room := { frames := 3 + d, cells := 0, slots := 0, locals := 63 + 27 * d }
theorem hd_X1_mends : yX1_mends.cls ≠ "java/lang/invoke/MethodHandle" ∧ yX1_mends.cls ≠ "java/lang/invoke/VarHandle" ∧ (parseMethodDescriptor yX1_mends.desc).map (fun d => d.parameters.length) = some 4 := by decide +kernel
set_option maxHeartbeats 4000000 in
set_option maxRecDepth 100000 in
theorem w_X1_mends_L66 {F : Nat} {Θ : TH} {p : Program} {l : Launch} {e : Env} {s : State} {m : MethodId} {args : Array Value} {below : List Frame} {meth : Method} {c : Code} (X : CX Θ p s m args c RX1 cX1_mends 8) (O : okT Θ (eX Θ) 68) (hr : meth.sig.returnType = some .boolean) (hlk : meth.locks = false) {n4 : Nat} (h4 : isEx n4) {n5 : Nat} (h5 : isEx n5) (v1 : Int32) (v2 : Int32) (v3 : Int32) (v6 : Int32) {y : Int32 × Mem} {dd : Nat} (rec : Int32 → Int32 → Int32 → Mem → Option (Int32 × Mem)) (hrec : ∀ (v1 : Int32) (v2 : Int32) (v3 : Int32) (σ0 : Mem) {y : Int32 × Mem}, rec v1 v2 v3 σ0 = some y → Met l yX1_mends (Cond.code yX1_mends cX1_mends 8 (some .boolean) :: wAll) (rm_X1_mends dd) (va_Pc [.ref (ta Θ 7), .int v1, .int v2, .int v3] (tS Θ σ0)) (qI Θ y.1 y.2) 0 0 (tA Θ)) {k138 : Mem → Option (Int32 × Mem)} (hk138 : ∀ (σ0 : Mem), k138 σ0 = some y → ∀ (H : Heap) (locs : List Loc) (ls : Array Slot), va_P (tD Θ) vwCl (tw Θ σ0) H → va_S (tA Θ) s.heap H locs → lv_has ls 8 [(0, .ref (ta Θ 7)), (1, .int v1), (2, .int v2), (3, .int v3), (4, .ref (ta Θ n4)), (5, .ref (ta Θ n5)), (6, .int v6)] → W p l e (rm_X1_mends (dd + 1)) s m args below meth c H locs 0 0 (MQ below (qI Θ y.1 y.2) args s 0 0 (tA Θ)) (F0 m 138 ls [])) :
    ∀ (f : Nat) (v7 : Int32) (σ0 : Mem), X1_mends_L66 F rec v1 v2 v3 n4 n5 v6 k138 f v7 σ0 = some y → ∀ (H : Heap) (locs : List Loc) (ls : Array Slot), va_P (tD Θ) vwCl (tw Θ σ0) H → va_S (tA Θ) s.heap H locs → lv_has ls 8 [(0, .ref (ta Θ 7)), (1, .int v1), (2, .int v2), (3, .int v3), (4, .ref (ta Θ n4)), (5, .ref (ta Θ n5)), (6, .int v6), (7, .int v7)] → W p l e (rm_X1_mends (dd + 1)) s m args below meth c H locs 0 0 (MQ below (qI Θ y.1 y.2) args s 0 0 (tA Θ)) (F0 m 66 ls []) := by
  have hx := X.1
  have hb := X.2.1
  intro f
  induction f with
  | zero => intro v7 σ0 h; cases h
  | succ f ih =>
    intro v7 σ0 h H locs ls hP hS hl
    rw [X1_mends_L66] at h
    refine lv_iload hx hb dX1_mends_66 (lv_at hl 7 rfl) ?_
    refine lv_aload hx hb dX1_mends_68 (lv_at hl 4 rfl) ?_
    refine g_X1_40 X O hP h4 dX1_mends_70 ?_
    refine lv_icmp_ge (tgt := 138) hx hb dX1_mends_73 (by decide) (fun c_10 => ?_) (fun c_10 => ?_)
    · have h := ite_t c_10 h
      exact hk138 σ0 h _ _ _ hP hS (lv_sub hl [0, 1, 2, 3, 4, 5, 6] rfl)
    · have h := ite_f c_10 h
      refine lv_aload hx hb dX1_mends_76 (lv_at hl 4 rfl) ?_
      refine lv_iload hx hb dX1_mends_78 (lv_at hl 6 rfl) ?_
      refine lv_iload hx hb dX1_mends_80 (lv_at hl 7 rfl) ?_
      obtain ⟨z_11, e_12, h⟩ := ob_s h
      refine x_calli (x_runV X O hP hS hl.1 (As := [.int v6, .int v7]) (rest := []) (k_X0_canLend O h4 v6 v7 σ0 e_12) (lt_X0 h4) (e_X0 h4 _) rfl wM_X1_44 wI_yX0_canLend wS_yX0_canLend wN_X0 wC_yX0_canLend hd_X0_canLend rfl ⟨rfl, rfl⟩ ⟨(by first | exact Nat.le_of_ble_eq_true rfl | (simp only [rm_X1_mends]; omega) | omega), (by first | exact Nat.le_of_ble_eq_true rfl | (simp only [rm_X1_mends]; omega) | omega)⟩ ⟨Nat.zero_le _, Nat.zero_le _⟩ rfl (Nat.le_of_ble_eq_true rfl) dX1_mends_82) hS (fun H locs hP hS => ?_)
      refine lv_if_eq (tgt := 132) hx hb dX1_mends_85 (by decide) (fun c_13 => ?_) (fun c_13 => ?_)
      · have h := ite_t c_13 h
        refine lv_iinc (v := v7 + 1) (lv' := [(7, .int (v7 + 1)), (0, .ref (ta Θ 7)), (1, .int v1), (2, .int v2), (3, .int v3), (4, .ref (ta Θ n4)), (5, .ref (ta Θ n5)), (6, .int v6)]) hx hb dX1_mends_132 hl (k := 7) rfl rfl (by decide) rfl (fun ls hl => ?_)
        refine lv_goto (tgt := 66) hx hb dX1_mends_135 (by decide) ?_
        exact ih (v7 + 1) σ0 h _ _ _ hP hS (lv_sub hl [1, 2, 3, 4, 5, 6, 7, 0] rfl)
      · have h := ite_f c_13 h
        refine lv_aload hx hb dX1_mends_88 (lv_at hl 5 rfl) ?_
        refine lv_aload hx hb dX1_mends_90 (lv_at hl 4 rfl) ?_
        obtain ⟨σ_14, e_15, h⟩ := ob_s h
        refine x_callv (x_runV X O hP hS hl.1 (As := [.ref (ta Θ n4)]) (rest := []) (k_X0_becomeLike O h5 h4 σ0 e_15) (lt_X0 h5) (e_X0 h5 _) rfl wM_X1_48 wI_yX0_becomeLike wS_yX0_becomeLike wN_X0 wC_yX0_becomeLike hd_X0_becomeLike rfl ⟨rfl, rfl⟩ ⟨(by first | exact Nat.le_of_ble_eq_true rfl | (simp only [rm_X1_mends]; omega) | omega), (by first | exact Nat.le_of_ble_eq_true rfl | (simp only [rm_X1_mends]; omega) | omega)⟩ ⟨Nat.zero_le _, Nat.zero_le _⟩ rfl (Nat.le_of_ble_eq_true rfl) dX1_mends_92) hS (fun H locs hP hS => ?_)
        refine lv_aload hx hb dX1_mends_95 (lv_at hl 5 rfl) ?_
        refine lv_iload hx hb dX1_mends_97 (lv_at hl 6 rfl) ?_
        refine lv_iload hx hb dX1_mends_99 (lv_at hl 7 rfl) ?_
        obtain ⟨σ_16, e_17, h⟩ := ob_s h
        refine x_callv (x_runV X O hP hS hl.1 (As := [.int v6, .int v7]) (rest := []) (k_X0_lend O h5 v6 v7 σ_14 e_17) (lt_X0 h5) (e_X0 h5 _) rfl wM_X1_52 wI_yX0_lend wS_yX0_lend wN_X0 wC_yX0_lend hd_X0_lend rfl ⟨rfl, rfl⟩ ⟨(by first | exact Nat.le_of_ble_eq_true rfl | (simp only [rm_X1_mends]; omega) | omega), (by first | exact Nat.le_of_ble_eq_true rfl | (simp only [rm_X1_mends]; omega) | omega)⟩ ⟨Nat.zero_le _, Nat.zero_le _⟩ rfl (Nat.le_of_ble_eq_true rfl) dX1_mends_101) hS (fun H locs hP hS => ?_)
        refine lv_aload_n hx hb dX1_mends_104 rfl (lv_at hl 0 rfl) ?_
        refine g_X1_17 X O hP dX1_mends_105 ?_
        refine lv_iload_n hx hb dX1_mends_108 rfl (lv_at hl 1 rfl) ?_
        refine lv_bipush (v := 10) hx hb dX1_mends_109 (by decide) ?_
        refine lv_iload hx hb dX1_mends_111 (lv_at hl 6 rfl) ?_
        refine lv_imul hx hb dX1_mends_113 ?_
        refine lv_iload hx hb dX1_mends_114 (lv_at hl 7 rfl) ?_
        refine lv_iadd hx hb dX1_mends_116 ?_
        obtain ⟨g_18, h⟩ := grd_s h
        obtain ⟨σ_19, e_20, h⟩ := bnd_s h
        refine x_iast X O hP hS iI_9 g_18 dX1_mends_117 e_20 (fun H locs hP hS => ?_)
        refine lv_aload_n hx hb dX1_mends_118 rfl (lv_at hl 0 rfl) ?_
        refine lv_iload_n hx hb dX1_mends_119 rfl (lv_at hl 1 rfl) ?_
        refine lv_iconst (v := 1) hx hb dX1_mends_120 (by decide) ?_
        refine lv_iadd hx hb dX1_mends_121 ?_
        refine lv_iload_n hx hb dX1_mends_122 rfl (lv_at hl 2 rfl) ?_
        refine lv_iload_n hx hb dX1_mends_123 rfl (lv_at hl 3 rfl) ?_
        obtain ⟨z_21, e_22, h⟩ := ob_s h
        refine x_calli (x_runS X hP hS hl.1 (As := [.ref (ta Θ 7), .int (v1 + 1), .int v2, .int v3]) (rest := []) (hrec (v1 + 1) v2 v3 σ_19 e_22) wM_X1_26 wT_yX1_mends wN_X1 wC_yX1_mends hd_X1_mends rfl ⟨rfl, rfl⟩ ⟨(by first | exact Nat.le_of_ble_eq_true rfl | (simp only [rm_X1_mends]; omega) | omega), (by first | exact Nat.le_of_ble_eq_true rfl | (simp only [rm_X1_mends]; omega) | omega)⟩ ⟨Nat.zero_le _, Nat.zero_le _⟩ rfl (Nat.le_of_ble_eq_true rfl) dX1_mends_124) hS (fun H locs hP hS => ?_)
        refine lv_if_eq (tgt := 132) hx hb dX1_mends_127 (by decide) (fun c_23 => ?_) (fun c_23 => ?_)
        · have h := ite_t c_23 h
          refine lv_iinc (v := v7 + 1) (lv' := [(7, .int (v7 + 1)), (0, .ref (ta Θ 7)), (1, .int v1), (2, .int v2), (3, .int v3), (4, .ref (ta Θ n4)), (5, .ref (ta Θ n5)), (6, .int v6)]) hx hb dX1_mends_132 hl (k := 7) rfl rfl (by decide) rfl (fun ls hl => ?_)
          refine lv_goto (tgt := 66) hx hb dX1_mends_135 (by decide) ?_
          exact ih (v7 + 1) z_21.2 h _ _ _ hP hS (lv_sub hl [1, 2, 3, 4, 5, 6, 7, 0] rfl)
        · have h := ite_f c_23 h
          refine lv_iconst (v := 1) hx hb dX1_mends_130 (by decide) ?_
          have h := some_i h
          subst h
          exact x_retz X hP hS hr hlk (Or.inr rfl) rfl rfl dX1_mends_131
set_option maxHeartbeats 4000000 in
set_option maxRecDepth 100000 in
theorem w_X1_mends_L50 {F : Nat} {Θ : TH} {p : Program} {l : Launch} {e : Env} {s : State} {m : MethodId} {args : Array Value} {below : List Frame} {meth : Method} {c : Code} (X : CX Θ p s m args c RX1 cX1_mends 8) (O : okT Θ (eX Θ) 68) (hr : meth.sig.returnType = some .boolean) (hlk : meth.locks = false) {n4 : Nat} (h4 : isEx n4) {n5 : Nat} (h5 : isEx n5) (v1 : Int32) (v2 : Int32) (v3 : Int32) {y : Int32 × Mem} {dd : Nat} (rec : Int32 → Int32 → Int32 → Mem → Option (Int32 × Mem)) (hrec : ∀ (v1 : Int32) (v2 : Int32) (v3 : Int32) (σ0 : Mem) {y : Int32 × Mem}, rec v1 v2 v3 σ0 = some y → Met l yX1_mends (Cond.code yX1_mends cX1_mends 8 (some .boolean) :: wAll) (rm_X1_mends dd) (va_Pc [.ref (ta Θ 7), .int v1, .int v2, .int v3] (tS Θ σ0)) (qI Θ y.1 y.2) 0 0 (tA Θ)) :
    ∀ (f : Nat) (v6 : Int32) (σ0 : Mem), X1_mends_L50 F rec v1 v2 v3 n4 n5 f v6 σ0 = some y → ∀ (H : Heap) (locs : List Loc) (ls : Array Slot), va_P (tD Θ) vwCl (tw Θ σ0) H → va_S (tA Θ) s.heap H locs → lv_has ls 8 [(0, .ref (ta Θ 7)), (1, .int v1), (2, .int v2), (3, .int v3), (4, .ref (ta Θ n4)), (5, .ref (ta Θ n5)), (6, .int v6)] → W p l e (rm_X1_mends (dd + 1)) s m args below meth c H locs 0 0 (MQ below (qI Θ y.1 y.2) args s 0 0 (tA Θ)) (F0 m 50 ls []) := by
  have hx := X.1
  have hb := X.2.1
  intro f
  induction f with
  | zero => intro v6 σ0 h; cases h
  | succ f ih =>
    intro v6 σ0 h H locs ls hP hS hl
    rw [X1_mends_L50] at h
    refine lv_iload hx hb dX1_mends_50 (lv_at hl 6 rfl) ?_
    refine lv_aload hx hb dX1_mends_52 (lv_at hl 4 rfl) ?_
    refine g_X1_40 X O hP h4 dX1_mends_54 ?_
    refine lv_icmp_ge (tgt := 144) hx hb dX1_mends_57 (by decide) (fun c_7 => ?_) (fun c_7 => ?_)
    · have h := ite_t c_7 h
      refine lv_iconst (v := 0) hx hb dX1_mends_144 (by decide) ?_
      have h := some_i h
      subst h
      exact x_retz X hP hS hr hlk (Or.inl rfl) rfl rfl dX1_mends_145
    · have h := ite_f c_7 h
      refine lv_iload hx hb dX1_mends_60 (lv_at hl 6 rfl) ?_
      refine lv_iconst (v := 1) hx hb dX1_mends_62 (by decide) ?_
      refine lv_iadd hx hb dX1_mends_63 ?_
      obtain ⟨v7_8, e_9, h⟩ := bnd_s h
      refine lv_nam e_9 ?_
      refine lv_istore (lv' := [(7, .int v7_8), (0, .ref (ta Θ 7)), (1, .int v1), (2, .int v2), (3, .int v3), (4, .ref (ta Θ n4)), (5, .ref (ta Θ n5)), (6, .int v6)]) hx hb dX1_mends_64 hl (by decide) rfl (fun ls hl => ?_)
      refine w_X1_mends_L66 X O hr hlk h4 h5 v1 v2 v3 v6 rec hrec ?_ _ v7_8 σ0 h _ _ _ hP hS (lv_sub hl [1, 2, 3, 4, 5, 6, 7, 0] rfl)
      · intro σ_24 h H locs ls hP hS hl
        refine lv_iinc (v := v6 + 1) (lv' := [(6, .int (v6 + 1)), (0, .ref (ta Θ 7)), (1, .int v1), (2, .int v2), (3, .int v3), (4, .ref (ta Θ n4)), (5, .ref (ta Θ n5))]) hx hb dX1_mends_138 hl (k := 6) rfl rfl (by decide) rfl (fun ls hl => ?_)
        refine lv_goto (tgt := 50) hx hb dX1_mends_141 (by decide) ?_
        exact ih (v6 + 1) σ_24 h _ _ _ hP hS (lv_sub hl [1, 2, 3, 4, 5, 6, 0] rfl)
set_option maxHeartbeats 4000000 in
set_option maxRecDepth 100000 in
theorem k_X1_mends {F : Nat} {Θ : TH} {l : Launch} (O : okT Θ (eX Θ) 68) : ∀ (f : Nat) (v1 : Int32) (v2 : Int32) (v3 : Int32) (σ0 : Mem) {y : Int32 × Mem}, X1_mends F f v1 v2 v3 σ0 = some y → Met l yX1_mends (Cond.code yX1_mends cX1_mends 8 (some .boolean) :: wAll) (rm_X1_mends f) (va_Pc [.ref (ta Θ 7), .int v1, .int v2, .int v3] (tS Θ σ0)) (qI Θ y.1 y.2) 0 0 (tA Θ) := by
  intro f
  induction f with
  | zero => intro v1 v2 v3 σ0 y h; cases h
  | succ f ih =>
    intro v1 v2 v3 σ0 y h
    refine x_ent (by decide) (Nat.le_of_ble_eq_true rfl) (fun p e s m below meth c X hr hlk hP ls hl => ?_)
    have hS : va_S (tA Θ) s.heap s.heap [] := va_S.rf
    have hl : lv_has ls 8 [(0, .ref (ta Θ 7)), (1, .int v1), (2, .int v2), (3, .int v3)] := hl
    have hx := X.1
    have hb := X.2.1
    rw [X1_mends] at h
    refine lv_aload_n hx hb dX1_mends_0 rfl (lv_at hl 0 rfl) ?_
    refine g_X1_11 X O hP dX1_mends_1 ?_
    refine lv_iload_n hx hb dX1_mends_4 rfl (lv_at hl 1 rfl) ?_
    obtain ⟨g_1, h⟩ := grd_s h
    refine x_aald X O hP (k := 8) (n := 4) (t0 := 4) (C := "LentYouths$Exchange") (g := fun j => 36 + 8 * j) (by decide) rfl rfl g_1 dX1_mends_5 ?_
    refine lv_astore (lv' := [(4, .ref (ta Θ (36 + 8 * v1.toNatClampNeg))), (0, .ref (ta Θ 7)), (1, .int v1), (2, .int v2), (3, .int v3)]) hx hb dX1_mends_6 hl (by decide) rfl (fun ls hl => ?_)
    refine lv_iload_n hx hb dX1_mends_8 rfl (lv_at hl 4 rfl) ?_
    refine lv_aload hx hb dX1_mends_9 (lv_at hl 0 rfl) ?_
    obtain ⟨z_2, e_3, h⟩ := ob_s h
    refine x_calli (x_runV X O hP hS hl.1 (As := []) (rest := [.int v3]) (k_X0_mended O (isEx_at g_1) σ0 e_3) (lt_X0 (isEx_at g_1)) (e_X0 (isEx_at g_1) _) rfl wM_X1_30 wI_yX0_mended wS_yX0_mended wN_X0 wC_yX0_mended hd_X0_mended rfl ⟨rfl, rfl⟩ ⟨(by first | exact Nat.le_of_ble_eq_true rfl | (simp only [rm_X1_mends]; omega) | omega), (by first | exact Nat.le_of_ble_eq_true rfl | (simp only [rm_X1_mends]; omega) | omega)⟩ ⟨Nat.zero_le _, Nat.zero_le _⟩ rfl (Nat.le_of_ble_eq_true rfl) dX1_mends_11) hS (fun H locs hP hS => ?_)
    refine lv_iconst (v := (-1)) hx hb dX1_mends_14 (by decide) ?_
    refine lv_ixor hx hb dX1_mends_15 ?_
    refine lv_iand hx hb dX1_mends_16 ?_
    refine x_calli (x_runS X hP hS hl.1 (As := [.int (v3 &&& (z_2 ^^^ ((-1))))]) (rest := []) (k_J6_bitCount_0f7a4 O (v3 &&& (z_2 ^^^ ((-1)))) σ0 rfl) wM_X1_34 wT_yJ6_bitCount_0f7a4 wN_J6 wC_yJ6_bitCount_0f7a4 hd_J6_bitCount_0f7a4 rfl ⟨rfl, rfl⟩ ⟨(by first | exact Nat.le_of_ble_eq_true rfl | (simp only [rm_X1_mends]; omega) | omega), (by first | exact Nat.le_of_ble_eq_true rfl | (simp only [rm_X1_mends]; omega) | omega)⟩ ⟨Nat.zero_le _, Nat.zero_le _⟩ rfl (Nat.le_of_ble_eq_true rfl) dX1_mends_17) hS (fun H locs hP hS => ?_)
    refine lv_iconst (v := 2) hx hb dX1_mends_20 (by decide) ?_
    refine lv_iload_n hx hb dX1_mends_21 rfl (lv_at hl 3 rfl) ?_
    refine lv_iload_n hx hb dX1_mends_22 rfl (lv_at hl 2 rfl) ?_
    refine lv_isub hx hb dX1_mends_23 ?_
    refine lv_imul hx hb dX1_mends_24 ?_
    refine lv_icmp_le (tgt := 30) hx hb dX1_mends_25 (by decide) (fun c_4 => ?_) (fun c_4 => ?_)
    · have h := ite_t c_4 h
      refine lv_iload_n hx hb dX1_mends_30 rfl (lv_at hl 2 rfl) ?_
      refine lv_iload_n hx hb dX1_mends_31 rfl (lv_at hl 3 rfl) ?_
      refine lv_icmp_lt (tgt := 37) hx hb dX1_mends_32 (by decide) (fun c_5 => ?_) (fun c_5 => ?_)
      · have h := ite_t c_5 h
        refine lv_aload_n hx hb dX1_mends_37 rfl (lv_at hl 1 rfl) ?_
        refine g_X1_11 X O hP dX1_mends_38 ?_
        refine lv_iload_n hx hb dX1_mends_41 rfl (lv_at hl 2 rfl) ?_
        refine lv_iconst (v := 1) hx hb dX1_mends_42 (by decide) ?_
        refine lv_iadd hx hb dX1_mends_43 ?_
        obtain ⟨g_6, h⟩ := grd_s h
        refine x_aald X O hP (k := 8) (n := 4) (t0 := 4) (C := "LentYouths$Exchange") (g := fun j => 36 + 8 * j) (by decide) rfl rfl g_6 dX1_mends_44 ?_
        refine lv_astore (lv' := [(5, .ref (ta Θ (36 + 8 * (v1 + 1).toNatClampNeg))), (4, .ref (ta Θ (36 + 8 * v1.toNatClampNeg))), (0, .ref (ta Θ 7)), (1, .int v1), (2, .int v2), (3, .int v3)]) hx hb dX1_mends_45 hl (by decide) rfl (fun ls hl => ?_)
        refine lv_iconst (v := 0) hx hb dX1_mends_47 (by decide) ?_
        refine lv_istore (lv' := [(6, .int 0), (5, .ref (ta Θ (36 + 8 * (v1 + 1).toNatClampNeg))), (4, .ref (ta Θ (36 + 8 * v1.toNatClampNeg))), (0, .ref (ta Θ 7)), (1, .int v1), (2, .int v2), (3, .int v3)]) hx hb dX1_mends_48 hl (by decide) rfl (fun ls hl => ?_)
        refine w_X1_mends_L50 X O hr hlk (isEx_at g_1) (isEx_at g_6) v1 v2 v3 (fun v1 v2 v3 σ0 => X1_mends F f v1 v2 v3 σ0) (fun v1 v2 v3 σ0 _ h => ih v1 v2 v3 σ0 h)  _ (0 : Int32) σ0 h _ _ _ hP hS (lv_sub hl [3, 4, 5, 6, 2, 1, 0] rfl)
      · have h := ite_f c_5 h
        refine lv_iconst (v := 1) hx hb dX1_mends_35 (by decide) ?_
        have h := some_i h
        subst h
        exact x_retz X hP hS hr hlk (Or.inr rfl) rfl rfl dX1_mends_36
    · have h := ite_f c_4 h
      refine lv_iconst (v := 0) hx hb dX1_mends_28 (by decide) ?_
      have h := some_i h
      subst h
      exact x_retz X hP hS hr hlk (Or.inl rfl) rfl rfl dX1_mends_29
abbrev rm_X1_find : Room := { frames := 8, cells := 0, slots := 0, locals := 198 }
set_option maxHeartbeats 4000000 in
set_option maxRecDepth 100000 in
theorem w_X1_find_L14 {F : Nat} {Θ : TH} {p : Program} {l : Launch} {e : Env} {s : State} {m : MethodId} {args : Array Value} {below : List Frame} {meth : Method} {c : Code} (X : CX Θ p s m args c RX1 cX1_find 5) (O : okT Θ (eX Θ) 68) (hr : meth.sig.returnType = some .int) (hlk : meth.locks = false) (v3 : Int32) {y : Int32 × Mem} :
    ∀ (f : Nat) (v4 : Int32) (σ0 : Mem), X1_find_L14 F v3 f v4 σ0 = some y → ∀ (H : Heap) (locs : List Loc) (ls : Array Slot), va_P (tD Θ) vwCl (tw Θ σ0) H → va_S (tA Θ) s.heap H locs → lv_has ls 5 [(0, .ref (ta Θ 7)), (3, .int v3), (4, .int v4)] → W p l e rm_X1_find s m args below meth c H locs 0 0 (MQ below (qI Θ y.1 y.2) args s 0 0 (tA Θ)) (F0 m 14 ls []) := by
  have hx := X.1
  have hb := X.2.1
  intro f
  induction f with
  | zero => intro v4 σ0 h; cases h
  | succ f ih =>
    intro v4 σ0 h H locs ls hP hS hl
    rw [X1_find_L14] at h
    refine lv_iload hx hb dX1_find_14 (lv_at hl 2 rfl) ?_
    refine lv_iconst (v := 3) hx hb dX1_find_16 (by decide) ?_
    refine lv_icmp_gt (tgt := 40) hx hb dX1_find_17 (by decide) (fun c_4 => ?_) (fun c_4 => ?_)
    · have h := ite_t c_4 h
      refine lv_bipush (v := (-9)) hx hb dX1_find_40 (by decide) ?_
      have h := some_i h
      subst h
      exact x_reti X hP hS hr hlk rfl rfl dX1_find_42
    · have h := ite_f c_4 h
      refine lv_aload_n hx hb dX1_find_20 rfl (lv_at hl 0 rfl) ?_
      refine lv_iconst (v := 0) hx hb dX1_find_21 (by decide) ?_
      refine lv_iload hx hb dX1_find_22 (lv_at hl 2 rfl) ?_
      refine lv_iload_n hx hb dX1_find_24 rfl (lv_at hl 1 rfl) ?_
      obtain ⟨z_5, e_6, h⟩ := ob_s h
      refine x_calli (x_runS X hP hS hl.1 (As := [.ref (ta Θ 7), .int 0, .int v4, .int v3]) (rest := []) (k_X1_mends O 4 (0 : Int32) v4 v3 σ0 e_6) wM_X1_26 wT_yX1_mends wN_X1 wC_yX1_mends hd_X1_mends rfl ⟨rfl, rfl⟩ ⟨(Nat.le_of_ble_eq_true rfl), (Nat.le_of_ble_eq_true rfl)⟩ ⟨Nat.zero_le _, Nat.zero_le _⟩ rfl (Nat.le_of_ble_eq_true rfl) dX1_find_25) hS (fun H locs hP hS => ?_)
      refine lv_if_eq (tgt := 34) hx hb dX1_find_28 (by decide) (fun c_7 => ?_) (fun c_7 => ?_)
      · have h := ite_t c_7 h
        refine lv_iinc (v := v4 + 1) (lv' := [(4, .int (v4 + 1)), (0, .ref (ta Θ 7)), (3, .int v3)]) hx hb dX1_find_34 hl (k := 2) rfl rfl (by decide) rfl (fun ls hl => ?_)
        refine lv_goto (tgt := 14) hx hb dX1_find_37 (by decide) ?_
        exact ih (v4 + 1) z_5.2 h _ _ _ hP hS (lv_sub hl [1, 2, 0] rfl)
      · have h := ite_f c_7 h
        refine lv_iload hx hb dX1_find_31 (lv_at hl 2 rfl) ?_
        have h := some_i h
        subst h
        exact x_reti X hP hS hr hlk rfl rfl dX1_find_33
theorem hd_X1_find : yX1_find.cls ≠ "java/lang/invoke/MethodHandle" ∧ yX1_find.cls ≠ "java/lang/invoke/VarHandle" ∧ (parseMethodDescriptor yX1_find.desc).map (fun d => d.parameters.length) = some 3 := by decide +kernel
set_option maxHeartbeats 4000000 in
set_option maxRecDepth 100000 in
theorem k_X1_find {F : Nat} {Θ : TH} {l : Launch} (O : okT Θ (eX Θ) 68) (v2 : Int32) (v3 : Int32) (σ0 : Mem) {y : Int32 × Mem} (h : X1_find F v2 v3 σ0 = some y) : Met l yX1_find (Cond.code yX1_find cX1_find 5 (some .int) :: wAll) rm_X1_find (va_Pc [.ref (ta Θ 7), .ref (ta Θ 2), .int v2, .int v3] (tS Θ σ0)) (qI Θ y.1 y.2) 0 0 (tA Θ) := by
  refine x_ent (by decide) (Nat.le_of_ble_eq_true rfl) (fun p e s m below meth c X hr hlk hP ls hl => ?_)
  have hS : va_S (tA Θ) s.heap s.heap [] := va_S.rf
  have hl : lv_has ls 5 [(0, .ref (ta Θ 7)), (1, .ref (ta Θ 2)), (2, .int v2), (3, .int v3)] := hl
  have hx := X.1
  have hb := X.2.1
  unfold X1_find at h
  refine lv_aload_n hx hb dX1_find_0 rfl (lv_at hl 0 rfl) ?_
  refine g_X1_11 X O hP dX1_find_1 ?_
  refine lv_iconst (v := 0) hx hb dX1_find_4 (by decide) ?_
  obtain ⟨g_1, h⟩ := grd_s h
  refine x_aald X O hP (k := 8) (n := 4) (t0 := 4) (C := "LentYouths$Exchange") (g := fun j => 36 + 8 * j) (by decide) rfl rfl g_1 dX1_find_5 ?_
  refine lv_aload_n hx hb dX1_find_6 rfl (lv_at hl 1 rfl) ?_
  refine lv_iload_n hx hb dX1_find_7 rfl (lv_at hl 2 rfl) ?_
  obtain ⟨σ_2, e_3, h⟩ := ob_s h
  refine x_callv (x_runV X O hP hS hl.1 (As := [.ref (ta Θ 2), .int v2]) (rest := []) (k_X0_begin O (isEx_at g_1) v2 σ0 e_3) (lt_X0 (isEx_at g_1)) (e_X0 (isEx_at g_1) _) rfl wM_X1_22 wI_yX0_begin wS_yX0_begin wN_X0 wC_yX0_begin hd_X0_begin rfl ⟨rfl, rfl⟩ ⟨(Nat.le_of_ble_eq_true rfl), (Nat.le_of_ble_eq_true rfl)⟩ ⟨Nat.zero_le _, Nat.zero_le _⟩ rfl (Nat.le_of_ble_eq_true rfl) dX1_find_8) hS (fun H locs hP hS => ?_)
  refine lv_iconst (v := 0) hx hb dX1_find_11 (by decide) ?_
  refine lv_istore (lv' := [(4, .int 0), (0, .ref (ta Θ 7)), (1, .ref (ta Θ 2)), (2, .int v2), (3, .int v3)]) hx hb dX1_find_12 hl (by decide) rfl (fun ls hl => ?_)
  refine w_X1_find_L14 X O hr hlk v3  _ (0 : Int32) σ_2 h _ _ _ hP hS (lv_sub hl [1, 4, 0] rfl)
abbrev rm_X1_loanAt : Room := { frames := 0, cells := 0, slots := 0, locals := 0 }
theorem hd_X1_loanAt : yX1_loanAt.cls ≠ "java/lang/invoke/MethodHandle" ∧ yX1_loanAt.cls ≠ "java/lang/invoke/VarHandle" ∧ (parseMethodDescriptor yX1_loanAt.desc).map (fun d => d.parameters.length) = some 1 := by decide +kernel
set_option maxHeartbeats 4000000 in
set_option maxRecDepth 100000 in
theorem k_X1_loanAt {Θ : TH} {l : Launch} (O : okT Θ (eX Θ) 68) (v1 : Int32) (σ0 : Mem) {y : Int32} (h : X1_loanAt v1 σ0 = some y) : Met l yX1_loanAt (Cond.code yX1_loanAt cX1_loanAt 2 (some .int) :: wAll) rm_X1_loanAt (va_Pc [.ref (ta Θ 7), .int v1] (tS Θ σ0)) (qI Θ y σ0) 0 0 (tA Θ) := by
  refine x_ent (by decide) (Nat.le_of_ble_eq_true rfl) (fun p e s m below meth c X hr hlk hP ls hl => ?_)
  have hS : va_S (tA Θ) s.heap s.heap [] := va_S.rf
  have hl : lv_has ls 2 [(0, .ref (ta Θ 7)), (1, .int v1)] := hl
  have hx := X.1
  have hb := X.2.1
  unfold X1_loanAt at h
  refine lv_aload_n hx hb dX1_loanAt_0 rfl (lv_at hl 0 rfl) ?_
  refine g_X1_17 X O hP dX1_loanAt_1 ?_
  refine lv_iload_n hx hb dX1_loanAt_4 rfl (lv_at hl 1 rfl) ?_
  obtain ⟨g_1, h⟩ := grd_s h
  refine x_iald X O hP iI_9 g_1 dX1_loanAt_5 ?_
  have h := some_i h
  subst h
  exact x_reti X hP hS hr hlk rfl rfl dX1_loanAt_6
abbrev rm_X2_mostMended : Room := { frames := 0, cells := 0, slots := 0, locals := 0 }
theorem hd_X2_mostMended : yX2_mostMended.cls ≠ "java/lang/invoke/MethodHandle" ∧ yX2_mostMended.cls ≠ "java/lang/invoke/VarHandle" ∧ (parseMethodDescriptor yX2_mostMended.desc).map (fun d => d.parameters.length) = some 0 := by decide +kernel
set_option maxHeartbeats 4000000 in
set_option maxRecDepth 100000 in
theorem k_X2_mostMended {Θ : TH} {l : Launch} (O : okT Θ (eX Θ) 68) (σ0 : Mem) {y : Int32} (h : X2_mostMended σ0 = some y) : Met l yX2_mostMended (Cond.code yX2_mostMended cX2_mostMended 1 (some .int) :: wAll) rm_X2_mostMended (va_Pc [.ref (ta Θ 10)] (tS Θ σ0)) (qI Θ y σ0) 0 0 (tA Θ) := by
  refine x_ent (by decide) (Nat.le_of_ble_eq_true rfl) (fun p e s m below meth c X hr hlk hP ls hl => ?_)
  have hS : va_S (tA Θ) s.heap s.heap [] := va_S.rf
  have hl : lv_has ls 1 [(0, .ref (ta Θ 10))] := hl
  have hx := X.1
  have hb := X.2.1
  unfold X2_mostMended at h
  refine lv_aload_n hx hb dX2_mostMended_0 rfl (lv_at hl 0 rfl) ?_
  refine g_X2_9 X O hP dX2_mostMended_1 ?_
  refine lv_iconst (v := 0) hx hb dX2_mostMended_4 (by decide) ?_
  obtain ⟨g_1, h⟩ := grd_s h
  refine x_iald X O hP iI_11 g_1 dX2_mostMended_5 ?_
  have h := some_i h
  subst h
  exact x_reti X hP hS hr hlk rfl rfl dX2_mostMended_6
abbrev rm_X2_mendedFrom : Room := { frames := 2, cells := 0, slots := 0, locals := 41 }
theorem hd_X2_mendedFrom : yX2_mendedFrom.cls ≠ "java/lang/invoke/MethodHandle" ∧ yX2_mendedFrom.cls ≠ "java/lang/invoke/VarHandle" ∧ (parseMethodDescriptor yX2_mendedFrom.desc).map (fun d => d.parameters.length) = some 3 := by decide +kernel
set_option maxHeartbeats 4000000 in
set_option maxRecDepth 100000 in
theorem k_X2_mendedFrom {Θ : TH} {l : Launch} (O : okT Θ (eX Θ) 68) (v2 : Int32) (v3 : Int32) (σ0 : Mem) {y : Int32} (h : X2_mendedFrom v2 v3 σ0 = some y) : Met l yX2_mendedFrom (Cond.code yX2_mendedFrom cX2_mendedFrom 6 (some .int) :: wAll) rm_X2_mendedFrom (va_Pc [.ref (ta Θ 10), .ref (ta Θ 2), .int v2, .int v3] (tS Θ σ0)) (qI Θ y σ0) 0 0 (tA Θ) := by
  refine x_ent (by decide) (Nat.le_of_ble_eq_true rfl) (fun p e s m below meth c X hr hlk hP ls hl => ?_)
  have hS : va_S (tA Θ) s.heap s.heap [] := va_S.rf
  have hl : lv_has ls 6 [(0, .ref (ta Θ 10)), (1, .ref (ta Θ 2)), (2, .int v2), (3, .int v3)] := hl
  have hx := X.1
  have hb := X.2.1
  unfold X2_mendedFrom at h
  refine lv_aload_n hx hb dX2_mendedFrom_0 rfl (lv_at hl 1 rfl) ?_
  refine lv_iload_n hx hb dX2_mendedFrom_1 rfl (lv_at hl 2 rfl) ?_
  refine x_calli (x_runS X hP hS hl.1 (As := [.int v2]) (rest := [.ref (ta Θ 2)]) (k_J6_bitCount_0f7a4 O v2 σ0 rfl) wM_X2_31 wT_yJ6_bitCount_0f7a4 wN_J6 wC_yJ6_bitCount_0f7a4 hd_J6_bitCount_0f7a4 rfl ⟨rfl, rfl⟩ ⟨(Nat.le_of_ble_eq_true rfl), (Nat.le_of_ble_eq_true rfl)⟩ ⟨Nat.zero_le _, Nat.zero_le _⟩ rfl (Nat.le_of_ble_eq_true rfl) dX2_mendedFrom_2) hS (fun H locs hP hS => ?_)
  obtain ⟨g_1, h⟩ := grd_s h
  refine x_aald X O hP (k := 2) (n := 6) (t0 := 3) (C := "LentYouths$Person") (g := fun j => 22 + j) (by decide) rfl rfl g_1 dX2_mendedFrom_5 ?_
  refine lv_astore (lv' := [(4, .ref (ta Θ (22 + (J6_bitCount_0f7a4 v2).toNatClampNeg))), (0, .ref (ta Θ 10)), (1, .ref (ta Θ 2)), (2, .int v2), (3, .int v3)]) hx hb dX2_mendedFrom_6 hl (by decide) rfl (fun ls hl => ?_)
  refine lv_aload hx hb dX2_mendedFrom_8 (lv_at hl 0 rfl) ?_
  refine lv_aload hx hb dX2_mendedFrom_10 (lv_at hl 0 rfl) ?_
  refine g_X2_37 X O hP (isPe_at g_1) dX2_mendedFrom_12 ?_
  refine lv_aload_n hx hb dX2_mendedFrom_15 rfl (lv_at hl 2 rfl) ?_
  refine lv_iload_n hx hb dX2_mendedFrom_16 rfl (lv_at hl 4 rfl) ?_
  obtain ⟨g_2, h⟩ := grd_s h
  refine x_aald X O hP (k := 2) (n := 6) (t0 := 3) (C := "LentYouths$Person") (g := fun j => 22 + j) (by decide) rfl rfl g_2 dX2_mendedFrom_17 ?_
  refine g_X2_37 X O hP (isPe_at g_2) dX2_mendedFrom_18 ?_
  refine lv_ior hx hb dX2_mendedFrom_21 ?_
  refine x_calli (x_runV X O hP hS hl.1 (As := [.int ((σ0 (22 + (J6_bitCount_0f7a4 v2).toNatClampNeg) 1) ||| (σ0 (22 + v3.toNatClampNeg) 1))]) (rest := []) (k_X3_isMendedBy O (isPe_at g_1) ((σ0 (22 + (J6_bitCount_0f7a4 v2).toNatClampNeg) 1) ||| (σ0 (22 + v3.toNatClampNeg) 1)) σ0 rfl) (lt_X3 (isPe_at g_1)) (e_X3 (isPe_at g_1) _) rfl wM_X2_43 wI_yX3_isMendedBy wS_yX3_isMendedBy wN_X3 wC_yX3_isMendedBy hd_X3_isMendedBy rfl ⟨rfl, rfl⟩ ⟨(Nat.le_of_ble_eq_true rfl), (Nat.le_of_ble_eq_true rfl)⟩ ⟨Nat.zero_le _, Nat.zero_le _⟩ rfl (Nat.le_of_ble_eq_true rfl) dX2_mendedFrom_22) hS (fun H locs hP hS => ?_)
  refine lv_if_eq (tgt := 32) hx hb dX2_mendedFrom_25 (by decide) (fun c_3 => ?_) (fun c_3 => ?_)
  · have h := ite_t c_3 h
    refine lv_iconst (v := 0) hx hb dX2_mendedFrom_32 (by decide) ?_
    refine lv_istore (lv' := [(5, .int 0), (4, .ref (ta Θ (22 + (J6_bitCount_0f7a4 v2).toNatClampNeg))), (0, .ref (ta Θ 10)), (1, .ref (ta Θ 2)), (2, .int v2), (3, .int v3)]) hx hb dX2_mendedFrom_33 hl (by decide) rfl (fun ls hl => ?_)
    refine lv_iload hx hb dX2_mendedFrom_35 (lv_at hl 0 rfl) ?_
    refine lv_aload_n hx hb dX2_mendedFrom_37 rfl (lv_at hl 2 rfl) ?_
    refine g_X2_9 X O hP dX2_mendedFrom_38 ?_
    refine lv_iload_n hx hb dX2_mendedFrom_41 rfl (lv_at hl 4 rfl) ?_
    refine lv_iconst (v := 1) hx hb dX2_mendedFrom_42 (by decide) ?_
    refine lv_iload_n hx hb dX2_mendedFrom_43 rfl (lv_at hl 5 rfl) ?_
    refine lv_ishl hx hb dX2_mendedFrom_44 ?_
    refine lv_ior hx hb dX2_mendedFrom_45 ?_
    obtain ⟨g_4, h⟩ := grd_s h
    refine x_iald X O hP iI_11 g_4 dX2_mendedFrom_46 ?_
    refine lv_iadd hx hb dX2_mendedFrom_47 ?_
    have h := some_i h
    subst h
    exact x_reti X hP hS hr hlk rfl rfl dX2_mendedFrom_48
  · have h := ite_f c_3 h
    refine lv_iconst (v := 1) hx hb dX2_mendedFrom_28 (by decide) ?_
    refine lv_goto (tgt := 33) hx hb dX2_mendedFrom_29 (by decide) ?_
    refine lv_istore (lv' := [(5, .int 1), (4, .ref (ta Θ (22 + (J6_bitCount_0f7a4 v2).toNatClampNeg))), (0, .ref (ta Θ 10)), (1, .ref (ta Θ 2)), (2, .int v2), (3, .int v3)]) hx hb dX2_mendedFrom_33 hl (by decide) rfl (fun ls hl => ?_)
    refine lv_iload hx hb dX2_mendedFrom_35 (lv_at hl 0 rfl) ?_
    refine lv_aload_n hx hb dX2_mendedFrom_37 rfl (lv_at hl 2 rfl) ?_
    refine g_X2_9 X O hP dX2_mendedFrom_38 ?_
    refine lv_iload_n hx hb dX2_mendedFrom_41 rfl (lv_at hl 4 rfl) ?_
    refine lv_iconst (v := 1) hx hb dX2_mendedFrom_42 (by decide) ?_
    refine lv_iload_n hx hb dX2_mendedFrom_43 rfl (lv_at hl 5 rfl) ?_
    refine lv_ishl hx hb dX2_mendedFrom_44 ?_
    refine lv_ior hx hb dX2_mendedFrom_45 ?_
    obtain ⟨g_5, h⟩ := grd_s h
    refine x_iald X O hP iI_11 g_5 dX2_mendedFrom_46 ?_
    refine lv_iadd hx hb dX2_mendedFrom_47 ?_
    have h := some_i h
    subst h
    exact x_reti X hP hS hr hlk rfl rfl dX2_mendedFrom_48
abbrev rm_X2_firstBest : Room := { frames := 3, cells := 0, slots := 0, locals := 66 }
set_option maxHeartbeats 4000000 in
set_option maxRecDepth 100000 in
theorem w_X2_firstBest_L3 {F : Nat} {Θ : TH} {p : Program} {l : Launch} {e : Env} {s : State} {m : MethodId} {args : Array Value} {below : List Frame} {meth : Method} {c : Code} (X : CX Θ p s m args c RX2 cX2_firstBest 5) (O : okT Θ (eX Θ) 68) (hr : meth.sig.returnType = some .int) (hlk : meth.locks = false) (v2 : Int32) (v3 : Int32) (σ0 : Mem) {y : Int32} :
    ∀ (f : Nat) (v4 : Int32), X2_firstBest_L3 F v2 v3 σ0 f v4 = some y → ∀ (H : Heap) (locs : List Loc) (ls : Array Slot), va_P (tD Θ) vwCl (tw Θ σ0) H → va_S (tA Θ) s.heap H locs → lv_has ls 5 [(0, .ref (ta Θ 10)), (1, .ref (ta Θ 2)), (2, .int v2), (3, .int v3), (4, .int v4)] → W p l e rm_X2_firstBest s m args below meth c H locs 0 0 (MQ below (qI Θ y σ0) args s 0 0 (tA Θ)) (F0 m 3 ls []) := by
  have hx := X.1
  have hb := X.2.1
  intro f
  induction f with
  | zero => intro v4 h; cases h
  | succ f ih =>
    intro v4 h H locs ls hP hS hl
    rw [X2_firstBest_L3] at h
    refine lv_iload hx hb dX2_firstBest_3 (lv_at hl 4 rfl) ?_
    refine lv_iload_n hx hb dX2_firstBest_5 rfl (lv_at hl 2 rfl) ?_
    refine lv_icmp_ge (tgt := 44) hx hb dX2_firstBest_6 (by decide) (fun c_1 => ?_) (fun c_1 => ?_)
    · have h := ite_t c_1 h
      refine lv_iconst (v := 0) hx hb dX2_firstBest_44 (by decide) ?_
      have h := some_i h
      subst h
      exact x_reti X hP hS hr hlk rfl rfl dX2_firstBest_45
    · have h := ite_f c_1 h
      refine lv_iload_n hx hb dX2_firstBest_9 rfl (lv_at hl 3 rfl) ?_
      refine lv_iload hx hb dX2_firstBest_10 (lv_at hl 4 rfl) ?_
      refine lv_ishr hx hb dX2_firstBest_12 ?_
      refine lv_iconst (v := 1) hx hb dX2_firstBest_13 (by decide) ?_
      refine lv_iand hx hb dX2_firstBest_14 ?_
      refine lv_if_ne (tgt := 38) hx hb dX2_firstBest_15 (by decide) (fun c_2 => ?_) (fun c_2 => ?_)
      · have h := ite_f c_2 h
        refine lv_iinc (v := v4 + 1) (lv' := [(4, .int (v4 + 1)), (0, .ref (ta Θ 10)), (1, .ref (ta Θ 2)), (2, .int v2), (3, .int v3)]) hx hb dX2_firstBest_38 hl (k := 4) rfl rfl (by decide) rfl (fun ls hl => ?_)
        refine lv_goto (tgt := 3) hx hb dX2_firstBest_41 (by decide) ?_
        exact ih (v4 + 1) h _ _ _ hP hS (lv_sub hl [1, 2, 3, 4, 0] rfl)
      · have h := ite_t c_2 h
        refine lv_aload_n hx hb dX2_firstBest_18 rfl (lv_at hl 0 rfl) ?_
        refine lv_aload_n hx hb dX2_firstBest_19 rfl (lv_at hl 1 rfl) ?_
        refine lv_iload_n hx hb dX2_firstBest_20 rfl (lv_at hl 3 rfl) ?_
        refine lv_iload hx hb dX2_firstBest_21 (lv_at hl 4 rfl) ?_
        obtain ⟨z_3, e_4, h⟩ := ob_s h
        refine x_calli (x_runV X O hP hS hl.1 (As := [.ref (ta Θ 2), .int v3, .int v4]) (rest := []) (k_X2_mendedFrom O v3 v4 σ0 e_4) lt_X2 (e_X2 _) rfl wM_X2_18 wI_yX2_mendedFrom wS_yX2_mendedFrom wN_X2 wC_yX2_mendedFrom hd_X2_mendedFrom rfl ⟨rfl, rfl⟩ ⟨(Nat.le_of_ble_eq_true rfl), (Nat.le_of_ble_eq_true rfl)⟩ ⟨Nat.zero_le _, Nat.zero_le _⟩ rfl (Nat.le_of_ble_eq_true rfl) dX2_firstBest_23) hS (fun H locs hP hS => ?_)
        refine lv_aload_n hx hb dX2_firstBest_26 rfl (lv_at hl 0 rfl) ?_
        refine g_X2_9 X O hP dX2_firstBest_27 ?_
        refine lv_iload_n hx hb dX2_firstBest_30 rfl (lv_at hl 3 rfl) ?_
        obtain ⟨g_5, h⟩ := grd_s h
        refine x_iald X O hP iI_11 g_5 dX2_firstBest_31 ?_
        refine lv_icmp_ne (tgt := 38) hx hb dX2_firstBest_32 (by decide) (fun c_6 => ?_) (fun c_6 => ?_)
        · have h := ite_f c_6 h
          refine lv_iinc (v := v4 + 1) (lv' := [(4, .int (v4 + 1)), (0, .ref (ta Θ 10)), (1, .ref (ta Θ 2)), (2, .int v2), (3, .int v3)]) hx hb dX2_firstBest_38 hl (k := 4) rfl rfl (by decide) rfl (fun ls hl => ?_)
          refine lv_goto (tgt := 3) hx hb dX2_firstBest_41 (by decide) ?_
          exact ih (v4 + 1) h _ _ _ hP hS (lv_sub hl [1, 2, 3, 4, 0] rfl)
        · have h := ite_t c_6 h
          refine lv_iload hx hb dX2_firstBest_35 (lv_at hl 4 rfl) ?_
          have h := some_i h
          subst h
          exact x_reti X hP hS hr hlk rfl rfl dX2_firstBest_37
theorem hd_X2_firstBest : yX2_firstBest.cls ≠ "java/lang/invoke/MethodHandle" ∧ yX2_firstBest.cls ≠ "java/lang/invoke/VarHandle" ∧ (parseMethodDescriptor yX2_firstBest.desc).map (fun d => d.parameters.length) = some 3 := by decide +kernel
set_option maxHeartbeats 4000000 in
set_option maxRecDepth 100000 in
theorem k_X2_firstBest {F : Nat} {Θ : TH} {l : Launch} (O : okT Θ (eX Θ) 68) (v2 : Int32) (v3 : Int32) (σ0 : Mem) {y : Int32} (h : X2_firstBest F v2 v3 σ0 = some y) : Met l yX2_firstBest (Cond.code yX2_firstBest cX2_firstBest 5 (some .int) :: wAll) rm_X2_firstBest (va_Pc [.ref (ta Θ 10), .ref (ta Θ 2), .int v2, .int v3] (tS Θ σ0)) (qI Θ y σ0) 0 0 (tA Θ) := by
  refine x_ent (by decide) (Nat.le_of_ble_eq_true rfl) (fun p e s m below meth c X hr hlk hP ls hl => ?_)
  have hS : va_S (tA Θ) s.heap s.heap [] := va_S.rf
  have hl : lv_has ls 5 [(0, .ref (ta Θ 10)), (1, .ref (ta Θ 2)), (2, .int v2), (3, .int v3)] := hl
  have hx := X.1
  have hb := X.2.1
  unfold X2_firstBest at h
  refine lv_iconst (v := 0) hx hb dX2_firstBest_0 (by decide) ?_
  refine lv_istore (lv' := [(4, .int 0), (0, .ref (ta Θ 10)), (1, .ref (ta Θ 2)), (2, .int v2), (3, .int v3)]) hx hb dX2_firstBest_1 hl (by decide) rfl (fun ls hl => ?_)
  refine w_X2_firstBest_L3 X O hr hlk v2 v3 σ0  _ (0 : Int32) h _ _ _ hP hS (lv_sub hl [1, 2, 3, 4, 0] rfl)
abbrev rm_X2_make : Room := { frames := 4, cells := 0, slots := 0, locals := 90 }
set_option maxHeartbeats 4000000 in
set_option maxRecDepth 100000 in
theorem w_X2_make_L34 {F : Nat} {Θ : TH} {p : Program} {l : Launch} {e : Env} {s : State} {m : MethodId} {args : Array Value} {below : List Frame} {meth : Method} {c : Code} (X : CX Θ p s m args c RX2 cX2_make 6) (O : okT Θ (eX Θ) 68) (hr : meth.sig.returnType = none) (hlk : meth.locks = false) (v2 : Int32) (v4 : Int32) {y : Mem} {k82 : Mem → Option (Mem)} (hk82 : ∀ (σ0 : Mem), k82 σ0 = some y → ∀ (H : Heap) (locs : List Loc) (ls : Array Slot), va_P (tD Θ) vwCl (tw Θ σ0) H → va_S (tA Θ) s.heap H locs → lv_has ls 6 [(0, .ref (ta Θ 10)), (1, .ref (ta Θ 2)), (2, .int v2), (4, .int v4)] → W p l e rm_X2_make s m args below meth c H locs 0 0 (MQ below (qV Θ y) args s 0 0 (tA Θ)) (F0 m 82 ls [])) :
    ∀ (f : Nat) (v5 : Int32) (σ0 : Mem), X2_make_L34 F v2 v4 k82 f v5 σ0 = some y → ∀ (H : Heap) (locs : List Loc) (ls : Array Slot), va_P (tD Θ) vwCl (tw Θ σ0) H → va_S (tA Θ) s.heap H locs → lv_has ls 6 [(0, .ref (ta Θ 10)), (1, .ref (ta Θ 2)), (2, .int v2), (4, .int v4), (5, .int v5)] → W p l e rm_X2_make s m args below meth c H locs 0 0 (MQ below (qV Θ y) args s 0 0 (tA Θ)) (F0 m 34 ls []) := by
  have hx := X.1
  have hb := X.2.1
  intro f
  induction f with
  | zero => intro v5 σ0 h; cases h
  | succ f ih =>
    intro v5 σ0 h H locs ls hP hS hl
    rw [X2_make_L34] at h
    refine lv_iload hx hb dX2_make_34 (lv_at hl 4 rfl) ?_
    refine lv_iload_n hx hb dX2_make_36 rfl (lv_at hl 2 rfl) ?_
    refine lv_icmp_ge (tgt := 82) hx hb dX2_make_37 (by decide) (fun c_12 => ?_) (fun c_12 => ?_)
    · have h := ite_t c_12 h
      exact hk82 σ0 h _ _ _ hP hS (lv_sub hl [0, 1, 2, 3] rfl)
    · have h := ite_f c_12 h
      refine lv_iload hx hb dX2_make_40 (lv_at hl 3 rfl) ?_
      refine lv_iload hx hb dX2_make_42 (lv_at hl 4 rfl) ?_
      refine lv_ishr hx hb dX2_make_44 ?_
      refine lv_iconst (v := 1) hx hb dX2_make_45 (by decide) ?_
      refine lv_iand hx hb dX2_make_46 ?_
      refine lv_if_ne (tgt := 76) hx hb dX2_make_47 (by decide) (fun c_13 => ?_) (fun c_13 => ?_)
      · have h := ite_f c_13 h
        refine lv_iinc (v := v5 + 1) (lv' := [(5, .int (v5 + 1)), (0, .ref (ta Θ 10)), (1, .ref (ta Θ 2)), (2, .int v2), (4, .int v4)]) hx hb dX2_make_76 hl (k := 4) rfl rfl (by decide) rfl (fun ls hl => ?_)
        refine lv_goto (tgt := 34) hx hb dX2_make_79 (by decide) ?_
        exact ih (v5 + 1) σ0 h _ _ _ hP hS (lv_sub hl [1, 2, 3, 4, 0] rfl)
      · have h := ite_t c_13 h
        refine lv_aload_n hx hb dX2_make_50 rfl (lv_at hl 0 rfl) ?_
        refine g_X2_9 X O hP dX2_make_51 ?_
        refine lv_iload hx hb dX2_make_54 (lv_at hl 3 rfl) ?_
        refine lv_aload_n hx hb dX2_make_56 rfl (lv_at hl 0 rfl) ?_
        refine g_X2_9 X O hP dX2_make_57 ?_
        refine lv_iload hx hb dX2_make_60 (lv_at hl 3 rfl) ?_
        obtain ⟨g_14, h⟩ := grd_s h
        refine x_iald X O hP iI_11 g_14 dX2_make_62 ?_
        refine lv_aload_n hx hb dX2_make_63 rfl (lv_at hl 0 rfl) ?_
        refine lv_aload_n hx hb dX2_make_64 rfl (lv_at hl 1 rfl) ?_
        refine lv_iload hx hb dX2_make_65 (lv_at hl 3 rfl) ?_
        refine lv_iload hx hb dX2_make_67 (lv_at hl 4 rfl) ?_
        obtain ⟨z_15, e_16, h⟩ := ob_s h
        refine x_calli (x_runV X O hP hS hl.1 (As := [.ref (ta Θ 2), .int v4, .int v5]) (rest := [.int (σ0 11 v4.toNatClampNeg), .int v4, .ref (ta Θ 11)]) (k_X2_mendedFrom O v4 v5 σ0 e_16) lt_X2 (e_X2 _) rfl wM_X2_18 wI_yX2_mendedFrom wS_yX2_mendedFrom wN_X2 wC_yX2_mendedFrom hd_X2_mendedFrom rfl ⟨rfl, rfl⟩ ⟨(Nat.le_of_ble_eq_true rfl), (Nat.le_of_ble_eq_true rfl)⟩ ⟨Nat.zero_le _, Nat.zero_le _⟩ rfl (Nat.le_of_ble_eq_true rfl) dX2_make_69) hS (fun H locs hP hS => ?_)
        refine va_mmax hx hb (X.2.2.1.trans hl.1.symm) X.2.2.2.1 (X.2.2.2.2.1 _ wM_Math_max) (X.2.2.2.2.1 _ wT_Math_max) (X.2.2.2.2.1 _ wN_J9) (X.2.2.2.2.1 _ wC_Math_max) (Nat.le_of_ble_eq_true rfl) (Nat.le_of_ble_eq_true rfl) (Nat.zero_le _) (Nat.zero_le _) dX2_make_72 ?_
        obtain ⟨g_17, h⟩ := grd_s h
        obtain ⟨σ_18, e_19, h⟩ := bnd_s h
        refine x_iast X O hP hS iI_11 g_17 dX2_make_75 e_19 (fun H locs hP hS => ?_)
        refine lv_iinc (v := v5 + 1) (lv' := [(5, .int (v5 + 1)), (0, .ref (ta Θ 10)), (1, .ref (ta Θ 2)), (2, .int v2), (4, .int v4)]) hx hb dX2_make_76 hl (k := 4) rfl rfl (by decide) rfl (fun ls hl => ?_)
        refine lv_goto (tgt := 34) hx hb dX2_make_79 (by decide) ?_
        exact ih (v5 + 1) σ_18 h _ _ _ hP hS (lv_sub hl [1, 2, 3, 4, 0] rfl)
set_option maxHeartbeats 4000000 in
set_option maxRecDepth 100000 in
theorem w_X2_make_L18 {F : Nat} {Θ : TH} {p : Program} {l : Launch} {e : Env} {s : State} {m : MethodId} {args : Array Value} {below : List Frame} {meth : Method} {c : Code} (X : CX Θ p s m args c RX2 cX2_make 6) (O : okT Θ (eX Θ) 68) (hr : meth.sig.returnType = none) (hlk : meth.locks = false) (v2 : Int32) {y : Mem} {k88 : Mem → Option (Mem)} (hk88 : ∀ (σ0 : Mem), k88 σ0 = some y → ∀ (H : Heap) (locs : List Loc) (ls : Array Slot), va_P (tD Θ) vwCl (tw Θ σ0) H → va_S (tA Θ) s.heap H locs → lv_has ls 6 [(0, .ref (ta Θ 10)), (1, .ref (ta Θ 2)), (2, .int v2)] → W p l e rm_X2_make s m args below meth c H locs 0 0 (MQ below (qV Θ y) args s 0 0 (tA Θ)) (F0 m 88 ls [])) :
    ∀ (f : Nat) (v4 : Int32) (σ0 : Mem), X2_make_L18 F v2 k88 f v4 σ0 = some y → ∀ (H : Heap) (locs : List Loc) (ls : Array Slot), va_P (tD Θ) vwCl (tw Θ σ0) H → va_S (tA Θ) s.heap H locs → lv_has ls 6 [(0, .ref (ta Θ 10)), (1, .ref (ta Θ 2)), (2, .int v2), (4, .int v4)] → W p l e rm_X2_make s m args below meth c H locs 0 0 (MQ below (qV Θ y) args s 0 0 (tA Θ)) (F0 m 18 ls []) := by
  have hx := X.1
  have hb := X.2.1
  intro f
  induction f with
  | zero => intro v4 σ0 h; cases h
  | succ f ih =>
    intro v4 σ0 h H locs ls hP hS hl
    rw [X2_make_L18] at h
    refine lv_iload hx hb dX2_make_18 (lv_at hl 3 rfl) ?_
    refine lv_if_lt (tgt := 88) hx hb dX2_make_20 (by decide) (fun c_8 => ?_) (fun c_8 => ?_)
    · have h := ite_t c_8 h
      exact hk88 σ0 h _ _ _ hP hS (lv_sub hl [0, 1, 2] rfl)
    · have h := ite_f c_8 h
      refine lv_aload_n hx hb dX2_make_23 rfl (lv_at hl 0 rfl) ?_
      refine g_X2_9 X O hP dX2_make_24 ?_
      refine lv_iload hx hb dX2_make_27 (lv_at hl 3 rfl) ?_
      refine lv_iconst (v := (-1)) hx hb dX2_make_29 (by decide) ?_
      obtain ⟨g_9, h⟩ := grd_s h
      obtain ⟨σ_10, e_11, h⟩ := bnd_s h
      refine x_iast X O hP hS iI_11 g_9 dX2_make_30 e_11 (fun H locs hP hS => ?_)
      refine lv_iconst (v := 0) hx hb dX2_make_31 (by decide) ?_
      refine lv_istore (lv' := [(5, .int 0), (0, .ref (ta Θ 10)), (1, .ref (ta Θ 2)), (2, .int v2), (4, .int v4)]) hx hb dX2_make_32 hl (by decide) rfl (fun ls hl => ?_)
      refine w_X2_make_L34 X O hr hlk v2 v4 ?_ _ (0 : Int32) σ_10 h _ _ _ hP hS (lv_sub hl [1, 2, 3, 4, 0] rfl)
      · intro σ_20 h H locs ls hP hS hl
        refine lv_iinc (v := v4 + (-1)) (lv' := [(4, .int (v4 + (-1))), (0, .ref (ta Θ 10)), (1, .ref (ta Θ 2)), (2, .int v2)]) hx hb dX2_make_82 hl (k := 3) rfl rfl (by decide) rfl (fun ls hl => ?_)
        refine lv_goto (tgt := 18) hx hb dX2_make_85 (by decide) ?_
        exact ih (v4 + (-1)) σ_20 h _ _ _ hP hS (lv_sub hl [1, 2, 3, 0] rfl)
set_option maxHeartbeats 4000000 in
set_option maxRecDepth 100000 in
theorem w_X2_make_L94 {F : Nat} {Θ : TH} {p : Program} {l : Launch} {e : Env} {s : State} {m : MethodId} {args : Array Value} {below : List Frame} {meth : Method} {c : Code} (X : CX Θ p s m args c RX2 cX2_make 6) (O : okT Θ (eX Θ) 68) (hr : meth.sig.returnType = none) (hlk : meth.locks = false) (v2 : Int32) {y : Mem} :
    ∀ (f : Nat) (v4 : Int32) (v5 : Int32) (σ0 : Mem), X2_make_L94 F v2 f v4 v5 σ0 = some y → ∀ (H : Heap) (locs : List Loc) (ls : Array Slot), va_P (tD Θ) vwCl (tw Θ σ0) H → va_S (tA Θ) s.heap H locs → lv_has ls 6 [(0, .ref (ta Θ 10)), (1, .ref (ta Θ 2)), (2, .int v2), (4, .int v4), (5, .int v5)] → W p l e rm_X2_make s m args below meth c H locs 0 0 (MQ below (qV Θ y) args s 0 0 (tA Θ)) (F0 m 94 ls []) := by
  have hx := X.1
  have hb := X.2.1
  intro f
  induction f with
  | zero => intro v4 v5 σ0 h; cases h
  | succ f ih =>
    intro v4 v5 σ0 h H locs ls hP hS hl
    rw [X2_make_L94] at h
    refine lv_iload hx hb dX2_make_94 (lv_at hl 4 rfl) ?_
    refine lv_iload_n hx hb dX2_make_96 rfl (lv_at hl 2 rfl) ?_
    refine lv_icmp_ge (tgt := 135) hx hb dX2_make_97 (by decide) (fun c_22 => ?_) (fun c_22 => ?_)
    · have h := ite_t c_22 h
      have h := some_i h
      subst h
      exact x_retv X hP hS hr hlk rfl dX2_make_135
    · have h := ite_f c_22 h
      refine lv_aload_n hx hb dX2_make_100 rfl (lv_at hl 0 rfl) ?_
      refine g_X2_15 X O hP dX2_make_101 ?_
      refine lv_iload hx hb dX2_make_104 (lv_at hl 4 rfl) ?_
      refine lv_aload_n hx hb dX2_make_106 rfl (lv_at hl 0 rfl) ?_
      refine lv_aload_n hx hb dX2_make_107 rfl (lv_at hl 1 rfl) ?_
      refine lv_iload_n hx hb dX2_make_108 rfl (lv_at hl 2 rfl) ?_
      refine lv_iload hx hb dX2_make_109 (lv_at hl 3 rfl) ?_
      obtain ⟨z_23, e_24, h⟩ := ob_s h
      refine x_calli (x_runV X O hP hS hl.1 (As := [.ref (ta Θ 2), .int v2, .int v4]) (rest := [.int v5, .ref (ta Θ 12)]) (k_X2_firstBest O v2 v4 σ0 e_24) lt_X2 (e_X2 _) rfl wM_X2_28 wI_yX2_firstBest wS_yX2_firstBest wN_X2 wC_yX2_firstBest hd_X2_firstBest rfl ⟨rfl, rfl⟩ ⟨(Nat.le_of_ble_eq_true rfl), (Nat.le_of_ble_eq_true rfl)⟩ ⟨Nat.zero_le _, Nat.zero_le _⟩ rfl (Nat.le_of_ble_eq_true rfl) dX2_make_111) hS (fun H locs hP hS => ?_)
      obtain ⟨g_25, h⟩ := grd_s h
      obtain ⟨σ_26, e_27, h⟩ := bnd_s h
      refine x_iast X O hP hS iI_12 g_25 dX2_make_114 e_27 (fun H locs hP hS => ?_)
      refine lv_iload hx hb dX2_make_115 (lv_at hl 3 rfl) ?_
      refine lv_iconst (v := 1) hx hb dX2_make_117 (by decide) ?_
      refine lv_aload_n hx hb dX2_make_118 rfl (lv_at hl 0 rfl) ?_
      refine g_X2_15 X O hP dX2_make_119 ?_
      refine lv_iload hx hb dX2_make_122 (lv_at hl 4 rfl) ?_
      obtain ⟨g_28, h⟩ := grd_s h
      refine x_iald X O hP iI_12 g_28 dX2_make_124 ?_
      refine lv_ishl hx hb dX2_make_125 ?_
      refine lv_ior hx hb dX2_make_126 ?_
      obtain ⟨v4_29, e_30, h⟩ := bnd_s h
      refine lv_nam e_30 ?_
      refine lv_istore (lv' := [(4, .int v4_29), (0, .ref (ta Θ 10)), (1, .ref (ta Θ 2)), (2, .int v2), (5, .int v5)]) hx hb dX2_make_127 hl (by decide) rfl (fun ls hl => ?_)
      refine lv_iinc (v := v5 + 1) (lv' := [(5, .int (v5 + 1)), (4, .int v4_29), (0, .ref (ta Θ 10)), (1, .ref (ta Θ 2)), (2, .int v2)]) hx hb dX2_make_129 hl (k := 4) rfl rfl (by decide) rfl (fun ls hl => ?_)
      refine lv_goto (tgt := 94) hx hb dX2_make_132 (by decide) ?_
      exact ih v4_29 (v5 + 1) σ_26 h _ _ _ hP hS (lv_sub hl [2, 3, 4, 1, 0] rfl)
theorem hd_X2_make : yX2_make.cls ≠ "java/lang/invoke/MethodHandle" ∧ yX2_make.cls ≠ "java/lang/invoke/VarHandle" ∧ (parseMethodDescriptor yX2_make.desc).map (fun d => d.parameters.length) = some 2 := by decide +kernel
set_option maxHeartbeats 4000000 in
set_option maxRecDepth 100000 in
theorem k_X2_make {F : Nat} {Θ : TH} {l : Launch} (O : okT Θ (eX Θ) 68) (v2 : Int32) (σ0 : Mem) {y : Mem} (h : X2_make F v2 σ0 = some y) : Met l yX2_make (Cond.code yX2_make cX2_make 6 none :: wAll) rm_X2_make (va_Pc [.ref (ta Θ 10), .ref (ta Θ 2), .int v2] (tS Θ σ0)) (qV Θ y) 0 0 (tA Θ) := by
  refine x_ent (by decide) (Nat.le_of_ble_eq_true rfl) (fun p e s m below meth c X hr hlk hP ls hl => ?_)
  have hS : va_S (tA Θ) s.heap s.heap [] := va_S.rf
  have hl : lv_has ls 6 [(0, .ref (ta Θ 10)), (1, .ref (ta Θ 2)), (2, .int v2)] := hl
  have hx := X.1
  have hb := X.2.1
  unfold X2_make at h
  refine lv_iconst (v := 1) hx hb dX2_make_0 (by decide) ?_
  refine lv_iload_n hx hb dX2_make_1 rfl (lv_at hl 2 rfl) ?_
  refine lv_ishl hx hb dX2_make_2 ?_
  refine lv_iconst (v := 1) hx hb dX2_make_3 (by decide) ?_
  refine lv_isub hx hb dX2_make_4 ?_
  obtain ⟨v3_1, e_2, h⟩ := bnd_s h
  refine lv_nam e_2 ?_
  refine lv_istore_n (lv' := [(3, .int v3_1), (0, .ref (ta Θ 10)), (1, .ref (ta Θ 2)), (2, .int v2)]) hx hb dX2_make_5 rfl hl (by decide) rfl (fun ls hl => ?_)
  refine lv_aload_n hx hb dX2_make_6 rfl (lv_at hl 1 rfl) ?_
  refine g_X2_9 X O hP dX2_make_7 ?_
  refine lv_iload_n hx hb dX2_make_10 rfl (lv_at hl 0 rfl) ?_
  refine lv_iconst (v := 0) hx hb dX2_make_11 (by decide) ?_
  obtain ⟨g_3, h⟩ := grd_s h
  obtain ⟨σ_4, e_5, h⟩ := bnd_s h
  refine x_iast X O hP hS iI_11 g_3 dX2_make_12 e_5 (fun H locs hP hS => ?_)
  refine lv_iload_n hx hb dX2_make_13 rfl (lv_at hl 0 rfl) ?_
  refine lv_iconst (v := 1) hx hb dX2_make_14 (by decide) ?_
  refine lv_isub hx hb dX2_make_15 ?_
  obtain ⟨v4_6, e_7, h⟩ := bnd_s h
  refine lv_nam e_7 ?_
  refine lv_istore (lv' := [(4, .int v4_6), (3, .int v3_1), (0, .ref (ta Θ 10)), (1, .ref (ta Θ 2)), (2, .int v2)]) hx hb dX2_make_16 hl (by decide) rfl (fun ls hl => ?_)
  refine w_X2_make_L18 X O hr hlk v2 ?_ _ v4_6 σ_4 h _ _ _ hP hS (lv_sub hl [2, 3, 4, 0] rfl)
  · intro σ_21 h H locs ls hP hS hl
    refine lv_iconst (v := 0) hx hb dX2_make_88 (by decide) ?_
    refine lv_istore (lv' := [(4, .int 0), (0, .ref (ta Θ 10)), (1, .ref (ta Θ 2)), (2, .int v2)]) hx hb dX2_make_89 hl (by decide) rfl (fun ls hl => ?_)
    refine lv_iconst (v := 0) hx hb dX2_make_91 (by decide) ?_
    refine lv_istore (lv' := [(5, .int 0), (4, .int 0), (0, .ref (ta Θ 10)), (1, .ref (ta Θ 2)), (2, .int v2)]) hx hb dX2_make_92 hl (by decide) rfl (fun ls hl => ?_)
    refine w_X2_make_L94 X O hr hlk v2  _ (0 : Int32) (0 : Int32) σ_21 h _ _ _ hP hS (lv_sub hl [2, 3, 4, 1, 0] rfl)
abbrev rm_X3_readFrom : Room := { frames := 0, cells := 0, slots := 0, locals := 0 }
set_option maxHeartbeats 4000000 in
set_option maxRecDepth 100000 in
theorem w_X3_readFrom_J31 {Θ : TH} {p : Program} {l : Launch} {e : Env} {s : State} {m : MethodId} {args : Array Value} {below : List Frame} {meth : Method} {c : Code} (X : CX Θ p s m args c RX3 cX3_readFrom 4) (O : okT Θ (eX Θ) 68) (hr : meth.sig.returnType = none) (hlk : meth.locks = false) {y : Mem} {n0 : Nat} (h0 : isPe n0) {n1 : Nat} (h1 : isSh n1) (v2 : Int32) (w1 : Int32) (σ0 : Mem) (h : X3_readFrom_J31 n0 n1 v2 w1 σ0 = some y) (H : Heap) (locs : List Loc) (ls : Array Slot) (hP : va_P (tD Θ) vwCl (tw Θ σ0) H) (hS : va_S (tA Θ) s.heap H locs) (hl : lv_has ls 4 [(0, .ref (ta Θ n0)), (1, .ref (ta Θ n1)), (2, .int v2)]) : W p l e rm_X3_readFrom s m args below meth c H locs 0 0 (MQ below (qV Θ y) args s 0 0 (tA Θ)) (F0 m 31 ls [.int w1, .ref (ta Θ n0)]) := by
  have hx := X.1
  have hb := X.2.1
  unfold X3_readFrom_J31 at h
  obtain ⟨σ_6, e_7, h⟩ := bnd_s h
  refine p_X3_9 X O hP hS h0 dX3_readFrom_31 e_7 (fun H locs hP hS => ?_)
  refine lv_aload_n hx hb dX3_readFrom_34 rfl (lv_at hl 0 rfl) ?_
  refine lv_bipush (v := 10) hx hb dX3_readFrom_35 (by decide) ?_
  refine lv_aload_n hx hb dX3_readFrom_37 rfl (lv_at hl 1 rfl) ?_
  refine g_X3_24 X O hP h1 dX3_readFrom_38 ?_
  refine lv_iload_n hx hb dX3_readFrom_41 rfl (lv_at hl 2 rfl) ?_
  refine lv_iconst (v := 2) hx hb dX3_readFrom_42 (by decide) ?_
  refine lv_iadd hx hb dX3_readFrom_43 ?_
  obtain ⟨g_8, h⟩ := grd_s h
  refine x_iald X O hP (iI_X5 h1) g_8 dX3_readFrom_44 ?_
  refine lv_bipush (v := 48) hx hb dX3_readFrom_45 (by decide) ?_
  refine lv_isub hx hb dX3_readFrom_47 ?_
  refine lv_imul hx hb dX3_readFrom_48 ?_
  refine lv_aload_n hx hb dX3_readFrom_49 rfl (lv_at hl 1 rfl) ?_
  refine g_X3_24 X O hP h1 dX3_readFrom_50 ?_
  refine lv_iload_n hx hb dX3_readFrom_53 rfl (lv_at hl 2 rfl) ?_
  refine lv_iconst (v := 3) hx hb dX3_readFrom_54 (by decide) ?_
  refine lv_iadd hx hb dX3_readFrom_55 ?_
  obtain ⟨g_9, h⟩ := grd_s h
  refine x_iald X O hP (iI_X5 h1) g_9 dX3_readFrom_56 ?_
  refine lv_iadd hx hb dX3_readFrom_57 ?_
  refine lv_bipush (v := 48) hx hb dX3_readFrom_58 (by decide) ?_
  refine lv_isub hx hb dX3_readFrom_60 ?_
  obtain ⟨σ_10, e_11, h⟩ := bnd_s h
  refine p_X3_15 X O hP hS h0 dX3_readFrom_61 e_11 (fun H locs hP hS => ?_)
  refine lv_aload_n hx hb dX3_readFrom_64 rfl (lv_at hl 0 rfl) ?_
  refine lv_aload_n hx hb dX3_readFrom_65 rfl (lv_at hl 1 rfl) ?_
  refine g_X3_24 X O hP h1 dX3_readFrom_66 ?_
  refine lv_iload_n hx hb dX3_readFrom_69 rfl (lv_at hl 2 rfl) ?_
  refine lv_iconst (v := 4) hx hb dX3_readFrom_70 (by decide) ?_
  refine lv_iadd hx hb dX3_readFrom_71 ?_
  obtain ⟨g_12, h⟩ := grd_s h
  refine x_iald X O hP (iI_X5 h1) g_12 dX3_readFrom_72 ?_
  refine lv_bipush (v := 48) hx hb dX3_readFrom_73 (by decide) ?_
  refine lv_isub hx hb dX3_readFrom_75 ?_
  obtain ⟨σ_13, e_14, h⟩ := bnd_s h
  refine p_X3_18 X O hP hS h0 dX3_readFrom_76 e_14 (fun H locs hP hS => ?_)
  refine lv_aload_n hx hb dX3_readFrom_79 rfl (lv_at hl 0 rfl) ?_
  refine lv_aload_n hx hb dX3_readFrom_80 rfl (lv_at hl 1 rfl) ?_
  refine g_X3_24 X O hP h1 dX3_readFrom_81 ?_
  refine lv_iload_n hx hb dX3_readFrom_84 rfl (lv_at hl 2 rfl) ?_
  refine lv_iconst (v := 5) hx hb dX3_readFrom_85 (by decide) ?_
  refine lv_iadd hx hb dX3_readFrom_86 ?_
  obtain ⟨g_15, h⟩ := grd_s h
  refine x_iald X O hP (iI_X5 h1) g_15 dX3_readFrom_87 ?_
  refine lv_bipush (v := 48) hx hb dX3_readFrom_88 (by decide) ?_
  refine lv_isub hx hb dX3_readFrom_90 ?_
  obtain ⟨σ_16, e_17, h⟩ := bnd_s h
  refine p_X3_21 X O hP hS h0 dX3_readFrom_91 e_17 (fun H locs hP hS => ?_)
  have h := some_i h
  subst h
  exact x_retv X hP hS hr hlk rfl dX3_readFrom_94
theorem hd_X3_readFrom : yX3_readFrom.cls ≠ "java/lang/invoke/MethodHandle" ∧ yX3_readFrom.cls ≠ "java/lang/invoke/VarHandle" ∧ (parseMethodDescriptor yX3_readFrom.desc).map (fun d => d.parameters.length) = some 2 := by decide +kernel
set_option maxHeartbeats 4000000 in
set_option maxRecDepth 100000 in
theorem k_X3_readFrom {Θ : TH} {l : Launch} (O : okT Θ (eX Θ) 68) {n0 : Nat} (h0 : isPe n0) {n1 : Nat} (h1 : isSh n1) (v2 : Int32) (σ0 : Mem) {y : Mem} (h : X3_readFrom n0 n1 v2 σ0 = some y) : Met l yX3_readFrom (Cond.code yX3_readFrom cX3_readFrom 4 none :: wAll) rm_X3_readFrom (va_Pc [.ref (ta Θ n0), .ref (ta Θ n1), .int v2] (tS Θ σ0)) (qV Θ y) 0 0 (tA Θ) := by
  refine x_ent (by decide) (Nat.le_of_ble_eq_true rfl) (fun p e s m below meth c X hr hlk hP ls hl => ?_)
  have hS : va_S (tA Θ) s.heap s.heap [] := va_S.rf
  have hl : lv_has ls 4 [(0, .ref (ta Θ n0)), (1, .ref (ta Θ n1)), (2, .int v2)] := hl
  have hx := X.1
  have hb := X.2.1
  unfold X3_readFrom at h
  refine lv_aload_n hx hb dX3_readFrom_0 rfl (lv_at hl 1 rfl) ?_
  refine g_X3_24 X O hP h1 dX3_readFrom_1 ?_
  refine lv_iload_n hx hb dX3_readFrom_4 rfl (lv_at hl 2 rfl) ?_
  refine lv_iconst (v := 1) hx hb dX3_readFrom_5 (by decide) ?_
  refine lv_iadd hx hb dX3_readFrom_6 ?_
  obtain ⟨g_1, h⟩ := grd_s h
  refine x_iald X O hP (iI_X5 h1) g_1 dX3_readFrom_7 ?_
  obtain ⟨v3_2, e_3, h⟩ := bnd_s h
  refine lv_nam e_3 ?_
  refine lv_istore_n (lv' := [(3, .int v3_2), (0, .ref (ta Θ n0)), (1, .ref (ta Θ n1)), (2, .int v2)]) hx hb dX3_readFrom_8 rfl hl (by decide) rfl (fun ls hl => ?_)
  refine lv_aload_n hx hb dX3_readFrom_9 rfl (lv_at hl 1 rfl) ?_
  refine lv_iload_n hx hb dX3_readFrom_10 rfl (lv_at hl 0 rfl) ?_
  refine lv_bipush (v := 116) hx hb dX3_readFrom_11 (by decide) ?_
  refine lv_icmp_ne (tgt := 20) hx hb dX3_readFrom_13 (by decide) (fun c_4 => ?_) (fun c_4 => ?_)
  · have h := ite_f c_4 h
    refine lv_iload_n hx hb dX3_readFrom_20 rfl (lv_at hl 0 rfl) ?_
    refine lv_bipush (v := 115) hx hb dX3_readFrom_21 (by decide) ?_
    refine lv_icmp_ne (tgt := 30) hx hb dX3_readFrom_23 (by decide) (fun c_5 => ?_) (fun c_5 => ?_)
    · have h := ite_f c_5 h
      refine lv_iconst (v := 0) hx hb dX3_readFrom_30 (by decide) ?_
      exact w_X3_readFrom_J31 X O hr hlk h0 h1 v2 (0 : Int32) σ0 h _ _ _ hP hS (lv_sub hl [1, 2, 3] rfl)
    · have h := ite_t c_5 h
      refine lv_iconst (v := 1) hx hb dX3_readFrom_26 (by decide) ?_
      refine lv_goto (tgt := 31) hx hb dX3_readFrom_27 (by decide) ?_
      exact w_X3_readFrom_J31 X O hr hlk h0 h1 v2 (1 : Int32) σ0 h _ _ _ hP hS (lv_sub hl [1, 2, 3] rfl)
  · have h := ite_t c_4 h
    refine lv_iconst (v := 2) hx hb dX3_readFrom_16 (by decide) ?_
    refine lv_goto (tgt := 31) hx hb dX3_readFrom_17 (by decide) ?_
    exact w_X3_readFrom_J31 X O hr hlk h0 h1 v2 (2 : Int32) σ0 h _ _ _ hP hS (lv_sub hl [1, 2, 3] rfl)
abbrev rm_X4_add : Room := { frames := 0, cells := 0, slots := 0, locals := 0 }
theorem hd_X4_add : yX4_add.cls ≠ "java/lang/invoke/MethodHandle" ∧ yX4_add.cls ≠ "java/lang/invoke/VarHandle" ∧ (parseMethodDescriptor yX4_add.desc).map (fun d => d.parameters.length) = some 3 := by decide +kernel
set_option maxHeartbeats 4000000 in
set_option maxRecDepth 100000 in
theorem k_X4_add {Θ : TH} {l : Launch} (O : okT Θ (eX Θ) 68) (v1 : Int32) (v2 : Int32) (v3 : Int32) (σ0 : Mem) {y : Int32 × Mem} (h : X4_add v1 v2 v3 σ0 = some y) : Met l yX4_add (Cond.code yX4_add cX4_add 4 (some .boolean) :: wAll) rm_X4_add (va_Pc [.ref (ta Θ 3), .int v1, .int v2, .int v3] (tS Θ σ0)) (qI Θ y.1 y.2) 0 0 (tA Θ) := by
  refine x_ent (by decide) (Nat.le_of_ble_eq_true rfl) (fun p e s m below meth c X hr hlk hP ls hl => ?_)
  have hS : va_S (tA Θ) s.heap s.heap [] := va_S.rf
  have hl : lv_has ls 4 [(0, .ref (ta Θ 3)), (1, .int v1), (2, .int v2), (3, .int v3)] := hl
  have hx := X.1
  have hb := X.2.1
  unfold X4_add at h
  refine lv_aload_n hx hb dX4_add_0 rfl (lv_at hl 0 rfl) ?_
  refine g_X4_22 X O hP dX4_add_1 ?_
  refine lv_bipush (v := 8) hx hb dX4_add_4 (by decide) ?_
  refine lv_icmp_lt (tgt := 11) hx hb dX4_add_6 (by decide) (fun c_1 => ?_) (fun c_1 => ?_)
  · have h := ite_t c_1 h
    refine lv_aload_n hx hb dX4_add_11 rfl (lv_at hl 0 rfl) ?_
    refine g_X4_9 X O hP dX4_add_12 ?_
    refine lv_aload_n hx hb dX4_add_15 rfl (lv_at hl 0 rfl) ?_
    refine g_X4_22 X O hP dX4_add_16 ?_
    refine lv_iload_n hx hb dX4_add_19 rfl (lv_at hl 1 rfl) ?_
    obtain ⟨g_2, h⟩ := grd_s h
    obtain ⟨σ_3, e_4, h⟩ := bnd_s h
    refine x_iast X O hP hS iI_4 g_2 dX4_add_20 e_4 (fun H locs hP hS => ?_)
    refine lv_aload_n hx hb dX4_add_21 rfl (lv_at hl 0 rfl) ?_
    refine g_X4_15 X O hP dX4_add_22 ?_
    refine lv_aload_n hx hb dX4_add_25 rfl (lv_at hl 0 rfl) ?_
    refine g_X4_22 X O hP dX4_add_26 ?_
    refine lv_iload_n hx hb dX4_add_29 rfl (lv_at hl 2 rfl) ?_
    obtain ⟨g_5, h⟩ := grd_s h
    obtain ⟨σ_6, e_7, h⟩ := bnd_s h
    refine x_iast X O hP hS iI_5 g_5 dX4_add_30 e_7 (fun H locs hP hS => ?_)
    refine lv_aload_n hx hb dX4_add_31 rfl (lv_at hl 0 rfl) ?_
    refine g_X4_18 X O hP dX4_add_32 ?_
    refine lv_aload_n hx hb dX4_add_35 rfl (lv_at hl 0 rfl) ?_
    refine g_X4_22 X O hP dX4_add_36 ?_
    refine lv_iload_n hx hb dX4_add_39 rfl (lv_at hl 3 rfl) ?_
    obtain ⟨g_8, h⟩ := grd_s h
    obtain ⟨σ_9, e_10, h⟩ := bnd_s h
    refine x_zast X O hP hS iZ_6 g_8 dX4_add_40 e_10 (fun H locs hP hS => ?_)
    refine lv_aload_n hx hb dX4_add_41 rfl (lv_at hl 0 rfl) ?_
    refine lv_dup hx hb dX4_add_42 rfl ?_
    refine g_X4_22 X O hP dX4_add_43 ?_
    refine lv_iconst (v := 1) hx hb dX4_add_46 (by decide) ?_
    refine lv_iadd hx hb dX4_add_47 ?_
    obtain ⟨σ_11, e_12, h⟩ := bnd_s h
    refine p_X4_22 X O hP hS dX4_add_48 e_12 (fun H locs hP hS => ?_)
    refine lv_iconst (v := 1) hx hb dX4_add_51 (by decide) ?_
    have h := some_i h
    subst h
    exact x_retz X hP hS hr hlk (Or.inr rfl) rfl rfl dX4_add_52
  · have h := ite_f c_1 h
    refine lv_iconst (v := 0) hx hb dX4_add_9 (by decide) ?_
    have h := some_i h
    subst h
    exact x_retz X hP hS hr hlk (Or.inl rfl) rfl rfl dX4_add_10
abbrev rm_X4_areSoIn : Room := { frames := 0, cells := 0, slots := 0, locals := 0 }
set_option maxHeartbeats 4000000 in
set_option maxRecDepth 100000 in
theorem w_X4_areSoIn_L2 {F : Nat} {Θ : TH} {p : Program} {l : Launch} {e : Env} {s : State} {m : MethodId} {args : Array Value} {below : List Frame} {meth : Method} {c : Code} (X : CX Θ p s m args c RX4 cX4_areSoIn 4) (O : okT Θ (eX Θ) 68) (hr : meth.sig.returnType = some .boolean) (hlk : meth.locks = false) {n1 : Nat} (h1 : isEx n1) (σ0 : Mem) {y : Int32} :
    ∀ (f : Nat) (v2 : Int32), X4_areSoIn_L2 F n1 σ0 f v2 = some y → ∀ (H : Heap) (locs : List Loc) (ls : Array Slot), va_P (tD Θ) vwCl (tw Θ σ0) H → va_S (tA Θ) s.heap H locs → lv_has ls 4 [(0, .ref (ta Θ 3)), (1, .ref (ta Θ n1)), (2, .int v2)] → W p l e rm_X4_areSoIn s m args below meth c H locs 0 0 (MQ below (qI Θ y σ0) args s 0 0 (tA Θ)) (F0 m 2 ls []) := by
  have hx := X.1
  have hb := X.2.1
  intro f
  induction f with
  | zero => intro v2 h; cases h
  | succ f ih =>
    intro v2 h H locs ls hP hS hl
    rw [X4_areSoIn_L2] at h
    refine lv_iload_n hx hb dX4_areSoIn_2 rfl (lv_at hl 2 rfl) ?_
    refine lv_aload_n hx hb dX4_areSoIn_3 rfl (lv_at hl 0 rfl) ?_
    refine g_X4_22 X O hP dX4_areSoIn_4 ?_
    refine lv_icmp_ge (tgt := 58) hx hb dX4_areSoIn_7 (by decide) (fun c_1 => ?_) (fun c_1 => ?_)
    · have h := ite_t c_1 h
      refine lv_iconst (v := 1) hx hb dX4_areSoIn_58 (by decide) ?_
      have h := some_i h
      subst h
      exact x_retz X hP hS hr hlk (Or.inr rfl) rfl rfl dX4_areSoIn_59
    · have h := ite_f c_1 h
      refine lv_aload_n hx hb dX4_areSoIn_10 rfl (lv_at hl 1 rfl) ?_
      refine g_X4_26 X O hP h1 dX4_areSoIn_11 ?_
      refine lv_aload_n hx hb dX4_areSoIn_14 rfl (lv_at hl 0 rfl) ?_
      refine g_X4_9 X O hP dX4_areSoIn_15 ?_
      refine lv_iload_n hx hb dX4_areSoIn_18 rfl (lv_at hl 2 rfl) ?_
      obtain ⟨g_2, h⟩ := grd_s h
      refine x_iald X O hP iI_4 g_2 dX4_areSoIn_19 ?_
      obtain ⟨g_3, h⟩ := grd_s h
      refine x_iald X O hP (iI_X0_5 h1) g_3 dX4_areSoIn_20 ?_
      refine lv_aload_n hx hb dX4_areSoIn_21 rfl (lv_at hl 0 rfl) ?_
      refine g_X4_15 X O hP dX4_areSoIn_22 ?_
      refine lv_iload_n hx hb dX4_areSoIn_25 rfl (lv_at hl 2 rfl) ?_
      obtain ⟨g_4, h⟩ := grd_s h
      refine x_iald X O hP iI_5 g_4 dX4_areSoIn_26 ?_
      refine lv_ishr hx hb dX4_areSoIn_27 ?_
      refine lv_iconst (v := 1) hx hb dX4_areSoIn_28 (by decide) ?_
      refine lv_iand hx hb dX4_areSoIn_29 ?_
      refine lv_iconst (v := 1) hx hb dX4_areSoIn_30 (by decide) ?_
      refine lv_icmp_ne (tgt := 38) hx hb dX4_areSoIn_31 (by decide) (fun c_5 => ?_) (fun c_5 => ?_)
      · have h := ite_f c_5 h
        refine lv_iconst (v := 0) hx hb dX4_areSoIn_38 (by decide) ?_
        refine lv_istore_n (lv' := [(3, .int 0), (0, .ref (ta Θ 3)), (1, .ref (ta Θ n1)), (2, .int v2)]) hx hb dX4_areSoIn_39 rfl hl (by decide) rfl (fun ls hl => ?_)
        refine lv_iload_n hx hb dX4_areSoIn_40 rfl (lv_at hl 0 rfl) ?_
        refine lv_aload_n hx hb dX4_areSoIn_41 rfl (lv_at hl 1 rfl) ?_
        refine g_X4_18 X O hP dX4_areSoIn_42 ?_
        refine lv_iload_n hx hb dX4_areSoIn_45 rfl (lv_at hl 3 rfl) ?_
        obtain ⟨g_6, h⟩ := grd_s h
        refine x_zald X O hP iZ_6 g_6 dX4_areSoIn_46 ?_
        refine lv_icmp_eq (tgt := 52) hx hb dX4_areSoIn_47 (by decide) (fun c_7 => ?_) (fun c_7 => ?_)
        · have h := ite_t c_7 h
          refine lv_iinc (v := v2 + 1) (lv' := [(2, .int (v2 + 1)), (3, .int 0), (0, .ref (ta Θ 3)), (1, .ref (ta Θ n1))]) hx hb dX4_areSoIn_52 hl (k := 3) rfl rfl (by decide) rfl (fun ls hl => ?_)
          refine lv_goto (tgt := 2) hx hb dX4_areSoIn_55 (by decide) ?_
          exact ih (v2 + 1) h _ _ _ hP hS (lv_sub hl [2, 3, 0] rfl)
        · have h := ite_f c_7 h
          refine lv_iconst (v := 0) hx hb dX4_areSoIn_50 (by decide) ?_
          have h := some_i h
          subst h
          exact x_retz X hP hS hr hlk (Or.inl rfl) rfl rfl dX4_areSoIn_51
      · have h := ite_t c_5 h
        refine lv_iconst (v := 1) hx hb dX4_areSoIn_34 (by decide) ?_
        refine lv_goto (tgt := 39) hx hb dX4_areSoIn_35 (by decide) ?_
        refine lv_istore_n (lv' := [(3, .int 1), (0, .ref (ta Θ 3)), (1, .ref (ta Θ n1)), (2, .int v2)]) hx hb dX4_areSoIn_39 rfl hl (by decide) rfl (fun ls hl => ?_)
        refine lv_iload_n hx hb dX4_areSoIn_40 rfl (lv_at hl 0 rfl) ?_
        refine lv_aload_n hx hb dX4_areSoIn_41 rfl (lv_at hl 1 rfl) ?_
        refine g_X4_18 X O hP dX4_areSoIn_42 ?_
        refine lv_iload_n hx hb dX4_areSoIn_45 rfl (lv_at hl 3 rfl) ?_
        obtain ⟨g_8, h⟩ := grd_s h
        refine x_zald X O hP iZ_6 g_8 dX4_areSoIn_46 ?_
        refine lv_icmp_eq (tgt := 52) hx hb dX4_areSoIn_47 (by decide) (fun c_9 => ?_) (fun c_9 => ?_)
        · have h := ite_t c_9 h
          refine lv_iinc (v := v2 + 1) (lv' := [(2, .int (v2 + 1)), (3, .int 1), (0, .ref (ta Θ 3)), (1, .ref (ta Θ n1))]) hx hb dX4_areSoIn_52 hl (k := 3) rfl rfl (by decide) rfl (fun ls hl => ?_)
          refine lv_goto (tgt := 2) hx hb dX4_areSoIn_55 (by decide) ?_
          exact ih (v2 + 1) h _ _ _ hP hS (lv_sub hl [2, 3, 0] rfl)
        · have h := ite_f c_9 h
          refine lv_iconst (v := 0) hx hb dX4_areSoIn_50 (by decide) ?_
          have h := some_i h
          subst h
          exact x_retz X hP hS hr hlk (Or.inl rfl) rfl rfl dX4_areSoIn_51
theorem hd_X4_areSoIn : yX4_areSoIn.cls ≠ "java/lang/invoke/MethodHandle" ∧ yX4_areSoIn.cls ≠ "java/lang/invoke/VarHandle" ∧ (parseMethodDescriptor yX4_areSoIn.desc).map (fun d => d.parameters.length) = some 1 := by decide +kernel
set_option maxHeartbeats 4000000 in
set_option maxRecDepth 100000 in
theorem k_X4_areSoIn {F : Nat} {Θ : TH} {l : Launch} (O : okT Θ (eX Θ) 68) {n1 : Nat} (h1 : isEx n1) (σ0 : Mem) {y : Int32} (h : X4_areSoIn F n1 σ0 = some y) : Met l yX4_areSoIn (Cond.code yX4_areSoIn cX4_areSoIn 4 (some .boolean) :: wAll) rm_X4_areSoIn (va_Pc [.ref (ta Θ 3), .ref (ta Θ n1)] (tS Θ σ0)) (qI Θ y σ0) 0 0 (tA Θ) := by
  refine x_ent (by decide) (Nat.le_of_ble_eq_true rfl) (fun p e s m below meth c X hr hlk hP ls hl => ?_)
  have hS : va_S (tA Θ) s.heap s.heap [] := va_S.rf
  have hl : lv_has ls 4 [(0, .ref (ta Θ 3)), (1, .ref (ta Θ n1))] := hl
  have hx := X.1
  have hb := X.2.1
  unfold X4_areSoIn at h
  refine lv_iconst (v := 0) hx hb dX4_areSoIn_0 (by decide) ?_
  refine lv_istore_n (lv' := [(2, .int 0), (0, .ref (ta Θ 3)), (1, .ref (ta Θ n1))]) hx hb dX4_areSoIn_1 rfl hl (by decide) rfl (fun ls hl => ?_)
  refine w_X4_areSoIn_L2 X O hr hlk h1 σ0  _ (0 : Int32) h _ _ _ hP hS (lv_sub hl [1, 2, 0] rfl)
abbrev rm_X5_renew : Room := { frames := 0, cells := 0, slots := 0, locals := 0 }
set_option maxHeartbeats 4000000 in
set_option maxRecDepth 100000 in
theorem w_X5_renew_L17 {F : Nat} {Θ : TH} {p : Program} {l : Launch} {e : Env} {s : State} {m : MethodId} {args : Array Value} {below : List Frame} {meth : Method} {c : Code} (X : CX Θ p s m args c RX5 cX5_renew 4) (O : okT Θ (eX Θ) 68) (hr : meth.sig.returnType = none) (hlk : meth.locks = false) {n0 : Nat} (h0 : isSh n0) {y : Mem} :
    ∀ (f : Nat) (v3 : Int32) (σ0 : Mem), X5_renew_L17 F n0 f v3 σ0 = some y → ∀ (H : Heap) (locs : List Loc) (ls : Array Slot), va_P (tD Θ) vwCl (tw Θ σ0) H → va_S (tA Θ) s.heap H locs → lv_has ls 4 [(0, .ref (ta Θ n0)), (3, .int v3)] → W p l e rm_X5_renew s m args below meth c H locs 0 0 (MQ below (qV Θ y) args s 0 0 (tA Θ)) (F0 m 17 ls []) := by
  have hx := X.1
  have hb := X.2.1
  intro f
  induction f with
  | zero => intro v3 σ0 h; cases h
  | succ f ih =>
    intro v3 σ0 h H locs ls hP hS hl
    rw [X5_renew_L17] at h
    refine lv_iload_n hx hb dX5_renew_17 rfl (lv_at hl 1 rfl) ?_
    refine lv_bipush (v := 60) hx hb dX5_renew_18 (by decide) ?_
    refine lv_icmp_ge (tgt := 36) hx hb dX5_renew_20 (by decide) (fun c_7 => ?_) (fun c_7 => ?_)
    · have h := ite_t c_7 h
      have h := some_i h
      subst h
      exact x_retv X hP hS hr hlk rfl dX5_renew_36
    · have h := ite_f c_7 h
      refine lv_aload_n hx hb dX5_renew_23 rfl (lv_at hl 0 rfl) ?_
      refine g_X5_9 X O hP h0 dX5_renew_24 ?_
      refine lv_iload_n hx hb dX5_renew_27 rfl (lv_at hl 1 rfl) ?_
      refine lv_iconst (v := 0) hx hb dX5_renew_28 (by decide) ?_
      obtain ⟨g_8, h⟩ := grd_s h
      obtain ⟨σ_9, e_10, h⟩ := bnd_s h
      refine x_iast X O hP hS (iI_X5 h0) g_8 dX5_renew_29 e_10 (fun H locs hP hS => ?_)
      refine lv_iinc (v := v3 + 1) (lv' := [(3, .int (v3 + 1)), (0, .ref (ta Θ n0))]) hx hb dX5_renew_30 hl (k := 1) rfl rfl (by decide) rfl (fun ls hl => ?_)
      refine lv_goto (tgt := 17) hx hb dX5_renew_33 (by decide) ?_
      exact ih (v3 + 1) σ_9 h _ _ _ hP hS (lv_sub hl [1, 0] rfl)
theorem hd_X5_renew : yX5_renew.cls ≠ "java/lang/invoke/MethodHandle" ∧ yX5_renew.cls ≠ "java/lang/invoke/VarHandle" ∧ (parseMethodDescriptor yX5_renew.desc).map (fun d => d.parameters.length) = some 2 := by decide +kernel
set_option maxHeartbeats 4000000 in
set_option maxRecDepth 100000 in
theorem k_X5_renew {F : Nat} {Θ : TH} {l : Launch} (O : okT Θ (eX Θ) 68) {n0 : Nat} (h0 : isSh n0) (v1 : Int32) (v2 : Int32) (σ0 : Mem) {y : Mem} (h : X5_renew F n0 v1 v2 σ0 = some y) : Met l yX5_renew (Cond.code yX5_renew cX5_renew 4 none :: wAll) rm_X5_renew (va_Pc [.ref (ta Θ n0), .int v1, .int v2] (tS Θ σ0)) (qV Θ y) 0 0 (tA Θ) := by
  refine x_ent (by decide) (Nat.le_of_ble_eq_true rfl) (fun p e s m below meth c X hr hlk hP ls hl => ?_)
  have hS : va_S (tA Θ) s.heap s.heap [] := va_S.rf
  have hl : lv_has ls 4 [(0, .ref (ta Θ n0)), (1, .int v1), (2, .int v2)] := hl
  have hx := X.1
  have hb := X.2.1
  unfold X5_renew at h
  refine lv_aload_n hx hb dX5_renew_0 rfl (lv_at hl 0 rfl) ?_
  refine lv_iconst (v := 1) hx hb dX5_renew_1 (by decide) ?_
  obtain ⟨σ_1, e_2, h⟩ := bnd_s h
  refine p_X5_15 X O hP hS h0 rfl rfl dX5_renew_2 e_2 (fun H locs hP hS => ?_)
  refine lv_aload_n hx hb dX5_renew_5 rfl (lv_at hl 0 rfl) ?_
  refine lv_iload_n hx hb dX5_renew_6 rfl (lv_at hl 1 rfl) ?_
  obtain ⟨σ_3, e_4, h⟩ := bnd_s h
  refine p_X5_19 X O hP hS h0 dX5_renew_7 e_4 (fun H locs hP hS => ?_)
  refine lv_aload_n hx hb dX5_renew_10 rfl (lv_at hl 0 rfl) ?_
  refine lv_iload_n hx hb dX5_renew_11 rfl (lv_at hl 2 rfl) ?_
  obtain ⟨σ_5, e_6, h⟩ := bnd_s h
  refine p_X5_23 X O hP hS h0 dX5_renew_12 e_6 (fun H locs hP hS => ?_)
  refine lv_iconst (v := 0) hx hb dX5_renew_15 (by decide) ?_
  refine lv_istore_n (lv' := [(3, .int 0), (0, .ref (ta Θ n0)), (1, .int v1), (2, .int v2)]) hx hb dX5_renew_16 rfl hl (by decide) rfl (fun ls hl => ?_)
  refine w_X5_renew_L17 X O hr hlk h0  _ (0 : Int32) σ_5 h _ _ _ hP hS (lv_sub hl [1, 0] rfl)
abbrev rm_X5_hasCells : Room := { frames := 0, cells := 0, slots := 0, locals := 0 }
theorem hd_X5_hasCells : yX5_hasCells.cls ≠ "java/lang/invoke/MethodHandle" ∧ yX5_hasCells.cls ≠ "java/lang/invoke/VarHandle" ∧ (parseMethodDescriptor yX5_hasCells.desc).map (fun d => d.parameters.length) = some 2 := by decide +kernel
set_option maxHeartbeats 4000000 in
set_option maxRecDepth 100000 in
theorem k_X5_hasCells {Θ : TH} {l : Launch} (O : okT Θ (eX Θ) 68) {n0 : Nat} (h0 : isSh n0) (v1 : Int32) (v2 : Int32) (σ0 : Mem) {y : Int32} (h : X5_hasCells n0 v1 v2 σ0 = y) : Met l yX5_hasCells (Cond.code yX5_hasCells cX5_hasCells 3 (some .boolean) :: wAll) rm_X5_hasCells (va_Pc [.ref (ta Θ n0), .int v1, .int v2] (tS Θ σ0)) (qI Θ y σ0) 0 0 (tA Θ) := by
  refine x_ent (by decide) (Nat.le_of_ble_eq_true rfl) (fun p e s m below meth c X hr hlk hP ls hl => ?_)
  have hS : va_S (tA Θ) s.heap s.heap [] := va_S.rf
  have hl : lv_has ls 3 [(0, .ref (ta Θ n0)), (1, .int v1), (2, .int v2)] := hl
  have hx := X.1
  have hb := X.2.1
  unfold X5_hasCells at h
  refine lv_iload_n hx hb dX5_hasCells_0 rfl (lv_at hl 2 rfl) ?_
  refine lv_if_lt (tgt := 30) hx hb dX5_hasCells_1 (by decide) (fun c_1 => ?_) (fun c_1 => ?_)
  · have h := ite_t c_1 h
    refine lv_iconst (v := 0) hx hb dX5_hasCells_30 (by decide) ?_
    subst h
    exact x_retz X hP hS hr hlk (Or.inl rfl) rfl rfl dX5_hasCells_31
  · have h := ite_f c_1 h
    refine lv_iload_n hx hb dX5_hasCells_4 rfl (lv_at hl 1 rfl) ?_
    refine lv_if_lt (tgt := 30) hx hb dX5_hasCells_5 (by decide) (fun c_2 => ?_) (fun c_2 => ?_)
    · have h := ite_t c_2 h
      refine lv_iconst (v := 0) hx hb dX5_hasCells_30 (by decide) ?_
      subst h
      exact x_retz X hP hS hr hlk (Or.inl rfl) rfl rfl dX5_hasCells_31
    · have h := ite_f c_2 h
      refine lv_iload_n hx hb dX5_hasCells_8 rfl (lv_at hl 1 rfl) ?_
      refine lv_aload_n hx hb dX5_hasCells_9 rfl (lv_at hl 0 rfl) ?_
      refine g_X5_23 X O hP h0 dX5_hasCells_10 ?_
      refine lv_icmp_gt (tgt := 30) hx hb dX5_hasCells_13 (by decide) (fun c_3 => ?_) (fun c_3 => ?_)
      · have h := ite_t c_3 h
        refine lv_iconst (v := 0) hx hb dX5_hasCells_30 (by decide) ?_
        subst h
        exact x_retz X hP hS hr hlk (Or.inl rfl) rfl rfl dX5_hasCells_31
      · have h := ite_f c_3 h
        refine lv_iload_n hx hb dX5_hasCells_16 rfl (lv_at hl 2 rfl) ?_
        refine lv_aload_n hx hb dX5_hasCells_17 rfl (lv_at hl 0 rfl) ?_
        refine g_X5_23 X O hP h0 dX5_hasCells_18 ?_
        refine lv_iload_n hx hb dX5_hasCells_21 rfl (lv_at hl 1 rfl) ?_
        refine lv_isub hx hb dX5_hasCells_22 ?_
        refine lv_icmp_gt (tgt := 30) hx hb dX5_hasCells_23 (by decide) (fun c_4 => ?_) (fun c_4 => ?_)
        · have h := ite_t c_4 h
          refine lv_iconst (v := 0) hx hb dX5_hasCells_30 (by decide) ?_
          subst h
          exact x_retz X hP hS hr hlk (Or.inl rfl) rfl rfl dX5_hasCells_31
        · have h := ite_f c_4 h
          refine lv_iconst (v := 1) hx hb dX5_hasCells_26 (by decide) ?_
          refine lv_goto (tgt := 31) hx hb dX5_hasCells_27 (by decide) ?_
          subst h
          exact x_retz X hP hS hr hlk (Or.inr rfl) rfl rfl dX5_hasCells_31
abbrev rm_X5_faultOfCells : Room := { frames := 1, cells := 0, slots := 0, locals := 22 }
set_option maxHeartbeats 4000000 in
set_option maxRecDepth 100000 in
theorem w_X5_faultOfCells_J17 {Θ : TH} {p : Program} {l : Launch} {e : Env} {s : State} {m : MethodId} {args : Array Value} {below : List Frame} {meth : Method} {c : Code} (X : CX Θ p s m args c RX5 cX5_faultOfCells 4) (O : okT Θ (eX Θ) 68) (hr : meth.sig.returnType = some .int) (hlk : meth.locks = false) {y : Int32} {n0 : Nat} (h0 : isSh n0) (v2 : Int32) (v3 : Int32) (σ0 : Mem) (h : X5_faultOfCells_J17 n0 v2 v3 σ0 = y) (H : Heap) (locs : List Loc) (ls : Array Slot) (hP : va_P (tD Θ) vwCl (tw Θ σ0) H) (hS : va_S (tA Θ) s.heap H locs) (hl : lv_has ls 4 [(0, .ref (ta Θ n0)), (2, .int v2), (3, .int v3)]) : W p l e rm_X5_faultOfCells s m args below meth c H locs 0 0 (MQ below (qI Θ y σ0) args s 0 0 (tA Θ)) (F0 m 17 ls []) := by
  have hx := X.1
  have hb := X.2.1
  unfold X5_faultOfCells_J17 at h
  refine lv_aload_n hx hb dX5_faultOfCells_17 rfl (lv_at hl 0 rfl) ?_
  refine g_X5_15 X O hP h0 dX5_faultOfCells_18 ?_
  refine lv_if_ne (tgt := 26) hx hb dX5_faultOfCells_21 (by decide) (fun c_2 => ?_) (fun c_2 => ?_)
  · have h := ite_f c_2 h
    refine lv_iload_n hx hb dX5_faultOfCells_26 rfl (lv_at hl 2 rfl) ?_
    refine lv_if_ge (tgt := 32) hx hb dX5_faultOfCells_27 (by decide) (fun c_3 => ?_) (fun c_3 => ?_)
    · have h := ite_t c_3 h
      refine lv_aload_n hx hb dX5_faultOfCells_32 rfl (lv_at hl 0 rfl) ?_
      refine lv_iload_n hx hb dX5_faultOfCells_33 rfl (lv_at hl 1 rfl) ?_
      refine lv_iload_n hx hb dX5_faultOfCells_34 rfl (lv_at hl 2 rfl) ?_
      refine x_calli (x_runV X O hP hS hl.1 (As := [.int v2, .int v3]) (rest := []) (k_X5_hasCells O h0 v2 v3 σ0 rfl) (lt_X5 h0) (e_X5 h0 _) rfl wM_X5_26 wI_yX5_hasCells wS_yX5_hasCells wN_X5 wC_yX5_hasCells hd_X5_hasCells rfl ⟨rfl, rfl⟩ ⟨(Nat.le_of_ble_eq_true rfl), (Nat.le_of_ble_eq_true rfl)⟩ ⟨Nat.zero_le _, Nat.zero_le _⟩ rfl (Nat.le_of_ble_eq_true rfl) dX5_faultOfCells_35) hS (fun H locs hP hS => ?_)
      refine lv_if_eq (tgt := 45) hx hb dX5_faultOfCells_38 (by decide) (fun c_4 => ?_) (fun c_4 => ?_)
      · have h := ite_t c_4 h
        refine lv_iconst (v := 3) hx hb dX5_faultOfCells_45 (by decide) ?_
        subst h
        exact x_reti X hP hS hr hlk rfl rfl dX5_faultOfCells_46
      · have h := ite_f c_4 h
        refine lv_iconst (v := 0) hx hb dX5_faultOfCells_41 (by decide) ?_
        refine lv_goto (tgt := 46) hx hb dX5_faultOfCells_42 (by decide) ?_
        subst h
        exact x_reti X hP hS hr hlk rfl rfl dX5_faultOfCells_46
    · have h := ite_f c_3 h
      refine lv_iconst (v := 4) hx hb dX5_faultOfCells_30 (by decide) ?_
      subst h
      exact x_reti X hP hS hr hlk rfl rfl dX5_faultOfCells_31
  · have h := ite_t c_2 h
    refine lv_iconst (v := 1) hx hb dX5_faultOfCells_24 (by decide) ?_
    subst h
    exact x_reti X hP hS hr hlk rfl rfl dX5_faultOfCells_25
theorem hd_X5_faultOfCells : yX5_faultOfCells.cls ≠ "java/lang/invoke/MethodHandle" ∧ yX5_faultOfCells.cls ≠ "java/lang/invoke/VarHandle" ∧ (parseMethodDescriptor yX5_faultOfCells.desc).map (fun d => d.parameters.length) = some 3 := by decide +kernel
set_option maxHeartbeats 4000000 in
set_option maxRecDepth 100000 in
theorem k_X5_faultOfCells {Θ : TH} {l : Launch} (O : okT Θ (eX Θ) 68) {n0 : Nat} (h0 : isSh n0) (v1 : Int32) (v2 : Int32) (v3 : Int32) (σ0 : Mem) {y : Int32} (h : X5_faultOfCells n0 v1 v2 v3 σ0 = y) : Met l yX5_faultOfCells (Cond.code yX5_faultOfCells cX5_faultOfCells 4 (some .int) :: wAll) rm_X5_faultOfCells (va_Pc [.ref (ta Θ n0), .int v1, .int v2, .int v3] (tS Θ σ0)) (qI Θ y σ0) 0 0 (tA Θ) := by
  refine x_ent (by decide) (Nat.le_of_ble_eq_true rfl) (fun p e s m below meth c X hr hlk hP ls hl => ?_)
  have hS : va_S (tA Θ) s.heap s.heap [] := va_S.rf
  have hl : lv_has ls 4 [(0, .ref (ta Θ n0)), (1, .int v1), (2, .int v2), (3, .int v3)] := hl
  have hx := X.1
  have hb := X.2.1
  unfold X5_faultOfCells at h
  refine lv_aload_n hx hb dX5_faultOfCells_0 rfl (lv_at hl 0 rfl) ?_
  refine g_X5_15 X O hP h0 dX5_faultOfCells_1 ?_
  refine lv_if_eq (tgt := 17) hx hb dX5_faultOfCells_4 (by decide) (fun c_1 => ?_) (fun c_1 => ?_)
  · have h := ite_t c_1 h
    exact w_X5_faultOfCells_J17 X O hr hlk h0 v2 v3 σ0 h _ _ _ hP hS (lv_sub hl [0, 2, 3] rfl)
  · have h := ite_f c_1 h
    refine lv_aload_n hx hb dX5_faultOfCells_7 rfl (lv_at hl 0 rfl) ?_
    refine g_X5_19 X O hP h0 dX5_faultOfCells_8 ?_
    refine lv_iload_n hx hb dX5_faultOfCells_11 rfl (lv_at hl 1 rfl) ?_
    refine lv_icmp_eq (tgt := 17) hx hb dX5_faultOfCells_12 (by decide) (fun c_5 => ?_) (fun c_5 => ?_)
    · have h := ite_t c_5 h
      exact w_X5_faultOfCells_J17 X O hr hlk h0 v2 v3 σ0 h _ _ _ hP hS (lv_sub hl [0, 2, 3] rfl)
    · have h := ite_f c_5 h
      refine lv_iconst (v := 2) hx hb dX5_faultOfCells_15 (by decide) ?_
      subst h
      exact x_reti X hP hS hr hlk rfl rfl dX5_faultOfCells_16
