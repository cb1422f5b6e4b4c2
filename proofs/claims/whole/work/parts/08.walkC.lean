-- walks (printed by gen2.py)
abbrev rm_X7_in : Room := { frames := 0, cells := 0, slots := 0, locals := 0 }
theorem hd_X7_in : yX7_in.cls ≠ "java/lang/invoke/MethodHandle" ∧ yX7_in.cls ≠ "java/lang/invoke/VarHandle" ∧ (parseMethodDescriptor yX7_in.desc).map (fun d => d.parameters.length) = some 3 := by decide +kernel
set_option maxHeartbeats 4000000 in
set_option maxRecDepth 100000 in
theorem k_X7_in {Θ : TH} {l : Launch} (O : okT Θ (eM Θ) 23) (v0 : Int64) (v2 : Int64) (v4 : Int64) (σ0 : Mem) {y : Int32} (h : X7_in v0 v2 v4 = y) : Met l yX7_in (Cond.code yX7_in cX7_in 6 (some .boolean) :: wAll) rm_X7_in (va_Pc [.long v0, .long v2, .long v4] (tS Θ σ0)) (qI Θ y σ0) 0 0 (tA Θ) := by
  refine x_ent (by decide) (Nat.le_of_ble_eq_true rfl) (fun p e s m below meth c X hr hlk hP ls hl => ?_)
  have hS : va_S (tA Θ) s.heap s.heap [] := va_S.rf
  have hl : lv_has ls 6 [(0, .long v0), (2, .long v2), (4, .long v4)] := hl
  have hx := X.1
  have hb := X.2.1
  unfold X7_in at h
  refine lv_lload_n hx hb dX7_in_0 rfl (lv_at hl 0 rfl) ?_
  refine lv_lload_n hx hb dX7_in_1 rfl (lv_at hl 1 rfl) ?_
  refine W.lcmp hx hb dX7_in_2 ?_
  refine lv_if_lt (tgt := 17) hx hb dX7_in_3 (by decide) (fun c_1 => ?_) (fun c_1 => ?_)
  · have h := ite_t c_1 h
    refine lv_iconst (v := 0) hx hb dX7_in_17 (by decide) ?_
    subst h
    exact x_retz X hP hS hr hlk (Or.inl rfl) rfl rfl dX7_in_18
  · have h := ite_f c_1 h
    refine lv_lload_n hx hb dX7_in_6 rfl (lv_at hl 0 rfl) ?_
    refine lv_lload hx hb dX7_in_7 (lv_at hl 2 rfl) ?_
    refine W.lcmp hx hb dX7_in_9 ?_
    refine lv_if_gt (tgt := 17) hx hb dX7_in_10 (by decide) (fun c_2 => ?_) (fun c_2 => ?_)
    · have h := ite_t c_2 h
      refine lv_iconst (v := 0) hx hb dX7_in_17 (by decide) ?_
      subst h
      exact x_retz X hP hS hr hlk (Or.inl rfl) rfl rfl dX7_in_18
    · have h := ite_f c_2 h
      refine lv_iconst (v := 1) hx hb dX7_in_13 (by decide) ?_
      refine lv_goto (tgt := 18) hx hb dX7_in_14 (by decide) ?_
      subst h
      exact x_retz X hP hS hr hlk (Or.inr rfl) rfl rfl dX7_in_18
abbrev rm_X7_lost : Room := { frames := 0, cells := 0, slots := 0, locals := 0 }
theorem hd_X7_lost : yX7_lost.cls ≠ "java/lang/invoke/MethodHandle" ∧ yX7_lost.cls ≠ "java/lang/invoke/VarHandle" ∧ (parseMethodDescriptor yX7_lost.desc).map (fun d => d.parameters.length) = some 0 := by decide +kernel
set_option maxHeartbeats 4000000 in
set_option maxRecDepth 100000 in
theorem k_X7_lost {Θ : TH} {l : Launch} (O : okT Θ (eM Θ) 23) (σ0 : Mem) {y : Int64} (h : X7_lost = y) : Met l yX7_lost (Cond.code yX7_lost cX7_lost 0 (some .long) :: wAll) rm_X7_lost (va_Pc [] (tS Θ σ0)) (qL Θ y σ0) 0 0 (tA Θ) := by
  refine x_ent (by decide) (Nat.le_of_ble_eq_true rfl) (fun p e s m below meth c X hr hlk hP ls hl => ?_)
  have hS : va_S (tA Θ) s.heap s.heap [] := va_S.rf
  have hl : lv_has ls 0 [] := hl
  have hx := X.1
  have hb := X.2.1
  unfold X7_lost at h
  refine lv_ldc2 (v := (-9223372036854775808)) hx hb X.2.2.2.1 (X.2.2.2.2.1 _ wL_X7_77) dX7_lost_0 ?_
  subst h
  exact x_retl X hP hS hr hlk rfl rfl dX7_lost_3
abbrev rm_X7_isIn : Room := { frames := 0, cells := 0, slots := 0, locals := 0 }
theorem hd_X7_isIn : yX7_isIn.cls ≠ "java/lang/invoke/MethodHandle" ∧ yX7_isIn.cls ≠ "java/lang/invoke/VarHandle" ∧ (parseMethodDescriptor yX7_isIn.desc).map (fun d => d.parameters.length) = some 2 := by decide +kernel
set_option maxHeartbeats 4000000 in
set_option maxRecDepth 100000 in
theorem k_X7_isIn {Θ : TH} {l : Launch} (O : okT Θ (eM Θ) 23) (v0 : Int32) (v1 : Int32) (σ0 : Mem) {y : Int32} (h : X7_isIn v0 v1 = y) : Met l yX7_isIn (Cond.code yX7_isIn cX7_isIn 2 (some .boolean) :: wAll) rm_X7_isIn (va_Pc [.int v0, .int v1] (tS Θ σ0)) (qI Θ y σ0) 0 0 (tA Θ) := by
  refine x_ent (by decide) (Nat.le_of_ble_eq_true rfl) (fun p e s m below meth c X hr hlk hP ls hl => ?_)
  have hS : va_S (tA Θ) s.heap s.heap [] := va_S.rf
  have hl : lv_has ls 2 [(0, .int v0), (1, .int v1)] := hl
  have hx := X.1
  have hb := X.2.1
  unfold X7_isIn at h
  refine lv_iload_n hx hb dX7_isIn_0 rfl (lv_at hl 0 rfl) ?_
  refine lv_iload_n hx hb dX7_isIn_1 rfl (lv_at hl 1 rfl) ?_
  refine lv_ishr hx hb dX7_isIn_2 ?_
  refine lv_iconst (v := 1) hx hb dX7_isIn_3 (by decide) ?_
  refine lv_iand hx hb dX7_isIn_4 ?_
  refine lv_iconst (v := 1) hx hb dX7_isIn_5 (by decide) ?_
  refine lv_icmp_ne (tgt := 13) hx hb dX7_isIn_6 (by decide) (fun c_1 => ?_) (fun c_1 => ?_)
  · have h := ite_f c_1 h
    refine lv_iconst (v := 0) hx hb dX7_isIn_13 (by decide) ?_
    subst h
    exact x_retz X hP hS hr hlk (Or.inl rfl) rfl rfl dX7_isIn_14
  · have h := ite_t c_1 h
    refine lv_iconst (v := 1) hx hb dX7_isIn_9 (by decide) ?_
    refine lv_goto (tgt := 14) hx hb dX7_isIn_10 (by decide) ?_
    subst h
    exact x_retz X hP hS hr hlk (Or.inr rfl) rfl rfl dX7_isIn_14
abbrev rm_X7_refused : Room := { frames := 0, cells := 0, slots := 0, locals := 0 }
theorem hd_X7_refused : yX7_refused.cls ≠ "java/lang/invoke/MethodHandle" ∧ yX7_refused.cls ≠ "java/lang/invoke/VarHandle" ∧ (parseMethodDescriptor yX7_refused.desc).map (fun d => d.parameters.length) = some 1 := by decide +kernel
set_option maxHeartbeats 4000000 in
set_option maxRecDepth 100000 in
theorem k_X7_refused {Θ : TH} {l : Launch} (O : okT Θ (eM Θ) 23) (v1 : Int32) (σ0 : Mem) {y : Int32 × Mem} (h : X7_refused v1 σ0 = y) : Met l yX7_refused (Cond.code yX7_refused cX7_refused 2 (some .int) :: wAll) rm_X7_refused (va_Pc [.ref (ta Θ 0), .int v1] (tS Θ σ0)) (qI Θ y.1 y.2) 0 0 (tA Θ) := by
  refine x_ent (by decide) (Nat.le_of_ble_eq_true rfl) (fun p e s m below meth c X hr hlk hP ls hl => ?_)
  have hS : va_S (tA Θ) s.heap s.heap [] := va_S.rf
  have hl : lv_has ls 2 [(0, .ref (ta Θ 0)), (1, .int v1)] := hl
  have hx := X.1
  have hb := X.2.1
  unfold X7_refused at h
  refine lv_aload_n hx hb dX7_refused_0 rfl (lv_at hl 0 rfl) ?_
  refine lv_iconst (v := 0) hx hb dX7_refused_1 (by decide) ?_
  obtain ⟨σ_1, e_2, h⟩ := bnd_s h
  refine p_X7_79 X O hP hS dX7_refused_2 e_2 (fun H locs hP hS => ?_)
  refine lv_iload_n hx hb dX7_refused_5 rfl (lv_at hl 1 rfl) ?_
  subst h
  exact x_reti X hP hS hr hlk rfl rfl dX7_refused_6
abbrev rm_X7_failed : Room := { frames := 0, cells := 0, slots := 0, locals := 0 }
theorem hd_X7_failed : yX7_failed.cls ≠ "java/lang/invoke/MethodHandle" ∧ yX7_failed.cls ≠ "java/lang/invoke/VarHandle" ∧ (parseMethodDescriptor yX7_failed.desc).map (fun d => d.parameters.length) = some 1 := by decide +kernel
set_option maxHeartbeats 4000000 in
set_option maxRecDepth 100000 in
theorem k_X7_failed {Θ : TH} {l : Launch} (O : okT Θ (eM Θ) 23) (v1 : Int32) (σ0 : Mem) {y : Int32 × Mem} (h : X7_failed v1 σ0 = y) : Met l yX7_failed (Cond.code yX7_failed cX7_failed 2 (some .int) :: wAll) rm_X7_failed (va_Pc [.ref (ta Θ 0), .int v1] (tS Θ σ0)) (qI Θ y.1 y.2) 0 0 (tA Θ) := by
  refine x_ent (by decide) (Nat.le_of_ble_eq_true rfl) (fun p e s m below meth c X hr hlk hP ls hl => ?_)
  have hS : va_S (tA Θ) s.heap s.heap [] := va_S.rf
  have hl : lv_has ls 2 [(0, .ref (ta Θ 0)), (1, .int v1)] := hl
  have hx := X.1
  have hb := X.2.1
  unfold X7_failed at h
  refine lv_aload_n hx hb dX7_failed_0 rfl (lv_at hl 0 rfl) ?_
  refine lv_iload_n hx hb dX7_failed_1 rfl (lv_at hl 1 rfl) ?_
  obtain ⟨σ_1, e_2, h⟩ := bnd_s h
  refine p_X7_79 X O hP hS dX7_failed_2 e_2 (fun H locs hP hS => ?_)
  refine lv_bipush (v := (-10)) hx hb dX7_failed_5 (by decide) ?_
  refine lv_iload_n hx hb dX7_failed_7 rfl (lv_at hl 1 rfl) ?_
  refine lv_isub hx hb dX7_failed_8 ?_
  subst h
  exact x_reti X hP hS hr hlk rfl rfl dX7_failed_9
abbrev rm_X7_failedLong : Room := { frames := 1, cells := 0, slots := 0, locals := 19 }
theorem hd_X7_failedLong : yX7_failedLong.cls ≠ "java/lang/invoke/MethodHandle" ∧ yX7_failedLong.cls ≠ "java/lang/invoke/VarHandle" ∧ (parseMethodDescriptor yX7_failedLong.desc).map (fun d => d.parameters.length) = some 1 := by decide +kernel
set_option maxHeartbeats 4000000 in
set_option maxRecDepth 100000 in
theorem k_X7_failedLong {Θ : TH} {l : Launch} (O : okT Θ (eM Θ) 23) (v1 : Int32) (σ0 : Mem) {y : Int64 × Mem} (h : X7_failedLong v1 σ0 = y) : Met l yX7_failedLong (Cond.code yX7_failedLong cX7_failedLong 2 (some .long) :: wAll) rm_X7_failedLong (va_Pc [.ref (ta Θ 0), .int v1] (tS Θ σ0)) (qL Θ y.1 y.2) 0 0 (tA Θ) := by
  refine x_ent (by decide) (Nat.le_of_ble_eq_true rfl) (fun p e s m below meth c X hr hlk hP ls hl => ?_)
  have hS : va_S (tA Θ) s.heap s.heap [] := va_S.rf
  have hl : lv_has ls 2 [(0, .ref (ta Θ 0)), (1, .int v1)] := hl
  have hx := X.1
  have hb := X.2.1
  unfold X7_failedLong at h
  refine lv_aload_n hx hb dX7_failedLong_0 rfl (lv_at hl 0 rfl) ?_
  refine lv_iload_n hx hb dX7_failedLong_1 rfl (lv_at hl 1 rfl) ?_
  obtain ⟨σ_1, e_2, h⟩ := bnd_s h
  refine p_X7_79 X O hP hS dX7_failedLong_2 e_2 (fun H locs hP hS => ?_)
  refine x_calll (x_runS X hP hS hl.1 (As := []) (rest := []) (k_X7_lost O σ_1 rfl) wM_X7_83 wT_yX7_lost wN_X7 wC_yX7_lost hd_X7_lost rfl ⟨rfl, rfl⟩ ⟨(Nat.le_of_ble_eq_true rfl), (Nat.le_of_ble_eq_true rfl)⟩ ⟨Nat.zero_le _, Nat.zero_le _⟩ rfl (Nat.le_of_ble_eq_true rfl) dX7_failedLong_5) hS (fun H locs hP hS => ?_)
  subst h
  exact x_retl X hP hS hr hlk rfl rfl dX7_failedLong_8
abbrev rm_X7_noPerson : Room := { frames := 1, cells := 0, slots := 0, locals := 25 }
theorem hd_X7_noPerson : yX7_noPerson.cls ≠ "java/lang/invoke/MethodHandle" ∧ yX7_noPerson.cls ≠ "java/lang/invoke/VarHandle" ∧ (parseMethodDescriptor yX7_noPerson.desc).map (fun d => d.parameters.length) = some 1 := by decide +kernel
set_option maxHeartbeats 4000000 in
set_option maxRecDepth 100000 in
theorem k_X7_noPerson {Θ : TH} {l : Launch} (O : okT Θ (eM Θ) 23) (v1 : Int32) (σ0 : Mem) {y : Int32} (h : X7_noPerson v1 σ0 = y) : Met l yX7_noPerson (Cond.code yX7_noPerson cX7_noPerson 2 (some .boolean) :: wAll) rm_X7_noPerson (va_Pc [.ref (ta Θ 0), .int v1] (tS Θ σ0)) (qI Θ y σ0) 0 0 (tA Θ) := by
  refine x_ent (by decide) (Nat.le_of_ble_eq_true rfl) (fun p e s m below meth c X hr hlk hP ls hl => ?_)
  have hS : va_S (tA Θ) s.heap s.heap [] := va_S.rf
  have hl : lv_has ls 2 [(0, .ref (ta Θ 0)), (1, .int v1)] := hl
  have hx := X.1
  have hb := X.2.1
  unfold X7_noPerson at h
  refine lv_iload_n hx hb dX7_noPerson_0 rfl (lv_at hl 1 rfl) ?_
  refine lv_i2l (v := v1.toInt64) hx hb dX7_noPerson_1 rfl ?_
  refine lv_lconst (v := 0) hx hb dX7_noPerson_2 (by decide) ?_
  refine lv_aload_n hx hb dX7_noPerson_3 rfl (lv_at hl 0 rfl) ?_
  refine g_X7_87 X O hP dX7_noPerson_4 ?_
  refine lv_i2l (v := (σ0 0 1).toInt64) hx hb dX7_noPerson_7 rfl ?_
  refine lv_lconst (v := 1) hx hb dX7_noPerson_8 (by decide) ?_
  refine lv_lsub hx hb dX7_noPerson_9 ?_
  refine x_calli (x_runS X hP hS hl.1 (As := [.long v1.toInt64, .long 0, .long (((σ0 0 1).toInt64) - 1)]) (rest := []) (k_X7_in O v1.toInt64 (0 : Int64) (((σ0 0 1).toInt64) - 1) σ0 rfl) wM_X7_90 wT_yX7_in wN_X7 wC_yX7_in hd_X7_in rfl ⟨rfl, rfl⟩ ⟨(Nat.le_of_ble_eq_true rfl), (Nat.le_of_ble_eq_true rfl)⟩ ⟨Nat.zero_le _, Nat.zero_le _⟩ rfl (Nat.le_of_ble_eq_true rfl) dX7_noPerson_10) hS (fun H locs hP hS => ?_)
  refine lv_if_ne (tgt := 20) hx hb dX7_noPerson_13 (by decide) (fun c_1 => ?_) (fun c_1 => ?_)
  · have h := ite_f c_1 h
    refine lv_iconst (v := 0) hx hb dX7_noPerson_20 (by decide) ?_
    subst h
    exact x_retz X hP hS hr hlk (Or.inl rfl) rfl rfl dX7_noPerson_21
  · have h := ite_t c_1 h
    refine lv_iconst (v := 1) hx hb dX7_noPerson_16 (by decide) ?_
    refine lv_goto (tgt := 21) hx hb dX7_noPerson_17 (by decide) ?_
    subst h
    exact x_retz X hP hS hr hlk (Or.inr rfl) rfl rfl dX7_noPerson_21
abbrev rm_X7_codeAt : Room := { frames := 0, cells := 0, slots := 0, locals := 0 }
theorem hd_X7_codeAt : yX7_codeAt.cls ≠ "java/lang/invoke/MethodHandle" ∧ yX7_codeAt.cls ≠ "java/lang/invoke/VarHandle" ∧ (parseMethodDescriptor yX7_codeAt.desc).map (fun d => d.parameters.length) = some 2 := by decide +kernel
set_option maxHeartbeats 4000000 in
set_option maxRecDepth 100000 in
theorem k_X7_codeAt {Θ : TH} {l : Launch} (O : okT Θ (eM Θ) 23) (v1 : Int32) (v2 : Int32) (σ0 : Mem) {y : Int32} (h : X7_codeAt v1 v2 σ0 = some y) : Met l yX7_codeAt (Cond.code yX7_codeAt cX7_codeAt 3 (some .int) :: wAll) rm_X7_codeAt (va_Pc [.ref (ta Θ 0), .int v1, .int v2] (tS Θ σ0)) (qI Θ y σ0) 0 0 (tA Θ) := by
  refine x_ent (by decide) (Nat.le_of_ble_eq_true rfl) (fun p e s m below meth c X hr hlk hP ls hl => ?_)
  have hS : va_S (tA Θ) s.heap s.heap [] := va_S.rf
  have hl : lv_has ls 3 [(0, .ref (ta Θ 0)), (1, .int v1), (2, .int v2)] := hl
  have hx := X.1
  have hb := X.2.1
  unfold X7_codeAt at h
  refine lv_aload_n hx hb dX7_codeAt_0 rfl (lv_at hl 0 rfl) ?_
  refine g_X7_94 X O hP dX7_codeAt_1 ?_
  refine lv_iload_n hx hb dX7_codeAt_4 rfl (lv_at hl 2 rfl) ?_
  refine lv_icmp_ge (tgt := 22) hx hb dX7_codeAt_5 (by decide) (fun c_1 => ?_) (fun c_1 => ?_)
  · have h := ite_t c_1 h
    refine lv_bipush (v := (-9)) hx hb dX7_codeAt_22 (by decide) ?_
    have h := some_i h
    subst h
    exact x_reti X hP hS hr hlk rfl rfl dX7_codeAt_24
  · have h := ite_f c_1 h
    refine lv_aload_n hx hb dX7_codeAt_8 rfl (lv_at hl 0 rfl) ?_
    refine g_X7_71 X O hP dX7_codeAt_9 ?_
    refine lv_iload_n hx hb dX7_codeAt_12 rfl (lv_at hl 1 rfl) ?_
    refine lv_aload_n hx hb dX7_codeAt_13 rfl (lv_at hl 0 rfl) ?_
    refine g_X7_94 X O hP dX7_codeAt_14 ?_
    refine lv_iadd hx hb dX7_codeAt_17 ?_
    obtain ⟨g_2, h⟩ := grd_s h
    refine x_iald X O hP mI_21 g_2 dX7_codeAt_18 ?_
    refine lv_goto (tgt := 24) hx hb dX7_codeAt_19 (by decide) ?_
    have h := some_i h
    subst h
    exact x_reti X hP hS hr hlk rfl rfl dX7_codeAt_24
abbrev rm_X7_figure : Room := { frames := 1, cells := 0, slots := 0, locals := 25 }
theorem hd_X7_figure : yX7_figure.cls ≠ "java/lang/invoke/MethodHandle" ∧ yX7_figure.cls ≠ "java/lang/invoke/VarHandle" ∧ (parseMethodDescriptor yX7_figure.desc).map (fun d => d.parameters.length) = some 4 := by decide +kernel
set_option maxHeartbeats 4000000 in
set_option maxRecDepth 100000 in
theorem k_X7_figure {Θ : TH} {l : Launch} (O : okT Θ (eM Θ) 23) (v1 : Int32) (v2 : Int32) (v3 : Int32) (v4 : Int32) (σ0 : Mem) {y : Int32 × Mem} (h : X7_figure v1 v2 v3 v4 σ0 = some y) : Met l yX7_figure (Cond.code yX7_figure cX7_figure 7 (some .int) :: wAll) rm_X7_figure (va_Pc [.ref (ta Θ 0), .int v1, .int v2, .int v3, .int v4] (tS Θ σ0)) (qI Θ y.1 y.2) 0 0 (tA Θ) := by
  refine x_ent (by decide) (Nat.le_of_ble_eq_true rfl) (fun p e s m below meth c X hr hlk hP ls hl => ?_)
  have hS : va_S (tA Θ) s.heap s.heap [] := va_S.rf
  have hl : lv_has ls 7 [(0, .ref (ta Θ 0)), (1, .int v1), (2, .int v2), (3, .int v3), (4, .int v4)] := hl
  have hx := X.1
  have hb := X.2.1
  unfold X7_figure at h
  refine lv_aload_n hx hb dX7_figure_0 rfl (lv_at hl 0 rfl) ?_
  refine lv_iload_n hx hb dX7_figure_1 rfl (lv_at hl 1 rfl) ?_
  refine lv_iload_n hx hb dX7_figure_2 rfl (lv_at hl 2 rfl) ?_
  obtain ⟨z_1, e_2, h⟩ := ob_s h
  refine x_calli (x_runV X O hP hS hl.1 (As := [.int v1, .int v2]) (rest := []) (k_X7_codeAt O v1 v2 σ0 e_2) lt_X7 (e_X7 _) rfl wM_X7_97 wI_yX7_codeAt wS_yX7_codeAt wN_X7 wC_yX7_codeAt hd_X7_codeAt rfl ⟨rfl, rfl⟩ ⟨(Nat.le_of_ble_eq_true rfl), (Nat.le_of_ble_eq_true rfl)⟩ ⟨Nat.zero_le _, Nat.zero_le _⟩ rfl (Nat.le_of_ble_eq_true rfl) dX7_figure_3) hS (fun H locs hP hS => ?_)
  refine lv_bipush (v := 48) hx hb dX7_figure_6 (by decide) ?_
  refine lv_isub hx hb dX7_figure_8 ?_
  obtain ⟨v5_3, e_4, h⟩ := bnd_s h
  refine lv_nam e_4 ?_
  refine lv_istore (lv' := [(5, .int v5_3), (0, .ref (ta Θ 0)), (1, .int v1), (2, .int v2), (3, .int v3), (4, .int v4)]) hx hb dX7_figure_9 hl (by decide) rfl (fun ls hl => ?_)
  refine lv_iload hx hb dX7_figure_11 (lv_at hl 0 rfl) ?_
  refine lv_i2l (v := v5_3.toInt64) hx hb dX7_figure_13 rfl ?_
  refine lv_iload_n hx hb dX7_figure_14 rfl (lv_at hl 4 rfl) ?_
  refine lv_i2l (v := v3.toInt64) hx hb dX7_figure_15 rfl ?_
  refine lv_iload hx hb dX7_figure_16 (lv_at hl 5 rfl) ?_
  refine lv_i2l (v := v4.toInt64) hx hb dX7_figure_18 rfl ?_
  refine x_calli (x_runS X hP hS hl.1 (As := [.long v5_3.toInt64, .long v3.toInt64, .long v4.toInt64]) (rest := []) (k_X7_in O v5_3.toInt64 v3.toInt64 v4.toInt64 σ0 rfl) wM_X7_90 wT_yX7_in wN_X7 wC_yX7_in hd_X7_in rfl ⟨rfl, rfl⟩ ⟨(Nat.le_of_ble_eq_true rfl), (Nat.le_of_ble_eq_true rfl)⟩ ⟨Nat.zero_le _, Nat.zero_le _⟩ rfl (Nat.le_of_ble_eq_true rfl) dX7_figure_19) hS (fun H locs hP hS => ?_)
  obtain ⟨v6_5, e_6, h⟩ := bnd_s h
  refine lv_nam e_6 ?_
  refine lv_istore (lv' := [(6, .int v6_5), (5, .int v5_3), (0, .ref (ta Θ 0)), (1, .int v1), (2, .int v2), (3, .int v3), (4, .int v4)]) hx hb dX7_figure_22 hl (by decide) rfl (fun ls hl => ?_)
  refine lv_aload_n hx hb dX7_figure_24 rfl (lv_at hl 2 rfl) ?_
  refine lv_dup hx hb dX7_figure_25 rfl ?_
  refine g_X7_94 X O hP dX7_figure_26 ?_
  refine lv_iload hx hb dX7_figure_29 (lv_at hl 0 rfl) ?_
  refine lv_if_eq (tgt := 38) hx hb dX7_figure_31 (by decide) (fun c_7 => ?_) (fun c_7 => ?_)
  · have h := ite_t c_7 h
    refine lv_iconst (v := 0) hx hb dX7_figure_38 (by decide) ?_
    refine lv_iadd hx hb dX7_figure_39 ?_
    obtain ⟨σ_8, e_9, h⟩ := bnd_s h
    refine p_X7_94 X O hP hS dX7_figure_40 e_9 (fun H locs hP hS => ?_)
    refine lv_iload hx hb dX7_figure_43 (lv_at hl 0 rfl) ?_
    refine lv_if_eq (tgt := 53) hx hb dX7_figure_45 (by decide) (fun c_10 => ?_) (fun c_10 => ?_)
    · have h := ite_t c_10 h
      refine lv_bipush (v := (-9)) hx hb dX7_figure_53 (by decide) ?_
      have h := some_i h
      subst h
      exact x_reti X hP hS hr hlk rfl rfl dX7_figure_55
    · have h := ite_f c_10 h
      refine lv_iload hx hb dX7_figure_48 (lv_at hl 1 rfl) ?_
      refine lv_goto (tgt := 55) hx hb dX7_figure_50 (by decide) ?_
      have h := some_i h
      subst h
      exact x_reti X hP hS hr hlk rfl rfl dX7_figure_55
  · have h := ite_f c_7 h
    refine lv_iconst (v := 1) hx hb dX7_figure_34 (by decide) ?_
    refine lv_goto (tgt := 39) hx hb dX7_figure_35 (by decide) ?_
    refine lv_iadd hx hb dX7_figure_39 ?_
    obtain ⟨σ_11, e_12, h⟩ := bnd_s h
    refine p_X7_94 X O hP hS dX7_figure_40 e_12 (fun H locs hP hS => ?_)
    refine lv_iload hx hb dX7_figure_43 (lv_at hl 0 rfl) ?_
    refine lv_if_eq (tgt := 53) hx hb dX7_figure_45 (by decide) (fun c_13 => ?_) (fun c_13 => ?_)
    · have h := ite_t c_13 h
      refine lv_bipush (v := (-9)) hx hb dX7_figure_53 (by decide) ?_
      have h := some_i h
      subst h
      exact x_reti X hP hS hr hlk rfl rfl dX7_figure_55
    · have h := ite_f c_13 h
      refine lv_iload hx hb dX7_figure_48 (lv_at hl 1 rfl) ?_
      refine lv_goto (tgt := 55) hx hb dX7_figure_50 (by decide) ?_
      have h := some_i h
      subst h
      exact x_reti X hP hS hr hlk rfl rfl dX7_figure_55
abbrev rm_X7_readsPerson : Room := { frames := 2, cells := 0, slots := 0, locals := 51 }
set_option maxHeartbeats 4000000 in
set_option maxRecDepth 100000 in
theorem w_X7_readsPerson_J190 {Θ : TH} {p : Program} {l : Launch} {e : Env} {s : State} {m : MethodId} {args : Array Value} {below : List Frame} {meth : Method} {c : Code} (X : CX Θ p s m args c RX7 cX7_readsPerson 8) (O : okT Θ (eM Θ) 23) (hr : meth.sig.returnType = some .boolean) (hlk : meth.locks = false) {y : Int32 × Mem} (v4 : Int32) (v5 : Int32) (v6 : Int32) (v7 : Int32) (w1 : Int32) (w2 : Int32) (σ0 : Mem) (h : X7_readsPerson_J190 v4 v5 v6 v7 w1 w2 σ0 = some y) (H : Heap) (locs : List Loc) (ls : Array Slot) (hP : va_P (tD Θ) vwCl (tw Θ σ0) H) (hS : va_S (tA Θ) s.heap H locs) (hl : lv_has ls 8 [(0, .ref (ta Θ 0)), (4, .int v4), (5, .int v5), (6, .int v6), (7, .int v7)]) : W p l e rm_X7_readsPerson s m args below meth c H locs 0 0 (MQ below (qI Θ y.1 y.2) args s 0 0 (tA Θ)) (F0 m 190 ls [.int w2, .int w1, .ref (ta Θ 5)]) := by
  have hx := X.1
  have hb := X.2.1
  unfold X7_readsPerson_J190 at h
  obtain ⟨g_27, h⟩ := grd_s h
  obtain ⟨σ_28, e_29, h⟩ := bnd_s h
  refine x_iast X O hP hS mI_5 g_27 dX7_readsPerson_190 e_29 (fun H locs hP hS => ?_)
  refine lv_aload_n hx hb dX7_readsPerson_191 rfl (lv_at hl 0 rfl) ?_
  refine g_X7_25 X O hP dX7_readsPerson_192 ?_
  refine lv_aload_n hx hb dX7_readsPerson_195 rfl (lv_at hl 0 rfl) ?_
  refine g_X7_101 X O hP dX7_readsPerson_196 ?_
  refine lv_bipush (v := 10) hx hb dX7_readsPerson_199 (by decide) ?_
  refine lv_iload hx hb dX7_readsPerson_201 (lv_at hl 1 rfl) ?_
  refine lv_imul hx hb dX7_readsPerson_203 ?_
  refine lv_iload hx hb dX7_readsPerson_204 (lv_at hl 2 rfl) ?_
  refine lv_iadd hx hb dX7_readsPerson_206 ?_
  obtain ⟨g_30, h⟩ := grd_s h
  obtain ⟨σ_31, e_32, h⟩ := bnd_s h
  refine x_iast X O hP hS mI_6 g_30 dX7_readsPerson_207 e_32 (fun H locs hP hS => ?_)
  refine lv_aload_n hx hb dX7_readsPerson_208 rfl (lv_at hl 0 rfl) ?_
  refine g_X7_28 X O hP dX7_readsPerson_209 ?_
  refine lv_aload_n hx hb dX7_readsPerson_212 rfl (lv_at hl 0 rfl) ?_
  refine g_X7_101 X O hP dX7_readsPerson_213 ?_
  refine lv_iload hx hb dX7_readsPerson_216 (lv_at hl 3 rfl) ?_
  obtain ⟨g_33, h⟩ := grd_s h
  obtain ⟨σ_34, e_35, h⟩ := bnd_s h
  refine x_iast X O hP hS mI_7 g_33 dX7_readsPerson_218 e_35 (fun H locs hP hS => ?_)
  refine lv_aload_n hx hb dX7_readsPerson_219 rfl (lv_at hl 0 rfl) ?_
  refine g_X7_31 X O hP dX7_readsPerson_220 ?_
  refine lv_aload_n hx hb dX7_readsPerson_223 rfl (lv_at hl 0 rfl) ?_
  refine g_X7_101 X O hP dX7_readsPerson_224 ?_
  refine lv_iload hx hb dX7_readsPerson_227 (lv_at hl 4 rfl) ?_
  obtain ⟨g_36, h⟩ := grd_s h
  obtain ⟨σ_37, e_38, h⟩ := bnd_s h
  refine x_iast X O hP hS mI_8 g_36 dX7_readsPerson_229 e_38 (fun H locs hP hS => ?_)
  refine lv_aload_n hx hb dX7_readsPerson_230 rfl (lv_at hl 0 rfl) ?_
  refine lv_dup hx hb dX7_readsPerson_231 rfl ?_
  refine g_X7_101 X O hP dX7_readsPerson_232 ?_
  refine lv_iconst (v := 1) hx hb dX7_readsPerson_235 (by decide) ?_
  refine lv_iadd hx hb dX7_readsPerson_236 ?_
  obtain ⟨σ_39, e_40, h⟩ := bnd_s h
  refine p_X7_101 X O hP hS dX7_readsPerson_237 e_40 (fun H locs hP hS => ?_)
  refine lv_iconst (v := 1) hx hb dX7_readsPerson_240 (by decide) ?_
  have h := some_i h
  subst h
  exact x_retz X hP hS hr hlk (Or.inr rfl) rfl rfl dX7_readsPerson_241
set_option maxHeartbeats 4000000 in
set_option maxRecDepth 100000 in
theorem w_X7_readsPerson_J59 {Θ : TH} {p : Program} {l : Launch} {e : Env} {s : State} {m : MethodId} {args : Array Value} {below : List Frame} {meth : Method} {c : Code} (X : CX Θ p s m args c RX7 cX7_readsPerson 8) (O : okT Θ (eM Θ) 23) (hr : meth.sig.returnType = some .boolean) (hlk : meth.locks = false) {y : Int32 × Mem} (v1 : Int32) (v2 : Int32) (v3 : Int32) (σ0 : Mem) (h : X7_readsPerson_J59 v1 v2 v3 σ0 = some y) (H : Heap) (locs : List Loc) (ls : Array Slot) (hP : va_P (tD Θ) vwCl (tw Θ σ0) H) (hS : va_S (tA Θ) s.heap H locs) (hl : lv_has ls 8 [(0, .ref (ta Θ 0)), (1, .int v1), (2, .int v2), (3, .int v3)]) : W p l e rm_X7_readsPerson s m args below meth c H locs 0 0 (MQ below (qI Θ y.1 y.2) args s 0 0 (tA Θ)) (F0 m 59 ls []) := by
  have hx := X.1
  have hb := X.2.1
  unfold X7_readsPerson_J59 at h
  refine lv_aload_n hx hb dX7_readsPerson_59 rfl (lv_at hl 0 rfl) ?_
  refine lv_dup hx hb dX7_readsPerson_60 rfl ?_
  refine g_X7_94 X O hP dX7_readsPerson_61 ?_
  refine lv_iconst (v := 1) hx hb dX7_readsPerson_64 (by decide) ?_
  refine lv_iadd hx hb dX7_readsPerson_65 ?_
  obtain ⟨σ_10, e_11, h⟩ := bnd_s h
  refine p_X7_94 X O hP hS dX7_readsPerson_66 e_11 (fun H locs hP hS => ?_)
  refine lv_aload_n hx hb dX7_readsPerson_69 rfl (lv_at hl 0 rfl) ?_
  refine lv_iload_n hx hb dX7_readsPerson_70 rfl (lv_at hl 1 rfl) ?_
  refine lv_iload_n hx hb dX7_readsPerson_71 rfl (lv_at hl 2 rfl) ?_
  refine lv_iconst (v := 0) hx hb dX7_readsPerson_72 (by decide) ?_
  refine lv_bipush (v := 6) hx hb dX7_readsPerson_73 (by decide) ?_
  obtain ⟨z_12, e_13, h⟩ := ob_s h
  refine x_calli (x_runV X O hP hS hl.1 (As := [.int v1, .int v2, .int 0, .int 6]) (rest := []) (k_X7_figure O v1 v2 (0 : Int32) (6 : Int32) σ_10 e_13) lt_X7 (e_X7 _) rfl wM_X7_104 wI_yX7_figure wS_yX7_figure wN_X7 wC_yX7_figure hd_X7_figure rfl ⟨rfl, rfl⟩ ⟨(Nat.le_of_ble_eq_true rfl), (Nat.le_of_ble_eq_true rfl)⟩ ⟨Nat.zero_le _, Nat.zero_le _⟩ rfl (Nat.le_of_ble_eq_true rfl) dX7_readsPerson_75) hS (fun H locs hP hS => ?_)
  refine lv_istore (lv' := [(4, .int z_12.1), (0, .ref (ta Θ 0)), (1, .int v1), (2, .int v2), (3, .int v3)]) hx hb dX7_readsPerson_78 hl (by decide) rfl (fun ls hl => ?_)
  refine lv_iload hx hb dX7_readsPerson_80 (lv_at hl 0 rfl) ?_
  refine lv_if_ge (tgt := 90) hx hb dX7_readsPerson_82 (by decide) (fun c_14 => ?_) (fun c_14 => ?_)
  · have h := ite_t c_14 h
    refine lv_aload_n hx hb dX7_readsPerson_90 rfl (lv_at hl 1 rfl) ?_
    refine lv_iload_n hx hb dX7_readsPerson_91 rfl (lv_at hl 2 rfl) ?_
    refine lv_iload_n hx hb dX7_readsPerson_92 rfl (lv_at hl 3 rfl) ?_
    refine lv_iconst (v := 0) hx hb dX7_readsPerson_93 (by decide) ?_
    refine lv_iload hx hb dX7_readsPerson_94 (lv_at hl 0 rfl) ?_
    refine lv_bipush (v := 6) hx hb dX7_readsPerson_96 (by decide) ?_
    refine lv_icmp_ne (tgt := 105) hx hb dX7_readsPerson_98 (by decide) (fun c_15 => ?_) (fun c_15 => ?_)
    · have h := ite_f c_15 h
      refine lv_bipush (v := 9) hx hb dX7_readsPerson_105 (by decide) ?_
      obtain ⟨z_16, e_17, h⟩ := ob_s h
      refine x_calli (x_runV X O hP hS hl.1 (As := [.int v1, .int v2, .int 0, .int 9]) (rest := []) (k_X7_figure O v1 v2 (0 : Int32) (9 : Int32) z_12.2 e_17) lt_X7 (e_X7 _) rfl wM_X7_104 wI_yX7_figure wS_yX7_figure wN_X7 wC_yX7_figure hd_X7_figure rfl ⟨rfl, rfl⟩ ⟨(Nat.le_of_ble_eq_true rfl), (Nat.le_of_ble_eq_true rfl)⟩ ⟨Nat.zero_le _, Nat.zero_le _⟩ rfl (Nat.le_of_ble_eq_true rfl) dX7_readsPerson_107) hS (fun H locs hP hS => ?_)
      refine lv_istore (lv' := [(5, .int z_16.1), (4, .int z_12.1), (0, .ref (ta Θ 0)), (1, .int v1), (2, .int v2), (3, .int v3)]) hx hb dX7_readsPerson_110 hl (by decide) rfl (fun ls hl => ?_)
      refine lv_iload hx hb dX7_readsPerson_112 (lv_at hl 0 rfl) ?_
      refine lv_if_ge (tgt := 122) hx hb dX7_readsPerson_114 (by decide) (fun c_18 => ?_) (fun c_18 => ?_)
      · have h := ite_t c_18 h
        refine lv_aload_n hx hb dX7_readsPerson_122 rfl (lv_at hl 2 rfl) ?_
        refine lv_iload_n hx hb dX7_readsPerson_123 rfl (lv_at hl 3 rfl) ?_
        refine lv_iload_n hx hb dX7_readsPerson_124 rfl (lv_at hl 4 rfl) ?_
        refine lv_iconst (v := 0) hx hb dX7_readsPerson_125 (by decide) ?_
        refine lv_bipush (v := 6) hx hb dX7_readsPerson_126 (by decide) ?_
        obtain ⟨z_19, e_20, h⟩ := ob_s h
        refine x_calli (x_runV X O hP hS hl.1 (As := [.int v1, .int v2, .int 0, .int 6]) (rest := []) (k_X7_figure O v1 v2 (0 : Int32) (6 : Int32) z_16.2 e_20) lt_X7 (e_X7 _) rfl wM_X7_104 wI_yX7_figure wS_yX7_figure wN_X7 wC_yX7_figure hd_X7_figure rfl ⟨rfl, rfl⟩ ⟨(Nat.le_of_ble_eq_true rfl), (Nat.le_of_ble_eq_true rfl)⟩ ⟨Nat.zero_le _, Nat.zero_le _⟩ rfl (Nat.le_of_ble_eq_true rfl) dX7_readsPerson_128) hS (fun H locs hP hS => ?_)
        refine lv_istore (lv' := [(6, .int z_19.1), (5, .int z_16.1), (4, .int z_12.1), (0, .ref (ta Θ 0)), (1, .int v1), (2, .int v2), (3, .int v3)]) hx hb dX7_readsPerson_131 hl (by decide) rfl (fun ls hl => ?_)
        refine lv_iload hx hb dX7_readsPerson_133 (lv_at hl 0 rfl) ?_
        refine lv_if_ge (tgt := 143) hx hb dX7_readsPerson_135 (by decide) (fun c_21 => ?_) (fun c_21 => ?_)
        · have h := ite_t c_21 h
          refine lv_aload_n hx hb dX7_readsPerson_143 rfl (lv_at hl 3 rfl) ?_
          refine lv_iload_n hx hb dX7_readsPerson_144 rfl (lv_at hl 4 rfl) ?_
          refine lv_iload_n hx hb dX7_readsPerson_145 rfl (lv_at hl 5 rfl) ?_
          refine lv_iconst (v := 1) hx hb dX7_readsPerson_146 (by decide) ?_
          refine lv_bipush (v := 9) hx hb dX7_readsPerson_147 (by decide) ?_
          obtain ⟨z_22, e_23, h⟩ := ob_s h
          refine x_calli (x_runV X O hP hS hl.1 (As := [.int v1, .int v2, .int 1, .int 9]) (rest := []) (k_X7_figure O v1 v2 (1 : Int32) (9 : Int32) z_19.2 e_23) lt_X7 (e_X7 _) rfl wM_X7_104 wI_yX7_figure wS_yX7_figure wN_X7 wC_yX7_figure hd_X7_figure rfl ⟨rfl, rfl⟩ ⟨(Nat.le_of_ble_eq_true rfl), (Nat.le_of_ble_eq_true rfl)⟩ ⟨Nat.zero_le _, Nat.zero_le _⟩ rfl (Nat.le_of_ble_eq_true rfl) dX7_readsPerson_149) hS (fun H locs hP hS => ?_)
          refine lv_istore (lv' := [(7, .int z_22.1), (6, .int z_19.1), (5, .int z_16.1), (4, .int z_12.1), (0, .ref (ta Θ 0)), (1, .int v1), (2, .int v2), (3, .int v3)]) hx hb dX7_readsPerson_152 hl (by decide) rfl (fun ls hl => ?_)
          refine lv_iload hx hb dX7_readsPerson_154 (lv_at hl 0 rfl) ?_
          refine lv_if_ge (tgt := 161) hx hb dX7_readsPerson_156 (by decide) (fun c_24 => ?_) (fun c_24 => ?_)
          · have h := ite_t c_24 h
            refine lv_aload_n hx hb dX7_readsPerson_161 rfl (lv_at hl 4 rfl) ?_
            refine g_X7_22 X O hP dX7_readsPerson_162 ?_
            refine lv_aload_n hx hb dX7_readsPerson_165 rfl (lv_at hl 4 rfl) ?_
            refine g_X7_101 X O hP dX7_readsPerson_166 ?_
            refine lv_iload_n hx hb dX7_readsPerson_169 rfl (lv_at hl 7 rfl) ?_
            refine lv_bipush (v := 99) hx hb dX7_readsPerson_170 (by decide) ?_
            refine lv_icmp_ne (tgt := 179) hx hb dX7_readsPerson_172 (by decide) (fun c_25 => ?_) (fun c_25 => ?_)
            · have h := ite_f c_25 h
              refine lv_iload_n hx hb dX7_readsPerson_179 rfl (lv_at hl 7 rfl) ?_
              refine lv_bipush (v := 115) hx hb dX7_readsPerson_180 (by decide) ?_
              refine lv_icmp_ne (tgt := 189) hx hb dX7_readsPerson_182 (by decide) (fun c_26 => ?_) (fun c_26 => ?_)
              · have h := ite_f c_26 h
                refine lv_iconst (v := 2) hx hb dX7_readsPerson_189 (by decide) ?_
                exact w_X7_readsPerson_J190 X O hr hlk z_12.1 z_16.1 z_19.1 z_22.1 (z_22.2 0 7) (2 : Int32) z_22.2 h _ _ _ hP hS (lv_sub hl [4, 3, 2, 1, 0] rfl)
              · have h := ite_t c_26 h
                refine lv_iconst (v := 1) hx hb dX7_readsPerson_185 (by decide) ?_
                refine lv_goto (tgt := 190) hx hb dX7_readsPerson_186 (by decide) ?_
                exact w_X7_readsPerson_J190 X O hr hlk z_12.1 z_16.1 z_19.1 z_22.1 (z_22.2 0 7) (1 : Int32) z_22.2 h _ _ _ hP hS (lv_sub hl [4, 3, 2, 1, 0] rfl)
            · have h := ite_t c_25 h
              refine lv_iconst (v := 0) hx hb dX7_readsPerson_175 (by decide) ?_
              refine lv_goto (tgt := 190) hx hb dX7_readsPerson_176 (by decide) ?_
              exact w_X7_readsPerson_J190 X O hr hlk z_12.1 z_16.1 z_19.1 z_22.1 (z_22.2 0 7) (0 : Int32) z_22.2 h _ _ _ hP hS (lv_sub hl [4, 3, 2, 1, 0] rfl)
          · have h := ite_f c_24 h
            refine lv_iconst (v := 0) hx hb dX7_readsPerson_159 (by decide) ?_
            have h := some_i h
            subst h
            exact x_retz X hP hS hr hlk (Or.inl rfl) rfl rfl dX7_readsPerson_160
        · have h := ite_f c_21 h
          refine lv_bipush (v := (-9)) hx hb dX7_readsPerson_138 (by decide) ?_
          refine lv_goto (tgt := 152) hx hb dX7_readsPerson_140 (by decide) ?_
          refine lv_istore (lv' := [(7, .int ((-9))), (6, .int z_19.1), (5, .int z_16.1), (4, .int z_12.1), (0, .ref (ta Θ 0)), (1, .int v1), (2, .int v2), (3, .int v3)]) hx hb dX7_readsPerson_152 hl (by decide) rfl (fun ls hl => ?_)
          refine lv_iload hx hb dX7_readsPerson_154 (lv_at hl 0 rfl) ?_
          refine lv_if_ge (tgt := 161) hx hb dX7_readsPerson_156 (by decide) (fun c_41 => absurd c_41 (by decide)) (fun c_41 => ?_)
          refine lv_iconst (v := 0) hx hb dX7_readsPerson_159 (by decide) ?_
          have h := some_i h
          subst h
          exact x_retz X hP hS hr hlk (Or.inl rfl) rfl rfl dX7_readsPerson_160
      · have h := ite_f c_18 h
        refine lv_bipush (v := (-9)) hx hb dX7_readsPerson_117 (by decide) ?_
        refine lv_goto (tgt := 131) hx hb dX7_readsPerson_119 (by decide) ?_
        refine lv_istore (lv' := [(6, .int ((-9))), (5, .int z_16.1), (4, .int z_12.1), (0, .ref (ta Θ 0)), (1, .int v1), (2, .int v2), (3, .int v3)]) hx hb dX7_readsPerson_131 hl (by decide) rfl (fun ls hl => ?_)
        refine lv_iload hx hb dX7_readsPerson_133 (lv_at hl 0 rfl) ?_
        refine lv_if_ge (tgt := 143) hx hb dX7_readsPerson_135 (by decide) (fun c_42 => absurd c_42 (by decide)) (fun c_42 => ?_)
        refine lv_bipush (v := (-9)) hx hb dX7_readsPerson_138 (by decide) ?_
        refine lv_goto (tgt := 152) hx hb dX7_readsPerson_140 (by decide) ?_
        refine lv_istore (lv' := [(7, .int ((-9))), (6, .int ((-9))), (5, .int z_16.1), (4, .int z_12.1), (0, .ref (ta Θ 0)), (1, .int v1), (2, .int v2), (3, .int v3)]) hx hb dX7_readsPerson_152 hl (by decide) rfl (fun ls hl => ?_)
        refine lv_iload hx hb dX7_readsPerson_154 (lv_at hl 0 rfl) ?_
        refine lv_if_ge (tgt := 161) hx hb dX7_readsPerson_156 (by decide) (fun c_43 => absurd c_43 (by decide)) (fun c_43 => ?_)
        refine lv_iconst (v := 0) hx hb dX7_readsPerson_159 (by decide) ?_
        have h := some_i h
        subst h
        exact x_retz X hP hS hr hlk (Or.inl rfl) rfl rfl dX7_readsPerson_160
    · have h := ite_t c_15 h
      refine lv_iconst (v := 3) hx hb dX7_readsPerson_101 (by decide) ?_
      refine lv_goto (tgt := 107) hx hb dX7_readsPerson_102 (by decide) ?_
      obtain ⟨z_44, e_45, h⟩ := ob_s h
      refine x_calli (x_runV X O hP hS hl.1 (As := [.int v1, .int v2, .int 0, .int 3]) (rest := []) (k_X7_figure O v1 v2 (0 : Int32) (3 : Int32) z_12.2 e_45) lt_X7 (e_X7 _) rfl wM_X7_104 wI_yX7_figure wS_yX7_figure wN_X7 wC_yX7_figure hd_X7_figure rfl ⟨rfl, rfl⟩ ⟨(Nat.le_of_ble_eq_true rfl), (Nat.le_of_ble_eq_true rfl)⟩ ⟨Nat.zero_le _, Nat.zero_le _⟩ rfl (Nat.le_of_ble_eq_true rfl) dX7_readsPerson_107) hS (fun H locs hP hS => ?_)
      refine lv_istore (lv' := [(5, .int z_44.1), (4, .int z_12.1), (0, .ref (ta Θ 0)), (1, .int v1), (2, .int v2), (3, .int v3)]) hx hb dX7_readsPerson_110 hl (by decide) rfl (fun ls hl => ?_)
      refine lv_iload hx hb dX7_readsPerson_112 (lv_at hl 0 rfl) ?_
      refine lv_if_ge (tgt := 122) hx hb dX7_readsPerson_114 (by decide) (fun c_46 => ?_) (fun c_46 => ?_)
      · have h := ite_t c_46 h
        refine lv_aload_n hx hb dX7_readsPerson_122 rfl (lv_at hl 2 rfl) ?_
        refine lv_iload_n hx hb dX7_readsPerson_123 rfl (lv_at hl 3 rfl) ?_
        refine lv_iload_n hx hb dX7_readsPerson_124 rfl (lv_at hl 4 rfl) ?_
        refine lv_iconst (v := 0) hx hb dX7_readsPerson_125 (by decide) ?_
        refine lv_bipush (v := 6) hx hb dX7_readsPerson_126 (by decide) ?_
        obtain ⟨z_47, e_48, h⟩ := ob_s h
        refine x_calli (x_runV X O hP hS hl.1 (As := [.int v1, .int v2, .int 0, .int 6]) (rest := []) (k_X7_figure O v1 v2 (0 : Int32) (6 : Int32) z_44.2 e_48) lt_X7 (e_X7 _) rfl wM_X7_104 wI_yX7_figure wS_yX7_figure wN_X7 wC_yX7_figure hd_X7_figure rfl ⟨rfl, rfl⟩ ⟨(Nat.le_of_ble_eq_true rfl), (Nat.le_of_ble_eq_true rfl)⟩ ⟨Nat.zero_le _, Nat.zero_le _⟩ rfl (Nat.le_of_ble_eq_true rfl) dX7_readsPerson_128) hS (fun H locs hP hS => ?_)
        refine lv_istore (lv' := [(6, .int z_47.1), (5, .int z_44.1), (4, .int z_12.1), (0, .ref (ta Θ 0)), (1, .int v1), (2, .int v2), (3, .int v3)]) hx hb dX7_readsPerson_131 hl (by decide) rfl (fun ls hl => ?_)
        refine lv_iload hx hb dX7_readsPerson_133 (lv_at hl 0 rfl) ?_
        refine lv_if_ge (tgt := 143) hx hb dX7_readsPerson_135 (by decide) (fun c_49 => ?_) (fun c_49 => ?_)
        · have h := ite_t c_49 h
          refine lv_aload_n hx hb dX7_readsPerson_143 rfl (lv_at hl 3 rfl) ?_
          refine lv_iload_n hx hb dX7_readsPerson_144 rfl (lv_at hl 4 rfl) ?_
          refine lv_iload_n hx hb dX7_readsPerson_145 rfl (lv_at hl 5 rfl) ?_
          refine lv_iconst (v := 1) hx hb dX7_readsPerson_146 (by decide) ?_
          refine lv_bipush (v := 9) hx hb dX7_readsPerson_147 (by decide) ?_
          obtain ⟨z_50, e_51, h⟩ := ob_s h
          refine x_calli (x_runV X O hP hS hl.1 (As := [.int v1, .int v2, .int 1, .int 9]) (rest := []) (k_X7_figure O v1 v2 (1 : Int32) (9 : Int32) z_47.2 e_51) lt_X7 (e_X7 _) rfl wM_X7_104 wI_yX7_figure wS_yX7_figure wN_X7 wC_yX7_figure hd_X7_figure rfl ⟨rfl, rfl⟩ ⟨(Nat.le_of_ble_eq_true rfl), (Nat.le_of_ble_eq_true rfl)⟩ ⟨Nat.zero_le _, Nat.zero_le _⟩ rfl (Nat.le_of_ble_eq_true rfl) dX7_readsPerson_149) hS (fun H locs hP hS => ?_)
          refine lv_istore (lv' := [(7, .int z_50.1), (6, .int z_47.1), (5, .int z_44.1), (4, .int z_12.1), (0, .ref (ta Θ 0)), (1, .int v1), (2, .int v2), (3, .int v3)]) hx hb dX7_readsPerson_152 hl (by decide) rfl (fun ls hl => ?_)
          refine lv_iload hx hb dX7_readsPerson_154 (lv_at hl 0 rfl) ?_
          refine lv_if_ge (tgt := 161) hx hb dX7_readsPerson_156 (by decide) (fun c_52 => ?_) (fun c_52 => ?_)
          · have h := ite_t c_52 h
            refine lv_aload_n hx hb dX7_readsPerson_161 rfl (lv_at hl 4 rfl) ?_
            refine g_X7_22 X O hP dX7_readsPerson_162 ?_
            refine lv_aload_n hx hb dX7_readsPerson_165 rfl (lv_at hl 4 rfl) ?_
            refine g_X7_101 X O hP dX7_readsPerson_166 ?_
            refine lv_iload_n hx hb dX7_readsPerson_169 rfl (lv_at hl 7 rfl) ?_
            refine lv_bipush (v := 99) hx hb dX7_readsPerson_170 (by decide) ?_
            refine lv_icmp_ne (tgt := 179) hx hb dX7_readsPerson_172 (by decide) (fun c_53 => ?_) (fun c_53 => ?_)
            · have h := ite_f c_53 h
              refine lv_iload_n hx hb dX7_readsPerson_179 rfl (lv_at hl 7 rfl) ?_
              refine lv_bipush (v := 115) hx hb dX7_readsPerson_180 (by decide) ?_
              refine lv_icmp_ne (tgt := 189) hx hb dX7_readsPerson_182 (by decide) (fun c_54 => ?_) (fun c_54 => ?_)
              · have h := ite_f c_54 h
                refine lv_iconst (v := 2) hx hb dX7_readsPerson_189 (by decide) ?_
                exact w_X7_readsPerson_J190 X O hr hlk z_12.1 z_44.1 z_47.1 z_50.1 (z_50.2 0 7) (2 : Int32) z_50.2 h _ _ _ hP hS (lv_sub hl [4, 3, 2, 1, 0] rfl)
              · have h := ite_t c_54 h
                refine lv_iconst (v := 1) hx hb dX7_readsPerson_185 (by decide) ?_
                refine lv_goto (tgt := 190) hx hb dX7_readsPerson_186 (by decide) ?_
                exact w_X7_readsPerson_J190 X O hr hlk z_12.1 z_44.1 z_47.1 z_50.1 (z_50.2 0 7) (1 : Int32) z_50.2 h _ _ _ hP hS (lv_sub hl [4, 3, 2, 1, 0] rfl)
            · have h := ite_t c_53 h
              refine lv_iconst (v := 0) hx hb dX7_readsPerson_175 (by decide) ?_
              refine lv_goto (tgt := 190) hx hb dX7_readsPerson_176 (by decide) ?_
              exact w_X7_readsPerson_J190 X O hr hlk z_12.1 z_44.1 z_47.1 z_50.1 (z_50.2 0 7) (0 : Int32) z_50.2 h _ _ _ hP hS (lv_sub hl [4, 3, 2, 1, 0] rfl)
          · have h := ite_f c_52 h
            refine lv_iconst (v := 0) hx hb dX7_readsPerson_159 (by decide) ?_
            have h := some_i h
            subst h
            exact x_retz X hP hS hr hlk (Or.inl rfl) rfl rfl dX7_readsPerson_160
        · have h := ite_f c_49 h
          refine lv_bipush (v := (-9)) hx hb dX7_readsPerson_138 (by decide) ?_
          refine lv_goto (tgt := 152) hx hb dX7_readsPerson_140 (by decide) ?_
          refine lv_istore (lv' := [(7, .int ((-9))), (6, .int z_47.1), (5, .int z_44.1), (4, .int z_12.1), (0, .ref (ta Θ 0)), (1, .int v1), (2, .int v2), (3, .int v3)]) hx hb dX7_readsPerson_152 hl (by decide) rfl (fun ls hl => ?_)
          refine lv_iload hx hb dX7_readsPerson_154 (lv_at hl 0 rfl) ?_
          refine lv_if_ge (tgt := 161) hx hb dX7_readsPerson_156 (by decide) (fun c_55 => absurd c_55 (by decide)) (fun c_55 => ?_)
          refine lv_iconst (v := 0) hx hb dX7_readsPerson_159 (by decide) ?_
          have h := some_i h
          subst h
          exact x_retz X hP hS hr hlk (Or.inl rfl) rfl rfl dX7_readsPerson_160
      · have h := ite_f c_46 h
        refine lv_bipush (v := (-9)) hx hb dX7_readsPerson_117 (by decide) ?_
        refine lv_goto (tgt := 131) hx hb dX7_readsPerson_119 (by decide) ?_
        refine lv_istore (lv' := [(6, .int ((-9))), (5, .int z_44.1), (4, .int z_12.1), (0, .ref (ta Θ 0)), (1, .int v1), (2, .int v2), (3, .int v3)]) hx hb dX7_readsPerson_131 hl (by decide) rfl (fun ls hl => ?_)
        refine lv_iload hx hb dX7_readsPerson_133 (lv_at hl 0 rfl) ?_
        refine lv_if_ge (tgt := 143) hx hb dX7_readsPerson_135 (by decide) (fun c_56 => absurd c_56 (by decide)) (fun c_56 => ?_)
        refine lv_bipush (v := (-9)) hx hb dX7_readsPerson_138 (by decide) ?_
        refine lv_goto (tgt := 152) hx hb dX7_readsPerson_140 (by decide) ?_
        refine lv_istore (lv' := [(7, .int ((-9))), (6, .int ((-9))), (5, .int z_44.1), (4, .int z_12.1), (0, .ref (ta Θ 0)), (1, .int v1), (2, .int v2), (3, .int v3)]) hx hb dX7_readsPerson_152 hl (by decide) rfl (fun ls hl => ?_)
        refine lv_iload hx hb dX7_readsPerson_154 (lv_at hl 0 rfl) ?_
        refine lv_if_ge (tgt := 161) hx hb dX7_readsPerson_156 (by decide) (fun c_57 => absurd c_57 (by decide)) (fun c_57 => ?_)
        refine lv_iconst (v := 0) hx hb dX7_readsPerson_159 (by decide) ?_
        have h := some_i h
        subst h
        exact x_retz X hP hS hr hlk (Or.inl rfl) rfl rfl dX7_readsPerson_160
  · have h := ite_f c_14 h
    refine lv_bipush (v := (-9)) hx hb dX7_readsPerson_85 (by decide) ?_
    refine lv_goto (tgt := 110) hx hb dX7_readsPerson_87 (by decide) ?_
    refine lv_istore (lv' := [(5, .int ((-9))), (4, .int z_12.1), (0, .ref (ta Θ 0)), (1, .int v1), (2, .int v2), (3, .int v3)]) hx hb dX7_readsPerson_110 hl (by decide) rfl (fun ls hl => ?_)
    refine lv_iload hx hb dX7_readsPerson_112 (lv_at hl 0 rfl) ?_
    refine lv_if_ge (tgt := 122) hx hb dX7_readsPerson_114 (by decide) (fun c_58 => absurd c_58 (by decide)) (fun c_58 => ?_)
    refine lv_bipush (v := (-9)) hx hb dX7_readsPerson_117 (by decide) ?_
    refine lv_goto (tgt := 131) hx hb dX7_readsPerson_119 (by decide) ?_
    refine lv_istore (lv' := [(6, .int ((-9))), (5, .int ((-9))), (4, .int z_12.1), (0, .ref (ta Θ 0)), (1, .int v1), (2, .int v2), (3, .int v3)]) hx hb dX7_readsPerson_131 hl (by decide) rfl (fun ls hl => ?_)
    refine lv_iload hx hb dX7_readsPerson_133 (lv_at hl 0 rfl) ?_
    refine lv_if_ge (tgt := 143) hx hb dX7_readsPerson_135 (by decide) (fun c_59 => absurd c_59 (by decide)) (fun c_59 => ?_)
    refine lv_bipush (v := (-9)) hx hb dX7_readsPerson_138 (by decide) ?_
    refine lv_goto (tgt := 152) hx hb dX7_readsPerson_140 (by decide) ?_
    refine lv_istore (lv' := [(7, .int ((-9))), (6, .int ((-9))), (5, .int ((-9))), (4, .int z_12.1), (0, .ref (ta Θ 0)), (1, .int v1), (2, .int v2), (3, .int v3)]) hx hb dX7_readsPerson_152 hl (by decide) rfl (fun ls hl => ?_)
    refine lv_iload hx hb dX7_readsPerson_154 (lv_at hl 0 rfl) ?_
    refine lv_if_ge (tgt := 161) hx hb dX7_readsPerson_156 (by decide) (fun c_60 => absurd c_60 (by decide)) (fun c_60 => ?_)
    refine lv_iconst (v := 0) hx hb dX7_readsPerson_159 (by decide) ?_
    have h := some_i h
    subst h
    exact x_retz X hP hS hr hlk (Or.inl rfl) rfl rfl dX7_readsPerson_160
theorem hd_X7_readsPerson : yX7_readsPerson.cls ≠ "java/lang/invoke/MethodHandle" ∧ yX7_readsPerson.cls ≠ "java/lang/invoke/VarHandle" ∧ (parseMethodDescriptor yX7_readsPerson.desc).map (fun d => d.parameters.length) = some 2 := by decide +kernel
set_option maxHeartbeats 4000000 in
set_option maxRecDepth 100000 in
theorem k_X7_readsPerson {Θ : TH} {l : Launch} (O : okT Θ (eM Θ) 23) (v1 : Int32) (v2 : Int32) (σ0 : Mem) {y : Int32 × Mem} (h : X7_readsPerson v1 v2 σ0 = some y) : Met l yX7_readsPerson (Cond.code yX7_readsPerson cX7_readsPerson 8 (some .boolean) :: wAll) rm_X7_readsPerson (va_Pc [.ref (ta Θ 0), .int v1, .int v2] (tS Θ σ0)) (qI Θ y.1 y.2) 0 0 (tA Θ) := by
  refine x_ent (by decide) (Nat.le_of_ble_eq_true rfl) (fun p e s m below meth c X hr hlk hP ls hl => ?_)
  have hS : va_S (tA Θ) s.heap s.heap [] := va_S.rf
  have hl : lv_has ls 8 [(0, .ref (ta Θ 0)), (1, .int v1), (2, .int v2)] := hl
  have hx := X.1
  have hb := X.2.1
  unfold X7_readsPerson at h
  refine lv_aload_n hx hb dX7_readsPerson_0 rfl (lv_at hl 0 rfl) ?_
  refine g_X7_101 X O hP dX7_readsPerson_1 ?_
  refine lv_bipush (v := 6) hx hb dX7_readsPerson_4 (by decide) ?_
  refine lv_icmp_eq (tgt := 20) hx hb dX7_readsPerson_6 (by decide) (fun c_1 => ?_) (fun c_1 => ?_)
  · have h := ite_t c_1 h
    refine lv_iconst (v := 0) hx hb dX7_readsPerson_20 (by decide) ?_
    have h := some_i h
    subst h
    exact x_retz X hP hS hr hlk (Or.inl rfl) rfl rfl dX7_readsPerson_21
  · have h := ite_f c_1 h
    refine lv_aload_n hx hb dX7_readsPerson_9 rfl (lv_at hl 0 rfl) ?_
    refine lv_iload_n hx hb dX7_readsPerson_10 rfl (lv_at hl 1 rfl) ?_
    refine lv_iload_n hx hb dX7_readsPerson_11 rfl (lv_at hl 2 rfl) ?_
    obtain ⟨z_2, e_3, h⟩ := ob_s h
    refine x_calli (x_runV X O hP hS hl.1 (As := [.int v1, .int v2]) (rest := []) (k_X7_codeAt O v1 v2 σ0 e_3) lt_X7 (e_X7 _) rfl wM_X7_97 wI_yX7_codeAt wS_yX7_codeAt wN_X7 wC_yX7_codeAt hd_X7_codeAt rfl ⟨rfl, rfl⟩ ⟨(Nat.le_of_ble_eq_true rfl), (Nat.le_of_ble_eq_true rfl)⟩ ⟨Nat.zero_le _, Nat.zero_le _⟩ rfl (Nat.le_of_ble_eq_true rfl) dX7_readsPerson_12) hS (fun H locs hP hS => ?_)
    refine lv_bipush (v := 59) hx hb dX7_readsPerson_15 (by decide) ?_
    refine lv_icmp_eq (tgt := 22) hx hb dX7_readsPerson_17 (by decide) (fun c_4 => ?_) (fun c_4 => ?_)
    · have h := ite_t c_4 h
      refine lv_aload_n hx hb dX7_readsPerson_22 rfl (lv_at hl 0 rfl) ?_
      refine lv_dup hx hb dX7_readsPerson_23 rfl ?_
      refine g_X7_94 X O hP dX7_readsPerson_24 ?_
      refine lv_iconst (v := 1) hx hb dX7_readsPerson_27 (by decide) ?_
      refine lv_iadd hx hb dX7_readsPerson_28 ?_
      obtain ⟨σ_5, e_6, h⟩ := bnd_s h
      refine p_X7_94 X O hP hS dX7_readsPerson_29 e_6 (fun H locs hP hS => ?_)
      refine lv_aload_n hx hb dX7_readsPerson_32 rfl (lv_at hl 0 rfl) ?_
      refine lv_iload_n hx hb dX7_readsPerson_33 rfl (lv_at hl 1 rfl) ?_
      refine lv_iload_n hx hb dX7_readsPerson_34 rfl (lv_at hl 2 rfl) ?_
      obtain ⟨z_7, e_8, h⟩ := ob_s h
      refine x_calli (x_runV X O hP hS hl.1 (As := [.int v1, .int v2]) (rest := []) (k_X7_codeAt O v1 v2 σ_5 e_8) lt_X7 (e_X7 _) rfl wM_X7_97 wI_yX7_codeAt wS_yX7_codeAt wN_X7 wC_yX7_codeAt hd_X7_codeAt rfl ⟨rfl, rfl⟩ ⟨(Nat.le_of_ble_eq_true rfl), (Nat.le_of_ble_eq_true rfl)⟩ ⟨Nat.zero_le _, Nat.zero_le _⟩ rfl (Nat.le_of_ble_eq_true rfl) dX7_readsPerson_35) hS (fun H locs hP hS => ?_)
      refine lv_istore_n (lv' := [(3, .int z_7), (0, .ref (ta Θ 0)), (1, .int v1), (2, .int v2)]) hx hb dX7_readsPerson_38 rfl hl (by decide) rfl (fun ls hl => ?_)
      refine lv_iload_n hx hb dX7_readsPerson_39 rfl (lv_at hl 0 rfl) ?_
      refine lv_bipush (v := 99) hx hb dX7_readsPerson_40 (by decide) ?_
      refine lv_icmp_eq (tgt := 59) hx hb dX7_readsPerson_42 (by decide) (fun c_9 => ?_) (fun c_9 => ?_)
      · have h := ite_t c_9 h
        exact w_X7_readsPerson_J59 X O hr hlk v1 v2 z_7 σ_5 h _ _ _ hP hS (lv_sub hl [1, 2, 3, 0] rfl)
      · have h := ite_f c_9 h
        refine lv_iload_n hx hb dX7_readsPerson_45 rfl (lv_at hl 0 rfl) ?_
        refine lv_bipush (v := 115) hx hb dX7_readsPerson_46 (by decide) ?_
        refine lv_icmp_eq (tgt := 59) hx hb dX7_readsPerson_48 (by decide) (fun c_61 => ?_) (fun c_61 => ?_)
        · have h := ite_t c_61 h
          exact w_X7_readsPerson_J59 X O hr hlk v1 v2 z_7 σ_5 h _ _ _ hP hS (lv_sub hl [1, 2, 3, 0] rfl)
        · have h := ite_f c_61 h
          refine lv_iload_n hx hb dX7_readsPerson_51 rfl (lv_at hl 0 rfl) ?_
          refine lv_bipush (v := 116) hx hb dX7_readsPerson_52 (by decide) ?_
          refine lv_icmp_eq (tgt := 59) hx hb dX7_readsPerson_54 (by decide) (fun c_62 => ?_) (fun c_62 => ?_)
          · have h := ite_t c_62 h
            exact w_X7_readsPerson_J59 X O hr hlk v1 v2 z_7 σ_5 h _ _ _ hP hS (lv_sub hl [1, 2, 3, 0] rfl)
          · have h := ite_f c_62 h
            refine lv_iconst (v := 0) hx hb dX7_readsPerson_57 (by decide) ?_
            have h := some_i h
            subst h
            exact x_retz X hP hS hr hlk (Or.inl rfl) rfl rfl dX7_readsPerson_58
    · have h := ite_f c_4 h
      refine lv_iconst (v := 0) hx hb dX7_readsPerson_20 (by decide) ?_
      have h := some_i h
      subst h
      exact x_retz X hP hS hr hlk (Or.inl rfl) rfl rfl dX7_readsPerson_21
abbrev rm_X7_readsCounter : Room := { frames := 3, cells := 0, slots := 0, locals := 78 }
set_option maxHeartbeats 4000000 in
set_option maxRecDepth 100000 in
theorem w_X7_readsCounter_L45 {F : Nat} {Θ : TH} {p : Program} {l : Launch} {e : Env} {s : State} {m : MethodId} {args : Array Value} {below : List Frame} {meth : Method} {c : Code} (X : CX Θ p s m args c RX7 cX7_readsCounter 4) (O : okT Θ (eM Θ) 23) (hr : meth.sig.returnType = some .boolean) (hlk : meth.locks = false) (v1 : Int32) (v2 : Int32) {y : Int32 × Mem} :
    ∀ (f : Nat) (v3 : Int32) (σ0 : Mem), X7_readsCounter_L45 F v1 v2 f v3 σ0 = some y → ∀ (H : Heap) (locs : List Loc) (ls : Array Slot), va_P (tD Θ) vwCl (tw Θ σ0) H → va_S (tA Θ) s.heap H locs → lv_has ls 4 [(0, .ref (ta Θ 0)), (1, .int v1), (2, .int v2), (3, .int v3)] → W p l e rm_X7_readsCounter s m args below meth c H locs 0 0 (MQ below (qI Θ y.1 y.2) args s 0 0 (tA Θ)) (F0 m 45 ls []) := by
  have hx := X.1
  have hb := X.2.1
  intro f
  induction f with
  | zero => intro v3 σ0 h; cases h
  | succ f ih =>
    intro v3 σ0 h H locs ls hP hS hl
    rw [X7_readsCounter_L45] at h
    refine lv_iload_n hx hb dX7_readsCounter_45 rfl (lv_at hl 3 rfl) ?_
    refine lv_if_eq (tgt := 75) hx hb dX7_readsCounter_46 (by decide) (fun c_11 => ?_) (fun c_11 => ?_)
    · have h := ite_t c_11 h
      refine lv_iload_n hx hb dX7_readsCounter_75 rfl (lv_at hl 3 rfl) ?_
      obtain ⟨g_12, h⟩ := grd_s h
      have h := some_i h
      subst h
      exact x_retz X hP hS hr hlk (isB_s g_12) rfl rfl dX7_readsCounter_76
    · have h := ite_f c_11 h
      refine lv_aload_n hx hb dX7_readsCounter_49 rfl (lv_at hl 0 rfl) ?_
      refine g_X7_101 X O hP dX7_readsCounter_50 ?_
      refine lv_iconst (v := 2) hx hb dX7_readsCounter_53 (by decide) ?_
      refine lv_icmp_lt (tgt := 65) hx hb dX7_readsCounter_54 (by decide) (fun c_13 => ?_) (fun c_13 => ?_)
      · have h := ite_t c_13 h
        refine lv_aload_n hx hb dX7_readsCounter_65 rfl (lv_at hl 0 rfl) ?_
        refine lv_iload_n hx hb dX7_readsCounter_66 rfl (lv_at hl 1 rfl) ?_
        refine lv_iload_n hx hb dX7_readsCounter_67 rfl (lv_at hl 2 rfl) ?_
        obtain ⟨z_14, e_15, h⟩ := ob_s h
        refine x_calli (x_runV X O hP hS hl.1 (As := [.int v1, .int v2]) (rest := []) (k_X7_readsPerson O v1 v2 σ0 e_15) lt_X7 (e_X7 _) rfl wM_X7_108 wI_yX7_readsPerson wS_yX7_readsPerson wN_X7 wC_yX7_readsPerson hd_X7_readsPerson rfl ⟨rfl, rfl⟩ ⟨(Nat.le_of_ble_eq_true rfl), (Nat.le_of_ble_eq_true rfl)⟩ ⟨Nat.zero_le _, Nat.zero_le _⟩ rfl (Nat.le_of_ble_eq_true rfl) dX7_readsCounter_68) hS (fun H locs hP hS => ?_)
        refine lv_istore_n (lv' := [(3, .int z_14.1), (0, .ref (ta Θ 0)), (1, .int v1), (2, .int v2)]) hx hb dX7_readsCounter_71 rfl hl (by decide) rfl (fun ls hl => ?_)
        refine lv_goto (tgt := 45) hx hb dX7_readsCounter_72 (by decide) ?_
        exact ih z_14.1 z_14.2 h _ _ _ hP hS (lv_sub hl [1, 2, 3, 0] rfl)
      · have h := ite_f c_13 h
        refine lv_aload_n hx hb dX7_readsCounter_57 rfl (lv_at hl 0 rfl) ?_
        refine g_X7_94 X O hP dX7_readsCounter_58 ?_
        refine lv_iload_n hx hb dX7_readsCounter_61 rfl (lv_at hl 2 rfl) ?_
        refine lv_icmp_ge (tgt := 75) hx hb dX7_readsCounter_62 (by decide) (fun c_16 => ?_) (fun c_16 => ?_)
        · have h := ite_t c_16 h
          refine lv_iload_n hx hb dX7_readsCounter_75 rfl (lv_at hl 3 rfl) ?_
          obtain ⟨g_17, h⟩ := grd_s h
          have h := some_i h
          subst h
          exact x_retz X hP hS hr hlk (isB_s g_17) rfl rfl dX7_readsCounter_76
        · have h := ite_f c_16 h
          refine lv_aload_n hx hb dX7_readsCounter_65 rfl (lv_at hl 0 rfl) ?_
          refine lv_iload_n hx hb dX7_readsCounter_66 rfl (lv_at hl 1 rfl) ?_
          refine lv_iload_n hx hb dX7_readsCounter_67 rfl (lv_at hl 2 rfl) ?_
          obtain ⟨z_18, e_19, h⟩ := ob_s h
          refine x_calli (x_runV X O hP hS hl.1 (As := [.int v1, .int v2]) (rest := []) (k_X7_readsPerson O v1 v2 σ0 e_19) lt_X7 (e_X7 _) rfl wM_X7_108 wI_yX7_readsPerson wS_yX7_readsPerson wN_X7 wC_yX7_readsPerson hd_X7_readsPerson rfl ⟨rfl, rfl⟩ ⟨(Nat.le_of_ble_eq_true rfl), (Nat.le_of_ble_eq_true rfl)⟩ ⟨Nat.zero_le _, Nat.zero_le _⟩ rfl (Nat.le_of_ble_eq_true rfl) dX7_readsCounter_68) hS (fun H locs hP hS => ?_)
          refine lv_istore_n (lv' := [(3, .int z_18.1), (0, .ref (ta Θ 0)), (1, .int v1), (2, .int v2)]) hx hb dX7_readsCounter_71 rfl hl (by decide) rfl (fun ls hl => ?_)
          refine lv_goto (tgt := 45) hx hb dX7_readsCounter_72 (by decide) ?_
          exact ih z_18.1 z_18.2 h _ _ _ hP hS (lv_sub hl [1, 2, 3, 0] rfl)
theorem hd_X7_readsCounter : yX7_readsCounter.cls ≠ "java/lang/invoke/MethodHandle" ∧ yX7_readsCounter.cls ≠ "java/lang/invoke/VarHandle" ∧ (parseMethodDescriptor yX7_readsCounter.desc).map (fun d => d.parameters.length) = some 2 := by decide +kernel
set_option maxHeartbeats 4000000 in
set_option maxRecDepth 100000 in
theorem k_X7_readsCounter {F : Nat} {Θ : TH} {l : Launch} (O : okT Θ (eM Θ) 23) (v1 : Int32) (v2 : Int32) (σ0 : Mem) {y : Int32 × Mem} (h : X7_readsCounter F v1 v2 σ0 = some y) : Met l yX7_readsCounter (Cond.code yX7_readsCounter cX7_readsCounter 4 (some .boolean) :: wAll) rm_X7_readsCounter (va_Pc [.ref (ta Θ 0), .int v1, .int v2] (tS Θ σ0)) (qI Θ y.1 y.2) 0 0 (tA Θ) := by
  refine x_ent (by decide) (Nat.le_of_ble_eq_true rfl) (fun p e s m below meth c X hr hlk hP ls hl => ?_)
  have hS : va_S (tA Θ) s.heap s.heap [] := va_S.rf
  have hl : lv_has ls 4 [(0, .ref (ta Θ 0)), (1, .int v1), (2, .int v2)] := hl
  have hx := X.1
  have hb := X.2.1
  unfold X7_readsCounter at h
  refine lv_aload_n hx hb dX7_readsCounter_0 rfl (lv_at hl 0 rfl) ?_
  refine lv_iconst (v := 0) hx hb dX7_readsCounter_1 (by decide) ?_
  obtain ⟨σ_1, e_2, h⟩ := bnd_s h
  refine p_X7_94 X O hP hS dX7_readsCounter_2 e_2 (fun H locs hP hS => ?_)
  refine lv_aload_n hx hb dX7_readsCounter_5 rfl (lv_at hl 0 rfl) ?_
  refine lv_iconst (v := 0) hx hb dX7_readsCounter_6 (by decide) ?_
  obtain ⟨σ_3, e_4, h⟩ := bnd_s h
  refine p_X7_101 X O hP hS dX7_readsCounter_7 e_4 (fun H locs hP hS => ?_)
  refine lv_aload_n hx hb dX7_readsCounter_10 rfl (lv_at hl 0 rfl) ?_
  refine lv_iload_n hx hb dX7_readsCounter_11 rfl (lv_at hl 1 rfl) ?_
  refine lv_iload_n hx hb dX7_readsCounter_12 rfl (lv_at hl 2 rfl) ?_
  obtain ⟨z_5, e_6, h⟩ := ob_s h
  refine x_calli (x_runV X O hP hS hl.1 (As := [.int v1, .int v2]) (rest := []) (k_X7_codeAt O v1 v2 σ_3 e_6) lt_X7 (e_X7 _) rfl wM_X7_97 wI_yX7_codeAt wS_yX7_codeAt wN_X7 wC_yX7_codeAt hd_X7_codeAt rfl ⟨rfl, rfl⟩ ⟨(Nat.le_of_ble_eq_true rfl), (Nat.le_of_ble_eq_true rfl)⟩ ⟨Nat.zero_le _, Nat.zero_le _⟩ rfl (Nat.le_of_ble_eq_true rfl) dX7_readsCounter_13) hS (fun H locs hP hS => ?_)
  refine lv_bipush (v := 107) hx hb dX7_readsCounter_16 (by decide) ?_
  refine lv_icmp_ne (tgt := 25) hx hb dX7_readsCounter_18 (by decide) (fun c_7 => ?_) (fun c_7 => ?_)
  · have h := ite_f c_7 h
    refine lv_iconst (v := 0) hx hb dX7_readsCounter_25 (by decide) ?_
    refine lv_istore_n (lv' := [(3, .int 0), (0, .ref (ta Θ 0)), (1, .int v1), (2, .int v2)]) hx hb dX7_readsCounter_26 rfl hl (by decide) rfl (fun ls hl => ?_)
    refine lv_aload_n hx hb dX7_readsCounter_27 rfl (lv_at hl 1 rfl) ?_
    refine lv_dup hx hb dX7_readsCounter_28 rfl ?_
    refine g_X7_94 X O hP dX7_readsCounter_29 ?_
    refine lv_iload_n hx hb dX7_readsCounter_32 rfl (lv_at hl 0 rfl) ?_
    refine lv_if_eq (tgt := 40) hx hb dX7_readsCounter_33 (by decide) (fun c_8 => ?_) (fun c_8 => absurd c_8 (by decide))
    refine lv_iconst (v := 0) hx hb dX7_readsCounter_40 (by decide) ?_
    refine lv_iadd hx hb dX7_readsCounter_41 ?_
    obtain ⟨σ_9, e_10, h⟩ := bnd_s h
    refine p_X7_94 X O hP hS dX7_readsCounter_42 e_10 (fun H locs hP hS => ?_)
    refine w_X7_readsCounter_L45 X O hr hlk v1 v2  _ (0 : Int32) σ_9 h _ _ _ hP hS (lv_sub hl [1, 2, 3, 0] rfl)
  · have h := ite_t c_7 h
    refine lv_iconst (v := 1) hx hb dX7_readsCounter_21 (by decide) ?_
    refine lv_goto (tgt := 26) hx hb dX7_readsCounter_22 (by decide) ?_
    refine lv_istore_n (lv' := [(3, .int 1), (0, .ref (ta Θ 0)), (1, .int v1), (2, .int v2)]) hx hb dX7_readsCounter_26 rfl hl (by decide) rfl (fun ls hl => ?_)
    refine lv_aload_n hx hb dX7_readsCounter_27 rfl (lv_at hl 1 rfl) ?_
    refine lv_dup hx hb dX7_readsCounter_28 rfl ?_
    refine g_X7_94 X O hP dX7_readsCounter_29 ?_
    refine lv_iload_n hx hb dX7_readsCounter_32 rfl (lv_at hl 0 rfl) ?_
    refine lv_if_eq (tgt := 40) hx hb dX7_readsCounter_33 (by decide) (fun c_20 => absurd c_20 (by decide)) (fun c_20 => ?_)
    refine lv_iconst (v := 1) hx hb dX7_readsCounter_36 (by decide) ?_
    refine lv_goto (tgt := 41) hx hb dX7_readsCounter_37 (by decide) ?_
    refine lv_iadd hx hb dX7_readsCounter_41 ?_
    obtain ⟨σ_21, e_22, h⟩ := bnd_s h
    refine p_X7_94 X O hP hS dX7_readsCounter_42 e_22 (fun H locs hP hS => ?_)
    refine w_X7_readsCounter_L45 X O hr hlk v1 v2  _ (1 : Int32) σ_21 h _ _ _ hP hS (lv_sub hl [1, 2, 3, 0] rfl)
abbrev rm_X7_isBeyond : Room := { frames := 0, cells := 0, slots := 0, locals := 0 }
theorem hd_X7_isBeyond : yX7_isBeyond.cls ≠ "java/lang/invoke/MethodHandle" ∧ yX7_isBeyond.cls ≠ "java/lang/invoke/VarHandle" ∧ (parseMethodDescriptor yX7_isBeyond.desc).map (fun d => d.parameters.length) = some 3 := by decide +kernel
set_option maxHeartbeats 4000000 in
set_option maxRecDepth 100000 in
theorem k_X7_isBeyond {Θ : TH} {l : Launch} (O : okT Θ (eM Θ) 23) (v0 : Int32) (v1 : Int64) (v3 : Int32) (σ0 : Mem) {y : Int32} (h : X7_isBeyond v0 v1 v3 = y) : Met l yX7_isBeyond (Cond.code yX7_isBeyond cX7_isBeyond 4 (some .boolean) :: wAll) rm_X7_isBeyond (va_Pc [.int v0, .long v1, .int v3] (tS Θ σ0)) (qI Θ y σ0) 0 0 (tA Θ) := by
  refine x_ent (by decide) (Nat.le_of_ble_eq_true rfl) (fun p e s m below meth c X hr hlk hP ls hl => ?_)
  have hS : va_S (tA Θ) s.heap s.heap [] := va_S.rf
  have hl : lv_has ls 4 [(0, .int v0), (1, .long v1), (3, .int v3)] := hl
  have hx := X.1
  have hb := X.2.1
  unfold X7_isBeyond at h
  refine lv_iload_n hx hb dX7_isBeyond_0 rfl (lv_at hl 0 rfl) ?_
  refine lv_if_lt (tgt := 20) hx hb dX7_isBeyond_1 (by decide) (fun c_1 => ?_) (fun c_1 => ?_)
  · have h := ite_t c_1 h
    refine lv_iconst (v := 1) hx hb dX7_isBeyond_20 (by decide) ?_
    refine lv_goto (tgt := 25) hx hb dX7_isBeyond_21 (by decide) ?_
    subst h
    exact x_retz X hP hS hr hlk (Or.inr rfl) rfl rfl dX7_isBeyond_25
  · have h := ite_f c_1 h
    refine lv_lload_n hx hb dX7_isBeyond_4 rfl (lv_at hl 1 rfl) ?_
    refine lv_lconst (v := 0) hx hb dX7_isBeyond_5 (by decide) ?_
    refine W.lcmp hx hb dX7_isBeyond_6 ?_
    refine lv_if_lt (tgt := 20) hx hb dX7_isBeyond_7 (by decide) (fun c_2 => ?_) (fun c_2 => ?_)
    · have h := ite_t c_2 h
      refine lv_iconst (v := 1) hx hb dX7_isBeyond_20 (by decide) ?_
      refine lv_goto (tgt := 25) hx hb dX7_isBeyond_21 (by decide) ?_
      subst h
      exact x_retz X hP hS hr hlk (Or.inr rfl) rfl rfl dX7_isBeyond_25
    · have h := ite_f c_2 h
      refine lv_iload_n hx hb dX7_isBeyond_10 rfl (lv_at hl 0 rfl) ?_
      refine lv_i2l (v := v0.toInt64) hx hb dX7_isBeyond_11 rfl ?_
      refine lv_lload_n hx hb dX7_isBeyond_12 rfl (lv_at hl 1 rfl) ?_
      refine lv_ladd hx hb dX7_isBeyond_13 ?_
      refine lv_iload_n hx hb dX7_isBeyond_14 rfl (lv_at hl 2 rfl) ?_
      refine lv_i2l (v := v3.toInt64) hx hb dX7_isBeyond_15 rfl ?_
      refine W.lcmp hx hb dX7_isBeyond_16 ?_
      refine lv_if_le (tgt := 24) hx hb dX7_isBeyond_17 (by decide) (fun c_3 => ?_) (fun c_3 => ?_)
      · have h := ite_t c_3 h
        refine lv_iconst (v := 0) hx hb dX7_isBeyond_24 (by decide) ?_
        subst h
        exact x_retz X hP hS hr hlk (Or.inl rfl) rfl rfl dX7_isBeyond_25
      · have h := ite_f c_3 h
        refine lv_iconst (v := 1) hx hb dX7_isBeyond_20 (by decide) ?_
        refine lv_goto (tgt := 25) hx hb dX7_isBeyond_21 (by decide) ?_
        subst h
        exact x_retz X hP hS hr hlk (Or.inr rfl) rfl rfl dX7_isBeyond_25
abbrev rm_X7_cellsBarred : Room := { frames := 1, cells := 0, slots := 0, locals := 23 }
set_option maxHeartbeats 4000000 in
set_option maxRecDepth 100000 in
theorem w_X7_cellsBarred_J25 {Θ : TH} {p : Program} {l : Launch} {e : Env} {s : State} {m : MethodId} {args : Array Value} {below : List Frame} {meth : Method} {c : Code} (X : CX Θ p s m args c RX7 cX7_cellsBarred 6) (O : okT Θ (eM Θ) 23) (hr : meth.sig.returnType = some .int) (hlk : meth.locks = false) {y : Int32 × Mem} (v1 : Int32) (v3 : Int32) (v4 : Int64) (σ0 : Mem) (h : X7_cellsBarred_J25 v1 v3 v4 σ0 = some y) (H : Heap) (locs : List Loc) (ls : Array Slot) (hP : va_P (tD Θ) vwCl (tw Θ σ0) H) (hS : va_S (tA Θ) s.heap H locs) (hl : lv_has ls 6 [(0, .ref (ta Θ 0)), (1, .int v1), (3, .int v3), (4, .long v4)]) : W p l e rm_X7_cellsBarred s m args below meth c H locs 0 0 (MQ below (qI Θ y.1 y.2) args s 0 0 (tA Θ)) (F0 m 25 ls []) := by
  have hx := X.1
  have hb := X.2.1
  unfold X7_cellsBarred_J25 at h
  refine lv_aload_n hx hb dX7_cellsBarred_25 rfl (lv_at hl 0 rfl) ?_
  refine g_X7_65 X O hP dX7_cellsBarred_26 ?_
  refine lv_iload_n hx hb dX7_cellsBarred_29 rfl (lv_at hl 1 rfl) ?_
  obtain ⟨g_3, h⟩ := grd_s h
  refine x_iald X O hP mI_19 g_3 dX7_cellsBarred_30 ?_
  refine lv_if_ge (tgt := 40) hx hb dX7_cellsBarred_31 (by decide) (fun c_4 => ?_) (fun c_4 => ?_)
  · have h := ite_t c_4 h
    refine lv_lload hx hb dX7_cellsBarred_40 (lv_at hl 3 rfl) ?_
    refine lv_lconst (v := 0) hx hb dX7_cellsBarred_42 (by decide) ?_
    refine W.lcmp hx hb dX7_cellsBarred_43 ?_
    refine lv_if_ge (tgt := 53) hx hb dX7_cellsBarred_44 (by decide) (fun c_5 => ?_) (fun c_5 => ?_)
    · have h := ite_t c_5 h
      refine lv_iload_n hx hb dX7_cellsBarred_53 rfl (lv_at hl 2 rfl) ?_
      refine lv_lload hx hb dX7_cellsBarred_54 (lv_at hl 3 rfl) ?_
      refine lv_aload_n hx hb dX7_cellsBarred_56 rfl (lv_at hl 0 rfl) ?_
      refine g_X7_65 X O hP dX7_cellsBarred_57 ?_
      refine lv_iload_n hx hb dX7_cellsBarred_60 rfl (lv_at hl 1 rfl) ?_
      obtain ⟨g_6, h⟩ := grd_s h
      refine x_iald X O hP mI_19 g_6 dX7_cellsBarred_61 ?_
      refine x_calli (x_runS X hP hS hl.1 (As := [.int v3, .long v4, .int (σ0 19 v1.toNatClampNeg)]) (rest := []) (k_X7_isBeyond O v3 v4 (σ0 19 v1.toNatClampNeg) σ0 rfl) wM_X7_116 wT_yX7_isBeyond wN_X7 wC_yX7_isBeyond hd_X7_isBeyond rfl ⟨rfl, rfl⟩ ⟨(Nat.le_of_ble_eq_true rfl), (Nat.le_of_ble_eq_true rfl)⟩ ⟨Nat.zero_le _, Nat.zero_le _⟩ rfl (Nat.le_of_ble_eq_true rfl) dX7_cellsBarred_62) hS (fun H locs hP hS => ?_)
      refine lv_if_eq (tgt := 76) hx hb dX7_cellsBarred_65 (by decide) (fun c_7 => ?_) (fun c_7 => ?_)
      · have h := ite_t c_7 h
        refine lv_iconst (v := 0) hx hb dX7_cellsBarred_76 (by decide) ?_
        have h := some_i h
        subst h
        exact x_reti X hP hS hr hlk rfl rfl dX7_cellsBarred_77
      · have h := ite_f c_7 h
        refine lv_aload_n hx hb dX7_cellsBarred_68 rfl (lv_at hl 0 rfl) ?_
        refine lv_iconst (v := 3) hx hb dX7_cellsBarred_69 (by decide) ?_
        obtain ⟨z_8, e_9, h⟩ := bnd_s h
        refine x_calli (x_runV X O hP hS hl.1 (As := [.int 3]) (rest := []) (k_X7_failed O (3 : Int32) σ0 e_9.symm) lt_X7 (e_X7 _) rfl wM_X7_112 wI_yX7_failed wS_yX7_failed wN_X7 wC_yX7_failed hd_X7_failed rfl ⟨rfl, rfl⟩ ⟨(Nat.le_of_ble_eq_true rfl), (Nat.le_of_ble_eq_true rfl)⟩ ⟨Nat.zero_le _, Nat.zero_le _⟩ rfl (Nat.le_of_ble_eq_true rfl) dX7_cellsBarred_70) hS (fun H locs hP hS => ?_)
        refine lv_goto (tgt := 77) hx hb dX7_cellsBarred_73 (by decide) ?_
        have h := some_i h
        subst h
        exact x_reti X hP hS hr hlk rfl rfl dX7_cellsBarred_77
    · have h := ite_f c_5 h
      refine lv_aload_n hx hb dX7_cellsBarred_47 rfl (lv_at hl 0 rfl) ?_
      refine lv_iconst (v := 4) hx hb dX7_cellsBarred_48 (by decide) ?_
      obtain ⟨z_10, e_11, h⟩ := bnd_s h
      refine x_calli (x_runV X O hP hS hl.1 (As := [.int 4]) (rest := []) (k_X7_failed O (4 : Int32) σ0 e_11.symm) lt_X7 (e_X7 _) rfl wM_X7_112 wI_yX7_failed wS_yX7_failed wN_X7 wC_yX7_failed hd_X7_failed rfl ⟨rfl, rfl⟩ ⟨(Nat.le_of_ble_eq_true rfl), (Nat.le_of_ble_eq_true rfl)⟩ ⟨Nat.zero_le _, Nat.zero_le _⟩ rfl (Nat.le_of_ble_eq_true rfl) dX7_cellsBarred_49) hS (fun H locs hP hS => ?_)
      have h := some_i h
      subst h
      exact x_reti X hP hS hr hlk rfl rfl dX7_cellsBarred_52
  · have h := ite_f c_4 h
    refine lv_aload_n hx hb dX7_cellsBarred_34 rfl (lv_at hl 0 rfl) ?_
    refine lv_iconst (v := 1) hx hb dX7_cellsBarred_35 (by decide) ?_
    obtain ⟨z_12, e_13, h⟩ := bnd_s h
    refine x_calli (x_runV X O hP hS hl.1 (As := [.int 1]) (rest := []) (k_X7_failed O (1 : Int32) σ0 e_13.symm) lt_X7 (e_X7 _) rfl wM_X7_112 wI_yX7_failed wS_yX7_failed wN_X7 wC_yX7_failed hd_X7_failed rfl ⟨rfl, rfl⟩ ⟨(Nat.le_of_ble_eq_true rfl), (Nat.le_of_ble_eq_true rfl)⟩ ⟨Nat.zero_le _, Nat.zero_le _⟩ rfl (Nat.le_of_ble_eq_true rfl) dX7_cellsBarred_36) hS (fun H locs hP hS => ?_)
    have h := some_i h
    subst h
    exact x_reti X hP hS hr hlk rfl rfl dX7_cellsBarred_39
theorem hd_X7_cellsBarred : yX7_cellsBarred.cls ≠ "java/lang/invoke/MethodHandle" ∧ yX7_cellsBarred.cls ≠ "java/lang/invoke/VarHandle" ∧ (parseMethodDescriptor yX7_cellsBarred.desc).map (fun d => d.parameters.length) = some 4 := by decide +kernel
set_option maxHeartbeats 4000000 in
set_option maxRecDepth 100000 in
theorem k_X7_cellsBarred {Θ : TH} {l : Launch} (O : okT Θ (eM Θ) 23) (v1 : Int32) (v2 : Int32) (v3 : Int32) (v4 : Int64) (σ0 : Mem) {y : Int32 × Mem} (h : X7_cellsBarred v1 v2 v3 v4 σ0 = some y) : Met l yX7_cellsBarred (Cond.code yX7_cellsBarred cX7_cellsBarred 6 (some .int) :: wAll) rm_X7_cellsBarred (va_Pc [.ref (ta Θ 0), .int v1, .int v2, .int v3, .long v4] (tS Θ σ0)) (qI Θ y.1 y.2) 0 0 (tA Θ) := by
  refine x_ent (by decide) (Nat.le_of_ble_eq_true rfl) (fun p e s m below meth c X hr hlk hP ls hl => ?_)
  have hS : va_S (tA Θ) s.heap s.heap [] := va_S.rf
  have hl : lv_has ls 6 [(0, .ref (ta Θ 0)), (1, .int v1), (2, .int v2), (3, .int v3), (4, .long v4)] := hl
  have hx := X.1
  have hb := X.2.1
  unfold X7_cellsBarred at h
  refine lv_aload_n hx hb dX7_cellsBarred_0 rfl (lv_at hl 0 rfl) ?_
  refine g_X7_65 X O hP dX7_cellsBarred_1 ?_
  refine lv_iload_n hx hb dX7_cellsBarred_4 rfl (lv_at hl 1 rfl) ?_
  obtain ⟨g_1, h⟩ := grd_s h
  refine x_iald X O hP mI_19 g_1 dX7_cellsBarred_5 ?_
  refine lv_if_lt (tgt := 25) hx hb dX7_cellsBarred_6 (by decide) (fun c_2 => ?_) (fun c_2 => ?_)
  · have h := ite_t c_2 h
    exact w_X7_cellsBarred_J25 X O hr hlk v1 v3 v4 σ0 h _ _ _ hP hS (lv_sub hl [0, 1, 3, 4] rfl)
  · have h := ite_f c_2 h
    refine lv_aload_n hx hb dX7_cellsBarred_9 rfl (lv_at hl 0 rfl) ?_
    refine g_X7_68 X O hP dX7_cellsBarred_10 ?_
    refine lv_iload_n hx hb dX7_cellsBarred_13 rfl (lv_at hl 1 rfl) ?_
    obtain ⟨g_14, h⟩ := grd_s h
    refine x_iald X O hP mI_20 g_14 dX7_cellsBarred_14 ?_
    refine lv_iload_n hx hb dX7_cellsBarred_15 rfl (lv_at hl 2 rfl) ?_
    refine lv_icmp_eq (tgt := 25) hx hb dX7_cellsBarred_16 (by decide) (fun c_15 => ?_) (fun c_15 => ?_)
    · have h := ite_t c_15 h
      exact w_X7_cellsBarred_J25 X O hr hlk v1 v3 v4 σ0 h _ _ _ hP hS (lv_sub hl [0, 1, 3, 4] rfl)
    · have h := ite_f c_15 h
      refine lv_aload_n hx hb dX7_cellsBarred_19 rfl (lv_at hl 0 rfl) ?_
      refine lv_iconst (v := 2) hx hb dX7_cellsBarred_20 (by decide) ?_
      obtain ⟨z_16, e_17, h⟩ := bnd_s h
      refine x_calli (x_runV X O hP hS hl.1 (As := [.int 2]) (rest := []) (k_X7_failed O (2 : Int32) σ0 e_17.symm) lt_X7 (e_X7 _) rfl wM_X7_112 wI_yX7_failed wS_yX7_failed wN_X7 wC_yX7_failed hd_X7_failed rfl ⟨rfl, rfl⟩ ⟨(Nat.le_of_ble_eq_true rfl), (Nat.le_of_ble_eq_true rfl)⟩ ⟨Nat.zero_le _, Nat.zero_le _⟩ rfl (Nat.le_of_ble_eq_true rfl) dX7_cellsBarred_21) hS (fun H locs hP hS => ?_)
      have h := some_i h
      subst h
      exact x_reti X hP hS hr hlk rfl rfl dX7_cellsBarred_24
abbrev rm_X7_noSheet : Room := { frames := 1, cells := 0, slots := 0, locals := 25 }
theorem hd_X7_noSheet : yX7_noSheet.cls ≠ "java/lang/invoke/MethodHandle" ∧ yX7_noSheet.cls ≠ "java/lang/invoke/VarHandle" ∧ (parseMethodDescriptor yX7_noSheet.desc).map (fun d => d.parameters.length) = some 1 := by decide +kernel
set_option maxHeartbeats 4000000 in
set_option maxRecDepth 100000 in
theorem k_X7_noSheet {Θ : TH} {l : Launch} (O : okT Θ (eM Θ) 23) (v0 : Int32) (σ0 : Mem) {y : Int32} (h : X7_noSheet v0 = y) : Met l yX7_noSheet (Cond.code yX7_noSheet cX7_noSheet 1 (some .boolean) :: wAll) rm_X7_noSheet (va_Pc [.int v0] (tS Θ σ0)) (qI Θ y σ0) 0 0 (tA Θ) := by
  refine x_ent (by decide) (Nat.le_of_ble_eq_true rfl) (fun p e s m below meth c X hr hlk hP ls hl => ?_)
  have hS : va_S (tA Θ) s.heap s.heap [] := va_S.rf
  have hl : lv_has ls 1 [(0, .int v0)] := hl
  have hx := X.1
  have hb := X.2.1
  unfold X7_noSheet at h
  refine lv_iload_n hx hb dX7_noSheet_0 rfl (lv_at hl 0 rfl) ?_
  refine lv_i2l (v := v0.toInt64) hx hb dX7_noSheet_1 rfl ?_
  refine lv_lconst (v := 0) hx hb dX7_noSheet_2 (by decide) ?_
  refine lv_ldc2 (v := 3) hx hb X.2.2.2.1 (X.2.2.2.2.1 _ wL_X7_185) dX7_noSheet_3 ?_
  refine x_calli (x_runS X hP hS hl.1 (As := [.long v0.toInt64, .long 0, .long 3]) (rest := []) (k_X7_in O v0.toInt64 (0 : Int64) (3 : Int64) σ0 rfl) wM_X7_90 wT_yX7_in wN_X7 wC_yX7_in hd_X7_in rfl ⟨rfl, rfl⟩ ⟨(Nat.le_of_ble_eq_true rfl), (Nat.le_of_ble_eq_true rfl)⟩ ⟨Nat.zero_le _, Nat.zero_le _⟩ rfl (Nat.le_of_ble_eq_true rfl) dX7_noSheet_6) hS (fun H locs hP hS => ?_)
  refine lv_if_ne (tgt := 16) hx hb dX7_noSheet_9 (by decide) (fun c_1 => ?_) (fun c_1 => ?_)
  · have h := ite_f c_1 h
    refine lv_iconst (v := 0) hx hb dX7_noSheet_16 (by decide) ?_
    subst h
    exact x_retz X hP hS hr hlk (Or.inl rfl) rfl rfl dX7_noSheet_17
  · have h := ite_t c_1 h
    refine lv_iconst (v := 1) hx hb dX7_noSheet_12 (by decide) ?_
    refine lv_goto (tgt := 17) hx hb dX7_noSheet_13 (by decide) ?_
    subst h
    exact x_retz X hP hS hr hlk (Or.inr rfl) rfl rfl dX7_noSheet_17
abbrev rm_X7_counter : Room := { frames := 4, cells := 0, slots := 0, locals := 101 }
set_option maxHeartbeats 4000000 in
set_option maxRecDepth 100000 in
theorem w_X7_counter_L90 {F : Nat} {Θ : TH} {p : Program} {l : Launch} {e : Env} {s : State} {m : MethodId} {args : Array Value} {below : List Frame} {meth : Method} {c : Code} (X : CX Θ p s m args c RX7 cX7_counter 7) (O : okT Θ (eM Θ) 23) (hr : meth.sig.returnType = some .int) (hlk : meth.locks = false) {y : Int32 × Mem} {k161 : Mem → Option (Int32 × Mem)} (hk161 : ∀ (σ0 : Mem), k161 σ0 = some y → ∀ (H : Heap) (locs : List Loc) (ls : Array Slot), va_P (tD Θ) vwCl (tw Θ σ0) H → va_S (tA Θ) s.heap H locs → lv_has ls 7 [(0, .ref (ta Θ 0))] → W p l e rm_X7_counter s m args below meth c H locs 0 0 (MQ below (qI Θ y.1 y.2) args s 0 0 (tA Θ)) (F0 m 161 ls [])) :
    ∀ (f : Nat) (v6 : Int32) (σ0 : Mem), X7_counter_L90 F k161 f v6 σ0 = some y → ∀ (H : Heap) (locs : List Loc) (ls : Array Slot), va_P (tD Θ) vwCl (tw Θ σ0) H → va_S (tA Θ) s.heap H locs → lv_has ls 7 [(0, .ref (ta Θ 0)), (6, .int v6)] → W p l e rm_X7_counter s m args below meth c H locs 0 0 (MQ below (qI Θ y.1 y.2) args s 0 0 (tA Θ)) (F0 m 90 ls []) := by
  have hx := X.1
  have hb := X.2.1
  intro f
  induction f with
  | zero => intro v6 σ0 h; cases h
  | succ f ih =>
    intro v6 σ0 h H locs ls hP hS hl
    rw [X7_counter_L90] at h
    refine lv_iload hx hb dX7_counter_90 (lv_at hl 1 rfl) ?_
    refine lv_aload_n hx hb dX7_counter_92 rfl (lv_at hl 0 rfl) ?_
    refine g_X7_87 X O hP dX7_counter_93 ?_
    refine lv_icmp_ge (tgt := 161) hx hb dX7_counter_96 (by decide) (fun c_11 => ?_) (fun c_11 => ?_)
    · have h := ite_t c_11 h
      exact hk161 σ0 h _ _ _ hP hS (lv_sub hl [0] rfl)
    · have h := ite_f c_11 h
      refine lv_aload_n hx hb dX7_counter_99 rfl (lv_at hl 0 rfl) ?_
      refine g_X7_7 X O hP dX7_counter_100 ?_
      refine lv_iload hx hb dX7_counter_103 (lv_at hl 1 rfl) ?_
      refine lv_aload_n hx hb dX7_counter_105 rfl (lv_at hl 0 rfl) ?_
      refine g_X7_22 X O hP dX7_counter_106 ?_
      refine lv_iload hx hb dX7_counter_109 (lv_at hl 1 rfl) ?_
      obtain ⟨g_12, h⟩ := grd_s h
      refine x_iald X O hP mI_5 g_12 dX7_counter_111 ?_
      obtain ⟨g_13, h⟩ := grd_s h
      obtain ⟨σ_14, e_15, h⟩ := bnd_s h
      refine x_iast X O hP hS mI_1 g_13 dX7_counter_112 e_15 (fun H locs hP hS => ?_)
      refine lv_aload_n hx hb dX7_counter_113 rfl (lv_at hl 0 rfl) ?_
      refine g_X7_13 X O hP dX7_counter_114 ?_
      refine lv_iload hx hb dX7_counter_117 (lv_at hl 1 rfl) ?_
      refine lv_aload_n hx hb dX7_counter_119 rfl (lv_at hl 0 rfl) ?_
      refine g_X7_25 X O hP dX7_counter_120 ?_
      refine lv_iload hx hb dX7_counter_123 (lv_at hl 1 rfl) ?_
      obtain ⟨g_16, h⟩ := grd_s h
      refine x_iald X O hP mI_6 g_16 dX7_counter_125 ?_
      obtain ⟨g_17, h⟩ := grd_s h
      obtain ⟨σ_18, e_19, h⟩ := bnd_s h
      refine x_iast X O hP hS mI_2 g_17 dX7_counter_126 e_19 (fun H locs hP hS => ?_)
      refine lv_aload_n hx hb dX7_counter_127 rfl (lv_at hl 0 rfl) ?_
      refine g_X7_16 X O hP dX7_counter_128 ?_
      refine lv_iload hx hb dX7_counter_131 (lv_at hl 1 rfl) ?_
      refine lv_aload_n hx hb dX7_counter_133 rfl (lv_at hl 0 rfl) ?_
      refine g_X7_28 X O hP dX7_counter_134 ?_
      refine lv_iload hx hb dX7_counter_137 (lv_at hl 1 rfl) ?_
      obtain ⟨g_20, h⟩ := grd_s h
      refine x_iald X O hP mI_7 g_20 dX7_counter_139 ?_
      obtain ⟨g_21, h⟩ := grd_s h
      obtain ⟨σ_22, e_23, h⟩ := bnd_s h
      refine x_iast X O hP hS mI_3 g_21 dX7_counter_140 e_23 (fun H locs hP hS => ?_)
      refine lv_aload_n hx hb dX7_counter_141 rfl (lv_at hl 0 rfl) ?_
      refine g_X7_19 X O hP dX7_counter_142 ?_
      refine lv_iload hx hb dX7_counter_145 (lv_at hl 1 rfl) ?_
      refine lv_aload_n hx hb dX7_counter_147 rfl (lv_at hl 0 rfl) ?_
      refine g_X7_31 X O hP dX7_counter_148 ?_
      refine lv_iload hx hb dX7_counter_151 (lv_at hl 1 rfl) ?_
      obtain ⟨g_24, h⟩ := grd_s h
      refine x_iald X O hP mI_8 g_24 dX7_counter_153 ?_
      obtain ⟨g_25, h⟩ := grd_s h
      obtain ⟨σ_26, e_27, h⟩ := bnd_s h
      refine x_iast X O hP hS mI_4 g_25 dX7_counter_154 e_27 (fun H locs hP hS => ?_)
      refine lv_iinc (v := v6 + 1) (lv' := [(6, .int (v6 + 1)), (0, .ref (ta Θ 0))]) hx hb dX7_counter_155 hl (k := 1) rfl rfl (by decide) rfl (fun ls hl => ?_)
      refine lv_goto (tgt := 90) hx hb dX7_counter_158 (by decide) ?_
      exact ih (v6 + 1) σ_26 h _ _ _ hP hS (lv_sub hl [1, 0] rfl)
theorem hd_X7_counter : yX7_counter.cls ≠ "java/lang/invoke/MethodHandle" ∧ yX7_counter.cls ≠ "java/lang/invoke/VarHandle" ∧ (parseMethodDescriptor yX7_counter.desc).map (fun d => d.parameters.length) = some 4 := by decide +kernel
set_option maxHeartbeats 4000000 in
set_option maxRecDepth 100000 in
theorem k_X7_counter {F : Nat} {Θ : TH} {l : Launch} (O : okT Θ (eM Θ) 23) (v1 : Int32) (v2 : Int32) (v3 : Int32) (v4 : Int32) (σ0 : Mem) {y : Int32 × Mem} (h : X7_counter F v1 v2 v3 v4 σ0 = some y) : Met l yX7_counter (Cond.code yX7_counter cX7_counter 7 (some .int) :: wAll) rm_X7_counter (va_Pc [.ref (ta Θ 0), .int v1, .int v2, .int v3, .int v4] (tS Θ σ0)) (qI Θ y.1 y.2) 0 0 (tA Θ) := by
  refine x_ent (by decide) (Nat.le_of_ble_eq_true rfl) (fun p e s m below meth c X hr hlk hP ls hl => ?_)
  have hS : va_S (tA Θ) s.heap s.heap [] := va_S.rf
  have hl : lv_has ls 7 [(0, .ref (ta Θ 0)), (1, .int v1), (2, .int v2), (3, .int v3), (4, .int v4)] := hl
  have hx := X.1
  have hb := X.2.1
  unfold X7_counter at h
  refine lv_iload_n hx hb dX7_counter_0 rfl (lv_at hl 1 rfl) ?_
  refine x_calli (x_runS X hP hS hl.1 (As := [.int v1]) (rest := []) (k_X7_noSheet O v1 σ0 rfl) wM_X7_120 wT_yX7_noSheet wN_X7 wC_yX7_noSheet hd_X7_noSheet rfl ⟨rfl, rfl⟩ ⟨(Nat.le_of_ble_eq_true rfl), (Nat.le_of_ble_eq_true rfl)⟩ ⟨Nat.zero_le _, Nat.zero_le _⟩ rfl (Nat.le_of_ble_eq_true rfl) dX7_counter_1) hS (fun H locs hP hS => ?_)
  refine lv_if_eq (tgt := 13) hx hb dX7_counter_4 (by decide) (fun c_1 => ?_) (fun c_1 => ?_)
  · have h := ite_t c_1 h
    refine lv_iload_n hx hb dX7_counter_13 rfl (lv_at hl 2 rfl) ?_
    refine lv_i2l (v := v2.toInt64) hx hb dX7_counter_14 rfl ?_
    refine lv_lconst (v := 0) hx hb dX7_counter_15 (by decide) ?_
    refine lv_ldc2 (v := 2) hx hb X.2.2.2.1 (X.2.2.2.2.1 _ wL_X7_127) dX7_counter_16 ?_
    refine x_calli (x_runS X hP hS hl.1 (As := [.long v2.toInt64, .long 0, .long 2]) (rest := []) (k_X7_in O v2.toInt64 (0 : Int64) (2 : Int64) σ0 rfl) wM_X7_90 wT_yX7_in wN_X7 wC_yX7_in hd_X7_in rfl ⟨rfl, rfl⟩ ⟨(Nat.le_of_ble_eq_true rfl), (Nat.le_of_ble_eq_true rfl)⟩ ⟨Nat.zero_le _, Nat.zero_le _⟩ rfl (Nat.le_of_ble_eq_true rfl) dX7_counter_19) hS (fun H locs hP hS => ?_)
    refine lv_if_ne (tgt := 32) hx hb dX7_counter_22 (by decide) (fun c_2 => ?_) (fun c_2 => ?_)
    · have h := ite_f c_2 h
      refine lv_aload_n hx hb dX7_counter_32 rfl (lv_at hl 0 rfl) ?_
      refine lv_iload_n hx hb dX7_counter_33 rfl (lv_at hl 1 rfl) ?_
      refine lv_iload_n hx hb dX7_counter_34 rfl (lv_at hl 2 rfl) ?_
      refine lv_iload_n hx hb dX7_counter_35 rfl (lv_at hl 3 rfl) ?_
      refine lv_iload hx hb dX7_counter_36 (lv_at hl 4 rfl) ?_
      refine lv_i2l (v := v4.toInt64) hx hb dX7_counter_38 rfl ?_
      obtain ⟨z_3, e_4, h⟩ := ob_s h
      refine x_calli (x_runV X O hP hS hl.1 (As := [.int v1, .int v2, .int v3, .long v4.toInt64]) (rest := []) (k_X7_cellsBarred O v1 v2 v3 v4.toInt64 σ0 e_4) lt_X7 (e_X7 _) rfl wM_X7_129 wI_yX7_cellsBarred wS_yX7_cellsBarred wN_X7 wC_yX7_cellsBarred hd_X7_cellsBarred rfl ⟨rfl, rfl⟩ ⟨(Nat.le_of_ble_eq_true rfl), (Nat.le_of_ble_eq_true rfl)⟩ ⟨Nat.zero_le _, Nat.zero_le _⟩ rfl (Nat.le_of_ble_eq_true rfl) dX7_counter_39) hS (fun H locs hP hS => ?_)
      refine lv_istore (lv' := [(5, .int z_3.1), (0, .ref (ta Θ 0)), (1, .int v1), (2, .int v2), (3, .int v3), (4, .int v4)]) hx hb dX7_counter_42 hl (by decide) rfl (fun ls hl => ?_)
      refine lv_iload hx hb dX7_counter_44 (lv_at hl 0 rfl) ?_
      refine lv_if_ge (tgt := 52) hx hb dX7_counter_46 (by decide) (fun c_5 => ?_) (fun c_5 => ?_)
      · have h := ite_t c_5 h
        refine lv_aload_n hx hb dX7_counter_52 rfl (lv_at hl 1 rfl) ?_
        refine lv_bipush (v := 60) hx hb dX7_counter_53 (by decide) ?_
        refine lv_iload_n hx hb dX7_counter_55 rfl (lv_at hl 2 rfl) ?_
        refine lv_imul hx hb dX7_counter_56 ?_
        refine lv_iload_n hx hb dX7_counter_57 rfl (lv_at hl 4 rfl) ?_
        refine lv_iadd hx hb dX7_counter_58 ?_
        refine lv_iload hx hb dX7_counter_59 (lv_at hl 5 rfl) ?_
        obtain ⟨z_6, e_7, h⟩ := ob_s h
        refine x_calli (x_runV X O hP hS hl.1 (As := [.int (((60 : Int32) * v1) + v3), .int v4]) (rest := []) (k_X7_readsCounter O (((60 : Int32) * v1) + v3) v4 z_3.2 e_7) lt_X7 (e_X7 _) rfl wM_X7_133 wI_yX7_readsCounter wS_yX7_readsCounter wN_X7 wC_yX7_readsCounter hd_X7_readsCounter rfl ⟨rfl, rfl⟩ ⟨(Nat.le_of_ble_eq_true rfl), (Nat.le_of_ble_eq_true rfl)⟩ ⟨Nat.zero_le _, Nat.zero_le _⟩ rfl (Nat.le_of_ble_eq_true rfl) dX7_counter_61) hS (fun H locs hP hS => ?_)
        refine lv_if_ne (tgt := 79) hx hb dX7_counter_64 (by decide) (fun c_8 => ?_) (fun c_8 => ?_)
        · have h := ite_f c_8 h
          refine lv_aload_n hx hb dX7_counter_79 rfl (lv_at hl 1 rfl) ?_
          refine lv_aload_n hx hb dX7_counter_80 rfl (lv_at hl 1 rfl) ?_
          refine g_X7_101 X O hP dX7_counter_81 ?_
          obtain ⟨σ_9, e_10, h⟩ := bnd_s h
          refine p_X7_87 X O hP hS dX7_counter_84 e_10 (fun H locs hP hS => ?_)
          refine lv_iconst (v := 0) hx hb dX7_counter_87 (by decide) ?_
          refine lv_istore (lv' := [(6, .int 0), (5, .int z_3.1), (0, .ref (ta Θ 0)), (1, .int v1), (2, .int v2), (3, .int v3), (4, .int v4)]) hx hb dX7_counter_88 hl (by decide) rfl (fun ls hl => ?_)
          refine w_X7_counter_L90 X O hr hlk  ?_ _ (0 : Int32) σ_9 h _ _ _ hP hS (lv_sub hl [2, 0] rfl)
          · intro σ_28 h H locs ls hP hS hl
            refine lv_aload_n hx hb dX7_counter_161 rfl (lv_at hl 0 rfl) ?_
            refine lv_iconst (v := 0) hx hb dX7_counter_162 (by decide) ?_
            obtain ⟨σ_29, e_30, h⟩ := bnd_s h
            refine p_X7_136 X O hP hS dX7_counter_163 e_30 (fun H locs hP hS => ?_)
            refine lv_aload_n hx hb dX7_counter_166 rfl (lv_at hl 0 rfl) ?_
            refine lv_aload_n hx hb dX7_counter_167 rfl (lv_at hl 0 rfl) ?_
            refine g_X7_87 X O hP dX7_counter_168 ?_
            obtain ⟨z_31, e_32, h⟩ := bnd_s h
            refine x_calli (x_runV X O hP hS hl.1 (As := [.int (σ_29 0 1)]) (rest := []) (k_X7_refused O (σ_29 0 1) σ_29 e_32.symm) lt_X7 (e_X7 _) rfl wM_X7_124 wI_yX7_refused wS_yX7_refused wN_X7 wC_yX7_refused hd_X7_refused rfl ⟨rfl, rfl⟩ ⟨(Nat.le_of_ble_eq_true rfl), (Nat.le_of_ble_eq_true rfl)⟩ ⟨Nat.zero_le _, Nat.zero_le _⟩ rfl (Nat.le_of_ble_eq_true rfl) dX7_counter_171) hS (fun H locs hP hS => ?_)
            have h := some_i h
            subst h
            exact x_reti X hP hS hr hlk rfl rfl dX7_counter_174
        · have h := ite_t c_8 h
          refine lv_aload_n hx hb dX7_counter_67 rfl (lv_at hl 1 rfl) ?_
          refine lv_bipush (v := (-100)) hx hb dX7_counter_68 (by decide) ?_
          refine lv_aload_n hx hb dX7_counter_70 rfl (lv_at hl 1 rfl) ?_
          refine g_X7_94 X O hP dX7_counter_71 ?_
          refine lv_isub hx hb dX7_counter_74 ?_
          obtain ⟨z_33, e_34, h⟩ := bnd_s h
          refine x_calli (x_runV X O hP hS hl.1 (As := [.int ((-100 : Int32) - (z_6.2 0 6))]) (rest := []) (k_X7_refused O ((-100 : Int32) - (z_6.2 0 6)) z_6.2 e_34.symm) lt_X7 (e_X7 _) rfl wM_X7_124 wI_yX7_refused wS_yX7_refused wN_X7 wC_yX7_refused hd_X7_refused rfl ⟨rfl, rfl⟩ ⟨(Nat.le_of_ble_eq_true rfl), (Nat.le_of_ble_eq_true rfl)⟩ ⟨Nat.zero_le _, Nat.zero_le _⟩ rfl (Nat.le_of_ble_eq_true rfl) dX7_counter_75) hS (fun H locs hP hS => ?_)
          have h := some_i h
          subst h
          exact x_reti X hP hS hr hlk rfl rfl dX7_counter_78
      · have h := ite_f c_5 h
        refine lv_iload hx hb dX7_counter_49 (lv_at hl 0 rfl) ?_
        have h := some_i h
        subst h
        exact x_reti X hP hS hr hlk rfl rfl dX7_counter_51
    · have h := ite_t c_2 h
      refine lv_aload_n hx hb dX7_counter_25 rfl (lv_at hl 0 rfl) ?_
      refine lv_bipush (v := (-2)) hx hb dX7_counter_26 (by decide) ?_
      obtain ⟨z_35, e_36, h⟩ := bnd_s h
      refine x_calli (x_runV X O hP hS hl.1 (As := [.int ((-2))]) (rest := []) (k_X7_refused O (-2 : Int32) σ0 e_36.symm) lt_X7 (e_X7 _) rfl wM_X7_124 wI_yX7_refused wS_yX7_refused wN_X7 wC_yX7_refused hd_X7_refused rfl ⟨rfl, rfl⟩ ⟨(Nat.le_of_ble_eq_true rfl), (Nat.le_of_ble_eq_true rfl)⟩ ⟨Nat.zero_le _, Nat.zero_le _⟩ rfl (Nat.le_of_ble_eq_true rfl) dX7_counter_28) hS (fun H locs hP hS => ?_)
      have h := some_i h
      subst h
      exact x_reti X hP hS hr hlk rfl rfl dX7_counter_31
  · have h := ite_f c_1 h
    refine lv_aload_n hx hb dX7_counter_7 rfl (lv_at hl 0 rfl) ?_
    refine lv_iconst (v := (-1)) hx hb dX7_counter_8 (by decide) ?_
    obtain ⟨z_37, e_38, h⟩ := bnd_s h
    refine x_calli (x_runV X O hP hS hl.1 (As := [.int ((-1))]) (rest := []) (k_X7_refused O (-1 : Int32) σ0 e_38.symm) lt_X7 (e_X7 _) rfl wM_X7_124 wI_yX7_refused wS_yX7_refused wN_X7 wC_yX7_refused hd_X7_refused rfl ⟨rfl, rfl⟩ ⟨(Nat.le_of_ble_eq_true rfl), (Nat.le_of_ble_eq_true rfl)⟩ ⟨Nat.zero_le _, Nat.zero_le _⟩ rfl (Nat.le_of_ble_eq_true rfl) dX7_counter_9) hS (fun H locs hP hS => ?_)
    have h := some_i h
    subst h
    exact x_reti X hP hS hr hlk rfl rfl dX7_counter_12
abbrev rm_X7_lastsOf : Room := { frames := 0, cells := 0, slots := 0, locals := 0 }
theorem hd_X7_lastsOf : yX7_lastsOf.cls ≠ "java/lang/invoke/MethodHandle" ∧ yX7_lastsOf.cls ≠ "java/lang/invoke/VarHandle" ∧ (parseMethodDescriptor yX7_lastsOf.desc).map (fun d => d.parameters.length) = some 1 := by decide +kernel
set_option maxHeartbeats 4000000 in
set_option maxRecDepth 100000 in
theorem k_X7_lastsOf {Θ : TH} {l : Launch} (O : okT Θ (eM Θ) 23) (v1 : Int32) (σ0 : Mem) {y : Int32} (h : X7_lastsOf v1 σ0 = some y) : Met l yX7_lastsOf (Cond.code yX7_lastsOf cX7_lastsOf 3 (some .int) :: wAll) rm_X7_lastsOf (va_Pc [.ref (ta Θ 0), .int v1] (tS Θ σ0)) (qI Θ y σ0) 0 0 (tA Θ) := by
  refine x_ent (by decide) (Nat.le_of_ble_eq_true rfl) (fun p e s m below meth c X hr hlk hP ls hl => ?_)
  have hS : va_S (tA Θ) s.heap s.heap [] := va_S.rf
  have hl : lv_has ls 3 [(0, .ref (ta Θ 0)), (1, .int v1)] := hl
  have hx := X.1
  have hb := X.2.1
  unfold X7_lastsOf at h
  refine lv_aload_n hx hb dX7_lastsOf_0 rfl (lv_at hl 0 rfl) ?_
  refine g_X7_19 X O hP dX7_lastsOf_1 ?_
  refine lv_iload_n hx hb dX7_lastsOf_4 rfl (lv_at hl 1 rfl) ?_
  obtain ⟨g_1, h⟩ := grd_s h
  refine x_iald X O hP mI_4 g_1 dX7_lastsOf_5 ?_
  obtain ⟨v2_2, e_3, h⟩ := bnd_s h
  refine lv_nam e_3 ?_
  refine lv_istore_n (lv' := [(2, .int v2_2), (0, .ref (ta Θ 0)), (1, .int v1)]) hx hb dX7_lastsOf_6 rfl hl (by decide) rfl (fun ls hl => ?_)
  refine lv_aload_n hx hb dX7_lastsOf_7 rfl (lv_at hl 1 rfl) ?_
  refine g_X7_7 X O hP dX7_lastsOf_8 ?_
  refine lv_iload_n hx hb dX7_lastsOf_11 rfl (lv_at hl 2 rfl) ?_
  obtain ⟨g_4, h⟩ := grd_s h
  refine x_iald X O hP mI_1 g_4 dX7_lastsOf_12 ?_
  refine lv_if_ne (tgt := 20) hx hb dX7_lastsOf_13 (by decide) (fun c_5 => ?_) (fun c_5 => ?_)
  · have h := ite_f c_5 h
    refine lv_aload_n hx hb dX7_lastsOf_20 rfl (lv_at hl 1 rfl) ?_
    refine g_X7_7 X O hP dX7_lastsOf_21 ?_
    refine lv_iload_n hx hb dX7_lastsOf_24 rfl (lv_at hl 2 rfl) ?_
    obtain ⟨g_6, h⟩ := grd_s h
    refine x_iald X O hP mI_1 g_6 dX7_lastsOf_25 ?_
    refine lv_iconst (v := 1) hx hb dX7_lastsOf_26 (by decide) ?_
    refine lv_icmp_ne (tgt := 36) hx hb dX7_lastsOf_27 (by decide) (fun c_7 => ?_) (fun c_7 => ?_)
    · have h := ite_f c_7 h
      refine lv_iconst (v := 2) hx hb dX7_lastsOf_36 (by decide) ?_
      refine lv_iload_n hx hb dX7_lastsOf_37 rfl (lv_at hl 0 rfl) ?_
      refine lv_iconst (v := 1) hx hb dX7_lastsOf_38 (by decide) ?_
      refine lv_iadd hx hb dX7_lastsOf_39 ?_
      refine lv_imul hx hb dX7_lastsOf_40 ?_
      have h := some_i h
      subst h
      exact x_reti X hP hS hr hlk rfl rfl dX7_lastsOf_41
    · have h := ite_t c_7 h
      refine lv_iload_n hx hb dX7_lastsOf_30 rfl (lv_at hl 0 rfl) ?_
      refine lv_iconst (v := 1) hx hb dX7_lastsOf_31 (by decide) ?_
      refine lv_iadd hx hb dX7_lastsOf_32 ?_
      refine lv_goto (tgt := 41) hx hb dX7_lastsOf_33 (by decide) ?_
      have h := some_i h
      subst h
      exact x_reti X hP hS hr hlk rfl rfl dX7_lastsOf_41
  · have h := ite_t c_5 h
    refine lv_iload_n hx hb dX7_lastsOf_16 rfl (lv_at hl 0 rfl) ?_
    refine lv_goto (tgt := 41) hx hb dX7_lastsOf_17 (by decide) ?_
    have h := some_i h
    subst h
    exact x_reti X hP hS hr hlk rfl rfl dX7_lastsOf_41
abbrev rm_X7_ofPerson : Room := { frames := 2, cells := 0, slots := 0, locals := 46 }
theorem hd_X7_ofPerson : yX7_ofPerson.cls ≠ "java/lang/invoke/MethodHandle" ∧ yX7_ofPerson.cls ≠ "java/lang/invoke/VarHandle" ∧ (parseMethodDescriptor yX7_ofPerson.desc).map (fun d => d.parameters.length) = some 2 := by decide +kernel
set_option maxHeartbeats 4000000 in
set_option maxRecDepth 100000 in
theorem k_X7_ofPerson {Θ : TH} {l : Launch} (O : okT Θ (eM Θ) 23) (v1 : Int32) (v2 : Int32) (σ0 : Mem) {y : Int32} (h : X7_ofPerson v1 v2 σ0 = some y) : Met l yX7_ofPerson (Cond.code yX7_ofPerson cX7_ofPerson 3 (some .int) :: wAll) rm_X7_ofPerson (va_Pc [.ref (ta Θ 0), .int v1, .int v2] (tS Θ σ0)) (qI Θ y σ0) 0 0 (tA Θ) := by
  refine x_ent (by decide) (Nat.le_of_ble_eq_true rfl) (fun p e s m below meth c X hr hlk hP ls hl => ?_)
  have hS : va_S (tA Θ) s.heap s.heap [] := va_S.rf
  have hl : lv_has ls 3 [(0, .ref (ta Θ 0)), (1, .int v1), (2, .int v2)] := hl
  have hx := X.1
  have hb := X.2.1
  unfold X7_ofPerson at h
  refine lv_aload_n hx hb dX7_ofPerson_0 rfl (lv_at hl 0 rfl) ?_
  refine lv_iload_n hx hb dX7_ofPerson_1 rfl (lv_at hl 1 rfl) ?_
  refine x_calli (x_runV X O hP hS hl.1 (As := [.int v1]) (rest := []) (k_X7_noPerson O v1 σ0 rfl) lt_X7 (e_X7 _) rfl wM_X7_139 wI_yX7_noPerson wS_yX7_noPerson wN_X7 wC_yX7_noPerson hd_X7_noPerson rfl ⟨rfl, rfl⟩ ⟨(Nat.le_of_ble_eq_true rfl), (Nat.le_of_ble_eq_true rfl)⟩ ⟨Nat.zero_le _, Nat.zero_le _⟩ rfl (Nat.le_of_ble_eq_true rfl) dX7_ofPerson_2) hS (fun H locs hP hS => ?_)
  refine lv_if_eq (tgt := 10) hx hb dX7_ofPerson_5 (by decide) (fun c_1 => ?_) (fun c_1 => ?_)
  · have h := ite_t c_1 h
    refine lv_iload_n hx hb dX7_ofPerson_10 rfl (lv_at hl 2 rfl) ?_
    by_cases c_2 : v2 = 0
    · have h := ite_t c_2 h
      refine lv_tableIn (off := 33) (tgt := 44) hx hb dX7_ofPerson_11 (by rw [c_2]; decide) (by rw [c_2]; decide) (by rw [c_2]; rfl) (by decide) ?_
      refine lv_aload_n hx hb dX7_ofPerson_44 rfl (lv_at hl 0 rfl) ?_
      refine g_X7_7 X O hP dX7_ofPerson_45 ?_
      refine lv_iload_n hx hb dX7_ofPerson_48 rfl (lv_at hl 1 rfl) ?_
      obtain ⟨g_7, h⟩ := grd_s h
      refine x_iald X O hP mI_1 g_7 dX7_ofPerson_49 ?_
      have h := some_i h
      subst h
      exact x_reti X hP hS hr hlk rfl rfl dX7_ofPerson_50
    · have h := ite_f c_2 h
      by_cases c_3 : v2 = 1
      · have h := ite_t c_3 h
        refine lv_tableIn (off := 40) (tgt := 51) hx hb dX7_ofPerson_11 (by rw [c_3]; decide) (by rw [c_3]; decide) (by rw [c_3]; rfl) (by decide) ?_
        refine lv_aload_n hx hb dX7_ofPerson_51 rfl (lv_at hl 0 rfl) ?_
        refine g_X7_13 X O hP dX7_ofPerson_52 ?_
        refine lv_iload_n hx hb dX7_ofPerson_55 rfl (lv_at hl 1 rfl) ?_
        obtain ⟨g_8, h⟩ := grd_s h
        refine x_iald X O hP mI_2 g_8 dX7_ofPerson_56 ?_
        have h := some_i h
        subst h
        exact x_reti X hP hS hr hlk rfl rfl dX7_ofPerson_57
      · have h := ite_f c_3 h
        by_cases c_4 : v2 = 2
        · have h := ite_t c_4 h
          refine lv_tableIn (off := 47) (tgt := 58) hx hb dX7_ofPerson_11 (by rw [c_4]; decide) (by rw [c_4]; decide) (by rw [c_4]; rfl) (by decide) ?_
          refine lv_aload_n hx hb dX7_ofPerson_58 rfl (lv_at hl 0 rfl) ?_
          refine g_X7_16 X O hP dX7_ofPerson_59 ?_
          refine lv_iload_n hx hb dX7_ofPerson_62 rfl (lv_at hl 1 rfl) ?_
          obtain ⟨g_9, h⟩ := grd_s h
          refine x_iald X O hP mI_3 g_9 dX7_ofPerson_63 ?_
          have h := some_i h
          subst h
          exact x_reti X hP hS hr hlk rfl rfl dX7_ofPerson_64
        · have h := ite_f c_4 h
          by_cases c_5 : v2 = 3
          · have h := ite_t c_5 h
            refine lv_tableIn (off := 54) (tgt := 65) hx hb dX7_ofPerson_11 (by rw [c_5]; decide) (by rw [c_5]; decide) (by rw [c_5]; rfl) (by decide) ?_
            refine lv_aload_n hx hb dX7_ofPerson_65 rfl (lv_at hl 0 rfl) ?_
            refine g_X7_19 X O hP dX7_ofPerson_66 ?_
            refine lv_iload_n hx hb dX7_ofPerson_69 rfl (lv_at hl 1 rfl) ?_
            obtain ⟨g_10, h⟩ := grd_s h
            refine x_iald X O hP mI_4 g_10 dX7_ofPerson_70 ?_
            have h := some_i h
            subst h
            exact x_reti X hP hS hr hlk rfl rfl dX7_ofPerson_71
          · have h := ite_f c_5 h
            by_cases c_6 : v2 = 4
            · have h := ite_t c_6 h
              refine lv_tableIn (off := 61) (tgt := 72) hx hb dX7_ofPerson_11 (by rw [c_6]; decide) (by rw [c_6]; decide) (by rw [c_6]; rfl) (by decide) ?_
              refine lv_aload_n hx hb dX7_ofPerson_72 rfl (lv_at hl 0 rfl) ?_
              refine lv_iload_n hx hb dX7_ofPerson_73 rfl (lv_at hl 1 rfl) ?_
              obtain ⟨z_11, e_12, h⟩ := ob_s h
              refine x_calli (x_runV X O hP hS hl.1 (As := [.int v1]) (rest := []) (k_X7_lastsOf O v1 σ0 e_12) lt_X7 (e_X7 _) rfl wM_X7_142 wI_yX7_lastsOf wS_yX7_lastsOf wN_X7 wC_yX7_lastsOf hd_X7_lastsOf rfl ⟨rfl, rfl⟩ ⟨(Nat.le_of_ble_eq_true rfl), (Nat.le_of_ble_eq_true rfl)⟩ ⟨Nat.zero_le _, Nat.zero_le _⟩ rfl (Nat.le_of_ble_eq_true rfl) dX7_ofPerson_74) hS (fun H locs hP hS => ?_)
              have h := some_i h
              subst h
              exact x_reti X hP hS hr hlk rfl rfl dX7_ofPerson_77
            · have h := ite_f c_6 h
              refine lv_tableOut (tgt := 78) hx hb dX7_ofPerson_11 (by have a0 := lv_neT c_2 (a := 0) rfl; have a1 := lv_neT c_3 (a := 1) rfl; have a2 := lv_neT c_4 (a := 2) rfl; have a3 := lv_neT c_5 (a := 3) rfl; have a4 := lv_neT c_6 (a := 4) rfl; omega) (by decide) ?_
              refine lv_bipush (v := (-2)) hx hb dX7_ofPerson_78 (by decide) ?_
              have h := some_i h
              subst h
              exact x_reti X hP hS hr hlk rfl rfl dX7_ofPerson_80
  · have h := ite_f c_1 h
    refine lv_iconst (v := (-1)) hx hb dX7_ofPerson_8 (by decide) ?_
    have h := some_i h
    subst h
    exact x_reti X hP hS hr hlk rfl rfl dX7_ofPerson_9
abbrev rm_X7_live : Room := { frames := 2, cells := 0, slots := 0, locals := 46 }
theorem hd_X7_live : yX7_live.cls ≠ "java/lang/invoke/MethodHandle" ∧ yX7_live.cls ≠ "java/lang/invoke/VarHandle" ∧ (parseMethodDescriptor yX7_live.desc).map (fun d => d.parameters.length) = some 2 := by decide +kernel
set_option maxHeartbeats 4000000 in
set_option maxRecDepth 100000 in
theorem k_X7_live {Θ : TH} {l : Launch} (O : okT Θ (eM Θ) 23) (v1 : Int32) (v2 : Int32) (σ0 : Mem) {y : Int32 × Mem} (h : X7_live v1 v2 σ0 = some y) : Met l yX7_live (Cond.code yX7_live cX7_live 4 (some .int) :: wAll) rm_X7_live (va_Pc [.ref (ta Θ 0), .int v1, .int v2] (tS Θ σ0)) (qI Θ y.1 y.2) 0 0 (tA Θ) := by
  refine x_ent (by decide) (Nat.le_of_ble_eq_true rfl) (fun p e s m below meth c X hr hlk hP ls hl => ?_)
  have hS : va_S (tA Θ) s.heap s.heap [] := va_S.rf
  have hl : lv_has ls 4 [(0, .ref (ta Θ 0)), (1, .int v1), (2, .int v2)] := hl
  have hx := X.1
  have hb := X.2.1
  unfold X7_live at h
  refine lv_aload_n hx hb dX7_live_0 rfl (lv_at hl 0 rfl) ?_
  refine lv_iload_n hx hb dX7_live_1 rfl (lv_at hl 1 rfl) ?_
  refine x_calli (x_runV X O hP hS hl.1 (As := [.int v1]) (rest := []) (k_X7_noPerson O v1 σ0 rfl) lt_X7 (e_X7 _) rfl wM_X7_139 wI_yX7_noPerson wS_yX7_noPerson wN_X7 wC_yX7_noPerson hd_X7_noPerson rfl ⟨rfl, rfl⟩ ⟨(Nat.le_of_ble_eq_true rfl), (Nat.le_of_ble_eq_true rfl)⟩ ⟨Nat.zero_le _, Nat.zero_le _⟩ rfl (Nat.le_of_ble_eq_true rfl) dX7_live_2) hS (fun H locs hP hS => ?_)
  refine lv_if_eq (tgt := 10) hx hb dX7_live_5 (by decide) (fun c_1 => ?_) (fun c_1 => ?_)
  · have h := ite_t c_1 h
    refine lv_iload_n hx hb dX7_live_10 rfl (lv_at hl 2 rfl) ?_
    refine lv_i2l (v := v2.toInt64) hx hb dX7_live_11 rfl ?_
    refine lv_lconst (v := 0) hx hb dX7_live_12 (by decide) ?_
    refine lv_ldc2 (v := 63) hx hb X.2.2.2.1 (X.2.2.2.2.1 _ wL_X7_145) dX7_live_13 ?_
    refine x_calli (x_runS X hP hS hl.1 (As := [.long v2.toInt64, .long 0, .long 63]) (rest := []) (k_X7_in O v2.toInt64 (0 : Int64) (63 : Int64) σ0 rfl) wM_X7_90 wT_yX7_in wN_X7 wC_yX7_in hd_X7_in rfl ⟨rfl, rfl⟩ ⟨(Nat.le_of_ble_eq_true rfl), (Nat.le_of_ble_eq_true rfl)⟩ ⟨Nat.zero_le _, Nat.zero_le _⟩ rfl (Nat.le_of_ble_eq_true rfl) dX7_live_16) hS (fun H locs hP hS => ?_)
    refine lv_if_ne (tgt := 25) hx hb dX7_live_19 (by decide) (fun c_2 => ?_) (fun c_2 => ?_)
    · have h := ite_f c_2 h
      refine lv_aload_n hx hb dX7_live_25 rfl (lv_at hl 0 rfl) ?_
      refine g_X7_13 X O hP dX7_live_26 ?_
      refine lv_iload_n hx hb dX7_live_29 rfl (lv_at hl 1 rfl) ?_
      obtain ⟨g_3, h⟩ := grd_s h
      refine x_iald X O hP mI_2 g_3 dX7_live_30 ?_
      obtain ⟨v3_4, e_5, h⟩ := bnd_s h
      refine lv_nam e_5 ?_
      refine lv_istore_n (lv' := [(3, .int v3_4), (0, .ref (ta Θ 0)), (1, .int v1), (2, .int v2)]) hx hb dX7_live_31 rfl hl (by decide) rfl (fun ls hl => ?_)
      refine lv_aload_n hx hb dX7_live_32 rfl (lv_at hl 1 rfl) ?_
      refine g_X7_13 X O hP dX7_live_33 ?_
      refine lv_iload_n hx hb dX7_live_36 rfl (lv_at hl 2 rfl) ?_
      refine lv_iload_n hx hb dX7_live_37 rfl (lv_at hl 3 rfl) ?_
      obtain ⟨g_6, h⟩ := grd_s h
      obtain ⟨σ_7, e_8, h⟩ := bnd_s h
      refine x_iast X O hP hS mI_2 g_6 dX7_live_38 e_8 (fun H locs hP hS => ?_)
      refine lv_iload_n hx hb dX7_live_39 rfl (lv_at hl 0 rfl) ?_
      have h := some_i h
      subst h
      exact x_reti X hP hS hr hlk rfl rfl dX7_live_40
    · have h := ite_t c_2 h
      refine lv_bipush (v := (-2)) hx hb dX7_live_22 (by decide) ?_
      have h := some_i h
      subst h
      exact x_reti X hP hS hr hlk rfl rfl dX7_live_24
  · have h := ite_f c_1 h
    refine lv_iconst (v := (-1)) hx hb dX7_live_8 (by decide) ?_
    have h := some_i h
    subst h
    exact x_reti X hP hS hr hlk rfl rfl dX7_live_9
abbrev rm_X7_want : Room := { frames := 2, cells := 0, slots := 0, locals := 46 }
theorem hd_X7_want : yX7_want.cls ≠ "java/lang/invoke/MethodHandle" ∧ yX7_want.cls ≠ "java/lang/invoke/VarHandle" ∧ (parseMethodDescriptor yX7_want.desc).map (fun d => d.parameters.length) = some 2 := by decide +kernel
set_option maxHeartbeats 4000000 in
set_option maxRecDepth 100000 in
theorem k_X7_want {Θ : TH} {l : Launch} (O : okT Θ (eM Θ) 23) (v1 : Int32) (v2 : Int32) (σ0 : Mem) {y : Int32 × Mem} (h : X7_want v1 v2 σ0 = some y) : Met l yX7_want (Cond.code yX7_want cX7_want 4 (some .int) :: wAll) rm_X7_want (va_Pc [.ref (ta Θ 0), .int v1, .int v2] (tS Θ σ0)) (qI Θ y.1 y.2) 0 0 (tA Θ) := by
  refine x_ent (by decide) (Nat.le_of_ble_eq_true rfl) (fun p e s m below meth c X hr hlk hP ls hl => ?_)
  have hS : va_S (tA Θ) s.heap s.heap [] := va_S.rf
  have hl : lv_has ls 4 [(0, .ref (ta Θ 0)), (1, .int v1), (2, .int v2)] := hl
  have hx := X.1
  have hb := X.2.1
  unfold X7_want at h
  refine lv_aload_n hx hb dX7_want_0 rfl (lv_at hl 0 rfl) ?_
  refine lv_iload_n hx hb dX7_want_1 rfl (lv_at hl 1 rfl) ?_
  refine x_calli (x_runV X O hP hS hl.1 (As := [.int v1]) (rest := []) (k_X7_noPerson O v1 σ0 rfl) lt_X7 (e_X7 _) rfl wM_X7_139 wI_yX7_noPerson wS_yX7_noPerson wN_X7 wC_yX7_noPerson hd_X7_noPerson rfl ⟨rfl, rfl⟩ ⟨(Nat.le_of_ble_eq_true rfl), (Nat.le_of_ble_eq_true rfl)⟩ ⟨Nat.zero_le _, Nat.zero_le _⟩ rfl (Nat.le_of_ble_eq_true rfl) dX7_want_2) hS (fun H locs hP hS => ?_)
  refine lv_if_eq (tgt := 10) hx hb dX7_want_5 (by decide) (fun c_1 => ?_) (fun c_1 => ?_)
  · have h := ite_t c_1 h
    refine lv_iload_n hx hb dX7_want_10 rfl (lv_at hl 2 rfl) ?_
    refine lv_i2l (v := v2.toInt64) hx hb dX7_want_11 rfl ?_
    refine lv_lconst (v := 0) hx hb dX7_want_12 (by decide) ?_
    refine lv_ldc2 (v := 6) hx hb X.2.2.2.1 (X.2.2.2.2.1 _ wL_X7_147) dX7_want_13 ?_
    refine x_calli (x_runS X hP hS hl.1 (As := [.long v2.toInt64, .long 0, .long 6]) (rest := []) (k_X7_in O v2.toInt64 (0 : Int64) (6 : Int64) σ0 rfl) wM_X7_90 wT_yX7_in wN_X7 wC_yX7_in hd_X7_in rfl ⟨rfl, rfl⟩ ⟨(Nat.le_of_ble_eq_true rfl), (Nat.le_of_ble_eq_true rfl)⟩ ⟨Nat.zero_le _, Nat.zero_le _⟩ rfl (Nat.le_of_ble_eq_true rfl) dX7_want_16) hS (fun H locs hP hS => ?_)
    refine lv_if_ne (tgt := 25) hx hb dX7_want_19 (by decide) (fun c_2 => ?_) (fun c_2 => ?_)
    · have h := ite_f c_2 h
      refine lv_aload_n hx hb dX7_want_25 rfl (lv_at hl 0 rfl) ?_
      refine g_X7_16 X O hP dX7_want_26 ?_
      refine lv_iload_n hx hb dX7_want_29 rfl (lv_at hl 1 rfl) ?_
      obtain ⟨g_3, h⟩ := grd_s h
      refine x_iald X O hP mI_3 g_3 dX7_want_30 ?_
      obtain ⟨v3_4, e_5, h⟩ := bnd_s h
      refine lv_nam e_5 ?_
      refine lv_istore_n (lv' := [(3, .int v3_4), (0, .ref (ta Θ 0)), (1, .int v1), (2, .int v2)]) hx hb dX7_want_31 rfl hl (by decide) rfl (fun ls hl => ?_)
      refine lv_aload_n hx hb dX7_want_32 rfl (lv_at hl 1 rfl) ?_
      refine g_X7_16 X O hP dX7_want_33 ?_
      refine lv_iload_n hx hb dX7_want_36 rfl (lv_at hl 2 rfl) ?_
      refine lv_iload_n hx hb dX7_want_37 rfl (lv_at hl 3 rfl) ?_
      obtain ⟨g_6, h⟩ := grd_s h
      obtain ⟨σ_7, e_8, h⟩ := bnd_s h
      refine x_iast X O hP hS mI_3 g_6 dX7_want_38 e_8 (fun H locs hP hS => ?_)
      refine lv_iload_n hx hb dX7_want_39 rfl (lv_at hl 0 rfl) ?_
      have h := some_i h
      subst h
      exact x_reti X hP hS hr hlk rfl rfl dX7_want_40
    · have h := ite_t c_2 h
      refine lv_bipush (v := (-2)) hx hb dX7_want_22 (by decide) ?_
      have h := some_i h
      subst h
      exact x_reti X hP hS hr hlk rfl rfl dX7_want_24
  · have h := ite_f c_1 h
    refine lv_iconst (v := (-1)) hx hb dX7_want_8 (by decide) ?_
    have h := some_i h
    subst h
    exact x_reti X hP hS hr hlk rfl rfl dX7_want_9
abbrev rm_X7_isMended : Room := { frames := 1, cells := 0, slots := 0, locals := 21 }
theorem hd_X7_isMended : yX7_isMended.cls ≠ "java/lang/invoke/MethodHandle" ∧ yX7_isMended.cls ≠ "java/lang/invoke/VarHandle" ∧ (parseMethodDescriptor yX7_isMended.desc).map (fun d => d.parameters.length) = some 1 := by decide +kernel
set_option maxHeartbeats 4000000 in
set_option maxRecDepth 100000 in
theorem k_X7_isMended {Θ : TH} {l : Launch} (O : okT Θ (eM Θ) 23) (v1 : Int32) (σ0 : Mem) {y : Int32} (h : X7_isMended v1 σ0 = some y) : Met l yX7_isMended (Cond.code yX7_isMended cX7_isMended 2 (some .boolean) :: wAll) rm_X7_isMended (va_Pc [.ref (ta Θ 0), .int v1] (tS Θ σ0)) (qI Θ y σ0) 0 0 (tA Θ) := by
  refine x_ent (by decide) (Nat.le_of_ble_eq_true rfl) (fun p e s m below meth c X hr hlk hP ls hl => ?_)
  have hS : va_S (tA Θ) s.heap s.heap [] := va_S.rf
  have hl : lv_has ls 2 [(0, .ref (ta Θ 0)), (1, .int v1)] := hl
  have hx := X.1
  have hb := X.2.1
  unfold X7_isMended at h
  refine lv_aload_n hx hb dX7_isMended_0 rfl (lv_at hl 0 rfl) ?_
  refine g_X7_16 X O hP dX7_isMended_1 ?_
  refine lv_iload_n hx hb dX7_isMended_4 rfl (lv_at hl 1 rfl) ?_
  obtain ⟨g_1, h⟩ := grd_s h
  refine x_iald X O hP mI_3 g_1 dX7_isMended_5 ?_
  refine lv_bipush (v := 6) hx hb dX7_isMended_6 (by decide) ?_
  refine lv_icmp_eq (tgt := 29) hx hb dX7_isMended_8 (by decide) (fun c_2 => ?_) (fun c_2 => ?_)
  · have h := ite_t c_2 h
    refine lv_iconst (v := 1) hx hb dX7_isMended_29 (by decide) ?_
    refine lv_goto (tgt := 34) hx hb dX7_isMended_30 (by decide) ?_
    have h := some_i h
    subst h
    exact x_retz X hP hS hr hlk (Or.inr rfl) rfl rfl dX7_isMended_34
  · have h := ite_f c_2 h
    refine lv_aload_n hx hb dX7_isMended_11 rfl (lv_at hl 0 rfl) ?_
    refine g_X7_43 X O hP dX7_isMended_12 ?_
    refine lv_iload_n hx hb dX7_isMended_15 rfl (lv_at hl 1 rfl) ?_
    obtain ⟨g_3, h⟩ := grd_s h
    refine x_iald X O hP mI_12 g_3 dX7_isMended_16 ?_
    refine lv_aload_n hx hb dX7_isMended_17 rfl (lv_at hl 0 rfl) ?_
    refine g_X7_16 X O hP dX7_isMended_18 ?_
    refine lv_iload_n hx hb dX7_isMended_21 rfl (lv_at hl 1 rfl) ?_
    obtain ⟨g_4, h⟩ := grd_s h
    refine x_iald X O hP mI_3 g_4 dX7_isMended_22 ?_
    refine x_calli (x_runS X hP hS hl.1 (As := [.int (σ0 12 v1.toNatClampNeg), .int (σ0 3 v1.toNatClampNeg)]) (rest := []) (k_X7_isIn O (σ0 12 v1.toNatClampNeg) (σ0 3 v1.toNatClampNeg) σ0 rfl) wM_X7_149 wT_yX7_isIn wN_X7 wC_yX7_isIn hd_X7_isIn rfl ⟨rfl, rfl⟩ ⟨(Nat.le_of_ble_eq_true rfl), (Nat.le_of_ble_eq_true rfl)⟩ ⟨Nat.zero_le _, Nat.zero_le _⟩ rfl (Nat.le_of_ble_eq_true rfl) dX7_isMended_23) hS (fun H locs hP hS => ?_)
    refine lv_if_eq (tgt := 33) hx hb dX7_isMended_26 (by decide) (fun c_5 => ?_) (fun c_5 => ?_)
    · have h := ite_t c_5 h
      refine lv_iconst (v := 0) hx hb dX7_isMended_33 (by decide) ?_
      have h := some_i h
      subst h
      exact x_retz X hP hS hr hlk (Or.inl rfl) rfl rfl dX7_isMended_34
    · have h := ite_f c_5 h
      refine lv_iconst (v := 1) hx hb dX7_isMended_29 (by decide) ?_
      refine lv_goto (tgt := 34) hx hb dX7_isMended_30 (by decide) ?_
      have h := some_i h
      subst h
      exact x_retz X hP hS hr hlk (Or.inr rfl) rfl rfl dX7_isMended_34
abbrev rm_X7_mendedNow : Room := { frames := 2, cells := 0, slots := 0, locals := 42 }
set_option maxHeartbeats 4000000 in
set_option maxRecDepth 100000 in
theorem w_X7_mendedNow_L4 {F : Nat} {Θ : TH} {p : Program} {l : Launch} {e : Env} {s : State} {m : MethodId} {args : Array Value} {below : List Frame} {meth : Method} {c : Code} (X : CX Θ p s m args c RX7 cX7_mendedNow 3) (O : okT Θ (eM Θ) 23) (hr : meth.sig.returnType = some .int) (hlk : meth.locks = false) (σ0 : Mem) {y : Int32} :
    ∀ (f : Nat) (v1 : Int32) (v2 : Int32), X7_mendedNow_L4 F σ0 f v1 v2 = some y → ∀ (H : Heap) (locs : List Loc) (ls : Array Slot), va_P (tD Θ) vwCl (tw Θ σ0) H → va_S (tA Θ) s.heap H locs → lv_has ls 3 [(0, .ref (ta Θ 0)), (1, .int v1), (2, .int v2)] → W p l e rm_X7_mendedNow s m args below meth c H locs 0 0 (MQ below (qI Θ y σ0) args s 0 0 (tA Θ)) (F0 m 4 ls []) := by
  have hx := X.1
  have hb := X.2.1
  intro f
  induction f with
  | zero => intro v1 v2 h; cases h
  | succ f ih =>
    intro v1 v2 h H locs ls hP hS hl
    rw [X7_mendedNow_L4] at h
    refine lv_iload_n hx hb dX7_mendedNow_4 rfl (lv_at hl 2 rfl) ?_
    refine lv_aload_n hx hb dX7_mendedNow_5 rfl (lv_at hl 0 rfl) ?_
    refine g_X7_87 X O hP dX7_mendedNow_6 ?_
    refine lv_icmp_ge (tgt := 36) hx hb dX7_mendedNow_9 (by decide) (fun c_1 => ?_) (fun c_1 => ?_)
    · have h := ite_t c_1 h
      refine lv_iload_n hx hb dX7_mendedNow_36 rfl (lv_at hl 1 rfl) ?_
      have h := some_i h
      subst h
      exact x_reti X hP hS hr hlk rfl rfl dX7_mendedNow_37
    · have h := ite_f c_1 h
      refine lv_iload_n hx hb dX7_mendedNow_12 rfl (lv_at hl 1 rfl) ?_
      refine lv_aload_n hx hb dX7_mendedNow_13 rfl (lv_at hl 0 rfl) ?_
      refine lv_iload_n hx hb dX7_mendedNow_14 rfl (lv_at hl 2 rfl) ?_
      obtain ⟨z_2, e_3, h⟩ := ob_s h
      refine x_calli (x_runV X O hP hS hl.1 (As := [.int v2]) (rest := [.int v1]) (k_X7_isMended O v2 σ0 e_3) lt_X7 (e_X7 _) rfl wM_X7_152 wI_yX7_isMended wS_yX7_isMended wN_X7 wC_yX7_isMended hd_X7_isMended rfl ⟨rfl, rfl⟩ ⟨(Nat.le_of_ble_eq_true rfl), (Nat.le_of_ble_eq_true rfl)⟩ ⟨Nat.zero_le _, Nat.zero_le _⟩ rfl (Nat.le_of_ble_eq_true rfl) dX7_mendedNow_15) hS (fun H locs hP hS => ?_)
      refine lv_if_eq (tgt := 27) hx hb dX7_mendedNow_18 (by decide) (fun c_4 => ?_) (fun c_4 => ?_)
      · have h := ite_t c_4 h
        refine lv_iconst (v := 0) hx hb dX7_mendedNow_27 (by decide) ?_
        refine lv_ior hx hb dX7_mendedNow_28 ?_
        obtain ⟨v1_5, e_6, h⟩ := bnd_s h
        refine lv_nam e_6 ?_
        refine lv_istore_n (lv' := [(1, .int v1_5), (0, .ref (ta Θ 0)), (2, .int v2)]) hx hb dX7_mendedNow_29 rfl hl (by decide) rfl (fun ls hl => ?_)
        refine lv_iinc (v := v2 + 1) (lv' := [(2, .int (v2 + 1)), (1, .int v1_5), (0, .ref (ta Θ 0))]) hx hb dX7_mendedNow_30 hl (k := 2) rfl rfl (by decide) rfl (fun ls hl => ?_)
        refine lv_goto (tgt := 4) hx hb dX7_mendedNow_33 (by decide) ?_
        exact ih v1_5 (v2 + 1) h _ _ _ hP hS (lv_sub hl [2, 1, 0] rfl)
      · have h := ite_f c_4 h
        refine lv_iconst (v := 1) hx hb dX7_mendedNow_21 (by decide) ?_
        refine lv_iload_n hx hb dX7_mendedNow_22 rfl (lv_at hl 2 rfl) ?_
        refine lv_ishl hx hb dX7_mendedNow_23 ?_
        refine lv_goto (tgt := 28) hx hb dX7_mendedNow_24 (by decide) ?_
        refine lv_ior hx hb dX7_mendedNow_28 ?_
        obtain ⟨v1_7, e_8, h⟩ := bnd_s h
        refine lv_nam e_8 ?_
        refine lv_istore_n (lv' := [(1, .int v1_7), (0, .ref (ta Θ 0)), (2, .int v2)]) hx hb dX7_mendedNow_29 rfl hl (by decide) rfl (fun ls hl => ?_)
        refine lv_iinc (v := v2 + 1) (lv' := [(2, .int (v2 + 1)), (1, .int v1_7), (0, .ref (ta Θ 0))]) hx hb dX7_mendedNow_30 hl (k := 2) rfl rfl (by decide) rfl (fun ls hl => ?_)
        refine lv_goto (tgt := 4) hx hb dX7_mendedNow_33 (by decide) ?_
        exact ih v1_7 (v2 + 1) h _ _ _ hP hS (lv_sub hl [2, 1, 0] rfl)
theorem hd_X7_mendedNow : yX7_mendedNow.cls ≠ "java/lang/invoke/MethodHandle" ∧ yX7_mendedNow.cls ≠ "java/lang/invoke/VarHandle" ∧ (parseMethodDescriptor yX7_mendedNow.desc).map (fun d => d.parameters.length) = some 0 := by decide +kernel
set_option maxHeartbeats 4000000 in
set_option maxRecDepth 100000 in
theorem k_X7_mendedNow {F : Nat} {Θ : TH} {l : Launch} (O : okT Θ (eM Θ) 23) (σ0 : Mem) {y : Int32} (h : X7_mendedNow F σ0 = some y) : Met l yX7_mendedNow (Cond.code yX7_mendedNow cX7_mendedNow 3 (some .int) :: wAll) rm_X7_mendedNow (va_Pc [.ref (ta Θ 0)] (tS Θ σ0)) (qI Θ y σ0) 0 0 (tA Θ) := by
  refine x_ent (by decide) (Nat.le_of_ble_eq_true rfl) (fun p e s m below meth c X hr hlk hP ls hl => ?_)
  have hS : va_S (tA Θ) s.heap s.heap [] := va_S.rf
  have hl : lv_has ls 3 [(0, .ref (ta Θ 0))] := hl
  have hx := X.1
  have hb := X.2.1
  unfold X7_mendedNow at h
  refine lv_iconst (v := 0) hx hb dX7_mendedNow_0 (by decide) ?_
  refine lv_istore_n (lv' := [(1, .int 0), (0, .ref (ta Θ 0))]) hx hb dX7_mendedNow_1 rfl hl (by decide) rfl (fun ls hl => ?_)
  refine lv_iconst (v := 0) hx hb dX7_mendedNow_2 (by decide) ?_
  refine lv_istore_n (lv' := [(2, .int 0), (1, .int 0), (0, .ref (ta Θ 0))]) hx hb dX7_mendedNow_3 rfl hl (by decide) rfl (fun ls hl => ?_)
  refine w_X7_mendedNow_L4 X O hr hlk σ0  _ (0 : Int32) (0 : Int32) h _ _ _ hP hS (lv_sub hl [2, 1, 0] rfl)
abbrev rm_X7_everybody : Room := { frames := 0, cells := 0, slots := 0, locals := 0 }
theorem hd_X7_everybody : yX7_everybody.cls ≠ "java/lang/invoke/MethodHandle" ∧ yX7_everybody.cls ≠ "java/lang/invoke/VarHandle" ∧ (parseMethodDescriptor yX7_everybody.desc).map (fun d => d.parameters.length) = some 0 := by decide +kernel
set_option maxHeartbeats 4000000 in
set_option maxRecDepth 100000 in
theorem k_X7_everybody {Θ : TH} {l : Launch} (O : okT Θ (eM Θ) 23) (σ0 : Mem) {y : Int32} (h : X7_everybody σ0 = y) : Met l yX7_everybody (Cond.code yX7_everybody cX7_everybody 1 (some .int) :: wAll) rm_X7_everybody (va_Pc [.ref (ta Θ 0)] (tS Θ σ0)) (qI Θ y σ0) 0 0 (tA Θ) := by
  refine x_ent (by decide) (Nat.le_of_ble_eq_true rfl) (fun p e s m below meth c X hr hlk hP ls hl => ?_)
  have hS : va_S (tA Θ) s.heap s.heap [] := va_S.rf
  have hl : lv_has ls 1 [(0, .ref (ta Θ 0))] := hl
  have hx := X.1
  have hb := X.2.1
  unfold X7_everybody at h
  refine lv_iconst (v := 1) hx hb dX7_everybody_0 (by decide) ?_
  refine lv_aload_n hx hb dX7_everybody_1 rfl (lv_at hl 0 rfl) ?_
  refine g_X7_87 X O hP dX7_everybody_2 ?_
  refine lv_ishl hx hb dX7_everybody_5 ?_
  refine lv_iconst (v := 1) hx hb dX7_everybody_6 (by decide) ?_
  refine lv_isub hx hb dX7_everybody_7 ?_
  subst h
  exact x_reti X hP hS hr hlk rfl rfl dX7_everybody_8
abbrev rm_X7_sees : Room := { frames := 1, cells := 0, slots := 0, locals := 21 }
theorem hd_X7_sees : yX7_sees.cls ≠ "java/lang/invoke/MethodHandle" ∧ yX7_sees.cls ≠ "java/lang/invoke/VarHandle" ∧ (parseMethodDescriptor yX7_sees.desc).map (fun d => d.parameters.length) = some 1 := by decide +kernel
set_option maxHeartbeats 4000000 in
set_option maxRecDepth 100000 in
theorem k_X7_sees {Θ : TH} {l : Launch} (O : okT Θ (eM Θ) 23) (v1 : Int32) (σ0 : Mem) {y : Mem} (h : X7_sees v1 σ0 = some y) : Met l yX7_sees (Cond.code yX7_sees cX7_sees 3 none :: wAll) rm_X7_sees (va_Pc [.ref (ta Θ 0), .int v1] (tS Θ σ0)) (qV Θ y) 0 0 (tA Θ) := by
  refine x_ent (by decide) (Nat.le_of_ble_eq_true rfl) (fun p e s m below meth c X hr hlk hP ls hl => ?_)
  have hS : va_S (tA Θ) s.heap s.heap [] := va_S.rf
  have hl : lv_has ls 3 [(0, .ref (ta Θ 0)), (1, .int v1)] := hl
  have hx := X.1
  have hb := X.2.1
  unfold X7_sees at h
  refine lv_aload_n hx hb dX7_sees_0 rfl (lv_at hl 0 rfl) ?_
  refine g_X7_34 X O hP dX7_sees_1 ?_
  refine lv_iload_n hx hb dX7_sees_4 rfl (lv_at hl 1 rfl) ?_
  obtain ⟨g_1, h⟩ := grd_s h
  refine x_iald X O hP mI_9 g_1 dX7_sees_5 ?_
  obtain ⟨v2_2, e_3, h⟩ := bnd_s h
  refine lv_nam e_3 ?_
  refine lv_istore_n (lv' := [(2, .int v2_2), (0, .ref (ta Θ 0)), (1, .int v1)]) hx hb dX7_sees_6 rfl hl (by decide) rfl (fun ls hl => ?_)
  refine lv_aload_n hx hb dX7_sees_7 rfl (lv_at hl 1 rfl) ?_
  refine g_X7_43 X O hP dX7_sees_8 ?_
  refine lv_iload_n hx hb dX7_sees_11 rfl (lv_at hl 2 rfl) ?_
  refine lv_dup2_11 hx hb dX7_sees_12 rfl rfl ?_
  obtain ⟨g_4, h⟩ := grd_s h
  refine x_iald X O hP mI_12 g_4 dX7_sees_13 ?_
  refine lv_aload_n hx hb dX7_sees_14 rfl (lv_at hl 1 rfl) ?_
  refine g_X7_37 X O hP dX7_sees_15 ?_
  refine lv_iload_n hx hb dX7_sees_18 rfl (lv_at hl 0 rfl) ?_
  obtain ⟨g_5, h⟩ := grd_s h
  refine x_iald X O hP mI_10 g_5 dX7_sees_19 ?_
  refine lv_ior hx hb dX7_sees_20 ?_
  obtain ⟨g_6, h⟩ := grd_s h
  obtain ⟨σ_7, e_8, h⟩ := bnd_s h
  refine x_iast X O hP hS mI_12 g_6 dX7_sees_21 e_8 (fun H locs hP hS => ?_)
  refine lv_aload_n hx hb dX7_sees_22 rfl (lv_at hl 1 rfl) ?_
  refine g_X7_46 X O hP dX7_sees_23 ?_
  refine lv_iload_n hx hb dX7_sees_26 rfl (lv_at hl 2 rfl) ?_
  refine lv_dup2_11 hx hb dX7_sees_27 rfl rfl ?_
  obtain ⟨g_9, h⟩ := grd_s h
  refine x_iald X O hP mI_13 g_9 dX7_sees_28 ?_
  refine lv_aload_n hx hb dX7_sees_29 rfl (lv_at hl 1 rfl) ?_
  refine g_X7_37 X O hP dX7_sees_30 ?_
  refine lv_iload_n hx hb dX7_sees_33 rfl (lv_at hl 0 rfl) ?_
  obtain ⟨g_10, h⟩ := grd_s h
  refine x_iald X O hP mI_10 g_10 dX7_sees_34 ?_
  refine lv_aload_n hx hb dX7_sees_35 rfl (lv_at hl 1 rfl) ?_
  refine g_X7_16 X O hP dX7_sees_36 ?_
  refine lv_iload_n hx hb dX7_sees_39 rfl (lv_at hl 2 rfl) ?_
  obtain ⟨g_11, h⟩ := grd_s h
  refine x_iald X O hP mI_3 g_11 dX7_sees_40 ?_
  refine x_calli (x_runS X hP hS hl.1 (As := [.int (σ_7 10 v2_2.toNatClampNeg), .int (σ_7 3 v1.toNatClampNeg)]) (rest := [.int (σ_7 13 v1.toNatClampNeg), .int v1, .ref (ta Θ 13)]) (k_X7_isIn O (σ_7 10 v2_2.toNatClampNeg) (σ_7 3 v1.toNatClampNeg) σ_7 rfl) wM_X7_149 wT_yX7_isIn wN_X7 wC_yX7_isIn hd_X7_isIn rfl ⟨rfl, rfl⟩ ⟨(Nat.le_of_ble_eq_true rfl), (Nat.le_of_ble_eq_true rfl)⟩ ⟨Nat.zero_le _, Nat.zero_le _⟩ rfl (Nat.le_of_ble_eq_true rfl) dX7_sees_41) hS (fun H locs hP hS => ?_)
  refine lv_if_eq (tgt := 53) hx hb dX7_sees_44 (by decide) (fun c_12 => ?_) (fun c_12 => ?_)
  · have h := ite_t c_12 h
    refine lv_iconst (v := 0) hx hb dX7_sees_53 (by decide) ?_
    refine lv_ior hx hb dX7_sees_54 ?_
    obtain ⟨g_13, h⟩ := grd_s h
    obtain ⟨σ_14, e_15, h⟩ := bnd_s h
    refine x_iast X O hP hS mI_13 g_13 dX7_sees_55 e_15 (fun H locs hP hS => ?_)
    have h := some_i h
    subst h
    exact x_retv X hP hS hr hlk rfl dX7_sees_56
  · have h := ite_f c_12 h
    refine lv_iconst (v := 1) hx hb dX7_sees_47 (by decide) ?_
    refine lv_iload_n hx hb dX7_sees_48 rfl (lv_at hl 0 rfl) ?_
    refine lv_ishl hx hb dX7_sees_49 ?_
    refine lv_goto (tgt := 54) hx hb dX7_sees_50 (by decide) ?_
    refine lv_ior hx hb dX7_sees_54 ?_
    obtain ⟨g_16, h⟩ := grd_s h
    obtain ⟨σ_17, e_18, h⟩ := bnd_s h
    refine x_iast X O hP hS mI_13 g_16 dX7_sees_55 e_18 (fun H locs hP hS => ?_)
    have h := some_i h
    subst h
    exact x_retv X hP hS hr hlk rfl dX7_sees_56
abbrev rm_X7_begin : Room := { frames := 2, cells := 0, slots := 0, locals := 43 }
set_option maxHeartbeats 4000000 in
set_option maxRecDepth 100000 in
theorem w_X7_begin_L2 {F : Nat} {Θ : TH} {p : Program} {l : Launch} {e : Env} {s : State} {m : MethodId} {args : Array Value} {below : List Frame} {meth : Method} {c : Code} (X : CX Θ p s m args c RX7 cX7_begin 2) (O : okT Θ (eM Θ) 23) (hr : meth.sig.returnType = none) (hlk : meth.locks = false) {y : Mem} {k56 : Mem → Option (Mem)} (hk56 : ∀ (σ0 : Mem), k56 σ0 = some y → ∀ (H : Heap) (locs : List Loc) (ls : Array Slot), va_P (tD Θ) vwCl (tw Θ σ0) H → va_S (tA Θ) s.heap H locs → lv_has ls 2 [(0, .ref (ta Θ 0))] → W p l e rm_X7_begin s m args below meth c H locs 0 0 (MQ below (qV Θ y) args s 0 0 (tA Θ)) (F0 m 56 ls [])) :
    ∀ (f : Nat) (v1 : Int32) (σ0 : Mem), X7_begin_L2 F k56 f v1 σ0 = some y → ∀ (H : Heap) (locs : List Loc) (ls : Array Slot), va_P (tD Θ) vwCl (tw Θ σ0) H → va_S (tA Θ) s.heap H locs → lv_has ls 2 [(0, .ref (ta Θ 0)), (1, .int v1)] → W p l e rm_X7_begin s m args below meth c H locs 0 0 (MQ below (qV Θ y) args s 0 0 (tA Θ)) (F0 m 2 ls []) := by
  have hx := X.1
  have hb := X.2.1
  intro f
  induction f with
  | zero => intro v1 σ0 h; cases h
  | succ f ih =>
    intro v1 σ0 h H locs ls hP hS hl
    rw [X7_begin_L2] at h
    refine lv_iload_n hx hb dX7_begin_2 rfl (lv_at hl 1 rfl) ?_
    refine lv_aload_n hx hb dX7_begin_3 rfl (lv_at hl 0 rfl) ?_
    refine g_X7_87 X O hP dX7_begin_4 ?_
    refine lv_icmp_ge (tgt := 56) hx hb dX7_begin_7 (by decide) (fun c_1 => ?_) (fun c_1 => ?_)
    · have h := ite_t c_1 h
      exact hk56 σ0 h _ _ _ hP hS (lv_sub hl [0] rfl)
    · have h := ite_f c_1 h
      refine lv_aload_n hx hb dX7_begin_10 rfl (lv_at hl 0 rfl) ?_
      refine g_X7_34 X O hP dX7_begin_11 ?_
      refine lv_iload_n hx hb dX7_begin_14 rfl (lv_at hl 1 rfl) ?_
      refine lv_iload_n hx hb dX7_begin_15 rfl (lv_at hl 1 rfl) ?_
      obtain ⟨g_2, h⟩ := grd_s h
      obtain ⟨σ_3, e_4, h⟩ := bnd_s h
      refine x_iast X O hP hS mI_9 g_2 dX7_begin_16 e_4 (fun H locs hP hS => ?_)
      refine lv_aload_n hx hb dX7_begin_17 rfl (lv_at hl 0 rfl) ?_
      refine g_X7_37 X O hP dX7_begin_18 ?_
      refine lv_iload_n hx hb dX7_begin_21 rfl (lv_at hl 1 rfl) ?_
      refine lv_aload_n hx hb dX7_begin_22 rfl (lv_at hl 0 rfl) ?_
      refine g_X7_13 X O hP dX7_begin_23 ?_
      refine lv_iload_n hx hb dX7_begin_26 rfl (lv_at hl 1 rfl) ?_
      obtain ⟨g_5, h⟩ := grd_s h
      refine x_iald X O hP mI_2 g_5 dX7_begin_27 ?_
      obtain ⟨g_6, h⟩ := grd_s h
      obtain ⟨σ_7, e_8, h⟩ := bnd_s h
      refine x_iast X O hP hS mI_10 g_6 dX7_begin_28 e_8 (fun H locs hP hS => ?_)
      refine lv_aload_n hx hb dX7_begin_29 rfl (lv_at hl 0 rfl) ?_
      refine g_X7_40 X O hP dX7_begin_30 ?_
      refine lv_iload_n hx hb dX7_begin_33 rfl (lv_at hl 1 rfl) ?_
      refine lv_iconst (v := 0) hx hb dX7_begin_34 (by decide) ?_
      obtain ⟨g_9, h⟩ := grd_s h
      obtain ⟨σ_10, e_11, h⟩ := bnd_s h
      refine x_iast X O hP hS mI_11 g_9 dX7_begin_35 e_11 (fun H locs hP hS => ?_)
      refine lv_aload_n hx hb dX7_begin_36 rfl (lv_at hl 0 rfl) ?_
      refine g_X7_43 X O hP dX7_begin_37 ?_
      refine lv_iload_n hx hb dX7_begin_40 rfl (lv_at hl 1 rfl) ?_
      refine lv_iconst (v := 0) hx hb dX7_begin_41 (by decide) ?_
      obtain ⟨g_12, h⟩ := grd_s h
      obtain ⟨σ_13, e_14, h⟩ := bnd_s h
      refine x_iast X O hP hS mI_12 g_12 dX7_begin_42 e_14 (fun H locs hP hS => ?_)
      refine lv_aload_n hx hb dX7_begin_43 rfl (lv_at hl 0 rfl) ?_
      refine g_X7_46 X O hP dX7_begin_44 ?_
      refine lv_iload_n hx hb dX7_begin_47 rfl (lv_at hl 1 rfl) ?_
      refine lv_iconst (v := 0) hx hb dX7_begin_48 (by decide) ?_
      obtain ⟨g_15, h⟩ := grd_s h
      obtain ⟨σ_16, e_17, h⟩ := bnd_s h
      refine x_iast X O hP hS mI_13 g_15 dX7_begin_49 e_17 (fun H locs hP hS => ?_)
      refine lv_iinc (v := v1 + 1) (lv' := [(1, .int (v1 + 1)), (0, .ref (ta Θ 0))]) hx hb dX7_begin_50 hl (k := 1) rfl rfl (by decide) rfl (fun ls hl => ?_)
      refine lv_goto (tgt := 2) hx hb dX7_begin_53 (by decide) ?_
      exact ih (v1 + 1) σ_16 h _ _ _ hP hS (lv_sub hl [1, 0] rfl)
set_option maxHeartbeats 4000000 in
set_option maxRecDepth 100000 in
theorem w_X7_begin_L58 {F : Nat} {Θ : TH} {p : Program} {l : Launch} {e : Env} {s : State} {m : MethodId} {args : Array Value} {below : List Frame} {meth : Method} {c : Code} (X : CX Θ p s m args c RX7 cX7_begin 2) (O : okT Θ (eM Θ) 23) (hr : meth.sig.returnType = none) (hlk : meth.locks = false) {y : Mem} {k77 : Mem → Option (Mem)} (hk77 : ∀ (σ0 : Mem), k77 σ0 = some y → ∀ (H : Heap) (locs : List Loc) (ls : Array Slot), va_P (tD Θ) vwCl (tw Θ σ0) H → va_S (tA Θ) s.heap H locs → lv_has ls 2 [(0, .ref (ta Θ 0))] → W p l e rm_X7_begin s m args below meth c H locs 0 0 (MQ below (qV Θ y) args s 0 0 (tA Θ)) (F0 m 77 ls [])) :
    ∀ (f : Nat) (v1 : Int32) (σ0 : Mem), X7_begin_L58 F k77 f v1 σ0 = some y → ∀ (H : Heap) (locs : List Loc) (ls : Array Slot), va_P (tD Θ) vwCl (tw Θ σ0) H → va_S (tA Θ) s.heap H locs → lv_has ls 2 [(0, .ref (ta Θ 0)), (1, .int v1)] → W p l e rm_X7_begin s m args below meth c H locs 0 0 (MQ below (qV Θ y) args s 0 0 (tA Θ)) (F0 m 58 ls []) := by
  have hx := X.1
  have hb := X.2.1
  intro f
  induction f with
  | zero => intro v1 σ0 h; cases h
  | succ f ih =>
    intro v1 σ0 h H locs ls hP hS hl
    rw [X7_begin_L58] at h
    refine lv_iload_n hx hb dX7_begin_58 rfl (lv_at hl 1 rfl) ?_
    refine lv_aload_n hx hb dX7_begin_59 rfl (lv_at hl 0 rfl) ?_
    refine g_X7_87 X O hP dX7_begin_60 ?_
    refine lv_icmp_ge (tgt := 77) hx hb dX7_begin_63 (by decide) (fun c_19 => ?_) (fun c_19 => ?_)
    · have h := ite_t c_19 h
      exact hk77 σ0 h _ _ _ hP hS (lv_sub hl [0] rfl)
    · have h := ite_f c_19 h
      refine lv_aload_n hx hb dX7_begin_66 rfl (lv_at hl 0 rfl) ?_
      refine lv_iload_n hx hb dX7_begin_67 rfl (lv_at hl 1 rfl) ?_
      obtain ⟨σ_20, e_21, h⟩ := ob_s h
      refine x_callv (x_runV X O hP hS hl.1 (As := [.int v1]) (rest := []) (k_X7_sees O v1 σ0 e_21) lt_X7 (e_X7 _) rfl wM_X7_155 wI_yX7_sees wS_yX7_sees wN_X7 wC_yX7_sees hd_X7_sees rfl ⟨rfl, rfl⟩ ⟨(Nat.le_of_ble_eq_true rfl), (Nat.le_of_ble_eq_true rfl)⟩ ⟨Nat.zero_le _, Nat.zero_le _⟩ rfl (Nat.le_of_ble_eq_true rfl) dX7_begin_68) hS (fun H locs hP hS => ?_)
      refine lv_iinc (v := v1 + 1) (lv' := [(1, .int (v1 + 1)), (0, .ref (ta Θ 0))]) hx hb dX7_begin_71 hl (k := 1) rfl rfl (by decide) rfl (fun ls hl => ?_)
      refine lv_goto (tgt := 58) hx hb dX7_begin_74 (by decide) ?_
      exact ih (v1 + 1) σ_20 h _ _ _ hP hS (lv_sub hl [1, 0] rfl)
theorem hd_X7_begin : yX7_begin.cls ≠ "java/lang/invoke/MethodHandle" ∧ yX7_begin.cls ≠ "java/lang/invoke/VarHandle" ∧ (parseMethodDescriptor yX7_begin.desc).map (fun d => d.parameters.length) = some 0 := by decide +kernel
set_option maxHeartbeats 4000000 in
set_option maxRecDepth 100000 in
theorem k_X7_begin {F : Nat} {Θ : TH} {l : Launch} (O : okT Θ (eM Θ) 23) (σ0 : Mem) {y : Mem} (h : X7_begin F σ0 = some y) : Met l yX7_begin (Cond.code yX7_begin cX7_begin 2 none :: wAll) rm_X7_begin (va_Pc [.ref (ta Θ 0)] (tS Θ σ0)) (qV Θ y) 0 0 (tA Θ) := by
  refine x_ent (by decide) (Nat.le_of_ble_eq_true rfl) (fun p e s m below meth c X hr hlk hP ls hl => ?_)
  have hS : va_S (tA Θ) s.heap s.heap [] := va_S.rf
  have hl : lv_has ls 2 [(0, .ref (ta Θ 0))] := hl
  have hx := X.1
  have hb := X.2.1
  unfold X7_begin at h
  refine lv_iconst (v := 0) hx hb dX7_begin_0 (by decide) ?_
  refine lv_istore_n (lv' := [(1, .int 0), (0, .ref (ta Θ 0))]) hx hb dX7_begin_1 rfl hl (by decide) rfl (fun ls hl => ?_)
  refine w_X7_begin_L2 X O hr hlk  ?_ _ (0 : Int32) σ0 h _ _ _ hP hS (lv_sub hl [1, 0] rfl)
  · intro σ_18 h H locs ls hP hS hl
    refine lv_iconst (v := 0) hx hb dX7_begin_56 (by decide) ?_
    refine lv_istore_n (lv' := [(1, .int 0), (0, .ref (ta Θ 0))]) hx hb dX7_begin_57 rfl hl (by decide) rfl (fun ls hl => ?_)
    refine w_X7_begin_L58 X O hr hlk  ?_ _ (0 : Int32) σ_18 h _ _ _ hP hS (lv_sub hl [1, 0] rfl)
    · intro σ_22 h H locs ls hP hS hl
      refine lv_aload_n hx hb dX7_begin_77 rfl (lv_at hl 0 rfl) ?_
      refine lv_bipush (v := (-9)) hx hb dX7_begin_78 (by decide) ?_
      obtain ⟨σ_23, e_24, h⟩ := bnd_s h
      refine p_X7_159 X O hP hS dX7_begin_80 e_24 (fun H locs hP hS => ?_)
      refine lv_aload_n hx hb dX7_begin_83 rfl (lv_at hl 0 rfl) ?_
      refine lv_bipush (v := (-9)) hx hb dX7_begin_84 (by decide) ?_
      obtain ⟨σ_25, e_26, h⟩ := bnd_s h
      refine p_X7_162 X O hP hS dX7_begin_86 e_26 (fun H locs hP hS => ?_)
      have h := some_i h
      subst h
      exact x_retv X hP hS hr hlk rfl dX7_begin_89
abbrev rm_X7_canLend : Room := { frames := 0, cells := 0, slots := 0, locals := 0 }
theorem hd_X7_canLend : yX7_canLend.cls ≠ "java/lang/invoke/MethodHandle" ∧ yX7_canLend.cls ≠ "java/lang/invoke/VarHandle" ∧ (parseMethodDescriptor yX7_canLend.desc).map (fun d => d.parameters.length) = some 2 := by decide +kernel
set_option maxHeartbeats 4000000 in
set_option maxRecDepth 100000 in
theorem k_X7_canLend {Θ : TH} {l : Launch} (O : okT Θ (eM Θ) 23) (v1 : Int32) (v2 : Int32) (σ0 : Mem) {y : Int32} (h : X7_canLend v1 v2 σ0 = some y) : Met l yX7_canLend (Cond.code yX7_canLend cX7_canLend 3 (some .boolean) :: wAll) rm_X7_canLend (va_Pc [.ref (ta Θ 0), .int v1, .int v2] (tS Θ σ0)) (qI Θ y σ0) 0 0 (tA Θ) := by
  refine x_ent (by decide) (Nat.le_of_ble_eq_true rfl) (fun p e s m below meth c X hr hlk hP ls hl => ?_)
  have hS : va_S (tA Θ) s.heap s.heap [] := va_S.rf
  have hl : lv_has ls 3 [(0, .ref (ta Θ 0)), (1, .int v1), (2, .int v2)] := hl
  have hx := X.1
  have hb := X.2.1
  unfold X7_canLend at h
  refine lv_iload_n hx hb dX7_canLend_0 rfl (lv_at hl 1 rfl) ?_
  refine lv_iload_n hx hb dX7_canLend_1 rfl (lv_at hl 2 rfl) ?_
  refine lv_icmp_eq (tgt := 37) hx hb dX7_canLend_2 (by decide) (fun c_1 => ?_) (fun c_1 => ?_)
  · have h := ite_t c_1 h
    refine lv_iconst (v := 0) hx hb dX7_canLend_37 (by decide) ?_
    have h := some_i h
    subst h
    exact x_retz X hP hS hr hlk (Or.inl rfl) rfl rfl dX7_canLend_38
  · have h := ite_f c_1 h
    refine lv_aload_n hx hb dX7_canLend_5 rfl (lv_at hl 0 rfl) ?_
    refine g_X7_37 X O hP dX7_canLend_6 ?_
    refine lv_aload_n hx hb dX7_canLend_9 rfl (lv_at hl 0 rfl) ?_
    refine g_X7_34 X O hP dX7_canLend_10 ?_
    refine lv_iload_n hx hb dX7_canLend_13 rfl (lv_at hl 1 rfl) ?_
    obtain ⟨g_2, h⟩ := grd_s h
    refine x_iald X O hP mI_9 g_2 dX7_canLend_14 ?_
    obtain ⟨g_3, h⟩ := grd_s h
    refine x_iald X O hP mI_10 g_3 dX7_canLend_15 ?_
    refine lv_if_eq (tgt := 37) hx hb dX7_canLend_16 (by decide) (fun c_4 => ?_) (fun c_4 => ?_)
    · have h := ite_t c_4 h
      refine lv_iconst (v := 0) hx hb dX7_canLend_37 (by decide) ?_
      have h := some_i h
      subst h
      exact x_retz X hP hS hr hlk (Or.inl rfl) rfl rfl dX7_canLend_38
    · have h := ite_f c_4 h
      refine lv_aload_n hx hb dX7_canLend_19 rfl (lv_at hl 0 rfl) ?_
      refine g_X7_37 X O hP dX7_canLend_20 ?_
      refine lv_aload_n hx hb dX7_canLend_23 rfl (lv_at hl 0 rfl) ?_
      refine g_X7_34 X O hP dX7_canLend_24 ?_
      refine lv_iload_n hx hb dX7_canLend_27 rfl (lv_at hl 2 rfl) ?_
      obtain ⟨g_5, h⟩ := grd_s h
      refine x_iald X O hP mI_9 g_5 dX7_canLend_28 ?_
      obtain ⟨g_6, h⟩ := grd_s h
      refine x_iald X O hP mI_10 g_6 dX7_canLend_29 ?_
      refine lv_if_eq (tgt := 37) hx hb dX7_canLend_30 (by decide) (fun c_7 => ?_) (fun c_7 => ?_)
      · have h := ite_t c_7 h
        refine lv_iconst (v := 0) hx hb dX7_canLend_37 (by decide) ?_
        have h := some_i h
        subst h
        exact x_retz X hP hS hr hlk (Or.inl rfl) rfl rfl dX7_canLend_38
      · have h := ite_f c_7 h
        refine lv_iconst (v := 1) hx hb dX7_canLend_33 (by decide) ?_
        refine lv_goto (tgt := 38) hx hb dX7_canLend_34 (by decide) ?_
        have h := some_i h
        subst h
        exact x_retz X hP hS hr hlk (Or.inr rfl) rfl rfl dX7_canLend_38
abbrev rm_X7_wearsOff : Room := { frames := 1, cells := 0, slots := 0, locals := 22 }
theorem hd_X7_wearsOff : yX7_wearsOff.cls ≠ "java/lang/invoke/MethodHandle" ∧ yX7_wearsOff.cls ≠ "java/lang/invoke/VarHandle" ∧ (parseMethodDescriptor yX7_wearsOff.desc).map (fun d => d.parameters.length) = some 1 := by decide +kernel
set_option maxHeartbeats 4000000 in
set_option maxRecDepth 100000 in
theorem k_X7_wearsOff {Θ : TH} {l : Launch} (O : okT Θ (eM Θ) 23) (v1 : Int32) (σ0 : Mem) {y : Mem} (h : X7_wearsOff v1 σ0 = some y) : Met l yX7_wearsOff (Cond.code yX7_wearsOff cX7_wearsOff 2 none :: wAll) rm_X7_wearsOff (va_Pc [.ref (ta Θ 0), .int v1] (tS Θ σ0)) (qV Θ y) 0 0 (tA Θ) := by
  refine x_ent (by decide) (Nat.le_of_ble_eq_true rfl) (fun p e s m below meth c X hr hlk hP ls hl => ?_)
  have hS : va_S (tA Θ) s.heap s.heap [] := va_S.rf
  have hl : lv_has ls 2 [(0, .ref (ta Θ 0)), (1, .int v1)] := hl
  have hx := X.1
  have hb := X.2.1
  unfold X7_wearsOff at h
  refine lv_aload_n hx hb dX7_wearsOff_0 rfl (lv_at hl 0 rfl) ?_
  refine g_X7_40 X O hP dX7_wearsOff_1 ?_
  refine lv_iload_n hx hb dX7_wearsOff_4 rfl (lv_at hl 1 rfl) ?_
  refine lv_dup2_11 hx hb dX7_wearsOff_5 rfl rfl ?_
  obtain ⟨g_1, h⟩ := grd_s h
  refine x_iald X O hP mI_11 g_1 dX7_wearsOff_6 ?_
  refine lv_iconst (v := 1) hx hb dX7_wearsOff_7 (by decide) ?_
  refine lv_iadd hx hb dX7_wearsOff_8 ?_
  obtain ⟨g_2, h⟩ := grd_s h
  obtain ⟨σ_3, e_4, h⟩ := bnd_s h
  refine x_iast X O hP hS mI_11 g_2 dX7_wearsOff_9 e_4 (fun H locs hP hS => ?_)
  refine lv_aload_n hx hb dX7_wearsOff_10 rfl (lv_at hl 0 rfl) ?_
  refine g_X7_40 X O hP dX7_wearsOff_11 ?_
  refine lv_iload_n hx hb dX7_wearsOff_14 rfl (lv_at hl 1 rfl) ?_
  obtain ⟨g_5, h⟩ := grd_s h
  refine x_iald X O hP mI_11 g_5 dX7_wearsOff_15 ?_
  refine lv_aload_n hx hb dX7_wearsOff_16 rfl (lv_at hl 0 rfl) ?_
  refine lv_iload_n hx hb dX7_wearsOff_17 rfl (lv_at hl 1 rfl) ?_
  obtain ⟨z_6, e_7, h⟩ := ob_s h
  refine x_calli (x_runV X O hP hS hl.1 (As := [.int v1]) (rest := [.int (σ_3 11 v1.toNatClampNeg)]) (k_X7_lastsOf O v1 σ_3 e_7) lt_X7 (e_X7 _) rfl wM_X7_142 wI_yX7_lastsOf wS_yX7_lastsOf wN_X7 wC_yX7_lastsOf hd_X7_lastsOf rfl ⟨rfl, rfl⟩ ⟨(Nat.le_of_ble_eq_true rfl), (Nat.le_of_ble_eq_true rfl)⟩ ⟨Nat.zero_le _, Nat.zero_le _⟩ rfl (Nat.le_of_ble_eq_true rfl) dX7_wearsOff_18) hS (fun H locs hP hS => ?_)
  refine lv_icmp_le (tgt := 41) hx hb dX7_wearsOff_21 (by decide) (fun c_8 => ?_) (fun c_8 => ?_)
  · have h := ite_t c_8 h
    have h := some_i h
    subst h
    exact x_retv X hP hS hr hlk rfl dX7_wearsOff_41
  · have h := ite_f c_8 h
    refine lv_aload_n hx hb dX7_wearsOff_24 rfl (lv_at hl 0 rfl) ?_
    refine g_X7_37 X O hP dX7_wearsOff_25 ?_
    refine lv_iload_n hx hb dX7_wearsOff_28 rfl (lv_at hl 1 rfl) ?_
    refine lv_dup2_11 hx hb dX7_wearsOff_29 rfl rfl ?_
    obtain ⟨g_9, h⟩ := grd_s h
    refine x_iald X O hP mI_10 g_9 dX7_wearsOff_30 ?_
    refine lv_aload_n hx hb dX7_wearsOff_31 rfl (lv_at hl 0 rfl) ?_
    refine g_X7_37 X O hP dX7_wearsOff_32 ?_
    refine lv_iload_n hx hb dX7_wearsOff_35 rfl (lv_at hl 1 rfl) ?_
    obtain ⟨g_10, h⟩ := grd_s h
    refine x_iald X O hP mI_10 g_10 dX7_wearsOff_36 ?_
    refine lv_iconst (v := 1) hx hb dX7_wearsOff_37 (by decide) ?_
    refine lv_isub hx hb dX7_wearsOff_38 ?_
    refine lv_iand hx hb dX7_wearsOff_39 ?_
    obtain ⟨g_11, h⟩ := grd_s h
    obtain ⟨σ_12, e_13, h⟩ := bnd_s h
    refine x_iast X O hP hS mI_10 g_11 dX7_wearsOff_40 e_13 (fun H locs hP hS => ?_)
    have h := some_i h
    subst h
    exact x_retv X hP hS hr hlk rfl dX7_wearsOff_41
abbrev rm_X7_lend : Room := { frames := 2, cells := 0, slots := 0, locals := 43 }
theorem hd_X7_lend : yX7_lend.cls ≠ "java/lang/invoke/MethodHandle" ∧ yX7_lend.cls ≠ "java/lang/invoke/VarHandle" ∧ (parseMethodDescriptor yX7_lend.desc).map (fun d => d.parameters.length) = some 2 := by decide +kernel
set_option maxHeartbeats 4000000 in
set_option maxRecDepth 100000 in
theorem k_X7_lend {Θ : TH} {l : Launch} (O : okT Θ (eM Θ) 23) (v1 : Int32) (v2 : Int32) (σ0 : Mem) {y : Mem} (h : X7_lend v1 v2 σ0 = some y) : Met l yX7_lend (Cond.code yX7_lend cX7_lend 4 none :: wAll) rm_X7_lend (va_Pc [.ref (ta Θ 0), .int v1, .int v2] (tS Θ σ0)) (qV Θ y) 0 0 (tA Θ) := by
  refine x_ent (by decide) (Nat.le_of_ble_eq_true rfl) (fun p e s m below meth c X hr hlk hP ls hl => ?_)
  have hS : va_S (tA Θ) s.heap s.heap [] := va_S.rf
  have hl : lv_has ls 4 [(0, .ref (ta Θ 0)), (1, .int v1), (2, .int v2)] := hl
  have hx := X.1
  have hb := X.2.1
  unfold X7_lend at h
  refine lv_aload_n hx hb dX7_lend_0 rfl (lv_at hl 0 rfl) ?_
  refine g_X7_34 X O hP dX7_lend_1 ?_
  refine lv_iload_n hx hb dX7_lend_4 rfl (lv_at hl 1 rfl) ?_
  obtain ⟨g_1, h⟩ := grd_s h
  refine x_iald X O hP mI_9 g_1 dX7_lend_5 ?_
  obtain ⟨v3_2, e_3, h⟩ := bnd_s h
  refine lv_nam e_3 ?_
  refine lv_istore_n (lv' := [(3, .int v3_2), (0, .ref (ta Θ 0)), (1, .int v1), (2, .int v2)]) hx hb dX7_lend_6 rfl hl (by decide) rfl (fun ls hl => ?_)
  refine lv_aload_n hx hb dX7_lend_7 rfl (lv_at hl 1 rfl) ?_
  refine g_X7_34 X O hP dX7_lend_8 ?_
  refine lv_iload_n hx hb dX7_lend_11 rfl (lv_at hl 2 rfl) ?_
  refine lv_aload_n hx hb dX7_lend_12 rfl (lv_at hl 1 rfl) ?_
  refine g_X7_34 X O hP dX7_lend_13 ?_
  refine lv_iload_n hx hb dX7_lend_16 rfl (lv_at hl 3 rfl) ?_
  obtain ⟨g_4, h⟩ := grd_s h
  refine x_iald X O hP mI_9 g_4 dX7_lend_17 ?_
  obtain ⟨g_5, h⟩ := grd_s h
  obtain ⟨σ_6, e_7, h⟩ := bnd_s h
  refine x_iast X O hP hS mI_9 g_5 dX7_lend_18 e_7 (fun H locs hP hS => ?_)
  refine lv_aload_n hx hb dX7_lend_19 rfl (lv_at hl 1 rfl) ?_
  refine g_X7_34 X O hP dX7_lend_20 ?_
  refine lv_iload_n hx hb dX7_lend_23 rfl (lv_at hl 3 rfl) ?_
  refine lv_iload_n hx hb dX7_lend_24 rfl (lv_at hl 0 rfl) ?_
  obtain ⟨g_8, h⟩ := grd_s h
  obtain ⟨σ_9, e_10, h⟩ := bnd_s h
  refine x_iast X O hP hS mI_9 g_8 dX7_lend_25 e_10 (fun H locs hP hS => ?_)
  refine lv_aload_n hx hb dX7_lend_26 rfl (lv_at hl 1 rfl) ?_
  refine lv_aload_n hx hb dX7_lend_27 rfl (lv_at hl 1 rfl) ?_
  refine g_X7_34 X O hP dX7_lend_28 ?_
  refine lv_iload_n hx hb dX7_lend_31 rfl (lv_at hl 2 rfl) ?_
  obtain ⟨g_11, h⟩ := grd_s h
  refine x_iald X O hP mI_9 g_11 dX7_lend_32 ?_
  obtain ⟨σ_12, e_13, h⟩ := ob_s h
  refine x_callv (x_runV X O hP hS hl.1 (As := [.int (σ_9 9 v1.toNatClampNeg)]) (rest := []) (k_X7_wearsOff O (σ_9 9 v1.toNatClampNeg) σ_9 e_13) lt_X7 (e_X7 _) rfl wM_X7_165 wI_yX7_wearsOff wS_yX7_wearsOff wN_X7 wC_yX7_wearsOff hd_X7_wearsOff rfl ⟨rfl, rfl⟩ ⟨(Nat.le_of_ble_eq_true rfl), (Nat.le_of_ble_eq_true rfl)⟩ ⟨Nat.zero_le _, Nat.zero_le _⟩ rfl (Nat.le_of_ble_eq_true rfl) dX7_lend_33) hS (fun H locs hP hS => ?_)
  refine lv_aload_n hx hb dX7_lend_36 rfl (lv_at hl 1 rfl) ?_
  refine lv_aload_n hx hb dX7_lend_37 rfl (lv_at hl 1 rfl) ?_
  refine g_X7_34 X O hP dX7_lend_38 ?_
  refine lv_iload_n hx hb dX7_lend_41 rfl (lv_at hl 3 rfl) ?_
  obtain ⟨g_14, h⟩ := grd_s h
  refine x_iald X O hP mI_9 g_14 dX7_lend_42 ?_
  obtain ⟨σ_15, e_16, h⟩ := ob_s h
  refine x_callv (x_runV X O hP hS hl.1 (As := [.int (σ_12 9 v2.toNatClampNeg)]) (rest := []) (k_X7_wearsOff O (σ_12 9 v2.toNatClampNeg) σ_12 e_16) lt_X7 (e_X7 _) rfl wM_X7_165 wI_yX7_wearsOff wS_yX7_wearsOff wN_X7 wC_yX7_wearsOff hd_X7_wearsOff rfl ⟨rfl, rfl⟩ ⟨(Nat.le_of_ble_eq_true rfl), (Nat.le_of_ble_eq_true rfl)⟩ ⟨Nat.zero_le _, Nat.zero_le _⟩ rfl (Nat.le_of_ble_eq_true rfl) dX7_lend_43) hS (fun H locs hP hS => ?_)
  refine lv_aload_n hx hb dX7_lend_46 rfl (lv_at hl 1 rfl) ?_
  refine lv_iload_n hx hb dX7_lend_47 rfl (lv_at hl 2 rfl) ?_
  obtain ⟨σ_17, e_18, h⟩ := ob_s h
  refine x_callv (x_runV X O hP hS hl.1 (As := [.int v1]) (rest := []) (k_X7_sees O v1 σ_15 e_18) lt_X7 (e_X7 _) rfl wM_X7_155 wI_yX7_sees wS_yX7_sees wN_X7 wC_yX7_sees hd_X7_sees rfl ⟨rfl, rfl⟩ ⟨(Nat.le_of_ble_eq_true rfl), (Nat.le_of_ble_eq_true rfl)⟩ ⟨Nat.zero_le _, Nat.zero_le _⟩ rfl (Nat.le_of_ble_eq_true rfl) dX7_lend_48) hS (fun H locs hP hS => ?_)
  refine lv_aload_n hx hb dX7_lend_51 rfl (lv_at hl 1 rfl) ?_
  refine lv_iload_n hx hb dX7_lend_52 rfl (lv_at hl 3 rfl) ?_
  obtain ⟨σ_19, e_20, h⟩ := ob_s h
  refine x_callv (x_runV X O hP hS hl.1 (As := [.int v2]) (rest := []) (k_X7_sees O v2 σ_17 e_20) lt_X7 (e_X7 _) rfl wM_X7_155 wI_yX7_sees wS_yX7_sees wN_X7 wC_yX7_sees hd_X7_sees rfl ⟨rfl, rfl⟩ ⟨(Nat.le_of_ble_eq_true rfl), (Nat.le_of_ble_eq_true rfl)⟩ ⟨Nat.zero_le _, Nat.zero_le _⟩ rfl (Nat.le_of_ble_eq_true rfl) dX7_lend_53) hS (fun H locs hP hS => ?_)
  have h := some_i h
  subst h
  exact x_retv X hP hS hr hlk rfl dX7_lend_56
abbrev rm_X7_goLoans : Room := { frames := 3, cells := 0, slots := 0, locals := 66 }
set_option maxHeartbeats 4000000 in
set_option maxRecDepth 100000 in
theorem w_X7_goLoans_L24 {F : Nat} {Θ : TH} {p : Program} {l : Launch} {e : Env} {s : State} {m : MethodId} {args : Array Value} {below : List Frame} {meth : Method} {c : Code} (X : CX Θ p s m args c RX7 cX7_goLoans 7) (O : okT Θ (eM Θ) 23) (hr : meth.sig.returnType = none) (hlk : meth.locks = false) (v1 : Int32) (v2 : Int32) (v3 : Int32) {y : Mem} :
    ∀ (f : Nat) (v4 : Int32) (σ0 : Mem), X7_goLoans_L24 F v1 v2 v3 f v4 σ0 = some y → ∀ (H : Heap) (locs : List Loc) (ls : Array Slot), va_P (tD Θ) vwCl (tw Θ σ0) H → va_S (tA Θ) s.heap H locs → lv_has ls 7 [(0, .ref (ta Θ 0)), (1, .int v1), (2, .int v2), (3, .int v3), (4, .int v4)] → W p l e rm_X7_goLoans s m args below meth c H locs 0 0 (MQ below (qV Θ y) args s 0 0 (tA Θ)) (F0 m 24 ls []) := by
  have hx := X.1
  have hb := X.2.1
  intro f
  induction f with
  | zero => intro v4 σ0 h; cases h
  | succ f ih =>
    intro v4 σ0 h H locs ls hP hS hl
    rw [X7_goLoans_L24] at h
    refine lv_iload hx hb dX7_goLoans_24 (lv_at hl 4 rfl) ?_
    refine lv_iload_n hx hb dX7_goLoans_26 rfl (lv_at hl 2 rfl) ?_
    refine lv_icmp_ge (tgt := 134) hx hb dX7_goLoans_27 (by decide) (fun c_6 => ?_) (fun c_6 => ?_)
    · have h := ite_t c_6 h
      have h := some_i h
      subst h
      exact x_retv X hP hS hr hlk rfl dX7_goLoans_134
    · have h := ite_f c_6 h
      refine lv_aload_n hx hb dX7_goLoans_30 rfl (lv_at hl 0 rfl) ?_
      refine g_X7_159 X O hP dX7_goLoans_31 ?_
      refine lv_if_ge (tgt := 134) hx hb dX7_goLoans_34 (by decide) (fun c_7 => ?_) (fun c_7 => ?_)
      · have h := ite_t c_7 h
        have h := some_i h
        subst h
        exact x_retv X hP hS hr hlk rfl dX7_goLoans_134
      · have h := ite_f c_7 h
        refine lv_aload_n hx hb dX7_goLoans_37 rfl (lv_at hl 0 rfl) ?_
        refine g_X7_71 X O hP dX7_goLoans_38 ?_
        refine lv_iload_n hx hb dX7_goLoans_41 rfl (lv_at hl 1 rfl) ?_
        refine lv_iconst (v := 2) hx hb dX7_goLoans_42 (by decide) ?_
        refine lv_iload hx hb dX7_goLoans_43 (lv_at hl 4 rfl) ?_
        refine lv_imul hx hb dX7_goLoans_45 ?_
        refine lv_iadd hx hb dX7_goLoans_46 ?_
        obtain ⟨g_8, h⟩ := grd_s h
        refine x_iald X O hP mI_21 g_8 dX7_goLoans_47 ?_
        obtain ⟨v5_9, e_10, h⟩ := bnd_s h
        refine lv_nam e_10 ?_
        refine lv_istore (lv' := [(5, .int v5_9), (0, .ref (ta Θ 0)), (1, .int v1), (2, .int v2), (3, .int v3), (4, .int v4)]) hx hb dX7_goLoans_48 hl (by decide) rfl (fun ls hl => ?_)
        refine lv_aload_n hx hb dX7_goLoans_50 rfl (lv_at hl 1 rfl) ?_
        refine g_X7_71 X O hP dX7_goLoans_51 ?_
        refine lv_iload_n hx hb dX7_goLoans_54 rfl (lv_at hl 2 rfl) ?_
        refine lv_iconst (v := 2) hx hb dX7_goLoans_55 (by decide) ?_
        refine lv_iload hx hb dX7_goLoans_56 (lv_at hl 5 rfl) ?_
        refine lv_imul hx hb dX7_goLoans_58 ?_
        refine lv_iadd hx hb dX7_goLoans_59 ?_
        refine lv_iconst (v := 1) hx hb dX7_goLoans_60 (by decide) ?_
        refine lv_iadd hx hb dX7_goLoans_61 ?_
        obtain ⟨g_11, h⟩ := grd_s h
        refine x_iald X O hP mI_21 g_11 dX7_goLoans_62 ?_
        obtain ⟨v6_12, e_13, h⟩ := bnd_s h
        refine lv_nam e_13 ?_
        refine lv_istore (lv' := [(6, .int v6_12), (5, .int v5_9), (0, .ref (ta Θ 0)), (1, .int v1), (2, .int v2), (3, .int v3), (4, .int v4)]) hx hb dX7_goLoans_63 hl (by decide) rfl (fun ls hl => ?_)
        refine lv_aload_n hx hb dX7_goLoans_65 rfl (lv_at hl 2 rfl) ?_
        refine lv_iload hx hb dX7_goLoans_66 (lv_at hl 1 rfl) ?_
        refine lv_iload hx hb dX7_goLoans_68 (lv_at hl 0 rfl) ?_
        obtain ⟨z_14, e_15, h⟩ := ob_s h
        refine x_calli (x_runV X O hP hS hl.1 (As := [.int v5_9, .int v6_12]) (rest := []) (k_X7_canLend O v5_9 v6_12 σ0 e_15) lt_X7 (e_X7 _) rfl wM_X7_178 wI_yX7_canLend wS_yX7_canLend wN_X7 wC_yX7_canLend hd_X7_canLend rfl ⟨rfl, rfl⟩ ⟨(Nat.le_of_ble_eq_true rfl), (Nat.le_of_ble_eq_true rfl)⟩ ⟨Nat.zero_le _, Nat.zero_le _⟩ rfl (Nat.le_of_ble_eq_true rfl) dX7_goLoans_70) hS (fun H locs hP hS => ?_)
        refine lv_if_eq (tgt := 122) hx hb dX7_goLoans_73 (by decide) (fun c_16 => ?_) (fun c_16 => ?_)
        · have h := ite_t c_16 h
          refine lv_aload_n hx hb dX7_goLoans_122 rfl (lv_at hl 2 rfl) ?_
          refine lv_iload hx hb dX7_goLoans_123 (lv_at hl 6 rfl) ?_
          obtain ⟨σ_17, e_18, h⟩ := bnd_s h
          refine p_X7_159 X O hP hS dX7_goLoans_125 e_18 (fun H locs hP hS => ?_)
          refine lv_iinc (v := v4 + 1) (lv' := [(4, .int (v4 + 1)), (6, .int v6_12), (5, .int v5_9), (0, .ref (ta Θ 0)), (1, .int v1), (2, .int v2), (3, .int v3)]) hx hb dX7_goLoans_128 hl (k := 6) rfl rfl (by decide) rfl (fun ls hl => ?_)
          refine lv_goto (tgt := 24) hx hb dX7_goLoans_131 (by decide) ?_
          exact ih (v4 + 1) σ_17 h _ _ _ hP hS (lv_sub hl [3, 4, 5, 6, 0] rfl)
        · have h := ite_f c_16 h
          refine lv_aload_n hx hb dX7_goLoans_76 rfl (lv_at hl 2 rfl) ?_
          refine lv_iload hx hb dX7_goLoans_77 (lv_at hl 1 rfl) ?_
          refine lv_iload hx hb dX7_goLoans_79 (lv_at hl 0 rfl) ?_
          obtain ⟨σ_19, e_20, h⟩ := ob_s h
          refine x_callv (x_runV X O hP hS hl.1 (As := [.int v5_9, .int v6_12]) (rest := []) (k_X7_lend O v5_9 v6_12 σ0 e_20) lt_X7 (e_X7 _) rfl wM_X7_181 wI_yX7_lend wS_yX7_lend wN_X7 wC_yX7_lend hd_X7_lend rfl ⟨rfl, rfl⟩ ⟨(Nat.le_of_ble_eq_true rfl), (Nat.le_of_ble_eq_true rfl)⟩ ⟨Nat.zero_le _, Nat.zero_le _⟩ rfl (Nat.le_of_ble_eq_true rfl) dX7_goLoans_81) hS (fun H locs hP hS => ?_)
          refine lv_aload_n hx hb dX7_goLoans_84 rfl (lv_at hl 2 rfl) ?_
          refine lv_iload_n hx hb dX7_goLoans_85 rfl (lv_at hl 5 rfl) ?_
          refine lv_if_ne (tgt := 112) hx hb dX7_goLoans_86 (by decide) (fun c_21 => ?_) (fun c_21 => ?_)
          · have h := ite_f c_21 h
            refine lv_aload_n hx hb dX7_goLoans_112 rfl (lv_at hl 2 rfl) ?_
            refine g_X7_162 X O hP dX7_goLoans_113 ?_
            obtain ⟨σ_22, e_23, h⟩ := bnd_s h
            refine p_X7_162 X O hP hS dX7_goLoans_116 e_23 (fun H locs hP hS => ?_)
            refine lv_goto (tgt := 128) hx hb dX7_goLoans_119 (by decide) ?_
            refine lv_iinc (v := v4 + 1) (lv' := [(4, .int (v4 + 1)), (6, .int v6_12), (5, .int v5_9), (0, .ref (ta Θ 0)), (1, .int v1), (2, .int v2), (3, .int v3)]) hx hb dX7_goLoans_128 hl (k := 6) rfl rfl (by decide) rfl (fun ls hl => ?_)
            refine lv_goto (tgt := 24) hx hb dX7_goLoans_131 (by decide) ?_
            exact ih (v4 + 1) σ_22 h _ _ _ hP hS (lv_sub hl [3, 4, 5, 6, 0] rfl)
          · have h := ite_t c_21 h
            refine lv_aload_n hx hb dX7_goLoans_89 rfl (lv_at hl 2 rfl) ?_
            refine g_X7_162 X O hP dX7_goLoans_90 ?_
            refine lv_if_ge (tgt := 112) hx hb dX7_goLoans_93 (by decide) (fun c_24 => ?_) (fun c_24 => ?_)
            · have h := ite_t c_24 h
              refine lv_aload_n hx hb dX7_goLoans_112 rfl (lv_at hl 2 rfl) ?_
              refine g_X7_162 X O hP dX7_goLoans_113 ?_
              obtain ⟨σ_25, e_26, h⟩ := bnd_s h
              refine p_X7_162 X O hP hS dX7_goLoans_116 e_26 (fun H locs hP hS => ?_)
              refine lv_goto (tgt := 128) hx hb dX7_goLoans_119 (by decide) ?_
              refine lv_iinc (v := v4 + 1) (lv' := [(4, .int (v4 + 1)), (6, .int v6_12), (5, .int v5_9), (0, .ref (ta Θ 0)), (1, .int v1), (2, .int v2), (3, .int v3)]) hx hb dX7_goLoans_128 hl (k := 6) rfl rfl (by decide) rfl (fun ls hl => ?_)
              refine lv_goto (tgt := 24) hx hb dX7_goLoans_131 (by decide) ?_
              exact ih (v4 + 1) σ_25 h _ _ _ hP hS (lv_sub hl [3, 4, 5, 6, 0] rfl)
            · have h := ite_f c_24 h
              refine lv_aload_n hx hb dX7_goLoans_96 rfl (lv_at hl 2 rfl) ?_
              obtain ⟨z_27, e_28, h⟩ := ob_s h
              refine x_calli (x_runV X O hP hS hl.1 (As := []) (rest := [.ref (ta Θ 0)]) (k_X7_mendedNow O σ_19 e_28) lt_X7 (e_X7 _) rfl wM_X7_171 wI_yX7_mendedNow wS_yX7_mendedNow wN_X7 wC_yX7_mendedNow hd_X7_mendedNow rfl ⟨rfl, rfl⟩ ⟨(Nat.le_of_ble_eq_true rfl), (Nat.le_of_ble_eq_true rfl)⟩ ⟨Nat.zero_le _, Nat.zero_le _⟩ rfl (Nat.le_of_ble_eq_true rfl) dX7_goLoans_97) hS (fun H locs hP hS => ?_)
              refine lv_aload_n hx hb dX7_goLoans_100 rfl (lv_at hl 2 rfl) ?_
              refine x_calli (x_runV X O hP hS hl.1 (As := []) (rest := [.int z_27, .ref (ta Θ 0)]) (k_X7_everybody O σ_19 rfl) lt_X7 (e_X7 _) rfl wM_X7_175 wI_yX7_everybody wS_yX7_everybody wN_X7 wC_yX7_everybody hd_X7_everybody rfl ⟨rfl, rfl⟩ ⟨(Nat.le_of_ble_eq_true rfl), (Nat.le_of_ble_eq_true rfl)⟩ ⟨Nat.zero_le _, Nat.zero_le _⟩ rfl (Nat.le_of_ble_eq_true rfl) dX7_goLoans_101) hS (fun H locs hP hS => ?_)
              refine lv_icmp_ne (tgt := 112) hx hb dX7_goLoans_104 (by decide) (fun c_29 => ?_) (fun c_29 => ?_)
              · have h := ite_f c_29 h
                refine lv_aload_n hx hb dX7_goLoans_112 rfl (lv_at hl 2 rfl) ?_
                refine g_X7_162 X O hP dX7_goLoans_113 ?_
                obtain ⟨σ_30, e_31, h⟩ := bnd_s h
                refine p_X7_162 X O hP hS dX7_goLoans_116 e_31 (fun H locs hP hS => ?_)
                refine lv_goto (tgt := 128) hx hb dX7_goLoans_119 (by decide) ?_
                refine lv_iinc (v := v4 + 1) (lv' := [(4, .int (v4 + 1)), (6, .int v6_12), (5, .int v5_9), (0, .ref (ta Θ 0)), (1, .int v1), (2, .int v2), (3, .int v3)]) hx hb dX7_goLoans_128 hl (k := 6) rfl rfl (by decide) rfl (fun ls hl => ?_)
                refine lv_goto (tgt := 24) hx hb dX7_goLoans_131 (by decide) ?_
                exact ih (v4 + 1) σ_30 h _ _ _ hP hS (lv_sub hl [3, 4, 5, 6, 0] rfl)
              · have h := ite_t c_29 h
                refine lv_iload hx hb dX7_goLoans_107 (lv_at hl 6 rfl) ?_
                refine lv_goto (tgt := 116) hx hb dX7_goLoans_109 (by decide) ?_
                obtain ⟨σ_32, e_33, h⟩ := bnd_s h
                refine p_X7_162 X O hP hS dX7_goLoans_116 e_33 (fun H locs hP hS => ?_)
                refine lv_goto (tgt := 128) hx hb dX7_goLoans_119 (by decide) ?_
                refine lv_iinc (v := v4 + 1) (lv' := [(4, .int (v4 + 1)), (6, .int v6_12), (5, .int v5_9), (0, .ref (ta Θ 0)), (1, .int v1), (2, .int v2), (3, .int v3)]) hx hb dX7_goLoans_128 hl (k := 6) rfl rfl (by decide) rfl (fun ls hl => ?_)
                refine lv_goto (tgt := 24) hx hb dX7_goLoans_131 (by decide) ?_
                exact ih (v4 + 1) σ_32 h _ _ _ hP hS (lv_sub hl [3, 4, 5, 6, 0] rfl)
theorem hd_X7_goLoans : yX7_goLoans.cls ≠ "java/lang/invoke/MethodHandle" ∧ yX7_goLoans.cls ≠ "java/lang/invoke/VarHandle" ∧ (parseMethodDescriptor yX7_goLoans.desc).map (fun d => d.parameters.length) = some 2 := by decide +kernel
set_option maxHeartbeats 4000000 in
set_option maxRecDepth 100000 in
theorem k_X7_goLoans {F : Nat} {Θ : TH} {l : Launch} (O : okT Θ (eM Θ) 23) (v1 : Int32) (v2 : Int32) (σ0 : Mem) {y : Mem} (h : X7_goLoans F v1 v2 σ0 = some y) : Met l yX7_goLoans (Cond.code yX7_goLoans cX7_goLoans 7 none :: wAll) rm_X7_goLoans (va_Pc [.ref (ta Θ 0), .int v1, .int v2] (tS Θ σ0)) (qV Θ y) 0 0 (tA Θ) := by
  refine x_ent (by decide) (Nat.le_of_ble_eq_true rfl) (fun p e s m below meth c X hr hlk hP ls hl => ?_)
  have hS : va_S (tA Θ) s.heap s.heap [] := va_S.rf
  have hl : lv_has ls 7 [(0, .ref (ta Θ 0)), (1, .int v1), (2, .int v2)] := hl
  have hx := X.1
  have hb := X.2.1
  unfold X7_goLoans at h
  refine lv_aload_n hx hb dX7_goLoans_0 rfl (lv_at hl 0 rfl) ?_
  obtain ⟨σ_1, e_2, h⟩ := ob_s h
  refine x_callv (x_runV X O hP hS hl.1 (As := []) (rest := []) (k_X7_begin O σ0 e_2) lt_X7 (e_X7 _) rfl wM_X7_168 wI_yX7_begin wS_yX7_begin wN_X7 wC_yX7_begin hd_X7_begin rfl ⟨rfl, rfl⟩ ⟨(Nat.le_of_ble_eq_true rfl), (Nat.le_of_ble_eq_true rfl)⟩ ⟨Nat.zero_le _, Nat.zero_le _⟩ rfl (Nat.le_of_ble_eq_true rfl) dX7_goLoans_1) hS (fun H locs hP hS => ?_)
  refine lv_aload_n hx hb dX7_goLoans_4 rfl (lv_at hl 0 rfl) ?_
  obtain ⟨z_3, e_4, h⟩ := ob_s h
  refine x_calli (x_runV X O hP hS hl.1 (As := []) (rest := []) (k_X7_mendedNow O σ_1 e_4) lt_X7 (e_X7 _) rfl wM_X7_171 wI_yX7_mendedNow wS_yX7_mendedNow wN_X7 wC_yX7_mendedNow hd_X7_mendedNow rfl ⟨rfl, rfl⟩ ⟨(Nat.le_of_ble_eq_true rfl), (Nat.le_of_ble_eq_true rfl)⟩ ⟨Nat.zero_le _, Nat.zero_le _⟩ rfl (Nat.le_of_ble_eq_true rfl) dX7_goLoans_5) hS (fun H locs hP hS => ?_)
  refine lv_aload_n hx hb dX7_goLoans_8 rfl (lv_at hl 0 rfl) ?_
  refine x_calli (x_runV X O hP hS hl.1 (As := []) (rest := [.int z_3]) (k_X7_everybody O σ_1 rfl) lt_X7 (e_X7 _) rfl wM_X7_175 wI_yX7_everybody wS_yX7_everybody wN_X7 wC_yX7_everybody hd_X7_everybody rfl ⟨rfl, rfl⟩ ⟨(Nat.le_of_ble_eq_true rfl), (Nat.le_of_ble_eq_true rfl)⟩ ⟨Nat.zero_le _, Nat.zero_le _⟩ rfl (Nat.le_of_ble_eq_true rfl) dX7_goLoans_9) hS (fun H locs hP hS => ?_)
  refine lv_icmp_ne (tgt := 19) hx hb dX7_goLoans_12 (by decide) (fun c_5 => ?_) (fun c_5 => ?_)
  · have h := ite_f c_5 h
    refine lv_iconst (v := 0) hx hb dX7_goLoans_19 (by decide) ?_
    refine lv_istore_n (lv' := [(3, .int 0), (0, .ref (ta Θ 0)), (1, .int v1), (2, .int v2)]) hx hb dX7_goLoans_20 rfl hl (by decide) rfl (fun ls hl => ?_)
    refine lv_iconst (v := 0) hx hb dX7_goLoans_21 (by decide) ?_
    refine lv_istore (lv' := [(4, .int 0), (3, .int 0), (0, .ref (ta Θ 0)), (1, .int v1), (2, .int v2)]) hx hb dX7_goLoans_22 hl (by decide) rfl (fun ls hl => ?_)
    refine w_X7_goLoans_L24 X O hr hlk v1 v2 (0 : Int32)  _ (0 : Int32) σ_1 h _ _ _ hP hS (lv_sub hl [2, 3, 4, 1, 0] rfl)
  · have h := ite_t c_5 h
    refine lv_iconst (v := 1) hx hb dX7_goLoans_15 (by decide) ?_
    refine lv_goto (tgt := 20) hx hb dX7_goLoans_16 (by decide) ?_
    refine lv_istore_n (lv' := [(3, .int 1), (0, .ref (ta Θ 0)), (1, .int v1), (2, .int v2)]) hx hb dX7_goLoans_20 rfl hl (by decide) rfl (fun ls hl => ?_)
    refine lv_iconst (v := 0) hx hb dX7_goLoans_21 (by decide) ?_
    refine lv_istore (lv' := [(4, .int 0), (3, .int 1), (0, .ref (ta Θ 0)), (1, .int v1), (2, .int v2)]) hx hb dX7_goLoans_22 hl (by decide) rfl (fun ls hl => ?_)
    refine w_X7_goLoans_L24 X O hr hlk v1 v2 (1 : Int32)  _ (0 : Int32) σ_1 h _ _ _ hP hS (lv_sub hl [2, 3, 4, 1, 0] rfl)
