-- walks (printed by gen2.py)
abbrev rm_X6_isSheet : Room := { frames := 0, cells := 0, slots := 0, locals := 0 }
theorem hd_X6_isSheet : yX6_isSheet.cls ≠ "java/lang/invoke/MethodHandle" ∧ yX6_isSheet.cls ≠ "java/lang/invoke/VarHandle" ∧ (parseMethodDescriptor yX6_isSheet.desc).map (fun d => d.parameters.length) = some 1 := by decide +kernel
set_option maxHeartbeats 4000000 in
set_option maxRecDepth 100000 in
theorem k_X6_isSheet {Θ : TH} {l : Launch} (O : okT Θ (eX Θ) 68) (v0 : Int32) (σ0 : Mem) {y : Int32} (h : X6_isSheet v0 = y) : Met l yX6_isSheet (Cond.code yX6_isSheet cX6_isSheet 1 (some .boolean) :: wAll) rm_X6_isSheet (va_Pc [.int v0] (tS Θ σ0)) (qI Θ y σ0) 0 0 (tA Θ) := by
  refine x_ent (by decide) (Nat.le_of_ble_eq_true rfl) (fun p e s m below meth c X hr hlk hP ls hl => ?_)
  have hS : va_S (tA Θ) s.heap s.heap [] := va_S.rf
  have hl : lv_has ls 1 [(0, .int v0)] := hl
  have hx := X.1
  have hb := X.2.1
  unfold X6_isSheet at h
  refine lv_iload_n hx hb dX6_isSheet_0 rfl (lv_at hl 0 rfl) ?_
  refine lv_if_lt (tgt := 13) hx hb dX6_isSheet_1 (by decide) (fun c_1 => ?_) (fun c_1 => ?_)
  · have h := ite_t c_1 h
    refine lv_iconst (v := 0) hx hb dX6_isSheet_13 (by decide) ?_
    subst h
    exact x_retz X hP hS hr hlk (Or.inl rfl) rfl rfl dX6_isSheet_14
  · have h := ite_f c_1 h
    refine lv_iload_n hx hb dX6_isSheet_4 rfl (lv_at hl 0 rfl) ?_
    refine lv_iconst (v := 4) hx hb dX6_isSheet_5 (by decide) ?_
    refine lv_icmp_ge (tgt := 13) hx hb dX6_isSheet_6 (by decide) (fun c_2 => ?_) (fun c_2 => ?_)
    · have h := ite_t c_2 h
      refine lv_iconst (v := 0) hx hb dX6_isSheet_13 (by decide) ?_
      subst h
      exact x_retz X hP hS hr hlk (Or.inl rfl) rfl rfl dX6_isSheet_14
    · have h := ite_f c_2 h
      refine lv_iconst (v := 1) hx hb dX6_isSheet_9 (by decide) ?_
      refine lv_goto (tgt := 14) hx hb dX6_isSheet_10 (by decide) ?_
      subst h
      exact x_retz X hP hS hr hlk (Or.inr rfl) rfl rfl dX6_isSheet_14
abbrev rm_X6_isLane : Room := { frames := 0, cells := 0, slots := 0, locals := 0 }
theorem hd_X6_isLane : yX6_isLane.cls ≠ "java/lang/invoke/MethodHandle" ∧ yX6_isLane.cls ≠ "java/lang/invoke/VarHandle" ∧ (parseMethodDescriptor yX6_isLane.desc).map (fun d => d.parameters.length) = some 1 := by decide +kernel
set_option maxHeartbeats 4000000 in
set_option maxRecDepth 100000 in
theorem k_X6_isLane {Θ : TH} {l : Launch} (O : okT Θ (eX Θ) 68) (v0 : Int32) (σ0 : Mem) {y : Int32} (h : X6_isLane v0 = y) : Met l yX6_isLane (Cond.code yX6_isLane cX6_isLane 1 (some .boolean) :: wAll) rm_X6_isLane (va_Pc [.int v0] (tS Θ σ0)) (qI Θ y σ0) 0 0 (tA Θ) := by
  refine x_ent (by decide) (Nat.le_of_ble_eq_true rfl) (fun p e s m below meth c X hr hlk hP ls hl => ?_)
  have hS : va_S (tA Θ) s.heap s.heap [] := va_S.rf
  have hl : lv_has ls 1 [(0, .int v0)] := hl
  have hx := X.1
  have hb := X.2.1
  unfold X6_isLane at h
  refine lv_iload_n hx hb dX6_isLane_0 rfl (lv_at hl 0 rfl) ?_
  refine lv_if_lt (tgt := 13) hx hb dX6_isLane_1 (by decide) (fun c_1 => ?_) (fun c_1 => ?_)
  · have h := ite_t c_1 h
    refine lv_iconst (v := 0) hx hb dX6_isLane_13 (by decide) ?_
    subst h
    exact x_retz X hP hS hr hlk (Or.inl rfl) rfl rfl dX6_isLane_14
  · have h := ite_f c_1 h
    refine lv_iload_n hx hb dX6_isLane_4 rfl (lv_at hl 0 rfl) ?_
    refine lv_iconst (v := 3) hx hb dX6_isLane_5 (by decide) ?_
    refine lv_icmp_ge (tgt := 13) hx hb dX6_isLane_6 (by decide) (fun c_2 => ?_) (fun c_2 => ?_)
    · have h := ite_t c_2 h
      refine lv_iconst (v := 0) hx hb dX6_isLane_13 (by decide) ?_
      subst h
      exact x_retz X hP hS hr hlk (Or.inl rfl) rfl rfl dX6_isLane_14
    · have h := ite_f c_2 h
      refine lv_iconst (v := 1) hx hb dX6_isLane_9 (by decide) ?_
      refine lv_goto (tgt := 14) hx hb dX6_isLane_10 (by decide) ?_
      subst h
      exact x_retz X hP hS hr hlk (Or.inr rfl) rfl rfl dX6_isLane_14
abbrev rm_X6_faultAnswer : Room := { frames := 0, cells := 0, slots := 0, locals := 0 }
theorem hd_X6_faultAnswer : yX6_faultAnswer.cls ≠ "java/lang/invoke/MethodHandle" ∧ yX6_faultAnswer.cls ≠ "java/lang/invoke/VarHandle" ∧ (parseMethodDescriptor yX6_faultAnswer.desc).map (fun d => d.parameters.length) = some 1 := by decide +kernel
set_option maxHeartbeats 4000000 in
set_option maxRecDepth 100000 in
theorem k_X6_faultAnswer {Θ : TH} {l : Launch} (O : okT Θ (eX Θ) 68) (v1 : Int32) (σ0 : Mem) {y : Int32 × Mem} (h : X6_faultAnswer v1 σ0 = y) : Met l yX6_faultAnswer (Cond.code yX6_faultAnswer cX6_faultAnswer 2 (some .int) :: wAll) rm_X6_faultAnswer (va_Pc [.ref (ta Θ 0), .int v1] (tS Θ σ0)) (qI Θ y.1 y.2) 0 0 (tA Θ) := by
  refine x_ent (by decide) (Nat.le_of_ble_eq_true rfl) (fun p e s m below meth c X hr hlk hP ls hl => ?_)
  have hS : va_S (tA Θ) s.heap s.heap [] := va_S.rf
  have hl : lv_has ls 2 [(0, .ref (ta Θ 0)), (1, .int v1)] := hl
  have hx := X.1
  have hb := X.2.1
  unfold X6_faultAnswer at h
  refine lv_aload_n hx hb dX6_faultAnswer_0 rfl (lv_at hl 0 rfl) ?_
  refine lv_iload_n hx hb dX6_faultAnswer_1 rfl (lv_at hl 1 rfl) ?_
  obtain ⟨σ_1, e_2, h⟩ := bnd_s h
  refine p_X6_62 X O hP hS dX6_faultAnswer_2 e_2 (fun H locs hP hS => ?_)
  refine lv_bipush (v := (-10)) hx hb dX6_faultAnswer_5 (by decide) ?_
  refine lv_iload_n hx hb dX6_faultAnswer_7 rfl (lv_at hl 1 rfl) ?_
  refine lv_isub hx hb dX6_faultAnswer_8 ?_
  subst h
  exact x_reti X hP hS hr hlk rfl rfl dX6_faultAnswer_9
abbrev rm_X6_textGoesOn : Room := { frames := 0, cells := 0, slots := 0, locals := 0 }
theorem hd_X6_textGoesOn : yX6_textGoesOn.cls ≠ "java/lang/invoke/MethodHandle" ∧ yX6_textGoesOn.cls ≠ "java/lang/invoke/VarHandle" ∧ (parseMethodDescriptor yX6_textGoesOn.desc).map (fun d => d.parameters.length) = some 3 := by decide +kernel
set_option maxHeartbeats 4000000 in
set_option maxRecDepth 100000 in
theorem k_X6_textGoesOn {Θ : TH} {l : Launch} (O : okT Θ (eX Θ) 68) (v0 : Int32) (v1 : Int32) (v2 : Int32) (σ0 : Mem) {y : Int32} (h : X6_textGoesOn v0 v1 v2 = y) : Met l yX6_textGoesOn (Cond.code yX6_textGoesOn cX6_textGoesOn 3 (some .boolean) :: wAll) rm_X6_textGoesOn (va_Pc [.int v0, .int v1, .int v2] (tS Θ σ0)) (qI Θ y σ0) 0 0 (tA Θ) := by
  refine x_ent (by decide) (Nat.le_of_ble_eq_true rfl) (fun p e s m below meth c X hr hlk hP ls hl => ?_)
  have hS : va_S (tA Θ) s.heap s.heap [] := va_S.rf
  have hl : lv_has ls 3 [(0, .int v0), (1, .int v1), (2, .int v2)] := hl
  have hx := X.1
  have hb := X.2.1
  unfold X6_textGoesOn at h
  refine lv_iload_n hx hb dX6_textGoesOn_0 rfl (lv_at hl 0 rfl) ?_
  refine lv_if_ne (tgt := 16) hx hb dX6_textGoesOn_1 (by decide) (fun c_1 => ?_) (fun c_1 => ?_)
  · have h := ite_f c_1 h
    refine lv_iload_n hx hb dX6_textGoesOn_16 rfl (lv_at hl 0 rfl) ?_
    refine lv_bipush (v := 36) hx hb dX6_textGoesOn_17 (by decide) ?_
    refine lv_icmp_le (tgt := 24) hx hb dX6_textGoesOn_19 (by decide) (fun c_2 => ?_) (fun c_2 => ?_)
    · have h := ite_t c_2 h
      refine lv_iload_n hx hb dX6_textGoesOn_24 rfl (lv_at hl 0 rfl) ?_
      refine lv_iconst (v := 1) hx hb dX6_textGoesOn_25 (by decide) ?_
      refine lv_isub hx hb dX6_textGoesOn_26 ?_
      refine lv_bipush (v := 6) hx hb dX6_textGoesOn_27 (by decide) ?_
      refine lv_irem hx hb dX6_textGoesOn_29 (by decide) ?_
      by_cases c_3 : ((v0 - 1) - (v0 - 1) / 6 * 6) = 0
      · have h := ite_t c_3 h
        refine lv_tableIn (off := 34) (tgt := 64) hx hb dX6_textGoesOn_30 (by rw [c_3]; decide) (by rw [c_3]; decide) (by rw [c_3]; rfl) (by decide) ?_
        refine lv_iload_n hx hb dX6_textGoesOn_64 rfl (lv_at hl 2 rfl) ?_
        refine lv_bipush (v := 59) hx hb dX6_textGoesOn_65 (by decide) ?_
        refine lv_icmp_ne (tgt := 74) hx hb dX6_textGoesOn_67 (by decide) (fun c_8 => ?_) (fun c_8 => ?_)
        · have h := ite_f c_8 h
          refine lv_iconst (v := 0) hx hb dX6_textGoesOn_74 (by decide) ?_
          subst h
          exact x_retz X hP hS hr hlk (Or.inl rfl) rfl rfl dX6_textGoesOn_75
        · have h := ite_t c_8 h
          refine lv_iconst (v := 1) hx hb dX6_textGoesOn_70 (by decide) ?_
          refine lv_goto (tgt := 75) hx hb dX6_textGoesOn_71 (by decide) ?_
          subst h
          exact x_retz X hP hS hr hlk (Or.inr rfl) rfl rfl dX6_textGoesOn_75
      · have h := ite_f c_3 h
        by_cases c_4 : ((v0 - 1) - (v0 - 1) / 6 * 6) = 1
        · have h := ite_t c_4 h
          refine lv_tableIn (off := 46) (tgt := 76) hx hb dX6_textGoesOn_30 (by rw [c_4]; decide) (by rw [c_4]; decide) (by rw [c_4]; rfl) (by decide) ?_
          refine lv_iload_n hx hb dX6_textGoesOn_76 rfl (lv_at hl 2 rfl) ?_
          refine lv_bipush (v := 99) hx hb dX6_textGoesOn_77 (by decide) ?_
          refine lv_icmp_eq (tgt := 94) hx hb dX6_textGoesOn_79 (by decide) (fun c_9 => ?_) (fun c_9 => ?_)
          · have h := ite_t c_9 h
            refine lv_iconst (v := 1) hx hb dX6_textGoesOn_94 (by decide) ?_
            refine lv_goto (tgt := 99) hx hb dX6_textGoesOn_95 (by decide) ?_
            subst h
            exact x_retz X hP hS hr hlk (Or.inr rfl) rfl rfl dX6_textGoesOn_99
          · have h := ite_f c_9 h
            refine lv_iload_n hx hb dX6_textGoesOn_82 rfl (lv_at hl 2 rfl) ?_
            refine lv_bipush (v := 115) hx hb dX6_textGoesOn_83 (by decide) ?_
            refine lv_icmp_eq (tgt := 94) hx hb dX6_textGoesOn_85 (by decide) (fun c_10 => ?_) (fun c_10 => ?_)
            · have h := ite_t c_10 h
              refine lv_iconst (v := 1) hx hb dX6_textGoesOn_94 (by decide) ?_
              refine lv_goto (tgt := 99) hx hb dX6_textGoesOn_95 (by decide) ?_
              subst h
              exact x_retz X hP hS hr hlk (Or.inr rfl) rfl rfl dX6_textGoesOn_99
            · have h := ite_f c_10 h
              refine lv_iload_n hx hb dX6_textGoesOn_88 rfl (lv_at hl 2 rfl) ?_
              refine lv_bipush (v := 116) hx hb dX6_textGoesOn_89 (by decide) ?_
              refine lv_icmp_ne (tgt := 98) hx hb dX6_textGoesOn_91 (by decide) (fun c_11 => ?_) (fun c_11 => ?_)
              · have h := ite_f c_11 h
                refine lv_iconst (v := 0) hx hb dX6_textGoesOn_98 (by decide) ?_
                subst h
                exact x_retz X hP hS hr hlk (Or.inl rfl) rfl rfl dX6_textGoesOn_99
              · have h := ite_t c_11 h
                refine lv_iconst (v := 1) hx hb dX6_textGoesOn_94 (by decide) ?_
                refine lv_goto (tgt := 99) hx hb dX6_textGoesOn_95 (by decide) ?_
                subst h
                exact x_retz X hP hS hr hlk (Or.inr rfl) rfl rfl dX6_textGoesOn_99
        · have h := ite_f c_4 h
          by_cases c_5 : ((v0 - 1) - (v0 - 1) / 6 * 6) = 2
          · have h := ite_t c_5 h
            refine lv_tableIn (off := 70) (tgt := 100) hx hb dX6_textGoesOn_30 (by rw [c_5]; decide) (by rw [c_5]; decide) (by rw [c_5]; rfl) (by decide) ?_
            refine lv_iload_n hx hb dX6_textGoesOn_100 rfl (lv_at hl 2 rfl) ?_
            refine lv_bipush (v := 48) hx hb dX6_textGoesOn_101 (by decide) ?_
            refine lv_icmp_lt (tgt := 116) hx hb dX6_textGoesOn_103 (by decide) (fun c_12 => ?_) (fun c_12 => ?_)
            · have h := ite_t c_12 h
              refine lv_iconst (v := 0) hx hb dX6_textGoesOn_116 (by decide) ?_
              subst h
              exact x_retz X hP hS hr hlk (Or.inl rfl) rfl rfl dX6_textGoesOn_117
            · have h := ite_f c_12 h
              refine lv_iload_n hx hb dX6_textGoesOn_106 rfl (lv_at hl 2 rfl) ?_
              refine lv_bipush (v := 54) hx hb dX6_textGoesOn_107 (by decide) ?_
              refine lv_icmp_gt (tgt := 116) hx hb dX6_textGoesOn_109 (by decide) (fun c_13 => ?_) (fun c_13 => ?_)
              · have h := ite_t c_13 h
                refine lv_iconst (v := 0) hx hb dX6_textGoesOn_116 (by decide) ?_
                subst h
                exact x_retz X hP hS hr hlk (Or.inl rfl) rfl rfl dX6_textGoesOn_117
              · have h := ite_f c_13 h
                refine lv_iconst (v := 1) hx hb dX6_textGoesOn_112 (by decide) ?_
                refine lv_goto (tgt := 117) hx hb dX6_textGoesOn_113 (by decide) ?_
                subst h
                exact x_retz X hP hS hr hlk (Or.inr rfl) rfl rfl dX6_textGoesOn_117
          · have h := ite_f c_5 h
            by_cases c_6 : ((v0 - 1) - (v0 - 1) / 6 * 6) = 3
            · have h := ite_t c_6 h
              refine lv_tableIn (off := 88) (tgt := 118) hx hb dX6_textGoesOn_30 (by rw [c_6]; decide) (by rw [c_6]; decide) (by rw [c_6]; rfl) (by decide) ?_
              refine lv_iload_n hx hb dX6_textGoesOn_118 rfl (lv_at hl 2 rfl) ?_
              refine lv_bipush (v := 48) hx hb dX6_textGoesOn_119 (by decide) ?_
              refine lv_icmp_lt (tgt := 145) hx hb dX6_textGoesOn_121 (by decide) (fun c_14 => ?_) (fun c_14 => ?_)
              · have h := ite_t c_14 h
                refine lv_iconst (v := 0) hx hb dX6_textGoesOn_145 (by decide) ?_
                subst h
                exact x_retz X hP hS hr hlk (Or.inl rfl) rfl rfl dX6_textGoesOn_146
              · have h := ite_f c_14 h
                refine lv_iload_n hx hb dX6_textGoesOn_124 rfl (lv_at hl 2 rfl) ?_
                refine lv_iload_n hx hb dX6_textGoesOn_125 rfl (lv_at hl 1 rfl) ?_
                refine lv_bipush (v := 54) hx hb dX6_textGoesOn_126 (by decide) ?_
                refine lv_icmp_ne (tgt := 136) hx hb dX6_textGoesOn_128 (by decide) (fun c_15 => ?_) (fun c_15 => ?_)
                · have h := ite_f c_15 h
                  refine lv_bipush (v := 57) hx hb dX6_textGoesOn_136 (by decide) ?_
                  refine lv_icmp_gt (tgt := 145) hx hb dX6_textGoesOn_138 (by decide) (fun c_16 => ?_) (fun c_16 => ?_)
                  · have h := ite_t c_16 h
                    refine lv_iconst (v := 0) hx hb dX6_textGoesOn_145 (by decide) ?_
                    subst h
                    exact x_retz X hP hS hr hlk (Or.inl rfl) rfl rfl dX6_textGoesOn_146
                  · have h := ite_f c_16 h
                    refine lv_iconst (v := 1) hx hb dX6_textGoesOn_141 (by decide) ?_
                    refine lv_goto (tgt := 146) hx hb dX6_textGoesOn_142 (by decide) ?_
                    subst h
                    exact x_retz X hP hS hr hlk (Or.inr rfl) rfl rfl dX6_textGoesOn_146
                · have h := ite_t c_15 h
                  refine lv_bipush (v := 51) hx hb dX6_textGoesOn_131 (by decide) ?_
                  refine lv_goto (tgt := 138) hx hb dX6_textGoesOn_133 (by decide) ?_
                  refine lv_icmp_gt (tgt := 145) hx hb dX6_textGoesOn_138 (by decide) (fun c_17 => ?_) (fun c_17 => ?_)
                  · have h := ite_t c_17 h
                    refine lv_iconst (v := 0) hx hb dX6_textGoesOn_145 (by decide) ?_
                    subst h
                    exact x_retz X hP hS hr hlk (Or.inl rfl) rfl rfl dX6_textGoesOn_146
                  · have h := ite_f c_17 h
                    refine lv_iconst (v := 1) hx hb dX6_textGoesOn_141 (by decide) ?_
                    refine lv_goto (tgt := 146) hx hb dX6_textGoesOn_142 (by decide) ?_
                    subst h
                    exact x_retz X hP hS hr hlk (Or.inr rfl) rfl rfl dX6_textGoesOn_146
            · have h := ite_f c_6 h
              by_cases c_7 : ((v0 - 1) - (v0 - 1) / 6 * 6) = 4
              · have h := ite_t c_7 h
                refine lv_tableIn (off := 117) (tgt := 147) hx hb dX6_textGoesOn_30 (by rw [c_7]; decide) (by rw [c_7]; decide) (by rw [c_7]; rfl) (by decide) ?_
                refine lv_iload_n hx hb dX6_textGoesOn_147 rfl (lv_at hl 2 rfl) ?_
                refine lv_bipush (v := 48) hx hb dX6_textGoesOn_148 (by decide) ?_
                refine lv_icmp_lt (tgt := 163) hx hb dX6_textGoesOn_150 (by decide) (fun c_18 => ?_) (fun c_18 => ?_)
                · have h := ite_t c_18 h
                  refine lv_iconst (v := 0) hx hb dX6_textGoesOn_163 (by decide) ?_
                  subst h
                  exact x_retz X hP hS hr hlk (Or.inl rfl) rfl rfl dX6_textGoesOn_164
                · have h := ite_f c_18 h
                  refine lv_iload_n hx hb dX6_textGoesOn_153 rfl (lv_at hl 2 rfl) ?_
                  refine lv_bipush (v := 54) hx hb dX6_textGoesOn_154 (by decide) ?_
                  refine lv_icmp_gt (tgt := 163) hx hb dX6_textGoesOn_156 (by decide) (fun c_19 => ?_) (fun c_19 => ?_)
                  · have h := ite_t c_19 h
                    refine lv_iconst (v := 0) hx hb dX6_textGoesOn_163 (by decide) ?_
                    subst h
                    exact x_retz X hP hS hr hlk (Or.inl rfl) rfl rfl dX6_textGoesOn_164
                  · have h := ite_f c_19 h
                    refine lv_iconst (v := 1) hx hb dX6_textGoesOn_159 (by decide) ?_
                    refine lv_goto (tgt := 164) hx hb dX6_textGoesOn_160 (by decide) ?_
                    subst h
                    exact x_retz X hP hS hr hlk (Or.inr rfl) rfl rfl dX6_textGoesOn_164
              · have h := ite_f c_7 h
                refine lv_tableOut (tgt := 165) hx hb dX6_textGoesOn_30 (by have a0 := lv_neT c_3 (a := 0) rfl; have a1 := lv_neT c_4 (a := 1) rfl; have a2 := lv_neT c_5 (a := 2) rfl; have a3 := lv_neT c_6 (a := 3) rfl; have a4 := lv_neT c_7 (a := 4) rfl; omega) (by decide) ?_
                refine lv_iload_n hx hb dX6_textGoesOn_165 rfl (lv_at hl 2 rfl) ?_
                refine lv_bipush (v := 49) hx hb dX6_textGoesOn_166 (by decide) ?_
                refine lv_icmp_lt (tgt := 181) hx hb dX6_textGoesOn_168 (by decide) (fun c_20 => ?_) (fun c_20 => ?_)
                · have h := ite_t c_20 h
                  refine lv_iconst (v := 0) hx hb dX6_textGoesOn_181 (by decide) ?_
                  subst h
                  exact x_retz X hP hS hr hlk (Or.inl rfl) rfl rfl dX6_textGoesOn_182
                · have h := ite_f c_20 h
                  refine lv_iload_n hx hb dX6_textGoesOn_171 rfl (lv_at hl 2 rfl) ?_
                  refine lv_bipush (v := 57) hx hb dX6_textGoesOn_172 (by decide) ?_
                  refine lv_icmp_gt (tgt := 181) hx hb dX6_textGoesOn_174 (by decide) (fun c_21 => ?_) (fun c_21 => ?_)
                  · have h := ite_t c_21 h
                    refine lv_iconst (v := 0) hx hb dX6_textGoesOn_181 (by decide) ?_
                    subst h
                    exact x_retz X hP hS hr hlk (Or.inl rfl) rfl rfl dX6_textGoesOn_182
                  · have h := ite_f c_21 h
                    refine lv_iconst (v := 1) hx hb dX6_textGoesOn_177 (by decide) ?_
                    refine lv_goto (tgt := 182) hx hb dX6_textGoesOn_178 (by decide) ?_
                    subst h
                    exact x_retz X hP hS hr hlk (Or.inr rfl) rfl rfl dX6_textGoesOn_182
    · have h := ite_f c_2 h
      refine lv_iconst (v := 0) hx hb dX6_textGoesOn_22 (by decide) ?_
      subst h
      exact x_retz X hP hS hr hlk (Or.inl rfl) rfl rfl dX6_textGoesOn_23
  · have h := ite_t c_1 h
    refine lv_iload_n hx hb dX6_textGoesOn_4 rfl (lv_at hl 2 rfl) ?_
    refine lv_bipush (v := 107) hx hb dX6_textGoesOn_5 (by decide) ?_
    refine lv_icmp_ne (tgt := 14) hx hb dX6_textGoesOn_7 (by decide) (fun c_22 => ?_) (fun c_22 => ?_)
    · have h := ite_f c_22 h
      refine lv_iconst (v := 0) hx hb dX6_textGoesOn_14 (by decide) ?_
      subst h
      exact x_retz X hP hS hr hlk (Or.inl rfl) rfl rfl dX6_textGoesOn_15
    · have h := ite_t c_22 h
      refine lv_iconst (v := 1) hx hb dX6_textGoesOn_10 (by decide) ?_
      refine lv_goto (tgt := 15) hx hb dX6_textGoesOn_11 (by decide) ?_
      subst h
      exact x_retz X hP hS hr hlk (Or.inr rfl) rfl rfl dX6_textGoesOn_15
abbrev rm_X6_firstFaultOfText : Room := { frames := 1, cells := 0, slots := 0, locals := 22 }
set_option maxHeartbeats 4000000 in
set_option maxRecDepth 100000 in
theorem w_X6_firstFaultOfText_L5 {F : Nat} {Θ : TH} {p : Program} {l : Launch} {e : Env} {s : State} {m : MethodId} {args : Array Value} {below : List Frame} {meth : Method} {c : Code} (X : CX Θ p s m args c RX6 cX6_firstFaultOfText 6) (O : okT Θ (eX Θ) 68) (hr : meth.sig.returnType = some .int) (hlk : meth.locks = false) {n0 : Nat} (h0 : isSh n0) (v1 : Int32) (v2 : Int32) (σ0 : Mem) {y : Int32} {k45 : Option (Int32)} (hk45 : k45 = some y → ∀ (H : Heap) (locs : List Loc) (ls : Array Slot), va_P (tD Θ) vwCl (tw Θ σ0) H → va_S (tA Θ) s.heap H locs → lv_has ls 6 [(2, .int v2)] → W p l e rm_X6_firstFaultOfText s m args below meth c H locs 0 0 (MQ below (qI Θ y σ0) args s 0 0 (tA Θ)) (F0 m 45 ls [])) :
    ∀ (f : Nat) (v3 : Int32) (v4 : Int32), X6_firstFaultOfText_L5 F n0 v1 v2 σ0 k45 f v3 v4 = some y → ∀ (H : Heap) (locs : List Loc) (ls : Array Slot), va_P (tD Θ) vwCl (tw Θ σ0) H → va_S (tA Θ) s.heap H locs → lv_has ls 6 [(0, .ref (ta Θ n0)), (1, .int v1), (2, .int v2), (3, .int v3), (4, .int v4)] → W p l e rm_X6_firstFaultOfText s m args below meth c H locs 0 0 (MQ below (qI Θ y σ0) args s 0 0 (tA Θ)) (F0 m 5 ls []) := by
  have hx := X.1
  have hb := X.2.1
  intro f
  induction f with
  | zero => intro v3 v4 h; cases h
  | succ f ih =>
    intro v3 v4 h H locs ls hP hS hl
    rw [X6_firstFaultOfText_L5] at h
    refine lv_iload hx hb dX6_firstFaultOfText_5 (lv_at hl 4 rfl) ?_
    refine lv_iload_n hx hb dX6_firstFaultOfText_7 rfl (lv_at hl 2 rfl) ?_
    refine lv_icmp_ge (tgt := 45) hx hb dX6_firstFaultOfText_8 (by decide) (fun c_1 => ?_) (fun c_1 => ?_)
    · have h := ite_t c_1 h
      exact hk45  h _ _ _ hP hS (lv_sub hl [2] rfl)
    · have h := ite_f c_1 h
      refine lv_aload_n hx hb dX6_firstFaultOfText_11 rfl (lv_at hl 0 rfl) ?_
      refine g_X6_213 X O hP h0 dX6_firstFaultOfText_12 ?_
      refine lv_iload_n hx hb dX6_firstFaultOfText_15 rfl (lv_at hl 1 rfl) ?_
      refine lv_iload hx hb dX6_firstFaultOfText_16 (lv_at hl 4 rfl) ?_
      refine lv_iadd hx hb dX6_firstFaultOfText_18 ?_
      obtain ⟨g_2, h⟩ := grd_s h
      refine x_iald X O hP (iI_X5 h0) g_2 dX6_firstFaultOfText_19 ?_
      obtain ⟨v5_3, e_4, h⟩ := bnd_s h
      refine lv_nam e_4 ?_
      refine lv_istore (lv' := [(5, .int v5_3), (0, .ref (ta Θ n0)), (1, .int v1), (2, .int v2), (3, .int v3), (4, .int v4)]) hx hb dX6_firstFaultOfText_20 hl (by decide) rfl (fun ls hl => ?_)
      refine lv_iload hx hb dX6_firstFaultOfText_22 (lv_at hl 5 rfl) ?_
      refine lv_iload_n hx hb dX6_firstFaultOfText_24 rfl (lv_at hl 4 rfl) ?_
      refine lv_iload hx hb dX6_firstFaultOfText_25 (lv_at hl 0 rfl) ?_
      refine x_calli (x_runS X hP hS hl.1 (As := [.int v4, .int v3, .int v5_3]) (rest := []) (k_X6_textGoesOn O v4 v3 v5_3 σ0 rfl) wM_X6_243 wT_yX6_textGoesOn wN_X6 wC_yX6_textGoesOn hd_X6_textGoesOn rfl ⟨rfl, rfl⟩ ⟨(Nat.le_of_ble_eq_true rfl), (Nat.le_of_ble_eq_true rfl)⟩ ⟨Nat.zero_le _, Nat.zero_le _⟩ rfl (Nat.le_of_ble_eq_true rfl) dX6_firstFaultOfText_27) hS (fun H locs hP hS => ?_)
      refine lv_if_ne (tgt := 36) hx hb dX6_firstFaultOfText_30 (by decide) (fun c_5 => ?_) (fun c_5 => ?_)
      · have h := ite_f c_5 h
        refine lv_iload hx hb dX6_firstFaultOfText_36 (lv_at hl 0 rfl) ?_
        refine lv_istore_n (lv' := [(3, .int v5_3), (5, .int v5_3), (0, .ref (ta Θ n0)), (1, .int v1), (2, .int v2), (4, .int v4)]) hx hb dX6_firstFaultOfText_38 rfl hl (by decide) rfl (fun ls hl => ?_)
        refine lv_iinc (v := v4 + 1) (lv' := [(4, .int (v4 + 1)), (3, .int v5_3), (5, .int v5_3), (0, .ref (ta Θ n0)), (1, .int v1), (2, .int v2)]) hx hb dX6_firstFaultOfText_39 hl (k := 5) rfl rfl (by decide) rfl (fun ls hl => ?_)
        refine lv_goto (tgt := 5) hx hb dX6_firstFaultOfText_42 (by decide) ?_
        exact ih v5_3 (v4 + 1) h _ _ _ hP hS (lv_sub hl [3, 4, 5, 1, 0] rfl)
      · have h := ite_t c_5 h
        refine lv_iload hx hb dX6_firstFaultOfText_33 (lv_at hl 5 rfl) ?_
        have h := some_i h
        subst h
        exact x_reti X hP hS hr hlk rfl rfl dX6_firstFaultOfText_35
theorem hd_X6_firstFaultOfText : yX6_firstFaultOfText.cls ≠ "java/lang/invoke/MethodHandle" ∧ yX6_firstFaultOfText.cls ≠ "java/lang/invoke/VarHandle" ∧ (parseMethodDescriptor yX6_firstFaultOfText.desc).map (fun d => d.parameters.length) = some 3 := by decide +kernel
set_option maxHeartbeats 4000000 in
set_option maxRecDepth 100000 in
theorem k_X6_firstFaultOfText {F : Nat} {Θ : TH} {l : Launch} (O : okT Θ (eX Θ) 68) {n0 : Nat} (h0 : isSh n0) (v1 : Int32) (v2 : Int32) (σ0 : Mem) {y : Int32} (h : X6_firstFaultOfText F n0 v1 v2 σ0 = some y) : Met l yX6_firstFaultOfText (Cond.code yX6_firstFaultOfText cX6_firstFaultOfText 6 (some .int) :: wAll) rm_X6_firstFaultOfText (va_Pc [.ref (ta Θ n0), .int v1, .int v2] (tS Θ σ0)) (qI Θ y σ0) 0 0 (tA Θ) := by
  refine x_ent (by decide) (Nat.le_of_ble_eq_true rfl) (fun p e s m below meth c X hr hlk hP ls hl => ?_)
  have hS : va_S (tA Θ) s.heap s.heap [] := va_S.rf
  have hl : lv_has ls 6 [(0, .ref (ta Θ n0)), (1, .int v1), (2, .int v2)] := hl
  have hx := X.1
  have hb := X.2.1
  unfold X6_firstFaultOfText at h
  refine lv_iconst (v := 0) hx hb dX6_firstFaultOfText_0 (by decide) ?_
  refine lv_istore_n (lv' := [(3, .int 0), (0, .ref (ta Θ n0)), (1, .int v1), (2, .int v2)]) hx hb dX6_firstFaultOfText_1 rfl hl (by decide) rfl (fun ls hl => ?_)
  refine lv_iconst (v := 0) hx hb dX6_firstFaultOfText_2 (by decide) ?_
  refine lv_istore (lv' := [(4, .int 0), (3, .int 0), (0, .ref (ta Θ n0)), (1, .int v1), (2, .int v2)]) hx hb dX6_firstFaultOfText_3 hl (by decide) rfl (fun ls hl => ?_)
  refine w_X6_firstFaultOfText_L5 X O hr hlk h0 v1 v2 σ0 ?_ _ (0 : Int32) (0 : Int32) h _ _ _ hP hS (lv_sub hl [2, 3, 4, 1, 0] rfl)
  · intro  h H locs ls hP hS hl
    refine lv_iload_n hx hb dX6_firstFaultOfText_45 rfl (lv_at hl 0 rfl) ?_
    refine lv_bipush (v := 6) hx hb dX6_firstFaultOfText_46 (by decide) ?_
    refine lv_irem hx hb dX6_firstFaultOfText_48 (by decide) ?_
    refine lv_iconst (v := 1) hx hb dX6_firstFaultOfText_49 (by decide) ?_
    refine lv_icmp_ne (tgt := 63) hx hb dX6_firstFaultOfText_50 (by decide) (fun c_6 => ?_) (fun c_6 => ?_)
    · have h := ite_f c_6 h
      refine lv_iconst (v := 0) hx hb dX6_firstFaultOfText_63 (by decide) ?_
      refine lv_istore (lv' := [(4, .int 0), (2, .int v2)]) hx hb dX6_firstFaultOfText_64 hl (by decide) rfl (fun ls hl => ?_)
      refine lv_iload hx hb dX6_firstFaultOfText_66 (lv_at hl 0 rfl) ?_
      refine lv_if_eq (tgt := 76) hx hb dX6_firstFaultOfText_68 (by decide) (fun c_7 => ?_) (fun c_7 => absurd c_7 (by decide))
      refine lv_iload_n hx hb dX6_firstFaultOfText_76 rfl (lv_at hl 1 rfl) ?_
      have h := some_i h
      subst h
      exact x_reti X hP hS hr hlk rfl rfl dX6_firstFaultOfText_77
    · have h := ite_t c_6 h
      refine lv_iload_n hx hb dX6_firstFaultOfText_53 rfl (lv_at hl 0 rfl) ?_
      refine lv_bipush (v := 12) hx hb dX6_firstFaultOfText_54 (by decide) ?_
      refine lv_icmp_le (tgt := 63) hx hb dX6_firstFaultOfText_56 (by decide) (fun c_8 => ?_) (fun c_8 => ?_)
      · have h := ite_t c_8 h
        refine lv_iconst (v := 0) hx hb dX6_firstFaultOfText_63 (by decide) ?_
        refine lv_istore (lv' := [(4, .int 0), (2, .int v2)]) hx hb dX6_firstFaultOfText_64 hl (by decide) rfl (fun ls hl => ?_)
        refine lv_iload hx hb dX6_firstFaultOfText_66 (lv_at hl 0 rfl) ?_
        refine lv_if_eq (tgt := 76) hx hb dX6_firstFaultOfText_68 (by decide) (fun c_9 => ?_) (fun c_9 => absurd c_9 (by decide))
        refine lv_iload_n hx hb dX6_firstFaultOfText_76 rfl (lv_at hl 1 rfl) ?_
        have h := some_i h
        subst h
        exact x_reti X hP hS hr hlk rfl rfl dX6_firstFaultOfText_77
      · have h := ite_f c_8 h
        refine lv_iconst (v := 1) hx hb dX6_firstFaultOfText_59 (by decide) ?_
        refine lv_goto (tgt := 64) hx hb dX6_firstFaultOfText_60 (by decide) ?_
        refine lv_istore (lv' := [(4, .int 1), (2, .int v2)]) hx hb dX6_firstFaultOfText_64 hl (by decide) rfl (fun ls hl => ?_)
        refine lv_iload hx hb dX6_firstFaultOfText_66 (lv_at hl 0 rfl) ?_
        refine lv_if_eq (tgt := 76) hx hb dX6_firstFaultOfText_68 (by decide) (fun c_10 => absurd c_10 (by decide)) (fun c_10 => ?_)
        refine lv_bipush (v := (-9)) hx hb dX6_firstFaultOfText_71 (by decide) ?_
        refine lv_goto (tgt := 77) hx hb dX6_firstFaultOfText_73 (by decide) ?_
        have h := some_i h
        subst h
        exact x_reti X hP hS hr hlk rfl rfl dX6_firstFaultOfText_77
abbrev rm_X6_counter : Room := { frames := 2, cells := 0, slots := 0, locals := 47 }
set_option maxHeartbeats 4000000 in
set_option maxRecDepth 100000 in
theorem w_X6_counter_L90 {F : Nat} {Θ : TH} {p : Program} {l : Launch} {e : Env} {s : State} {m : MethodId} {args : Array Value} {below : List Frame} {meth : Method} {c : Code} (X : CX Θ p s m args c RX6 cX6_counter 9) (O : okT Θ (eX Θ) 68) (hr : meth.sig.returnType = some .int) (hlk : meth.locks = false) {n5 : Nat} (h5 : isSh n5) (v3 : Int32) {y : Int32 × Mem} {k126 : Mem → Option (Int32 × Mem)} (hk126 : ∀ (σ0 : Mem), k126 σ0 = some y → ∀ (H : Heap) (locs : List Loc) (ls : Array Slot), va_P (tD Θ) vwCl (tw Θ σ0) H → va_S (tA Θ) s.heap H locs → lv_has ls 9 [(0, .ref (ta Θ 0))] → W p l e rm_X6_counter s m args below meth c H locs 0 0 (MQ below (qI Θ y.1 y.2) args s 0 0 (tA Θ)) (F0 m 126 ls [])) :
    ∀ (f : Nat) (v8 : Int32) (σ0 : Mem), X6_counter_L90 F v3 n5 k126 f v8 σ0 = some y → ∀ (H : Heap) (locs : List Loc) (ls : Array Slot), va_P (tD Θ) vwCl (tw Θ σ0) H → va_S (tA Θ) s.heap H locs → lv_has ls 9 [(0, .ref (ta Θ 0)), (3, .int v3), (5, .ref (ta Θ n5)), (8, .int v8)] → W p l e rm_X6_counter s m args below meth c H locs 0 0 (MQ below (qI Θ y.1 y.2) args s 0 0 (tA Θ)) (F0 m 90 ls []) := by
  have hx := X.1
  have hb := X.2.1
  intro f
  induction f with
  | zero => intro v8 σ0 h; cases h
  | succ f ih =>
    intro v8 σ0 h H locs ls hP hS hl
    rw [X6_counter_L90] at h
    refine lv_iload hx hb dX6_counter_90 (lv_at hl 3 rfl) ?_
    refine lv_aload_n hx hb dX6_counter_92 rfl (lv_at hl 0 rfl) ?_
    refine g_X6_55 X O hP dX6_counter_93 ?_
    refine lv_icmp_ge (tgt := 126) hx hb dX6_counter_96 (by decide) (fun c_14 => ?_) (fun c_14 => ?_)
    · have h := ite_t c_14 h
      exact hk126 σ0 h _ _ _ hP hS (lv_sub hl [0] rfl)
    · have h := ite_f c_14 h
      refine lv_aload_n hx hb dX6_counter_99 rfl (lv_at hl 0 rfl) ?_
      refine g_X6_19 X O hP dX6_counter_100 ?_
      refine lv_iload hx hb dX6_counter_103 (lv_at hl 3 rfl) ?_
      obtain ⟨g_15, h⟩ := grd_s h
      refine x_aald X O hP (k := 2) (n := 6) (t0 := 3) (C := "LentYouths$Person") (g := fun j => 22 + j) (by decide) rfl rfl g_15 dX6_counter_105 ?_
      refine lv_aload hx hb dX6_counter_106 (lv_at hl 2 rfl) ?_
      refine lv_iload_n hx hb dX6_counter_108 rfl (lv_at hl 1 rfl) ?_
      refine lv_iconst (v := 1) hx hb dX6_counter_109 (by decide) ?_
      refine lv_iadd hx hb dX6_counter_110 ?_
      refine lv_bipush (v := 6) hx hb dX6_counter_111 (by decide) ?_
      refine lv_iload hx hb dX6_counter_113 (lv_at hl 3 rfl) ?_
      refine lv_imul hx hb dX6_counter_115 ?_
      refine lv_iadd hx hb dX6_counter_116 ?_
      obtain ⟨σ_16, e_17, h⟩ := ob_s h
      refine x_callv (x_runV X O hP hS hl.1 (As := [.ref (ta Θ n5), .int ((v3 + 1) + ((6 : Int32) * v8))]) (rest := []) (k_X3_readFrom O (isPe_at g_15) h5 ((v3 + 1) + ((6 : Int32) * v8)) σ0 e_17) (lt_X3 (isPe_at g_15)) (e_X3 (isPe_at g_15) _) rfl wM_X6_86 wI_yX3_readFrom wS_yX3_readFrom wN_X3 wC_yX3_readFrom hd_X3_readFrom rfl ⟨rfl, rfl⟩ ⟨(Nat.le_of_ble_eq_true rfl), (Nat.le_of_ble_eq_true rfl)⟩ ⟨Nat.zero_le _, Nat.zero_le _⟩ rfl (Nat.le_of_ble_eq_true rfl) dX6_counter_117) hS (fun H locs hP hS => ?_)
      refine lv_iinc (v := v8 + 1) (lv' := [(8, .int (v8 + 1)), (0, .ref (ta Θ 0)), (3, .int v3), (5, .ref (ta Θ n5))]) hx hb dX6_counter_120 hl (k := 3) rfl rfl (by decide) rfl (fun ls hl => ?_)
      refine lv_goto (tgt := 90) hx hb dX6_counter_123 (by decide) ?_
      exact ih (v8 + 1) σ_16 h _ _ _ hP hS (lv_sub hl [1, 2, 3, 0] rfl)
theorem hd_X6_counter : yX6_counter.cls ≠ "java/lang/invoke/MethodHandle" ∧ yX6_counter.cls ≠ "java/lang/invoke/VarHandle" ∧ (parseMethodDescriptor yX6_counter.desc).map (fun d => d.parameters.length) = some 4 := by decide +kernel
set_option maxHeartbeats 4000000 in
set_option maxRecDepth 100000 in
theorem k_X6_counter {F : Nat} {Θ : TH} {l : Launch} (O : okT Θ (eX Θ) 68) (v1 : Int32) (v2 : Int32) (v3 : Int32) (v4 : Int32) (σ0 : Mem) {y : Int32 × Mem} (h : X6_counter F v1 v2 v3 v4 σ0 = some y) : Met l yX6_counter (Cond.code yX6_counter cX6_counter 9 (some .int) :: wAll) rm_X6_counter (va_Pc [.ref (ta Θ 0), .int v1, .int v2, .int v3, .int v4] (tS Θ σ0)) (qI Θ y.1 y.2) 0 0 (tA Θ) := by
  refine x_ent (by decide) (Nat.le_of_ble_eq_true rfl) (fun p e s m below meth c X hr hlk hP ls hl => ?_)
  have hS : va_S (tA Θ) s.heap s.heap [] := va_S.rf
  have hl : lv_has ls 9 [(0, .ref (ta Θ 0)), (1, .int v1), (2, .int v2), (3, .int v3), (4, .int v4)] := hl
  have hx := X.1
  have hb := X.2.1
  unfold X6_counter at h
  refine lv_aload_n hx hb dX6_counter_0 rfl (lv_at hl 0 rfl) ?_
  refine lv_iconst (v := 0) hx hb dX6_counter_1 (by decide) ?_
  obtain ⟨σ_1, e_2, h⟩ := bnd_s h
  refine p_X6_62 X O hP hS dX6_counter_2 e_2 (fun H locs hP hS => ?_)
  refine lv_iload_n hx hb dX6_counter_5 rfl (lv_at hl 1 rfl) ?_
  refine x_calli (x_runS X hP hS hl.1 (As := [.int v1]) (rest := []) (k_X6_isSheet O v1 σ_1 rfl) wM_X6_67 wT_yX6_isSheet wN_X6 wC_yX6_isSheet hd_X6_isSheet rfl ⟨rfl, rfl⟩ ⟨(Nat.le_of_ble_eq_true rfl), (Nat.le_of_ble_eq_true rfl)⟩ ⟨Nat.zero_le _, Nat.zero_le _⟩ rfl (Nat.le_of_ble_eq_true rfl) dX6_counter_6) hS (fun H locs hP hS => ?_)
  refine lv_if_ne (tgt := 14) hx hb dX6_counter_9 (by decide) (fun c_3 => ?_) (fun c_3 => ?_)
  · have h := ite_f c_3 h
    refine lv_iload_n hx hb dX6_counter_14 rfl (lv_at hl 2 rfl) ?_
    refine x_calli (x_runS X hP hS hl.1 (As := [.int v2]) (rest := []) (k_X6_isLane O v2 σ_1 rfl) wM_X6_71 wT_yX6_isLane wN_X6 wC_yX6_isLane hd_X6_isLane rfl ⟨rfl, rfl⟩ ⟨(Nat.le_of_ble_eq_true rfl), (Nat.le_of_ble_eq_true rfl)⟩ ⟨Nat.zero_le _, Nat.zero_le _⟩ rfl (Nat.le_of_ble_eq_true rfl) dX6_counter_15) hS (fun H locs hP hS => ?_)
    refine lv_if_ne (tgt := 24) hx hb dX6_counter_18 (by decide) (fun c_4 => ?_) (fun c_4 => ?_)
    · have h := ite_f c_4 h
      refine lv_aload_n hx hb dX6_counter_24 rfl (lv_at hl 0 rfl) ?_
      refine g_X6_13 X O hP dX6_counter_25 ?_
      refine lv_iload_n hx hb dX6_counter_28 rfl (lv_at hl 1 rfl) ?_
      obtain ⟨g_5, h⟩ := grd_s h
      refine x_aald X O hP (k := 1) (n := 4) (t0 := 2) (C := "LentYouths$Sheet") (g := fun j => 14 + j) (by decide) rfl rfl g_5 dX6_counter_29 ?_
      refine lv_astore (lv' := [(5, .ref (ta Θ (14 + v1.toNatClampNeg))), (0, .ref (ta Θ 0)), (1, .int v1), (2, .int v2), (3, .int v3), (4, .int v4)]) hx hb dX6_counter_30 hl (by decide) rfl (fun ls hl => ?_)
      refine lv_aload hx hb dX6_counter_32 (lv_at hl 0 rfl) ?_
      refine lv_iload_n hx hb dX6_counter_34 rfl (lv_at hl 3 rfl) ?_
      refine lv_iload_n hx hb dX6_counter_35 rfl (lv_at hl 4 rfl) ?_
      refine lv_iload hx hb dX6_counter_36 (lv_at hl 5 rfl) ?_
      refine x_calli (x_runV X O hP hS hl.1 (As := [.int v2, .int v3, .int v4]) (rest := []) (k_X5_faultOfCells O (isSh_at g_5) v2 v3 v4 σ_1 rfl) (lt_X5 (isSh_at g_5)) (e_X5 (isSh_at g_5) _) rfl wM_X6_74 wI_yX5_faultOfCells wS_yX5_faultOfCells wN_X5 wC_yX5_faultOfCells hd_X5_faultOfCells rfl ⟨rfl, rfl⟩ ⟨(Nat.le_of_ble_eq_true rfl), (Nat.le_of_ble_eq_true rfl)⟩ ⟨Nat.zero_le _, Nat.zero_le _⟩ rfl (Nat.le_of_ble_eq_true rfl) dX6_counter_38) hS (fun H locs hP hS => ?_)
      obtain ⟨v6_6, e_7, h⟩ := bnd_s h
      refine lv_nam e_7 ?_
      refine lv_istore (lv' := [(6, .int v6_6), (5, .ref (ta Θ (14 + v1.toNatClampNeg))), (0, .ref (ta Θ 0)), (1, .int v1), (2, .int v2), (3, .int v3), (4, .int v4)]) hx hb dX6_counter_41 hl (by decide) rfl (fun ls hl => ?_)
      refine lv_iload hx hb dX6_counter_43 (lv_at hl 0 rfl) ?_
      refine lv_if_eq (tgt := 55) hx hb dX6_counter_45 (by decide) (fun c_8 => ?_) (fun c_8 => ?_)
      · have h := ite_t c_8 h
        refine lv_aload hx hb dX6_counter_55 (lv_at hl 1 rfl) ?_
        refine lv_iload_n hx hb dX6_counter_57 rfl (lv_at hl 5 rfl) ?_
        refine lv_iload hx hb dX6_counter_58 (lv_at hl 6 rfl) ?_
        obtain ⟨z_9, e_10, h⟩ := ob_s h
        refine x_calli (x_runS X hP hS hl.1 (As := [.ref (ta Θ (14 + v1.toNatClampNeg)), .int v3, .int v4]) (rest := []) (k_X6_firstFaultOfText O (isSh_at g_5) v3 v4 σ_1 e_10) wM_X6_82 wT_yX6_firstFaultOfText wN_X6 wC_yX6_firstFaultOfText hd_X6_firstFaultOfText rfl ⟨rfl, rfl⟩ ⟨(Nat.le_of_ble_eq_true rfl), (Nat.le_of_ble_eq_true rfl)⟩ ⟨Nat.zero_le _, Nat.zero_le _⟩ rfl (Nat.le_of_ble_eq_true rfl) dX6_counter_60) hS (fun H locs hP hS => ?_)
        refine lv_istore (lv' := [(7, .int z_9), (6, .int v6_6), (5, .ref (ta Θ (14 + v1.toNatClampNeg))), (0, .ref (ta Θ 0)), (1, .int v1), (2, .int v2), (3, .int v3), (4, .int v4)]) hx hb dX6_counter_63 hl (by decide) rfl (fun ls hl => ?_)
        refine lv_iload hx hb dX6_counter_65 (lv_at hl 0 rfl) ?_
        refine lv_bipush (v := (-9)) hx hb dX6_counter_67 (by decide) ?_
        refine lv_icmp_eq (tgt := 78) hx hb dX6_counter_69 (by decide) (fun c_11 => ?_) (fun c_11 => ?_)
        · have h := ite_t c_11 h
          refine lv_aload_n hx hb dX6_counter_78 rfl (lv_at hl 3 rfl) ?_
          refine lv_iload hx hb dX6_counter_79 (lv_at hl 7 rfl) ?_
          refine lv_bipush (v := 6) hx hb dX6_counter_81 (by decide) ?_
          refine lv_idiv hx hb dX6_counter_83 (by decide) ?_
          obtain ⟨σ_12, e_13, h⟩ := bnd_s h
          refine p_X6_55 X O hP hS dX6_counter_84 e_13 (fun H locs hP hS => ?_)
          refine lv_iconst (v := 0) hx hb dX6_counter_87 (by decide) ?_
          refine lv_istore (lv' := [(8, .int 0), (7, .int z_9), (6, .int v6_6), (5, .ref (ta Θ (14 + v1.toNatClampNeg))), (0, .ref (ta Θ 0)), (1, .int v1), (2, .int v2), (3, .int v3), (4, .int v4)]) hx hb dX6_counter_88 hl (by decide) rfl (fun ls hl => ?_)
          refine w_X6_counter_L90 X O hr hlk (isSh_at g_5) v3 ?_ _ (0 : Int32) σ_12 h _ _ _ hP hS (lv_sub hl [4, 7, 3, 0] rfl)
          · intro σ_18 h H locs ls hP hS hl
            refine lv_aload_n hx hb dX6_counter_126 rfl (lv_at hl 0 rfl) ?_
            refine g_X6_26 X O hP dX6_counter_127 ?_
            refine lv_iconst (v := 0) hx hb dX6_counter_130 (by decide) ?_
            obtain ⟨σ_19, e_20, h⟩ := bnd_s h
            refine p_X6_90 X O hP hS dX6_counter_131 e_20 (fun H locs hP hS => ?_)
            refine lv_aload_n hx hb dX6_counter_134 rfl (lv_at hl 0 rfl) ?_
            refine g_X6_55 X O hP dX6_counter_135 ?_
            have h := some_i h
            subst h
            exact x_reti X hP hS hr hlk rfl rfl dX6_counter_138
        · have h := ite_f c_11 h
          refine lv_bipush (v := (-100)) hx hb dX6_counter_72 (by decide) ?_
          refine lv_iload hx hb dX6_counter_74 (lv_at hl 0 rfl) ?_
          refine lv_isub hx hb dX6_counter_76 ?_
          have h := some_i h
          subst h
          exact x_reti X hP hS hr hlk rfl rfl dX6_counter_77
      · have h := ite_f c_8 h
        refine lv_aload_n hx hb dX6_counter_48 rfl (lv_at hl 2 rfl) ?_
        refine lv_iload hx hb dX6_counter_49 (lv_at hl 0 rfl) ?_
        obtain ⟨z_21, e_22, h⟩ := bnd_s h
        refine x_calli (x_runV X O hP hS hl.1 (As := [.int v6_6]) (rest := []) (k_X6_faultAnswer O v6_6 σ_1 e_22.symm) lt_X6 (e_X6 _) rfl wM_X6_78 wI_yX6_faultAnswer wS_yX6_faultAnswer wN_X6 wC_yX6_faultAnswer hd_X6_faultAnswer rfl ⟨rfl, rfl⟩ ⟨(Nat.le_of_ble_eq_true rfl), (Nat.le_of_ble_eq_true rfl)⟩ ⟨Nat.zero_le _, Nat.zero_le _⟩ rfl (Nat.le_of_ble_eq_true rfl) dX6_counter_51) hS (fun H locs hP hS => ?_)
        have h := some_i h
        subst h
        exact x_reti X hP hS hr hlk rfl rfl dX6_counter_54
    · have h := ite_t c_4 h
      refine lv_bipush (v := (-2)) hx hb dX6_counter_21 (by decide) ?_
      have h := some_i h
      subst h
      exact x_reti X hP hS hr hlk rfl rfl dX6_counter_23
  · have h := ite_t c_3 h
    refine lv_iconst (v := (-1)) hx hb dX6_counter_12 (by decide) ?_
    have h := some_i h
    subst h
    exact x_reti X hP hS hr hlk rfl rfl dX6_counter_13
abbrev rm_X6_isPerson : Room := { frames := 0, cells := 0, slots := 0, locals := 0 }
theorem hd_X6_isPerson : yX6_isPerson.cls ≠ "java/lang/invoke/MethodHandle" ∧ yX6_isPerson.cls ≠ "java/lang/invoke/VarHandle" ∧ (parseMethodDescriptor yX6_isPerson.desc).map (fun d => d.parameters.length) = some 1 := by decide +kernel
set_option maxHeartbeats 4000000 in
set_option maxRecDepth 100000 in
theorem k_X6_isPerson {Θ : TH} {l : Launch} (O : okT Θ (eX Θ) 68) (v1 : Int32) (σ0 : Mem) {y : Int32} (h : X6_isPerson v1 σ0 = y) : Met l yX6_isPerson (Cond.code yX6_isPerson cX6_isPerson 2 (some .boolean) :: wAll) rm_X6_isPerson (va_Pc [.ref (ta Θ 0), .int v1] (tS Θ σ0)) (qI Θ y σ0) 0 0 (tA Θ) := by
  refine x_ent (by decide) (Nat.le_of_ble_eq_true rfl) (fun p e s m below meth c X hr hlk hP ls hl => ?_)
  have hS : va_S (tA Θ) s.heap s.heap [] := va_S.rf
  have hl : lv_has ls 2 [(0, .ref (ta Θ 0)), (1, .int v1)] := hl
  have hx := X.1
  have hb := X.2.1
  unfold X6_isPerson at h
  refine lv_iload_n hx hb dX6_isPerson_0 rfl (lv_at hl 1 rfl) ?_
  refine lv_if_lt (tgt := 16) hx hb dX6_isPerson_1 (by decide) (fun c_1 => ?_) (fun c_1 => ?_)
  · have h := ite_t c_1 h
    refine lv_iconst (v := 0) hx hb dX6_isPerson_16 (by decide) ?_
    subst h
    exact x_retz X hP hS hr hlk (Or.inl rfl) rfl rfl dX6_isPerson_17
  · have h := ite_f c_1 h
    refine lv_iload_n hx hb dX6_isPerson_4 rfl (lv_at hl 1 rfl) ?_
    refine lv_aload_n hx hb dX6_isPerson_5 rfl (lv_at hl 0 rfl) ?_
    refine g_X6_55 X O hP dX6_isPerson_6 ?_
    refine lv_icmp_ge (tgt := 16) hx hb dX6_isPerson_9 (by decide) (fun c_2 => ?_) (fun c_2 => ?_)
    · have h := ite_t c_2 h
      refine lv_iconst (v := 0) hx hb dX6_isPerson_16 (by decide) ?_
      subst h
      exact x_retz X hP hS hr hlk (Or.inl rfl) rfl rfl dX6_isPerson_17
    · have h := ite_f c_2 h
      refine lv_iconst (v := 1) hx hb dX6_isPerson_12 (by decide) ?_
      refine lv_goto (tgt := 17) hx hb dX6_isPerson_13 (by decide) ?_
      subst h
      exact x_retz X hP hS hr hlk (Or.inr rfl) rfl rfl dX6_isPerson_17
abbrev rm_X6_ofPerson : Room := { frames := 2, cells := 0, slots := 0, locals := 41 }
theorem hd_X6_ofPerson : yX6_ofPerson.cls ≠ "java/lang/invoke/MethodHandle" ∧ yX6_ofPerson.cls ≠ "java/lang/invoke/VarHandle" ∧ (parseMethodDescriptor yX6_ofPerson.desc).map (fun d => d.parameters.length) = some 2 := by decide +kernel
set_option maxHeartbeats 4000000 in
set_option maxRecDepth 100000 in
theorem k_X6_ofPerson {Θ : TH} {l : Launch} (O : okT Θ (eX Θ) 68) (v1 : Int32) (v2 : Int32) (σ0 : Mem) {y : Int32} (h : X6_ofPerson v1 v2 σ0 = some y) : Met l yX6_ofPerson (Cond.code yX6_ofPerson cX6_ofPerson 4 (some .int) :: wAll) rm_X6_ofPerson (va_Pc [.ref (ta Θ 0), .int v1, .int v2] (tS Θ σ0)) (qI Θ y σ0) 0 0 (tA Θ) := by
  refine x_ent (by decide) (Nat.le_of_ble_eq_true rfl) (fun p e s m below meth c X hr hlk hP ls hl => ?_)
  have hS : va_S (tA Θ) s.heap s.heap [] := va_S.rf
  have hl : lv_has ls 4 [(0, .ref (ta Θ 0)), (1, .int v1), (2, .int v2)] := hl
  have hx := X.1
  have hb := X.2.1
  unfold X6_ofPerson at h
  refine lv_aload_n hx hb dX6_ofPerson_0 rfl (lv_at hl 0 rfl) ?_
  refine lv_iload_n hx hb dX6_ofPerson_1 rfl (lv_at hl 1 rfl) ?_
  refine x_calli (x_runV X O hP hS hl.1 (As := [.int v1]) (rest := []) (k_X6_isPerson O v1 σ0 rfl) lt_X6 (e_X6 _) rfl wM_X6_93 wI_yX6_isPerson wS_yX6_isPerson wN_X6 wC_yX6_isPerson hd_X6_isPerson rfl ⟨rfl, rfl⟩ ⟨(Nat.le_of_ble_eq_true rfl), (Nat.le_of_ble_eq_true rfl)⟩ ⟨Nat.zero_le _, Nat.zero_le _⟩ rfl (Nat.le_of_ble_eq_true rfl) dX6_ofPerson_2) hS (fun H locs hP hS => ?_)
  refine lv_if_ne (tgt := 10) hx hb dX6_ofPerson_5 (by decide) (fun c_1 => ?_) (fun c_1 => ?_)
  · have h := ite_f c_1 h
    refine lv_aload_n hx hb dX6_ofPerson_10 rfl (lv_at hl 0 rfl) ?_
    refine g_X6_19 X O hP dX6_ofPerson_11 ?_
    refine lv_iload_n hx hb dX6_ofPerson_14 rfl (lv_at hl 1 rfl) ?_
    obtain ⟨g_2, h⟩ := grd_s h
    refine x_aald X O hP (k := 2) (n := 6) (t0 := 3) (C := "LentYouths$Person") (g := fun j => 22 + j) (by decide) rfl rfl g_2 dX6_ofPerson_15 ?_
    refine lv_astore_n (lv' := [(3, .ref (ta Θ (22 + v1.toNatClampNeg))), (0, .ref (ta Θ 0)), (1, .int v1), (2, .int v2)]) hx hb dX6_ofPerson_16 rfl hl (by decide) rfl (fun ls hl => ?_)
    refine lv_iload_n hx hb dX6_ofPerson_17 rfl (lv_at hl 3 rfl) ?_
    by_cases c_3 : v2 = 0
    · have h := ite_t c_3 h
      refine lv_tableIn (off := 34) (tgt := 52) hx hb dX6_ofPerson_18 (by rw [c_3]; decide) (by rw [c_3]; decide) (by rw [c_3]; rfl) (by decide) ?_
      refine lv_aload_n hx hb dX6_ofPerson_52 rfl (lv_at hl 0 rfl) ?_
      refine g_X6_96 X O hP (isPe_at g_2) dX6_ofPerson_53 ?_
      have h := some_i h
      subst h
      exact x_reti X hP hS hr hlk rfl rfl dX6_ofPerson_56
    · have h := ite_f c_3 h
      by_cases c_4 : v2 = 1
      · have h := ite_t c_4 h
        refine lv_tableIn (off := 39) (tgt := 57) hx hb dX6_ofPerson_18 (by rw [c_4]; decide) (by rw [c_4]; decide) (by rw [c_4]; rfl) (by decide) ?_
        refine lv_aload_n hx hb dX6_ofPerson_57 rfl (lv_at hl 0 rfl) ?_
        refine g_X6_99 X O hP (isPe_at g_2) dX6_ofPerson_58 ?_
        have h := some_i h
        subst h
        exact x_reti X hP hS hr hlk rfl rfl dX6_ofPerson_61
      · have h := ite_f c_4 h
        by_cases c_5 : v2 = 2
        · have h := ite_t c_5 h
          refine lv_tableIn (off := 44) (tgt := 62) hx hb dX6_ofPerson_18 (by rw [c_5]; decide) (by rw [c_5]; decide) (by rw [c_5]; rfl) (by decide) ?_
          refine lv_aload_n hx hb dX6_ofPerson_62 rfl (lv_at hl 0 rfl) ?_
          refine g_X6_102 X O hP (isPe_at g_2) dX6_ofPerson_63 ?_
          have h := some_i h
          subst h
          exact x_reti X hP hS hr hlk rfl rfl dX6_ofPerson_66
        · have h := ite_f c_5 h
          by_cases c_6 : v2 = 3
          · have h := ite_t c_6 h
            refine lv_tableIn (off := 49) (tgt := 67) hx hb dX6_ofPerson_18 (by rw [c_6]; decide) (by rw [c_6]; decide) (by rw [c_6]; rfl) (by decide) ?_
            refine lv_aload_n hx hb dX6_ofPerson_67 rfl (lv_at hl 0 rfl) ?_
            refine g_X6_105 X O hP (isPe_at g_2) dX6_ofPerson_68 ?_
            have h := some_i h
            subst h
            exact x_reti X hP hS hr hlk rfl rfl dX6_ofPerson_71
          · have h := ite_f c_6 h
            by_cases c_7 : v2 = 4
            · have h := ite_t c_7 h
              refine lv_tableIn (off := 54) (tgt := 72) hx hb dX6_ofPerson_18 (by rw [c_7]; decide) (by rw [c_7]; decide) (by rw [c_7]; rfl) (by decide) ?_
              refine lv_aload_n hx hb dX6_ofPerson_72 rfl (lv_at hl 0 rfl) ?_
              refine x_calli (x_runV X O hP hS hl.1 (As := []) (rest := []) (k_X3_lasts O (isPe_at g_2) σ0 rfl) (lt_X3 (isPe_at g_2)) (e_X3 (isPe_at g_2) _) rfl wM_X6_108 wI_yX3_lasts wS_yX3_lasts wN_X3 wC_yX3_lasts hd_X3_lasts rfl ⟨rfl, rfl⟩ ⟨(Nat.le_of_ble_eq_true rfl), (Nat.le_of_ble_eq_true rfl)⟩ ⟨Nat.zero_le _, Nat.zero_le _⟩ rfl (Nat.le_of_ble_eq_true rfl) dX6_ofPerson_73) hS (fun H locs hP hS => ?_)
              have h := some_i h
              subst h
              exact x_reti X hP hS hr hlk rfl rfl dX6_ofPerson_76
            · have h := ite_f c_7 h
              refine lv_tableOut (tgt := 77) hx hb dX6_ofPerson_18 (by have a0 := lv_neT c_3 (a := 0) rfl; have a1 := lv_neT c_4 (a := 1) rfl; have a2 := lv_neT c_5 (a := 2) rfl; have a3 := lv_neT c_6 (a := 3) rfl; have a4 := lv_neT c_7 (a := 4) rfl; omega) (by decide) ?_
              refine lv_bipush (v := (-2)) hx hb dX6_ofPerson_77 (by decide) ?_
              have h := some_i h
              subst h
              exact x_reti X hP hS hr hlk rfl rfl dX6_ofPerson_79
  · have h := ite_t c_1 h
    refine lv_iconst (v := (-1)) hx hb dX6_ofPerson_8 (by decide) ?_
    have h := some_i h
    subst h
    exact x_reti X hP hS hr hlk rfl rfl dX6_ofPerson_9
abbrev rm_X6_live : Room := { frames := 1, cells := 0, slots := 0, locals := 21 }
theorem hd_X6_live : yX6_live.cls ≠ "java/lang/invoke/MethodHandle" ∧ yX6_live.cls ≠ "java/lang/invoke/VarHandle" ∧ (parseMethodDescriptor yX6_live.desc).map (fun d => d.parameters.length) = some 2 := by decide +kernel
set_option maxHeartbeats 4000000 in
set_option maxRecDepth 100000 in
theorem k_X6_live {Θ : TH} {l : Launch} (O : okT Θ (eX Θ) 68) (v1 : Int32) (v2 : Int32) (σ0 : Mem) {y : Int32 × Mem} (h : X6_live v1 v2 σ0 = some y) : Met l yX6_live (Cond.code yX6_live cX6_live 4 (some .int) :: wAll) rm_X6_live (va_Pc [.ref (ta Θ 0), .int v1, .int v2] (tS Θ σ0)) (qI Θ y.1 y.2) 0 0 (tA Θ) := by
  refine x_ent (by decide) (Nat.le_of_ble_eq_true rfl) (fun p e s m below meth c X hr hlk hP ls hl => ?_)
  have hS : va_S (tA Θ) s.heap s.heap [] := va_S.rf
  have hl : lv_has ls 4 [(0, .ref (ta Θ 0)), (1, .int v1), (2, .int v2)] := hl
  have hx := X.1
  have hb := X.2.1
  unfold X6_live at h
  refine lv_aload_n hx hb dX6_live_0 rfl (lv_at hl 0 rfl) ?_
  refine lv_iload_n hx hb dX6_live_1 rfl (lv_at hl 1 rfl) ?_
  refine x_calli (x_runV X O hP hS hl.1 (As := [.int v1]) (rest := []) (k_X6_isPerson O v1 σ0 rfl) lt_X6 (e_X6 _) rfl wM_X6_93 wI_yX6_isPerson wS_yX6_isPerson wN_X6 wC_yX6_isPerson hd_X6_isPerson rfl ⟨rfl, rfl⟩ ⟨(Nat.le_of_ble_eq_true rfl), (Nat.le_of_ble_eq_true rfl)⟩ ⟨Nat.zero_le _, Nat.zero_le _⟩ rfl (Nat.le_of_ble_eq_true rfl) dX6_live_2) hS (fun H locs hP hS => ?_)
  refine lv_if_ne (tgt := 10) hx hb dX6_live_5 (by decide) (fun c_1 => ?_) (fun c_1 => ?_)
  · have h := ite_f c_1 h
    refine lv_iload_n hx hb dX6_live_10 rfl (lv_at hl 2 rfl) ?_
    refine lv_if_lt (tgt := 20) hx hb dX6_live_11 (by decide) (fun c_2 => ?_) (fun c_2 => ?_)
    · have h := ite_t c_2 h
      refine lv_bipush (v := (-2)) hx hb dX6_live_20 (by decide) ?_
      have h := some_i h
      subst h
      exact x_reti X hP hS hr hlk rfl rfl dX6_live_22
    · have h := ite_f c_2 h
      refine lv_iload_n hx hb dX6_live_14 rfl (lv_at hl 2 rfl) ?_
      refine lv_bipush (v := 64) hx hb dX6_live_15 (by decide) ?_
      refine lv_icmp_lt (tgt := 23) hx hb dX6_live_17 (by decide) (fun c_3 => ?_) (fun c_3 => ?_)
      · have h := ite_t c_3 h
        refine lv_aload_n hx hb dX6_live_23 rfl (lv_at hl 0 rfl) ?_
        refine g_X6_19 X O hP dX6_live_24 ?_
        refine lv_iload_n hx hb dX6_live_27 rfl (lv_at hl 1 rfl) ?_
        obtain ⟨g_4, h⟩ := grd_s h
        refine x_aald X O hP (k := 2) (n := 6) (t0 := 3) (C := "LentYouths$Person") (g := fun j => 22 + j) (by decide) rfl rfl g_4 dX6_live_28 ?_
        refine g_X6_99 X O hP (isPe_at g_4) dX6_live_29 ?_
        obtain ⟨v3_5, e_6, h⟩ := bnd_s h
        refine lv_nam e_6 ?_
        refine lv_istore_n (lv' := [(3, .int v3_5), (0, .ref (ta Θ 0)), (1, .int v1), (2, .int v2)]) hx hb dX6_live_32 rfl hl (by decide) rfl (fun ls hl => ?_)
        refine lv_aload_n hx hb dX6_live_33 rfl (lv_at hl 1 rfl) ?_
        refine g_X6_19 X O hP dX6_live_34 ?_
        refine lv_iload_n hx hb dX6_live_37 rfl (lv_at hl 2 rfl) ?_
        obtain ⟨g_7, h⟩ := grd_s h
        refine x_aald X O hP (k := 2) (n := 6) (t0 := 3) (C := "LentYouths$Person") (g := fun j => 22 + j) (by decide) rfl rfl g_7 dX6_live_38 ?_
        refine lv_iload_n hx hb dX6_live_39 rfl (lv_at hl 3 rfl) ?_
        obtain ⟨σ_8, e_9, h⟩ := bnd_s h
        refine p_X6_99 X O hP hS (isPe_at g_7) dX6_live_40 e_9 (fun H locs hP hS => ?_)
        refine lv_iload_n hx hb dX6_live_43 rfl (lv_at hl 0 rfl) ?_
        have h := some_i h
        subst h
        exact x_reti X hP hS hr hlk rfl rfl dX6_live_44
      · have h := ite_f c_3 h
        refine lv_bipush (v := (-2)) hx hb dX6_live_20 (by decide) ?_
        have h := some_i h
        subst h
        exact x_reti X hP hS hr hlk rfl rfl dX6_live_22
  · have h := ite_t c_1 h
    refine lv_iconst (v := (-1)) hx hb dX6_live_8 (by decide) ?_
    have h := some_i h
    subst h
    exact x_reti X hP hS hr hlk rfl rfl dX6_live_9
abbrev rm_X6_want : Room := { frames := 1, cells := 0, slots := 0, locals := 21 }
theorem hd_X6_want : yX6_want.cls ≠ "java/lang/invoke/MethodHandle" ∧ yX6_want.cls ≠ "java/lang/invoke/VarHandle" ∧ (parseMethodDescriptor yX6_want.desc).map (fun d => d.parameters.length) = some 2 := by decide +kernel
set_option maxHeartbeats 4000000 in
set_option maxRecDepth 100000 in
theorem k_X6_want {Θ : TH} {l : Launch} (O : okT Θ (eX Θ) 68) (v1 : Int32) (v2 : Int32) (σ0 : Mem) {y : Int32 × Mem} (h : X6_want v1 v2 σ0 = some y) : Met l yX6_want (Cond.code yX6_want cX6_want 4 (some .int) :: wAll) rm_X6_want (va_Pc [.ref (ta Θ 0), .int v1, .int v2] (tS Θ σ0)) (qI Θ y.1 y.2) 0 0 (tA Θ) := by
  refine x_ent (by decide) (Nat.le_of_ble_eq_true rfl) (fun p e s m below meth c X hr hlk hP ls hl => ?_)
  have hS : va_S (tA Θ) s.heap s.heap [] := va_S.rf
  have hl : lv_has ls 4 [(0, .ref (ta Θ 0)), (1, .int v1), (2, .int v2)] := hl
  have hx := X.1
  have hb := X.2.1
  unfold X6_want at h
  refine lv_aload_n hx hb dX6_want_0 rfl (lv_at hl 0 rfl) ?_
  refine lv_iload_n hx hb dX6_want_1 rfl (lv_at hl 1 rfl) ?_
  refine x_calli (x_runV X O hP hS hl.1 (As := [.int v1]) (rest := []) (k_X6_isPerson O v1 σ0 rfl) lt_X6 (e_X6 _) rfl wM_X6_93 wI_yX6_isPerson wS_yX6_isPerson wN_X6 wC_yX6_isPerson hd_X6_isPerson rfl ⟨rfl, rfl⟩ ⟨(Nat.le_of_ble_eq_true rfl), (Nat.le_of_ble_eq_true rfl)⟩ ⟨Nat.zero_le _, Nat.zero_le _⟩ rfl (Nat.le_of_ble_eq_true rfl) dX6_want_2) hS (fun H locs hP hS => ?_)
  refine lv_if_ne (tgt := 10) hx hb dX6_want_5 (by decide) (fun c_1 => ?_) (fun c_1 => ?_)
  · have h := ite_f c_1 h
    refine lv_iload_n hx hb dX6_want_10 rfl (lv_at hl 2 rfl) ?_
    refine lv_if_lt (tgt := 20) hx hb dX6_want_11 (by decide) (fun c_2 => ?_) (fun c_2 => ?_)
    · have h := ite_t c_2 h
      refine lv_bipush (v := (-2)) hx hb dX6_want_20 (by decide) ?_
      have h := some_i h
      subst h
      exact x_reti X hP hS hr hlk rfl rfl dX6_want_22
    · have h := ite_f c_2 h
      refine lv_iload_n hx hb dX6_want_14 rfl (lv_at hl 2 rfl) ?_
      refine lv_bipush (v := 6) hx hb dX6_want_15 (by decide) ?_
      refine lv_icmp_le (tgt := 23) hx hb dX6_want_17 (by decide) (fun c_3 => ?_) (fun c_3 => ?_)
      · have h := ite_t c_3 h
        refine lv_aload_n hx hb dX6_want_23 rfl (lv_at hl 0 rfl) ?_
        refine g_X6_19 X O hP dX6_want_24 ?_
        refine lv_iload_n hx hb dX6_want_27 rfl (lv_at hl 1 rfl) ?_
        obtain ⟨g_4, h⟩ := grd_s h
        refine x_aald X O hP (k := 2) (n := 6) (t0 := 3) (C := "LentYouths$Person") (g := fun j => 22 + j) (by decide) rfl rfl g_4 dX6_want_28 ?_
        refine g_X6_102 X O hP (isPe_at g_4) dX6_want_29 ?_
        obtain ⟨v3_5, e_6, h⟩ := bnd_s h
        refine lv_nam e_6 ?_
        refine lv_istore_n (lv' := [(3, .int v3_5), (0, .ref (ta Θ 0)), (1, .int v1), (2, .int v2)]) hx hb dX6_want_32 rfl hl (by decide) rfl (fun ls hl => ?_)
        refine lv_aload_n hx hb dX6_want_33 rfl (lv_at hl 1 rfl) ?_
        refine g_X6_19 X O hP dX6_want_34 ?_
        refine lv_iload_n hx hb dX6_want_37 rfl (lv_at hl 2 rfl) ?_
        obtain ⟨g_7, h⟩ := grd_s h
        refine x_aald X O hP (k := 2) (n := 6) (t0 := 3) (C := "LentYouths$Person") (g := fun j => 22 + j) (by decide) rfl rfl g_7 dX6_want_38 ?_
        refine lv_iload_n hx hb dX6_want_39 rfl (lv_at hl 3 rfl) ?_
        obtain ⟨σ_8, e_9, h⟩ := bnd_s h
        refine p_X6_102 X O hP hS (isPe_at g_7) dX6_want_40 e_9 (fun H locs hP hS => ?_)
        refine lv_iload_n hx hb dX6_want_43 rfl (lv_at hl 0 rfl) ?_
        have h := some_i h
        subst h
        exact x_reti X hP hS hr hlk rfl rfl dX6_want_44
      · have h := ite_f c_3 h
        refine lv_bipush (v := (-2)) hx hb dX6_want_20 (by decide) ?_
        have h := some_i h
        subst h
        exact x_reti X hP hS hr hlk rfl rfl dX6_want_22
  · have h := ite_t c_1 h
    refine lv_iconst (v := (-1)) hx hb dX6_want_8 (by decide) ?_
    have h := some_i h
    subst h
    exact x_reti X hP hS hr hlk rfl rfl dX6_want_9
abbrev rm_X6_isLoanCount : Room := { frames := 0, cells := 0, slots := 0, locals := 0 }
theorem hd_X6_isLoanCount : yX6_isLoanCount.cls ≠ "java/lang/invoke/MethodHandle" ∧ yX6_isLoanCount.cls ≠ "java/lang/invoke/VarHandle" ∧ (parseMethodDescriptor yX6_isLoanCount.desc).map (fun d => d.parameters.length) = some 1 := by decide +kernel
set_option maxHeartbeats 4000000 in
set_option maxRecDepth 100000 in
theorem k_X6_isLoanCount {Θ : TH} {l : Launch} (O : okT Θ (eX Θ) 68) (v0 : Int32) (σ0 : Mem) {y : Int32} (h : X6_isLoanCount v0 = y) : Met l yX6_isLoanCount (Cond.code yX6_isLoanCount cX6_isLoanCount 1 (some .boolean) :: wAll) rm_X6_isLoanCount (va_Pc [.int v0] (tS Θ σ0)) (qI Θ y σ0) 0 0 (tA Θ) := by
  refine x_ent (by decide) (Nat.le_of_ble_eq_true rfl) (fun p e s m below meth c X hr hlk hP ls hl => ?_)
  have hS : va_S (tA Θ) s.heap s.heap [] := va_S.rf
  have hl : lv_has ls 1 [(0, .int v0)] := hl
  have hx := X.1
  have hb := X.2.1
  unfold X6_isLoanCount at h
  refine lv_iload_n hx hb dX6_isLoanCount_0 rfl (lv_at hl 0 rfl) ?_
  refine lv_if_lt (tgt := 14) hx hb dX6_isLoanCount_1 (by decide) (fun c_1 => ?_) (fun c_1 => ?_)
  · have h := ite_t c_1 h
    refine lv_iconst (v := 0) hx hb dX6_isLoanCount_14 (by decide) ?_
    subst h
    exact x_retz X hP hS hr hlk (Or.inl rfl) rfl rfl dX6_isLoanCount_15
  · have h := ite_f c_1 h
    refine lv_iload_n hx hb dX6_isLoanCount_4 rfl (lv_at hl 0 rfl) ?_
    refine lv_bipush (v := 20) hx hb dX6_isLoanCount_5 (by decide) ?_
    refine lv_icmp_gt (tgt := 14) hx hb dX6_isLoanCount_7 (by decide) (fun c_2 => ?_) (fun c_2 => ?_)
    · have h := ite_t c_2 h
      refine lv_iconst (v := 0) hx hb dX6_isLoanCount_14 (by decide) ?_
      subst h
      exact x_retz X hP hS hr hlk (Or.inl rfl) rfl rfl dX6_isLoanCount_15
    · have h := ite_f c_2 h
      refine lv_iconst (v := 1) hx hb dX6_isLoanCount_10 (by decide) ?_
      refine lv_goto (tgt := 15) hx hb dX6_isLoanCount_11 (by decide) ?_
      subst h
      exact x_retz X hP hS hr hlk (Or.inr rfl) rfl rfl dX6_isLoanCount_15
abbrev rm_X6_isLoanQuestion : Room := { frames := 0, cells := 0, slots := 0, locals := 0 }
theorem hd_X6_isLoanQuestion : yX6_isLoanQuestion.cls ≠ "java/lang/invoke/MethodHandle" ∧ yX6_isLoanQuestion.cls ≠ "java/lang/invoke/VarHandle" ∧ (parseMethodDescriptor yX6_isLoanQuestion.desc).map (fun d => d.parameters.length) = some 1 := by decide +kernel
set_option maxHeartbeats 4000000 in
set_option maxRecDepth 100000 in
theorem k_X6_isLoanQuestion {Θ : TH} {l : Launch} (O : okT Θ (eX Θ) 68) (v0 : Int32) (σ0 : Mem) {y : Int32} (h : X6_isLoanQuestion v0 = y) : Met l yX6_isLoanQuestion (Cond.code yX6_isLoanQuestion cX6_isLoanQuestion 1 (some .boolean) :: wAll) rm_X6_isLoanQuestion (va_Pc [.int v0] (tS Θ σ0)) (qI Θ y σ0) 0 0 (tA Θ) := by
  refine x_ent (by decide) (Nat.le_of_ble_eq_true rfl) (fun p e s m below meth c X hr hlk hP ls hl => ?_)
  have hS : va_S (tA Θ) s.heap s.heap [] := va_S.rf
  have hl : lv_has ls 1 [(0, .int v0)] := hl
  have hx := X.1
  have hb := X.2.1
  unfold X6_isLoanQuestion at h
  refine lv_iload_n hx hb dX6_isLoanQuestion_0 rfl (lv_at hl 0 rfl) ?_
  refine lv_if_lt (tgt := 11) hx hb dX6_isLoanQuestion_1 (by decide) (fun c_1 => ?_) (fun c_1 => ?_)
  · have h := ite_t c_1 h
    refine lv_iload_n hx hb dX6_isLoanQuestion_11 rfl (lv_at hl 0 rfl) ?_
    refine lv_bipush (v := 10) hx hb dX6_isLoanQuestion_12 (by decide) ?_
    refine lv_icmp_lt (tgt := 36) hx hb dX6_isLoanQuestion_14 (by decide) (fun c_2 => ?_) (fun c_2 => ?_)
    · have h := ite_t c_2 h
      refine lv_iconst (v := 0) hx hb dX6_isLoanQuestion_36 (by decide) ?_
      subst h
      exact x_retz X hP hS hr hlk (Or.inl rfl) rfl rfl dX6_isLoanQuestion_37
    · have h := ite_f c_2 h
      refine lv_iload_n hx hb dX6_isLoanQuestion_17 rfl (lv_at hl 0 rfl) ?_
      refine lv_bipush (v := 40) hx hb dX6_isLoanQuestion_18 (by decide) ?_
      refine lv_icmp_ge (tgt := 36) hx hb dX6_isLoanQuestion_20 (by decide) (fun c_3 => ?_) (fun c_3 => ?_)
      · have h := ite_t c_3 h
        refine lv_iconst (v := 0) hx hb dX6_isLoanQuestion_36 (by decide) ?_
        subst h
        exact x_retz X hP hS hr hlk (Or.inl rfl) rfl rfl dX6_isLoanQuestion_37
      · have h := ite_f c_3 h
        refine lv_iload_n hx hb dX6_isLoanQuestion_23 rfl (lv_at hl 0 rfl) ?_
        refine lv_bipush (v := 10) hx hb dX6_isLoanQuestion_24 (by decide) ?_
        refine lv_irem hx hb dX6_isLoanQuestion_26 (by decide) ?_
        refine lv_bipush (v := 6) hx hb dX6_isLoanQuestion_27 (by decide) ?_
        refine lv_icmp_ge (tgt := 36) hx hb dX6_isLoanQuestion_29 (by decide) (fun c_4 => ?_) (fun c_4 => ?_)
        · have h := ite_t c_4 h
          refine lv_iconst (v := 0) hx hb dX6_isLoanQuestion_36 (by decide) ?_
          subst h
          exact x_retz X hP hS hr hlk (Or.inl rfl) rfl rfl dX6_isLoanQuestion_37
        · have h := ite_f c_4 h
          refine lv_iconst (v := 1) hx hb dX6_isLoanQuestion_32 (by decide) ?_
          refine lv_goto (tgt := 37) hx hb dX6_isLoanQuestion_33 (by decide) ?_
          subst h
          exact x_retz X hP hS hr hlk (Or.inr rfl) rfl rfl dX6_isLoanQuestion_37
  · have h := ite_f c_1 h
    refine lv_iload_n hx hb dX6_isLoanQuestion_4 rfl (lv_at hl 0 rfl) ?_
    refine lv_iconst (v := 3) hx hb dX6_isLoanQuestion_5 (by decide) ?_
    refine lv_icmp_gt (tgt := 11) hx hb dX6_isLoanQuestion_6 (by decide) (fun c_5 => ?_) (fun c_5 => ?_)
    · have h := ite_t c_5 h
      refine lv_iload_n hx hb dX6_isLoanQuestion_11 rfl (lv_at hl 0 rfl) ?_
      refine lv_bipush (v := 10) hx hb dX6_isLoanQuestion_12 (by decide) ?_
      refine lv_icmp_lt (tgt := 36) hx hb dX6_isLoanQuestion_14 (by decide) (fun c_6 => ?_) (fun c_6 => ?_)
      · have h := ite_t c_6 h
        refine lv_iconst (v := 0) hx hb dX6_isLoanQuestion_36 (by decide) ?_
        subst h
        exact x_retz X hP hS hr hlk (Or.inl rfl) rfl rfl dX6_isLoanQuestion_37
      · have h := ite_f c_6 h
        refine lv_iload_n hx hb dX6_isLoanQuestion_17 rfl (lv_at hl 0 rfl) ?_
        refine lv_bipush (v := 40) hx hb dX6_isLoanQuestion_18 (by decide) ?_
        refine lv_icmp_ge (tgt := 36) hx hb dX6_isLoanQuestion_20 (by decide) (fun c_7 => ?_) (fun c_7 => ?_)
        · have h := ite_t c_7 h
          refine lv_iconst (v := 0) hx hb dX6_isLoanQuestion_36 (by decide) ?_
          subst h
          exact x_retz X hP hS hr hlk (Or.inl rfl) rfl rfl dX6_isLoanQuestion_37
        · have h := ite_f c_7 h
          refine lv_iload_n hx hb dX6_isLoanQuestion_23 rfl (lv_at hl 0 rfl) ?_
          refine lv_bipush (v := 10) hx hb dX6_isLoanQuestion_24 (by decide) ?_
          refine lv_irem hx hb dX6_isLoanQuestion_26 (by decide) ?_
          refine lv_bipush (v := 6) hx hb dX6_isLoanQuestion_27 (by decide) ?_
          refine lv_icmp_ge (tgt := 36) hx hb dX6_isLoanQuestion_29 (by decide) (fun c_8 => ?_) (fun c_8 => ?_)
          · have h := ite_t c_8 h
            refine lv_iconst (v := 0) hx hb dX6_isLoanQuestion_36 (by decide) ?_
            subst h
            exact x_retz X hP hS hr hlk (Or.inl rfl) rfl rfl dX6_isLoanQuestion_37
          · have h := ite_f c_8 h
            refine lv_iconst (v := 1) hx hb dX6_isLoanQuestion_32 (by decide) ?_
            refine lv_goto (tgt := 37) hx hb dX6_isLoanQuestion_33 (by decide) ?_
            subst h
            exact x_retz X hP hS hr hlk (Or.inr rfl) rfl rfl dX6_isLoanQuestion_37
    · have h := ite_f c_5 h
      refine lv_iconst (v := 1) hx hb dX6_isLoanQuestion_9 (by decide) ?_
      subst h
      exact x_retz X hP hS hr hlk (Or.inr rfl) rfl rfl dX6_isLoanQuestion_10
abbrev rm_X6_takeRow : Room := { frames := 2, cells := 0, slots := 0, locals := 45 }
set_option maxHeartbeats 4000000 in
set_option maxRecDepth 100000 in
theorem w_X6_takeRow_L32 {F : Nat} {Θ : TH} {p : Program} {l : Launch} {e : Env} {s : State} {m : MethodId} {args : Array Value} {below : List Frame} {meth : Method} {c : Code} (X : CX Θ p s m args c RX6 cX6_takeRow 8) (O : okT Θ (eX Θ) 68) (hr : meth.sig.returnType = some .int) (hlk : meth.locks = false) (v1 : Int32) (v3 : Int32) (v4 : Int32) {y : Int32 × Mem} :
    ∀ (f : Nat) (v6 : Int32) (σ0 : Mem), X6_takeRow_L32 F v1 v3 v4 f v6 σ0 = some y → ∀ (H : Heap) (locs : List Loc) (ls : Array Slot), va_P (tD Θ) vwCl (tw Θ σ0) H → va_S (tA Θ) s.heap H locs → lv_has ls 8 [(0, .ref (ta Θ 0)), (1, .int v1), (3, .int v3), (4, .int v4), (6, .int v6)] → W p l e rm_X6_takeRow s m args below meth c H locs 0 0 (MQ below (qI Θ y.1 y.2) args s 0 0 (tA Θ)) (F0 m 32 ls []) := by
  have hx := X.1
  have hb := X.2.1
  intro f
  induction f with
  | zero => intro v6 σ0 h; cases h
  | succ f ih =>
    intro v6 σ0 h H locs ls hP hS hl
    rw [X6_takeRow_L32] at h
    refine lv_iload hx hb dX6_takeRow_32 (lv_at hl 4 rfl) ?_
    refine lv_iconst (v := 2) hx hb dX6_takeRow_34 (by decide) ?_
    refine lv_iload hx hb dX6_takeRow_35 (lv_at hl 3 rfl) ?_
    refine lv_imul hx hb dX6_takeRow_37 ?_
    refine lv_icmp_ge (tgt := 83) hx hb dX6_takeRow_38 (by decide) (fun c_5 => ?_) (fun c_5 => ?_)
    · have h := ite_t c_5 h
      refine lv_iconst (v := 0) hx hb dX6_takeRow_83 (by decide) ?_
      have h := some_i h
      subst h
      exact x_reti X hP hS hr hlk rfl rfl dX6_takeRow_84
    · have h := ite_f c_5 h
      refine lv_aload_n hx hb dX6_takeRow_41 rfl (lv_at hl 0 rfl) ?_
      refine g_X6_13 X O hP dX6_takeRow_42 ?_
      refine lv_iload_n hx hb dX6_takeRow_45 rfl (lv_at hl 1 rfl) ?_
      obtain ⟨g_6, h⟩ := grd_s h
      refine x_aald X O hP (k := 1) (n := 4) (t0 := 2) (C := "LentYouths$Sheet") (g := fun j => 14 + j) (by decide) rfl rfl g_6 dX6_takeRow_46 ?_
      refine g_X6_213 X O hP (isSh_at g_6) dX6_takeRow_47 ?_
      refine lv_iload_n hx hb dX6_takeRow_50 rfl (lv_at hl 2 rfl) ?_
      refine lv_iload hx hb dX6_takeRow_51 (lv_at hl 4 rfl) ?_
      refine lv_iadd hx hb dX6_takeRow_53 ?_
      obtain ⟨g_7, h⟩ := grd_s h
      refine x_iald X O hP (iI_X5 (isSh_at g_6)) g_7 dX6_takeRow_54 ?_
      obtain ⟨v7_8, e_9, h⟩ := bnd_s h
      refine lv_nam e_9 ?_
      refine lv_istore (lv' := [(7, .int v7_8), (0, .ref (ta Θ 0)), (1, .int v1), (3, .int v3), (4, .int v4), (6, .int v6)]) hx hb dX6_takeRow_55 hl (by decide) rfl (fun ls hl => ?_)
      refine lv_aload_n hx hb dX6_takeRow_57 rfl (lv_at hl 1 rfl) ?_
      refine lv_iload hx hb dX6_takeRow_58 (lv_at hl 0 rfl) ?_
      refine x_calli (x_runV X O hP hS hl.1 (As := [.int v7_8]) (rest := []) (k_X6_isPerson O v7_8 σ0 rfl) lt_X6 (e_X6 _) rfl wM_X6_93 wI_yX6_isPerson wS_yX6_isPerson wN_X6 wC_yX6_isPerson hd_X6_isPerson rfl ⟨rfl, rfl⟩ ⟨(Nat.le_of_ble_eq_true rfl), (Nat.le_of_ble_eq_true rfl)⟩ ⟨Nat.zero_le _, Nat.zero_le _⟩ rfl (Nat.le_of_ble_eq_true rfl) dX6_takeRow_60) hS (fun H locs hP hS => ?_)
      refine lv_if_ne (tgt := 68) hx hb dX6_takeRow_63 (by decide) (fun c_10 => ?_) (fun c_10 => ?_)
      · have h := ite_f c_10 h
        refine lv_aload_n hx hb dX6_takeRow_68 rfl (lv_at hl 1 rfl) ?_
        refine g_X6_51 X O hP dX6_takeRow_69 ?_
        refine lv_iload hx hb dX6_takeRow_72 (lv_at hl 5 rfl) ?_
        refine lv_iload hx hb dX6_takeRow_74 (lv_at hl 0 rfl) ?_
        obtain ⟨g_11, h⟩ := grd_s h
        obtain ⟨σ_12, e_13, h⟩ := bnd_s h
        refine x_iast X O hP hS iI_13 g_11 dX6_takeRow_76 e_13 (fun H locs hP hS => ?_)
        refine lv_iinc (v := v6 + 1) (lv' := [(6, .int (v6 + 1)), (7, .int v7_8), (0, .ref (ta Θ 0)), (1, .int v1), (3, .int v3), (4, .int v4)]) hx hb dX6_takeRow_77 hl (k := 5) rfl rfl (by decide) rfl (fun ls hl => ?_)
        refine lv_goto (tgt := 32) hx hb dX6_takeRow_80 (by decide) ?_
        exact ih (v6 + 1) σ_12 h _ _ _ hP hS (lv_sub hl [2, 3, 4, 5, 0] rfl)
      · have h := ite_t c_10 h
        refine lv_iconst (v := (-1)) hx hb dX6_takeRow_66 (by decide) ?_
        have h := some_i h
        subst h
        exact x_reti X hP hS hr hlk rfl rfl dX6_takeRow_67
theorem hd_X6_takeRow : yX6_takeRow.cls ≠ "java/lang/invoke/MethodHandle" ∧ yX6_takeRow.cls ≠ "java/lang/invoke/VarHandle" ∧ (parseMethodDescriptor yX6_takeRow.desc).map (fun d => d.parameters.length) = some 4 := by decide +kernel
set_option maxHeartbeats 4000000 in
set_option maxRecDepth 100000 in
theorem k_X6_takeRow {F : Nat} {Θ : TH} {l : Launch} (O : okT Θ (eX Θ) 68) (v1 : Int32) (v2 : Int32) (v3 : Int32) (v4 : Int32) (σ0 : Mem) {y : Int32 × Mem} (h : X6_takeRow F v1 v2 v3 v4 σ0 = some y) : Met l yX6_takeRow (Cond.code yX6_takeRow cX6_takeRow 8 (some .int) :: wAll) rm_X6_takeRow (va_Pc [.ref (ta Θ 0), .int v1, .int v2, .int v3, .int v4] (tS Θ σ0)) (qI Θ y.1 y.2) 0 0 (tA Θ) := by
  refine x_ent (by decide) (Nat.le_of_ble_eq_true rfl) (fun p e s m below meth c X hr hlk hP ls hl => ?_)
  have hS : va_S (tA Θ) s.heap s.heap [] := va_S.rf
  have hl : lv_has ls 8 [(0, .ref (ta Θ 0)), (1, .int v1), (2, .int v2), (3, .int v3), (4, .int v4)] := hl
  have hx := X.1
  have hb := X.2.1
  unfold X6_takeRow at h
  refine lv_aload_n hx hb dX6_takeRow_0 rfl (lv_at hl 0 rfl) ?_
  refine g_X6_13 X O hP dX6_takeRow_1 ?_
  refine lv_iload_n hx hb dX6_takeRow_4 rfl (lv_at hl 1 rfl) ?_
  obtain ⟨g_1, h⟩ := grd_s h
  refine x_aald X O hP (k := 1) (n := 4) (t0 := 2) (C := "LentYouths$Sheet") (g := fun j => 14 + j) (by decide) rfl rfl g_1 dX6_takeRow_5 ?_
  refine lv_iload_n hx hb dX6_takeRow_6 rfl (lv_at hl 2 rfl) ?_
  refine lv_iload_n hx hb dX6_takeRow_7 rfl (lv_at hl 3 rfl) ?_
  refine lv_iconst (v := 2) hx hb dX6_takeRow_8 (by decide) ?_
  refine lv_iload hx hb dX6_takeRow_9 (lv_at hl 4 rfl) ?_
  refine lv_imul hx hb dX6_takeRow_11 ?_
  refine x_calli (x_runV X O hP hS hl.1 (As := [.int v2, .int v3, .int ((2 : Int32) * v4)]) (rest := []) (k_X5_faultOfCells O (isSh_at g_1) v2 v3 ((2 : Int32) * v4) σ0 rfl) (lt_X5 (isSh_at g_1)) (e_X5 (isSh_at g_1) _) rfl wM_X6_74 wI_yX5_faultOfCells wS_yX5_faultOfCells wN_X5 wC_yX5_faultOfCells hd_X5_faultOfCells rfl ⟨rfl, rfl⟩ ⟨(Nat.le_of_ble_eq_true rfl), (Nat.le_of_ble_eq_true rfl)⟩ ⟨Nat.zero_le _, Nat.zero_le _⟩ rfl (Nat.le_of_ble_eq_true rfl) dX6_takeRow_12) hS (fun H locs hP hS => ?_)
  obtain ⟨v5_2, e_3, h⟩ := bnd_s h
  refine lv_nam e_3 ?_
  refine lv_istore (lv' := [(5, .int v5_2), (0, .ref (ta Θ 0)), (1, .int v1), (2, .int v2), (3, .int v3), (4, .int v4)]) hx hb dX6_takeRow_15 hl (by decide) rfl (fun ls hl => ?_)
  refine lv_iload hx hb dX6_takeRow_17 (lv_at hl 0 rfl) ?_
  refine lv_if_eq (tgt := 29) hx hb dX6_takeRow_19 (by decide) (fun c_4 => ?_) (fun c_4 => ?_)
  · have h := ite_t c_4 h
    refine lv_iconst (v := 0) hx hb dX6_takeRow_29 (by decide) ?_
    refine lv_istore (lv' := [(6, .int 0), (5, .int v5_2), (0, .ref (ta Θ 0)), (1, .int v1), (2, .int v2), (3, .int v3), (4, .int v4)]) hx hb dX6_takeRow_30 hl (by decide) rfl (fun ls hl => ?_)
    refine w_X6_takeRow_L32 X O hr hlk v1 v3 v4  _ (0 : Int32) σ0 h _ _ _ hP hS (lv_sub hl [2, 3, 5, 6, 0] rfl)
  · have h := ite_f c_4 h
    refine lv_aload_n hx hb dX6_takeRow_22 rfl (lv_at hl 1 rfl) ?_
    refine lv_iload hx hb dX6_takeRow_23 (lv_at hl 0 rfl) ?_
    obtain ⟨z_14, e_15, h⟩ := bnd_s h
    refine x_calli (x_runV X O hP hS hl.1 (As := [.int v5_2]) (rest := []) (k_X6_faultAnswer O v5_2 σ0 e_15.symm) lt_X6 (e_X6 _) rfl wM_X6_78 wI_yX6_faultAnswer wS_yX6_faultAnswer wN_X6 wC_yX6_faultAnswer hd_X6_faultAnswer rfl ⟨rfl, rfl⟩ ⟨(Nat.le_of_ble_eq_true rfl), (Nat.le_of_ble_eq_true rfl)⟩ ⟨Nat.zero_le _, Nat.zero_le _⟩ rfl (Nat.le_of_ble_eq_true rfl) dX6_takeRow_25) hS (fun H locs hP hS => ?_)
    have h := some_i h
    subst h
    exact x_reti X hP hS hr hlk rfl rfl dX6_takeRow_28
abbrev rm_X6_answerOfOne : Room := { frames := 1, cells := 0, slots := 0, locals := 21 }
theorem hd_X6_answerOfOne : yX6_answerOfOne.cls ≠ "java/lang/invoke/MethodHandle" ∧ yX6_answerOfOne.cls ≠ "java/lang/invoke/VarHandle" ∧ (parseMethodDescriptor yX6_answerOfOne.desc).map (fun d => d.parameters.length) = some 2 := by decide +kernel
set_option maxHeartbeats 4000000 in
set_option maxRecDepth 100000 in
theorem k_X6_answerOfOne {Θ : TH} {l : Launch} (O : okT Θ (eX Θ) 68) (v1 : Int32) (v2 : Int32) (σ0 : Mem) {y : Int32} (h : X6_answerOfOne v1 v2 σ0 = some y) : Met l yX6_answerOfOne (Cond.code yX6_answerOfOne cX6_answerOfOne 3 (some .int) :: wAll) rm_X6_answerOfOne (va_Pc [.ref (ta Θ 0), .int v1, .int v2] (tS Θ σ0)) (qI Θ y σ0) 0 0 (tA Θ) := by
  refine x_ent (by decide) (Nat.le_of_ble_eq_true rfl) (fun p e s m below meth c X hr hlk hP ls hl => ?_)
  have hS : va_S (tA Θ) s.heap s.heap [] := va_S.rf
  have hl : lv_has ls 3 [(0, .ref (ta Θ 0)), (1, .int v1), (2, .int v2)] := hl
  have hx := X.1
  have hb := X.2.1
  unfold X6_answerOfOne at h
  refine lv_aload_n hx hb dX6_answerOfOne_0 rfl (lv_at hl 0 rfl) ?_
  refine lv_iload_n hx hb dX6_answerOfOne_1 rfl (lv_at hl 2 rfl) ?_
  refine x_calli (x_runV X O hP hS hl.1 (As := [.int v2]) (rest := []) (k_X6_isPerson O v2 σ0 rfl) lt_X6 (e_X6 _) rfl wM_X6_93 wI_yX6_isPerson wS_yX6_isPerson wN_X6 wC_yX6_isPerson hd_X6_isPerson rfl ⟨rfl, rfl⟩ ⟨(Nat.le_of_ble_eq_true rfl), (Nat.le_of_ble_eq_true rfl)⟩ ⟨Nat.zero_le _, Nat.zero_le _⟩ rfl (Nat.le_of_ble_eq_true rfl) dX6_answerOfOne_2) hS (fun H locs hP hS => ?_)
  refine lv_if_ne (tgt := 11) hx hb dX6_answerOfOne_5 (by decide) (fun c_1 => ?_) (fun c_1 => ?_)
  · have h := ite_f c_1 h
    refine lv_iload_n hx hb dX6_answerOfOne_11 rfl (lv_at hl 1 rfl) ?_
    by_cases c_2 : v1 = 1
    · have h := ite_t c_2 h
      refine lv_lookup (off := 28) (tgt := 40) hx hb dX6_answerOfOne_12 (by decide) (by rw [c_2]; rfl) (by decide) ?_
      refine lv_aload_n hx hb dX6_answerOfOne_40 rfl (lv_at hl 0 rfl) ?_
      refine g_X6_33 X O hP dX6_answerOfOne_41 ?_
      refine g_X6_146 X O hP isEx_28 dX6_answerOfOne_44 ?_
      refine lv_iload_n hx hb dX6_answerOfOne_47 rfl (lv_at hl 2 rfl) ?_
      obtain ⟨g_4, h⟩ := grd_s h
      refine x_iald X O hP (iI_X0_4 isEx_28) g_4 dX6_answerOfOne_48 ?_
      have h := some_i h
      subst h
      exact x_reti X hP hS hr hlk rfl rfl dX6_answerOfOne_49
    · have h := ite_f c_2 h
      by_cases c_3 : v1 = 2
      · have h := ite_t c_3 h
        refine lv_lookup (off := 38) (tgt := 50) hx hb dX6_answerOfOne_12 (by decide) (by rw [c_3]; rfl) (by decide) ?_
        refine lv_aload_n hx hb dX6_answerOfOne_50 rfl (lv_at hl 0 rfl) ?_
        refine g_X6_33 X O hP dX6_answerOfOne_51 ?_
        refine g_X6_149 X O hP isEx_28 dX6_answerOfOne_54 ?_
        refine lv_iload_n hx hb dX6_answerOfOne_57 rfl (lv_at hl 2 rfl) ?_
        obtain ⟨g_5, h⟩ := grd_s h
        refine x_iald X O hP (iI_X0_5 isEx_28) g_5 dX6_answerOfOne_58 ?_
        have h := some_i h
        subst h
        exact x_reti X hP hS hr hlk rfl rfl dX6_answerOfOne_59
      · have h := ite_f c_3 h
        refine lv_lookup (off := 48) (tgt := 60) hx hb dX6_answerOfOne_12 (by decide) (by show Op.lookupswitch.offset [(1, 28), (2, 38)] 48 _ = 48; rw [lv_osw (a := 1) c_2 (by decide), lv_osw (a := 2) c_3 (by decide)]; rfl) (by decide) ?_
        refine lv_aload_n hx hb dX6_answerOfOne_60 rfl (lv_at hl 0 rfl) ?_
        refine g_X6_33 X O hP dX6_answerOfOne_61 ?_
        refine g_X6_152 X O hP isEx_28 dX6_answerOfOne_64 ?_
        refine lv_iload_n hx hb dX6_answerOfOne_67 rfl (lv_at hl 2 rfl) ?_
        obtain ⟨g_6, h⟩ := grd_s h
        refine x_iald X O hP (iI_X0_1 isEx_28) g_6 dX6_answerOfOne_68 ?_
        have h := some_i h
        subst h
        exact x_reti X hP hS hr hlk rfl rfl dX6_answerOfOne_69
  · have h := ite_t c_1 h
    refine lv_bipush (v := (-9)) hx hb dX6_answerOfOne_8 (by decide) ?_
    have h := some_i h
    subst h
    exact x_reti X hP hS hr hlk rfl rfl dX6_answerOfOne_10
abbrev rm_X6_answerOfLoans : Room := { frames := 4, cells := 0, slots := 0, locals := 87 }
theorem hd_X6_answerOfLoans : yX6_answerOfLoans.cls ≠ "java/lang/invoke/MethodHandle" ∧ yX6_answerOfLoans.cls ≠ "java/lang/invoke/VarHandle" ∧ (parseMethodDescriptor yX6_answerOfLoans.desc).map (fun d => d.parameters.length) = some 2 := by decide +kernel
set_option maxHeartbeats 4000000 in
set_option maxRecDepth 100000 in
theorem k_X6_answerOfLoans {F : Nat} {Θ : TH} {l : Launch} (O : okT Θ (eX Θ) 68) (v1 : Int32) (v2 : Int32) (σ0 : Mem) {y : Int32 × Mem} (h : X6_answerOfLoans F v1 v2 σ0 = some y) : Met l yX6_answerOfLoans (Cond.code yX6_answerOfLoans cX6_answerOfLoans 3 (some .int) :: wAll) rm_X6_answerOfLoans (va_Pc [.ref (ta Θ 0), .int v1, .int v2] (tS Θ σ0)) (qI Θ y.1 y.2) 0 0 (tA Θ) := by
  refine x_ent (by decide) (Nat.le_of_ble_eq_true rfl) (fun p e s m below meth c X hr hlk hP ls hl => ?_)
  have hS : va_S (tA Θ) s.heap s.heap [] := va_S.rf
  have hl : lv_has ls 3 [(0, .ref (ta Θ 0)), (1, .int v1), (2, .int v2)] := hl
  have hx := X.1
  have hb := X.2.1
  unfold X6_answerOfLoans at h
  refine lv_iload_n hx hb dX6_answerOfLoans_0 rfl (lv_at hl 2 rfl) ?_
  by_cases c_1 : v2 = 0
  · have h := ite_t c_1 h
    refine lv_tableIn (off := 31) (tgt := 32) hx hb dX6_answerOfLoans_1 (by rw [c_1]; decide) (by rw [c_1]; decide) (by rw [c_1]; rfl) (by decide) ?_
    refine lv_aload_n hx hb dX6_answerOfLoans_32 rfl (lv_at hl 0 rfl) ?_
    refine g_X6_33 X O hP dX6_answerOfLoans_33 ?_
    obtain ⟨z_5, e_6, h⟩ := ob_s h
    refine x_calli (x_runV X O hP hS hl.1 (As := []) (rest := []) (k_X0_mended O isEx_28 σ0 e_6) (lt_X0 isEx_28) (e_X0 isEx_28 _) rfl wM_X6_134 wI_yX0_mended wS_yX0_mended wN_X0 wC_yX0_mended hd_X0_mended rfl ⟨rfl, rfl⟩ ⟨(Nat.le_of_ble_eq_true rfl), (Nat.le_of_ble_eq_true rfl)⟩ ⟨Nat.zero_le _, Nat.zero_le _⟩ rfl (Nat.le_of_ble_eq_true rfl) dX6_answerOfLoans_36) hS (fun H locs hP hS => ?_)
    have h := some_i h
    subst h
    exact x_reti X hP hS hr hlk rfl rfl dX6_answerOfLoans_39
  · have h := ite_f c_1 h
    by_cases c_2 : v2 = 1
    · have h := ite_t c_2 h
      refine lv_tableIn (off := 75) (tgt := 76) hx hb dX6_answerOfLoans_1 (by rw [c_2]; decide) (by rw [c_2]; decide) (by rw [c_2]; rfl) (by decide) ?_
      refine lv_aload_n hx hb dX6_answerOfLoans_76 rfl (lv_at hl 0 rfl) ?_
      refine lv_iload_n hx hb dX6_answerOfLoans_77 rfl (lv_at hl 2 rfl) ?_
      refine lv_bipush (v := 10) hx hb dX6_answerOfLoans_78 (by decide) ?_
      refine lv_idiv hx hb dX6_answerOfLoans_80 (by decide) ?_
      refine lv_iload_n hx hb dX6_answerOfLoans_81 rfl (lv_at hl 2 rfl) ?_
      refine lv_bipush (v := 10) hx hb dX6_answerOfLoans_82 (by decide) ?_
      refine lv_irem hx hb dX6_answerOfLoans_84 (by decide) ?_
      obtain ⟨z_7, e_8, h⟩ := ob_s h
      refine x_calli (x_runV X O hP hS hl.1 (As := [.int (v2 / 10), .int (v2 - v2 / 10 * 10)]) (rest := []) (k_X6_answerOfOne O (v2 / 10) (v2 - v2 / 10 * 10) σ0 e_8) lt_X6 (e_X6 _) rfl wM_X6_143 wI_yX6_answerOfOne wS_yX6_answerOfOne wN_X6 wC_yX6_answerOfOne hd_X6_answerOfOne rfl ⟨rfl, rfl⟩ ⟨(Nat.le_of_ble_eq_true rfl), (Nat.le_of_ble_eq_true rfl)⟩ ⟨Nat.zero_le _, Nat.zero_le _⟩ rfl (Nat.le_of_ble_eq_true rfl) dX6_answerOfLoans_85) hS (fun H locs hP hS => ?_)
      have h := some_i h
      subst h
      exact x_reti X hP hS hr hlk rfl rfl dX6_answerOfLoans_88
    · have h := ite_f c_2 h
      by_cases c_3 : v2 = 2
      · have h := ite_t c_3 h
        refine lv_tableIn (off := 39) (tgt := 40) hx hb dX6_answerOfLoans_1 (by rw [c_3]; decide) (by rw [c_3]; decide) (by rw [c_3]; rfl) (by decide) ?_
        refine lv_aload_n hx hb dX6_answerOfLoans_40 rfl (lv_at hl 0 rfl) ?_
        refine g_X6_33 X O hP dX6_answerOfLoans_41 ?_
        refine lv_aload_n hx hb dX6_answerOfLoans_44 rfl (lv_at hl 0 rfl) ?_
        refine g_X6_19 X O hP dX6_answerOfLoans_45 ?_
        refine lv_aload_n hx hb dX6_answerOfLoans_48 rfl (lv_at hl 0 rfl) ?_
        refine g_X6_55 X O hP dX6_answerOfLoans_49 ?_
        obtain ⟨σ_9, e_10, h⟩ := ob_s h
        refine x_callv (x_runV X O hP hS hl.1 (As := [.ref (ta Θ 2), .int (σ0 0 7)]) (rest := []) (k_X0_begin O isEx_28 (σ0 0 7) σ0 e_10) (lt_X0 isEx_28) (e_X0 isEx_28 _) rfl wM_X6_122 wI_yX0_begin wS_yX0_begin wN_X0 wC_yX0_begin hd_X0_begin rfl ⟨rfl, rfl⟩ ⟨(Nat.le_of_ble_eq_true rfl), (Nat.le_of_ble_eq_true rfl)⟩ ⟨Nat.zero_le _, Nat.zero_le _⟩ rfl (Nat.le_of_ble_eq_true rfl) dX6_answerOfLoans_52) hS (fun H locs hP hS => ?_)
        refine lv_aload_n hx hb dX6_answerOfLoans_55 rfl (lv_at hl 0 rfl) ?_
        refine g_X6_33 X O hP dX6_answerOfLoans_56 ?_
        refine lv_aload_n hx hb dX6_answerOfLoans_59 rfl (lv_at hl 0 rfl) ?_
        refine g_X6_51 X O hP dX6_answerOfLoans_60 ?_
        refine lv_iload_n hx hb dX6_answerOfLoans_63 rfl (lv_at hl 1 rfl) ?_
        obtain ⟨z_11, e_12, h⟩ := ob_s h
        refine x_calli (x_runV X O hP hS hl.1 (As := [.ref (ta Θ 13), .int v1]) (rest := []) (k_X0_firstThatMendsAll O isEx_28 v1 σ_9 e_12) (lt_X0 isEx_28) (e_X0 isEx_28 _) rfl wM_X6_137 wI_yX0_firstThatMendsAll wS_yX0_firstThatMendsAll wN_X0 wC_yX0_firstThatMendsAll hd_X0_firstThatMendsAll rfl ⟨rfl, rfl⟩ ⟨(Nat.le_of_ble_eq_true rfl), (Nat.le_of_ble_eq_true rfl)⟩ ⟨Nat.zero_le _, Nat.zero_le _⟩ rfl (Nat.le_of_ble_eq_true rfl) dX6_answerOfLoans_64) hS (fun H locs hP hS => ?_)
        have h := some_i h
        subst h
        exact x_reti X hP hS hr hlk rfl rfl dX6_answerOfLoans_67
      · have h := ite_f c_3 h
        by_cases c_4 : v2 = 3
        · have h := ite_t c_4 h
          refine lv_tableIn (off := 67) (tgt := 68) hx hb dX6_answerOfLoans_1 (by rw [c_4]; decide) (by rw [c_4]; decide) (by rw [c_4]; rfl) (by decide) ?_
          refine lv_aload_n hx hb dX6_answerOfLoans_68 rfl (lv_at hl 0 rfl) ?_
          refine g_X6_33 X O hP dX6_answerOfLoans_69 ?_
          obtain ⟨z_13, e_14, h⟩ := ob_s h
          refine x_calli (x_runV X O hP hS hl.1 (As := []) (rest := []) (k_X0_loansHome O isEx_28 σ0 e_14) (lt_X0 isEx_28) (e_X0 isEx_28 _) rfl wM_X6_140 wI_yX0_loansHome wS_yX0_loansHome wN_X0 wC_yX0_loansHome hd_X0_loansHome rfl ⟨rfl, rfl⟩ ⟨(Nat.le_of_ble_eq_true rfl), (Nat.le_of_ble_eq_true rfl)⟩ ⟨Nat.zero_le _, Nat.zero_le _⟩ rfl (Nat.le_of_ble_eq_true rfl) dX6_answerOfLoans_72) hS (fun H locs hP hS => ?_)
          have h := some_i h
          subst h
          exact x_reti X hP hS hr hlk rfl rfl dX6_answerOfLoans_75
        · have h := ite_f c_4 h
          refine lv_tableOut (tgt := 76) hx hb dX6_answerOfLoans_1 (by have a0 := lv_neT c_1 (a := 0) rfl; have a1 := lv_neT c_2 (a := 1) rfl; have a2 := lv_neT c_3 (a := 2) rfl; have a3 := lv_neT c_4 (a := 3) rfl; omega) (by decide) ?_
          refine lv_aload_n hx hb dX6_answerOfLoans_76 rfl (lv_at hl 0 rfl) ?_
          refine lv_iload_n hx hb dX6_answerOfLoans_77 rfl (lv_at hl 2 rfl) ?_
          refine lv_bipush (v := 10) hx hb dX6_answerOfLoans_78 (by decide) ?_
          refine lv_idiv hx hb dX6_answerOfLoans_80 (by decide) ?_
          refine lv_iload_n hx hb dX6_answerOfLoans_81 rfl (lv_at hl 2 rfl) ?_
          refine lv_bipush (v := 10) hx hb dX6_answerOfLoans_82 (by decide) ?_
          refine lv_irem hx hb dX6_answerOfLoans_84 (by decide) ?_
          obtain ⟨z_15, e_16, h⟩ := ob_s h
          refine x_calli (x_runV X O hP hS hl.1 (As := [.int (v2 / 10), .int (v2 - v2 / 10 * 10)]) (rest := []) (k_X6_answerOfOne O (v2 / 10) (v2 - v2 / 10 * 10) σ0 e_16) lt_X6 (e_X6 _) rfl wM_X6_143 wI_yX6_answerOfOne wS_yX6_answerOfOne wN_X6 wC_yX6_answerOfOne hd_X6_answerOfOne rfl ⟨rfl, rfl⟩ ⟨(Nat.le_of_ble_eq_true rfl), (Nat.le_of_ble_eq_true rfl)⟩ ⟨Nat.zero_le _, Nat.zero_le _⟩ rfl (Nat.le_of_ble_eq_true rfl) dX6_answerOfLoans_85) hS (fun H locs hP hS => ?_)
          have h := some_i h
          subst h
          exact x_reti X hP hS hr hlk rfl rfl dX6_answerOfLoans_88
abbrev rm_X6_loans : Room := { frames := 5, cells := 0, slots := 0, locals := 109 }
theorem hd_X6_loans : yX6_loans.cls ≠ "java/lang/invoke/MethodHandle" ∧ yX6_loans.cls ≠ "java/lang/invoke/VarHandle" ∧ (parseMethodDescriptor yX6_loans.desc).map (fun d => d.parameters.length) = some 5 := by decide +kernel
set_option maxHeartbeats 4000000 in
set_option maxRecDepth 100000 in
theorem k_X6_loans {F : Nat} {Θ : TH} {l : Launch} (O : okT Θ (eX Θ) 68) (v1 : Int32) (v2 : Int32) (v3 : Int32) (v4 : Int32) (v5 : Int32) (σ0 : Mem) {y : Int32 × Mem} (h : X6_loans F v1 v2 v3 v4 v5 σ0 = some y) : Met l yX6_loans (Cond.code yX6_loans cX6_loans 8 (some .int) :: wAll) rm_X6_loans (va_Pc [.ref (ta Θ 0), .int v1, .int v2, .int v3, .int v4, .int v5] (tS Θ σ0)) (qI Θ y.1 y.2) 0 0 (tA Θ) := by
  refine x_ent (by decide) (Nat.le_of_ble_eq_true rfl) (fun p e s m below meth c X hr hlk hP ls hl => ?_)
  have hS : va_S (tA Θ) s.heap s.heap [] := va_S.rf
  have hl : lv_has ls 8 [(0, .ref (ta Θ 0)), (1, .int v1), (2, .int v2), (3, .int v3), (4, .int v4), (5, .int v5)] := hl
  have hx := X.1
  have hb := X.2.1
  unfold X6_loans at h
  refine lv_aload_n hx hb dX6_loans_0 rfl (lv_at hl 0 rfl) ?_
  refine lv_iconst (v := 0) hx hb dX6_loans_1 (by decide) ?_
  obtain ⟨σ_1, e_2, h⟩ := bnd_s h
  refine p_X6_62 X O hP hS dX6_loans_2 e_2 (fun H locs hP hS => ?_)
  refine lv_iload_n hx hb dX6_loans_5 rfl (lv_at hl 1 rfl) ?_
  refine x_calli (x_runS X hP hS hl.1 (As := [.int v1]) (rest := []) (k_X6_isSheet O v1 σ_1 rfl) wM_X6_67 wT_yX6_isSheet wN_X6 wC_yX6_isSheet hd_X6_isSheet rfl ⟨rfl, rfl⟩ ⟨(Nat.le_of_ble_eq_true rfl), (Nat.le_of_ble_eq_true rfl)⟩ ⟨Nat.zero_le _, Nat.zero_le _⟩ rfl (Nat.le_of_ble_eq_true rfl) dX6_loans_6) hS (fun H locs hP hS => ?_)
  refine lv_if_ne (tgt := 14) hx hb dX6_loans_9 (by decide) (fun c_3 => ?_) (fun c_3 => ?_)
  · have h := ite_f c_3 h
    refine lv_iload_n hx hb dX6_loans_14 rfl (lv_at hl 2 rfl) ?_
    refine x_calli (x_runS X hP hS hl.1 (As := [.int v2]) (rest := []) (k_X6_isLane O v2 σ_1 rfl) wM_X6_71 wT_yX6_isLane wN_X6 wC_yX6_isLane hd_X6_isLane rfl ⟨rfl, rfl⟩ ⟨(Nat.le_of_ble_eq_true rfl), (Nat.le_of_ble_eq_true rfl)⟩ ⟨Nat.zero_le _, Nat.zero_le _⟩ rfl (Nat.le_of_ble_eq_true rfl) dX6_loans_15) hS (fun H locs hP hS => ?_)
    refine lv_if_eq (tgt := 37) hx hb dX6_loans_18 (by decide) (fun c_4 => ?_) (fun c_4 => ?_)
    · have h := ite_t c_4 h
      refine lv_bipush (v := (-2)) hx hb dX6_loans_37 (by decide) ?_
      have h := some_i h
      subst h
      exact x_reti X hP hS hr hlk rfl rfl dX6_loans_39
    · have h := ite_f c_4 h
      refine lv_iload hx hb dX6_loans_21 (lv_at hl 4 rfl) ?_
      refine x_calli (x_runS X hP hS hl.1 (As := [.int v4]) (rest := []) (k_X6_isLoanCount O v4 σ_1 rfl) wM_X6_112 wT_yX6_isLoanCount wN_X6 wC_yX6_isLoanCount hd_X6_isLoanCount rfl ⟨rfl, rfl⟩ ⟨(Nat.le_of_ble_eq_true rfl), (Nat.le_of_ble_eq_true rfl)⟩ ⟨Nat.zero_le _, Nat.zero_le _⟩ rfl (Nat.le_of_ble_eq_true rfl) dX6_loans_23) hS (fun H locs hP hS => ?_)
      refine lv_if_eq (tgt := 37) hx hb dX6_loans_26 (by decide) (fun c_5 => ?_) (fun c_5 => ?_)
      · have h := ite_t c_5 h
        refine lv_bipush (v := (-2)) hx hb dX6_loans_37 (by decide) ?_
        have h := some_i h
        subst h
        exact x_reti X hP hS hr hlk rfl rfl dX6_loans_39
      · have h := ite_f c_5 h
        refine lv_iload hx hb dX6_loans_29 (lv_at hl 5 rfl) ?_
        refine x_calli (x_runS X hP hS hl.1 (As := [.int v5]) (rest := []) (k_X6_isLoanQuestion O v5 σ_1 rfl) wM_X6_115 wT_yX6_isLoanQuestion wN_X6 wC_yX6_isLoanQuestion hd_X6_isLoanQuestion rfl ⟨rfl, rfl⟩ ⟨(Nat.le_of_ble_eq_true rfl), (Nat.le_of_ble_eq_true rfl)⟩ ⟨Nat.zero_le _, Nat.zero_le _⟩ rfl (Nat.le_of_ble_eq_true rfl) dX6_loans_31) hS (fun H locs hP hS => ?_)
        refine lv_if_ne (tgt := 40) hx hb dX6_loans_34 (by decide) (fun c_6 => ?_) (fun c_6 => ?_)
        · have h := ite_f c_6 h
          refine lv_aload_n hx hb dX6_loans_40 rfl (lv_at hl 0 rfl) ?_
          refine g_X6_55 X O hP dX6_loans_41 ?_
          refine lv_if_ne (tgt := 50) hx hb dX6_loans_44 (by decide) (fun c_7 => ?_) (fun c_7 => ?_)
          · have h := ite_f c_7 h
            refine lv_aload_n hx hb dX6_loans_50 rfl (lv_at hl 0 rfl) ?_
            refine lv_iload_n hx hb dX6_loans_51 rfl (lv_at hl 1 rfl) ?_
            refine lv_iload_n hx hb dX6_loans_52 rfl (lv_at hl 2 rfl) ?_
            refine lv_iload_n hx hb dX6_loans_53 rfl (lv_at hl 3 rfl) ?_
            refine lv_iload hx hb dX6_loans_54 (lv_at hl 4 rfl) ?_
            obtain ⟨z_8, e_9, h⟩ := ob_s h
            refine x_calli (x_runV X O hP hS hl.1 (As := [.int v1, .int v2, .int v3, .int v4]) (rest := []) (k_X6_takeRow O v1 v2 v3 v4 σ_1 e_9) lt_X6 (e_X6 _) rfl wM_X6_118 wI_yX6_takeRow wS_yX6_takeRow wN_X6 wC_yX6_takeRow hd_X6_takeRow rfl ⟨rfl, rfl⟩ ⟨(Nat.le_of_ble_eq_true rfl), (Nat.le_of_ble_eq_true rfl)⟩ ⟨Nat.zero_le _, Nat.zero_le _⟩ rfl (Nat.le_of_ble_eq_true rfl) dX6_loans_56) hS (fun H locs hP hS => ?_)
            refine lv_istore (lv' := [(6, .int z_8.1), (0, .ref (ta Θ 0)), (1, .int v1), (2, .int v2), (3, .int v3), (4, .int v4), (5, .int v5)]) hx hb dX6_loans_59 hl (by decide) rfl (fun ls hl => ?_)
            refine lv_iload hx hb dX6_loans_61 (lv_at hl 0 rfl) ?_
            refine lv_if_eq (tgt := 69) hx hb dX6_loans_63 (by decide) (fun c_10 => ?_) (fun c_10 => ?_)
            · have h := ite_t c_10 h
              refine lv_aload_n hx hb dX6_loans_69 rfl (lv_at hl 1 rfl) ?_
              refine g_X6_33 X O hP dX6_loans_70 ?_
              refine lv_aload_n hx hb dX6_loans_73 rfl (lv_at hl 1 rfl) ?_
              refine g_X6_19 X O hP dX6_loans_74 ?_
              refine lv_aload_n hx hb dX6_loans_77 rfl (lv_at hl 1 rfl) ?_
              refine g_X6_55 X O hP dX6_loans_78 ?_
              obtain ⟨σ_11, e_12, h⟩ := ob_s h
              refine x_callv (x_runV X O hP hS hl.1 (As := [.ref (ta Θ 2), .int (z_8.2 0 7)]) (rest := []) (k_X0_begin O isEx_28 (z_8.2 0 7) z_8.2 e_12) (lt_X0 isEx_28) (e_X0 isEx_28 _) rfl wM_X6_122 wI_yX0_begin wS_yX0_begin wN_X0 wC_yX0_begin hd_X0_begin rfl ⟨rfl, rfl⟩ ⟨(Nat.le_of_ble_eq_true rfl), (Nat.le_of_ble_eq_true rfl)⟩ ⟨Nat.zero_le _, Nat.zero_le _⟩ rfl (Nat.le_of_ble_eq_true rfl) dX6_loans_81) hS (fun H locs hP hS => ?_)
              refine lv_aload_n hx hb dX6_loans_84 rfl (lv_at hl 1 rfl) ?_
              refine g_X6_33 X O hP dX6_loans_85 ?_
              refine lv_aload_n hx hb dX6_loans_88 rfl (lv_at hl 1 rfl) ?_
              refine g_X6_51 X O hP dX6_loans_89 ?_
              refine lv_iload hx hb dX6_loans_92 (lv_at hl 5 rfl) ?_
              obtain ⟨z_13, e_14, h⟩ := ob_s h
              refine x_calli (x_runV X O hP hS hl.1 (As := [.ref (ta Θ 13), .int v4]) (rest := []) (k_X0_play O isEx_28 v4 σ_11 e_14) (lt_X0 isEx_28) (e_X0 isEx_28 _) rfl wM_X6_126 wI_yX0_play wS_yX0_play wN_X0 wC_yX0_play hd_X0_play rfl ⟨rfl, rfl⟩ ⟨(Nat.le_of_ble_eq_true rfl), (Nat.le_of_ble_eq_true rfl)⟩ ⟨Nat.zero_le _, Nat.zero_le _⟩ rfl (Nat.le_of_ble_eq_true rfl) dX6_loans_94) hS (fun H locs hP hS => ?_)
              refine lv_istore (lv' := [(7, .int z_13.1), (6, .int z_8.1), (0, .ref (ta Θ 0)), (1, .int v1), (2, .int v2), (3, .int v3), (4, .int v4), (5, .int v5)]) hx hb dX6_loans_97 hl (by decide) rfl (fun ls hl => ?_)
              refine lv_iload hx hb dX6_loans_99 (lv_at hl 7 rfl) ?_
              refine lv_iconst (v := 1) hx hb dX6_loans_101 (by decide) ?_
              refine lv_icmp_ne (tgt := 108) hx hb dX6_loans_102 (by decide) (fun c_15 => ?_) (fun c_15 => ?_)
              · have h := ite_f c_15 h
                refine lv_iload hx hb dX6_loans_108 (lv_at hl 0 rfl) ?_
                refine lv_bipush (v := (-9)) hx hb dX6_loans_110 (by decide) ?_
                refine lv_icmp_ne (tgt := 126) hx hb dX6_loans_112 (by decide) (fun c_16 => ?_) (fun c_16 => ?_)
                · have h := ite_f c_16 h
                  refine lv_bipush (v := (-100)) hx hb dX6_loans_126 (by decide) ?_
                  refine lv_iload hx hb dX6_loans_128 (lv_at hl 0 rfl) ?_
                  refine lv_isub hx hb dX6_loans_130 ?_
                  have h := some_i h
                  subst h
                  exact x_reti X hP hS hr hlk rfl rfl dX6_loans_131
                · have h := ite_t c_16 h
                  refine lv_aload_n hx hb dX6_loans_115 rfl (lv_at hl 2 rfl) ?_
                  refine lv_iload hx hb dX6_loans_116 (lv_at hl 6 rfl) ?_
                  refine lv_iload hx hb dX6_loans_118 (lv_at hl 7 rfl) ?_
                  obtain ⟨z_17, e_18, h⟩ := ob_s h
                  refine x_calli (x_runV X O hP hS hl.1 (As := [.int v4, .int v5]) (rest := []) (k_X6_answerOfLoans O v4 v5 z_13.2 e_18) lt_X6 (e_X6 _) rfl wM_X6_130 wI_yX6_answerOfLoans wS_yX6_answerOfLoans wN_X6 wC_yX6_answerOfLoans hd_X6_answerOfLoans rfl ⟨rfl, rfl⟩ ⟨(Nat.le_of_ble_eq_true rfl), (Nat.le_of_ble_eq_true rfl)⟩ ⟨Nat.zero_le _, Nat.zero_le _⟩ rfl (Nat.le_of_ble_eq_true rfl) dX6_loans_120) hS (fun H locs hP hS => ?_)
                  refine lv_goto (tgt := 131) hx hb dX6_loans_123 (by decide) ?_
                  have h := some_i h
                  subst h
                  exact x_reti X hP hS hr hlk rfl rfl dX6_loans_131
              · have h := ite_t c_15 h
                refine lv_iload hx hb dX6_loans_105 (lv_at hl 0 rfl) ?_
                have h := some_i h
                subst h
                exact x_reti X hP hS hr hlk rfl rfl dX6_loans_107
            · have h := ite_f c_10 h
              refine lv_iload hx hb dX6_loans_66 (lv_at hl 0 rfl) ?_
              have h := some_i h
              subst h
              exact x_reti X hP hS hr hlk rfl rfl dX6_loans_68
          · have h := ite_t c_7 h
            refine lv_bipush (v := (-3)) hx hb dX6_loans_47 (by decide) ?_
            have h := some_i h
            subst h
            exact x_reti X hP hS hr hlk rfl rfl dX6_loans_49
        · have h := ite_t c_6 h
          refine lv_bipush (v := (-2)) hx hb dX6_loans_37 (by decide) ?_
          have h := some_i h
          subst h
          exact x_reti X hP hS hr hlk rfl rfl dX6_loans_39
  · have h := ite_t c_3 h
    refine lv_iconst (v := (-1)) hx hb dX6_loans_12 (by decide) ?_
    have h := some_i h
    subst h
    exact x_reti X hP hS hr hlk rfl rfl dX6_loans_13
abbrev rm_X6_fewest : Room := { frames := 9, cells := 0, slots := 0, locals := 222 }
theorem hd_X6_fewest : yX6_fewest.cls ≠ "java/lang/invoke/MethodHandle" ∧ yX6_fewest.cls ≠ "java/lang/invoke/VarHandle" ∧ (parseMethodDescriptor yX6_fewest.desc).map (fun d => d.parameters.length) = some 2 := by decide +kernel
set_option maxHeartbeats 4000000 in
set_option maxRecDepth 100000 in
theorem k_X6_fewest {F : Nat} {Θ : TH} {l : Launch} (O : okT Θ (eX Θ) 68) (v1 : Int32) (v2 : Int32) (σ0 : Mem) {y : Int32 × Mem} (h : X6_fewest F v1 v2 σ0 = some y) : Met l yX6_fewest (Cond.code yX6_fewest cX6_fewest 4 (some .int) :: wAll) rm_X6_fewest (va_Pc [.ref (ta Θ 0), .int v1, .int v2] (tS Θ σ0)) (qI Θ y.1 y.2) 0 0 (tA Θ) := by
  refine x_ent (by decide) (Nat.le_of_ble_eq_true rfl) (fun p e s m below meth c X hr hlk hP ls hl => ?_)
  have hS : va_S (tA Θ) s.heap s.heap [] := va_S.rf
  have hl : lv_has ls 4 [(0, .ref (ta Θ 0)), (1, .int v1), (2, .int v2)] := hl
  have hx := X.1
  have hb := X.2.1
  unfold X6_fewest at h
  refine lv_aload_n hx hb dX6_fewest_0 rfl (lv_at hl 0 rfl) ?_
  refine g_X6_55 X O hP dX6_fewest_1 ?_
  refine lv_if_ne (tgt := 10) hx hb dX6_fewest_4 (by decide) (fun c_1 => ?_) (fun c_1 => ?_)
  · have h := ite_f c_1 h
    refine lv_iload_n hx hb dX6_fewest_10 rfl (lv_at hl 2 rfl) ?_
    refine lv_iconst (v := (-1)) hx hb dX6_fewest_11 (by decide) ?_
    refine lv_icmp_lt (tgt := 34) hx hb dX6_fewest_12 (by decide) (fun c_2 => ?_) (fun c_2 => ?_)
    · have h := ite_t c_2 h
      refine lv_bipush (v := (-2)) hx hb dX6_fewest_34 (by decide) ?_
      have h := some_i h
      subst h
      exact x_reti X hP hS hr hlk rfl rfl dX6_fewest_36
    · have h := ite_f c_2 h
      refine lv_iload_n hx hb dX6_fewest_15 rfl (lv_at hl 2 rfl) ?_
      refine lv_iconst (v := 3) hx hb dX6_fewest_16 (by decide) ?_
      refine lv_icmp_ge (tgt := 34) hx hb dX6_fewest_17 (by decide) (fun c_3 => ?_) (fun c_3 => ?_)
      · have h := ite_t c_3 h
        refine lv_bipush (v := (-2)) hx hb dX6_fewest_34 (by decide) ?_
        have h := some_i h
        subst h
        exact x_reti X hP hS hr hlk rfl rfl dX6_fewest_36
      · have h := ite_f c_3 h
        refine lv_iload_n hx hb dX6_fewest_20 rfl (lv_at hl 1 rfl) ?_
        refine lv_if_lt (tgt := 34) hx hb dX6_fewest_21 (by decide) (fun c_4 => ?_) (fun c_4 => ?_)
        · have h := ite_t c_4 h
          refine lv_bipush (v := (-2)) hx hb dX6_fewest_34 (by decide) ?_
          have h := some_i h
          subst h
          exact x_reti X hP hS hr hlk rfl rfl dX6_fewest_36
        · have h := ite_f c_4 h
          refine lv_iload_n hx hb dX6_fewest_24 rfl (lv_at hl 1 rfl) ?_
          refine lv_iconst (v := 1) hx hb dX6_fewest_25 (by decide) ?_
          refine lv_aload_n hx hb dX6_fewest_26 rfl (lv_at hl 0 rfl) ?_
          refine g_X6_55 X O hP dX6_fewest_27 ?_
          refine lv_ishl hx hb dX6_fewest_30 ?_
          refine lv_icmp_lt (tgt := 37) hx hb dX6_fewest_31 (by decide) (fun c_5 => ?_) (fun c_5 => ?_)
          · have h := ite_t c_5 h
            refine lv_aload_n hx hb dX6_fewest_37 rfl (lv_at hl 0 rfl) ?_
            refine g_X6_40 X O hP dX6_fewest_38 ?_
            refine lv_aload_n hx hb dX6_fewest_41 rfl (lv_at hl 0 rfl) ?_
            refine g_X6_19 X O hP dX6_fewest_42 ?_
            refine lv_aload_n hx hb dX6_fewest_45 rfl (lv_at hl 0 rfl) ?_
            refine g_X6_55 X O hP dX6_fewest_46 ?_
            refine lv_iload_n hx hb dX6_fewest_49 rfl (lv_at hl 1 rfl) ?_
            obtain ⟨z_6, e_7, h⟩ := ob_s h
            refine x_calli (x_runV X O hP hS hl.1 (As := [.ref (ta Θ 2), .int (σ0 0 7), .int v1]) (rest := []) (k_X1_find O (σ0 0 7) v1 σ0 e_7) lt_X1 (e_X1 _) rfl wM_X6_155 wI_yX1_find wS_yX1_find wN_X1 wC_yX1_find hd_X1_find rfl ⟨rfl, rfl⟩ ⟨(Nat.le_of_ble_eq_true rfl), (Nat.le_of_ble_eq_true rfl)⟩ ⟨Nat.zero_le _, Nat.zero_le _⟩ rfl (Nat.le_of_ble_eq_true rfl) dX6_fewest_50) hS (fun H locs hP hS => ?_)
            refine lv_istore_n (lv' := [(3, .int z_6.1), (0, .ref (ta Θ 0)), (1, .int v1), (2, .int v2)]) hx hb dX6_fewest_53 rfl hl (by decide) rfl (fun ls hl => ?_)
            refine lv_iload_n hx hb dX6_fewest_54 rfl (lv_at hl 3 rfl) ?_
            refine lv_iconst (v := (-1)) hx hb dX6_fewest_55 (by decide) ?_
            refine lv_icmp_ne (tgt := 61) hx hb dX6_fewest_56 (by decide) (fun c_8 => ?_) (fun c_8 => ?_)
            · have h := ite_f c_8 h
              refine lv_iload_n hx hb dX6_fewest_61 rfl (lv_at hl 3 rfl) ?_
              refine lv_iload_n hx hb dX6_fewest_62 rfl (lv_at hl 0 rfl) ?_
              refine lv_icmp_ge (tgt := 77) hx hb dX6_fewest_63 (by decide) (fun c_9 => ?_) (fun c_9 => ?_)
              · have h := ite_t c_9 h
                refine lv_bipush (v := (-9)) hx hb dX6_fewest_77 (by decide) ?_
                have h := some_i h
                subst h
                exact x_reti X hP hS hr hlk rfl rfl dX6_fewest_79
              · have h := ite_f c_9 h
                refine lv_aload_n hx hb dX6_fewest_66 rfl (lv_at hl 1 rfl) ?_
                refine g_X6_40 X O hP dX6_fewest_67 ?_
                refine lv_iload_n hx hb dX6_fewest_70 rfl (lv_at hl 3 rfl) ?_
                obtain ⟨z_10, e_11, h⟩ := ob_s h
                refine x_calli (x_runV X O hP hS hl.1 (As := [.int v2]) (rest := []) (k_X1_loanAt O v2 z_6.2 e_11) lt_X1 (e_X1 _) rfl wM_X6_159 wI_yX1_loanAt wS_yX1_loanAt wN_X1 wC_yX1_loanAt hd_X1_loanAt rfl ⟨rfl, rfl⟩ ⟨(Nat.le_of_ble_eq_true rfl), (Nat.le_of_ble_eq_true rfl)⟩ ⟨Nat.zero_le _, Nat.zero_le _⟩ rfl (Nat.le_of_ble_eq_true rfl) dX6_fewest_71) hS (fun H locs hP hS => ?_)
                refine lv_goto (tgt := 79) hx hb dX6_fewest_74 (by decide) ?_
                have h := some_i h
                subst h
                exact x_reti X hP hS hr hlk rfl rfl dX6_fewest_79
            · have h := ite_t c_8 h
              refine lv_iload_n hx hb dX6_fewest_59 rfl (lv_at hl 0 rfl) ?_
              have h := some_i h
              subst h
              exact x_reti X hP hS hr hlk rfl rfl dX6_fewest_60
          · have h := ite_f c_5 h
            refine lv_bipush (v := (-2)) hx hb dX6_fewest_34 (by decide) ?_
            have h := some_i h
            subst h
            exact x_reti X hP hS hr hlk rfl rfl dX6_fewest_36
  · have h := ite_t c_1 h
    refine lv_bipush (v := (-3)) hx hb dX6_fewest_7 (by decide) ?_
    have h := some_i h
    subst h
    exact x_reti X hP hS hr hlk rfl rfl dX6_fewest_9
abbrev rm_X6_match : Room := { frames := 5, cells := 0, slots := 0, locals := 115 }
theorem hd_X6_match : yX6_match.cls ≠ "java/lang/invoke/MethodHandle" ∧ yX6_match.cls ≠ "java/lang/invoke/VarHandle" ∧ (parseMethodDescriptor yX6_match.desc).map (fun d => d.parameters.length) = some 1 := by decide +kernel
set_option maxHeartbeats 4000000 in
set_option maxRecDepth 100000 in
theorem k_X6_match {F : Nat} {Θ : TH} {l : Launch} (O : okT Θ (eX Θ) 68) (v1 : Int32) (σ0 : Mem) {y : Int32 × Mem} (h : X6_match F v1 σ0 = some y) : Met l yX6_match (Cond.code yX6_match cX6_match 2 (some .int) :: wAll) rm_X6_match (va_Pc [.ref (ta Θ 0), .int v1] (tS Θ σ0)) (qI Θ y.1 y.2) 0 0 (tA Θ) := by
  refine x_ent (by decide) (Nat.le_of_ble_eq_true rfl) (fun p e s m below meth c X hr hlk hP ls hl => ?_)
  have hS : va_S (tA Θ) s.heap s.heap [] := va_S.rf
  have hl : lv_has ls 2 [(0, .ref (ta Θ 0)), (1, .int v1)] := hl
  have hx := X.1
  have hb := X.2.1
  unfold X6_match at h
  refine lv_iload_n hx hb dX6_match_0 rfl (lv_at hl 1 rfl) ?_
  refine lv_iconst (v := (-1)) hx hb dX6_match_1 (by decide) ?_
  refine lv_icmp_ge (tgt := 7) hx hb dX6_match_2 (by decide) (fun c_1 => ?_) (fun c_1 => ?_)
  · have h := ite_t c_1 h
    refine lv_aload_n hx hb dX6_match_7 rfl (lv_at hl 0 rfl) ?_
    refine g_X6_55 X O hP dX6_match_8 ?_
    refine lv_if_ne (tgt := 17) hx hb dX6_match_11 (by decide) (fun c_2 => ?_) (fun c_2 => ?_)
    · have h := ite_f c_2 h
      refine lv_aload_n hx hb dX6_match_17 rfl (lv_at hl 0 rfl) ?_
      refine g_X6_47 X O hP dX6_match_18 ?_
      refine lv_aload_n hx hb dX6_match_21 rfl (lv_at hl 0 rfl) ?_
      refine g_X6_19 X O hP dX6_match_22 ?_
      refine lv_aload_n hx hb dX6_match_25 rfl (lv_at hl 0 rfl) ?_
      refine g_X6_55 X O hP dX6_match_26 ?_
      obtain ⟨σ_3, e_4, h⟩ := ob_s h
      refine x_callv (x_runV X O hP hS hl.1 (As := [.ref (ta Θ 2), .int (σ0 0 7)]) (rest := []) (k_X2_make O (σ0 0 7) σ0 e_4) lt_X2 (e_X2 _) rfl wM_X6_162 wI_yX2_make wS_yX2_make wN_X2 wC_yX2_make hd_X2_make rfl ⟨rfl, rfl⟩ ⟨(Nat.le_of_ble_eq_true rfl), (Nat.le_of_ble_eq_true rfl)⟩ ⟨Nat.zero_le _, Nat.zero_le _⟩ rfl (Nat.le_of_ble_eq_true rfl) dX6_match_29) hS (fun H locs hP hS => ?_)
      refine lv_iload_n hx hb dX6_match_32 rfl (lv_at hl 1 rfl) ?_
      refine lv_iconst (v := (-1)) hx hb dX6_match_33 (by decide) ?_
      refine lv_icmp_ne (tgt := 45) hx hb dX6_match_34 (by decide) (fun c_5 => ?_) (fun c_5 => ?_)
      · have h := ite_f c_5 h
        refine lv_aload_n hx hb dX6_match_45 rfl (lv_at hl 0 rfl) ?_
        refine lv_iload_n hx hb dX6_match_46 rfl (lv_at hl 1 rfl) ?_
        refine x_calli (x_runV X O hP hS hl.1 (As := [.int v1]) (rest := []) (k_X6_isPerson O v1 σ_3 rfl) lt_X6 (e_X6 _) rfl wM_X6_93 wI_yX6_isPerson wS_yX6_isPerson wN_X6 wC_yX6_isPerson hd_X6_isPerson rfl ⟨rfl, rfl⟩ ⟨(Nat.le_of_ble_eq_true rfl), (Nat.le_of_ble_eq_true rfl)⟩ ⟨Nat.zero_le _, Nat.zero_le _⟩ rfl (Nat.le_of_ble_eq_true rfl) dX6_match_47) hS (fun H locs hP hS => ?_)
        refine lv_if_eq (tgt := 65) hx hb dX6_match_50 (by decide) (fun c_6 => ?_) (fun c_6 => ?_)
        · have h := ite_t c_6 h
          refine lv_bipush (v := (-9)) hx hb dX6_match_65 (by decide) ?_
          have h := some_i h
          subst h
          exact x_reti X hP hS hr hlk rfl rfl dX6_match_67
        · have h := ite_f c_6 h
          refine lv_aload_n hx hb dX6_match_53 rfl (lv_at hl 0 rfl) ?_
          refine g_X6_47 X O hP dX6_match_54 ?_
          refine g_X6_168 X O hP dX6_match_57 ?_
          refine lv_iload_n hx hb dX6_match_60 rfl (lv_at hl 1 rfl) ?_
          obtain ⟨g_7, h⟩ := grd_s h
          refine x_iald X O hP iI_12 g_7 dX6_match_61 ?_
          refine lv_goto (tgt := 67) hx hb dX6_match_62 (by decide) ?_
          have h := some_i h
          subst h
          exact x_reti X hP hS hr hlk rfl rfl dX6_match_67
      · have h := ite_t c_5 h
        refine lv_aload_n hx hb dX6_match_37 rfl (lv_at hl 0 rfl) ?_
        refine g_X6_47 X O hP dX6_match_38 ?_
        obtain ⟨z_8, e_9, h⟩ := ob_s h
        refine x_calli (x_runV X O hP hS hl.1 (As := []) (rest := []) (k_X2_mostMended O σ_3 e_9) lt_X2 (e_X2 _) rfl wM_X6_165 wI_yX2_mostMended wS_yX2_mostMended wN_X2 wC_yX2_mostMended hd_X2_mostMended rfl ⟨rfl, rfl⟩ ⟨(Nat.le_of_ble_eq_true rfl), (Nat.le_of_ble_eq_true rfl)⟩ ⟨Nat.zero_le _, Nat.zero_le _⟩ rfl (Nat.le_of_ble_eq_true rfl) dX6_match_41) hS (fun H locs hP hS => ?_)
        have h := some_i h
        subst h
        exact x_reti X hP hS hr hlk rfl rfl dX6_match_44
    · have h := ite_t c_2 h
      refine lv_bipush (v := (-3)) hx hb dX6_match_14 (by decide) ?_
      have h := some_i h
      subst h
      exact x_reti X hP hS hr hlk rfl rfl dX6_match_16
  · have h := ite_f c_1 h
    refine lv_iconst (v := (-1)) hx hb dX6_match_5 (by decide) ?_
    have h := some_i h
    subst h
    exact x_reti X hP hS hr hlk rfl rfl dX6_match_6
abbrev rm_X6_help : Room := { frames := 1, cells := 0, slots := 0, locals := 21 }
set_option maxHeartbeats 4000000 in
set_option maxRecDepth 100000 in
theorem w_X6_help_L14 {F : Nat} {Θ : TH} {p : Program} {l : Launch} {e : Env} {s : State} {m : MethodId} {args : Array Value} {below : List Frame} {meth : Method} {c : Code} (X : CX Θ p s m args c RX6 cX6_help 5) (O : okT Θ (eX Θ) 68) (hr : meth.sig.returnType = some .int) (hlk : meth.locks = false) (v1 : Int32) (σ0 : Mem) {y : Int32} :
    ∀ (f : Nat) (v2 : Int32) (v3 : Int32), X6_help_L14 F v1 σ0 f v2 v3 = some y → ∀ (H : Heap) (locs : List Loc) (ls : Array Slot), va_P (tD Θ) vwCl (tw Θ σ0) H → va_S (tA Θ) s.heap H locs → lv_has ls 5 [(0, .ref (ta Θ 0)), (1, .int v1), (2, .int v2), (3, .int v3)] → W p l e rm_X6_help s m args below meth c H locs 0 0 (MQ below (qI Θ y σ0) args s 0 0 (tA Θ)) (F0 m 14 ls []) := by
  have hx := X.1
  have hb := X.2.1
  intro f
  induction f with
  | zero => intro v2 v3 h; cases h
  | succ f ih =>
    intro v2 v3 h H locs ls hP hS hl
    rw [X6_help_L14] at h
    refine lv_iload_n hx hb dX6_help_14 rfl (lv_at hl 3 rfl) ?_
    refine lv_aload_n hx hb dX6_help_15 rfl (lv_at hl 0 rfl) ?_
    refine g_X6_55 X O hP dX6_help_16 ?_
    refine lv_icmp_ge (tgt := 69) hx hb dX6_help_19 (by decide) (fun c_2 => ?_) (fun c_2 => ?_)
    · have h := ite_t c_2 h
      refine lv_iload_n hx hb dX6_help_69 rfl (lv_at hl 2 rfl) ?_
      have h := some_i h
      subst h
      exact x_reti X hP hS hr hlk rfl rfl dX6_help_70
    · have h := ite_f c_2 h
      refine lv_aload_n hx hb dX6_help_22 rfl (lv_at hl 0 rfl) ?_
      refine g_X6_19 X O hP dX6_help_23 ?_
      refine lv_iload_n hx hb dX6_help_26 rfl (lv_at hl 3 rfl) ?_
      obtain ⟨g_3, h⟩ := grd_s h
      refine x_aald X O hP (k := 2) (n := 6) (t0 := 3) (C := "LentYouths$Person") (g := fun j => 22 + j) (by decide) rfl rfl g_3 dX6_help_27 ?_
      refine x_calli (x_runV X O hP hS hl.1 (As := []) (rest := []) (k_X3_wantedSet O (isPe_at g_3) σ0 rfl) (lt_X3 (isPe_at g_3)) (e_X3 (isPe_at g_3) _) rfl wM_X6_171 wI_yX3_wantedSet wS_yX3_wantedSet wN_X3 wC_yX3_wantedSet hd_X3_wantedSet rfl ⟨rfl, rfl⟩ ⟨(Nat.le_of_ble_eq_true rfl), (Nat.le_of_ble_eq_true rfl)⟩ ⟨Nat.zero_le _, Nat.zero_le _⟩ rfl (Nat.le_of_ble_eq_true rfl) dX6_help_28) hS (fun H locs hP hS => ?_)
      obtain ⟨v4_4, e_5, h⟩ := bnd_s h
      refine lv_nam e_5 ?_
      refine lv_istore (lv' := [(4, .int v4_4), (0, .ref (ta Θ 0)), (1, .int v1), (2, .int v2), (3, .int v3)]) hx hb dX6_help_31 hl (by decide) rfl (fun ls hl => ?_)
      refine lv_iload hx hb dX6_help_33 (lv_at hl 0 rfl) ?_
      refine lv_aload_n hx hb dX6_help_35 rfl (lv_at hl 1 rfl) ?_
      refine g_X6_19 X O hP dX6_help_36 ?_
      refine lv_iload_n hx hb dX6_help_39 rfl (lv_at hl 2 rfl) ?_
      obtain ⟨g_6, h⟩ := grd_s h
      refine x_aald X O hP (k := 2) (n := 6) (t0 := 3) (C := "LentYouths$Person") (g := fun j => 22 + j) (by decide) rfl rfl g_6 dX6_help_40 ?_
      refine g_X6_99 X O hP (isPe_at g_6) dX6_help_41 ?_
      refine lv_iand hx hb dX6_help_44 ?_
      refine lv_aload_n hx hb dX6_help_45 rfl (lv_at hl 1 rfl) ?_
      refine g_X6_19 X O hP dX6_help_46 ?_
      refine lv_iload_n hx hb dX6_help_49 rfl (lv_at hl 4 rfl) ?_
      obtain ⟨g_7, h⟩ := grd_s h
      refine x_aald X O hP (k := 2) (n := 6) (t0 := 3) (C := "LentYouths$Person") (g := fun j => 22 + j) (by decide) rfl rfl g_7 dX6_help_50 ?_
      refine g_X6_99 X O hP (isPe_at g_7) dX6_help_51 ?_
      refine lv_iconst (v := (-1)) hx hb dX6_help_54 (by decide) ?_
      refine lv_ixor hx hb dX6_help_55 ?_
      refine lv_iand hx hb dX6_help_56 ?_
      refine lv_if_eq (tgt := 63) hx hb dX6_help_57 (by decide) (fun c_8 => ?_) (fun c_8 => ?_)
      · have h := ite_t c_8 h
        refine lv_iinc (v := v3 + 1) (lv' := [(3, .int (v3 + 1)), (4, .int v4_4), (0, .ref (ta Θ 0)), (1, .int v1), (2, .int v2)]) hx hb dX6_help_63 hl (k := 4) rfl rfl (by decide) rfl (fun ls hl => ?_)
        refine lv_goto (tgt := 14) hx hb dX6_help_66 (by decide) ?_
        exact ih v2 (v3 + 1) h _ _ _ hP hS (lv_sub hl [2, 3, 4, 0] rfl)
      · have h := ite_f c_8 h
        refine lv_iinc (v := v2 + 1) (lv' := [(2, .int (v2 + 1)), (4, .int v4_4), (0, .ref (ta Θ 0)), (1, .int v1), (3, .int v3)]) hx hb dX6_help_60 hl (k := 3) rfl rfl (by decide) rfl (fun ls hl => ?_)
        refine lv_iinc (v := v3 + 1) (lv' := [(3, .int (v3 + 1)), (2, .int (v2 + 1)), (4, .int v4_4), (0, .ref (ta Θ 0)), (1, .int v1)]) hx hb dX6_help_63 hl (k := 4) rfl rfl (by decide) rfl (fun ls hl => ?_)
        refine lv_goto (tgt := 14) hx hb dX6_help_66 (by decide) ?_
        exact ih (v2 + 1) (v3 + 1) h _ _ _ hP hS (lv_sub hl [3, 4, 1, 0] rfl)
theorem hd_X6_help : yX6_help.cls ≠ "java/lang/invoke/MethodHandle" ∧ yX6_help.cls ≠ "java/lang/invoke/VarHandle" ∧ (parseMethodDescriptor yX6_help.desc).map (fun d => d.parameters.length) = some 1 := by decide +kernel
set_option maxHeartbeats 4000000 in
set_option maxRecDepth 100000 in
theorem k_X6_help {F : Nat} {Θ : TH} {l : Launch} (O : okT Θ (eX Θ) 68) (v1 : Int32) (σ0 : Mem) {y : Int32} (h : X6_help F v1 σ0 = some y) : Met l yX6_help (Cond.code yX6_help cX6_help 5 (some .int) :: wAll) rm_X6_help (va_Pc [.ref (ta Θ 0), .int v1] (tS Θ σ0)) (qI Θ y σ0) 0 0 (tA Θ) := by
  refine x_ent (by decide) (Nat.le_of_ble_eq_true rfl) (fun p e s m below meth c X hr hlk hP ls hl => ?_)
  have hS : va_S (tA Θ) s.heap s.heap [] := va_S.rf
  have hl : lv_has ls 5 [(0, .ref (ta Θ 0)), (1, .int v1)] := hl
  have hx := X.1
  have hb := X.2.1
  unfold X6_help at h
  refine lv_aload_n hx hb dX6_help_0 rfl (lv_at hl 0 rfl) ?_
  refine lv_iload_n hx hb dX6_help_1 rfl (lv_at hl 1 rfl) ?_
  refine x_calli (x_runV X O hP hS hl.1 (As := [.int v1]) (rest := []) (k_X6_isPerson O v1 σ0 rfl) lt_X6 (e_X6 _) rfl wM_X6_93 wI_yX6_isPerson wS_yX6_isPerson wN_X6 wC_yX6_isPerson hd_X6_isPerson rfl ⟨rfl, rfl⟩ ⟨(Nat.le_of_ble_eq_true rfl), (Nat.le_of_ble_eq_true rfl)⟩ ⟨Nat.zero_le _, Nat.zero_le _⟩ rfl (Nat.le_of_ble_eq_true rfl) dX6_help_2) hS (fun H locs hP hS => ?_)
  refine lv_if_ne (tgt := 10) hx hb dX6_help_5 (by decide) (fun c_1 => ?_) (fun c_1 => ?_)
  · have h := ite_f c_1 h
    refine lv_iconst (v := 0) hx hb dX6_help_10 (by decide) ?_
    refine lv_istore_n (lv' := [(2, .int 0), (0, .ref (ta Θ 0)), (1, .int v1)]) hx hb dX6_help_11 rfl hl (by decide) rfl (fun ls hl => ?_)
    refine lv_iconst (v := 0) hx hb dX6_help_12 (by decide) ?_
    refine lv_istore_n (lv' := [(3, .int 0), (2, .int 0), (0, .ref (ta Θ 0)), (1, .int v1)]) hx hb dX6_help_13 rfl hl (by decide) rfl (fun ls hl => ?_)
    refine w_X6_help_L14 X O hr hlk v1 σ0  _ (0 : Int32) (0 : Int32) h _ _ _ hP hS (lv_sub hl [2, 3, 1, 0] rfl)
  · have h := ite_t c_1 h
    refine lv_iconst (v := (-1)) hx hb dX6_help_8 (by decide) ?_
    have h := some_i h
    subst h
    exact x_reti X hP hS hr hlk rfl rfl dX6_help_9
abbrev rm_X6_reading : Room := { frames := 1, cells := 0, slots := 0, locals := 23 }
theorem hd_X6_reading : yX6_reading.cls ≠ "java/lang/invoke/MethodHandle" ∧ yX6_reading.cls ≠ "java/lang/invoke/VarHandle" ∧ (parseMethodDescriptor yX6_reading.desc).map (fun d => d.parameters.length) = some 3 := by decide +kernel
set_option maxHeartbeats 4000000 in
set_option maxRecDepth 100000 in
theorem k_X6_reading {Θ : TH} {l : Launch} (O : okT Θ (eX Θ) 68) (v1 : Int32) (v2 : Int32) (v3 : Int32) (σ0 : Mem) {y : Int32 × Mem} (h : X6_reading v1 v2 v3 σ0 = some y) : Met l yX6_reading (Cond.code yX6_reading cX6_reading 4 (some .int) :: wAll) rm_X6_reading (va_Pc [.ref (ta Θ 0), .int v1, .int v2, .int v3] (tS Θ σ0)) (qI Θ y.1 y.2) 0 0 (tA Θ) := by
  refine x_ent (by decide) (Nat.le_of_ble_eq_true rfl) (fun p e s m below meth c X hr hlk hP ls hl => ?_)
  have hS : va_S (tA Θ) s.heap s.heap [] := va_S.rf
  have hl : lv_has ls 4 [(0, .ref (ta Θ 0)), (1, .int v1), (2, .int v2), (3, .int v3)] := hl
  have hx := X.1
  have hb := X.2.1
  unfold X6_reading at h
  refine lv_aload_n hx hb dX6_reading_0 rfl (lv_at hl 0 rfl) ?_
  refine lv_iload_n hx hb dX6_reading_1 rfl (lv_at hl 1 rfl) ?_
  refine x_calli (x_runV X O hP hS hl.1 (As := [.int v1]) (rest := []) (k_X6_isPerson O v1 σ0 rfl) lt_X6 (e_X6 _) rfl wM_X6_93 wI_yX6_isPerson wS_yX6_isPerson wN_X6 wC_yX6_isPerson hd_X6_isPerson rfl ⟨rfl, rfl⟩ ⟨(Nat.le_of_ble_eq_true rfl), (Nat.le_of_ble_eq_true rfl)⟩ ⟨Nat.zero_le _, Nat.zero_le _⟩ rfl (Nat.le_of_ble_eq_true rfl) dX6_reading_2) hS (fun H locs hP hS => ?_)
  refine lv_if_eq (tgt := 18) hx hb dX6_reading_5 (by decide) (fun c_1 => ?_) (fun c_1 => ?_)
  · have h := ite_t c_1 h
    refine lv_iconst (v := (-1)) hx hb dX6_reading_18 (by decide) ?_
    have h := some_i h
    subst h
    exact x_reti X hP hS hr hlk rfl rfl dX6_reading_19
  · have h := ite_f c_1 h
    refine lv_iload_n hx hb dX6_reading_8 rfl (lv_at hl 2 rfl) ?_
    refine lv_if_lt (tgt := 18) hx hb dX6_reading_9 (by decide) (fun c_2 => ?_) (fun c_2 => ?_)
    · have h := ite_t c_2 h
      refine lv_iconst (v := (-1)) hx hb dX6_reading_18 (by decide) ?_
      have h := some_i h
      subst h
      exact x_reti X hP hS hr hlk rfl rfl dX6_reading_19
    · have h := ite_f c_2 h
      refine lv_iload_n hx hb dX6_reading_12 rfl (lv_at hl 2 rfl) ?_
      refine lv_bipush (v := 6) hx hb dX6_reading_13 (by decide) ?_
      refine lv_icmp_lt (tgt := 20) hx hb dX6_reading_15 (by decide) (fun c_3 => ?_) (fun c_3 => ?_)
      · have h := ite_t c_3 h
        refine lv_aload_n hx hb dX6_reading_20 rfl (lv_at hl 0 rfl) ?_
        refine g_X6_26 X O hP dX6_reading_21 ?_
        refine lv_iload_n hx hb dX6_reading_24 rfl (lv_at hl 1 rfl) ?_
        refine lv_iload_n hx hb dX6_reading_25 rfl (lv_at hl 2 rfl) ?_
        refine lv_iload_n hx hb dX6_reading_26 rfl (lv_at hl 3 rfl) ?_
        obtain ⟨z_4, e_5, h⟩ := ob_s h
        refine x_calli (x_runV X O hP hS hl.1 (As := [.int v1, .int v2, .int v3]) (rest := []) (k_X4_add O v1 v2 v3 σ0 e_5) lt_X4 (e_X4 _) rfl wM_X6_174 wI_yX4_add wS_yX4_add wN_X4 wC_yX4_add hd_X4_add rfl ⟨rfl, rfl⟩ ⟨(Nat.le_of_ble_eq_true rfl), (Nat.le_of_ble_eq_true rfl)⟩ ⟨Nat.zero_le _, Nat.zero_le _⟩ rfl (Nat.le_of_ble_eq_true rfl) dX6_reading_27) hS (fun H locs hP hS => ?_)
        refine lv_if_eq (tgt := 45) hx hb dX6_reading_30 (by decide) (fun c_6 => ?_) (fun c_6 => ?_)
        · have h := ite_t c_6 h
          refine lv_bipush (v := (-4)) hx hb dX6_reading_45 (by decide) ?_
          have h := some_i h
          subst h
          exact x_reti X hP hS hr hlk rfl rfl dX6_reading_47
        · have h := ite_f c_6 h
          refine lv_aload_n hx hb dX6_reading_33 rfl (lv_at hl 0 rfl) ?_
          refine g_X6_26 X O hP dX6_reading_34 ?_
          refine g_X6_90 X O hP dX6_reading_37 ?_
          refine lv_iconst (v := 1) hx hb dX6_reading_40 (by decide) ?_
          refine lv_isub hx hb dX6_reading_41 ?_
          refine lv_goto (tgt := 47) hx hb dX6_reading_42 (by decide) ?_
          have h := some_i h
          subst h
          exact x_reti X hP hS hr hlk rfl rfl dX6_reading_47
      · have h := ite_f c_3 h
        refine lv_iconst (v := (-1)) hx hb dX6_reading_18 (by decide) ?_
        have h := some_i h
        subst h
        exact x_reti X hP hS hr hlk rfl rfl dX6_reading_19
abbrev rm_X6_back : Room := { frames := 0, cells := 0, slots := 0, locals := 0 }
theorem hd_X6_back : yX6_back.cls ≠ "java/lang/invoke/MethodHandle" ∧ yX6_back.cls ≠ "java/lang/invoke/VarHandle" ∧ (parseMethodDescriptor yX6_back.desc).map (fun d => d.parameters.length) = some 1 := by decide +kernel
set_option maxHeartbeats 4000000 in
set_option maxRecDepth 100000 in
theorem k_X6_back {Θ : TH} {l : Launch} (O : okT Θ (eX Θ) 68) (v1 : Int32) (σ0 : Mem) {y : Int32 × Mem} (h : X6_back v1 σ0 = y) : Met l yX6_back (Cond.code yX6_back cX6_back 2 (some .int) :: wAll) rm_X6_back (va_Pc [.ref (ta Θ 0), .int v1] (tS Θ σ0)) (qI Θ y.1 y.2) 0 0 (tA Θ) := by
  refine x_ent (by decide) (Nat.le_of_ble_eq_true rfl) (fun p e s m below meth c X hr hlk hP ls hl => ?_)
  have hS : va_S (tA Θ) s.heap s.heap [] := va_S.rf
  have hl : lv_has ls 2 [(0, .ref (ta Θ 0)), (1, .int v1)] := hl
  have hx := X.1
  have hb := X.2.1
  unfold X6_back at h
  refine lv_iload_n hx hb dX6_back_0 rfl (lv_at hl 1 rfl) ?_
  refine lv_if_lt (tgt := 15) hx hb dX6_back_1 (by decide) (fun c_1 => ?_) (fun c_1 => ?_)
  · have h := ite_t c_1 h
    refine lv_bipush (v := (-2)) hx hb dX6_back_15 (by decide) ?_
    subst h
    exact x_reti X hP hS hr hlk rfl rfl dX6_back_17
  · have h := ite_f c_1 h
    refine lv_iload_n hx hb dX6_back_4 rfl (lv_at hl 1 rfl) ?_
    refine lv_aload_n hx hb dX6_back_5 rfl (lv_at hl 0 rfl) ?_
    refine g_X6_26 X O hP dX6_back_6 ?_
    refine g_X6_90 X O hP dX6_back_9 ?_
    refine lv_icmp_le (tgt := 18) hx hb dX6_back_12 (by decide) (fun c_2 => ?_) (fun c_2 => ?_)
    · have h := ite_t c_2 h
      refine lv_aload_n hx hb dX6_back_18 rfl (lv_at hl 0 rfl) ?_
      refine g_X6_26 X O hP dX6_back_19 ?_
      refine lv_dup hx hb dX6_back_22 rfl ?_
      refine g_X6_90 X O hP dX6_back_23 ?_
      refine lv_iload_n hx hb dX6_back_26 rfl (lv_at hl 1 rfl) ?_
      refine lv_isub hx hb dX6_back_27 ?_
      obtain ⟨σ_3, e_4, h⟩ := bnd_s h
      refine p_X6_90 X O hP hS dX6_back_28 e_4 (fun H locs hP hS => ?_)
      refine lv_aload_n hx hb dX6_back_31 rfl (lv_at hl 0 rfl) ?_
      refine g_X6_26 X O hP dX6_back_32 ?_
      refine g_X6_90 X O hP dX6_back_35 ?_
      subst h
      exact x_reti X hP hS hr hlk rfl rfl dX6_back_38
    · have h := ite_f c_2 h
      refine lv_bipush (v := (-2)) hx hb dX6_back_15 (by decide) ?_
      subst h
      exact x_reti X hP hS hr hlk rfl rfl dX6_back_17
abbrev rm_X6_refusalOfReadLoans : Room := { frames := 3, cells := 0, slots := 0, locals := 72 }
theorem hd_X6_refusalOfReadLoans : yX6_refusalOfReadLoans.cls ≠ "java/lang/invoke/MethodHandle" ∧ yX6_refusalOfReadLoans.cls ≠ "java/lang/invoke/VarHandle" ∧ (parseMethodDescriptor yX6_refusalOfReadLoans.desc).map (fun d => d.parameters.length) = some 6 := by decide +kernel
set_option maxHeartbeats 4000000 in
set_option maxRecDepth 100000 in
theorem k_X6_refusalOfReadLoans {F : Nat} {Θ : TH} {l : Launch} (O : okT Θ (eX Θ) 68) (v1 : Int32) (v2 : Int32) (v3 : Int32) (v4 : Int32) (v5 : Int32) (v6 : Int32) (σ0 : Mem) {y : Int32 × Mem} (h : X6_refusalOfReadLoans F v1 v2 v3 v4 v5 v6 σ0 = some y) : Met l yX6_refusalOfReadLoans (Cond.code yX6_refusalOfReadLoans cX6_refusalOfReadLoans 7 (some .int) :: wAll) rm_X6_refusalOfReadLoans (va_Pc [.ref (ta Θ 0), .int v1, .int v2, .int v3, .int v4, .int v5, .int v6] (tS Θ σ0)) (qI Θ y.1 y.2) 0 0 (tA Θ) := by
  refine x_ent (by decide) (Nat.le_of_ble_eq_true rfl) (fun p e s m below meth c X hr hlk hP ls hl => ?_)
  have hS : va_S (tA Θ) s.heap s.heap [] := va_S.rf
  have hl : lv_has ls 7 [(0, .ref (ta Θ 0)), (1, .int v1), (2, .int v2), (3, .int v3), (4, .int v4), (5, .int v5), (6, .int v6)] := hl
  have hx := X.1
  have hb := X.2.1
  unfold X6_refusalOfReadLoans at h
  refine lv_aload_n hx hb dX6_refusalOfReadLoans_0 rfl (lv_at hl 0 rfl) ?_
  refine lv_iconst (v := 0) hx hb dX6_refusalOfReadLoans_1 (by decide) ?_
  obtain ⟨σ_1, e_2, h⟩ := bnd_s h
  refine p_X6_62 X O hP hS dX6_refusalOfReadLoans_2 e_2 (fun H locs hP hS => ?_)
  refine lv_aload_n hx hb dX6_refusalOfReadLoans_5 rfl (lv_at hl 0 rfl) ?_
  refine lv_iload_n hx hb dX6_refusalOfReadLoans_6 rfl (lv_at hl 1 rfl) ?_
  refine x_calli (x_runV X O hP hS hl.1 (As := [.int v1]) (rest := []) (k_X6_isPerson O v1 σ_1 rfl) lt_X6 (e_X6 _) rfl wM_X6_93 wI_yX6_isPerson wS_yX6_isPerson wN_X6 wC_yX6_isPerson hd_X6_isPerson rfl ⟨rfl, rfl⟩ ⟨(Nat.le_of_ble_eq_true rfl), (Nat.le_of_ble_eq_true rfl)⟩ ⟨Nat.zero_le _, Nat.zero_le _⟩ rfl (Nat.le_of_ble_eq_true rfl) dX6_refusalOfReadLoans_7) hS (fun H locs hP hS => ?_)
  refine lv_if_eq (tgt := 20) hx hb dX6_refusalOfReadLoans_10 (by decide) (fun c_3 => ?_) (fun c_3 => ?_)
  · have h := ite_t c_3 h
    refine lv_iconst (v := (-1)) hx hb dX6_refusalOfReadLoans_20 (by decide) ?_
    have h := some_i h
    subst h
    exact x_reti X hP hS hr hlk rfl rfl dX6_refusalOfReadLoans_21
  · have h := ite_f c_3 h
    refine lv_iload_n hx hb dX6_refusalOfReadLoans_13 rfl (lv_at hl 2 rfl) ?_
    refine x_calli (x_runS X hP hS hl.1 (As := [.int v2]) (rest := []) (k_X6_isSheet O v2 σ_1 rfl) wM_X6_67 wT_yX6_isSheet wN_X6 wC_yX6_isSheet hd_X6_isSheet rfl ⟨rfl, rfl⟩ ⟨(Nat.le_of_ble_eq_true rfl), (Nat.le_of_ble_eq_true rfl)⟩ ⟨Nat.zero_le _, Nat.zero_le _⟩ rfl (Nat.le_of_ble_eq_true rfl) dX6_refusalOfReadLoans_14) hS (fun H locs hP hS => ?_)
    refine lv_if_ne (tgt := 22) hx hb dX6_refusalOfReadLoans_17 (by decide) (fun c_4 => ?_) (fun c_4 => ?_)
    · have h := ite_f c_4 h
      refine lv_iload_n hx hb dX6_refusalOfReadLoans_22 rfl (lv_at hl 3 rfl) ?_
      refine x_calli (x_runS X hP hS hl.1 (As := [.int v3]) (rest := []) (k_X6_isLane O v3 σ_1 rfl) wM_X6_71 wT_yX6_isLane wN_X6 wC_yX6_isLane hd_X6_isLane rfl ⟨rfl, rfl⟩ ⟨(Nat.le_of_ble_eq_true rfl), (Nat.le_of_ble_eq_true rfl)⟩ ⟨Nat.zero_le _, Nat.zero_le _⟩ rfl (Nat.le_of_ble_eq_true rfl) dX6_refusalOfReadLoans_23) hS (fun H locs hP hS => ?_)
      refine lv_if_eq (tgt := 48) hx hb dX6_refusalOfReadLoans_26 (by decide) (fun c_5 => ?_) (fun c_5 => ?_)
      · have h := ite_t c_5 h
        refine lv_bipush (v := (-2)) hx hb dX6_refusalOfReadLoans_48 (by decide) ?_
        have h := some_i h
        subst h
        exact x_reti X hP hS hr hlk rfl rfl dX6_refusalOfReadLoans_50
      · have h := ite_f c_5 h
        refine lv_iload hx hb dX6_refusalOfReadLoans_29 (lv_at hl 5 rfl) ?_
        refine x_calli (x_runS X hP hS hl.1 (As := [.int v5]) (rest := []) (k_X6_isLoanCount O v5 σ_1 rfl) wM_X6_112 wT_yX6_isLoanCount wN_X6 wC_yX6_isLoanCount hd_X6_isLoanCount rfl ⟨rfl, rfl⟩ ⟨(Nat.le_of_ble_eq_true rfl), (Nat.le_of_ble_eq_true rfl)⟩ ⟨Nat.zero_le _, Nat.zero_le _⟩ rfl (Nat.le_of_ble_eq_true rfl) dX6_refusalOfReadLoans_31) hS (fun H locs hP hS => ?_)
        refine lv_if_eq (tgt := 48) hx hb dX6_refusalOfReadLoans_34 (by decide) (fun c_6 => ?_) (fun c_6 => ?_)
        · have h := ite_t c_6 h
          refine lv_bipush (v := (-2)) hx hb dX6_refusalOfReadLoans_48 (by decide) ?_
          have h := some_i h
          subst h
          exact x_reti X hP hS hr hlk rfl rfl dX6_refusalOfReadLoans_50
        · have h := ite_f c_6 h
          refine lv_iload hx hb dX6_refusalOfReadLoans_37 (lv_at hl 6 rfl) ?_
          refine lv_if_lt (tgt := 48) hx hb dX6_refusalOfReadLoans_39 (by decide) (fun c_7 => ?_) (fun c_7 => ?_)
          · have h := ite_t c_7 h
            refine lv_bipush (v := (-2)) hx hb dX6_refusalOfReadLoans_48 (by decide) ?_
            have h := some_i h
            subst h
            exact x_reti X hP hS hr hlk rfl rfl dX6_refusalOfReadLoans_50
          · have h := ite_f c_7 h
            refine lv_iload hx hb dX6_refusalOfReadLoans_42 (lv_at hl 6 rfl) ?_
            refine lv_iconst (v := 1) hx hb dX6_refusalOfReadLoans_44 (by decide) ?_
            refine lv_icmp_le (tgt := 51) hx hb dX6_refusalOfReadLoans_45 (by decide) (fun c_8 => ?_) (fun c_8 => ?_)
            · have h := ite_t c_8 h
              refine lv_aload_n hx hb dX6_refusalOfReadLoans_51 rfl (lv_at hl 0 rfl) ?_
              refine lv_iload_n hx hb dX6_refusalOfReadLoans_52 rfl (lv_at hl 2 rfl) ?_
              refine lv_iload_n hx hb dX6_refusalOfReadLoans_53 rfl (lv_at hl 3 rfl) ?_
              refine lv_iload hx hb dX6_refusalOfReadLoans_54 (lv_at hl 4 rfl) ?_
              refine lv_iload hx hb dX6_refusalOfReadLoans_56 (lv_at hl 5 rfl) ?_
              obtain ⟨z_9, e_10, h⟩ := ob_s h
              refine x_calli (x_runV X O hP hS hl.1 (As := [.int v2, .int v3, .int v4, .int v5]) (rest := []) (k_X6_takeRow O v2 v3 v4 v5 σ_1 e_10) lt_X6 (e_X6 _) rfl wM_X6_118 wI_yX6_takeRow wS_yX6_takeRow wN_X6 wC_yX6_takeRow hd_X6_takeRow rfl ⟨rfl, rfl⟩ ⟨(Nat.le_of_ble_eq_true rfl), (Nat.le_of_ble_eq_true rfl)⟩ ⟨Nat.zero_le _, Nat.zero_le _⟩ rfl (Nat.le_of_ble_eq_true rfl) dX6_refusalOfReadLoans_58) hS (fun H locs hP hS => ?_)
              have h := some_i h
              subst h
              exact x_reti X hP hS hr hlk rfl rfl dX6_refusalOfReadLoans_61
            · have h := ite_f c_8 h
              refine lv_bipush (v := (-2)) hx hb dX6_refusalOfReadLoans_48 (by decide) ?_
              have h := some_i h
              subst h
              exact x_reti X hP hS hr hlk rfl rfl dX6_refusalOfReadLoans_50
    · have h := ite_t c_4 h
      refine lv_iconst (v := (-1)) hx hb dX6_refusalOfReadLoans_20 (by decide) ?_
      have h := some_i h
      subst h
      exact x_reti X hP hS hr hlk rfl rfl dX6_refusalOfReadLoans_21
abbrev rm_X6_couldBe : Room := { frames := 3, cells := 0, slots := 0, locals := 67 }
theorem hd_X6_couldBe : yX6_couldBe.cls ≠ "java/lang/invoke/MethodHandle" ∧ yX6_couldBe.cls ≠ "java/lang/invoke/VarHandle" ∧ (parseMethodDescriptor yX6_couldBe.desc).map (fun d => d.parameters.length) = some 4 := by decide +kernel
set_option maxHeartbeats 4000000 in
set_option maxRecDepth 100000 in
theorem k_X6_couldBe {F : Nat} {Θ : TH} {l : Launch} (O : okT Θ (eX Θ) 68) (v1 : Int32) (v2 : Int32) (v3 : Int32) (v4 : Int32) (σ0 : Mem) {y : Int32 × Mem} (h : X6_couldBe F v1 v2 v3 v4 σ0 = some y) : Met l yX6_couldBe (Cond.code yX6_couldBe cX6_couldBe 5 (some .boolean) :: wAll) rm_X6_couldBe (va_Pc [.ref (ta Θ 0), .int v1, .int v2, .int v3, .int v4] (tS Θ σ0)) (qI Θ y.1 y.2) 0 0 (tA Θ) := by
  refine x_ent (by decide) (Nat.le_of_ble_eq_true rfl) (fun p e s m below meth c X hr hlk hP ls hl => ?_)
  have hS : va_S (tA Θ) s.heap s.heap [] := va_S.rf
  have hl : lv_has ls 5 [(0, .ref (ta Θ 0)), (1, .int v1), (2, .int v2), (3, .int v3), (4, .int v4)] := hl
  have hx := X.1
  have hb := X.2.1
  unfold X6_couldBe at h
  refine lv_aload_n hx hb dX6_couldBe_0 rfl (lv_at hl 0 rfl) ?_
  refine g_X6_33 X O hP dX6_couldBe_1 ?_
  refine lv_aload_n hx hb dX6_couldBe_4 rfl (lv_at hl 0 rfl) ?_
  refine g_X6_19 X O hP dX6_couldBe_5 ?_
  refine lv_aload_n hx hb dX6_couldBe_8 rfl (lv_at hl 0 rfl) ?_
  refine g_X6_55 X O hP dX6_couldBe_9 ?_
  obtain ⟨σ_1, e_2, h⟩ := ob_s h
  refine x_callv (x_runV X O hP hS hl.1 (As := [.ref (ta Θ 2), .int (σ0 0 7)]) (rest := []) (k_X0_begin O isEx_28 (σ0 0 7) σ0 e_2) (lt_X0 isEx_28) (e_X0 isEx_28 _) rfl wM_X6_122 wI_yX0_begin wS_yX0_begin wN_X0 wC_yX0_begin hd_X0_begin rfl ⟨rfl, rfl⟩ ⟨(Nat.le_of_ble_eq_true rfl), (Nat.le_of_ble_eq_true rfl)⟩ ⟨Nat.zero_le _, Nat.zero_le _⟩ rfl (Nat.le_of_ble_eq_true rfl) dX6_couldBe_12) hS (fun H locs hP hS => ?_)
  refine lv_aload_n hx hb dX6_couldBe_15 rfl (lv_at hl 0 rfl) ?_
  refine g_X6_33 X O hP dX6_couldBe_16 ?_
  refine lv_iload_n hx hb dX6_couldBe_19 rfl (lv_at hl 1 rfl) ?_
  refine lv_iload_n hx hb dX6_couldBe_20 rfl (lv_at hl 2 rfl) ?_
  refine lv_iload_n hx hb dX6_couldBe_21 rfl (lv_at hl 3 rfl) ?_
  obtain ⟨σ_3, e_4, h⟩ := ob_s h
  refine x_callv (x_runV X O hP hS hl.1 (As := [.int v1, .int v2, .int v3]) (rest := []) (k_X0_place O isEx_28 v1 v2 v3 σ_1 e_4) (lt_X0 isEx_28) (e_X0 isEx_28 _) rfl wM_X6_194 wI_yX0_place wS_yX0_place wN_X0 wC_yX0_place hd_X0_place rfl ⟨rfl, rfl⟩ ⟨(Nat.le_of_ble_eq_true rfl), (Nat.le_of_ble_eq_true rfl)⟩ ⟨Nat.zero_le _, Nat.zero_le _⟩ rfl (Nat.le_of_ble_eq_true rfl) dX6_couldBe_22) hS (fun H locs hP hS => ?_)
  refine lv_aload_n hx hb dX6_couldBe_25 rfl (lv_at hl 0 rfl) ?_
  refine g_X6_33 X O hP dX6_couldBe_26 ?_
  refine lv_aload_n hx hb dX6_couldBe_29 rfl (lv_at hl 0 rfl) ?_
  refine g_X6_51 X O hP dX6_couldBe_30 ?_
  refine lv_iload hx hb dX6_couldBe_33 (lv_at hl 4 rfl) ?_
  obtain ⟨z_5, e_6, h⟩ := ob_s h
  refine x_calli (x_runV X O hP hS hl.1 (As := [.ref (ta Θ 13), .int v4]) (rest := []) (k_X0_play O isEx_28 v4 σ_3 e_6) (lt_X0 isEx_28) (e_X0 isEx_28 _) rfl wM_X6_126 wI_yX0_play wS_yX0_play wN_X0 wC_yX0_play hd_X0_play rfl ⟨rfl, rfl⟩ ⟨(Nat.le_of_ble_eq_true rfl), (Nat.le_of_ble_eq_true rfl)⟩ ⟨Nat.zero_le _, Nat.zero_le _⟩ rfl (Nat.le_of_ble_eq_true rfl) dX6_couldBe_35) hS (fun H locs hP hS => ?_)
  refine lv_bipush (v := (-9)) hx hb dX6_couldBe_38 (by decide) ?_
  refine lv_icmp_ne (tgt := 61) hx hb dX6_couldBe_40 (by decide) (fun c_7 => ?_) (fun c_7 => ?_)
  · have h := ite_f c_7 h
    refine lv_iconst (v := 0) hx hb dX6_couldBe_61 (by decide) ?_
    have h := some_i h
    subst h
    exact x_retz X hP hS hr hlk (Or.inl rfl) rfl rfl dX6_couldBe_62
  · have h := ite_t c_7 h
    refine lv_aload_n hx hb dX6_couldBe_43 rfl (lv_at hl 0 rfl) ?_
    refine g_X6_26 X O hP dX6_couldBe_44 ?_
    refine lv_aload_n hx hb dX6_couldBe_47 rfl (lv_at hl 0 rfl) ?_
    refine g_X6_33 X O hP dX6_couldBe_48 ?_
    obtain ⟨z_8, e_9, h⟩ := ob_s h
    refine x_calli (x_runV X O hP hS hl.1 (As := [.ref (ta Θ 28)]) (rest := []) (k_X4_areSoIn O isEx_28 z_5.2 e_9) lt_X4 (e_X4 _) rfl wM_X6_198 wI_yX4_areSoIn wS_yX4_areSoIn wN_X4 wC_yX4_areSoIn hd_X4_areSoIn rfl ⟨rfl, rfl⟩ ⟨(Nat.le_of_ble_eq_true rfl), (Nat.le_of_ble_eq_true rfl)⟩ ⟨Nat.zero_le _, Nat.zero_le _⟩ rfl (Nat.le_of_ble_eq_true rfl) dX6_couldBe_51) hS (fun H locs hP hS => ?_)
    refine lv_if_eq (tgt := 61) hx hb dX6_couldBe_54 (by decide) (fun c_10 => ?_) (fun c_10 => ?_)
    · have h := ite_t c_10 h
      refine lv_iconst (v := 0) hx hb dX6_couldBe_61 (by decide) ?_
      have h := some_i h
      subst h
      exact x_retz X hP hS hr hlk (Or.inl rfl) rfl rfl dX6_couldBe_62
    · have h := ite_f c_10 h
      refine lv_iconst (v := 1) hx hb dX6_couldBe_57 (by decide) ?_
      refine lv_goto (tgt := 62) hx hb dX6_couldBe_58 (by decide) ?_
      have h := some_i h
      subst h
      exact x_retz X hP hS hr hlk (Or.inr rfl) rfl rfl dX6_couldBe_62
abbrev rm_X6_told : Room := { frames := 4, cells := 0, slots := 0, locals := 98 }
set_option maxHeartbeats 4000000 in
set_option maxRecDepth 100000 in
theorem w_X6_told_L45 {F : Nat} {Θ : TH} {p : Program} {l : Launch} {e : Env} {s : State} {m : MethodId} {args : Array Value} {below : List Frame} {meth : Method} {c : Code} (X : CX Θ p s m args c RX6 cX6_told 12) (O : okT Θ (eX Θ) 68) (hr : meth.sig.returnType = some .int) (hlk : meth.locks = false) (v1 : Int32) (v5 : Int32) (v6 : Int32) (v8 : Int32) {y : Int32 × Mem} {k77 : Int32 → Int32 → Mem → Option (Int32 × Mem)} (hk77 : ∀ (v9 : Int32) (v10 : Int32) (σ0 : Mem), k77 v9 v10 σ0 = some y → ∀ (H : Heap) (locs : List Loc) (ls : Array Slot), va_P (tD Θ) vwCl (tw Θ σ0) H → va_S (tA Θ) s.heap H locs → lv_has ls 12 [(6, .int v6), (9, .int v9), (10, .int v10)] → W p l e rm_X6_told s m args below meth c H locs 0 0 (MQ below (qI Θ y.1 y.2) args s 0 0 (tA Θ)) (F0 m 77 ls [])) :
    ∀ (f : Nat) (v9 : Int32) (v10 : Int32) (v11 : Int32) (σ0 : Mem), X6_told_L45 F v1 v5 v6 v8 k77 f v9 v10 v11 σ0 = some y → ∀ (H : Heap) (locs : List Loc) (ls : Array Slot), va_P (tD Θ) vwCl (tw Θ σ0) H → va_S (tA Θ) s.heap H locs → lv_has ls 12 [(0, .ref (ta Θ 0)), (1, .int v1), (5, .int v5), (6, .int v6), (8, .int v8), (9, .int v9), (10, .int v10), (11, .int v11)] → W p l e rm_X6_told s m args below meth c H locs 0 0 (MQ below (qI Θ y.1 y.2) args s 0 0 (tA Θ)) (F0 m 45 ls []) := by
  have hx := X.1
  have hb := X.2.1
  intro f
  induction f with
  | zero => intro v9 v10 v11 σ0 h; cases h
  | succ f ih =>
    intro v9 v10 v11 σ0 h H locs ls hP hS hl
    rw [X6_told_L45] at h
    refine lv_iload hx hb dX6_told_45 (lv_at hl 7 rfl) ?_
    refine lv_if_lt (tgt := 77) hx hb dX6_told_47 (by decide) (fun c_7 => ?_) (fun c_7 => ?_)
    · have h := ite_t c_7 h
      exact hk77 v9 v10 σ0 h _ _ _ hP hS (lv_sub hl [3, 5, 6] rfl)
    · have h := ite_f c_7 h
      refine lv_aload_n hx hb dX6_told_50 rfl (lv_at hl 0 rfl) ?_
      refine lv_iload_n hx hb dX6_told_51 rfl (lv_at hl 1 rfl) ?_
      refine lv_iload hx hb dX6_told_52 (lv_at hl 7 rfl) ?_
      refine lv_iload hx hb dX6_told_54 (lv_at hl 4 rfl) ?_
      refine lv_iload hx hb dX6_told_56 (lv_at hl 2 rfl) ?_
      obtain ⟨z_8, e_9, h⟩ := ob_s h
      refine x_calli (x_runV X O hP hS hl.1 (As := [.int v1, .int v11, .int v8, .int v5]) (rest := []) (k_X6_couldBe O v1 v11 v8 v5 σ0 e_9) lt_X6 (e_X6 _) rfl wM_X6_182 wI_yX6_couldBe wS_yX6_couldBe wN_X6 wC_yX6_couldBe hd_X6_couldBe rfl ⟨rfl, rfl⟩ ⟨(Nat.le_of_ble_eq_true rfl), (Nat.le_of_ble_eq_true rfl)⟩ ⟨Nat.zero_le _, Nat.zero_le _⟩ rfl (Nat.le_of_ble_eq_true rfl) dX6_told_58) hS (fun H locs hP hS => ?_)
      refine lv_if_eq (tgt := 71) hx hb dX6_told_61 (by decide) (fun c_10 => ?_) (fun c_10 => ?_)
      · have h := ite_t c_10 h
        refine lv_iinc (v := v11 + (-1)) (lv' := [(11, .int (v11 + (-1))), (0, .ref (ta Θ 0)), (1, .int v1), (5, .int v5), (6, .int v6), (8, .int v8), (9, .int v9), (10, .int v10)]) hx hb dX6_told_71 hl (k := 7) rfl rfl (by decide) rfl (fun ls hl => ?_)
        refine lv_goto (tgt := 45) hx hb dX6_told_74 (by decide) ?_
        exact ih v9 v10 (v11 + (-1)) z_8.2 h _ _ _ hP hS (lv_sub hl [1, 2, 3, 4, 5, 6, 7, 0] rfl)
      · have h := ite_f c_10 h
        refine lv_iinc (v := v9 + 1) (lv' := [(9, .int (v9 + 1)), (0, .ref (ta Θ 0)), (1, .int v1), (5, .int v5), (6, .int v6), (8, .int v8), (10, .int v10), (11, .int v11)]) hx hb dX6_told_64 hl (k := 5) rfl rfl (by decide) rfl (fun ls hl => ?_)
        refine lv_iload hx hb dX6_told_67 (lv_at hl 7 rfl) ?_
        refine lv_istore (lv' := [(10, .int v11), (9, .int (v9 + 1)), (0, .ref (ta Θ 0)), (1, .int v1), (5, .int v5), (6, .int v6), (8, .int v8), (11, .int v11)]) hx hb dX6_told_69 hl (by decide) rfl (fun ls hl => ?_)
        refine lv_iinc (v := v11 + (-1)) (lv' := [(11, .int (v11 + (-1))), (10, .int v11), (9, .int (v9 + 1)), (0, .ref (ta Θ 0)), (1, .int v1), (5, .int v5), (6, .int v6), (8, .int v8)]) hx hb dX6_told_71 hl (k := 7) rfl rfl (by decide) rfl (fun ls hl => ?_)
        refine lv_goto (tgt := 45) hx hb dX6_told_74 (by decide) ?_
        exact ih (v9 + 1) v11 (v11 + (-1)) z_8.2 h _ _ _ hP hS (lv_sub hl [3, 4, 5, 6, 7, 2, 1, 0] rfl)
theorem hd_X6_told : yX6_told.cls ≠ "java/lang/invoke/MethodHandle" ∧ yX6_told.cls ≠ "java/lang/invoke/VarHandle" ∧ (parseMethodDescriptor yX6_told.desc).map (fun d => d.parameters.length) = some 6 := by decide +kernel
set_option maxHeartbeats 4000000 in
set_option maxRecDepth 100000 in
theorem k_X6_told {F : Nat} {Θ : TH} {l : Launch} (O : okT Θ (eX Θ) 68) (v1 : Int32) (v2 : Int32) (v3 : Int32) (v4 : Int32) (v5 : Int32) (v6 : Int32) (σ0 : Mem) {y : Int32 × Mem} (h : X6_told F v1 v2 v3 v4 v5 v6 σ0 = some y) : Met l yX6_told (Cond.code yX6_told cX6_told 12 (some .int) :: wAll) rm_X6_told (va_Pc [.ref (ta Θ 0), .int v1, .int v2, .int v3, .int v4, .int v5, .int v6] (tS Θ σ0)) (qI Θ y.1 y.2) 0 0 (tA Θ) := by
  refine x_ent (by decide) (Nat.le_of_ble_eq_true rfl) (fun p e s m below meth c X hr hlk hP ls hl => ?_)
  have hS : va_S (tA Θ) s.heap s.heap [] := va_S.rf
  have hl : lv_has ls 12 [(0, .ref (ta Θ 0)), (1, .int v1), (2, .int v2), (3, .int v3), (4, .int v4), (5, .int v5), (6, .int v6)] := hl
  have hx := X.1
  have hb := X.2.1
  unfold X6_told at h
  refine lv_aload_n hx hb dX6_told_0 rfl (lv_at hl 0 rfl) ?_
  refine lv_iload_n hx hb dX6_told_1 rfl (lv_at hl 1 rfl) ?_
  refine lv_iload_n hx hb dX6_told_2 rfl (lv_at hl 2 rfl) ?_
  refine lv_iload_n hx hb dX6_told_3 rfl (lv_at hl 3 rfl) ?_
  refine lv_iload hx hb dX6_told_4 (lv_at hl 4 rfl) ?_
  refine lv_iload hx hb dX6_told_6 (lv_at hl 5 rfl) ?_
  refine lv_iload hx hb dX6_told_8 (lv_at hl 6 rfl) ?_
  obtain ⟨z_1, e_2, h⟩ := ob_s h
  refine x_calli (x_runV X O hP hS hl.1 (As := [.int v1, .int v2, .int v3, .int v4, .int v5, .int v6]) (rest := []) (k_X6_refusalOfReadLoans O v1 v2 v3 v4 v5 v6 σ0 e_2) lt_X6 (e_X6 _) rfl wM_X6_178 wI_yX6_refusalOfReadLoans wS_yX6_refusalOfReadLoans wN_X6 wC_yX6_refusalOfReadLoans hd_X6_refusalOfReadLoans rfl ⟨rfl, rfl⟩ ⟨(Nat.le_of_ble_eq_true rfl), (Nat.le_of_ble_eq_true rfl)⟩ ⟨Nat.zero_le _, Nat.zero_le _⟩ rfl (Nat.le_of_ble_eq_true rfl) dX6_told_10) hS (fun H locs hP hS => ?_)
  refine lv_istore (lv' := [(7, .int z_1.1), (0, .ref (ta Θ 0)), (1, .int v1), (2, .int v2), (3, .int v3), (4, .int v4), (5, .int v5), (6, .int v6)]) hx hb dX6_told_13 hl (by decide) rfl (fun ls hl => ?_)
  refine lv_iload hx hb dX6_told_15 (lv_at hl 0 rfl) ?_
  refine lv_if_eq (tgt := 23) hx hb dX6_told_17 (by decide) (fun c_3 => ?_) (fun c_3 => ?_)
  · have h := ite_t c_3 h
    refine lv_aload_n hx hb dX6_told_23 rfl (lv_at hl 1 rfl) ?_
    refine g_X6_19 X O hP dX6_told_24 ?_
    refine lv_iload_n hx hb dX6_told_27 rfl (lv_at hl 2 rfl) ?_
    obtain ⟨g_4, h⟩ := grd_s h
    refine x_aald X O hP (k := 2) (n := 6) (t0 := 3) (C := "LentYouths$Person") (g := fun j => 22 + j) (by decide) rfl rfl g_4 dX6_told_28 ?_
    refine x_calli (x_runV X O hP hS hl.1 (As := []) (rest := []) (k_X3_lasts O (isPe_at g_4) z_1.2 rfl) (lt_X3 (isPe_at g_4)) (e_X3 (isPe_at g_4) _) rfl wM_X6_108 wI_yX3_lasts wS_yX3_lasts wN_X3 wC_yX3_lasts hd_X3_lasts rfl ⟨rfl, rfl⟩ ⟨(Nat.le_of_ble_eq_true rfl), (Nat.le_of_ble_eq_true rfl)⟩ ⟨Nat.zero_le _, Nat.zero_le _⟩ rfl (Nat.le_of_ble_eq_true rfl) dX6_told_29) hS (fun H locs hP hS => ?_)
    obtain ⟨v8_5, e_6, h⟩ := bnd_s h
    refine lv_nam e_6 ?_
    refine lv_istore (lv' := [(8, .int v8_5), (7, .int z_1.1), (0, .ref (ta Θ 0)), (1, .int v1), (2, .int v2), (3, .int v3), (4, .int v4), (5, .int v5), (6, .int v6)]) hx hb dX6_told_32 hl (by decide) rfl (fun ls hl => ?_)
    refine lv_iconst (v := 0) hx hb dX6_told_34 (by decide) ?_
    refine lv_istore (lv' := [(9, .int 0), (8, .int v8_5), (7, .int z_1.1), (0, .ref (ta Θ 0)), (1, .int v1), (2, .int v2), (3, .int v3), (4, .int v4), (5, .int v5), (6, .int v6)]) hx hb dX6_told_35 hl (by decide) rfl (fun ls hl => ?_)
    refine lv_bipush (v := (-9)) hx hb dX6_told_37 (by decide) ?_
    refine lv_istore (lv' := [(10, .int ((-9))), (9, .int 0), (8, .int v8_5), (7, .int z_1.1), (0, .ref (ta Θ 0)), (1, .int v1), (2, .int v2), (3, .int v3), (4, .int v4), (5, .int v5), (6, .int v6)]) hx hb dX6_told_39 hl (by decide) rfl (fun ls hl => ?_)
    refine lv_bipush (v := 63) hx hb dX6_told_41 (by decide) ?_
    refine lv_istore (lv' := [(11, .int 63), (10, .int ((-9))), (9, .int 0), (8, .int v8_5), (7, .int z_1.1), (0, .ref (ta Θ 0)), (1, .int v1), (2, .int v2), (3, .int v3), (4, .int v4), (5, .int v5), (6, .int v6)]) hx hb dX6_told_43 hl (by decide) rfl (fun ls hl => ?_)
    refine w_X6_told_L45 X O hr hlk v1 v5 v6 v8_5 ?_ _ (0 : Int32) (-9 : Int32) (63 : Int32) z_1.2 h _ _ _ hP hS (lv_sub hl [5, 6, 10, 11, 3, 2, 1, 0] rfl)
    · intro v9_11 v10_12 σ_13 h H locs ls hP hS hl
      refine lv_iload hx hb dX6_told_77 (lv_at hl 0 rfl) ?_
      refine lv_if_ne (tgt := 87) hx hb dX6_told_79 (by decide) (fun c_14 => ?_) (fun c_14 => ?_)
      · have h := ite_f c_14 h
        refine lv_iload hx hb dX6_told_87 (lv_at hl 2 rfl) ?_
        have h := some_i h
        subst h
        exact x_reti X hP hS hr hlk rfl rfl dX6_told_89
      · have h := ite_t c_14 h
        refine lv_iload hx hb dX6_told_82 (lv_at hl 1 rfl) ?_
        refine lv_goto (tgt := 89) hx hb dX6_told_84 (by decide) ?_
        have h := some_i h
        subst h
        exact x_reti X hP hS hr hlk rfl rfl dX6_told_89
  · have h := ite_f c_3 h
    refine lv_iload hx hb dX6_told_20 (lv_at hl 0 rfl) ?_
    have h := some_i h
    subst h
    exact x_reti X hP hS hr hlk rfl rfl dX6_told_22
abbrev rm_X6_kinds : Room := { frames := 4, cells := 0, slots := 0, locals := 98 }
set_option maxHeartbeats 4000000 in
set_option maxRecDepth 100000 in
theorem w_X6_kinds_L36 {F : Nat} {Θ : TH} {p : Program} {l : Launch} {e : Env} {s : State} {m : MethodId} {args : Array Value} {below : List Frame} {meth : Method} {c : Code} (X : CX Θ p s m args c RX6 cX6_kinds 10) (O : okT Θ (eX Θ) 68) (hr : meth.sig.returnType = some .int) (hlk : meth.locks = false) {n7 : Nat} (h7 : isPe n7) (v1 : Int32) (v5 : Int32) {y : Int32 × Mem} :
    ∀ (f : Nat) (v8 : Int32) (v9 : Int32) (σ0 : Mem), X6_kinds_L36 F v1 v5 n7 f v8 v9 σ0 = some y → ∀ (H : Heap) (locs : List Loc) (ls : Array Slot), va_P (tD Θ) vwCl (tw Θ σ0) H → va_S (tA Θ) s.heap H locs → lv_has ls 10 [(0, .ref (ta Θ 0)), (1, .int v1), (5, .int v5), (7, .ref (ta Θ n7)), (8, .int v8), (9, .int v9)] → W p l e rm_X6_kinds s m args below meth c H locs 0 0 (MQ below (qI Θ y.1 y.2) args s 0 0 (tA Θ)) (F0 m 36 ls []) := by
  have hx := X.1
  have hb := X.2.1
  intro f
  induction f with
  | zero => intro v8 v9 σ0 h; cases h
  | succ f ih =>
    intro v8 v9 σ0 h H locs ls hP hS hl
    rw [X6_kinds_L36] at h
    refine lv_iload hx hb dX6_kinds_36 (lv_at hl 5 rfl) ?_
    refine lv_iconst (v := 3) hx hb dX6_kinds_38 (by decide) ?_
    refine lv_icmp_ge (tgt := 82) hx hb dX6_kinds_39 (by decide) (fun c_5 => ?_) (fun c_5 => ?_)
    · have h := ite_t c_5 h
      refine lv_iload hx hb dX6_kinds_82 (lv_at hl 4 rfl) ?_
      have h := some_i h
      subst h
      exact x_reti X hP hS hr hlk rfl rfl dX6_kinds_84
    · have h := ite_f c_5 h
      refine lv_aload_n hx hb dX6_kinds_42 rfl (lv_at hl 0 rfl) ?_
      refine lv_iload_n hx hb dX6_kinds_43 rfl (lv_at hl 1 rfl) ?_
      refine lv_aload hx hb dX6_kinds_44 (lv_at hl 3 rfl) ?_
      refine g_X6_99 X O hP h7 dX6_kinds_46 ?_
      refine lv_iload hx hb dX6_kinds_49 (lv_at hl 5 rfl) ?_
      refine lv_aload hx hb dX6_kinds_51 (lv_at hl 3 rfl) ?_
      refine g_X6_105 X O hP h7 dX6_kinds_53 ?_
      refine x_calli (x_runS X hP hS hl.1 (As := [.int v9, .int (σ0 n7 3)]) (rest := [.int (σ0 n7 1), .int v1, .ref (ta Θ 0)]) (k_X6_lastsOf O v9 (σ0 n7 3) σ0 rfl) wM_X6_186 wT_yX6_lastsOf wN_X6 wC_yX6_lastsOf hd_X6_lastsOf rfl ⟨rfl, rfl⟩ ⟨(Nat.le_of_ble_eq_true rfl), (Nat.le_of_ble_eq_true rfl)⟩ ⟨Nat.zero_le _, Nat.zero_le _⟩ rfl (Nat.le_of_ble_eq_true rfl) dX6_kinds_56) hS (fun H locs hP hS => ?_)
      refine lv_iload hx hb dX6_kinds_59 (lv_at hl 2 rfl) ?_
      obtain ⟨z_6, e_7, h⟩ := ob_s h
      refine x_calli (x_runV X O hP hS hl.1 (As := [.int v1, .int (σ0 n7 1), .int (X6_lastsOf v9 (σ0 n7 3)), .int v5]) (rest := []) (k_X6_couldBe O v1 (σ0 n7 1) (X6_lastsOf v9 (σ0 n7 3)) v5 σ0 e_7) lt_X6 (e_X6 _) rfl wM_X6_182 wI_yX6_couldBe wS_yX6_couldBe wN_X6 wC_yX6_couldBe hd_X6_couldBe rfl ⟨rfl, rfl⟩ ⟨(Nat.le_of_ble_eq_true rfl), (Nat.le_of_ble_eq_true rfl)⟩ ⟨Nat.zero_le _, Nat.zero_le _⟩ rfl (Nat.le_of_ble_eq_true rfl) dX6_kinds_61) hS (fun H locs hP hS => ?_)
      refine lv_if_eq (tgt := 76) hx hb dX6_kinds_64 (by decide) (fun c_8 => ?_) (fun c_8 => ?_)
      · have h := ite_t c_8 h
        refine lv_iinc (v := v9 + 1) (lv' := [(9, .int (v9 + 1)), (0, .ref (ta Θ 0)), (1, .int v1), (5, .int v5), (7, .ref (ta Θ n7)), (8, .int v8)]) hx hb dX6_kinds_76 hl (k := 5) rfl rfl (by decide) rfl (fun ls hl => ?_)
        refine lv_goto (tgt := 36) hx hb dX6_kinds_79 (by decide) ?_
        exact ih v8 (v9 + 1) z_6.2 h _ _ _ hP hS (lv_sub hl [1, 2, 3, 4, 5, 0] rfl)
      · have h := ite_f c_8 h
        refine lv_iload hx hb dX6_kinds_67 (lv_at hl 4 rfl) ?_
        refine lv_iconst (v := 1) hx hb dX6_kinds_69 (by decide) ?_
        refine lv_iload hx hb dX6_kinds_70 (lv_at hl 5 rfl) ?_
        refine lv_ishl hx hb dX6_kinds_72 ?_
        refine lv_ior hx hb dX6_kinds_73 ?_
        obtain ⟨v8_9, e_10, h⟩ := bnd_s h
        refine lv_nam e_10 ?_
        refine lv_istore (lv' := [(8, .int v8_9), (0, .ref (ta Θ 0)), (1, .int v1), (5, .int v5), (7, .ref (ta Θ n7)), (9, .int v9)]) hx hb dX6_kinds_74 hl (by decide) rfl (fun ls hl => ?_)
        refine lv_iinc (v := v9 + 1) (lv' := [(9, .int (v9 + 1)), (8, .int v8_9), (0, .ref (ta Θ 0)), (1, .int v1), (5, .int v5), (7, .ref (ta Θ n7))]) hx hb dX6_kinds_76 hl (k := 5) rfl rfl (by decide) rfl (fun ls hl => ?_)
        refine lv_goto (tgt := 36) hx hb dX6_kinds_79 (by decide) ?_
        exact ih v8_9 (v9 + 1) z_6.2 h _ _ _ hP hS (lv_sub hl [2, 3, 4, 5, 1, 0] rfl)
theorem hd_X6_kinds : yX6_kinds.cls ≠ "java/lang/invoke/MethodHandle" ∧ yX6_kinds.cls ≠ "java/lang/invoke/VarHandle" ∧ (parseMethodDescriptor yX6_kinds.desc).map (fun d => d.parameters.length) = some 5 := by decide +kernel
set_option maxHeartbeats 4000000 in
set_option maxRecDepth 100000 in
theorem k_X6_kinds {F : Nat} {Θ : TH} {l : Launch} (O : okT Θ (eX Θ) 68) (v1 : Int32) (v2 : Int32) (v3 : Int32) (v4 : Int32) (v5 : Int32) (σ0 : Mem) {y : Int32 × Mem} (h : X6_kinds F v1 v2 v3 v4 v5 σ0 = some y) : Met l yX6_kinds (Cond.code yX6_kinds cX6_kinds 10 (some .int) :: wAll) rm_X6_kinds (va_Pc [.ref (ta Θ 0), .int v1, .int v2, .int v3, .int v4, .int v5] (tS Θ σ0)) (qI Θ y.1 y.2) 0 0 (tA Θ) := by
  refine x_ent (by decide) (Nat.le_of_ble_eq_true rfl) (fun p e s m below meth c X hr hlk hP ls hl => ?_)
  have hS : va_S (tA Θ) s.heap s.heap [] := va_S.rf
  have hl : lv_has ls 10 [(0, .ref (ta Θ 0)), (1, .int v1), (2, .int v2), (3, .int v3), (4, .int v4), (5, .int v5)] := hl
  have hx := X.1
  have hb := X.2.1
  unfold X6_kinds at h
  refine lv_aload_n hx hb dX6_kinds_0 rfl (lv_at hl 0 rfl) ?_
  refine lv_iload_n hx hb dX6_kinds_1 rfl (lv_at hl 1 rfl) ?_
  refine lv_iload_n hx hb dX6_kinds_2 rfl (lv_at hl 2 rfl) ?_
  refine lv_iload_n hx hb dX6_kinds_3 rfl (lv_at hl 3 rfl) ?_
  refine lv_iload hx hb dX6_kinds_4 (lv_at hl 4 rfl) ?_
  refine lv_iload hx hb dX6_kinds_6 (lv_at hl 5 rfl) ?_
  refine lv_iconst (v := 0) hx hb dX6_kinds_8 (by decide) ?_
  obtain ⟨z_1, e_2, h⟩ := ob_s h
  refine x_calli (x_runV X O hP hS hl.1 (As := [.int v1, .int v2, .int v3, .int v4, .int v5, .int 0]) (rest := []) (k_X6_refusalOfReadLoans O v1 v2 v3 v4 v5 (0 : Int32) σ0 e_2) lt_X6 (e_X6 _) rfl wM_X6_178 wI_yX6_refusalOfReadLoans wS_yX6_refusalOfReadLoans wN_X6 wC_yX6_refusalOfReadLoans hd_X6_refusalOfReadLoans rfl ⟨rfl, rfl⟩ ⟨(Nat.le_of_ble_eq_true rfl), (Nat.le_of_ble_eq_true rfl)⟩ ⟨Nat.zero_le _, Nat.zero_le _⟩ rfl (Nat.le_of_ble_eq_true rfl) dX6_kinds_9) hS (fun H locs hP hS => ?_)
  refine lv_istore (lv' := [(6, .int z_1.1), (0, .ref (ta Θ 0)), (1, .int v1), (2, .int v2), (3, .int v3), (4, .int v4), (5, .int v5)]) hx hb dX6_kinds_12 hl (by decide) rfl (fun ls hl => ?_)
  refine lv_iload hx hb dX6_kinds_14 (lv_at hl 0 rfl) ?_
  refine lv_if_eq (tgt := 22) hx hb dX6_kinds_16 (by decide) (fun c_3 => ?_) (fun c_3 => ?_)
  · have h := ite_t c_3 h
    refine lv_aload_n hx hb dX6_kinds_22 rfl (lv_at hl 1 rfl) ?_
    refine g_X6_19 X O hP dX6_kinds_23 ?_
    refine lv_iload_n hx hb dX6_kinds_26 rfl (lv_at hl 2 rfl) ?_
    obtain ⟨g_4, h⟩ := grd_s h
    refine x_aald X O hP (k := 2) (n := 6) (t0 := 3) (C := "LentYouths$Person") (g := fun j => 22 + j) (by decide) rfl rfl g_4 dX6_kinds_27 ?_
    refine lv_astore (lv' := [(7, .ref (ta Θ (22 + v1.toNatClampNeg))), (6, .int z_1.1), (0, .ref (ta Θ 0)), (1, .int v1), (2, .int v2), (3, .int v3), (4, .int v4), (5, .int v5)]) hx hb dX6_kinds_28 hl (by decide) rfl (fun ls hl => ?_)
    refine lv_iconst (v := 0) hx hb dX6_kinds_30 (by decide) ?_
    refine lv_istore (lv' := [(8, .int 0), (7, .ref (ta Θ (22 + v1.toNatClampNeg))), (6, .int z_1.1), (0, .ref (ta Θ 0)), (1, .int v1), (2, .int v2), (3, .int v3), (4, .int v4), (5, .int v5)]) hx hb dX6_kinds_31 hl (by decide) rfl (fun ls hl => ?_)
    refine lv_iconst (v := 0) hx hb dX6_kinds_33 (by decide) ?_
    refine lv_istore (lv' := [(9, .int 0), (8, .int 0), (7, .ref (ta Θ (22 + v1.toNatClampNeg))), (6, .int z_1.1), (0, .ref (ta Θ 0)), (1, .int v1), (2, .int v2), (3, .int v3), (4, .int v4), (5, .int v5)]) hx hb dX6_kinds_34 hl (by decide) rfl (fun ls hl => ?_)
    refine w_X6_kinds_L36 X O hr hlk (isPe_at g_4) v1 v5  _ (0 : Int32) (0 : Int32) z_1.2 h _ _ _ hP hS (lv_sub hl [4, 5, 9, 2, 1, 0] rfl)
  · have h := ite_f c_3 h
    refine lv_iload hx hb dX6_kinds_19 (lv_at hl 0 rfl) ?_
    have h := some_i h
    subst h
    exact x_reti X hP hS hr hlk rfl rfl dX6_kinds_21
abbrev rm_X6_wears : Room := { frames := 4, cells := 0, slots := 0, locals := 98 }
set_option maxHeartbeats 4000000 in
set_option maxRecDepth 100000 in
theorem w_X6_wears_L36 {F : Nat} {Θ : TH} {p : Program} {l : Launch} {e : Env} {s : State} {m : MethodId} {args : Array Value} {below : List Frame} {meth : Method} {c : Code} (X : CX Θ p s m args c RX6 cX6_wears 10) (O : okT Θ (eX Θ) 68) (hr : meth.sig.returnType = some .int) (hlk : meth.locks = false) {n7 : Nat} (h7 : isPe n7) (v1 : Int32) (v5 : Int32) {y : Int32 × Mem} :
    ∀ (f : Nat) (v8 : Int32) (v9 : Int32) (σ0 : Mem), X6_wears_L36 F v1 v5 n7 f v8 v9 σ0 = some y → ∀ (H : Heap) (locs : List Loc) (ls : Array Slot), va_P (tD Θ) vwCl (tw Θ σ0) H → va_S (tA Θ) s.heap H locs → lv_has ls 10 [(0, .ref (ta Θ 0)), (1, .int v1), (5, .int v5), (7, .ref (ta Θ n7)), (8, .int v8), (9, .int v9)] → W p l e rm_X6_wears s m args below meth c H locs 0 0 (MQ below (qI Θ y.1 y.2) args s 0 0 (tA Θ)) (F0 m 36 ls []) := by
  have hx := X.1
  have hb := X.2.1
  intro f
  induction f with
  | zero => intro v8 v9 σ0 h; cases h
  | succ f ih =>
    intro v8 v9 σ0 h H locs ls hP hS hl
    rw [X6_wears_L36] at h
    refine lv_iload hx hb dX6_wears_36 (lv_at hl 5 rfl) ?_
    refine lv_bipush (v := 9) hx hb dX6_wears_38 (by decide) ?_
    refine lv_icmp_gt (tgt := 83) hx hb dX6_wears_40 (by decide) (fun c_5 => ?_) (fun c_5 => ?_)
    · have h := ite_t c_5 h
      refine lv_iload hx hb dX6_wears_83 (lv_at hl 4 rfl) ?_
      have h := some_i h
      subst h
      exact x_reti X hP hS hr hlk rfl rfl dX6_wears_85
    · have h := ite_f c_5 h
      refine lv_aload_n hx hb dX6_wears_43 rfl (lv_at hl 0 rfl) ?_
      refine lv_iload_n hx hb dX6_wears_44 rfl (lv_at hl 1 rfl) ?_
      refine lv_aload hx hb dX6_wears_45 (lv_at hl 3 rfl) ?_
      refine g_X6_99 X O hP h7 dX6_wears_47 ?_
      refine lv_aload hx hb dX6_wears_50 (lv_at hl 3 rfl) ?_
      refine g_X6_96 X O hP h7 dX6_wears_52 ?_
      refine lv_iload hx hb dX6_wears_55 (lv_at hl 5 rfl) ?_
      refine x_calli (x_runS X hP hS hl.1 (As := [.int (σ0 n7 0), .int v9]) (rest := [.int (σ0 n7 1), .int v1, .ref (ta Θ 0)]) (k_X6_lastsOf O (σ0 n7 0) v9 σ0 rfl) wM_X6_186 wT_yX6_lastsOf wN_X6 wC_yX6_lastsOf hd_X6_lastsOf rfl ⟨rfl, rfl⟩ ⟨(Nat.le_of_ble_eq_true rfl), (Nat.le_of_ble_eq_true rfl)⟩ ⟨Nat.zero_le _, Nat.zero_le _⟩ rfl (Nat.le_of_ble_eq_true rfl) dX6_wears_57) hS (fun H locs hP hS => ?_)
      refine lv_iload hx hb dX6_wears_60 (lv_at hl 2 rfl) ?_
      obtain ⟨z_6, e_7, h⟩ := ob_s h
      refine x_calli (x_runV X O hP hS hl.1 (As := [.int v1, .int (σ0 n7 1), .int (X6_lastsOf (σ0 n7 0) v9), .int v5]) (rest := []) (k_X6_couldBe O v1 (σ0 n7 1) (X6_lastsOf (σ0 n7 0) v9) v5 σ0 e_7) lt_X6 (e_X6 _) rfl wM_X6_182 wI_yX6_couldBe wS_yX6_couldBe wN_X6 wC_yX6_couldBe hd_X6_couldBe rfl ⟨rfl, rfl⟩ ⟨(Nat.le_of_ble_eq_true rfl), (Nat.le_of_ble_eq_true rfl)⟩ ⟨Nat.zero_le _, Nat.zero_le _⟩ rfl (Nat.le_of_ble_eq_true rfl) dX6_wears_62) hS (fun H locs hP hS => ?_)
      refine lv_if_eq (tgt := 77) hx hb dX6_wears_65 (by decide) (fun c_8 => ?_) (fun c_8 => ?_)
      · have h := ite_t c_8 h
        refine lv_iinc (v := v9 + 1) (lv' := [(9, .int (v9 + 1)), (0, .ref (ta Θ 0)), (1, .int v1), (5, .int v5), (7, .ref (ta Θ n7)), (8, .int v8)]) hx hb dX6_wears_77 hl (k := 5) rfl rfl (by decide) rfl (fun ls hl => ?_)
        refine lv_goto (tgt := 36) hx hb dX6_wears_80 (by decide) ?_
        exact ih v8 (v9 + 1) z_6.2 h _ _ _ hP hS (lv_sub hl [1, 2, 3, 4, 5, 0] rfl)
      · have h := ite_f c_8 h
        refine lv_iload hx hb dX6_wears_68 (lv_at hl 4 rfl) ?_
        refine lv_iconst (v := 1) hx hb dX6_wears_70 (by decide) ?_
        refine lv_iload hx hb dX6_wears_71 (lv_at hl 5 rfl) ?_
        refine lv_ishl hx hb dX6_wears_73 ?_
        refine lv_ior hx hb dX6_wears_74 ?_
        obtain ⟨v8_9, e_10, h⟩ := bnd_s h
        refine lv_nam e_10 ?_
        refine lv_istore (lv' := [(8, .int v8_9), (0, .ref (ta Θ 0)), (1, .int v1), (5, .int v5), (7, .ref (ta Θ n7)), (9, .int v9)]) hx hb dX6_wears_75 hl (by decide) rfl (fun ls hl => ?_)
        refine lv_iinc (v := v9 + 1) (lv' := [(9, .int (v9 + 1)), (8, .int v8_9), (0, .ref (ta Θ 0)), (1, .int v1), (5, .int v5), (7, .ref (ta Θ n7))]) hx hb dX6_wears_77 hl (k := 5) rfl rfl (by decide) rfl (fun ls hl => ?_)
        refine lv_goto (tgt := 36) hx hb dX6_wears_80 (by decide) ?_
        exact ih v8_9 (v9 + 1) z_6.2 h _ _ _ hP hS (lv_sub hl [2, 3, 4, 5, 1, 0] rfl)
theorem hd_X6_wears : yX6_wears.cls ≠ "java/lang/invoke/MethodHandle" ∧ yX6_wears.cls ≠ "java/lang/invoke/VarHandle" ∧ (parseMethodDescriptor yX6_wears.desc).map (fun d => d.parameters.length) = some 5 := by decide +kernel
set_option maxHeartbeats 4000000 in
set_option maxRecDepth 100000 in
theorem k_X6_wears {F : Nat} {Θ : TH} {l : Launch} (O : okT Θ (eX Θ) 68) (v1 : Int32) (v2 : Int32) (v3 : Int32) (v4 : Int32) (v5 : Int32) (σ0 : Mem) {y : Int32 × Mem} (h : X6_wears F v1 v2 v3 v4 v5 σ0 = some y) : Met l yX6_wears (Cond.code yX6_wears cX6_wears 10 (some .int) :: wAll) rm_X6_wears (va_Pc [.ref (ta Θ 0), .int v1, .int v2, .int v3, .int v4, .int v5] (tS Θ σ0)) (qI Θ y.1 y.2) 0 0 (tA Θ) := by
  refine x_ent (by decide) (Nat.le_of_ble_eq_true rfl) (fun p e s m below meth c X hr hlk hP ls hl => ?_)
  have hS : va_S (tA Θ) s.heap s.heap [] := va_S.rf
  have hl : lv_has ls 10 [(0, .ref (ta Θ 0)), (1, .int v1), (2, .int v2), (3, .int v3), (4, .int v4), (5, .int v5)] := hl
  have hx := X.1
  have hb := X.2.1
  unfold X6_wears at h
  refine lv_aload_n hx hb dX6_wears_0 rfl (lv_at hl 0 rfl) ?_
  refine lv_iload_n hx hb dX6_wears_1 rfl (lv_at hl 1 rfl) ?_
  refine lv_iload_n hx hb dX6_wears_2 rfl (lv_at hl 2 rfl) ?_
  refine lv_iload_n hx hb dX6_wears_3 rfl (lv_at hl 3 rfl) ?_
  refine lv_iload hx hb dX6_wears_4 (lv_at hl 4 rfl) ?_
  refine lv_iload hx hb dX6_wears_6 (lv_at hl 5 rfl) ?_
  refine lv_iconst (v := 0) hx hb dX6_wears_8 (by decide) ?_
  obtain ⟨z_1, e_2, h⟩ := ob_s h
  refine x_calli (x_runV X O hP hS hl.1 (As := [.int v1, .int v2, .int v3, .int v4, .int v5, .int 0]) (rest := []) (k_X6_refusalOfReadLoans O v1 v2 v3 v4 v5 (0 : Int32) σ0 e_2) lt_X6 (e_X6 _) rfl wM_X6_178 wI_yX6_refusalOfReadLoans wS_yX6_refusalOfReadLoans wN_X6 wC_yX6_refusalOfReadLoans hd_X6_refusalOfReadLoans rfl ⟨rfl, rfl⟩ ⟨(Nat.le_of_ble_eq_true rfl), (Nat.le_of_ble_eq_true rfl)⟩ ⟨Nat.zero_le _, Nat.zero_le _⟩ rfl (Nat.le_of_ble_eq_true rfl) dX6_wears_9) hS (fun H locs hP hS => ?_)
  refine lv_istore (lv' := [(6, .int z_1.1), (0, .ref (ta Θ 0)), (1, .int v1), (2, .int v2), (3, .int v3), (4, .int v4), (5, .int v5)]) hx hb dX6_wears_12 hl (by decide) rfl (fun ls hl => ?_)
  refine lv_iload hx hb dX6_wears_14 (lv_at hl 0 rfl) ?_
  refine lv_if_eq (tgt := 22) hx hb dX6_wears_16 (by decide) (fun c_3 => ?_) (fun c_3 => ?_)
  · have h := ite_t c_3 h
    refine lv_aload_n hx hb dX6_wears_22 rfl (lv_at hl 1 rfl) ?_
    refine g_X6_19 X O hP dX6_wears_23 ?_
    refine lv_iload_n hx hb dX6_wears_26 rfl (lv_at hl 2 rfl) ?_
    obtain ⟨g_4, h⟩ := grd_s h
    refine x_aald X O hP (k := 2) (n := 6) (t0 := 3) (C := "LentYouths$Person") (g := fun j => 22 + j) (by decide) rfl rfl g_4 dX6_wears_27 ?_
    refine lv_astore (lv' := [(7, .ref (ta Θ (22 + v1.toNatClampNeg))), (6, .int z_1.1), (0, .ref (ta Θ 0)), (1, .int v1), (2, .int v2), (3, .int v3), (4, .int v4), (5, .int v5)]) hx hb dX6_wears_28 hl (by decide) rfl (fun ls hl => ?_)
    refine lv_iconst (v := 0) hx hb dX6_wears_30 (by decide) ?_
    refine lv_istore (lv' := [(8, .int 0), (7, .ref (ta Θ (22 + v1.toNatClampNeg))), (6, .int z_1.1), (0, .ref (ta Θ 0)), (1, .int v1), (2, .int v2), (3, .int v3), (4, .int v4), (5, .int v5)]) hx hb dX6_wears_31 hl (by decide) rfl (fun ls hl => ?_)
    refine lv_iconst (v := 1) hx hb dX6_wears_33 (by decide) ?_
    refine lv_istore (lv' := [(9, .int 1), (8, .int 0), (7, .ref (ta Θ (22 + v1.toNatClampNeg))), (6, .int z_1.1), (0, .ref (ta Θ 0)), (1, .int v1), (2, .int v2), (3, .int v3), (4, .int v4), (5, .int v5)]) hx hb dX6_wears_34 hl (by decide) rfl (fun ls hl => ?_)
    refine w_X6_wears_L36 X O hr hlk (isPe_at g_4) v1 v5  _ (0 : Int32) (1 : Int32) z_1.2 h _ _ _ hP hS (lv_sub hl [4, 5, 9, 2, 1, 0] rfl)
  · have h := ite_f c_3 h
    refine lv_iload hx hb dX6_wears_19 (lv_at hl 0 rfl) ?_
    have h := some_i h
    subst h
    exact x_reti X hP hS hr hlk rfl rfl dX6_wears_21
abbrev rm_X6_odds : Room := { frames := 4, cells := 0, slots := 0, locals := 98 }
theorem hd_X6_odds : yX6_odds.cls ≠ "java/lang/invoke/MethodHandle" ∧ yX6_odds.cls ≠ "java/lang/invoke/VarHandle" ∧ (parseMethodDescriptor yX6_odds.desc).map (fun d => d.parameters.length) = some 6 := by decide +kernel
set_option maxHeartbeats 4000000 in
set_option maxRecDepth 100000 in
theorem k_X6_odds {F : Nat} {Θ : TH} {l : Launch} (O : okT Θ (eX Θ) 68) (v1 : Int32) (v2 : Int32) (v3 : Int32) (v4 : Int32) (v5 : Int32) (v6 : Int32) (σ0 : Mem) {y : Int64 × Mem} (h : X6_odds F v1 v2 v3 v4 v5 v6 σ0 = some y) : Met l yX6_odds (Cond.code yX6_odds cX6_odds 9 (some .long) :: wAll) rm_X6_odds (va_Pc [.ref (ta Θ 0), .int v1, .int v2, .int v3, .int v4, .int v5, .int v6] (tS Θ σ0)) (qL Θ y.1 y.2) 0 0 (tA Θ) := by
  refine x_ent (by decide) (Nat.le_of_ble_eq_true rfl) (fun p e s m below meth c X hr hlk hP ls hl => ?_)
  have hS : va_S (tA Θ) s.heap s.heap [] := va_S.rf
  have hl : lv_has ls 9 [(0, .ref (ta Θ 0)), (1, .int v1), (2, .int v2), (3, .int v3), (4, .int v4), (5, .int v5), (6, .int v6)] := hl
  have hx := X.1
  have hb := X.2.1
  unfold X6_odds at h
  refine lv_aload_n hx hb dX6_odds_0 rfl (lv_at hl 0 rfl) ?_
  refine lv_iload_n hx hb dX6_odds_1 rfl (lv_at hl 1 rfl) ?_
  refine lv_iload_n hx hb dX6_odds_2 rfl (lv_at hl 2 rfl) ?_
  refine lv_iload_n hx hb dX6_odds_3 rfl (lv_at hl 3 rfl) ?_
  refine lv_iload hx hb dX6_odds_4 (lv_at hl 4 rfl) ?_
  refine lv_iload hx hb dX6_odds_6 (lv_at hl 5 rfl) ?_
  refine lv_iload hx hb dX6_odds_8 (lv_at hl 6 rfl) ?_
  obtain ⟨z_1, e_2, h⟩ := ob_s h
  refine x_calli (x_runV X O hP hS hl.1 (As := [.int v1, .int v2, .int v3, .int v4, .int v5, .int v6]) (rest := []) (k_X6_refusalOfReadLoans O v1 v2 v3 v4 v5 v6 σ0 e_2) lt_X6 (e_X6 _) rfl wM_X6_178 wI_yX6_refusalOfReadLoans wS_yX6_refusalOfReadLoans wN_X6 wC_yX6_refusalOfReadLoans hd_X6_refusalOfReadLoans rfl ⟨rfl, rfl⟩ ⟨(Nat.le_of_ble_eq_true rfl), (Nat.le_of_ble_eq_true rfl)⟩ ⟨Nat.zero_le _, Nat.zero_le _⟩ rfl (Nat.le_of_ble_eq_true rfl) dX6_odds_10) hS (fun H locs hP hS => ?_)
  refine lv_if_eq (tgt := 20) hx hb dX6_odds_13 (by decide) (fun c_3 => ?_) (fun c_3 => ?_)
  · have h := ite_t c_3 h
    refine lv_aload_n hx hb dX6_odds_20 rfl (lv_at hl 0 rfl) ?_
    refine g_X6_33 X O hP dX6_odds_21 ?_
    refine lv_aload_n hx hb dX6_odds_24 rfl (lv_at hl 0 rfl) ?_
    refine g_X6_19 X O hP dX6_odds_25 ?_
    refine lv_aload_n hx hb dX6_odds_28 rfl (lv_at hl 0 rfl) ?_
    refine g_X6_55 X O hP dX6_odds_29 ?_
    obtain ⟨σ_4, e_5, h⟩ := ob_s h
    refine x_callv (x_runV X O hP hS hl.1 (As := [.ref (ta Θ 2), .int (z_1.2 0 7)]) (rest := []) (k_X0_begin O isEx_28 (z_1.2 0 7) z_1.2 e_5) (lt_X0 isEx_28) (e_X0 isEx_28 _) rfl wM_X6_122 wI_yX0_begin wS_yX0_begin wN_X0 wC_yX0_begin hd_X0_begin rfl ⟨rfl, rfl⟩ ⟨(Nat.le_of_ble_eq_true rfl), (Nat.le_of_ble_eq_true rfl)⟩ ⟨Nat.zero_le _, Nat.zero_le _⟩ rfl (Nat.le_of_ble_eq_true rfl) dX6_odds_32) hS (fun H locs hP hS => ?_)
    refine lv_aload_n hx hb dX6_odds_35 rfl (lv_at hl 0 rfl) ?_
    refine g_X6_33 X O hP dX6_odds_36 ?_
    refine lv_aload_n hx hb dX6_odds_39 rfl (lv_at hl 0 rfl) ?_
    refine g_X6_51 X O hP dX6_odds_40 ?_
    refine lv_iload hx hb dX6_odds_43 (lv_at hl 5 rfl) ?_
    obtain ⟨z_6, e_7, h⟩ := ob_s h
    refine x_calli (x_runV X O hP hS hl.1 (As := [.ref (ta Θ 13), .int v5]) (rest := []) (k_X0_play O isEx_28 v5 σ_4 e_7) (lt_X0 isEx_28) (e_X0 isEx_28 _) rfl wM_X6_126 wI_yX0_play wS_yX0_play wN_X0 wC_yX0_play hd_X0_play rfl ⟨rfl, rfl⟩ ⟨(Nat.le_of_ble_eq_true rfl), (Nat.le_of_ble_eq_true rfl)⟩ ⟨Nat.zero_le _, Nat.zero_le _⟩ rfl (Nat.le_of_ble_eq_true rfl) dX6_odds_45) hS (fun H locs hP hS => ?_)
    refine lv_bipush (v := (-9)) hx hb dX6_odds_48 (by decide) ?_
    refine lv_icmp_eq (tgt := 57) hx hb dX6_odds_50 (by decide) (fun c_8 => ?_) (fun c_8 => ?_)
    · have h := ite_t c_8 h
      refine lv_aload_n hx hb dX6_odds_57 rfl (lv_at hl 0 rfl) ?_
      refine g_X6_19 X O hP dX6_odds_58 ?_
      refine lv_iload_n hx hb dX6_odds_61 rfl (lv_at hl 1 rfl) ?_
      obtain ⟨g_9, h⟩ := grd_s h
      refine x_aald X O hP (k := 2) (n := 6) (t0 := 3) (C := "LentYouths$Person") (g := fun j => 22 + j) (by decide) rfl rfl g_9 dX6_odds_62 ?_
      refine g_X6_102 X O hP (isPe_at g_9) dX6_odds_63 ?_
      refine lv_bipush (v := 6) hx hb dX6_odds_66 (by decide) ?_
      refine lv_icmp_ne (tgt := 73) hx hb dX6_odds_68 (by decide) (fun c_10 => ?_) (fun c_10 => ?_)
      · have h := ite_f c_10 h
        refine lv_lconst (v := 1) hx hb dX6_odds_73 (by decide) ?_
        refine lv_aload_n hx hb dX6_odds_74 rfl (lv_at hl 0 rfl) ?_
        refine g_X6_33 X O hP dX6_odds_75 ?_
        refine lv_iload_n hx hb dX6_odds_78 rfl (lv_at hl 1 rfl) ?_
        refine lv_aload_n hx hb dX6_odds_79 rfl (lv_at hl 0 rfl) ?_
        refine g_X6_19 X O hP dX6_odds_80 ?_
        refine lv_iload_n hx hb dX6_odds_83 rfl (lv_at hl 1 rfl) ?_
        obtain ⟨g_11, h⟩ := grd_s h
        refine x_aald X O hP (k := 2) (n := 6) (t0 := 3) (C := "LentYouths$Person") (g := fun j => 22 + j) (by decide) rfl rfl g_11 dX6_odds_84 ?_
        refine x_calli (x_runV X O hP hS hl.1 (As := []) (rest := [.int v1, .ref (ta Θ 28), .long 1]) (k_X3_wantedSet O (isPe_at g_11) z_6.2 rfl) (lt_X3 (isPe_at g_11)) (e_X3 (isPe_at g_11) _) rfl wM_X6_171 wI_yX3_wantedSet wS_yX3_wantedSet wN_X3 wC_yX3_wantedSet hd_X3_wantedSet rfl ⟨rfl, rfl⟩ ⟨(Nat.le_of_ble_eq_true rfl), (Nat.le_of_ble_eq_true rfl)⟩ ⟨Nat.zero_le _, Nat.zero_le _⟩ rfl (Nat.le_of_ble_eq_true rfl) dX6_odds_85) hS (fun H locs hP hS => ?_)
        obtain ⟨z_12, e_13, h⟩ := ob_s h
        refine x_calli (x_runV X O hP hS hl.1 (As := [.int v1, .int (X3_wantedSet (22 + v1.toNatClampNeg) z_6.2)]) (rest := [.long 1]) (k_X0_childhoodsThatShowed O isEx_28 v1 (X3_wantedSet (22 + v1.toNatClampNeg) z_6.2) z_6.2 e_13) (lt_X0 isEx_28) (e_X0 isEx_28 _) rfl wM_X6_191 wI_yX0_childhoodsThatShowed wS_yX0_childhoodsThatShowed wN_X0 wC_yX0_childhoodsThatShowed hd_X0_childhoodsThatShowed rfl ⟨rfl, rfl⟩ ⟨(Nat.le_of_ble_eq_true rfl), (Nat.le_of_ble_eq_true rfl)⟩ ⟨Nat.zero_le _, Nat.zero_le _⟩ rfl (Nat.le_of_ble_eq_true rfl) dX6_odds_88) hS (fun H locs hP hS => ?_)
        refine lv_lshl (v := (1 : Int64) <<< (z_12.toInt64 &&& 63)) hx hb dX6_odds_91 rfl ?_
        obtain ⟨v7_14, e_15, h⟩ := bnd_s h
        refine lv_namL e_15 ?_
        refine lv_lstore (lv' := [(7, .long v7_14), (0, .ref (ta Θ 0)), (1, .int v1), (2, .int v2), (3, .int v3), (4, .int v4), (5, .int v5), (6, .int v6)]) hx hb dX6_odds_92 hl (by decide) rfl (fun ls hl => ?_)
        refine lv_iload hx hb dX6_odds_94 (lv_at hl 7 rfl) ?_
        refine lv_if_ne (tgt := 106) hx hb dX6_odds_96 (by decide) (fun c_16 => ?_) (fun c_16 => ?_)
        · have h := ite_f c_16 h
          refine lv_lload hx hb dX6_odds_106 (lv_at hl 0 rfl) ?_
          have h := some_i h
          subst h
          exact x_retl X hP hS hr hlk rfl rfl dX6_odds_108
        · have h := ite_t c_16 h
          refine lv_lload hx hb dX6_odds_99 (lv_at hl 0 rfl) ?_
          refine lv_lconst (v := 1) hx hb dX6_odds_101 (by decide) ?_
          refine lv_lsub hx hb dX6_odds_102 ?_
          refine lv_goto (tgt := 108) hx hb dX6_odds_103 (by decide) ?_
          have h := some_i h
          subst h
          exact x_retl X hP hS hr hlk rfl rfl dX6_odds_108
      · have h := ite_t c_10 h
        refine lv_lconst (v := 1) hx hb dX6_odds_71 (by decide) ?_
        have h := some_i h
        subst h
        exact x_retl X hP hS hr hlk rfl rfl dX6_odds_72
    · have h := ite_f c_8 h
      refine lv_ldc2 (v := (-9223372036854775808)) hx hb X.2.2.2.1 (X.2.2.2.2.1 _ wL_X6_189) dX6_odds_53 ?_
      have h := some_i h
      subst h
      exact x_retl X hP hS hr hlk rfl rfl dX6_odds_56
  · have h := ite_f c_3 h
    refine lv_ldc2 (v := (-9223372036854775808)) hx hb X.2.2.2.1 (X.2.2.2.2.1 _ wL_X6_189) dX6_odds_16 ?_
    have h := some_i h
    subst h
    exact x_retl X hP hS hr hlk rfl rfl dX6_odds_19
abbrev rm_X6_sheet : Room := { frames := 1, cells := 0, slots := 0, locals := 23 }
theorem hd_X6_sheet : yX6_sheet.cls ≠ "java/lang/invoke/MethodHandle" ∧ yX6_sheet.cls ≠ "java/lang/invoke/VarHandle" ∧ (parseMethodDescriptor yX6_sheet.desc).map (fun d => d.parameters.length) = some 3 := by decide +kernel
set_option maxHeartbeats 4000000 in
set_option maxRecDepth 100000 in
theorem k_X6_sheet {F : Nat} {Θ : TH} {l : Launch} (O : okT Θ (eX Θ) 68) (v1 : Int32) (v2 : Int32) (v3 : Int32) (σ0 : Mem) {y : Int32 × Mem} (h : X6_sheet F v1 v2 v3 σ0 = some y) : Met l yX6_sheet (Cond.code yX6_sheet cX6_sheet 4 (some .int) :: wAll) rm_X6_sheet (va_Pc [.ref (ta Θ 0), .int v1, .int v2, .int v3] (tS Θ σ0)) (qI Θ y.1 y.2) 0 0 (tA Θ) := by
  refine x_ent (by decide) (Nat.le_of_ble_eq_true rfl) (fun p e s m below meth c X hr hlk hP ls hl => ?_)
  have hS : va_S (tA Θ) s.heap s.heap [] := va_S.rf
  have hl : lv_has ls 4 [(0, .ref (ta Θ 0)), (1, .int v1), (2, .int v2), (3, .int v3)] := hl
  have hx := X.1
  have hb := X.2.1
  unfold X6_sheet at h
  refine lv_aload_n hx hb dX6_sheet_0 rfl (lv_at hl 0 rfl) ?_
  refine lv_iconst (v := 0) hx hb dX6_sheet_1 (by decide) ?_
  obtain ⟨σ_1, e_2, h⟩ := bnd_s h
  refine p_X6_62 X O hP hS dX6_sheet_2 e_2 (fun H locs hP hS => ?_)
  refine lv_iload_n hx hb dX6_sheet_5 rfl (lv_at hl 1 rfl) ?_
  refine x_calli (x_runS X hP hS hl.1 (As := [.int v1]) (rest := []) (k_X6_isSheet O v1 σ_1 rfl) wM_X6_67 wT_yX6_isSheet wN_X6 wC_yX6_isSheet hd_X6_isSheet rfl ⟨rfl, rfl⟩ ⟨(Nat.le_of_ble_eq_true rfl), (Nat.le_of_ble_eq_true rfl)⟩ ⟨Nat.zero_le _, Nat.zero_le _⟩ rfl (Nat.le_of_ble_eq_true rfl) dX6_sheet_6) hS (fun H locs hP hS => ?_)
  refine lv_if_ne (tgt := 14) hx hb dX6_sheet_9 (by decide) (fun c_3 => ?_) (fun c_3 => ?_)
  · have h := ite_f c_3 h
    refine lv_iload_n hx hb dX6_sheet_14 rfl (lv_at hl 2 rfl) ?_
    refine x_calli (x_runS X hP hS hl.1 (As := [.int v2]) (rest := []) (k_X6_isLane O v2 σ_1 rfl) wM_X6_71 wT_yX6_isLane wN_X6 wC_yX6_isLane hd_X6_isLane rfl ⟨rfl, rfl⟩ ⟨(Nat.le_of_ble_eq_true rfl), (Nat.le_of_ble_eq_true rfl)⟩ ⟨Nat.zero_le _, Nat.zero_le _⟩ rfl (Nat.le_of_ble_eq_true rfl) dX6_sheet_15) hS (fun H locs hP hS => ?_)
    refine lv_if_eq (tgt := 27) hx hb dX6_sheet_18 (by decide) (fun c_4 => ?_) (fun c_4 => ?_)
    · have h := ite_t c_4 h
      refine lv_bipush (v := (-2)) hx hb dX6_sheet_27 (by decide) ?_
      have h := some_i h
      subst h
      exact x_reti X hP hS hr hlk rfl rfl dX6_sheet_29
    · have h := ite_f c_4 h
      refine lv_iload_n hx hb dX6_sheet_21 rfl (lv_at hl 3 rfl) ?_
      refine lv_bipush (v := 60) hx hb dX6_sheet_22 (by decide) ?_
      refine lv_icmp_le (tgt := 30) hx hb dX6_sheet_24 (by decide) (fun c_5 => ?_) (fun c_5 => ?_)
      · have h := ite_t c_5 h
        refine lv_iload_n hx hb dX6_sheet_30 rfl (lv_at hl 3 rfl) ?_
        refine lv_if_ge (tgt := 40) hx hb dX6_sheet_31 (by decide) (fun c_6 => ?_) (fun c_6 => ?_)
        · have h := ite_t c_6 h
          refine lv_aload_n hx hb dX6_sheet_40 rfl (lv_at hl 0 rfl) ?_
          refine g_X6_13 X O hP dX6_sheet_41 ?_
          refine lv_iload_n hx hb dX6_sheet_44 rfl (lv_at hl 1 rfl) ?_
          obtain ⟨g_7, h⟩ := grd_s h
          refine x_aald X O hP (k := 1) (n := 4) (t0 := 2) (C := "LentYouths$Sheet") (g := fun j => 14 + j) (by decide) rfl rfl g_7 dX6_sheet_45 ?_
          refine lv_iload_n hx hb dX6_sheet_46 rfl (lv_at hl 2 rfl) ?_
          refine lv_iload_n hx hb dX6_sheet_47 rfl (lv_at hl 3 rfl) ?_
          obtain ⟨σ_8, e_9, h⟩ := ob_s h
          refine x_callv (x_runV X O hP hS hl.1 (As := [.int v2, .int v3]) (rest := []) (k_X5_renew O (isSh_at g_7) v2 v3 σ_1 e_9) (lt_X5 (isSh_at g_7)) (e_X5 (isSh_at g_7) _) rfl wM_X6_202 wI_yX5_renew wS_yX5_renew wN_X5 wC_yX5_renew hd_X5_renew rfl ⟨rfl, rfl⟩ ⟨(Nat.le_of_ble_eq_true rfl), (Nat.le_of_ble_eq_true rfl)⟩ ⟨Nat.zero_le _, Nat.zero_le _⟩ rfl (Nat.le_of_ble_eq_true rfl) dX6_sheet_48) hS (fun H locs hP hS => ?_)
          refine lv_iconst (v := 1) hx hb dX6_sheet_51 (by decide) ?_
          have h := some_i h
          subst h
          exact x_reti X hP hS hr hlk rfl rfl dX6_sheet_52
        · have h := ite_f c_6 h
          refine lv_aload_n hx hb dX6_sheet_34 rfl (lv_at hl 0 rfl) ?_
          refine lv_iconst (v := 4) hx hb dX6_sheet_35 (by decide) ?_
          obtain ⟨z_10, e_11, h⟩ := bnd_s h
          refine x_calli (x_runV X O hP hS hl.1 (As := [.int 4]) (rest := []) (k_X6_faultAnswer O (4 : Int32) σ_1 e_11.symm) lt_X6 (e_X6 _) rfl wM_X6_78 wI_yX6_faultAnswer wS_yX6_faultAnswer wN_X6 wC_yX6_faultAnswer hd_X6_faultAnswer rfl ⟨rfl, rfl⟩ ⟨(Nat.le_of_ble_eq_true rfl), (Nat.le_of_ble_eq_true rfl)⟩ ⟨Nat.zero_le _, Nat.zero_le _⟩ rfl (Nat.le_of_ble_eq_true rfl) dX6_sheet_36) hS (fun H locs hP hS => ?_)
          have h := some_i h
          subst h
          exact x_reti X hP hS hr hlk rfl rfl dX6_sheet_39
      · have h := ite_f c_5 h
        refine lv_bipush (v := (-2)) hx hb dX6_sheet_27 (by decide) ?_
        have h := some_i h
        subst h
        exact x_reti X hP hS hr hlk rfl rfl dX6_sheet_29
  · have h := ite_t c_3 h
    refine lv_iconst (v := (-1)) hx hb dX6_sheet_12 (by decide) ?_
    have h := some_i h
    subst h
    exact x_reti X hP hS hr hlk rfl rfl dX6_sheet_13
abbrev rm_X6_lose : Room := { frames := 1, cells := 0, slots := 0, locals := 20 }
theorem hd_X6_lose : yX6_lose.cls ≠ "java/lang/invoke/MethodHandle" ∧ yX6_lose.cls ≠ "java/lang/invoke/VarHandle" ∧ (parseMethodDescriptor yX6_lose.desc).map (fun d => d.parameters.length) = some 1 := by decide +kernel
set_option maxHeartbeats 4000000 in
set_option maxRecDepth 100000 in
theorem k_X6_lose {Θ : TH} {l : Launch} (O : okT Θ (eX Θ) 68) (v1 : Int32) (σ0 : Mem) {y : Int32 × Mem} (h : X6_lose v1 σ0 = some y) : Met l yX6_lose (Cond.code yX6_lose cX6_lose 3 (some .int) :: wAll) rm_X6_lose (va_Pc [.ref (ta Θ 0), .int v1] (tS Θ σ0)) (qI Θ y.1 y.2) 0 0 (tA Θ) := by
  refine x_ent (by decide) (Nat.le_of_ble_eq_true rfl) (fun p e s m below meth c X hr hlk hP ls hl => ?_)
  have hS : va_S (tA Θ) s.heap s.heap [] := va_S.rf
  have hl : lv_has ls 3 [(0, .ref (ta Θ 0)), (1, .int v1)] := hl
  have hx := X.1
  have hb := X.2.1
  unfold X6_lose at h
  refine lv_iload_n hx hb dX6_lose_0 rfl (lv_at hl 1 rfl) ?_
  refine x_calli (x_runS X hP hS hl.1 (As := [.int v1]) (rest := []) (k_X6_isSheet O v1 σ0 rfl) wM_X6_67 wT_yX6_isSheet wN_X6 wC_yX6_isSheet hd_X6_isSheet rfl ⟨rfl, rfl⟩ ⟨(Nat.le_of_ble_eq_true rfl), (Nat.le_of_ble_eq_true rfl)⟩ ⟨Nat.zero_le _, Nat.zero_le _⟩ rfl (Nat.le_of_ble_eq_true rfl) dX6_lose_1) hS (fun H locs hP hS => ?_)
  refine lv_if_ne (tgt := 9) hx hb dX6_lose_4 (by decide) (fun c_1 => ?_) (fun c_1 => ?_)
  · have h := ite_f c_1 h
    refine lv_aload_n hx hb dX6_lose_9 rfl (lv_at hl 0 rfl) ?_
    refine g_X6_13 X O hP dX6_lose_10 ?_
    refine lv_iload_n hx hb dX6_lose_13 rfl (lv_at hl 1 rfl) ?_
    obtain ⟨g_2, h⟩ := grd_s h
    refine x_aald X O hP (k := 1) (n := 4) (t0 := 2) (C := "LentYouths$Sheet") (g := fun j => 14 + j) (by decide) rfl rfl g_2 dX6_lose_14 ?_
    refine g_X6_206 X O hP (isSh_at g_2) dX6_lose_15 ?_
    refine lv_if_eq (tgt := 25) hx hb dX6_lose_18 (by decide) (fun c_3 => ?_) (fun c_3 => ?_)
    · have h := ite_t c_3 h
      refine lv_iconst (v := 0) hx hb dX6_lose_25 (by decide) ?_
      refine lv_istore_n (lv' := [(2, .int 0), (0, .ref (ta Θ 0)), (1, .int v1)]) hx hb dX6_lose_26 rfl hl (by decide) rfl (fun ls hl => ?_)
      refine lv_aload_n hx hb dX6_lose_27 rfl (lv_at hl 1 rfl) ?_
      refine g_X6_13 X O hP dX6_lose_28 ?_
      refine lv_iload_n hx hb dX6_lose_31 rfl (lv_at hl 2 rfl) ?_
      obtain ⟨g_4, h⟩ := grd_s h
      refine x_aald X O hP (k := 1) (n := 4) (t0 := 2) (C := "LentYouths$Sheet") (g := fun j => 14 + j) (by decide) rfl rfl g_4 dX6_lose_32 ?_
      refine lv_iconst (v := 0) hx hb dX6_lose_33 (by decide) ?_
      obtain ⟨σ_5, e_6, h⟩ := bnd_s h
      refine p_X6_206 X O hP hS (isSh_at g_4) rfl rfl dX6_lose_34 e_6 (fun H locs hP hS => ?_)
      refine lv_iload_n hx hb dX6_lose_37 rfl (lv_at hl 0 rfl) ?_
      have h := some_i h
      subst h
      exact x_reti X hP hS hr hlk rfl rfl dX6_lose_38
    · have h := ite_f c_3 h
      refine lv_iconst (v := 1) hx hb dX6_lose_21 (by decide) ?_
      refine lv_goto (tgt := 26) hx hb dX6_lose_22 (by decide) ?_
      refine lv_istore_n (lv' := [(2, .int 1), (0, .ref (ta Θ 0)), (1, .int v1)]) hx hb dX6_lose_26 rfl hl (by decide) rfl (fun ls hl => ?_)
      refine lv_aload_n hx hb dX6_lose_27 rfl (lv_at hl 1 rfl) ?_
      refine g_X6_13 X O hP dX6_lose_28 ?_
      refine lv_iload_n hx hb dX6_lose_31 rfl (lv_at hl 2 rfl) ?_
      obtain ⟨g_7, h⟩ := grd_s h
      refine x_aald X O hP (k := 1) (n := 4) (t0 := 2) (C := "LentYouths$Sheet") (g := fun j => 14 + j) (by decide) rfl rfl g_7 dX6_lose_32 ?_
      refine lv_iconst (v := 0) hx hb dX6_lose_33 (by decide) ?_
      obtain ⟨σ_8, e_9, h⟩ := bnd_s h
      refine p_X6_206 X O hP hS (isSh_at g_7) rfl rfl dX6_lose_34 e_9 (fun H locs hP hS => ?_)
      refine lv_iload_n hx hb dX6_lose_37 rfl (lv_at hl 0 rfl) ?_
      have h := some_i h
      subst h
      exact x_reti X hP hS hr hlk rfl rfl dX6_lose_38
  · have h := ite_t c_1 h
    refine lv_iconst (v := (-1)) hx hb dX6_lose_7 (by decide) ?_
    have h := some_i h
    subst h
    exact x_reti X hP hS hr hlk rfl rfl dX6_lose_8
abbrev rm_X6_cutToLane : Room := { frames := 0, cells := 0, slots := 0, locals := 0 }
theorem hd_X6_cutToLane : yX6_cutToLane.cls ≠ "java/lang/invoke/MethodHandle" ∧ yX6_cutToLane.cls ≠ "java/lang/invoke/VarHandle" ∧ (parseMethodDescriptor yX6_cutToLane.desc).map (fun d => d.parameters.length) = some 2 := by decide +kernel
set_option maxHeartbeats 4000000 in
set_option maxRecDepth 100000 in
theorem k_X6_cutToLane {Θ : TH} {l : Launch} (O : okT Θ (eX Θ) 68) (v0 : Int32) (v1 : Int32) (σ0 : Mem) {y : Int32} (h : X6_cutToLane v0 v1 = y) : Met l yX6_cutToLane (Cond.code yX6_cutToLane cX6_cutToLane 2 (some .int) :: wAll) rm_X6_cutToLane (va_Pc [.int v0, .int v1] (tS Θ σ0)) (qI Θ y σ0) 0 0 (tA Θ) := by
  refine x_ent (by decide) (Nat.le_of_ble_eq_true rfl) (fun p e s m below meth c X hr hlk hP ls hl => ?_)
  have hS : va_S (tA Θ) s.heap s.heap [] := va_S.rf
  have hl : lv_has ls 2 [(0, .int v0), (1, .int v1)] := hl
  have hx := X.1
  have hb := X.2.1
  unfold X6_cutToLane at h
  refine lv_iload_n hx hb dX6_cutToLane_0 rfl (lv_at hl 0 rfl) ?_
  by_cases c_1 : v0 = 0
  · have h := ite_t c_1 h
    refine lv_lookup (off := 27) (tgt := 28) hx hb dX6_cutToLane_1 (by decide) (by rw [c_1]; rfl) (by decide) ?_
    refine lv_iload_n hx hb dX6_cutToLane_28 rfl (lv_at hl 1 rfl) ?_
    refine lv_i2b (v := v1.toInt8.toInt32) hx hb dX6_cutToLane_29 rfl ?_
    subst h
    exact x_reti X hP hS hr hlk rfl rfl dX6_cutToLane_30
  · have h := ite_f c_1 h
    by_cases c_2 : v0 = 1
    · have h := ite_t c_2 h
      refine lv_lookup (off := 30) (tgt := 31) hx hb dX6_cutToLane_1 (by decide) (by rw [c_2]; rfl) (by decide) ?_
      refine lv_iload_n hx hb dX6_cutToLane_31 rfl (lv_at hl 1 rfl) ?_
      refine lv_i2s (v := v1.toInt16.toInt32) hx hb dX6_cutToLane_32 rfl ?_
      subst h
      exact x_reti X hP hS hr hlk rfl rfl dX6_cutToLane_33
    · have h := ite_f c_2 h
      refine lv_lookup (off := 33) (tgt := 34) hx hb dX6_cutToLane_1 (by decide) (by show Op.lookupswitch.offset [(0, 27), (1, 30)] 33 _ = 33; rw [lv_osw (a := 0) c_1 (by decide), lv_osw (a := 1) c_2 (by decide)]; rfl) (by decide) ?_
      refine lv_iload_n hx hb dX6_cutToLane_34 rfl (lv_at hl 1 rfl) ?_
      subst h
      exact x_reti X hP hS hr hlk rfl rfl dX6_cutToLane_35
abbrev rm_X6_put : Room := { frames := 2, cells := 0, slots := 0, locals := 45 }
theorem hd_X6_put : yX6_put.cls ≠ "java/lang/invoke/MethodHandle" ∧ yX6_put.cls ≠ "java/lang/invoke/VarHandle" ∧ (parseMethodDescriptor yX6_put.desc).map (fun d => d.parameters.length) = some 3 := by decide +kernel
set_option maxHeartbeats 4000000 in
set_option maxRecDepth 100000 in
theorem k_X6_put {Θ : TH} {l : Launch} (O : okT Θ (eX Θ) 68) (v1 : Int32) (v2 : Int32) (v3 : Int32) (σ0 : Mem) {y : Int32 × Mem} (h : X6_put v1 v2 v3 σ0 = some y) : Met l yX6_put (Cond.code yX6_put cX6_put 6 (some .int) :: wAll) rm_X6_put (va_Pc [.ref (ta Θ 0), .int v1, .int v2, .int v3] (tS Θ σ0)) (qI Θ y.1 y.2) 0 0 (tA Θ) := by
  refine x_ent (by decide) (Nat.le_of_ble_eq_true rfl) (fun p e s m below meth c X hr hlk hP ls hl => ?_)
  have hS : va_S (tA Θ) s.heap s.heap [] := va_S.rf
  have hl : lv_has ls 6 [(0, .ref (ta Θ 0)), (1, .int v1), (2, .int v2), (3, .int v3)] := hl
  have hx := X.1
  have hb := X.2.1
  unfold X6_put at h
  refine lv_aload_n hx hb dX6_put_0 rfl (lv_at hl 0 rfl) ?_
  refine lv_iconst (v := 0) hx hb dX6_put_1 (by decide) ?_
  obtain ⟨σ_1, e_2, h⟩ := bnd_s h
  refine p_X6_62 X O hP hS dX6_put_2 e_2 (fun H locs hP hS => ?_)
  refine lv_iload_n hx hb dX6_put_5 rfl (lv_at hl 1 rfl) ?_
  refine x_calli (x_runS X hP hS hl.1 (As := [.int v1]) (rest := []) (k_X6_isSheet O v1 σ_1 rfl) wM_X6_67 wT_yX6_isSheet wN_X6 wC_yX6_isSheet hd_X6_isSheet rfl ⟨rfl, rfl⟩ ⟨(Nat.le_of_ble_eq_true rfl), (Nat.le_of_ble_eq_true rfl)⟩ ⟨Nat.zero_le _, Nat.zero_le _⟩ rfl (Nat.le_of_ble_eq_true rfl) dX6_put_6) hS (fun H locs hP hS => ?_)
  refine lv_if_ne (tgt := 14) hx hb dX6_put_9 (by decide) (fun c_3 => ?_) (fun c_3 => ?_)
  · have h := ite_f c_3 h
    refine lv_aload_n hx hb dX6_put_14 rfl (lv_at hl 0 rfl) ?_
    refine g_X6_13 X O hP dX6_put_15 ?_
    refine lv_iload_n hx hb dX6_put_18 rfl (lv_at hl 1 rfl) ?_
    obtain ⟨g_4, h⟩ := grd_s h
    refine x_aald X O hP (k := 1) (n := 4) (t0 := 2) (C := "LentYouths$Sheet") (g := fun j => 14 + j) (by decide) rfl rfl g_4 dX6_put_19 ?_
    refine lv_astore (lv' := [(4, .ref (ta Θ (14 + v1.toNatClampNeg))), (0, .ref (ta Θ 0)), (1, .int v1), (2, .int v2), (3, .int v3)]) hx hb dX6_put_20 hl (by decide) rfl (fun ls hl => ?_)
    refine lv_aload hx hb dX6_put_22 (lv_at hl 0 rfl) ?_
    refine lv_aload hx hb dX6_put_24 (lv_at hl 0 rfl) ?_
    refine g_X6_210 X O hP (isSh_at g_4) dX6_put_26 ?_
    refine lv_iload_n hx hb dX6_put_29 rfl (lv_at hl 3 rfl) ?_
    refine lv_iconst (v := 1) hx hb dX6_put_30 (by decide) ?_
    refine x_calli (x_runV X O hP hS hl.1 (As := [.int (σ_1 (14 + v1.toNatClampNeg) 2), .int v2, .int 1]) (rest := []) (k_X5_faultOfCells O (isSh_at g_4) (σ_1 (14 + v1.toNatClampNeg) 2) v2 (1 : Int32) σ_1 rfl) (lt_X5 (isSh_at g_4)) (e_X5 (isSh_at g_4) _) rfl wM_X6_74 wI_yX5_faultOfCells wS_yX5_faultOfCells wN_X5 wC_yX5_faultOfCells hd_X5_faultOfCells rfl ⟨rfl, rfl⟩ ⟨(Nat.le_of_ble_eq_true rfl), (Nat.le_of_ble_eq_true rfl)⟩ ⟨Nat.zero_le _, Nat.zero_le _⟩ rfl (Nat.le_of_ble_eq_true rfl) dX6_put_31) hS (fun H locs hP hS => ?_)
    obtain ⟨v5_5, e_6, h⟩ := bnd_s h
    refine lv_nam e_6 ?_
    refine lv_istore (lv' := [(5, .int v5_5), (4, .ref (ta Θ (14 + v1.toNatClampNeg))), (0, .ref (ta Θ 0)), (1, .int v1), (2, .int v2), (3, .int v3)]) hx hb dX6_put_34 hl (by decide) rfl (fun ls hl => ?_)
    refine lv_iload hx hb dX6_put_36 (lv_at hl 0 rfl) ?_
    refine lv_if_eq (tgt := 48) hx hb dX6_put_38 (by decide) (fun c_7 => ?_) (fun c_7 => ?_)
    · have h := ite_t c_7 h
      refine lv_aload hx hb dX6_put_48 (lv_at hl 1 rfl) ?_
      refine g_X6_213 X O hP (isSh_at g_4) dX6_put_50 ?_
      refine lv_iload_n hx hb dX6_put_53 rfl (lv_at hl 4 rfl) ?_
      refine lv_aload hx hb dX6_put_54 (lv_at hl 1 rfl) ?_
      refine g_X6_210 X O hP (isSh_at g_4) dX6_put_56 ?_
      refine lv_iload_n hx hb dX6_put_59 rfl (lv_at hl 5 rfl) ?_
      refine x_calli (x_runS X hP hS hl.1 (As := [.int (σ_1 (14 + v1.toNatClampNeg) 2), .int v3]) (rest := [.int v2, .ref (ta Θ ((14 + v1.toNatClampNeg) + 4))]) (k_X6_cutToLane O (σ_1 (14 + v1.toNatClampNeg) 2) v3 σ_1 rfl) wM_X6_216 wT_yX6_cutToLane wN_X6 wC_yX6_cutToLane hd_X6_cutToLane rfl ⟨rfl, rfl⟩ ⟨(Nat.le_of_ble_eq_true rfl), (Nat.le_of_ble_eq_true rfl)⟩ ⟨Nat.zero_le _, Nat.zero_le _⟩ rfl (Nat.le_of_ble_eq_true rfl) dX6_put_60) hS (fun H locs hP hS => ?_)
      obtain ⟨g_8, h⟩ := grd_s h
      obtain ⟨σ_9, e_10, h⟩ := bnd_s h
      refine x_iast X O hP hS (iI_X5 (isSh_at g_4)) g_8 dX6_put_63 e_10 (fun H locs hP hS => ?_)
      refine lv_iconst (v := 1) hx hb dX6_put_64 (by decide) ?_
      have h := some_i h
      subst h
      exact x_reti X hP hS hr hlk rfl rfl dX6_put_65
    · have h := ite_f c_7 h
      refine lv_aload_n hx hb dX6_put_41 rfl (lv_at hl 2 rfl) ?_
      refine lv_iload hx hb dX6_put_42 (lv_at hl 0 rfl) ?_
      obtain ⟨z_11, e_12, h⟩ := bnd_s h
      refine x_calli (x_runV X O hP hS hl.1 (As := [.int v5_5]) (rest := []) (k_X6_faultAnswer O v5_5 σ_1 e_12.symm) lt_X6 (e_X6 _) rfl wM_X6_78 wI_yX6_faultAnswer wS_yX6_faultAnswer wN_X6 wC_yX6_faultAnswer hd_X6_faultAnswer rfl ⟨rfl, rfl⟩ ⟨(Nat.le_of_ble_eq_true rfl), (Nat.le_of_ble_eq_true rfl)⟩ ⟨Nat.zero_le _, Nat.zero_le _⟩ rfl (Nat.le_of_ble_eq_true rfl) dX6_put_44) hS (fun H locs hP hS => ?_)
      have h := some_i h
      subst h
      exact x_reti X hP hS hr hlk rfl rfl dX6_put_47
  · have h := ite_t c_3 h
    refine lv_iconst (v := (-1)) hx hb dX6_put_12 (by decide) ?_
    have h := some_i h
    subst h
    exact x_reti X hP hS hr hlk rfl rfl dX6_put_13
abbrev rm_X6_cell : Room := { frames := 2, cells := 0, slots := 0, locals := 45 }
theorem hd_X6_cell : yX6_cell.cls ≠ "java/lang/invoke/MethodHandle" ∧ yX6_cell.cls ≠ "java/lang/invoke/VarHandle" ∧ (parseMethodDescriptor yX6_cell.desc).map (fun d => d.parameters.length) = some 3 := by decide +kernel
set_option maxHeartbeats 4000000 in
set_option maxRecDepth 100000 in
theorem k_X6_cell {Θ : TH} {l : Launch} (O : okT Θ (eX Θ) 68) (v1 : Int32) (v2 : Int32) (v3 : Int32) (σ0 : Mem) {y : Int64 × Mem} (h : X6_cell v1 v2 v3 σ0 = some y) : Met l yX6_cell (Cond.code yX6_cell cX6_cell 4 (some .long) :: wAll) rm_X6_cell (va_Pc [.ref (ta Θ 0), .int v1, .int v2, .int v3] (tS Θ σ0)) (qL Θ y.1 y.2) 0 0 (tA Θ) := by
  refine x_ent (by decide) (Nat.le_of_ble_eq_true rfl) (fun p e s m below meth c X hr hlk hP ls hl => ?_)
  have hS : va_S (tA Θ) s.heap s.heap [] := va_S.rf
  have hl : lv_has ls 4 [(0, .ref (ta Θ 0)), (1, .int v1), (2, .int v2), (3, .int v3)] := hl
  have hx := X.1
  have hb := X.2.1
  unfold X6_cell at h
  refine lv_aload_n hx hb dX6_cell_0 rfl (lv_at hl 0 rfl) ?_
  refine lv_iconst (v := 0) hx hb dX6_cell_1 (by decide) ?_
  obtain ⟨σ_1, e_2, h⟩ := bnd_s h
  refine p_X6_62 X O hP hS dX6_cell_2 e_2 (fun H locs hP hS => ?_)
  refine lv_iload_n hx hb dX6_cell_5 rfl (lv_at hl 1 rfl) ?_
  refine x_calli (x_runS X hP hS hl.1 (As := [.int v1]) (rest := []) (k_X6_isSheet O v1 σ_1 rfl) wM_X6_67 wT_yX6_isSheet wN_X6 wC_yX6_isSheet hd_X6_isSheet rfl ⟨rfl, rfl⟩ ⟨(Nat.le_of_ble_eq_true rfl), (Nat.le_of_ble_eq_true rfl)⟩ ⟨Nat.zero_le _, Nat.zero_le _⟩ rfl (Nat.le_of_ble_eq_true rfl) dX6_cell_6) hS (fun H locs hP hS => ?_)
  refine lv_if_eq (tgt := 19) hx hb dX6_cell_9 (by decide) (fun c_3 => ?_) (fun c_3 => ?_)
  · have h := ite_t c_3 h
    refine lv_ldc2 (v := (-9223372036854775808)) hx hb X.2.2.2.1 (X.2.2.2.2.1 _ wL_X6_189) dX6_cell_19 ?_
    have h := some_i h
    subst h
    exact x_retl X hP hS hr hlk rfl rfl dX6_cell_22
  · have h := ite_f c_3 h
    refine lv_iload_n hx hb dX6_cell_12 rfl (lv_at hl 3 rfl) ?_
    refine x_calli (x_runS X hP hS hl.1 (As := [.int v3]) (rest := []) (k_X6_isLane O v3 σ_1 rfl) wM_X6_71 wT_yX6_isLane wN_X6 wC_yX6_isLane hd_X6_isLane rfl ⟨rfl, rfl⟩ ⟨(Nat.le_of_ble_eq_true rfl), (Nat.le_of_ble_eq_true rfl)⟩ ⟨Nat.zero_le _, Nat.zero_le _⟩ rfl (Nat.le_of_ble_eq_true rfl) dX6_cell_13) hS (fun H locs hP hS => ?_)
    refine lv_if_ne (tgt := 23) hx hb dX6_cell_16 (by decide) (fun c_4 => ?_) (fun c_4 => ?_)
    · have h := ite_f c_4 h
      refine lv_aload_n hx hb dX6_cell_23 rfl (lv_at hl 0 rfl) ?_
      refine lv_aload_n hx hb dX6_cell_24 rfl (lv_at hl 0 rfl) ?_
      refine g_X6_13 X O hP dX6_cell_25 ?_
      refine lv_iload_n hx hb dX6_cell_28 rfl (lv_at hl 1 rfl) ?_
      obtain ⟨g_5, h⟩ := grd_s h
      refine x_aald X O hP (k := 1) (n := 4) (t0 := 2) (C := "LentYouths$Sheet") (g := fun j => 14 + j) (by decide) rfl rfl g_5 dX6_cell_29 ?_
      refine lv_iload_n hx hb dX6_cell_30 rfl (lv_at hl 3 rfl) ?_
      refine lv_iload_n hx hb dX6_cell_31 rfl (lv_at hl 2 rfl) ?_
      refine lv_iconst (v := 1) hx hb dX6_cell_32 (by decide) ?_
      refine x_calli (x_runV X O hP hS hl.1 (As := [.int v3, .int v2, .int 1]) (rest := [.ref (ta Θ 0)]) (k_X5_faultOfCells O (isSh_at g_5) v3 v2 (1 : Int32) σ_1 rfl) (lt_X5 (isSh_at g_5)) (e_X5 (isSh_at g_5) _) rfl wM_X6_74 wI_yX5_faultOfCells wS_yX5_faultOfCells wN_X5 wC_yX5_faultOfCells hd_X5_faultOfCells rfl ⟨rfl, rfl⟩ ⟨(Nat.le_of_ble_eq_true rfl), (Nat.le_of_ble_eq_true rfl)⟩ ⟨Nat.zero_le _, Nat.zero_le _⟩ rfl (Nat.le_of_ble_eq_true rfl) dX6_cell_33) hS (fun H locs hP hS => ?_)
      obtain ⟨σ_6, e_7, h⟩ := bnd_s h
      refine p_X6_62 X O hP hS dX6_cell_36 e_7 (fun H locs hP hS => ?_)
      refine lv_aload_n hx hb dX6_cell_39 rfl (lv_at hl 0 rfl) ?_
      refine g_X6_62 X O hP dX6_cell_40 ?_
      refine lv_if_ne (tgt := 61) hx hb dX6_cell_43 (by decide) (fun c_8 => ?_) (fun c_8 => ?_)
      · have h := ite_f c_8 h
        refine lv_ldc2 (v := (-9223372036854775808)) hx hb X.2.2.2.1 (X.2.2.2.2.1 _ wL_X6_189) dX6_cell_61 ?_
        have h := some_i h
        subst h
        exact x_retl X hP hS hr hlk rfl rfl dX6_cell_64
      · have h := ite_t c_8 h
        refine lv_aload_n hx hb dX6_cell_46 rfl (lv_at hl 0 rfl) ?_
        refine g_X6_13 X O hP dX6_cell_47 ?_
        refine lv_iload_n hx hb dX6_cell_50 rfl (lv_at hl 1 rfl) ?_
        obtain ⟨g_9, h⟩ := grd_s h
        refine x_aald X O hP (k := 1) (n := 4) (t0 := 2) (C := "LentYouths$Sheet") (g := fun j => 14 + j) (by decide) rfl rfl g_9 dX6_cell_51 ?_
        refine g_X6_213 X O hP (isSh_at g_9) dX6_cell_52 ?_
        refine lv_iload_n hx hb dX6_cell_55 rfl (lv_at hl 2 rfl) ?_
        obtain ⟨g_10, h⟩ := grd_s h
        refine x_iald X O hP (iI_X5 (isSh_at g_9)) g_10 dX6_cell_56 ?_
        refine lv_i2l (v := (σ_6 ((14 + v1.toNatClampNeg) + 4) v2.toNatClampNeg).toInt64) hx hb dX6_cell_57 rfl ?_
        refine lv_goto (tgt := 64) hx hb dX6_cell_58 (by decide) ?_
        have h := some_i h
        subst h
        exact x_retl X hP hS hr hlk rfl rfl dX6_cell_64
    · have h := ite_t c_4 h
      refine lv_ldc2 (v := (-9223372036854775808)) hx hb X.2.2.2.1 (X.2.2.2.2.1 _ wL_X6_189) dX6_cell_19 ?_
      have h := some_i h
      subst h
      exact x_retl X hP hS hr hlk rfl rfl dX6_cell_22
abbrev rm_X6_copy : Room := { frames := 1, cells := 0, slots := 0, locals := 40 }
theorem hd_X6_copy : yX6_copy.cls ≠ "java/lang/invoke/MethodHandle" ∧ yX6_copy.cls ≠ "java/lang/invoke/VarHandle" ∧ (parseMethodDescriptor yX6_copy.desc).map (fun d => d.parameters.length) = some 5 := by decide +kernel
set_option maxHeartbeats 4000000 in
set_option maxRecDepth 100000 in
theorem k_X6_copy {Θ : TH} {l : Launch} (O : okT Θ (eX Θ) 68) (v1 : Int32) (v2 : Int32) (v3 : Int32) (v4 : Int32) (v5 : Int32) (σ0 : Mem) {y : Int32 × Mem} (h : X6_copy v1 v2 v3 v4 v5 σ0 = some y) : Met l yX6_copy (Cond.code yX6_copy cX6_copy 8 (some .int) :: wAll) rm_X6_copy (va_Pc [.ref (ta Θ 0), .int v1, .int v2, .int v3, .int v4, .int v5] (tS Θ σ0)) (qI Θ y.1 y.2) 0 0 (tA Θ) := by
  refine x_ent (by decide) (Nat.le_of_ble_eq_true rfl) (fun p e s m below meth c X hr hlk hP ls hl => ?_)
  have hS : va_S (tA Θ) s.heap s.heap [] := va_S.rf
  have hl : lv_has ls 8 [(0, .ref (ta Θ 0)), (1, .int v1), (2, .int v2), (3, .int v3), (4, .int v4), (5, .int v5)] := hl
  have hx := X.1
  have hb := X.2.1
  unfold X6_copy at h
  refine lv_aload_n hx hb dX6_copy_0 rfl (lv_at hl 0 rfl) ?_
  refine lv_iconst (v := 0) hx hb dX6_copy_1 (by decide) ?_
  obtain ⟨σ_1, e_2, h⟩ := bnd_s h
  refine p_X6_62 X O hP hS dX6_copy_2 e_2 (fun H locs hP hS => ?_)
  refine lv_iload_n hx hb dX6_copy_5 rfl (lv_at hl 1 rfl) ?_
  refine x_calli (x_runS X hP hS hl.1 (As := [.int v1]) (rest := []) (k_X6_isSheet O v1 σ_1 rfl) wM_X6_67 wT_yX6_isSheet wN_X6 wC_yX6_isSheet hd_X6_isSheet rfl ⟨rfl, rfl⟩ ⟨(Nat.le_of_ble_eq_true rfl), (Nat.le_of_ble_eq_true rfl)⟩ ⟨Nat.zero_le _, Nat.zero_le _⟩ rfl (Nat.le_of_ble_eq_true rfl) dX6_copy_6) hS (fun H locs hP hS => ?_)
  refine lv_if_eq (tgt := 19) hx hb dX6_copy_9 (by decide) (fun c_3 => ?_) (fun c_3 => ?_)
  · have h := ite_t c_3 h
    refine lv_iconst (v := (-1)) hx hb dX6_copy_19 (by decide) ?_
    have h := some_i h
    subst h
    exact x_reti X hP hS hr hlk rfl rfl dX6_copy_20
  · have h := ite_f c_3 h
    refine lv_iload_n hx hb dX6_copy_12 rfl (lv_at hl 3 rfl) ?_
    refine x_calli (x_runS X hP hS hl.1 (As := [.int v3]) (rest := []) (k_X6_isSheet O v3 σ_1 rfl) wM_X6_67 wT_yX6_isSheet wN_X6 wC_yX6_isSheet hd_X6_isSheet rfl ⟨rfl, rfl⟩ ⟨(Nat.le_of_ble_eq_true rfl), (Nat.le_of_ble_eq_true rfl)⟩ ⟨Nat.zero_le _, Nat.zero_le _⟩ rfl (Nat.le_of_ble_eq_true rfl) dX6_copy_13) hS (fun H locs hP hS => ?_)
    refine lv_if_ne (tgt := 21) hx hb dX6_copy_16 (by decide) (fun c_4 => ?_) (fun c_4 => ?_)
    · have h := ite_f c_4 h
      refine lv_aload_n hx hb dX6_copy_21 rfl (lv_at hl 0 rfl) ?_
      refine g_X6_13 X O hP dX6_copy_22 ?_
      refine lv_iload_n hx hb dX6_copy_25 rfl (lv_at hl 1 rfl) ?_
      obtain ⟨g_5, h⟩ := grd_s h
      refine x_aald X O hP (k := 1) (n := 4) (t0 := 2) (C := "LentYouths$Sheet") (g := fun j => 14 + j) (by decide) rfl rfl g_5 dX6_copy_26 ?_
      refine lv_astore (lv' := [(6, .ref (ta Θ (14 + v1.toNatClampNeg))), (0, .ref (ta Θ 0)), (1, .int v1), (2, .int v2), (3, .int v3), (4, .int v4), (5, .int v5)]) hx hb dX6_copy_27 hl (by decide) rfl (fun ls hl => ?_)
      refine lv_aload_n hx hb dX6_copy_29 rfl (lv_at hl 1 rfl) ?_
      refine g_X6_13 X O hP dX6_copy_30 ?_
      refine lv_iload_n hx hb dX6_copy_33 rfl (lv_at hl 4 rfl) ?_
      obtain ⟨g_6, h⟩ := grd_s h
      refine x_aald X O hP (k := 1) (n := 4) (t0 := 2) (C := "LentYouths$Sheet") (g := fun j => 14 + j) (by decide) rfl rfl g_6 dX6_copy_34 ?_
      refine lv_astore (lv' := [(7, .ref (ta Θ (14 + v3.toNatClampNeg))), (6, .ref (ta Θ (14 + v1.toNatClampNeg))), (0, .ref (ta Θ 0)), (1, .int v1), (2, .int v2), (3, .int v3), (4, .int v4), (5, .int v5)]) hx hb dX6_copy_35 hl (by decide) rfl (fun ls hl => ?_)
      refine lv_aload hx hb dX6_copy_37 (lv_at hl 1 rfl) ?_
      refine g_X6_206 X O hP (isSh_at g_5) dX6_copy_39 ?_
      refine lv_if_eq (tgt := 53) hx hb dX6_copy_42 (by decide) (fun c_7 => ?_) (fun c_7 => ?_)
      · have h := ite_t c_7 h
        refine lv_aload_n hx hb dX6_copy_53 rfl (lv_at hl 2 rfl) ?_
        refine lv_iconst (v := 1) hx hb dX6_copy_54 (by decide) ?_
        obtain ⟨z_8, e_9, h⟩ := bnd_s h
        refine x_calli (x_runV X O hP hS hl.1 (As := [.int 1]) (rest := []) (k_X6_faultAnswer O (1 : Int32) σ_1 e_9.symm) lt_X6 (e_X6 _) rfl wM_X6_78 wI_yX6_faultAnswer wS_yX6_faultAnswer wN_X6 wC_yX6_faultAnswer hd_X6_faultAnswer rfl ⟨rfl, rfl⟩ ⟨(Nat.le_of_ble_eq_true rfl), (Nat.le_of_ble_eq_true rfl)⟩ ⟨Nat.zero_le _, Nat.zero_le _⟩ rfl (Nat.le_of_ble_eq_true rfl) dX6_copy_55) hS (fun H locs hP hS => ?_)
        have h := some_i h
        subst h
        exact x_reti X hP hS hr hlk rfl rfl dX6_copy_58
      · have h := ite_f c_7 h
        refine lv_aload hx hb dX6_copy_45 (lv_at hl 0 rfl) ?_
        refine g_X6_206 X O hP (isSh_at g_6) dX6_copy_47 ?_
        refine lv_if_ne (tgt := 59) hx hb dX6_copy_50 (by decide) (fun c_10 => ?_) (fun c_10 => ?_)
        · have h := ite_f c_10 h
          refine lv_aload hx hb dX6_copy_59 (lv_at hl 1 rfl) ?_
          refine g_X6_210 X O hP (isSh_at g_5) dX6_copy_61 ?_
          refine lv_aload hx hb dX6_copy_64 (lv_at hl 0 rfl) ?_
          refine g_X6_210 X O hP (isSh_at g_6) dX6_copy_66 ?_
          refine lv_icmp_eq (tgt := 78) hx hb dX6_copy_69 (by decide) (fun c_11 => ?_) (fun c_11 => ?_)
          · have h := ite_t c_11 h
            refine lv_aload hx hb dX6_copy_78 (lv_at hl 1 rfl) ?_
            refine lv_iload_n hx hb dX6_copy_80 rfl (lv_at hl 4 rfl) ?_
            refine lv_iload hx hb dX6_copy_81 (lv_at hl 7 rfl) ?_
            refine x_calli (x_runV X O hP hS hl.1 (As := [.int v2, .int v5]) (rest := []) (k_X5_hasCells O (isSh_at g_5) v2 v5 σ_1 rfl) (lt_X5 (isSh_at g_5)) (e_X5 (isSh_at g_5) _) rfl wM_X6_219 wI_yX5_hasCells wS_yX5_hasCells wN_X5 wC_yX5_hasCells hd_X5_hasCells rfl ⟨rfl, rfl⟩ ⟨(Nat.le_of_ble_eq_true rfl), (Nat.le_of_ble_eq_true rfl)⟩ ⟨Nat.zero_le _, Nat.zero_le _⟩ rfl (Nat.le_of_ble_eq_true rfl) dX6_copy_83) hS (fun H locs hP hS => ?_)
            refine lv_if_eq (tgt := 101) hx hb dX6_copy_86 (by decide) (fun c_12 => ?_) (fun c_12 => ?_)
            · have h := ite_t c_12 h
              refine lv_aload_n hx hb dX6_copy_101 rfl (lv_at hl 2 rfl) ?_
              refine lv_iconst (v := 3) hx hb dX6_copy_102 (by decide) ?_
              obtain ⟨z_13, e_14, h⟩ := bnd_s h
              refine x_calli (x_runV X O hP hS hl.1 (As := [.int 3]) (rest := []) (k_X6_faultAnswer O (3 : Int32) σ_1 e_14.symm) lt_X6 (e_X6 _) rfl wM_X6_78 wI_yX6_faultAnswer wS_yX6_faultAnswer wN_X6 wC_yX6_faultAnswer hd_X6_faultAnswer rfl ⟨rfl, rfl⟩ ⟨(Nat.le_of_ble_eq_true rfl), (Nat.le_of_ble_eq_true rfl)⟩ ⟨Nat.zero_le _, Nat.zero_le _⟩ rfl (Nat.le_of_ble_eq_true rfl) dX6_copy_103) hS (fun H locs hP hS => ?_)
              have h := some_i h
              subst h
              exact x_reti X hP hS hr hlk rfl rfl dX6_copy_106
            · have h := ite_f c_12 h
              refine lv_aload hx hb dX6_copy_89 (lv_at hl 0 rfl) ?_
              refine lv_iload hx hb dX6_copy_91 (lv_at hl 6 rfl) ?_
              refine lv_iload hx hb dX6_copy_93 (lv_at hl 7 rfl) ?_
              refine x_calli (x_runV X O hP hS hl.1 (As := [.int v4, .int v5]) (rest := []) (k_X5_hasCells O (isSh_at g_6) v4 v5 σ_1 rfl) (lt_X5 (isSh_at g_6)) (e_X5 (isSh_at g_6) _) rfl wM_X6_219 wI_yX5_hasCells wS_yX5_hasCells wN_X5 wC_yX5_hasCells hd_X5_hasCells rfl ⟨rfl, rfl⟩ ⟨(Nat.le_of_ble_eq_true rfl), (Nat.le_of_ble_eq_true rfl)⟩ ⟨Nat.zero_le _, Nat.zero_le _⟩ rfl (Nat.le_of_ble_eq_true rfl) dX6_copy_95) hS (fun H locs hP hS => ?_)
              refine lv_if_ne (tgt := 107) hx hb dX6_copy_98 (by decide) (fun c_15 => ?_) (fun c_15 => ?_)
              · have h := ite_f c_15 h
                refine lv_aload hx hb dX6_copy_107 (lv_at hl 1 rfl) ?_
                refine g_X6_213 X O hP (isSh_at g_5) dX6_copy_109 ?_
                refine lv_iload_n hx hb dX6_copy_112 rfl (lv_at hl 4 rfl) ?_
                refine lv_aload hx hb dX6_copy_113 (lv_at hl 0 rfl) ?_
                refine g_X6_213 X O hP (isSh_at g_6) dX6_copy_115 ?_
                refine lv_iload hx hb dX6_copy_118 (lv_at hl 6 rfl) ?_
                refine lv_iload hx hb dX6_copy_120 (lv_at hl 7 rfl) ?_
                obtain ⟨g_16, h⟩ := grd_s h
                obtain ⟨σ_17, e_18, h⟩ := bnd_s h
                obtain ⟨y1, y2, y3, y4, y5⟩ := cpOk_s g_16
                refine x_copy X O hP hS hl.1 (iI_X5 (isSh_at g_5)) (iI_X5 (isSh_at g_6)) wM_X6_223 y1 y2 y3 y4 y5 ⟨Nat.le_of_ble_eq_true rfl, (by decide)⟩ dX6_copy_122 e_18 (fun H locs hP hS => ?_)
                refine lv_iload hx hb dX6_copy_125 (lv_at hl 7 rfl) ?_
                have h := some_i h
                subst h
                exact x_reti X hP hS hr hlk rfl rfl dX6_copy_127
              · have h := ite_t c_15 h
                refine lv_aload_n hx hb dX6_copy_101 rfl (lv_at hl 2 rfl) ?_
                refine lv_iconst (v := 3) hx hb dX6_copy_102 (by decide) ?_
                obtain ⟨z_19, e_20, h⟩ := bnd_s h
                refine x_calli (x_runV X O hP hS hl.1 (As := [.int 3]) (rest := []) (k_X6_faultAnswer O (3 : Int32) σ_1 e_20.symm) lt_X6 (e_X6 _) rfl wM_X6_78 wI_yX6_faultAnswer wS_yX6_faultAnswer wN_X6 wC_yX6_faultAnswer hd_X6_faultAnswer rfl ⟨rfl, rfl⟩ ⟨(Nat.le_of_ble_eq_true rfl), (Nat.le_of_ble_eq_true rfl)⟩ ⟨Nat.zero_le _, Nat.zero_le _⟩ rfl (Nat.le_of_ble_eq_true rfl) dX6_copy_103) hS (fun H locs hP hS => ?_)
                have h := some_i h
                subst h
                exact x_reti X hP hS hr hlk rfl rfl dX6_copy_106
          · have h := ite_f c_11 h
            refine lv_aload_n hx hb dX6_copy_72 rfl (lv_at hl 2 rfl) ?_
            refine lv_iconst (v := 2) hx hb dX6_copy_73 (by decide) ?_
            obtain ⟨z_21, e_22, h⟩ := bnd_s h
            refine x_calli (x_runV X O hP hS hl.1 (As := [.int 2]) (rest := []) (k_X6_faultAnswer O (2 : Int32) σ_1 e_22.symm) lt_X6 (e_X6 _) rfl wM_X6_78 wI_yX6_faultAnswer wS_yX6_faultAnswer wN_X6 wC_yX6_faultAnswer hd_X6_faultAnswer rfl ⟨rfl, rfl⟩ ⟨(Nat.le_of_ble_eq_true rfl), (Nat.le_of_ble_eq_true rfl)⟩ ⟨Nat.zero_le _, Nat.zero_le _⟩ rfl (Nat.le_of_ble_eq_true rfl) dX6_copy_74) hS (fun H locs hP hS => ?_)
            have h := some_i h
            subst h
            exact x_reti X hP hS hr hlk rfl rfl dX6_copy_77
        · have h := ite_t c_10 h
          refine lv_aload_n hx hb dX6_copy_53 rfl (lv_at hl 2 rfl) ?_
          refine lv_iconst (v := 1) hx hb dX6_copy_54 (by decide) ?_
          obtain ⟨z_23, e_24, h⟩ := bnd_s h
          refine x_calli (x_runV X O hP hS hl.1 (As := [.int 1]) (rest := []) (k_X6_faultAnswer O (1 : Int32) σ_1 e_24.symm) lt_X6 (e_X6 _) rfl wM_X6_78 wI_yX6_faultAnswer wS_yX6_faultAnswer wN_X6 wC_yX6_faultAnswer hd_X6_faultAnswer rfl ⟨rfl, rfl⟩ ⟨(Nat.le_of_ble_eq_true rfl), (Nat.le_of_ble_eq_true rfl)⟩ ⟨Nat.zero_le _, Nat.zero_le _⟩ rfl (Nat.le_of_ble_eq_true rfl) dX6_copy_55) hS (fun H locs hP hS => ?_)
          have h := some_i h
          subst h
          exact x_reti X hP hS hr hlk rfl rfl dX6_copy_58
    · have h := ite_t c_4 h
      refine lv_iconst (v := (-1)) hx hb dX6_copy_19 (by decide) ?_
      have h := some_i h
      subst h
      exact x_reti X hP hS hr hlk rfl rfl dX6_copy_20
abbrev rm_X6_leaveInTrace : Room := { frames := 0, cells := 0, slots := 0, locals := 0 }
theorem hd_X6_leaveInTrace : yX6_leaveInTrace.cls ≠ "java/lang/invoke/MethodHandle" ∧ yX6_leaveInTrace.cls ≠ "java/lang/invoke/VarHandle" ∧ (parseMethodDescriptor yX6_leaveInTrace.desc).map (fun d => d.parameters.length) = some 1 := by decide +kernel
set_option maxHeartbeats 4000000 in
set_option maxRecDepth 100000 in
theorem k_X6_leaveInTrace {Θ : TH} {l : Launch} (O : okT Θ (eX Θ) 68) (v1 : Int32) (σ0 : Mem) {y : Mem} (h : X6_leaveInTrace v1 σ0 = y) : Met l yX6_leaveInTrace (Cond.code yX6_leaveInTrace cX6_leaveInTrace 2 none :: wAll) rm_X6_leaveInTrace (va_Pc [.ref (ta Θ 0), .int v1] (tS Θ σ0)) (qV Θ y) 0 0 (tA Θ) := by
  refine x_ent (by decide) (Nat.le_of_ble_eq_true rfl) (fun p e s m below meth c X hr hlk hP ls hl => ?_)
  have hS : va_S (tA Θ) s.heap s.heap [] := va_S.rf
  have hl : lv_has ls 2 [(0, .ref (ta Θ 0)), (1, .int v1)] := hl
  have hx := X.1
  have hb := X.2.1
  unfold X6_leaveInTrace at h
  refine lv_aload_n hx hb dX6_leaveInTrace_0 rfl (lv_at hl 0 rfl) ?_
  refine lv_bipush (v := 31) hx hb dX6_leaveInTrace_1 (by decide) ?_
  refine lv_aload_n hx hb dX6_leaveInTrace_3 rfl (lv_at hl 0 rfl) ?_
  refine g_X6_59 X O hP dX6_leaveInTrace_4 ?_
  refine lv_imul hx hb dX6_leaveInTrace_7 ?_
  refine lv_iload_n hx hb dX6_leaveInTrace_8 rfl (lv_at hl 1 rfl) ?_
  refine lv_iadd hx hb dX6_leaveInTrace_9 ?_
  obtain ⟨σ_1, e_2, h⟩ := bnd_s h
  refine p_X6_59 X O hP hS dX6_leaveInTrace_10 e_2 (fun H locs hP hS => ?_)
  subst h
  exact x_retv X hP hS hr hlk rfl dX6_leaveInTrace_13
abbrev rm_X6_tellingOfChildhood : Room := { frames := 1, cells := 0, slots := 0, locals := 21 }
theorem hd_X6_tellingOfChildhood : yX6_tellingOfChildhood.cls ≠ "java/lang/invoke/MethodHandle" ∧ yX6_tellingOfChildhood.cls ≠ "java/lang/invoke/VarHandle" ∧ (parseMethodDescriptor yX6_tellingOfChildhood.desc).map (fun d => d.parameters.length) = some 1 := by decide +kernel
set_option maxHeartbeats 4000000 in
set_option maxRecDepth 100000 in
theorem k_X6_tellingOfChildhood {Θ : TH} {l : Launch} (O : okT Θ (eX Θ) 68) {n1 : Nat} (h1 : isPe n1) (σ0 : Mem) {y : Int32 × Mem} (h : X6_tellingOfChildhood n1 σ0 = y) : Met l yX6_tellingOfChildhood (Cond.code yX6_tellingOfChildhood cX6_tellingOfChildhood 2 (some .int) :: wAll) rm_X6_tellingOfChildhood (va_Pc [.ref (ta Θ 0), .ref (ta Θ n1)] (tS Θ σ0)) (qI Θ y.1 y.2) 0 0 (tA Θ) := by
  refine x_ent (by decide) (Nat.le_of_ble_eq_true rfl) (fun p e s m below meth c X hr hlk hP ls hl => ?_)
  have hS : va_S (tA Θ) s.heap s.heap [] := va_S.rf
  have hl : lv_has ls 2 [(0, .ref (ta Θ 0)), (1, .ref (ta Θ n1))] := hl
  have hx := X.1
  have hb := X.2.1
  unfold X6_tellingOfChildhood at h
  refine lv_aload_n hx hb dX6_tellingOfChildhood_0 rfl (lv_at hl 0 rfl) ?_
  refine lv_iconst (v := 1) hx hb dX6_tellingOfChildhood_1 (by decide) ?_
  obtain ⟨σ_1, e_2, h⟩ := bnd_s h
  refine x_callv (x_runV X O hP hS hl.1 (As := [.int 1]) (rest := []) (k_X6_leaveInTrace O (1 : Int32) σ0 e_2.symm) lt_X6 (e_X6 _) rfl wM_X6_239 wI_yX6_leaveInTrace wS_yX6_leaveInTrace wN_X6 wC_yX6_leaveInTrace hd_X6_leaveInTrace rfl ⟨rfl, rfl⟩ ⟨(Nat.le_of_ble_eq_true rfl), (Nat.le_of_ble_eq_true rfl)⟩ ⟨Nat.zero_le _, Nat.zero_le _⟩ rfl (Nat.le_of_ble_eq_true rfl) dX6_tellingOfChildhood_2) hS (fun H locs hP hS => ?_)
  refine lv_aload_n hx hb dX6_tellingOfChildhood_5 rfl (lv_at hl 1 rfl) ?_
  refine g_X6_105 X O hP h1 dX6_tellingOfChildhood_6 ?_
  subst h
  exact x_reti X hP hS hr hlk rfl rfl dX6_tellingOfChildhood_9
abbrev rm_X6_tellingOfSad : Room := { frames := 2, cells := 0, slots := 0, locals := 42 }
theorem hd_X6_tellingOfSad : yX6_tellingOfSad.cls ≠ "java/lang/invoke/MethodHandle" ∧ yX6_tellingOfSad.cls ≠ "java/lang/invoke/VarHandle" ∧ (parseMethodDescriptor yX6_tellingOfSad.desc).map (fun d => d.parameters.length) = some 1 := by decide +kernel
set_option maxHeartbeats 4000000 in
set_option maxRecDepth 100000 in
theorem k_X6_tellingOfSad {Θ : TH} {l : Launch} (O : okT Θ (eX Θ) 68) {n1 : Nat} (h1 : isPe n1) (σ0 : Mem) {y : Int32 × Mem} (h : X6_tellingOfSad n1 σ0 = y) : Met l yX6_tellingOfSad (Cond.code yX6_tellingOfSad cX6_tellingOfSad 2 (some .int) :: wAll) rm_X6_tellingOfSad (va_Pc [.ref (ta Θ 0), .ref (ta Θ n1)] (tS Θ σ0)) (qI Θ y.1 y.2) 0 0 (tA Θ) := by
  refine x_ent (by decide) (Nat.le_of_ble_eq_true rfl) (fun p e s m below meth c X hr hlk hP ls hl => ?_)
  have hS : va_S (tA Θ) s.heap s.heap [] := va_S.rf
  have hl : lv_has ls 2 [(0, .ref (ta Θ 0)), (1, .ref (ta Θ n1))] := hl
  have hx := X.1
  have hb := X.2.1
  unfold X6_tellingOfSad at h
  refine lv_aload_n hx hb dX6_tellingOfSad_0 rfl (lv_at hl 0 rfl) ?_
  refine lv_iconst (v := 2) hx hb dX6_tellingOfSad_1 (by decide) ?_
  obtain ⟨σ_1, e_2, h⟩ := bnd_s h
  refine x_callv (x_runV X O hP hS hl.1 (As := [.int 2]) (rest := []) (k_X6_leaveInTrace O (2 : Int32) σ0 e_2.symm) lt_X6 (e_X6 _) rfl wM_X6_239 wI_yX6_leaveInTrace wS_yX6_leaveInTrace wN_X6 wC_yX6_leaveInTrace hd_X6_leaveInTrace rfl ⟨rfl, rfl⟩ ⟨(Nat.le_of_ble_eq_true rfl), (Nat.le_of_ble_eq_true rfl)⟩ ⟨Nat.zero_le _, Nat.zero_le _⟩ rfl (Nat.le_of_ble_eq_true rfl) dX6_tellingOfSad_2) hS (fun H locs hP hS => ?_)
  refine lv_aload_n hx hb dX6_tellingOfSad_5 rfl (lv_at hl 0 rfl) ?_
  refine lv_aload_n hx hb dX6_tellingOfSad_6 rfl (lv_at hl 1 rfl) ?_
  obtain ⟨z_3, e_4, h⟩ := bnd_s h
  refine x_calli (x_runV X O hP hS hl.1 (As := [.ref (ta Θ n1)]) (rest := []) (k_X6_tellingOfChildhood O h1 σ_1 e_4.symm) lt_X6 (e_X6 _) rfl wM_X6_236 wI_yX6_tellingOfChildhood wS_yX6_tellingOfChildhood wN_X6 wC_yX6_tellingOfChildhood hd_X6_tellingOfChildhood rfl ⟨rfl, rfl⟩ ⟨(Nat.le_of_ble_eq_true rfl), (Nat.le_of_ble_eq_true rfl)⟩ ⟨Nat.zero_le _, Nat.zero_le _⟩ rfl (Nat.le_of_ble_eq_true rfl) dX6_tellingOfSad_7) hS (fun H locs hP hS => ?_)
  refine lv_bipush (v := 100) hx hb dX6_tellingOfSad_10 (by decide) ?_
  refine lv_iadd hx hb dX6_tellingOfSad_12 ?_
  subst h
  exact x_reti X hP hS hr hlk rfl rfl dX6_tellingOfSad_13
abbrev rm_X6_tellingOfTwin : Room := { frames := 3, cells := 0, slots := 0, locals := 63 }
theorem hd_X6_tellingOfTwin : yX6_tellingOfTwin.cls ≠ "java/lang/invoke/MethodHandle" ∧ yX6_tellingOfTwin.cls ≠ "java/lang/invoke/VarHandle" ∧ (parseMethodDescriptor yX6_tellingOfTwin.desc).map (fun d => d.parameters.length) = some 1 := by decide +kernel
set_option maxHeartbeats 4000000 in
set_option maxRecDepth 100000 in
theorem k_X6_tellingOfTwin {Θ : TH} {l : Launch} (O : okT Θ (eX Θ) 68) {n1 : Nat} (h1 : isPe n1) (σ0 : Mem) {y : Int32 × Mem} (h : X6_tellingOfTwin n1 σ0 = y) : Met l yX6_tellingOfTwin (Cond.code yX6_tellingOfTwin cX6_tellingOfTwin 3 (some .int) :: wAll) rm_X6_tellingOfTwin (va_Pc [.ref (ta Θ 0), .ref (ta Θ n1)] (tS Θ σ0)) (qI Θ y.1 y.2) 0 0 (tA Θ) := by
  refine x_ent (by decide) (Nat.le_of_ble_eq_true rfl) (fun p e s m below meth c X hr hlk hP ls hl => ?_)
  have hS : va_S (tA Θ) s.heap s.heap [] := va_S.rf
  have hl : lv_has ls 3 [(0, .ref (ta Θ 0)), (1, .ref (ta Θ n1))] := hl
  have hx := X.1
  have hb := X.2.1
  unfold X6_tellingOfTwin at h
  refine lv_aload_n hx hb dX6_tellingOfTwin_0 rfl (lv_at hl 0 rfl) ?_
  refine lv_iconst (v := 3) hx hb dX6_tellingOfTwin_1 (by decide) ?_
  obtain ⟨σ_1, e_2, h⟩ := bnd_s h
  refine x_callv (x_runV X O hP hS hl.1 (As := [.int 3]) (rest := []) (k_X6_leaveInTrace O (3 : Int32) σ0 e_2.symm) lt_X6 (e_X6 _) rfl wM_X6_239 wI_yX6_leaveInTrace wS_yX6_leaveInTrace wN_X6 wC_yX6_leaveInTrace hd_X6_leaveInTrace rfl ⟨rfl, rfl⟩ ⟨(Nat.le_of_ble_eq_true rfl), (Nat.le_of_ble_eq_true rfl)⟩ ⟨Nat.zero_le _, Nat.zero_le _⟩ rfl (Nat.le_of_ble_eq_true rfl) dX6_tellingOfTwin_2) hS (fun H locs hP hS => ?_)
  refine lv_aload_n hx hb dX6_tellingOfTwin_5 rfl (lv_at hl 0 rfl) ?_
  refine lv_aload_n hx hb dX6_tellingOfTwin_6 rfl (lv_at hl 1 rfl) ?_
  obtain ⟨z_3, e_4, h⟩ := bnd_s h
  refine x_calli (x_runV X O hP hS hl.1 (As := [.ref (ta Θ n1)]) (rest := []) (k_X6_tellingOfSad O h1 σ_1 e_4.symm) lt_X6 (e_X6 _) rfl wM_X6_233 wI_yX6_tellingOfSad wS_yX6_tellingOfSad wN_X6 wC_yX6_tellingOfSad hd_X6_tellingOfSad rfl ⟨rfl, rfl⟩ ⟨(Nat.le_of_ble_eq_true rfl), (Nat.le_of_ble_eq_true rfl)⟩ ⟨Nat.zero_le _, Nat.zero_le _⟩ rfl (Nat.le_of_ble_eq_true rfl) dX6_tellingOfTwin_7) hS (fun H locs hP hS => ?_)
  refine lv_istore_n (lv' := [(2, .int z_3.1), (0, .ref (ta Θ 0)), (1, .ref (ta Θ n1))]) hx hb dX6_tellingOfTwin_10 rfl hl (by decide) rfl (fun ls hl => ?_)
  refine lv_iload_n hx hb dX6_tellingOfTwin_11 rfl (lv_at hl 0 rfl) ?_
  refine lv_aload_n hx hb dX6_tellingOfTwin_12 rfl (lv_at hl 1 rfl) ?_
  refine lv_aload_n hx hb dX6_tellingOfTwin_13 rfl (lv_at hl 2 rfl) ?_
  obtain ⟨z_5, e_6, h⟩ := bnd_s h
  refine x_calli (x_runV X O hP hS hl.1 (As := [.ref (ta Θ n1)]) (rest := [.int z_3.1]) (k_X6_tellingOfChildhood O h1 z_3.2 e_6.symm) lt_X6 (e_X6 _) rfl wM_X6_236 wI_yX6_tellingOfChildhood wS_yX6_tellingOfChildhood wN_X6 wC_yX6_tellingOfChildhood hd_X6_tellingOfChildhood rfl ⟨rfl, rfl⟩ ⟨(Nat.le_of_ble_eq_true rfl), (Nat.le_of_ble_eq_true rfl)⟩ ⟨Nat.zero_le _, Nat.zero_le _⟩ rfl (Nat.le_of_ble_eq_true rfl) dX6_tellingOfTwin_14) hS (fun H locs hP hS => ?_)
  refine lv_iadd hx hb dX6_tellingOfTwin_17 ?_
  subst h
  exact x_reti X hP hS hr hlk rfl rfl dX6_tellingOfTwin_18
abbrev rm_X6_tell : Room := { frames := 4, cells := 0, slots := 0, locals := 85 }
theorem hd_X6_tell : yX6_tell.cls ≠ "java/lang/invoke/MethodHandle" ∧ yX6_tell.cls ≠ "java/lang/invoke/VarHandle" ∧ (parseMethodDescriptor yX6_tell.desc).map (fun d => d.parameters.length) = some 1 := by decide +kernel
set_option maxHeartbeats 4000000 in
set_option maxRecDepth 100000 in
theorem k_X6_tell {Θ : TH} {l : Launch} (O : okT Θ (eX Θ) 68) (v1 : Int32) (σ0 : Mem) {y : Int32 × Mem} (h : X6_tell v1 σ0 = some y) : Met l yX6_tell (Cond.code yX6_tell cX6_tell 2 (some .int) :: wAll) rm_X6_tell (va_Pc [.ref (ta Θ 0), .int v1] (tS Θ σ0)) (qI Θ y.1 y.2) 0 0 (tA Θ) := by
  refine x_ent (by decide) (Nat.le_of_ble_eq_true rfl) (fun p e s m below meth c X hr hlk hP ls hl => ?_)
  have hS : va_S (tA Θ) s.heap s.heap [] := va_S.rf
  have hl : lv_has ls 2 [(0, .ref (ta Θ 0)), (1, .int v1)] := hl
  have hx := X.1
  have hb := X.2.1
  unfold X6_tell at h
  refine lv_aload_n hx hb dX6_tell_0 rfl (lv_at hl 0 rfl) ?_
  refine lv_iload_n hx hb dX6_tell_1 rfl (lv_at hl 1 rfl) ?_
  refine x_calli (x_runV X O hP hS hl.1 (As := [.int v1]) (rest := []) (k_X6_isPerson O v1 σ0 rfl) lt_X6 (e_X6 _) rfl wM_X6_93 wI_yX6_isPerson wS_yX6_isPerson wN_X6 wC_yX6_isPerson hd_X6_isPerson rfl ⟨rfl, rfl⟩ ⟨(Nat.le_of_ble_eq_true rfl), (Nat.le_of_ble_eq_true rfl)⟩ ⟨Nat.zero_le _, Nat.zero_le _⟩ rfl (Nat.le_of_ble_eq_true rfl) dX6_tell_2) hS (fun H locs hP hS => ?_)
  refine lv_if_ne (tgt := 10) hx hb dX6_tell_5 (by decide) (fun c_1 => ?_) (fun c_1 => ?_)
  · have h := ite_f c_1 h
    refine lv_aload_n hx hb dX6_tell_10 rfl (lv_at hl 0 rfl) ?_
    refine g_X6_19 X O hP dX6_tell_11 ?_
    refine lv_iload_n hx hb dX6_tell_14 rfl (lv_at hl 1 rfl) ?_
    obtain ⟨g_2, h⟩ := grd_s h
    refine x_aald X O hP (k := 2) (n := 6) (t0 := 3) (C := "LentYouths$Person") (g := fun j => 22 + j) (by decide) rfl rfl g_2 dX6_tell_15 ?_
    refine g_X6_96 X O hP (isPe_at g_2) dX6_tell_16 ?_
    by_cases c_3 : (σ0 (22 + v1.toNatClampNeg) 0) = 1
    · have h := ite_t c_3 h
      refine lv_lookup (off := 36) (tgt := 55) hx hb dX6_tell_19 (by decide) (by rw [c_3]; rfl) (by decide) ?_
      refine lv_aload_n hx hb dX6_tell_55 rfl (lv_at hl 0 rfl) ?_
      refine lv_aload_n hx hb dX6_tell_56 rfl (lv_at hl 0 rfl) ?_
      refine g_X6_19 X O hP dX6_tell_57 ?_
      refine lv_iload_n hx hb dX6_tell_60 rfl (lv_at hl 1 rfl) ?_
      obtain ⟨g_5, h⟩ := grd_s h
      refine x_aald X O hP (k := 2) (n := 6) (t0 := 3) (C := "LentYouths$Person") (g := fun j => 22 + j) (by decide) rfl rfl g_5 dX6_tell_61 ?_
      obtain ⟨z_6, e_7, h⟩ := bnd_s h
      refine x_calli (x_runV X O hP hS hl.1 (As := [.ref (ta Θ (22 + v1.toNatClampNeg))]) (rest := []) (k_X6_tellingOfSad O (isPe_at g_5) σ0 e_7.symm) lt_X6 (e_X6 _) rfl wM_X6_233 wI_yX6_tellingOfSad wS_yX6_tellingOfSad wN_X6 wC_yX6_tellingOfSad hd_X6_tellingOfSad rfl ⟨rfl, rfl⟩ ⟨(Nat.le_of_ble_eq_true rfl), (Nat.le_of_ble_eq_true rfl)⟩ ⟨Nat.zero_le _, Nat.zero_le _⟩ rfl (Nat.le_of_ble_eq_true rfl) dX6_tell_62) hS (fun H locs hP hS => ?_)
      have h := some_i h
      subst h
      exact x_reti X hP hS hr hlk rfl rfl dX6_tell_65
    · have h := ite_f c_3 h
      by_cases c_4 : (σ0 (22 + v1.toNatClampNeg) 0) = 2
      · have h := ite_t c_4 h
        refine lv_lookup (off := 25) (tgt := 44) hx hb dX6_tell_19 (by decide) (by rw [c_4]; rfl) (by decide) ?_
        refine lv_aload_n hx hb dX6_tell_44 rfl (lv_at hl 0 rfl) ?_
        refine lv_aload_n hx hb dX6_tell_45 rfl (lv_at hl 0 rfl) ?_
        refine g_X6_19 X O hP dX6_tell_46 ?_
        refine lv_iload_n hx hb dX6_tell_49 rfl (lv_at hl 1 rfl) ?_
        obtain ⟨g_8, h⟩ := grd_s h
        refine x_aald X O hP (k := 2) (n := 6) (t0 := 3) (C := "LentYouths$Person") (g := fun j => 22 + j) (by decide) rfl rfl g_8 dX6_tell_50 ?_
        obtain ⟨z_9, e_10, h⟩ := bnd_s h
        refine x_calli (x_runV X O hP hS hl.1 (As := [.ref (ta Θ (22 + v1.toNatClampNeg))]) (rest := []) (k_X6_tellingOfTwin O (isPe_at g_8) σ0 e_10.symm) lt_X6 (e_X6 _) rfl wM_X6_229 wI_yX6_tellingOfTwin wS_yX6_tellingOfTwin wN_X6 wC_yX6_tellingOfTwin hd_X6_tellingOfTwin rfl ⟨rfl, rfl⟩ ⟨(Nat.le_of_ble_eq_true rfl), (Nat.le_of_ble_eq_true rfl)⟩ ⟨Nat.zero_le _, Nat.zero_le _⟩ rfl (Nat.le_of_ble_eq_true rfl) dX6_tell_51) hS (fun H locs hP hS => ?_)
        have h := some_i h
        subst h
        exact x_reti X hP hS hr hlk rfl rfl dX6_tell_54
      · have h := ite_f c_4 h
        refine lv_lookup (off := 47) (tgt := 66) hx hb dX6_tell_19 (by decide) (by show Op.lookupswitch.offset [(1, 36), (2, 25)] 47 _ = 47; rw [lv_osw (a := 1) c_3 (by decide), lv_osw (a := 2) c_4 (by decide)]; rfl) (by decide) ?_
        refine lv_aload_n hx hb dX6_tell_66 rfl (lv_at hl 0 rfl) ?_
        refine lv_aload_n hx hb dX6_tell_67 rfl (lv_at hl 0 rfl) ?_
        refine g_X6_19 X O hP dX6_tell_68 ?_
        refine lv_iload_n hx hb dX6_tell_71 rfl (lv_at hl 1 rfl) ?_
        obtain ⟨g_11, h⟩ := grd_s h
        refine x_aald X O hP (k := 2) (n := 6) (t0 := 3) (C := "LentYouths$Person") (g := fun j => 22 + j) (by decide) rfl rfl g_11 dX6_tell_72 ?_
        obtain ⟨z_12, e_13, h⟩ := bnd_s h
        refine x_calli (x_runV X O hP hS hl.1 (As := [.ref (ta Θ (22 + v1.toNatClampNeg))]) (rest := []) (k_X6_tellingOfChildhood O (isPe_at g_11) σ0 e_13.symm) lt_X6 (e_X6 _) rfl wM_X6_236 wI_yX6_tellingOfChildhood wS_yX6_tellingOfChildhood wN_X6 wC_yX6_tellingOfChildhood hd_X6_tellingOfChildhood rfl ⟨rfl, rfl⟩ ⟨(Nat.le_of_ble_eq_true rfl), (Nat.le_of_ble_eq_true rfl)⟩ ⟨Nat.zero_le _, Nat.zero_le _⟩ rfl (Nat.le_of_ble_eq_true rfl) dX6_tell_73) hS (fun H locs hP hS => ?_)
        have h := some_i h
        subst h
        exact x_reti X hP hS hr hlk rfl rfl dX6_tell_76
  · have h := ite_t c_1 h
    refine lv_iconst (v := (-1)) hx hb dX6_tell_8 (by decide) ?_
    have h := some_i h
    subst h
    exact x_reti X hP hS hr hlk rfl rfl dX6_tell_9
abbrev rm_X6_hand : Room := { frames := 1, cells := 0, slots := 0, locals := 21 }
theorem hd_X6_hand : yX6_hand.cls ≠ "java/lang/invoke/MethodHandle" ∧ yX6_hand.cls ≠ "java/lang/invoke/VarHandle" ∧ (parseMethodDescriptor yX6_hand.desc).map (fun d => d.parameters.length) = some 1 := by decide +kernel
set_option maxHeartbeats 4000000 in
set_option maxRecDepth 100000 in
theorem k_X6_hand {Θ : TH} {l : Launch} (O : okT Θ (eX Θ) 68) (v1 : Int32) (σ0 : Mem) {y : Int32 × Mem} (h : X6_hand v1 σ0 = some y) : Met l yX6_hand (Cond.code yX6_hand cX6_hand 2 (some .int) :: wAll) rm_X6_hand (va_Pc [.ref (ta Θ 0), .int v1] (tS Θ σ0)) (qI Θ y.1 y.2) 0 0 (tA Θ) := by
  refine x_ent (by decide) (Nat.le_of_ble_eq_true rfl) (fun p e s m below meth c X hr hlk hP ls hl => ?_)
  have hS : va_S (tA Θ) s.heap s.heap [] := va_S.rf
  have hl : lv_has ls 2 [(0, .ref (ta Θ 0)), (1, .int v1)] := hl
  have hx := X.1
  have hb := X.2.1
  unfold X6_hand at h
  refine lv_aload_n hx hb dX6_hand_0 rfl (lv_at hl 0 rfl) ?_
  refine lv_iload_n hx hb dX6_hand_1 rfl (lv_at hl 1 rfl) ?_
  refine x_calli (x_runV X O hP hS hl.1 (As := [.int v1]) (rest := []) (k_X6_isPerson O v1 σ0 rfl) lt_X6 (e_X6 _) rfl wM_X6_93 wI_yX6_isPerson wS_yX6_isPerson wN_X6 wC_yX6_isPerson hd_X6_isPerson rfl ⟨rfl, rfl⟩ ⟨(Nat.le_of_ble_eq_true rfl), (Nat.le_of_ble_eq_true rfl)⟩ ⟨Nat.zero_le _, Nat.zero_le _⟩ rfl (Nat.le_of_ble_eq_true rfl) dX6_hand_2) hS (fun H locs hP hS => ?_)
  refine lv_if_ne (tgt := 10) hx hb dX6_hand_5 (by decide) (fun c_1 => ?_) (fun c_1 => ?_)
  · have h := ite_f c_1 h
    refine lv_aload_n hx hb dX6_hand_10 rfl (lv_at hl 0 rfl) ?_
    refine g_X6_19 X O hP dX6_hand_11 ?_
    refine lv_iload_n hx hb dX6_hand_14 rfl (lv_at hl 1 rfl) ?_
    obtain ⟨g_2, h⟩ := grd_s h
    refine x_aald X O hP (k := 2) (n := 6) (t0 := 3) (C := "LentYouths$Person") (g := fun j => 22 + j) (by decide) rfl rfl g_2 dX6_hand_15 ?_
    refine g_X6_96 X O hP (isPe_at g_2) dX6_hand_16 ?_
    refine lv_iconst (v := 2) hx hb dX6_hand_19 (by decide) ?_
    refine lv_icmp_ne (tgt := 31) hx hb dX6_hand_20 (by decide) (fun c_3 => ?_) (fun c_3 => ?_)
    · have h := ite_f c_3 h
      refine lv_aload_n hx hb dX6_hand_31 rfl (lv_at hl 0 rfl) ?_
      refine lv_iconst (v := 4) hx hb dX6_hand_32 (by decide) ?_
      obtain ⟨σ_4, e_5, h⟩ := bnd_s h
      refine x_callv (x_runV X O hP hS hl.1 (As := [.int 4]) (rest := []) (k_X6_leaveInTrace O (4 : Int32) σ0 e_5.symm) lt_X6 (e_X6 _) rfl wM_X6_239 wI_yX6_leaveInTrace wS_yX6_leaveInTrace wN_X6 wC_yX6_leaveInTrace hd_X6_leaveInTrace rfl ⟨rfl, rfl⟩ ⟨(Nat.le_of_ble_eq_true rfl), (Nat.le_of_ble_eq_true rfl)⟩ ⟨Nat.zero_le _, Nat.zero_le _⟩ rfl (Nat.le_of_ble_eq_true rfl) dX6_hand_33) hS (fun H locs hP hS => ?_)
      refine lv_iload_n hx hb dX6_hand_36 rfl (lv_at hl 1 rfl) ?_
      have h := some_i h
      subst h
      exact x_reti X hP hS hr hlk rfl rfl dX6_hand_37
    · have h := ite_t c_3 h
      refine lv_aload_n hx hb dX6_hand_23 rfl (lv_at hl 0 rfl) ?_
      refine lv_iconst (v := 5) hx hb dX6_hand_24 (by decide) ?_
      obtain ⟨σ_6, e_7, h⟩ := bnd_s h
      refine x_callv (x_runV X O hP hS hl.1 (As := [.int 5]) (rest := []) (k_X6_leaveInTrace O (5 : Int32) σ0 e_7.symm) lt_X6 (e_X6 _) rfl wM_X6_239 wI_yX6_leaveInTrace wS_yX6_leaveInTrace wN_X6 wC_yX6_leaveInTrace hd_X6_leaveInTrace rfl ⟨rfl, rfl⟩ ⟨(Nat.le_of_ble_eq_true rfl), (Nat.le_of_ble_eq_true rfl)⟩ ⟨Nat.zero_le _, Nat.zero_le _⟩ rfl (Nat.le_of_ble_eq_true rfl) dX6_hand_25) hS (fun H locs hP hS => ?_)
      refine lv_bipush (v := 40) hx hb dX6_hand_28 (by decide) ?_
      have h := some_i h
      subst h
      exact x_reti X hP hS hr hlk rfl rfl dX6_hand_30
  · have h := ite_t c_1 h
    refine lv_iconst (v := (-1)) hx hb dX6_hand_8 (by decide) ?_
    have h := some_i h
    subst h
    exact x_reti X hP hS hr hlk rfl rfl dX6_hand_9
abbrev rm_X6_as : Room := { frames := 1, cells := 0, slots := 0, locals := 21 }
theorem hd_X6_as : yX6_as.cls ≠ "java/lang/invoke/MethodHandle" ∧ yX6_as.cls ≠ "java/lang/invoke/VarHandle" ∧ (parseMethodDescriptor yX6_as.desc).map (fun d => d.parameters.length) = some 2 := by decide +kernel
set_option maxHeartbeats 4000000 in
set_option maxRecDepth 100000 in
theorem k_X6_as {Θ : TH} {l : Launch} (O : okT Θ (eX Θ) 68) (v1 : Int32) (v2 : Int32) (σ0 : Mem) {y : Int32 × Mem} (h : X6_as v1 v2 σ0 = some y) : Met l yX6_as (Cond.code yX6_as cX6_as 3 (some .int) :: wAll) rm_X6_as (va_Pc [.ref (ta Θ 0), .int v1, .int v2] (tS Θ σ0)) (qI Θ y.1 y.2) 0 0 (tA Θ) := by
  refine x_ent (by decide) (Nat.le_of_ble_eq_true rfl) (fun p e s m below meth c X hr hlk hP ls hl => ?_)
  have hS : va_S (tA Θ) s.heap s.heap [] := va_S.rf
  have hl : lv_has ls 3 [(0, .ref (ta Θ 0)), (1, .int v1), (2, .int v2)] := hl
  have hx := X.1
  have hb := X.2.1
  unfold X6_as at h
  refine lv_aload_n hx hb dX6_as_0 rfl (lv_at hl 0 rfl) ?_
  refine lv_iconst (v := 0) hx hb dX6_as_1 (by decide) ?_
  obtain ⟨σ_1, e_2, h⟩ := bnd_s h
  refine p_X6_62 X O hP hS dX6_as_2 e_2 (fun H locs hP hS => ?_)
  refine lv_aload_n hx hb dX6_as_5 rfl (lv_at hl 0 rfl) ?_
  refine lv_iload_n hx hb dX6_as_6 rfl (lv_at hl 1 rfl) ?_
  refine x_calli (x_runV X O hP hS hl.1 (As := [.int v1]) (rest := []) (k_X6_isPerson O v1 σ_1 rfl) lt_X6 (e_X6 _) rfl wM_X6_93 wI_yX6_isPerson wS_yX6_isPerson wN_X6 wC_yX6_isPerson hd_X6_isPerson rfl ⟨rfl, rfl⟩ ⟨(Nat.le_of_ble_eq_true rfl), (Nat.le_of_ble_eq_true rfl)⟩ ⟨Nat.zero_le _, Nat.zero_le _⟩ rfl (Nat.le_of_ble_eq_true rfl) dX6_as_7) hS (fun H locs hP hS => ?_)
  refine lv_if_ne (tgt := 15) hx hb dX6_as_10 (by decide) (fun c_3 => ?_) (fun c_3 => ?_)
  · have h := ite_f c_3 h
    refine lv_iload_n hx hb dX6_as_15 rfl (lv_at hl 2 rfl) ?_
    refine lv_if_lt (tgt := 24) hx hb dX6_as_16 (by decide) (fun c_4 => ?_) (fun c_4 => ?_)
    · have h := ite_t c_4 h
      refine lv_bipush (v := (-2)) hx hb dX6_as_24 (by decide) ?_
      have h := some_i h
      subst h
      exact x_reti X hP hS hr hlk rfl rfl dX6_as_26
    · have h := ite_f c_4 h
      refine lv_iload_n hx hb dX6_as_19 rfl (lv_at hl 2 rfl) ?_
      refine lv_iconst (v := 3) hx hb dX6_as_20 (by decide) ?_
      refine lv_icmp_lt (tgt := 27) hx hb dX6_as_21 (by decide) (fun c_5 => ?_) (fun c_5 => ?_)
      · have h := ite_t c_5 h
        refine lv_aload_n hx hb dX6_as_27 rfl (lv_at hl 0 rfl) ?_
        refine g_X6_19 X O hP dX6_as_28 ?_
        refine lv_iload_n hx hb dX6_as_31 rfl (lv_at hl 1 rfl) ?_
        obtain ⟨g_6, h⟩ := grd_s h
        refine x_aald X O hP (k := 2) (n := 6) (t0 := 3) (C := "LentYouths$Person") (g := fun j => 22 + j) (by decide) rfl rfl g_6 dX6_as_32 ?_
        refine g_X6_96 X O hP (isPe_at g_6) dX6_as_33 ?_
        refine lv_iload_n hx hb dX6_as_36 rfl (lv_at hl 2 rfl) ?_
        refine lv_icmp_lt (tgt := 44) hx hb dX6_as_37 (by decide) (fun c_7 => ?_) (fun c_7 => ?_)
        · have h := ite_t c_7 h
          refine lv_aload_n hx hb dX6_as_44 rfl (lv_at hl 0 rfl) ?_
          refine lv_iconst (v := 2) hx hb dX6_as_45 (by decide) ?_
          obtain ⟨z_8, e_9, h⟩ := bnd_s h
          refine x_calli (x_runV X O hP hS hl.1 (As := [.int 2]) (rest := []) (k_X6_faultAnswer O (2 : Int32) σ_1 e_9.symm) lt_X6 (e_X6 _) rfl wM_X6_78 wI_yX6_faultAnswer wS_yX6_faultAnswer wN_X6 wC_yX6_faultAnswer hd_X6_faultAnswer rfl ⟨rfl, rfl⟩ ⟨(Nat.le_of_ble_eq_true rfl), (Nat.le_of_ble_eq_true rfl)⟩ ⟨Nat.zero_le _, Nat.zero_le _⟩ rfl (Nat.le_of_ble_eq_true rfl) dX6_as_46) hS (fun H locs hP hS => ?_)
          have h := some_i h
          subst h
          exact x_reti X hP hS hr hlk rfl rfl dX6_as_49
        · have h := ite_f c_7 h
          refine lv_iconst (v := 1) hx hb dX6_as_40 (by decide) ?_
          refine lv_goto (tgt := 49) hx hb dX6_as_41 (by decide) ?_
          have h := some_i h
          subst h
          exact x_reti X hP hS hr hlk rfl rfl dX6_as_49
      · have h := ite_f c_5 h
        refine lv_bipush (v := (-2)) hx hb dX6_as_24 (by decide) ?_
        have h := some_i h
        subst h
        exact x_reti X hP hS hr hlk rfl rfl dX6_as_26
  · have h := ite_t c_3 h
    refine lv_iconst (v := (-1)) hx hb dX6_as_13 (by decide) ?_
    have h := some_i h
    subst h
    exact x_reti X hP hS hr hlk rfl rfl dX6_as_14
abbrev rm_X6_trace : Room := { frames := 0, cells := 0, slots := 0, locals := 0 }
theorem hd_X6_trace : yX6_trace.cls ≠ "java/lang/invoke/MethodHandle" ∧ yX6_trace.cls ≠ "java/lang/invoke/VarHandle" ∧ (parseMethodDescriptor yX6_trace.desc).map (fun d => d.parameters.length) = some 0 := by decide +kernel
set_option maxHeartbeats 4000000 in
set_option maxRecDepth 100000 in
theorem k_X6_trace {Θ : TH} {l : Launch} (O : okT Θ (eX Θ) 68) (σ0 : Mem) {y : Int32} (h : X6_trace σ0 = y) : Met l yX6_trace (Cond.code yX6_trace cX6_trace 1 (some .int) :: wAll) rm_X6_trace (va_Pc [.ref (ta Θ 0)] (tS Θ σ0)) (qI Θ y σ0) 0 0 (tA Θ) := by
  refine x_ent (by decide) (Nat.le_of_ble_eq_true rfl) (fun p e s m below meth c X hr hlk hP ls hl => ?_)
  have hS : va_S (tA Θ) s.heap s.heap [] := va_S.rf
  have hl : lv_has ls 1 [(0, .ref (ta Θ 0))] := hl
  have hx := X.1
  have hb := X.2.1
  unfold X6_trace at h
  refine lv_aload_n hx hb dX6_trace_0 rfl (lv_at hl 0 rfl) ?_
  refine g_X6_59 X O hP dX6_trace_1 ?_
  subst h
  exact x_reti X hP hS hr hlk rfl rfl dX6_trace_4
abbrev rm_X6_fault : Room := { frames := 0, cells := 0, slots := 0, locals := 0 }
theorem hd_X6_fault : yX6_fault.cls ≠ "java/lang/invoke/MethodHandle" ∧ yX6_fault.cls ≠ "java/lang/invoke/VarHandle" ∧ (parseMethodDescriptor yX6_fault.desc).map (fun d => d.parameters.length) = some 0 := by decide +kernel
set_option maxHeartbeats 4000000 in
set_option maxRecDepth 100000 in
theorem k_X6_fault {Θ : TH} {l : Launch} (O : okT Θ (eX Θ) 68) (σ0 : Mem) {y : Int32} (h : X6_fault σ0 = y) : Met l yX6_fault (Cond.code yX6_fault cX6_fault 1 (some .int) :: wAll) rm_X6_fault (va_Pc [.ref (ta Θ 0)] (tS Θ σ0)) (qI Θ y σ0) 0 0 (tA Θ) := by
  refine x_ent (by decide) (Nat.le_of_ble_eq_true rfl) (fun p e s m below meth c X hr hlk hP ls hl => ?_)
  have hS : va_S (tA Θ) s.heap s.heap [] := va_S.rf
  have hl : lv_has ls 1 [(0, .ref (ta Θ 0))] := hl
  have hx := X.1
  have hb := X.2.1
  unfold X6_fault at h
  refine lv_aload_n hx hb dX6_fault_0 rfl (lv_at hl 0 rfl) ?_
  refine g_X6_62 X O hP dX6_fault_1 ?_
  subst h
  exact x_reti X hP hS hr hlk rfl rfl dX6_fault_4
abbrev rm_X6_many : Room := { frames := 0, cells := 0, slots := 0, locals := 0 }
theorem hd_X6_many : yX6_many.cls ≠ "java/lang/invoke/MethodHandle" ∧ yX6_many.cls ≠ "java/lang/invoke/VarHandle" ∧ (parseMethodDescriptor yX6_many.desc).map (fun d => d.parameters.length) = some 1 := by decide +kernel
set_option maxHeartbeats 4000000 in
set_option maxRecDepth 100000 in
theorem k_X6_many {Θ : TH} {l : Launch} (O : okT Θ (eX Θ) 68) (v1 : Int32) (σ0 : Mem) {y : Int32} (h : X6_many v1 σ0 = y) : Met l yX6_many (Cond.code yX6_many cX6_many 2 (some .int) :: wAll) rm_X6_many (va_Pc [.ref (ta Θ 0), .int v1] (tS Θ σ0)) (qI Θ y σ0) 0 0 (tA Θ) := by
  refine x_ent (by decide) (Nat.le_of_ble_eq_true rfl) (fun p e s m below meth c X hr hlk hP ls hl => ?_)
  have hS : va_S (tA Θ) s.heap s.heap [] := va_S.rf
  have hl : lv_has ls 2 [(0, .ref (ta Θ 0)), (1, .int v1)] := hl
  have hx := X.1
  have hb := X.2.1
  unfold X6_many at h
  refine lv_iload_n hx hb dX6_many_0 rfl (lv_at hl 1 rfl) ?_
  by_cases c_1 : v1 = 0
  · have h := ite_t c_1 h
    refine lv_lookup (off := 27) (tgt := 28) hx hb dX6_many_1 (by decide) (by rw [c_1]; rfl) (by decide) ?_
    refine lv_aload_n hx hb dX6_many_28 rfl (lv_at hl 0 rfl) ?_
    refine g_X6_55 X O hP dX6_many_29 ?_
    subst h
    exact x_reti X hP hS hr hlk rfl rfl dX6_many_32
  · have h := ite_f c_1 h
    by_cases c_2 : v1 = 1
    · have h := ite_t c_2 h
      refine lv_lookup (off := 32) (tgt := 33) hx hb dX6_many_1 (by decide) (by rw [c_2]; rfl) (by decide) ?_
      refine lv_aload_n hx hb dX6_many_33 rfl (lv_at hl 0 rfl) ?_
      refine g_X6_26 X O hP dX6_many_34 ?_
      refine g_X6_90 X O hP dX6_many_37 ?_
      subst h
      exact x_reti X hP hS hr hlk rfl rfl dX6_many_40
    · have h := ite_f c_2 h
      refine lv_lookup (off := 40) (tgt := 41) hx hb dX6_many_1 (by decide) (by show Op.lookupswitch.offset [(0, 27), (1, 32)] 40 _ = 40; rw [lv_osw (a := 0) c_1 (by decide), lv_osw (a := 1) c_2 (by decide)]; rfl) (by decide) ?_
      refine lv_bipush (v := (-2)) hx hb dX6_many_41 (by decide) ?_
      subst h
      exact x_reti X hP hS hr hlk rfl rfl dX6_many_43
