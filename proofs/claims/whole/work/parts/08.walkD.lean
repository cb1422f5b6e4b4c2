-- walks (printed by gen2.py)
abbrev rm_X7_homeBy : Room := { frames := 1, cells := 0, slots := 0, locals := 21 }
set_option maxHeartbeats 4000000 in
set_option maxRecDepth 100000 in
theorem w_X7_homeBy_L33 {F : Nat} {Θ : TH} {p : Program} {l : Launch} {e : Env} {s : State} {m : MethodId} {args : Array Value} {below : List Frame} {meth : Method} {c : Code} (X : CX Θ p s m args c RX7 cX7_homeBy 5) (O : okT Θ (eM Θ) 23) (hr : meth.sig.returnType = some .int) (hlk : meth.locks = false) (v2 : Int32) (v3 : Int32) (σ0 : Mem) {y : Int32} {k61 : Int32 → Option (Int32)} (hk61 : ∀ (v1 : Int32), k61 v1 = some y → ∀ (H : Heap) (locs : List Loc) (ls : Array Slot), va_P (tD Θ) vwCl (tw Θ σ0) H → va_S (tA Θ) s.heap H locs → lv_has ls 5 [(0, .ref (ta Θ 0)), (1, .int v1), (2, .int v2), (3, .int v3)] → W p l e rm_X7_homeBy s m args below meth c H locs 0 0 (MQ below (qI Θ y σ0) args s 0 0 (tA Θ)) (F0 m 61 ls [])) :
    ∀ (f : Nat) (v1 : Int32) (v4 : Int32), X7_homeBy_L33 F v2 v3 σ0 k61 f v1 v4 = some y → ∀ (H : Heap) (locs : List Loc) (ls : Array Slot), va_P (tD Θ) vwCl (tw Θ σ0) H → va_S (tA Θ) s.heap H locs → lv_has ls 5 [(0, .ref (ta Θ 0)), (1, .int v1), (2, .int v2), (3, .int v3), (4, .int v4)] → W p l e rm_X7_homeBy s m args below meth c H locs 0 0 (MQ below (qI Θ y σ0) args s 0 0 (tA Θ)) (F0 m 33 ls []) := by
  have hx := X.1
  have hb := X.2.1
  intro f
  induction f with
  | zero => intro v1 v4 h; cases h
  | succ f ih =>
    intro v1 v4 h H locs ls hP hS hl
    rw [X7_homeBy_L33] at h
    refine lv_iload_n hx hb dX7_homeBy_33 rfl (lv_at hl 1 rfl) ?_
    refine lv_iload hx hb dX7_homeBy_34 (lv_at hl 4 rfl) ?_
    refine x_calli (x_runS X hP hS hl.1 (As := [.int v1, .int v4]) (rest := []) (k_X7_isIn O v1 v4 σ0 rfl) wM_X7_149 wT_yX7_isIn wN_X7 wC_yX7_isIn hd_X7_isIn rfl ⟨rfl, rfl⟩ ⟨(Nat.le_of_ble_eq_true rfl), (Nat.le_of_ble_eq_true rfl)⟩ ⟨Nat.zero_le _, Nat.zero_le _⟩ rfl (Nat.le_of_ble_eq_true rfl) dX7_homeBy_36) hS (fun H locs hP hS => ?_)
    refine lv_if_ne (tgt := 61) hx hb dX7_homeBy_39 (by decide) (fun c_5 => ?_) (fun c_5 => ?_)
    · have h := ite_f c_5 h
      exact hk61 v1 h _ _ _ hP hS (lv_sub hl [0, 1, 2, 3] rfl)
    · have h := ite_t c_5 h
      refine lv_iload_n hx hb dX7_homeBy_42 rfl (lv_at hl 1 rfl) ?_
      refine lv_iconst (v := 1) hx hb dX7_homeBy_43 (by decide) ?_
      refine lv_iload hx hb dX7_homeBy_44 (lv_at hl 4 rfl) ?_
      refine lv_ishl hx hb dX7_homeBy_46 ?_
      refine lv_ior hx hb dX7_homeBy_47 ?_
      obtain ⟨v1_6, e_7, h⟩ := bnd_s h
      refine lv_nam e_7 ?_
      refine lv_istore_n (lv' := [(1, .int v1_6), (0, .ref (ta Θ 0)), (2, .int v2), (3, .int v3), (4, .int v4)]) hx hb dX7_homeBy_48 rfl hl (by decide) rfl (fun ls hl => ?_)
      refine lv_aload_n hx hb dX7_homeBy_49 rfl (lv_at hl 1 rfl) ?_
      refine g_X7_34 X O hP dX7_homeBy_50 ?_
      refine lv_iload hx hb dX7_homeBy_53 (lv_at hl 4 rfl) ?_
      obtain ⟨g_8, h⟩ := grd_s h
      refine x_iald X O hP mI_9 g_8 dX7_homeBy_55 ?_
      obtain ⟨v4_9, e_10, h⟩ := bnd_s h
      refine lv_nam e_10 ?_
      refine lv_istore (lv' := [(4, .int v4_9), (1, .int v1_6), (0, .ref (ta Θ 0)), (2, .int v2), (3, .int v3)]) hx hb dX7_homeBy_56 hl (by decide) rfl (fun ls hl => ?_)
      refine lv_goto (tgt := 33) hx hb dX7_homeBy_58 (by decide) ?_
      exact ih v1_6 v4_9 h _ _ _ hP hS (lv_sub hl [2, 1, 3, 4, 0] rfl)
set_option maxHeartbeats 4000000 in
set_option maxRecDepth 100000 in
theorem w_X7_homeBy_L6 {F : Nat} {Θ : TH} {p : Program} {l : Launch} {e : Env} {s : State} {m : MethodId} {args : Array Value} {below : List Frame} {meth : Method} {c : Code} (X : CX Θ p s m args c RX7 cX7_homeBy 5) (O : okT Θ (eM Θ) 23) (hr : meth.sig.returnType = some .int) (hlk : meth.locks = false) (σ0 : Mem) {y : Int32} :
    ∀ (f : Nat) (v1 : Int32) (v2 : Int32) (v3 : Int32), X7_homeBy_L6 F σ0 f v1 v2 v3 = some y → ∀ (H : Heap) (locs : List Loc) (ls : Array Slot), va_P (tD Θ) vwCl (tw Θ σ0) H → va_S (tA Θ) s.heap H locs → lv_has ls 5 [(0, .ref (ta Θ 0)), (1, .int v1), (2, .int v2), (3, .int v3)] → W p l e rm_X7_homeBy s m args below meth c H locs 0 0 (MQ below (qI Θ y σ0) args s 0 0 (tA Θ)) (F0 m 6 ls []) := by
  have hx := X.1
  have hb := X.2.1
  intro f
  induction f with
  | zero => intro v1 v2 v3 h; cases h
  | succ f ih =>
    intro v1 v2 v3 h H locs ls hP hS hl
    rw [X7_homeBy_L6] at h
    refine lv_iload_n hx hb dX7_homeBy_6 rfl (lv_at hl 3 rfl) ?_
    refine lv_aload_n hx hb dX7_homeBy_7 rfl (lv_at hl 0 rfl) ?_
    refine g_X7_87 X O hP dX7_homeBy_8 ?_
    refine lv_icmp_ge (tgt := 67) hx hb dX7_homeBy_11 (by decide) (fun c_1 => ?_) (fun c_1 => ?_)
    · have h := ite_t c_1 h
      refine lv_aload_n hx hb dX7_homeBy_67 rfl (lv_at hl 0 rfl) ?_
      refine g_X7_87 X O hP dX7_homeBy_68 ?_
      refine lv_iload_n hx hb dX7_homeBy_71 rfl (lv_at hl 2 rfl) ?_
      refine lv_isub hx hb dX7_homeBy_72 ?_
      have h := some_i h
      subst h
      exact x_reti X hP hS hr hlk rfl rfl dX7_homeBy_73
    · have h := ite_f c_1 h
      refine lv_iload_n hx hb dX7_homeBy_14 rfl (lv_at hl 2 rfl) ?_
      refine lv_iload_n hx hb dX7_homeBy_15 rfl (lv_at hl 1 rfl) ?_
      refine lv_iload_n hx hb dX7_homeBy_16 rfl (lv_at hl 3 rfl) ?_
      refine x_calli (x_runS X hP hS hl.1 (As := [.int v1, .int v3]) (rest := [.int v2]) (k_X7_isIn O v1 v3 σ0 rfl) wM_X7_149 wT_yX7_isIn wN_X7 wC_yX7_isIn hd_X7_isIn rfl ⟨rfl, rfl⟩ ⟨(Nat.le_of_ble_eq_true rfl), (Nat.le_of_ble_eq_true rfl)⟩ ⟨Nat.zero_le _, Nat.zero_le _⟩ rfl (Nat.le_of_ble_eq_true rfl) dX7_homeBy_17) hS (fun H locs hP hS => ?_)
      refine lv_if_eq (tgt := 27) hx hb dX7_homeBy_20 (by decide) (fun c_2 => ?_) (fun c_2 => ?_)
      · have h := ite_t c_2 h
        refine lv_iconst (v := 1) hx hb dX7_homeBy_27 (by decide) ?_
        refine lv_iadd hx hb dX7_homeBy_28 ?_
        obtain ⟨v2_3, e_4, h⟩ := bnd_s h
        refine lv_nam e_4 ?_
        refine lv_istore_n (lv' := [(2, .int v2_3), (0, .ref (ta Θ 0)), (1, .int v1), (3, .int v3)]) hx hb dX7_homeBy_29 rfl hl (by decide) rfl (fun ls hl => ?_)
        refine lv_iload_n hx hb dX7_homeBy_30 rfl (lv_at hl 3 rfl) ?_
        refine lv_istore (lv' := [(4, .int v3), (2, .int v2_3), (0, .ref (ta Θ 0)), (1, .int v1), (3, .int v3)]) hx hb dX7_homeBy_31 hl (by decide) rfl (fun ls hl => ?_)
        refine w_X7_homeBy_L33 X O hr hlk v2_3 v3 σ0 ?_ _ v1 v3 h _ _ _ hP hS (lv_sub hl [2, 3, 1, 4, 0] rfl)
        · intro v1_11 h H locs ls hP hS hl
          refine lv_iinc (v := v3 + 1) (lv' := [(3, .int (v3 + 1)), (0, .ref (ta Θ 0)), (1, .int v1_11), (2, .int v2_3)]) hx hb dX7_homeBy_61 hl (k := 3) rfl rfl (by decide) rfl (fun ls hl => ?_)
          refine lv_goto (tgt := 6) hx hb dX7_homeBy_64 (by decide) ?_
          exact ih v1_11 v2_3 (v3 + 1) h _ _ _ hP hS (lv_sub hl [1, 2, 3, 0] rfl)
      · have h := ite_f c_2 h
        refine lv_iconst (v := 0) hx hb dX7_homeBy_23 (by decide) ?_
        refine lv_goto (tgt := 28) hx hb dX7_homeBy_24 (by decide) ?_
        refine lv_iadd hx hb dX7_homeBy_28 ?_
        obtain ⟨v2_12, e_13, h⟩ := bnd_s h
        refine lv_nam e_13 ?_
        refine lv_istore_n (lv' := [(2, .int v2_12), (0, .ref (ta Θ 0)), (1, .int v1), (3, .int v3)]) hx hb dX7_homeBy_29 rfl hl (by decide) rfl (fun ls hl => ?_)
        refine lv_iload_n hx hb dX7_homeBy_30 rfl (lv_at hl 3 rfl) ?_
        refine lv_istore (lv' := [(4, .int v3), (2, .int v2_12), (0, .ref (ta Θ 0)), (1, .int v1), (3, .int v3)]) hx hb dX7_homeBy_31 hl (by decide) rfl (fun ls hl => ?_)
        refine w_X7_homeBy_L33 X O hr hlk v2_12 v3 σ0 ?_ _ v1 v3 h _ _ _ hP hS (lv_sub hl [2, 3, 1, 4, 0] rfl)
        · intro v1_14 h H locs ls hP hS hl
          refine lv_iinc (v := v3 + 1) (lv' := [(3, .int (v3 + 1)), (0, .ref (ta Θ 0)), (1, .int v1_14), (2, .int v2_12)]) hx hb dX7_homeBy_61 hl (k := 3) rfl rfl (by decide) rfl (fun ls hl => ?_)
          refine lv_goto (tgt := 6) hx hb dX7_homeBy_64 (by decide) ?_
          exact ih v1_14 v2_12 (v3 + 1) h _ _ _ hP hS (lv_sub hl [1, 2, 3, 0] rfl)
theorem hd_X7_homeBy : yX7_homeBy.cls ≠ "java/lang/invoke/MethodHandle" ∧ yX7_homeBy.cls ≠ "java/lang/invoke/VarHandle" ∧ (parseMethodDescriptor yX7_homeBy.desc).map (fun d => d.parameters.length) = some 0 := by decide +kernel
set_option maxHeartbeats 4000000 in
set_option maxRecDepth 100000 in
theorem k_X7_homeBy {F : Nat} {Θ : TH} {l : Launch} (O : okT Θ (eM Θ) 23) (σ0 : Mem) {y : Int32} (h : X7_homeBy F σ0 = some y) : Met l yX7_homeBy (Cond.code yX7_homeBy cX7_homeBy 5 (some .int) :: wAll) rm_X7_homeBy (va_Pc [.ref (ta Θ 0)] (tS Θ σ0)) (qI Θ y σ0) 0 0 (tA Θ) := by
  refine x_ent (by decide) (Nat.le_of_ble_eq_true rfl) (fun p e s m below meth c X hr hlk hP ls hl => ?_)
  have hS : va_S (tA Θ) s.heap s.heap [] := va_S.rf
  have hl : lv_has ls 5 [(0, .ref (ta Θ 0))] := hl
  have hx := X.1
  have hb := X.2.1
  unfold X7_homeBy at h
  refine lv_iconst (v := 0) hx hb dX7_homeBy_0 (by decide) ?_
  refine lv_istore_n (lv' := [(1, .int 0), (0, .ref (ta Θ 0))]) hx hb dX7_homeBy_1 rfl hl (by decide) rfl (fun ls hl => ?_)
  refine lv_iconst (v := 0) hx hb dX7_homeBy_2 (by decide) ?_
  refine lv_istore_n (lv' := [(2, .int 0), (1, .int 0), (0, .ref (ta Θ 0))]) hx hb dX7_homeBy_3 rfl hl (by decide) rfl (fun ls hl => ?_)
  refine lv_iconst (v := 0) hx hb dX7_homeBy_4 (by decide) ?_
  refine lv_istore_n (lv' := [(3, .int 0), (2, .int 0), (1, .int 0), (0, .ref (ta Θ 0))]) hx hb dX7_homeBy_5 rfl hl (by decide) rfl (fun ls hl => ?_)
  refine w_X7_homeBy_L6 X O hr hlk σ0  _ (0 : Int32) (0 : Int32) (0 : Int32) h _ _ _ hP hS (lv_sub hl [3, 2, 1, 0] rfl)
abbrev rm_X7_pairsBarred : Room := { frames := 2, cells := 0, slots := 0, locals := 48 }
set_option maxHeartbeats 4000000 in
set_option maxRecDepth 100000 in
theorem w_X7_pairsBarred_L27 {F : Nat} {Θ : TH} {p : Program} {l : Launch} {e : Env} {s : State} {m : MethodId} {args : Array Value} {below : List Frame} {meth : Method} {c : Code} (X : CX Θ p s m args c RX7 cX7_pairsBarred 7) (O : okT Θ (eM Θ) 23) (hr : meth.sig.returnType = some .int) (hlk : meth.locks = false) (v1 : Int32) (v3 : Int32) (v4 : Int32) (σ0 : Mem) {y : Int32 × Mem} {k69 : Option (Int32 × Mem)} (hk69 : k69 = some y → ∀ (H : Heap) (locs : List Loc) (ls : Array Slot), va_P (tD Θ) vwCl (tw Θ σ0) H → va_S (tA Θ) s.heap H locs → lv_has ls 7 [(0, .ref (ta Θ 0))] → W p l e rm_X7_pairsBarred s m args below meth c H locs 0 0 (MQ below (qI Θ y.1 y.2) args s 0 0 (tA Θ)) (F0 m 69 ls [])) {k57 : Option (Int32 × Mem)} (hk57 : k57 = some y → ∀ (H : Heap) (locs : List Loc) (ls : Array Slot), va_P (tD Θ) vwCl (tw Θ σ0) H → va_S (tA Θ) s.heap H locs → lv_has ls 7 [(0, .ref (ta Θ 0))] → W p l e rm_X7_pairsBarred s m args below meth c H locs 0 0 (MQ below (qI Θ y.1 y.2) args s 0 0 (tA Θ)) (F0 m 57 ls [])) :
    ∀ (f : Nat) (v6 : Int32), X7_pairsBarred_L27 F v1 v3 v4 σ0 k69 k57 f v6 = some y → ∀ (H : Heap) (locs : List Loc) (ls : Array Slot), va_P (tD Θ) vwCl (tw Θ σ0) H → va_S (tA Θ) s.heap H locs → lv_has ls 7 [(0, .ref (ta Θ 0)), (1, .int v1), (3, .int v3), (4, .int v4), (6, .int v6)] → W p l e rm_X7_pairsBarred s m args below meth c H locs 0 0 (MQ below (qI Θ y.1 y.2) args s 0 0 (tA Θ)) (F0 m 27 ls []) := by
  have hx := X.1
  have hb := X.2.1
  intro f
  induction f with
  | zero => intro v6 h; cases h
  | succ f ih =>
    intro v6 h H locs ls hP hS hl
    rw [X7_pairsBarred_L27] at h
    refine lv_iload hx hb dX7_pairsBarred_27 (lv_at hl 4 rfl) ?_
    refine lv_iconst (v := 2) hx hb dX7_pairsBarred_29 (by decide) ?_
    refine lv_iload hx hb dX7_pairsBarred_30 (lv_at hl 3 rfl) ?_
    refine lv_imul hx hb dX7_pairsBarred_32 ?_
    refine lv_icmp_ge (tgt := 69) hx hb dX7_pairsBarred_33 (by decide) (fun c_4 => ?_) (fun c_4 => ?_)
    · have h := ite_t c_4 h
      exact hk69  h _ _ _ hP hS (lv_sub hl [0] rfl)
    · have h := ite_f c_4 h
      refine lv_aload_n hx hb dX7_pairsBarred_36 rfl (lv_at hl 0 rfl) ?_
      refine lv_aload_n hx hb dX7_pairsBarred_37 rfl (lv_at hl 0 rfl) ?_
      refine g_X7_71 X O hP dX7_pairsBarred_38 ?_
      refine lv_bipush (v := 60) hx hb dX7_pairsBarred_41 (by decide) ?_
      refine lv_iload_n hx hb dX7_pairsBarred_43 rfl (lv_at hl 1 rfl) ?_
      refine lv_imul hx hb dX7_pairsBarred_44 ?_
      refine lv_iload_n hx hb dX7_pairsBarred_45 rfl (lv_at hl 2 rfl) ?_
      refine lv_iadd hx hb dX7_pairsBarred_46 ?_
      refine lv_iload hx hb dX7_pairsBarred_47 (lv_at hl 4 rfl) ?_
      refine lv_iadd hx hb dX7_pairsBarred_49 ?_
      obtain ⟨g_5, h⟩ := grd_s h
      refine x_iald X O hP mI_21 g_5 dX7_pairsBarred_50 ?_
      refine x_calli (x_runV X O hP hS hl.1 (As := [.int (σ0 21 ((((60 : Int32) * v1) + v3) + v6).toNatClampNeg)]) (rest := []) (k_X7_noPerson O (σ0 21 ((((60 : Int32) * v1) + v3) + v6).toNatClampNeg) σ0 rfl) lt_X7 (e_X7 _) rfl wM_X7_139 wI_yX7_noPerson wS_yX7_noPerson wN_X7 wC_yX7_noPerson hd_X7_noPerson rfl ⟨rfl, rfl⟩ ⟨(Nat.le_of_ble_eq_true rfl), (Nat.le_of_ble_eq_true rfl)⟩ ⟨Nat.zero_le _, Nat.zero_le _⟩ rfl (Nat.le_of_ble_eq_true rfl) dX7_pairsBarred_51) hS (fun H locs hP hS => ?_)
      refine lv_if_eq (tgt := 63) hx hb dX7_pairsBarred_54 (by decide) (fun c_6 => ?_) (fun c_6 => ?_)
      · have h := ite_t c_6 h
        refine lv_iinc (v := v6 + 1) (lv' := [(6, .int (v6 + 1)), (0, .ref (ta Θ 0)), (1, .int v1), (3, .int v3), (4, .int v4)]) hx hb dX7_pairsBarred_63 hl (k := 4) rfl rfl (by decide) rfl (fun ls hl => ?_)
        refine lv_goto (tgt := 27) hx hb dX7_pairsBarred_66 (by decide) ?_
        exact ih (v6 + 1) h _ _ _ hP hS (lv_sub hl [1, 2, 3, 4, 0] rfl)
      · have h := ite_f c_6 h
        exact hk57  h _ _ _ hP hS (lv_sub hl [0] rfl)
theorem hd_X7_pairsBarred : yX7_pairsBarred.cls ≠ "java/lang/invoke/MethodHandle" ∧ yX7_pairsBarred.cls ≠ "java/lang/invoke/VarHandle" ∧ (parseMethodDescriptor yX7_pairsBarred.desc).map (fun d => d.parameters.length) = some 4 := by decide +kernel
set_option maxHeartbeats 4000000 in
set_option maxRecDepth 100000 in
theorem k_X7_pairsBarred {F : Nat} {Θ : TH} {l : Launch} (O : okT Θ (eM Θ) 23) (v1 : Int32) (v2 : Int32) (v3 : Int32) (v4 : Int32) (σ0 : Mem) {y : Int32 × Mem} (h : X7_pairsBarred F v1 v2 v3 v4 σ0 = some y) : Met l yX7_pairsBarred (Cond.code yX7_pairsBarred cX7_pairsBarred 7 (some .int) :: wAll) rm_X7_pairsBarred (va_Pc [.ref (ta Θ 0), .int v1, .int v2, .int v3, .int v4] (tS Θ σ0)) (qI Θ y.1 y.2) 0 0 (tA Θ) := by
  refine x_ent (by decide) (Nat.le_of_ble_eq_true rfl) (fun p e s m below meth c X hr hlk hP ls hl => ?_)
  have hS : va_S (tA Θ) s.heap s.heap [] := va_S.rf
  have hl : lv_has ls 7 [(0, .ref (ta Θ 0)), (1, .int v1), (2, .int v2), (3, .int v3), (4, .int v4)] := hl
  have hx := X.1
  have hb := X.2.1
  unfold X7_pairsBarred at h
  refine lv_aload_n hx hb dX7_pairsBarred_0 rfl (lv_at hl 0 rfl) ?_
  refine lv_iload_n hx hb dX7_pairsBarred_1 rfl (lv_at hl 1 rfl) ?_
  refine lv_iload_n hx hb dX7_pairsBarred_2 rfl (lv_at hl 2 rfl) ?_
  refine lv_iload_n hx hb dX7_pairsBarred_3 rfl (lv_at hl 3 rfl) ?_
  refine lv_ldc2 (v := 2) hx hb X.2.2.2.1 (X.2.2.2.2.1 _ wL_X7_127) dX7_pairsBarred_4 ?_
  refine lv_iload hx hb dX7_pairsBarred_7 (lv_at hl 4 rfl) ?_
  refine lv_i2l (v := v4.toInt64) hx hb dX7_pairsBarred_9 rfl ?_
  refine lv_lmul hx hb dX7_pairsBarred_10 ?_
  obtain ⟨z_1, e_2, h⟩ := ob_s h
  refine x_calli (x_runV X O hP hS hl.1 (As := [.int v1, .int v2, .int v3, .long ((2 : Int64) * v4.toInt64)]) (rest := []) (k_X7_cellsBarred O v1 v2 v3 ((2 : Int64) * v4.toInt64) σ0 e_2) lt_X7 (e_X7 _) rfl wM_X7_129 wI_yX7_cellsBarred wS_yX7_cellsBarred wN_X7 wC_yX7_cellsBarred hd_X7_cellsBarred rfl ⟨rfl, rfl⟩ ⟨(Nat.le_of_ble_eq_true rfl), (Nat.le_of_ble_eq_true rfl)⟩ ⟨Nat.zero_le _, Nat.zero_le _⟩ rfl (Nat.le_of_ble_eq_true rfl) dX7_pairsBarred_11) hS (fun H locs hP hS => ?_)
  refine lv_istore (lv' := [(5, .int z_1.1), (0, .ref (ta Θ 0)), (1, .int v1), (2, .int v2), (3, .int v3), (4, .int v4)]) hx hb dX7_pairsBarred_14 hl (by decide) rfl (fun ls hl => ?_)
  refine lv_iload hx hb dX7_pairsBarred_16 (lv_at hl 0 rfl) ?_
  refine lv_if_ge (tgt := 24) hx hb dX7_pairsBarred_18 (by decide) (fun c_3 => ?_) (fun c_3 => ?_)
  · have h := ite_t c_3 h
    refine lv_iconst (v := 0) hx hb dX7_pairsBarred_24 (by decide) ?_
    refine lv_istore (lv' := [(6, .int 0), (5, .int z_1.1), (0, .ref (ta Θ 0)), (1, .int v1), (2, .int v2), (3, .int v3), (4, .int v4)]) hx hb dX7_pairsBarred_25 hl (by decide) rfl (fun ls hl => ?_)
    refine w_X7_pairsBarred_L27 X O hr hlk v1 v3 v4 z_1.2 ?_ ?_ _ (0 : Int32) h _ _ _ hP hS (lv_sub hl [2, 3, 5, 6, 0] rfl)
    · intro  h H locs ls hP hS hl
      refine lv_aload_n hx hb dX7_pairsBarred_69 rfl (lv_at hl 0 rfl) ?_
      refine lv_iconst (v := 0) hx hb dX7_pairsBarred_70 (by decide) ?_
      obtain ⟨z_7, e_8, h⟩ := bnd_s h
      refine x_calli (x_runV X O hP hS hl.1 (As := [.int 0]) (rest := []) (k_X7_refused O (0 : Int32) z_1.2 e_8.symm) lt_X7 (e_X7 _) rfl wM_X7_124 wI_yX7_refused wS_yX7_refused wN_X7 wC_yX7_refused hd_X7_refused rfl ⟨rfl, rfl⟩ ⟨(Nat.le_of_ble_eq_true rfl), (Nat.le_of_ble_eq_true rfl)⟩ ⟨Nat.zero_le _, Nat.zero_le _⟩ rfl (Nat.le_of_ble_eq_true rfl) dX7_pairsBarred_71) hS (fun H locs hP hS => ?_)
      have h := some_i h
      subst h
      exact x_reti X hP hS hr hlk rfl rfl dX7_pairsBarred_74
    · intro  h H locs ls hP hS hl
      refine lv_aload_n hx hb dX7_pairsBarred_57 rfl (lv_at hl 0 rfl) ?_
      refine lv_iconst (v := (-1)) hx hb dX7_pairsBarred_58 (by decide) ?_
      obtain ⟨z_9, e_10, h⟩ := bnd_s h
      refine x_calli (x_runV X O hP hS hl.1 (As := [.int ((-1))]) (rest := []) (k_X7_refused O (-1 : Int32) z_1.2 e_10.symm) lt_X7 (e_X7 _) rfl wM_X7_124 wI_yX7_refused wS_yX7_refused wN_X7 wC_yX7_refused hd_X7_refused rfl ⟨rfl, rfl⟩ ⟨(Nat.le_of_ble_eq_true rfl), (Nat.le_of_ble_eq_true rfl)⟩ ⟨Nat.zero_le _, Nat.zero_le _⟩ rfl (Nat.le_of_ble_eq_true rfl) dX7_pairsBarred_59) hS (fun H locs hP hS => ?_)
      have h := some_i h
      subst h
      exact x_reti X hP hS hr hlk rfl rfl dX7_pairsBarred_62
  · have h := ite_f c_3 h
    refine lv_iload hx hb dX7_pairsBarred_21 (lv_at hl 0 rfl) ?_
    have h := some_i h
    subst h
    exact x_reti X hP hS hr hlk rfl rfl dX7_pairsBarred_23
abbrev rm_X7_loans : Room := { frames := 4, cells := 0, slots := 0, locals := 92 }
set_option maxHeartbeats 4000000 in
set_option maxRecDepth 100000 in
theorem w_X7_loans_J76 {F : Nat} {Θ : TH} {p : Program} {l : Launch} {e : Env} {s : State} {m : MethodId} {args : Array Value} {below : List Frame} {meth : Method} {c : Code} (X : CX Θ p s m args c RX7 cX7_loans 9) (O : okT Θ (eM Θ) 23) (hr : meth.sig.returnType = some .int) (hlk : meth.locks = false) {y : Int32 × Mem} (v1 : Int32) (v2 : Int32) (v3 : Int32) (v4 : Int32) (v5 : Int32) (w0 : Int32) (σ0 : Mem) (h : X7_loans_J76 F v1 v2 v3 v4 v5 w0 σ0 = some y) (H : Heap) (locs : List Loc) (ls : Array Slot) (hP : va_P (tD Θ) vwCl (tw Θ σ0) H) (hS : va_S (tA Θ) s.heap H locs) (hl : lv_has ls 9 [(0, .ref (ta Θ 0)), (1, .int v1), (2, .int v2), (3, .int v3), (4, .int v4), (5, .int v5)]) : W p l e rm_X7_loans s m args below meth c H locs 0 0 (MQ below (qI Θ y.1 y.2) args s 0 0 (tA Θ)) (F0 m 76 ls [.int w0]) := by
  have hx := X.1
  have hb := X.2.1
  unfold X7_loans_J76 at h
  refine lv_istore (lv' := [(6, .int w0), (0, .ref (ta Θ 0)), (1, .int v1), (2, .int v2), (3, .int v3), (4, .int v4), (5, .int v5)]) hx hb dX7_loans_76 hl (by decide) rfl (fun ls hl => ?_)
  refine lv_iload_n hx hb dX7_loans_78 rfl (lv_at hl 3 rfl) ?_
  refine lv_i2l (v := v2.toInt64) hx hb dX7_loans_79 rfl ?_
  refine lv_lconst (v := 0) hx hb dX7_loans_80 (by decide) ?_
  refine lv_ldc2 (v := 2) hx hb X.2.2.2.1 (X.2.2.2.2.1 _ wL_X7_127) dX7_loans_81 ?_
  refine x_calli (x_runS X hP hS hl.1 (As := [.long v2.toInt64, .long 0, .long 2]) (rest := []) (k_X7_in O v2.toInt64 (0 : Int64) (2 : Int64) σ0 rfl) wM_X7_90 wT_yX7_in wN_X7 wC_yX7_in hd_X7_in rfl ⟨rfl, rfl⟩ ⟨(Nat.le_of_ble_eq_true rfl), (Nat.le_of_ble_eq_true rfl)⟩ ⟨Nat.zero_le _, Nat.zero_le _⟩ rfl (Nat.le_of_ble_eq_true rfl) dX7_loans_84) hS (fun H locs hP hS => ?_)
  refine lv_if_eq (tgt := 108) hx hb dX7_loans_87 (by decide) (fun c_3 => ?_) (fun c_3 => ?_)
  · have h := ite_t c_3 h
    refine lv_aload_n hx hb dX7_loans_108 rfl (lv_at hl 1 rfl) ?_
    refine lv_bipush (v := (-2)) hx hb dX7_loans_109 (by decide) ?_
    obtain ⟨z_4, e_5, h⟩ := bnd_s h
    refine x_calli (x_runV X O hP hS hl.1 (As := [.int ((-2))]) (rest := []) (k_X7_refused O (-2 : Int32) σ0 e_5.symm) lt_X7 (e_X7 _) rfl wM_X7_124 wI_yX7_refused wS_yX7_refused wN_X7 wC_yX7_refused hd_X7_refused rfl ⟨rfl, rfl⟩ ⟨(Nat.le_of_ble_eq_true rfl), (Nat.le_of_ble_eq_true rfl)⟩ ⟨Nat.zero_le _, Nat.zero_le _⟩ rfl (Nat.le_of_ble_eq_true rfl) dX7_loans_111) hS (fun H locs hP hS => ?_)
    have h := some_i h
    subst h
    exact x_reti X hP hS hr hlk rfl rfl dX7_loans_114
  · have h := ite_f c_3 h
    refine lv_iload hx hb dX7_loans_90 (lv_at hl 5 rfl) ?_
    refine lv_i2l (v := v4.toInt64) hx hb dX7_loans_92 rfl ?_
    refine lv_lconst (v := 0) hx hb dX7_loans_93 (by decide) ?_
    refine lv_ldc2 (v := 20) hx hb X.2.2.2.1 (X.2.2.2.2.1 _ wL_X7_191) dX7_loans_94 ?_
    refine x_calli (x_runS X hP hS hl.1 (As := [.long v4.toInt64, .long 0, .long 20]) (rest := []) (k_X7_in O v4.toInt64 (0 : Int64) (20 : Int64) σ0 rfl) wM_X7_90 wT_yX7_in wN_X7 wC_yX7_in hd_X7_in rfl ⟨rfl, rfl⟩ ⟨(Nat.le_of_ble_eq_true rfl), (Nat.le_of_ble_eq_true rfl)⟩ ⟨Nat.zero_le _, Nat.zero_le _⟩ rfl (Nat.le_of_ble_eq_true rfl) dX7_loans_97) hS (fun H locs hP hS => ?_)
    refine lv_if_eq (tgt := 108) hx hb dX7_loans_100 (by decide) (fun c_6 => ?_) (fun c_6 => ?_)
    · have h := ite_t c_6 h
      refine lv_aload_n hx hb dX7_loans_108 rfl (lv_at hl 1 rfl) ?_
      refine lv_bipush (v := (-2)) hx hb dX7_loans_109 (by decide) ?_
      obtain ⟨z_7, e_8, h⟩ := bnd_s h
      refine x_calli (x_runV X O hP hS hl.1 (As := [.int ((-2))]) (rest := []) (k_X7_refused O (-2 : Int32) σ0 e_8.symm) lt_X7 (e_X7 _) rfl wM_X7_124 wI_yX7_refused wS_yX7_refused wN_X7 wC_yX7_refused hd_X7_refused rfl ⟨rfl, rfl⟩ ⟨(Nat.le_of_ble_eq_true rfl), (Nat.le_of_ble_eq_true rfl)⟩ ⟨Nat.zero_le _, Nat.zero_le _⟩ rfl (Nat.le_of_ble_eq_true rfl) dX7_loans_111) hS (fun H locs hP hS => ?_)
      have h := some_i h
      subst h
      exact x_reti X hP hS hr hlk rfl rfl dX7_loans_114
    · have h := ite_f c_6 h
      refine lv_iload hx hb dX7_loans_103 (lv_at hl 0 rfl) ?_
      refine lv_if_ne (tgt := 115) hx hb dX7_loans_105 (by decide) (fun c_9 => ?_) (fun c_9 => ?_)
      · have h := ite_f c_9 h
        refine lv_aload_n hx hb dX7_loans_115 rfl (lv_at hl 1 rfl) ?_
        refine g_X7_87 X O hP dX7_loans_116 ?_
        refine lv_if_ne (tgt := 129) hx hb dX7_loans_119 (by decide) (fun c_10 => ?_) (fun c_10 => ?_)
        · have h := ite_f c_10 h
          refine lv_aload_n hx hb dX7_loans_129 rfl (lv_at hl 1 rfl) ?_
          refine lv_iload_n hx hb dX7_loans_130 rfl (lv_at hl 2 rfl) ?_
          refine lv_iload_n hx hb dX7_loans_131 rfl (lv_at hl 3 rfl) ?_
          refine lv_iload_n hx hb dX7_loans_132 rfl (lv_at hl 4 rfl) ?_
          refine lv_iload hx hb dX7_loans_133 (lv_at hl 5 rfl) ?_
          obtain ⟨z_11, e_12, h⟩ := ob_s h
          refine x_calli (x_runV X O hP hS hl.1 (As := [.int v1, .int v2, .int v3, .int v4]) (rest := []) (k_X7_pairsBarred O v1 v2 v3 v4 σ0 e_12) lt_X7 (e_X7 _) rfl wM_X7_199 wI_yX7_pairsBarred wS_yX7_pairsBarred wN_X7 wC_yX7_pairsBarred hd_X7_pairsBarred rfl ⟨rfl, rfl⟩ ⟨(Nat.le_of_ble_eq_true rfl), (Nat.le_of_ble_eq_true rfl)⟩ ⟨Nat.zero_le _, Nat.zero_le _⟩ rfl (Nat.le_of_ble_eq_true rfl) dX7_loans_135) hS (fun H locs hP hS => ?_)
          refine lv_istore (lv' := [(7, .int z_11.1), (6, .int w0), (0, .ref (ta Θ 0)), (1, .int v1), (2, .int v2), (3, .int v3), (4, .int v4), (5, .int v5)]) hx hb dX7_loans_138 hl (by decide) rfl (fun ls hl => ?_)
          refine lv_iload hx hb dX7_loans_140 (lv_at hl 0 rfl) ?_
          refine lv_if_ge (tgt := 148) hx hb dX7_loans_142 (by decide) (fun c_13 => ?_) (fun c_13 => ?_)
          · have h := ite_t c_13 h
            refine lv_aload_n hx hb dX7_loans_148 rfl (lv_at hl 2 rfl) ?_
            refine lv_bipush (v := 60) hx hb dX7_loans_149 (by decide) ?_
            refine lv_iload_n hx hb dX7_loans_151 rfl (lv_at hl 3 rfl) ?_
            refine lv_imul hx hb dX7_loans_152 ?_
            refine lv_iload_n hx hb dX7_loans_153 rfl (lv_at hl 5 rfl) ?_
            refine lv_iadd hx hb dX7_loans_154 ?_
            refine lv_iload hx hb dX7_loans_155 (lv_at hl 6 rfl) ?_
            obtain ⟨σ_14, e_15, h⟩ := ob_s h
            refine x_callv (x_runV X O hP hS hl.1 (As := [.int (((60 : Int32) * v1) + v3), .int v4]) (rest := []) (k_X7_goLoans O (((60 : Int32) * v1) + v3) v4 z_11.2 e_15) lt_X7 (e_X7 _) rfl wM_X7_202 wI_yX7_goLoans wS_yX7_goLoans wN_X7 wC_yX7_goLoans hd_X7_goLoans rfl ⟨rfl, rfl⟩ ⟨(Nat.le_of_ble_eq_true rfl), (Nat.le_of_ble_eq_true rfl)⟩ ⟨Nat.zero_le _, Nat.zero_le _⟩ rfl (Nat.le_of_ble_eq_true rfl) dX7_loans_157) hS (fun H locs hP hS => ?_)
            refine lv_iload hx hb dX7_loans_160 (lv_at hl 7 rfl) ?_
            refine lv_iconst (v := 1) hx hb dX7_loans_162 (by decide) ?_
            refine lv_icmp_ne (tgt := 171) hx hb dX7_loans_163 (by decide) (fun c_16 => ?_) (fun c_16 => ?_)
            · have h := ite_f c_16 h
              refine lv_aload_n hx hb dX7_loans_171 rfl (lv_at hl 2 rfl) ?_
              refine g_X7_159 X O hP dX7_loans_172 ?_
              refine lv_if_lt (tgt := 186) hx hb dX7_loans_175 (by decide) (fun c_17 => ?_) (fun c_17 => ?_)
              · have h := ite_t c_17 h
                refine lv_iload hx hb dX7_loans_186 (lv_at hl 7 rfl) ?_
                refine lv_bipush (v := 9) hx hb dX7_loans_188 (by decide) ?_
                refine lv_icmp_le (tgt := 256) hx hb dX7_loans_190 (by decide) (fun c_18 => ?_) (fun c_18 => ?_)
                · have h := ite_t c_18 h
                  refine lv_iload hx hb dX7_loans_256 (lv_at hl 7 rfl) ?_
                  refine lv_if_ne (tgt := 268) hx hb dX7_loans_258 (by decide) (fun c_19 => ?_) (fun c_19 => ?_)
                  · have h := ite_f c_19 h
                    refine lv_iload hx hb dX7_loans_268 (lv_at hl 7 rfl) ?_
                    refine lv_iconst (v := 2) hx hb dX7_loans_270 (by decide) ?_
                    refine lv_icmp_ne (tgt := 281) hx hb dX7_loans_271 (by decide) (fun c_20 => ?_) (fun c_20 => ?_)
                    · have h := ite_f c_20 h
                      refine lv_aload_n hx hb dX7_loans_281 rfl (lv_at hl 2 rfl) ?_
                      obtain ⟨z_21, e_22, h⟩ := ob_s h
                      refine x_calli (x_runV X O hP hS hl.1 (As := []) (rest := []) (k_X7_homeBy O σ_14 e_22) lt_X7 (e_X7 _) rfl wM_X7_205 wI_yX7_homeBy wS_yX7_homeBy wN_X7 wC_yX7_homeBy hd_X7_homeBy rfl ⟨rfl, rfl⟩ ⟨(Nat.le_of_ble_eq_true rfl), (Nat.le_of_ble_eq_true rfl)⟩ ⟨Nat.zero_le _, Nat.zero_le _⟩ rfl (Nat.le_of_ble_eq_true rfl) dX7_loans_282) hS (fun H locs hP hS => ?_)
                      have h := some_i h
                      subst h
                      exact x_reti X hP hS hr hlk rfl rfl dX7_loans_285
                    · have h := ite_t c_20 h
                      refine lv_aload_n hx hb dX7_loans_274 rfl (lv_at hl 2 rfl) ?_
                      refine g_X7_162 X O hP dX7_loans_275 ?_
                      refine lv_goto (tgt := 285) hx hb dX7_loans_278 (by decide) ?_
                      have h := some_i h
                      subst h
                      exact x_reti X hP hS hr hlk rfl rfl dX7_loans_285
                  · have h := ite_t c_19 h
                    refine lv_aload_n hx hb dX7_loans_261 rfl (lv_at hl 2 rfl) ?_
                    obtain ⟨z_23, e_24, h⟩ := ob_s h
                    refine x_calli (x_runV X O hP hS hl.1 (As := []) (rest := []) (k_X7_mendedNow O σ_14 e_24) lt_X7 (e_X7 _) rfl wM_X7_171 wI_yX7_mendedNow wS_yX7_mendedNow wN_X7 wC_yX7_mendedNow hd_X7_mendedNow rfl ⟨rfl, rfl⟩ ⟨(Nat.le_of_ble_eq_true rfl), (Nat.le_of_ble_eq_true rfl)⟩ ⟨Nat.zero_le _, Nat.zero_le _⟩ rfl (Nat.le_of_ble_eq_true rfl) dX7_loans_262) hS (fun H locs hP hS => ?_)
                    refine lv_goto (tgt := 285) hx hb dX7_loans_265 (by decide) ?_
                    have h := some_i h
                    subst h
                    exact x_reti X hP hS hr hlk rfl rfl dX7_loans_285
                · have h := ite_f c_18 h
                  refine lv_iload hx hb dX7_loans_193 (lv_at hl 7 rfl) ?_
                  refine lv_bipush (v := 10) hx hb dX7_loans_195 (by decide) ?_
                  refine lv_irem hx hb dX7_loans_197 (by decide) ?_
                  obtain ⟨v8_25, e_26, h⟩ := bnd_s h
                  refine lv_nam e_26 ?_
                  refine lv_istore (lv' := [(8, .int v8_25), (7, .int z_11.1), (6, .int w0), (0, .ref (ta Θ 0)), (1, .int v1), (2, .int v2), (3, .int v3), (4, .int v4), (5, .int v5)]) hx hb dX7_loans_198 hl (by decide) rfl (fun ls hl => ?_)
                  refine lv_aload_n hx hb dX7_loans_200 rfl (lv_at hl 3 rfl) ?_
                  refine lv_iload hx hb dX7_loans_201 (lv_at hl 0 rfl) ?_
                  refine x_calli (x_runV X O hP hS hl.1 (As := [.int v8_25]) (rest := []) (k_X7_noPerson O v8_25 σ_14 rfl) lt_X7 (e_X7 _) rfl wM_X7_139 wI_yX7_noPerson wS_yX7_noPerson wN_X7 wC_yX7_noPerson hd_X7_noPerson rfl ⟨rfl, rfl⟩ ⟨(Nat.le_of_ble_eq_true rfl), (Nat.le_of_ble_eq_true rfl)⟩ ⟨Nat.zero_le _, Nat.zero_le _⟩ rfl (Nat.le_of_ble_eq_true rfl) dX7_loans_203) hS (fun H locs hP hS => ?_)
                  refine lv_if_eq (tgt := 214) hx hb dX7_loans_206 (by decide) (fun c_27 => ?_) (fun c_27 => ?_)
                  · have h := ite_t c_27 h
                    refine lv_iload hx hb dX7_loans_214 (lv_at hl 8 rfl) ?_
                    refine lv_bipush (v := 20) hx hb dX7_loans_216 (by decide) ?_
                    refine lv_icmp_ge (tgt := 231) hx hb dX7_loans_218 (by decide) (fun c_28 => ?_) (fun c_28 => ?_)
                    · have h := ite_t c_28 h
                      refine lv_iload hx hb dX7_loans_231 (lv_at hl 8 rfl) ?_
                      refine lv_bipush (v := 30) hx hb dX7_loans_233 (by decide) ?_
                      refine lv_icmp_ge (tgt := 248) hx hb dX7_loans_235 (by decide) (fun c_29 => ?_) (fun c_29 => ?_)
                      · have h := ite_t c_29 h
                        refine lv_aload_n hx hb dX7_loans_248 rfl (lv_at hl 3 rfl) ?_
                        refine g_X7_37 X O hP dX7_loans_249 ?_
                        refine lv_iload hx hb dX7_loans_252 (lv_at hl 0 rfl) ?_
                        obtain ⟨g_30, h⟩ := grd_s h
                        refine x_iald X O hP mI_10 g_30 dX7_loans_254 ?_
                        have h := some_i h
                        subst h
                        exact x_reti X hP hS hr hlk rfl rfl dX7_loans_255
                      · have h := ite_f c_29 h
                        refine lv_aload_n hx hb dX7_loans_238 rfl (lv_at hl 3 rfl) ?_
                        refine g_X7_43 X O hP dX7_loans_239 ?_
                        refine lv_iload hx hb dX7_loans_242 (lv_at hl 0 rfl) ?_
                        obtain ⟨g_31, h⟩ := grd_s h
                        refine x_iald X O hP mI_12 g_31 dX7_loans_244 ?_
                        refine lv_goto (tgt := 255) hx hb dX7_loans_245 (by decide) ?_
                        have h := some_i h
                        subst h
                        exact x_reti X hP hS hr hlk rfl rfl dX7_loans_255
                    · have h := ite_f c_28 h
                      refine lv_aload_n hx hb dX7_loans_221 rfl (lv_at hl 3 rfl) ?_
                      refine g_X7_34 X O hP dX7_loans_222 ?_
                      refine lv_iload hx hb dX7_loans_225 (lv_at hl 0 rfl) ?_
                      obtain ⟨g_32, h⟩ := grd_s h
                      refine x_iald X O hP mI_9 g_32 dX7_loans_227 ?_
                      refine lv_goto (tgt := 255) hx hb dX7_loans_228 (by decide) ?_
                      have h := some_i h
                      subst h
                      exact x_reti X hP hS hr hlk rfl rfl dX7_loans_255
                  · have h := ite_f c_27 h
                    refine lv_bipush (v := (-9)) hx hb dX7_loans_209 (by decide) ?_
                    refine lv_goto (tgt := 255) hx hb dX7_loans_211 (by decide) ?_
                    have h := some_i h
                    subst h
                    exact x_reti X hP hS hr hlk rfl rfl dX7_loans_255
              · have h := ite_f c_17 h
                refine lv_bipush (v := (-100)) hx hb dX7_loans_178 (by decide) ?_
                refine lv_aload_n hx hb dX7_loans_180 rfl (lv_at hl 2 rfl) ?_
                refine g_X7_159 X O hP dX7_loans_181 ?_
                refine lv_isub hx hb dX7_loans_184 ?_
                have h := some_i h
                subst h
                exact x_reti X hP hS hr hlk rfl rfl dX7_loans_185
            · have h := ite_t c_16 h
              refine lv_aload_n hx hb dX7_loans_166 rfl (lv_at hl 2 rfl) ?_
              refine g_X7_159 X O hP dX7_loans_167 ?_
              have h := some_i h
              subst h
              exact x_reti X hP hS hr hlk rfl rfl dX7_loans_170
          · have h := ite_f c_13 h
            refine lv_iload hx hb dX7_loans_145 (lv_at hl 0 rfl) ?_
            have h := some_i h
            subst h
            exact x_reti X hP hS hr hlk rfl rfl dX7_loans_147
        · have h := ite_t c_10 h
          refine lv_aload_n hx hb dX7_loans_122 rfl (lv_at hl 1 rfl) ?_
          refine lv_bipush (v := (-3)) hx hb dX7_loans_123 (by decide) ?_
          obtain ⟨z_33, e_34, h⟩ := bnd_s h
          refine x_calli (x_runV X O hP hS hl.1 (As := [.int ((-3))]) (rest := []) (k_X7_refused O (-3 : Int32) σ0 e_34.symm) lt_X7 (e_X7 _) rfl wM_X7_124 wI_yX7_refused wS_yX7_refused wN_X7 wC_yX7_refused hd_X7_refused rfl ⟨rfl, rfl⟩ ⟨(Nat.le_of_ble_eq_true rfl), (Nat.le_of_ble_eq_true rfl)⟩ ⟨Nat.zero_le _, Nat.zero_le _⟩ rfl (Nat.le_of_ble_eq_true rfl) dX7_loans_125) hS (fun H locs hP hS => ?_)
          have h := some_i h
          subst h
          exact x_reti X hP hS hr hlk rfl rfl dX7_loans_128
      · have h := ite_t c_9 h
        refine lv_aload_n hx hb dX7_loans_108 rfl (lv_at hl 1 rfl) ?_
        refine lv_bipush (v := (-2)) hx hb dX7_loans_109 (by decide) ?_
        obtain ⟨z_35, e_36, h⟩ := bnd_s h
        refine x_calli (x_runV X O hP hS hl.1 (As := [.int ((-2))]) (rest := []) (k_X7_refused O (-2 : Int32) σ0 e_36.symm) lt_X7 (e_X7 _) rfl wM_X7_124 wI_yX7_refused wS_yX7_refused wN_X7 wC_yX7_refused hd_X7_refused rfl ⟨rfl, rfl⟩ ⟨(Nat.le_of_ble_eq_true rfl), (Nat.le_of_ble_eq_true rfl)⟩ ⟨Nat.zero_le _, Nat.zero_le _⟩ rfl (Nat.le_of_ble_eq_true rfl) dX7_loans_111) hS (fun H locs hP hS => ?_)
        have h := some_i h
        subst h
        exact x_reti X hP hS hr hlk rfl rfl dX7_loans_114
theorem hd_X7_loans : yX7_loans.cls ≠ "java/lang/invoke/MethodHandle" ∧ yX7_loans.cls ≠ "java/lang/invoke/VarHandle" ∧ (parseMethodDescriptor yX7_loans.desc).map (fun d => d.parameters.length) = some 5 := by decide +kernel
set_option maxHeartbeats 4000000 in
set_option maxRecDepth 100000 in
theorem k_X7_loans {F : Nat} {Θ : TH} {l : Launch} (O : okT Θ (eM Θ) 23) (v1 : Int32) (v2 : Int32) (v3 : Int32) (v4 : Int32) (v5 : Int32) (σ0 : Mem) {y : Int32 × Mem} (h : X7_loans F v1 v2 v3 v4 v5 σ0 = some y) : Met l yX7_loans (Cond.code yX7_loans cX7_loans 9 (some .int) :: wAll) rm_X7_loans (va_Pc [.ref (ta Θ 0), .int v1, .int v2, .int v3, .int v4, .int v5] (tS Θ σ0)) (qI Θ y.1 y.2) 0 0 (tA Θ) := by
  refine x_ent (by decide) (Nat.le_of_ble_eq_true rfl) (fun p e s m below meth c X hr hlk hP ls hl => ?_)
  have hS : va_S (tA Θ) s.heap s.heap [] := va_S.rf
  have hl : lv_has ls 9 [(0, .ref (ta Θ 0)), (1, .int v1), (2, .int v2), (3, .int v3), (4, .int v4), (5, .int v5)] := hl
  have hx := X.1
  have hb := X.2.1
  unfold X7_loans at h
  refine lv_iload_n hx hb dX7_loans_0 rfl (lv_at hl 1 rfl) ?_
  refine x_calli (x_runS X hP hS hl.1 (As := [.int v1]) (rest := []) (k_X7_noSheet O v1 σ0 rfl) wM_X7_120 wT_yX7_noSheet wN_X7 wC_yX7_noSheet hd_X7_noSheet rfl ⟨rfl, rfl⟩ ⟨(Nat.le_of_ble_eq_true rfl), (Nat.le_of_ble_eq_true rfl)⟩ ⟨Nat.zero_le _, Nat.zero_le _⟩ rfl (Nat.le_of_ble_eq_true rfl) dX7_loans_1) hS (fun H locs hP hS => ?_)
  refine lv_if_eq (tgt := 13) hx hb dX7_loans_4 (by decide) (fun c_1 => ?_) (fun c_1 => ?_)
  · have h := ite_t c_1 h
    refine lv_iload hx hb dX7_loans_13 (lv_at hl 5 rfl) ?_
    refine lv_i2l (v := v5.toInt64) hx hb dX7_loans_15 rfl ?_
    refine lv_lconst (v := 0) hx hb dX7_loans_16 (by decide) ?_
    refine lv_ldc2 (v := 3) hx hb X.2.2.2.1 (X.2.2.2.2.1 _ wL_X7_185) dX7_loans_17 ?_
    refine x_calli (x_runS X hP hS hl.1 (As := [.long v5.toInt64, .long 0, .long 3]) (rest := []) (k_X7_in O v5.toInt64 (0 : Int64) (3 : Int64) σ0 rfl) wM_X7_90 wT_yX7_in wN_X7 wC_yX7_in hd_X7_in rfl ⟨rfl, rfl⟩ ⟨(Nat.le_of_ble_eq_true rfl), (Nat.le_of_ble_eq_true rfl)⟩ ⟨Nat.zero_le _, Nat.zero_le _⟩ rfl (Nat.le_of_ble_eq_true rfl) dX7_loans_20) hS (fun H locs hP hS => ?_)
    refine lv_if_ne (tgt := 71) hx hb dX7_loans_23 (by decide) (fun c_2 => ?_) (fun c_2 => ?_)
    · have h := ite_f c_2 h
      refine lv_iconst (v := 1) hx hb dX7_loans_71 (by decide) ?_
      refine lv_goto (tgt := 76) hx hb dX7_loans_72 (by decide) ?_
      exact w_X7_loans_J76 X O hr hlk v1 v2 v3 v4 v5 (1 : Int32) σ0 h _ _ _ hP hS (lv_sub hl [0, 1, 2, 3, 4, 5] rfl)
    · have h := ite_t c_2 h
      refine lv_iload hx hb dX7_loans_26 (lv_at hl 5 rfl) ?_
      refine lv_i2l (v := v5.toInt64) hx hb dX7_loans_28 rfl ?_
      refine lv_ldc2 (v := 10) hx hb X.2.2.2.1 (X.2.2.2.2.1 _ wL_X7_187) dX7_loans_29 ?_
      refine lv_ldc2 (v := 15) hx hb X.2.2.2.1 (X.2.2.2.2.1 _ wL_X7_189) dX7_loans_32 ?_
      refine x_calli (x_runS X hP hS hl.1 (As := [.long v5.toInt64, .long 10, .long 15]) (rest := []) (k_X7_in O v5.toInt64 (10 : Int64) (15 : Int64) σ0 rfl) wM_X7_90 wT_yX7_in wN_X7 wC_yX7_in hd_X7_in rfl ⟨rfl, rfl⟩ ⟨(Nat.le_of_ble_eq_true rfl), (Nat.le_of_ble_eq_true rfl)⟩ ⟨Nat.zero_le _, Nat.zero_le _⟩ rfl (Nat.le_of_ble_eq_true rfl) dX7_loans_35) hS (fun H locs hP hS => ?_)
      refine lv_if_ne (tgt := 71) hx hb dX7_loans_38 (by decide) (fun c_37 => ?_) (fun c_37 => ?_)
      · have h := ite_f c_37 h
        refine lv_iconst (v := 1) hx hb dX7_loans_71 (by decide) ?_
        refine lv_goto (tgt := 76) hx hb dX7_loans_72 (by decide) ?_
        exact w_X7_loans_J76 X O hr hlk v1 v2 v3 v4 v5 (1 : Int32) σ0 h _ _ _ hP hS (lv_sub hl [0, 1, 2, 3, 4, 5] rfl)
      · have h := ite_t c_37 h
        refine lv_iload hx hb dX7_loans_41 (lv_at hl 5 rfl) ?_
        refine lv_i2l (v := v5.toInt64) hx hb dX7_loans_43 rfl ?_
        refine lv_ldc2 (v := 20) hx hb X.2.2.2.1 (X.2.2.2.2.1 _ wL_X7_191) dX7_loans_44 ?_
        refine lv_ldc2 (v := 25) hx hb X.2.2.2.1 (X.2.2.2.2.1 _ wL_X7_193) dX7_loans_47 ?_
        refine x_calli (x_runS X hP hS hl.1 (As := [.long v5.toInt64, .long 20, .long 25]) (rest := []) (k_X7_in O v5.toInt64 (20 : Int64) (25 : Int64) σ0 rfl) wM_X7_90 wT_yX7_in wN_X7 wC_yX7_in hd_X7_in rfl ⟨rfl, rfl⟩ ⟨(Nat.le_of_ble_eq_true rfl), (Nat.le_of_ble_eq_true rfl)⟩ ⟨Nat.zero_le _, Nat.zero_le _⟩ rfl (Nat.le_of_ble_eq_true rfl) dX7_loans_50) hS (fun H locs hP hS => ?_)
        refine lv_if_ne (tgt := 71) hx hb dX7_loans_53 (by decide) (fun c_38 => ?_) (fun c_38 => ?_)
        · have h := ite_f c_38 h
          refine lv_iconst (v := 1) hx hb dX7_loans_71 (by decide) ?_
          refine lv_goto (tgt := 76) hx hb dX7_loans_72 (by decide) ?_
          exact w_X7_loans_J76 X O hr hlk v1 v2 v3 v4 v5 (1 : Int32) σ0 h _ _ _ hP hS (lv_sub hl [0, 1, 2, 3, 4, 5] rfl)
        · have h := ite_t c_38 h
          refine lv_iload hx hb dX7_loans_56 (lv_at hl 5 rfl) ?_
          refine lv_i2l (v := v5.toInt64) hx hb dX7_loans_58 rfl ?_
          refine lv_ldc2 (v := 30) hx hb X.2.2.2.1 (X.2.2.2.2.1 _ wL_X7_195) dX7_loans_59 ?_
          refine lv_ldc2 (v := 35) hx hb X.2.2.2.1 (X.2.2.2.2.1 _ wL_X7_197) dX7_loans_62 ?_
          refine x_calli (x_runS X hP hS hl.1 (As := [.long v5.toInt64, .long 30, .long 35]) (rest := []) (k_X7_in O v5.toInt64 (30 : Int64) (35 : Int64) σ0 rfl) wM_X7_90 wT_yX7_in wN_X7 wC_yX7_in hd_X7_in rfl ⟨rfl, rfl⟩ ⟨(Nat.le_of_ble_eq_true rfl), (Nat.le_of_ble_eq_true rfl)⟩ ⟨Nat.zero_le _, Nat.zero_le _⟩ rfl (Nat.le_of_ble_eq_true rfl) dX7_loans_65) hS (fun H locs hP hS => ?_)
          refine lv_if_eq (tgt := 75) hx hb dX7_loans_68 (by decide) (fun c_39 => ?_) (fun c_39 => ?_)
          · have h := ite_t c_39 h
            refine lv_iconst (v := 0) hx hb dX7_loans_75 (by decide) ?_
            exact w_X7_loans_J76 X O hr hlk v1 v2 v3 v4 v5 (0 : Int32) σ0 h _ _ _ hP hS (lv_sub hl [0, 1, 2, 3, 4, 5] rfl)
          · have h := ite_f c_39 h
            refine lv_iconst (v := 1) hx hb dX7_loans_71 (by decide) ?_
            refine lv_goto (tgt := 76) hx hb dX7_loans_72 (by decide) ?_
            exact w_X7_loans_J76 X O hr hlk v1 v2 v3 v4 v5 (1 : Int32) σ0 h _ _ _ hP hS (lv_sub hl [0, 1, 2, 3, 4, 5] rfl)
  · have h := ite_f c_1 h
    refine lv_aload_n hx hb dX7_loans_7 rfl (lv_at hl 0 rfl) ?_
    refine lv_iconst (v := (-1)) hx hb dX7_loans_8 (by decide) ?_
    obtain ⟨z_40, e_41, h⟩ := bnd_s h
    refine x_calli (x_runV X O hP hS hl.1 (As := [.int ((-1))]) (rest := []) (k_X7_refused O (-1 : Int32) σ0 e_41.symm) lt_X7 (e_X7 _) rfl wM_X7_124 wI_yX7_refused wS_yX7_refused wN_X7 wC_yX7_refused hd_X7_refused rfl ⟨rfl, rfl⟩ ⟨(Nat.le_of_ble_eq_true rfl), (Nat.le_of_ble_eq_true rfl)⟩ ⟨Nat.zero_le _, Nat.zero_le _⟩ rfl (Nat.le_of_ble_eq_true rfl) dX7_loans_9) hS (fun H locs hP hS => ?_)
    have h := some_i h
    subst h
    exact x_reti X hP hS hr hlk rfl rfl dX7_loans_12
abbrev rm_X7_isRow : Room := { frames := 3, cells := 0, slots := 0, locals := 66 }
set_option maxHeartbeats 4000000 in
set_option maxRecDepth 100000 in
theorem w_X7_isRow_L15 {F : Nat} {Θ : TH} {p : Program} {l : Launch} {e : Env} {s : State} {m : MethodId} {args : Array Value} {below : List Frame} {meth : Method} {c : Code} (X : CX Θ p s m args c RX7 cX7_isRow 9) (O : okT Θ (eM Θ) 23) (hr : meth.sig.returnType = some .boolean) (hlk : meth.locks = false) (v2 : Int32) (v3 : Int32) (v5 : Int32) {y : Int32 × Mem} {k45 : Mem → Option (Int32 × Mem)} (hk45 : ∀ (σ0 : Mem), k45 σ0 = some y → ∀ (H : Heap) (locs : List Loc) (ls : Array Slot), va_P (tD Θ) vwCl (tw Θ σ0) H → va_S (tA Θ) s.heap H locs → lv_has ls 9 [(0, .ref (ta Θ 0)), (2, .int v2), (3, .int v3), (5, .int v5)] → W p l e rm_X7_isRow s m args below meth c H locs 0 0 (MQ below (qI Θ y.1 y.2) args s 0 0 (tA Θ)) (F0 m 45 ls [])) :
    ∀ (f : Nat) (v4 : Int32) (v6 : Int32) (σ0 : Mem), X7_isRow_L15 F v2 v3 v5 k45 f v4 v6 σ0 = some y → ∀ (H : Heap) (locs : List Loc) (ls : Array Slot), va_P (tD Θ) vwCl (tw Θ σ0) H → va_S (tA Θ) s.heap H locs → lv_has ls 9 [(0, .ref (ta Θ 0)), (2, .int v2), (3, .int v3), (4, .int v4), (5, .int v5), (6, .int v6)] → W p l e rm_X7_isRow s m args below meth c H locs 0 0 (MQ below (qI Θ y.1 y.2) args s 0 0 (tA Θ)) (F0 m 15 ls []) := by
  have hx := X.1
  have hb := X.2.1
  intro f
  induction f with
  | zero => intro v4 v6 σ0 h; cases h
  | succ f ih =>
    intro v4 v6 σ0 h H locs ls hP hS hl
    rw [X7_isRow_L15] at h
    refine lv_iload hx hb dX7_isRow_15 (lv_at hl 5 rfl) ?_
    refine lv_if_lt (tgt := 45) hx hb dX7_isRow_17 (by decide) (fun c_5 => ?_) (fun c_5 => ?_)
    · have h := ite_t c_5 h
      exact hk45 σ0 h _ _ _ hP hS (lv_sub hl [0, 1, 2, 4] rfl)
    · have h := ite_f c_5 h
      refine lv_aload_n hx hb dX7_isRow_20 rfl (lv_at hl 0 rfl) ?_
      refine g_X7_49 X O hP dX7_isRow_21 ?_
      refine lv_iload hx hb dX7_isRow_24 (lv_at hl 5 rfl) ?_
      refine lv_iload hx hb dX7_isRow_26 (lv_at hl 3 rfl) ?_
      refine lv_bipush (v := 36) hx hb dX7_isRow_28 (by decide) ?_
      refine lv_irem hx hb dX7_isRow_30 (by decide) ?_
      obtain ⟨g_6, h⟩ := grd_s h
      obtain ⟨σ_7, e_8, h⟩ := bnd_s h
      refine x_iast X O hP hS mI_14 g_6 dX7_isRow_31 e_8 (fun H locs hP hS => ?_)
      refine lv_iload hx hb dX7_isRow_32 (lv_at hl 3 rfl) ?_
      refine lv_bipush (v := 36) hx hb dX7_isRow_34 (by decide) ?_
      refine lv_idiv hx hb dX7_isRow_36 (by decide) ?_
      obtain ⟨v4_9, e_10, h⟩ := bnd_s h
      refine lv_nam e_10 ?_
      refine lv_istore (lv' := [(4, .int v4_9), (0, .ref (ta Θ 0)), (2, .int v2), (3, .int v3), (5, .int v5), (6, .int v6)]) hx hb dX7_isRow_37 hl (by decide) rfl (fun ls hl => ?_)
      refine lv_iinc (v := v6 + (-1)) (lv' := [(6, .int (v6 + (-1))), (4, .int v4_9), (0, .ref (ta Θ 0)), (2, .int v2), (3, .int v3), (5, .int v5)]) hx hb dX7_isRow_39 hl (k := 5) rfl rfl (by decide) rfl (fun ls hl => ?_)
      refine lv_goto (tgt := 15) hx hb dX7_isRow_42 (by decide) ?_
      exact ih v4_9 (v6 + (-1)) σ_7 h _ _ _ hP hS (lv_sub hl [2, 3, 4, 1, 5, 0] rfl)
set_option maxHeartbeats 4000000 in
set_option maxRecDepth 100000 in
theorem w_X7_isRow_L48 {F : Nat} {Θ : TH} {p : Program} {l : Launch} {e : Env} {s : State} {m : MethodId} {args : Array Value} {below : List Frame} {meth : Method} {c : Code} (X : CX Θ p s m args c RX7 cX7_isRow 9) (O : okT Θ (eM Θ) 23) (hr : meth.sig.returnType = some .boolean) (hlk : meth.locks = false) (v2 : Int32) (v3 : Int32) {y : Int32 × Mem} {k136 : Int32 → Mem → Option (Int32 × Mem)} (hk136 : ∀ (v5 : Int32) (σ0 : Mem), k136 v5 σ0 = some y → ∀ (H : Heap) (locs : List Loc) (ls : Array Slot), va_P (tD Θ) vwCl (tw Θ σ0) H → va_S (tA Θ) s.heap H locs → lv_has ls 9 [(0, .ref (ta Θ 0)), (3, .int v3), (5, .int v5)] → W p l e rm_X7_isRow s m args below meth c H locs 0 0 (MQ below (qI Θ y.1 y.2) args s 0 0 (tA Θ)) (F0 m 136 ls [])) :
    ∀ (f : Nat) (v5 : Int32) (v6 : Int32) (σ0 : Mem), X7_isRow_L48 F v2 v3 k136 f v5 v6 σ0 = some y → ∀ (H : Heap) (locs : List Loc) (ls : Array Slot), va_P (tD Θ) vwCl (tw Θ σ0) H → va_S (tA Θ) s.heap H locs → lv_has ls 9 [(0, .ref (ta Θ 0)), (2, .int v2), (3, .int v3), (5, .int v5), (6, .int v6)] → W p l e rm_X7_isRow s m args below meth c H locs 0 0 (MQ below (qI Θ y.1 y.2) args s 0 0 (tA Θ)) (F0 m 48 ls []) := by
  have hx := X.1
  have hb := X.2.1
  intro f
  induction f with
  | zero => intro v5 v6 σ0 h; cases h
  | succ f ih =>
    intro v5 v6 σ0 h H locs ls hP hS hl
    rw [X7_isRow_L48] at h
    refine lv_iload hx hb dX7_isRow_48 (lv_at hl 4 rfl) ?_
    refine lv_iload_n hx hb dX7_isRow_50 rfl (lv_at hl 1 rfl) ?_
    refine lv_icmp_ge (tgt := 136) hx hb dX7_isRow_51 (by decide) (fun c_12 => ?_) (fun c_12 => ?_)
    · have h := ite_t c_12 h
      exact hk136 v5 σ0 h _ _ _ hP hS (lv_sub hl [0, 2, 3] rfl)
    · have h := ite_f c_12 h
      refine lv_iload hx hb dX7_isRow_54 (lv_at hl 3 rfl) ?_
      refine lv_if_eq (tgt := 136) hx hb dX7_isRow_56 (by decide) (fun c_13 => ?_) (fun c_13 => ?_)
      · have h := ite_t c_13 h
        exact hk136 v5 σ0 h _ _ _ hP hS (lv_sub hl [0, 2, 3] rfl)
      · have h := ite_f c_13 h
        refine lv_aload_n hx hb dX7_isRow_59 rfl (lv_at hl 0 rfl) ?_
        refine g_X7_49 X O hP dX7_isRow_60 ?_
        refine lv_iload hx hb dX7_isRow_63 (lv_at hl 4 rfl) ?_
        obtain ⟨g_14, h⟩ := grd_s h
        refine x_iald X O hP mI_14 g_14 dX7_isRow_65 ?_
        refine lv_bipush (v := 6) hx hb dX7_isRow_66 (by decide) ?_
        refine lv_idiv hx hb dX7_isRow_68 (by decide) ?_
        obtain ⟨v7_15, e_16, h⟩ := bnd_s h
        refine lv_nam e_16 ?_
        refine lv_istore (lv' := [(7, .int v7_15), (0, .ref (ta Θ 0)), (2, .int v2), (3, .int v3), (5, .int v5), (6, .int v6)]) hx hb dX7_isRow_69 hl (by decide) rfl (fun ls hl => ?_)
        refine lv_aload_n hx hb dX7_isRow_71 rfl (lv_at hl 1 rfl) ?_
        refine g_X7_49 X O hP dX7_isRow_72 ?_
        refine lv_iload hx hb dX7_isRow_75 (lv_at hl 5 rfl) ?_
        obtain ⟨g_17, h⟩ := grd_s h
        refine x_iald X O hP mI_14 g_17 dX7_isRow_77 ?_
        refine lv_bipush (v := 6) hx hb dX7_isRow_78 (by decide) ?_
        refine lv_irem hx hb dX7_isRow_80 (by decide) ?_
        obtain ⟨v8_18, e_19, h⟩ := bnd_s h
        refine lv_nam e_19 ?_
        refine lv_istore (lv' := [(8, .int v8_18), (7, .int v7_15), (0, .ref (ta Θ 0)), (2, .int v2), (3, .int v3), (5, .int v5), (6, .int v6)]) hx hb dX7_isRow_81 hl (by decide) rfl (fun ls hl => ?_)
        refine lv_iload hx hb dX7_isRow_83 (lv_at hl 1 rfl) ?_
        refine lv_iload hx hb dX7_isRow_85 (lv_at hl 0 rfl) ?_
        refine lv_icmp_ge (tgt := 114) hx hb dX7_isRow_87 (by decide) (fun c_20 => ?_) (fun c_20 => ?_)
        · have h := ite_t c_20 h
          refine lv_iconst (v := 0) hx hb dX7_isRow_114 (by decide) ?_
          refine lv_istore (lv' := [(5, .int 0), (8, .int v8_18), (7, .int v7_15), (0, .ref (ta Θ 0)), (2, .int v2), (3, .int v3), (6, .int v6)]) hx hb dX7_isRow_115 hl (by decide) rfl (fun ls hl => ?_)
          refine lv_iload hx hb dX7_isRow_117 (lv_at hl 0 rfl) ?_
          refine lv_if_eq (tgt := 130) hx hb dX7_isRow_119 (by decide) (fun c_21 => ?_) (fun c_21 => absurd c_21 (by decide))
          refine lv_iinc (v := v6 + 1) (lv' := [(6, .int (v6 + 1)), (5, .int 0), (8, .int v8_18), (7, .int v7_15), (0, .ref (ta Θ 0)), (2, .int v2), (3, .int v3)]) hx hb dX7_isRow_130 hl (k := 6) rfl rfl (by decide) rfl (fun ls hl => ?_)
          refine lv_goto (tgt := 48) hx hb dX7_isRow_133 (by decide) ?_
          exact ih (0 : Int32) (v6 + 1) σ0 h _ _ _ hP hS (lv_sub hl [4, 5, 6, 1, 0] rfl)
        · have h := ite_f c_20 h
          refine lv_iload hx hb dX7_isRow_90 (lv_at hl 0 rfl) ?_
          refine lv_aload_n hx hb dX7_isRow_92 rfl (lv_at hl 2 rfl) ?_
          refine g_X7_87 X O hP dX7_isRow_93 ?_
          refine lv_icmp_ge (tgt := 114) hx hb dX7_isRow_96 (by decide) (fun c_22 => ?_) (fun c_22 => ?_)
          · have h := ite_t c_22 h
            refine lv_iconst (v := 0) hx hb dX7_isRow_114 (by decide) ?_
            refine lv_istore (lv' := [(5, .int 0), (8, .int v8_18), (7, .int v7_15), (0, .ref (ta Θ 0)), (2, .int v2), (3, .int v3), (6, .int v6)]) hx hb dX7_isRow_115 hl (by decide) rfl (fun ls hl => ?_)
            refine lv_iload hx hb dX7_isRow_117 (lv_at hl 0 rfl) ?_
            refine lv_if_eq (tgt := 130) hx hb dX7_isRow_119 (by decide) (fun c_23 => ?_) (fun c_23 => absurd c_23 (by decide))
            refine lv_iinc (v := v6 + 1) (lv' := [(6, .int (v6 + 1)), (5, .int 0), (8, .int v8_18), (7, .int v7_15), (0, .ref (ta Θ 0)), (2, .int v2), (3, .int v3)]) hx hb dX7_isRow_130 hl (k := 6) rfl rfl (by decide) rfl (fun ls hl => ?_)
            refine lv_goto (tgt := 48) hx hb dX7_isRow_133 (by decide) ?_
            exact ih (0 : Int32) (v6 + 1) σ0 h _ _ _ hP hS (lv_sub hl [4, 5, 6, 1, 0] rfl)
          · have h := ite_f c_22 h
            refine lv_aload_n hx hb dX7_isRow_99 rfl (lv_at hl 2 rfl) ?_
            refine lv_iload hx hb dX7_isRow_100 (lv_at hl 1 rfl) ?_
            refine lv_iload hx hb dX7_isRow_102 (lv_at hl 0 rfl) ?_
            obtain ⟨z_24, e_25, h⟩ := ob_s h
            refine x_calli (x_runV X O hP hS hl.1 (As := [.int v7_15, .int v8_18]) (rest := []) (k_X7_canLend O v7_15 v8_18 σ0 e_25) lt_X7 (e_X7 _) rfl wM_X7_178 wI_yX7_canLend wS_yX7_canLend wN_X7 wC_yX7_canLend hd_X7_canLend rfl ⟨rfl, rfl⟩ ⟨(Nat.le_of_ble_eq_true rfl), (Nat.le_of_ble_eq_true rfl)⟩ ⟨Nat.zero_le _, Nat.zero_le _⟩ rfl (Nat.le_of_ble_eq_true rfl) dX7_isRow_104) hS (fun H locs hP hS => ?_)
            refine lv_if_eq (tgt := 114) hx hb dX7_isRow_107 (by decide) (fun c_26 => ?_) (fun c_26 => ?_)
            · have h := ite_t c_26 h
              refine lv_iconst (v := 0) hx hb dX7_isRow_114 (by decide) ?_
              refine lv_istore (lv' := [(5, .int 0), (8, .int v8_18), (7, .int v7_15), (0, .ref (ta Θ 0)), (2, .int v2), (3, .int v3), (6, .int v6)]) hx hb dX7_isRow_115 hl (by decide) rfl (fun ls hl => ?_)
              refine lv_iload hx hb dX7_isRow_117 (lv_at hl 0 rfl) ?_
              refine lv_if_eq (tgt := 130) hx hb dX7_isRow_119 (by decide) (fun c_27 => ?_) (fun c_27 => absurd c_27 (by decide))
              refine lv_iinc (v := v6 + 1) (lv' := [(6, .int (v6 + 1)), (5, .int 0), (8, .int v8_18), (7, .int v7_15), (0, .ref (ta Θ 0)), (2, .int v2), (3, .int v3)]) hx hb dX7_isRow_130 hl (k := 6) rfl rfl (by decide) rfl (fun ls hl => ?_)
              refine lv_goto (tgt := 48) hx hb dX7_isRow_133 (by decide) ?_
              exact ih (0 : Int32) (v6 + 1) σ0 h _ _ _ hP hS (lv_sub hl [4, 5, 6, 1, 0] rfl)
            · have h := ite_f c_26 h
              refine lv_iconst (v := 1) hx hb dX7_isRow_110 (by decide) ?_
              refine lv_goto (tgt := 115) hx hb dX7_isRow_111 (by decide) ?_
              refine lv_istore (lv' := [(5, .int 1), (8, .int v8_18), (7, .int v7_15), (0, .ref (ta Θ 0)), (2, .int v2), (3, .int v3), (6, .int v6)]) hx hb dX7_isRow_115 hl (by decide) rfl (fun ls hl => ?_)
              refine lv_iload hx hb dX7_isRow_117 (lv_at hl 0 rfl) ?_
              refine lv_if_eq (tgt := 130) hx hb dX7_isRow_119 (by decide) (fun c_28 => absurd c_28 (by decide)) (fun c_28 => ?_)
              refine lv_aload_n hx hb dX7_isRow_122 rfl (lv_at hl 3 rfl) ?_
              refine lv_iload hx hb dX7_isRow_123 (lv_at hl 2 rfl) ?_
              refine lv_iload hx hb dX7_isRow_125 (lv_at hl 1 rfl) ?_
              obtain ⟨σ_29, e_30, h⟩ := ob_s h
              refine x_callv (x_runV X O hP hS hl.1 (As := [.int v7_15, .int v8_18]) (rest := []) (k_X7_lend O v7_15 v8_18 σ0 e_30) lt_X7 (e_X7 _) rfl wM_X7_181 wI_yX7_lend wS_yX7_lend wN_X7 wC_yX7_lend hd_X7_lend rfl ⟨rfl, rfl⟩ ⟨(Nat.le_of_ble_eq_true rfl), (Nat.le_of_ble_eq_true rfl)⟩ ⟨Nat.zero_le _, Nat.zero_le _⟩ rfl (Nat.le_of_ble_eq_true rfl) dX7_isRow_127) hS (fun H locs hP hS => ?_)
              refine lv_iinc (v := v6 + 1) (lv' := [(6, .int (v6 + 1)), (5, .int 1), (8, .int v8_18), (7, .int v7_15), (0, .ref (ta Θ 0)), (2, .int v2), (3, .int v3)]) hx hb dX7_isRow_130 hl (k := 6) rfl rfl (by decide) rfl (fun ls hl => ?_)
              refine lv_goto (tgt := 48) hx hb dX7_isRow_133 (by decide) ?_
              exact ih (1 : Int32) (v6 + 1) σ_29 h _ _ _ hP hS (lv_sub hl [4, 5, 6, 1, 0] rfl)
theorem hd_X7_isRow : yX7_isRow.cls ≠ "java/lang/invoke/MethodHandle" ∧ yX7_isRow.cls ≠ "java/lang/invoke/VarHandle" ∧ (parseMethodDescriptor yX7_isRow.desc).map (fun d => d.parameters.length) = some 3 := by decide +kernel
set_option maxHeartbeats 4000000 in
set_option maxRecDepth 100000 in
theorem k_X7_isRow {F : Nat} {Θ : TH} {l : Launch} (O : okT Θ (eM Θ) 23) (v1 : Int32) (v2 : Int32) (v3 : Int32) (σ0 : Mem) {y : Int32 × Mem} (h : X7_isRow F v1 v2 v3 σ0 = some y) : Met l yX7_isRow (Cond.code yX7_isRow cX7_isRow 9 (some .boolean) :: wAll) rm_X7_isRow (va_Pc [.ref (ta Θ 0), .int v1, .int v2, .int v3] (tS Θ σ0)) (qI Θ y.1 y.2) 0 0 (tA Θ) := by
  refine x_ent (by decide) (Nat.le_of_ble_eq_true rfl) (fun p e s m below meth c X hr hlk hP ls hl => ?_)
  have hS : va_S (tA Θ) s.heap s.heap [] := va_S.rf
  have hl : lv_has ls 9 [(0, .ref (ta Θ 0)), (1, .int v1), (2, .int v2), (3, .int v3)] := hl
  have hx := X.1
  have hb := X.2.1
  unfold X7_isRow at h
  refine lv_aload_n hx hb dX7_isRow_0 rfl (lv_at hl 0 rfl) ?_
  obtain ⟨σ_1, e_2, h⟩ := ob_s h
  refine x_callv (x_runV X O hP hS hl.1 (As := []) (rest := []) (k_X7_begin O σ0 e_2) lt_X7 (e_X7 _) rfl wM_X7_168 wI_yX7_begin wS_yX7_begin wN_X7 wC_yX7_begin hd_X7_begin rfl ⟨rfl, rfl⟩ ⟨(Nat.le_of_ble_eq_true rfl), (Nat.le_of_ble_eq_true rfl)⟩ ⟨Nat.zero_le _, Nat.zero_le _⟩ rfl (Nat.le_of_ble_eq_true rfl) dX7_isRow_1) hS (fun H locs hP hS => ?_)
  refine lv_iload_n hx hb dX7_isRow_4 rfl (lv_at hl 1 rfl) ?_
  refine lv_istore (lv' := [(4, .int v1), (0, .ref (ta Θ 0)), (1, .int v1), (2, .int v2), (3, .int v3)]) hx hb dX7_isRow_5 hl (by decide) rfl (fun ls hl => ?_)
  refine lv_iconst (v := 1) hx hb dX7_isRow_7 (by decide) ?_
  refine lv_istore (lv' := [(5, .int 1), (4, .int v1), (0, .ref (ta Θ 0)), (1, .int v1), (2, .int v2), (3, .int v3)]) hx hb dX7_isRow_8 hl (by decide) rfl (fun ls hl => ?_)
  refine lv_iload_n hx hb dX7_isRow_10 rfl (lv_at hl 4 rfl) ?_
  refine lv_iconst (v := 1) hx hb dX7_isRow_11 (by decide) ?_
  refine lv_isub hx hb dX7_isRow_12 ?_
  obtain ⟨v6_3, e_4, h⟩ := bnd_s h
  refine lv_nam e_4 ?_
  refine lv_istore (lv' := [(6, .int v6_3), (5, .int 1), (4, .int v1), (0, .ref (ta Θ 0)), (1, .int v1), (2, .int v2), (3, .int v3)]) hx hb dX7_isRow_13 hl (by decide) rfl (fun ls hl => ?_)
  refine w_X7_isRow_L15 X O hr hlk v2 v3 (1 : Int32) ?_ _ v1 v6_3 σ_1 h _ _ _ hP hS (lv_sub hl [3, 5, 6, 2, 1, 0] rfl)
  · intro σ_11 h H locs ls hP hS hl
    refine lv_iconst (v := 0) hx hb dX7_isRow_45 (by decide) ?_
    refine lv_istore (lv' := [(6, .int 0), (0, .ref (ta Θ 0)), (2, .int v2), (3, .int v3), (5, .int 1)]) hx hb dX7_isRow_46 hl (by decide) rfl (fun ls hl => ?_)
    refine w_X7_isRow_L48 X O hr hlk v2 v3 ?_ _ (1 : Int32) (0 : Int32) σ_11 h _ _ _ hP hS (lv_sub hl [1, 2, 3, 4, 0] rfl)
    · intro v5_31 σ_32 h H locs ls hP hS hl
      refine lv_iload hx hb dX7_isRow_136 (lv_at hl 2 rfl) ?_
      refine lv_if_eq (tgt := 156) hx hb dX7_isRow_138 (by decide) (fun c_33 => ?_) (fun c_33 => ?_)
      · have h := ite_t c_33 h
        refine lv_iconst (v := 0) hx hb dX7_isRow_156 (by decide) ?_
        have h := some_i h
        subst h
        exact x_retz X hP hS hr hlk (Or.inl rfl) rfl rfl dX7_isRow_157
      · have h := ite_f c_33 h
        refine lv_iload_n hx hb dX7_isRow_141 rfl (lv_at hl 1 rfl) ?_
        refine lv_aload_n hx hb dX7_isRow_142 rfl (lv_at hl 0 rfl) ?_
        obtain ⟨z_34, e_35, h⟩ := ob_s h
        refine x_calli (x_runV X O hP hS hl.1 (As := []) (rest := [.int v3]) (k_X7_mendedNow O σ_32 e_35) lt_X7 (e_X7 _) rfl wM_X7_171 wI_yX7_mendedNow wS_yX7_mendedNow wN_X7 wC_yX7_mendedNow hd_X7_mendedNow rfl ⟨rfl, rfl⟩ ⟨(Nat.le_of_ble_eq_true rfl), (Nat.le_of_ble_eq_true rfl)⟩ ⟨Nat.zero_le _, Nat.zero_le _⟩ rfl (Nat.le_of_ble_eq_true rfl) dX7_isRow_143) hS (fun H locs hP hS => ?_)
        refine lv_iconst (v := (-1)) hx hb dX7_isRow_146 (by decide) ?_
        refine lv_ixor hx hb dX7_isRow_147 ?_
        refine lv_iand hx hb dX7_isRow_148 ?_
        refine lv_if_ne (tgt := 156) hx hb dX7_isRow_149 (by decide) (fun c_36 => ?_) (fun c_36 => ?_)
        · have h := ite_f c_36 h
          refine lv_iconst (v := 0) hx hb dX7_isRow_156 (by decide) ?_
          have h := some_i h
          subst h
          exact x_retz X hP hS hr hlk (Or.inl rfl) rfl rfl dX7_isRow_157
        · have h := ite_t c_36 h
          refine lv_iconst (v := 1) hx hb dX7_isRow_152 (by decide) ?_
          refine lv_goto (tgt := 157) hx hb dX7_isRow_153 (by decide) ?_
          have h := some_i h
          subst h
          exact x_retz X hP hS hr hlk (Or.inr rfl) rfl rfl dX7_isRow_157
abbrev rm_X7_fewest : Room := { frames := 4, cells := 0, slots := 0, locals := 94 }
set_option maxHeartbeats 4000000 in
set_option maxRecDepth 100000 in
theorem w_X7_fewest_L55 {F : Nat} {Θ : TH} {p : Program} {l : Launch} {e : Env} {s : State} {m : MethodId} {args : Array Value} {below : List Frame} {meth : Method} {c : Code} (X : CX Θ p s m args c RX7 cX7_fewest 6) (O : okT Θ (eM Θ) 23) (hr : meth.sig.returnType = some .int) (hlk : meth.locks = false) (v1 : Int32) (v2 : Int32) (v3 : Int32) (v4 : Int32) {y : Int32 × Mem} {k122 : Mem → Option (Int32 × Mem)} (hk122 : ∀ (σ0 : Mem), k122 σ0 = some y → ∀ (H : Heap) (locs : List Loc) (ls : Array Slot), va_P (tD Θ) vwCl (tw Θ σ0) H → va_S (tA Θ) s.heap H locs → lv_has ls 6 [(0, .ref (ta Θ 0)), (1, .int v1), (2, .int v2), (3, .int v3), (4, .int v4)] → W p l e rm_X7_fewest s m args below meth c H locs 0 0 (MQ below (qI Θ y.1 y.2) args s 0 0 (tA Θ)) (F0 m 122 ls [])) {k73 : Mem → Option (Int32 × Mem)} (hk73 : ∀ (σ0 : Mem), k73 σ0 = some y → ∀ (H : Heap) (locs : List Loc) (ls : Array Slot), va_P (tD Θ) vwCl (tw Θ σ0) H → va_S (tA Θ) s.heap H locs → lv_has ls 6 [(0, .ref (ta Θ 0)), (2, .int v2), (4, .int v4)] → W p l e rm_X7_fewest s m args below meth c H locs 0 0 (MQ below (qI Θ y.1 y.2) args s 0 0 (tA Θ)) (F0 m 73 ls [])) :
    ∀ (f : Nat) (v5 : Int32) (σ0 : Mem), X7_fewest_L55 F v1 v2 v3 v4 k122 k73 f v5 σ0 = some y → ∀ (H : Heap) (locs : List Loc) (ls : Array Slot), va_P (tD Θ) vwCl (tw Θ σ0) H → va_S (tA Θ) s.heap H locs → lv_has ls 6 [(0, .ref (ta Θ 0)), (1, .int v1), (2, .int v2), (3, .int v3), (4, .int v4), (5, .int v5)] → W p l e rm_X7_fewest s m args below meth c H locs 0 0 (MQ below (qI Θ y.1 y.2) args s 0 0 (tA Θ)) (F0 m 55 ls []) := by
  have hx := X.1
  have hb := X.2.1
  intro f
  induction f with
  | zero => intro v5 σ0 h; cases h
  | succ f ih =>
    intro v5 σ0 h H locs ls hP hS hl
    rw [X7_fewest_L55] at h
    refine lv_iload hx hb dX7_fewest_55 (lv_at hl 5 rfl) ?_
    refine lv_iload_n hx hb dX7_fewest_57 rfl (lv_at hl 3 rfl) ?_
    refine lv_icmp_ge (tgt := 122) hx hb dX7_fewest_58 (by decide) (fun c_5 => ?_) (fun c_5 => ?_)
    · have h := ite_t c_5 h
      exact hk122 σ0 h _ _ _ hP hS (lv_sub hl [0, 1, 2, 3, 4] rfl)
    · have h := ite_f c_5 h
      refine lv_aload_n hx hb dX7_fewest_61 rfl (lv_at hl 0 rfl) ?_
      refine lv_iload hx hb dX7_fewest_62 (lv_at hl 5 rfl) ?_
      refine lv_iload hx hb dX7_fewest_64 (lv_at hl 4 rfl) ?_
      refine lv_iload_n hx hb dX7_fewest_66 rfl (lv_at hl 1 rfl) ?_
      obtain ⟨z_6, e_7, h⟩ := ob_s h
      refine x_calli (x_runV X O hP hS hl.1 (As := [.int v5, .int v4, .int v1]) (rest := []) (k_X7_isRow O v5 v4 v1 σ0 e_7) lt_X7 (e_X7 _) rfl wM_X7_210 wI_yX7_isRow wS_yX7_isRow wN_X7 wC_yX7_isRow hd_X7_isRow rfl ⟨rfl, rfl⟩ ⟨(Nat.le_of_ble_eq_true rfl), (Nat.le_of_ble_eq_true rfl)⟩ ⟨Nat.zero_le _, Nat.zero_le _⟩ rfl (Nat.le_of_ble_eq_true rfl) dX7_fewest_67) hS (fun H locs hP hS => ?_)
      refine lv_if_eq (tgt := 116) hx hb dX7_fewest_70 (by decide) (fun c_8 => ?_) (fun c_8 => ?_)
      · have h := ite_t c_8 h
        refine lv_iinc (v := v5 + 1) (lv' := [(5, .int (v5 + 1)), (0, .ref (ta Θ 0)), (1, .int v1), (2, .int v2), (3, .int v3), (4, .int v4)]) hx hb dX7_fewest_116 hl (k := 5) rfl rfl (by decide) rfl (fun ls hl => ?_)
        refine lv_goto (tgt := 55) hx hb dX7_fewest_119 (by decide) ?_
        exact ih (v5 + 1) z_6.2 h _ _ _ hP hS (lv_sub hl [1, 2, 3, 4, 5, 0] rfl)
      · have h := ite_f c_8 h
        exact hk73 z_6.2 h _ _ _ hP hS (lv_sub hl [0, 2, 4] rfl)
set_option maxHeartbeats 4000000 in
set_option maxRecDepth 100000 in
theorem w_X7_fewest_L46 {F : Nat} {Θ : TH} {p : Program} {l : Launch} {e : Env} {s : State} {m : MethodId} {args : Array Value} {below : List Frame} {meth : Method} {c : Code} (X : CX Θ p s m args c RX7 cX7_fewest 6) (O : okT Θ (eM Θ) 23) (hr : meth.sig.returnType = some .int) (hlk : meth.locks = false) (v1 : Int32) (v2 : Int32) {y : Int32 × Mem} {k73 : Int32 → Mem → Option (Int32 × Mem)} (hk73 : ∀ (v4 : Int32) (σ0 : Mem), k73 v4 σ0 = some y → ∀ (H : Heap) (locs : List Loc) (ls : Array Slot), va_P (tD Θ) vwCl (tw Θ σ0) H → va_S (tA Θ) s.heap H locs → lv_has ls 6 [(0, .ref (ta Θ 0)), (2, .int v2), (4, .int v4)] → W p l e rm_X7_fewest s m args below meth c H locs 0 0 (MQ below (qI Θ y.1 y.2) args s 0 0 (tA Θ)) (F0 m 73 ls [])) :
    ∀ (f : Nat) (v3 : Int32) (v4 : Int32) (σ0 : Mem), X7_fewest_L46 F v1 v2 k73 f v3 v4 σ0 = some y → ∀ (H : Heap) (locs : List Loc) (ls : Array Slot), va_P (tD Θ) vwCl (tw Θ σ0) H → va_S (tA Θ) s.heap H locs → lv_has ls 6 [(0, .ref (ta Θ 0)), (1, .int v1), (2, .int v2), (3, .int v3), (4, .int v4)] → W p l e rm_X7_fewest s m args below meth c H locs 0 0 (MQ below (qI Θ y.1 y.2) args s 0 0 (tA Θ)) (F0 m 46 ls []) := by
  have hx := X.1
  have hb := X.2.1
  intro f
  induction f with
  | zero => intro v3 v4 σ0 h; cases h
  | succ f ih =>
    intro v3 v4 σ0 h H locs ls hP hS hl
    rw [X7_fewest_L46] at h
    refine lv_iload hx hb dX7_fewest_46 (lv_at hl 4 rfl) ?_
    refine lv_iconst (v := 4) hx hb dX7_fewest_48 (by decide) ?_
    refine lv_icmp_ge (tgt := 133) hx hb dX7_fewest_49 (by decide) (fun c_4 => ?_) (fun c_4 => ?_)
    · have h := ite_t c_4 h
      refine lv_bipush (v := (-9)) hx hb dX7_fewest_133 (by decide) ?_
      have h := some_i h
      subst h
      exact x_reti X hP hS hr hlk rfl rfl dX7_fewest_135
    · have h := ite_f c_4 h
      refine lv_iconst (v := 0) hx hb dX7_fewest_52 (by decide) ?_
      refine lv_istore (lv' := [(5, .int 0), (0, .ref (ta Θ 0)), (1, .int v1), (2, .int v2), (3, .int v3), (4, .int v4)]) hx hb dX7_fewest_53 hl (by decide) rfl (fun ls hl => ?_)
      refine w_X7_fewest_L55 X O hr hlk v1 v2 v3 v4 ?_ ?_ _ (0 : Int32) σ0 h _ _ _ hP hS (lv_sub hl [1, 2, 3, 4, 5, 0] rfl)
      · intro σ_9 h H locs ls hP hS hl
        refine lv_iload_n hx hb dX7_fewest_122 rfl (lv_at hl 3 rfl) ?_
        refine lv_bipush (v := 36) hx hb dX7_fewest_123 (by decide) ?_
        refine lv_imul hx hb dX7_fewest_125 ?_
        obtain ⟨v3_10, e_11, h⟩ := bnd_s h
        refine lv_nam e_11 ?_
        refine lv_istore_n (lv' := [(3, .int v3_10), (0, .ref (ta Θ 0)), (1, .int v1), (2, .int v2), (4, .int v4)]) hx hb dX7_fewest_126 rfl hl (by decide) rfl (fun ls hl => ?_)
        refine lv_iinc (v := v4 + 1) (lv' := [(4, .int (v4 + 1)), (3, .int v3_10), (0, .ref (ta Θ 0)), (1, .int v1), (2, .int v2)]) hx hb dX7_fewest_127 hl (k := 4) rfl rfl (by decide) rfl (fun ls hl => ?_)
        refine lv_goto (tgt := 46) hx hb dX7_fewest_130 (by decide) ?_
        exact ih v3_10 (v4 + 1) σ_9 h _ _ _ hP hS (lv_sub hl [2, 3, 4, 1, 0] rfl)
      · intro σ_12 h H locs ls hP hS hl
        exact hk73 v4 σ_12 h _ _ _ hP hS (lv_sub hl [0, 1, 2] rfl)
theorem hd_X7_fewest : yX7_fewest.cls ≠ "java/lang/invoke/MethodHandle" ∧ yX7_fewest.cls ≠ "java/lang/invoke/VarHandle" ∧ (parseMethodDescriptor yX7_fewest.desc).map (fun d => d.parameters.length) = some 2 := by decide +kernel
set_option maxHeartbeats 4000000 in
set_option maxRecDepth 100000 in
theorem k_X7_fewest {F : Nat} {Θ : TH} {l : Launch} (O : okT Θ (eM Θ) 23) (v1 : Int32) (v2 : Int32) (σ0 : Mem) {y : Int32 × Mem} (h : X7_fewest F v1 v2 σ0 = some y) : Met l yX7_fewest (Cond.code yX7_fewest cX7_fewest 6 (some .int) :: wAll) rm_X7_fewest (va_Pc [.ref (ta Θ 0), .int v1, .int v2] (tS Θ σ0)) (qI Θ y.1 y.2) 0 0 (tA Θ) := by
  refine x_ent (by decide) (Nat.le_of_ble_eq_true rfl) (fun p e s m below meth c X hr hlk hP ls hl => ?_)
  have hS : va_S (tA Θ) s.heap s.heap [] := va_S.rf
  have hl : lv_has ls 6 [(0, .ref (ta Θ 0)), (1, .int v1), (2, .int v2)] := hl
  have hx := X.1
  have hb := X.2.1
  unfold X7_fewest at h
  refine lv_aload_n hx hb dX7_fewest_0 rfl (lv_at hl 0 rfl) ?_
  refine g_X7_87 X O hP dX7_fewest_1 ?_
  refine lv_if_ne (tgt := 10) hx hb dX7_fewest_4 (by decide) (fun c_1 => ?_) (fun c_1 => ?_)
  · have h := ite_f c_1 h
    refine lv_iload_n hx hb dX7_fewest_10 rfl (lv_at hl 1 rfl) ?_
    refine lv_i2l (v := v1.toInt64) hx hb dX7_fewest_11 rfl ?_
    refine lv_lconst (v := 0) hx hb dX7_fewest_12 (by decide) ?_
    refine lv_aload_n hx hb dX7_fewest_13 rfl (lv_at hl 0 rfl) ?_
    refine x_calli (x_runV X O hP hS hl.1 (As := []) (rest := [.long 0, .long v1.toInt64]) (k_X7_everybody O σ0 rfl) lt_X7 (e_X7 _) rfl wM_X7_175 wI_yX7_everybody wS_yX7_everybody wN_X7 wC_yX7_everybody hd_X7_everybody rfl ⟨rfl, rfl⟩ ⟨(Nat.le_of_ble_eq_true rfl), (Nat.le_of_ble_eq_true rfl)⟩ ⟨Nat.zero_le _, Nat.zero_le _⟩ rfl (Nat.le_of_ble_eq_true rfl) dX7_fewest_14) hS (fun H locs hP hS => ?_)
    refine lv_i2l (v := (X7_everybody σ0).toInt64) hx hb dX7_fewest_17 rfl ?_
    refine x_calli (x_runS X hP hS hl.1 (As := [.long v1.toInt64, .long 0, .long ((X7_everybody σ0).toInt64)]) (rest := []) (k_X7_in O v1.toInt64 (0 : Int64) ((X7_everybody σ0).toInt64) σ0 rfl) wM_X7_90 wT_yX7_in wN_X7 wC_yX7_in hd_X7_in rfl ⟨rfl, rfl⟩ ⟨(Nat.le_of_ble_eq_true rfl), (Nat.le_of_ble_eq_true rfl)⟩ ⟨Nat.zero_le _, Nat.zero_le _⟩ rfl (Nat.le_of_ble_eq_true rfl) dX7_fewest_18) hS (fun H locs hP hS => ?_)
    refine lv_if_eq (tgt := 38) hx hb dX7_fewest_21 (by decide) (fun c_2 => ?_) (fun c_2 => ?_)
    · have h := ite_t c_2 h
      refine lv_bipush (v := (-2)) hx hb dX7_fewest_38 (by decide) ?_
      have h := some_i h
      subst h
      exact x_reti X hP hS hr hlk rfl rfl dX7_fewest_40
    · have h := ite_f c_2 h
      refine lv_iload_n hx hb dX7_fewest_24 rfl (lv_at hl 2 rfl) ?_
      refine lv_i2l (v := v2.toInt64) hx hb dX7_fewest_25 rfl ?_
      refine lv_ldc2 (v := (-1)) hx hb X.2.2.2.1 (X.2.2.2.2.1 _ wL_X7_208) dX7_fewest_26 ?_
      refine lv_ldc2 (v := 2) hx hb X.2.2.2.1 (X.2.2.2.2.1 _ wL_X7_127) dX7_fewest_29 ?_
      refine x_calli (x_runS X hP hS hl.1 (As := [.long v2.toInt64, .long ((-1)), .long 2]) (rest := []) (k_X7_in O v2.toInt64 (-1 : Int64) (2 : Int64) σ0 rfl) wM_X7_90 wT_yX7_in wN_X7 wC_yX7_in hd_X7_in rfl ⟨rfl, rfl⟩ ⟨(Nat.le_of_ble_eq_true rfl), (Nat.le_of_ble_eq_true rfl)⟩ ⟨Nat.zero_le _, Nat.zero_le _⟩ rfl (Nat.le_of_ble_eq_true rfl) dX7_fewest_32) hS (fun H locs hP hS => ?_)
      refine lv_if_ne (tgt := 41) hx hb dX7_fewest_35 (by decide) (fun c_3 => ?_) (fun c_3 => ?_)
      · have h := ite_f c_3 h
        refine lv_iconst (v := 1) hx hb dX7_fewest_41 (by decide) ?_
        refine lv_istore_n (lv' := [(3, .int 1), (0, .ref (ta Θ 0)), (1, .int v1), (2, .int v2)]) hx hb dX7_fewest_42 rfl hl (by decide) rfl (fun ls hl => ?_)
        refine lv_iconst (v := 0) hx hb dX7_fewest_43 (by decide) ?_
        refine lv_istore (lv' := [(4, .int 0), (3, .int 1), (0, .ref (ta Θ 0)), (1, .int v1), (2, .int v2)]) hx hb dX7_fewest_44 hl (by decide) rfl (fun ls hl => ?_)
        refine w_X7_fewest_L46 X O hr hlk v1 v2 ?_ _ (1 : Int32) (0 : Int32) σ0 h _ _ _ hP hS (lv_sub hl [2, 3, 4, 1, 0] rfl)
        · intro v4_13 σ_14 h H locs ls hP hS hl
          refine lv_iload_n hx hb dX7_fewest_73 rfl (lv_at hl 1 rfl) ?_
          refine lv_if_ge (tgt := 82) hx hb dX7_fewest_74 (by decide) (fun c_15 => ?_) (fun c_15 => ?_)
          · have h := ite_t c_15 h
            refine lv_iload_n hx hb dX7_fewest_82 rfl (lv_at hl 1 rfl) ?_
            refine lv_iload hx hb dX7_fewest_83 (lv_at hl 2 rfl) ?_
            refine lv_icmp_ge (tgt := 113) hx hb dX7_fewest_85 (by decide) (fun c_16 => ?_) (fun c_16 => ?_)
            · have h := ite_t c_16 h
              refine lv_bipush (v := (-9)) hx hb dX7_fewest_113 (by decide) ?_
              have h := some_i h
              subst h
              exact x_reti X hP hS hr hlk rfl rfl dX7_fewest_115
            · have h := ite_f c_16 h
              refine lv_bipush (v := 10) hx hb dX7_fewest_88 (by decide) ?_
              refine lv_aload_n hx hb dX7_fewest_90 rfl (lv_at hl 0 rfl) ?_
              refine g_X7_49 X O hP dX7_fewest_91 ?_
              refine lv_iload_n hx hb dX7_fewest_94 rfl (lv_at hl 1 rfl) ?_
              obtain ⟨g_17, h⟩ := grd_s h
              refine x_iald X O hP mI_14 g_17 dX7_fewest_95 ?_
              refine lv_bipush (v := 6) hx hb dX7_fewest_96 (by decide) ?_
              refine lv_idiv hx hb dX7_fewest_98 (by decide) ?_
              refine lv_imul hx hb dX7_fewest_99 ?_
              refine lv_aload_n hx hb dX7_fewest_100 rfl (lv_at hl 0 rfl) ?_
              refine g_X7_49 X O hP dX7_fewest_101 ?_
              refine lv_iload_n hx hb dX7_fewest_104 rfl (lv_at hl 1 rfl) ?_
              obtain ⟨g_18, h⟩ := grd_s h
              refine x_iald X O hP mI_14 g_18 dX7_fewest_105 ?_
              refine lv_bipush (v := 6) hx hb dX7_fewest_106 (by decide) ?_
              refine lv_irem hx hb dX7_fewest_108 (by decide) ?_
              refine lv_iadd hx hb dX7_fewest_109 ?_
              refine lv_goto (tgt := 115) hx hb dX7_fewest_110 (by decide) ?_
              have h := some_i h
              subst h
              exact x_reti X hP hS hr hlk rfl rfl dX7_fewest_115
          · have h := ite_f c_15 h
            refine lv_iload hx hb dX7_fewest_77 (lv_at hl 2 rfl) ?_
            refine lv_goto (tgt := 115) hx hb dX7_fewest_79 (by decide) ?_
            have h := some_i h
            subst h
            exact x_reti X hP hS hr hlk rfl rfl dX7_fewest_115
      · have h := ite_t c_3 h
        refine lv_bipush (v := (-2)) hx hb dX7_fewest_38 (by decide) ?_
        have h := some_i h
        subst h
        exact x_reti X hP hS hr hlk rfl rfl dX7_fewest_40
  · have h := ite_t c_1 h
    refine lv_bipush (v := (-3)) hx hb dX7_fewest_7 (by decide) ?_
    have h := some_i h
    subst h
    exact x_reti X hP hS hr hlk rfl rfl dX7_fewest_9
abbrev rm_X7_matchBy : Room := { frames := 1, cells := 0, slots := 0, locals := 21 }
set_option maxHeartbeats 4000000 in
set_option maxRecDepth 100000 in
theorem w_X7_matchBy_J80 {F : Nat} {Θ : TH} {p : Program} {l : Launch} {e : Env} {s : State} {m : MethodId} {args : Array Value} {below : List Frame} {meth : Method} {c : Code} (X : CX Θ p s m args c RX7 cX7_matchBy 8) (O : okT Θ (eM Θ) 23) (hr : meth.sig.returnType = some .int) (hlk : meth.locks = false) {y : Int32 × Mem} {kh : Int32 → Int32 → Int32 → Int32 → Mem → Option (Int32 × Mem)} (hkh : ∀ (v2 : Int32) (v3 : Int32) (v4 : Int32) (v5 : Int32) (σ0 : Mem), kh v2 v3 v4 v5 σ0 = some y → ∀ (H : Heap) (locs : List Loc) (ls : Array Slot), va_P (tD Θ) vwCl (tw Θ σ0) H → va_S (tA Θ) s.heap H locs → lv_has ls 8 [(0, .ref (ta Θ 0)), (2, .int v2), (3, .int v3), (4, .int v4), (5, .int v5)] → W p l e rm_X7_matchBy s m args below meth c H locs 0 0 (MQ below (qI Θ y.1 y.2) args s 0 0 (tA Θ)) (F0 m 15 ls [])) (v2 : Int32) (v3 : Int32) (v4 : Int32) (v5 : Int32) (v6 : Int32) (w0 : Int32) (σ0 : Mem) (h : X7_matchBy_J80 F kh v2 v3 v4 v5 v6 w0 σ0 = some y) (H : Heap) (locs : List Loc) (ls : Array Slot) (hP : va_P (tD Θ) vwCl (tw Θ σ0) H) (hS : va_S (tA Θ) s.heap H locs) (hl : lv_has ls 8 [(0, .ref (ta Θ 0)), (2, .int v2), (3, .int v3), (4, .int v4), (5, .int v5), (6, .int v6)]) : W p l e rm_X7_matchBy s m args below meth c H locs 0 0 (MQ below (qI Θ y.1 y.2) args s 0 0 (tA Θ)) (F0 m 80 ls [.int w0]) := by
  have hx := X.1
  have hb := X.2.1
  unfold X7_matchBy_J80 at h
  refine lv_istore (lv' := [(7, .int w0), (0, .ref (ta Θ 0)), (2, .int v2), (3, .int v3), (4, .int v4), (5, .int v5), (6, .int v6)]) hx hb dX7_matchBy_80 hl (by decide) rfl (fun ls hl => ?_)
  refine lv_iload hx hb dX7_matchBy_82 (lv_at hl 4 rfl) ?_
  refine lv_iload hx hb dX7_matchBy_84 (lv_at hl 0 rfl) ?_
  refine lv_if_eq (tgt := 93) hx hb dX7_matchBy_86 (by decide) (fun c_12 => ?_) (fun c_12 => ?_)
  · have h := ite_t c_12 h
    refine lv_iconst (v := 0) hx hb dX7_matchBy_93 (by decide) ?_
    refine lv_iadd hx hb dX7_matchBy_94 ?_
    obtain ⟨v4_13, e_14, h⟩ := bnd_s h
    refine lv_nam e_14 ?_
    refine lv_istore (lv' := [(4, .int v4_13), (7, .int w0), (0, .ref (ta Θ 0)), (2, .int v2), (3, .int v3), (5, .int v5), (6, .int v6)]) hx hb dX7_matchBy_95 hl (by decide) rfl (fun ls hl => ?_)
    refine lv_iload_n hx hb dX7_matchBy_97 rfl (lv_at hl 4 rfl) ?_
    refine lv_iconst (v := 1) hx hb dX7_matchBy_98 (by decide) ?_
    refine lv_iload hx hb dX7_matchBy_99 (lv_at hl 6 rfl) ?_
    refine lv_ishl hx hb dX7_matchBy_101 ?_
    refine lv_ior hx hb dX7_matchBy_102 ?_
    obtain ⟨v3_15, e_16, h⟩ := bnd_s h
    refine lv_nam e_16 ?_
    refine lv_istore_n (lv' := [(3, .int v3_15), (4, .int v4_13), (7, .int w0), (0, .ref (ta Θ 0)), (2, .int v2), (5, .int v5), (6, .int v6)]) hx hb dX7_matchBy_103 rfl hl (by decide) rfl (fun ls hl => ?_)
    refine lv_aload_n hx hb dX7_matchBy_104 rfl (lv_at hl 3 rfl) ?_
    refine g_X7_52 X O hP dX7_matchBy_105 ?_
    refine lv_iload hx hb dX7_matchBy_108 (lv_at hl 5 rfl) ?_
    refine lv_iload hx hb dX7_matchBy_110 (lv_at hl 6 rfl) ?_
    obtain ⟨g_17, h⟩ := grd_s h
    obtain ⟨σ_18, e_19, h⟩ := bnd_s h
    refine x_iast X O hP hS mI_15 g_17 dX7_matchBy_112 e_19 (fun H locs hP hS => ?_)
    refine lv_iinc (v := v5 + (-1)) (lv' := [(5, .int (v5 + (-1))), (3, .int v3_15), (4, .int v4_13), (7, .int w0), (0, .ref (ta Θ 0)), (2, .int v2), (6, .int v6)]) hx hb dX7_matchBy_113 hl (k := 5) rfl rfl (by decide) rfl (fun ls hl => ?_)
    refine lv_goto (tgt := 15) hx hb dX7_matchBy_116 (by decide) ?_
    exact hkh v2 v3_15 v4_13 (v5 + (-1)) σ_18 h _ _ _ hP hS (lv_sub hl [4, 5, 1, 2, 0] rfl)
  · have h := ite_f c_12 h
    refine lv_iconst (v := 1) hx hb dX7_matchBy_89 (by decide) ?_
    refine lv_goto (tgt := 94) hx hb dX7_matchBy_90 (by decide) ?_
    refine lv_iadd hx hb dX7_matchBy_94 ?_
    obtain ⟨v4_20, e_21, h⟩ := bnd_s h
    refine lv_nam e_21 ?_
    refine lv_istore (lv' := [(4, .int v4_20), (7, .int w0), (0, .ref (ta Θ 0)), (2, .int v2), (3, .int v3), (5, .int v5), (6, .int v6)]) hx hb dX7_matchBy_95 hl (by decide) rfl (fun ls hl => ?_)
    refine lv_iload_n hx hb dX7_matchBy_97 rfl (lv_at hl 4 rfl) ?_
    refine lv_iconst (v := 1) hx hb dX7_matchBy_98 (by decide) ?_
    refine lv_iload hx hb dX7_matchBy_99 (lv_at hl 6 rfl) ?_
    refine lv_ishl hx hb dX7_matchBy_101 ?_
    refine lv_ior hx hb dX7_matchBy_102 ?_
    obtain ⟨v3_22, e_23, h⟩ := bnd_s h
    refine lv_nam e_23 ?_
    refine lv_istore_n (lv' := [(3, .int v3_22), (4, .int v4_20), (7, .int w0), (0, .ref (ta Θ 0)), (2, .int v2), (5, .int v5), (6, .int v6)]) hx hb dX7_matchBy_103 rfl hl (by decide) rfl (fun ls hl => ?_)
    refine lv_aload_n hx hb dX7_matchBy_104 rfl (lv_at hl 3 rfl) ?_
    refine g_X7_52 X O hP dX7_matchBy_105 ?_
    refine lv_iload hx hb dX7_matchBy_108 (lv_at hl 5 rfl) ?_
    refine lv_iload hx hb dX7_matchBy_110 (lv_at hl 6 rfl) ?_
    obtain ⟨g_24, h⟩ := grd_s h
    obtain ⟨σ_25, e_26, h⟩ := bnd_s h
    refine x_iast X O hP hS mI_15 g_24 dX7_matchBy_112 e_26 (fun H locs hP hS => ?_)
    refine lv_iinc (v := v5 + (-1)) (lv' := [(5, .int (v5 + (-1))), (3, .int v3_22), (4, .int v4_20), (7, .int w0), (0, .ref (ta Θ 0)), (2, .int v2), (6, .int v6)]) hx hb dX7_matchBy_113 hl (k := 5) rfl rfl (by decide) rfl (fun ls hl => ?_)
    refine lv_goto (tgt := 15) hx hb dX7_matchBy_116 (by decide) ?_
    exact hkh v2 v3_22 v4_20 (v5 + (-1)) σ_25 h _ _ _ hP hS (lv_sub hl [4, 5, 1, 2, 0] rfl)
set_option maxHeartbeats 4000000 in
set_option maxRecDepth 100000 in
theorem w_X7_matchBy_L15 {F : Nat} {Θ : TH} {p : Program} {l : Launch} {e : Env} {s : State} {m : MethodId} {args : Array Value} {below : List Frame} {meth : Method} {c : Code} (X : CX Θ p s m args c RX7 cX7_matchBy 8) (O : okT Θ (eM Θ) 23) (hr : meth.sig.returnType = some .int) (hlk : meth.locks = false) {y : Int32 × Mem} {k119 : Int32 → Int32 → Mem → Option (Int32 × Mem)} (hk119 : ∀ (v3 : Int32) (v4 : Int32) (σ0 : Mem), k119 v3 v4 σ0 = some y → ∀ (H : Heap) (locs : List Loc) (ls : Array Slot), va_P (tD Θ) vwCl (tw Θ σ0) H → va_S (tA Θ) s.heap H locs → lv_has ls 8 [(0, .ref (ta Θ 0)), (3, .int v3), (4, .int v4)] → W p l e rm_X7_matchBy s m args below meth c H locs 0 0 (MQ below (qI Θ y.1 y.2) args s 0 0 (tA Θ)) (F0 m 119 ls [])) :
    ∀ (f : Nat) (v2 : Int32) (v3 : Int32) (v4 : Int32) (v5 : Int32) (σ0 : Mem), X7_matchBy_L15 F k119 f v2 v3 v4 v5 σ0 = some y → ∀ (H : Heap) (locs : List Loc) (ls : Array Slot), va_P (tD Θ) vwCl (tw Θ σ0) H → va_S (tA Θ) s.heap H locs → lv_has ls 8 [(0, .ref (ta Θ 0)), (2, .int v2), (3, .int v3), (4, .int v4), (5, .int v5)] → W p l e rm_X7_matchBy s m args below meth c H locs 0 0 (MQ below (qI Θ y.1 y.2) args s 0 0 (tA Θ)) (F0 m 15 ls []) := by
  have hx := X.1
  have hb := X.2.1
  intro f
  induction f with
  | zero => intro v2 v3 v4 v5 σ0 h; cases h
  | succ f ih =>
    intro v2 v3 v4 v5 σ0 h H locs ls hP hS hl
    rw [X7_matchBy_L15] at h
    refine lv_iload hx hb dX7_matchBy_15 (lv_at hl 4 rfl) ?_
    refine lv_if_lt (tgt := 119) hx hb dX7_matchBy_17 (by decide) (fun c_3 => ?_) (fun c_3 => ?_)
    · have h := ite_t c_3 h
      exact hk119 v3 v4 σ0 h _ _ _ hP hS (lv_sub hl [0, 2, 3] rfl)
    · have h := ite_f c_3 h
      refine lv_iload_n hx hb dX7_matchBy_20 rfl (lv_at hl 1 rfl) ?_
      refine lv_aload_n hx hb dX7_matchBy_21 rfl (lv_at hl 0 rfl) ?_
      refine g_X7_87 X O hP dX7_matchBy_22 ?_
      obtain ⟨g_4, h⟩ := grd_s h
      refine lv_irem hx hb dX7_matchBy_25 (nz_s g_4) ?_
      obtain ⟨v6_5, e_6, h⟩ := bnd_s h
      refine lv_nam e_6 ?_
      refine lv_istore (lv' := [(6, .int v6_5), (0, .ref (ta Θ 0)), (2, .int v2), (3, .int v3), (4, .int v4), (5, .int v5)]) hx hb dX7_matchBy_26 hl (by decide) rfl (fun ls hl => ?_)
      refine lv_iload_n hx hb dX7_matchBy_28 rfl (lv_at hl 2 rfl) ?_
      refine lv_aload_n hx hb dX7_matchBy_29 rfl (lv_at hl 1 rfl) ?_
      refine g_X7_87 X O hP dX7_matchBy_30 ?_
      obtain ⟨g_7, h⟩ := grd_s h
      refine lv_idiv hx hb dX7_matchBy_33 (nz_s g_7) ?_
      obtain ⟨v2_8, e_9, h⟩ := bnd_s h
      refine lv_nam e_9 ?_
      refine lv_istore_n (lv' := [(2, .int v2_8), (6, .int v6_5), (0, .ref (ta Θ 0)), (3, .int v3), (4, .int v4), (5, .int v5)]) hx hb dX7_matchBy_34 rfl hl (by decide) rfl (fun ls hl => ?_)
      refine lv_aload_n hx hb dX7_matchBy_35 rfl (lv_at hl 2 rfl) ?_
      refine g_X7_16 X O hP dX7_matchBy_36 ?_
      refine lv_iload hx hb dX7_matchBy_39 (lv_at hl 5 rfl) ?_
      obtain ⟨g_10, h⟩ := grd_s h
      refine x_iald X O hP mI_3 g_10 dX7_matchBy_41 ?_
      refine lv_bipush (v := 6) hx hb dX7_matchBy_42 (by decide) ?_
      refine lv_icmp_eq (tgt := 75) hx hb dX7_matchBy_44 (by decide) (fun c_11 => ?_) (fun c_11 => ?_)
      · have h := ite_t c_11 h
        refine lv_iconst (v := 1) hx hb dX7_matchBy_75 (by decide) ?_
        refine lv_goto (tgt := 80) hx hb dX7_matchBy_76 (by decide) ?_
        exact w_X7_matchBy_J80 X O hr hlk ih v2_8 v3 v4 v5 v6_5 (1 : Int32) σ0 h _ _ _ hP hS (lv_sub hl [2, 0, 3, 4, 5, 1] rfl)
      · have h := ite_f c_11 h
        refine lv_aload_n hx hb dX7_matchBy_47 rfl (lv_at hl 2 rfl) ?_
        refine g_X7_13 X O hP dX7_matchBy_48 ?_
        refine lv_iload hx hb dX7_matchBy_51 (lv_at hl 5 rfl) ?_
        obtain ⟨g_27, h⟩ := grd_s h
        refine x_iald X O hP mI_2 g_27 dX7_matchBy_53 ?_
        refine lv_aload_n hx hb dX7_matchBy_54 rfl (lv_at hl 2 rfl) ?_
        refine g_X7_13 X O hP dX7_matchBy_55 ?_
        refine lv_iload hx hb dX7_matchBy_58 (lv_at hl 1 rfl) ?_
        obtain ⟨g_28, h⟩ := grd_s h
        refine x_iald X O hP mI_2 g_28 dX7_matchBy_60 ?_
        refine lv_ior hx hb dX7_matchBy_61 ?_
        refine lv_aload_n hx hb dX7_matchBy_62 rfl (lv_at hl 2 rfl) ?_
        refine g_X7_16 X O hP dX7_matchBy_63 ?_
        refine lv_iload hx hb dX7_matchBy_66 (lv_at hl 5 rfl) ?_
        obtain ⟨g_29, h⟩ := grd_s h
        refine x_iald X O hP mI_3 g_29 dX7_matchBy_68 ?_
        refine x_calli (x_runS X hP hS hl.1 (As := [.int ((σ0 2 v5.toNatClampNeg) ||| (σ0 2 v6_5.toNatClampNeg)), .int (σ0 3 v5.toNatClampNeg)]) (rest := []) (k_X7_isIn O ((σ0 2 v5.toNatClampNeg) ||| (σ0 2 v6_5.toNatClampNeg)) (σ0 3 v5.toNatClampNeg) σ0 rfl) wM_X7_149 wT_yX7_isIn wN_X7 wC_yX7_isIn hd_X7_isIn rfl ⟨rfl, rfl⟩ ⟨(Nat.le_of_ble_eq_true rfl), (Nat.le_of_ble_eq_true rfl)⟩ ⟨Nat.zero_le _, Nat.zero_le _⟩ rfl (Nat.le_of_ble_eq_true rfl) dX7_matchBy_69) hS (fun H locs hP hS => ?_)
        refine lv_if_eq (tgt := 79) hx hb dX7_matchBy_72 (by decide) (fun c_30 => ?_) (fun c_30 => ?_)
        · have h := ite_t c_30 h
          refine lv_iconst (v := 0) hx hb dX7_matchBy_79 (by decide) ?_
          exact w_X7_matchBy_J80 X O hr hlk ih v2_8 v3 v4 v5 v6_5 (0 : Int32) σ0 h _ _ _ hP hS (lv_sub hl [2, 0, 3, 4, 5, 1] rfl)
        · have h := ite_f c_30 h
          refine lv_iconst (v := 1) hx hb dX7_matchBy_75 (by decide) ?_
          refine lv_goto (tgt := 80) hx hb dX7_matchBy_76 (by decide) ?_
          exact w_X7_matchBy_J80 X O hr hlk ih v2_8 v3 v4 v5 v6_5 (1 : Int32) σ0 h _ _ _ hP hS (lv_sub hl [2, 0, 3, 4, 5, 1] rfl)
theorem hd_X7_matchBy : yX7_matchBy.cls ≠ "java/lang/invoke/MethodHandle" ∧ yX7_matchBy.cls ≠ "java/lang/invoke/VarHandle" ∧ (parseMethodDescriptor yX7_matchBy.desc).map (fun d => d.parameters.length) = some 1 := by decide +kernel
set_option maxHeartbeats 4000000 in
set_option maxRecDepth 100000 in
theorem k_X7_matchBy {F : Nat} {Θ : TH} {l : Launch} (O : okT Θ (eM Θ) 23) (v1 : Int32) (σ0 : Mem) {y : Int32 × Mem} (h : X7_matchBy F v1 σ0 = some y) : Met l yX7_matchBy (Cond.code yX7_matchBy cX7_matchBy 8 (some .int) :: wAll) rm_X7_matchBy (va_Pc [.ref (ta Θ 0), .int v1] (tS Θ σ0)) (qI Θ y.1 y.2) 0 0 (tA Θ) := by
  refine x_ent (by decide) (Nat.le_of_ble_eq_true rfl) (fun p e s m below meth c X hr hlk hP ls hl => ?_)
  have hS : va_S (tA Θ) s.heap s.heap [] := va_S.rf
  have hl : lv_has ls 8 [(0, .ref (ta Θ 0)), (1, .int v1)] := hl
  have hx := X.1
  have hb := X.2.1
  unfold X7_matchBy at h
  refine lv_iload_n hx hb dX7_matchBy_0 rfl (lv_at hl 1 rfl) ?_
  refine lv_istore_n (lv' := [(2, .int v1), (0, .ref (ta Θ 0)), (1, .int v1)]) hx hb dX7_matchBy_1 rfl hl (by decide) rfl (fun ls hl => ?_)
  refine lv_iconst (v := 0) hx hb dX7_matchBy_2 (by decide) ?_
  refine lv_istore_n (lv' := [(3, .int 0), (2, .int v1), (0, .ref (ta Θ 0)), (1, .int v1)]) hx hb dX7_matchBy_3 rfl hl (by decide) rfl (fun ls hl => ?_)
  refine lv_iconst (v := 0) hx hb dX7_matchBy_4 (by decide) ?_
  refine lv_istore (lv' := [(4, .int 0), (3, .int 0), (2, .int v1), (0, .ref (ta Θ 0)), (1, .int v1)]) hx hb dX7_matchBy_5 hl (by decide) rfl (fun ls hl => ?_)
  refine lv_aload_n hx hb dX7_matchBy_7 rfl (lv_at hl 3 rfl) ?_
  refine g_X7_87 X O hP dX7_matchBy_8 ?_
  refine lv_iconst (v := 1) hx hb dX7_matchBy_11 (by decide) ?_
  refine lv_isub hx hb dX7_matchBy_12 ?_
  obtain ⟨v5_1, e_2, h⟩ := bnd_s h
  refine lv_nam e_2 ?_
  refine lv_istore (lv' := [(5, .int v5_1), (4, .int 0), (3, .int 0), (2, .int v1), (0, .ref (ta Θ 0)), (1, .int v1)]) hx hb dX7_matchBy_13 hl (by decide) rfl (fun ls hl => ?_)
  refine w_X7_matchBy_L15 X O hr hlk  ?_ _ v1 (0 : Int32) (0 : Int32) v5_1 σ0 h _ _ _ hP hS (lv_sub hl [4, 3, 2, 1, 0] rfl)
  · intro v3_31 v4_32 σ_33 h H locs ls hP hS hl
    refine lv_iload_n hx hb dX7_matchBy_119 rfl (lv_at hl 1 rfl) ?_
    refine lv_aload_n hx hb dX7_matchBy_120 rfl (lv_at hl 0 rfl) ?_
    refine x_calli (x_runV X O hP hS hl.1 (As := []) (rest := [.int v3_31]) (k_X7_everybody O σ_33 rfl) lt_X7 (e_X7 _) rfl wM_X7_175 wI_yX7_everybody wS_yX7_everybody wN_X7 wC_yX7_everybody hd_X7_everybody rfl ⟨rfl, rfl⟩ ⟨(Nat.le_of_ble_eq_true rfl), (Nat.le_of_ble_eq_true rfl)⟩ ⟨Nat.zero_le _, Nat.zero_le _⟩ rfl (Nat.le_of_ble_eq_true rfl) dX7_matchBy_121) hS (fun H locs hP hS => ?_)
    refine lv_icmp_ne (tgt := 132) hx hb dX7_matchBy_124 (by decide) (fun c_34 => ?_) (fun c_34 => ?_)
    · have h := ite_f c_34 h
      refine lv_bipush (v := (-9)) hx hb dX7_matchBy_132 (by decide) ?_
      have h := some_i h
      subst h
      exact x_reti X hP hS hr hlk rfl rfl dX7_matchBy_134
    · have h := ite_t c_34 h
      refine lv_iload hx hb dX7_matchBy_127 (lv_at hl 2 rfl) ?_
      refine lv_goto (tgt := 134) hx hb dX7_matchBy_129 (by decide) ?_
      have h := some_i h
      subst h
      exact x_reti X hP hS hr hlk rfl rfl dX7_matchBy_134
abbrev rm_X7_match : Room := { frames := 2, cells := 0, slots := 0, locals := 48 }
set_option maxHeartbeats 4000000 in
set_option maxRecDepth 100000 in
theorem w_X7_match_L21 {F : Nat} {Θ : TH} {p : Program} {l : Launch} {e : Env} {s : State} {m : MethodId} {args : Array Value} {below : List Frame} {meth : Method} {c : Code} (X : CX Θ p s m args c RX7 cX7_match 7) (O : okT Θ (eM Θ) 23) (hr : meth.sig.returnType = some .int) (hlk : meth.locks = false) (v1 : Int32) (σ0 : Mem) {y : Int32 × Mem} {k42 : Int32 → Option (Int32 × Mem)} (hk42 : ∀ (v2 : Int32), k42 v2 = some y → ∀ (H : Heap) (locs : List Loc) (ls : Array Slot), va_P (tD Θ) vwCl (tw Θ σ0) H → va_S (tA Θ) s.heap H locs → lv_has ls 7 [(0, .ref (ta Θ 0)), (1, .int v1), (2, .int v2)] → W p l e rm_X7_match s m args below meth c H locs 0 0 (MQ below (qI Θ y.1 y.2) args s 0 0 (tA Θ)) (F0 m 42 ls [])) :
    ∀ (f : Nat) (v2 : Int32) (v3 : Int32), X7_match_L21 F v1 σ0 k42 f v2 v3 = some y → ∀ (H : Heap) (locs : List Loc) (ls : Array Slot), va_P (tD Θ) vwCl (tw Θ σ0) H → va_S (tA Θ) s.heap H locs → lv_has ls 7 [(0, .ref (ta Θ 0)), (1, .int v1), (2, .int v2), (3, .int v3)] → W p l e rm_X7_match s m args below meth c H locs 0 0 (MQ below (qI Θ y.1 y.2) args s 0 0 (tA Θ)) (F0 m 21 ls []) := by
  have hx := X.1
  have hb := X.2.1
  intro f
  induction f with
  | zero => intro v2 v3 h; cases h
  | succ f ih =>
    intro v2 v3 h H locs ls hP hS hl
    rw [X7_match_L21] at h
    refine lv_iload_n hx hb dX7_match_21 rfl (lv_at hl 3 rfl) ?_
    refine lv_aload_n hx hb dX7_match_22 rfl (lv_at hl 0 rfl) ?_
    refine g_X7_87 X O hP dX7_match_23 ?_
    refine lv_icmp_ge (tgt := 42) hx hb dX7_match_26 (by decide) (fun c_3 => ?_) (fun c_3 => ?_)
    · have h := ite_t c_3 h
      exact hk42 v2 h _ _ _ hP hS (lv_sub hl [0, 1, 2] rfl)
    · have h := ite_f c_3 h
      refine lv_iload_n hx hb dX7_match_29 rfl (lv_at hl 2 rfl) ?_
      refine lv_aload_n hx hb dX7_match_30 rfl (lv_at hl 0 rfl) ?_
      refine g_X7_87 X O hP dX7_match_31 ?_
      refine lv_imul hx hb dX7_match_34 ?_
      obtain ⟨v2_4, e_5, h⟩ := bnd_s h
      refine lv_nam e_5 ?_
      refine lv_istore_n (lv' := [(2, .int v2_4), (0, .ref (ta Θ 0)), (1, .int v1), (3, .int v3)]) hx hb dX7_match_35 rfl hl (by decide) rfl (fun ls hl => ?_)
      refine lv_iinc (v := v3 + 1) (lv' := [(3, .int (v3 + 1)), (2, .int v2_4), (0, .ref (ta Θ 0)), (1, .int v1)]) hx hb dX7_match_36 hl (k := 3) rfl rfl (by decide) rfl (fun ls hl => ?_)
      refine lv_goto (tgt := 21) hx hb dX7_match_39 (by decide) ?_
      exact ih v2_4 (v3 + 1) h _ _ _ hP hS (lv_sub hl [2, 3, 1, 0] rfl)
set_option maxHeartbeats 4000000 in
set_option maxRecDepth 100000 in
theorem w_X7_match_L50 {F : Nat} {Θ : TH} {p : Program} {l : Launch} {e : Env} {s : State} {m : MethodId} {args : Array Value} {below : List Frame} {meth : Method} {c : Code} (X : CX Θ p s m args c RX7 cX7_match 7) (O : okT Θ (eM Θ) 23) (hr : meth.sig.returnType = some .int) (hlk : meth.locks = false) (v1 : Int32) (v2 : Int32) {y : Int32 × Mem} {k100 : Int32 → Int32 → Mem → Option (Int32 × Mem)} (hk100 : ∀ (v3 : Int32) (v4 : Int32) (σ0 : Mem), k100 v3 v4 σ0 = some y → ∀ (H : Heap) (locs : List Loc) (ls : Array Slot), va_P (tD Θ) vwCl (tw Θ σ0) H → va_S (tA Θ) s.heap H locs → lv_has ls 7 [(0, .ref (ta Θ 0)), (1, .int v1), (3, .int v3), (4, .int v4)] → W p l e rm_X7_match s m args below meth c H locs 0 0 (MQ below (qI Θ y.1 y.2) args s 0 0 (tA Θ)) (F0 m 100 ls [])) :
    ∀ (f : Nat) (v3 : Int32) (v4 : Int32) (v5 : Int32) (σ0 : Mem), X7_match_L50 F v1 v2 k100 f v3 v4 v5 σ0 = some y → ∀ (H : Heap) (locs : List Loc) (ls : Array Slot), va_P (tD Θ) vwCl (tw Θ σ0) H → va_S (tA Θ) s.heap H locs → lv_has ls 7 [(0, .ref (ta Θ 0)), (1, .int v1), (2, .int v2), (3, .int v3), (4, .int v4), (5, .int v5)] → W p l e rm_X7_match s m args below meth c H locs 0 0 (MQ below (qI Θ y.1 y.2) args s 0 0 (tA Θ)) (F0 m 50 ls []) := by
  have hx := X.1
  have hb := X.2.1
  intro f
  induction f with
  | zero => intro v3 v4 v5 σ0 h; cases h
  | succ f ih =>
    intro v3 v4 v5 σ0 h H locs ls hP hS hl
    rw [X7_match_L50] at h
    refine lv_iload hx hb dX7_match_50 (lv_at hl 5 rfl) ?_
    refine lv_iload_n hx hb dX7_match_52 rfl (lv_at hl 2 rfl) ?_
    refine lv_icmp_ge (tgt := 100) hx hb dX7_match_53 (by decide) (fun c_7 => ?_) (fun c_7 => ?_)
    · have h := ite_t c_7 h
      exact hk100 v3 v4 σ0 h _ _ _ hP hS (lv_sub hl [0, 1, 3, 4] rfl)
    · have h := ite_f c_7 h
      refine lv_aload_n hx hb dX7_match_56 rfl (lv_at hl 0 rfl) ?_
      refine lv_iload hx hb dX7_match_57 (lv_at hl 5 rfl) ?_
      obtain ⟨z_8, e_9, h⟩ := ob_s h
      refine x_calli (x_runV X O hP hS hl.1 (As := [.int v5]) (rest := []) (k_X7_matchBy O v5 σ0 e_9) lt_X7 (e_X7 _) rfl wM_X7_214 wI_yX7_matchBy wS_yX7_matchBy wN_X7 wC_yX7_matchBy hd_X7_matchBy rfl ⟨rfl, rfl⟩ ⟨(Nat.le_of_ble_eq_true rfl), (Nat.le_of_ble_eq_true rfl)⟩ ⟨Nat.zero_le _, Nat.zero_le _⟩ rfl (Nat.le_of_ble_eq_true rfl) dX7_match_59) hS (fun H locs hP hS => ?_)
      refine lv_istore (lv' := [(6, .int z_8.1), (0, .ref (ta Θ 0)), (1, .int v1), (2, .int v2), (3, .int v3), (4, .int v4), (5, .int v5)]) hx hb dX7_match_62 hl (by decide) rfl (fun ls hl => ?_)
      refine lv_iload hx hb dX7_match_64 (lv_at hl 0 rfl) ?_
      refine lv_iload hx hb dX7_match_66 (lv_at hl 5 rfl) ?_
      refine lv_icmp_le (tgt := 76) hx hb dX7_match_68 (by decide) (fun c_10 => ?_) (fun c_10 => ?_)
      · have h := ite_t c_10 h
        refine lv_iload_n hx hb dX7_match_76 rfl (lv_at hl 4 rfl) ?_
        refine lv_istore_n (lv' := [(3, .int v3), (6, .int z_8.1), (0, .ref (ta Θ 0)), (1, .int v1), (2, .int v2), (4, .int v4), (5, .int v5)]) hx hb dX7_match_77 rfl hl (by decide) rfl (fun ls hl => ?_)
        refine lv_iload hx hb dX7_match_78 (lv_at hl 1 rfl) ?_
        refine lv_iload hx hb dX7_match_80 (lv_at hl 5 rfl) ?_
        refine lv_icmp_le (tgt := 90) hx hb dX7_match_82 (by decide) (fun c_11 => ?_) (fun c_11 => ?_)
        · have h := ite_t c_11 h
          refine lv_iload hx hb dX7_match_90 (lv_at hl 5 rfl) ?_
          refine lv_istore (lv' := [(4, .int v4), (3, .int v3), (6, .int z_8.1), (0, .ref (ta Θ 0)), (1, .int v1), (2, .int v2), (5, .int v5)]) hx hb dX7_match_92 hl (by decide) rfl (fun ls hl => ?_)
          refine lv_iinc (v := v5 + 1) (lv' := [(5, .int (v5 + 1)), (4, .int v4), (3, .int v3), (6, .int z_8.1), (0, .ref (ta Θ 0)), (1, .int v1), (2, .int v2)]) hx hb dX7_match_94 hl (k := 6) rfl rfl (by decide) rfl (fun ls hl => ?_)
          refine lv_goto (tgt := 50) hx hb dX7_match_97 (by decide) ?_
          exact ih v3 v4 (v5 + 1) z_8.2 h _ _ _ hP hS (lv_sub hl [4, 5, 6, 2, 1, 0] rfl)
        · have h := ite_f c_11 h
          refine lv_iload hx hb dX7_match_85 (lv_at hl 1 rfl) ?_
          refine lv_goto (tgt := 92) hx hb dX7_match_87 (by decide) ?_
          refine lv_istore (lv' := [(4, .int z_8.1), (3, .int v3), (6, .int z_8.1), (0, .ref (ta Θ 0)), (1, .int v1), (2, .int v2), (5, .int v5)]) hx hb dX7_match_92 hl (by decide) rfl (fun ls hl => ?_)
          refine lv_iinc (v := v5 + 1) (lv' := [(5, .int (v5 + 1)), (4, .int z_8.1), (3, .int v3), (6, .int z_8.1), (0, .ref (ta Θ 0)), (1, .int v1), (2, .int v2)]) hx hb dX7_match_94 hl (k := 6) rfl rfl (by decide) rfl (fun ls hl => ?_)
          refine lv_goto (tgt := 50) hx hb dX7_match_97 (by decide) ?_
          exact ih v3 z_8.1 (v5 + 1) z_8.2 h _ _ _ hP hS (lv_sub hl [4, 5, 6, 2, 1, 0] rfl)
      · have h := ite_f c_10 h
        refine lv_iload hx hb dX7_match_71 (lv_at hl 6 rfl) ?_
        refine lv_goto (tgt := 77) hx hb dX7_match_73 (by decide) ?_
        refine lv_istore_n (lv' := [(3, .int v5), (6, .int z_8.1), (0, .ref (ta Θ 0)), (1, .int v1), (2, .int v2), (4, .int v4), (5, .int v5)]) hx hb dX7_match_77 rfl hl (by decide) rfl (fun ls hl => ?_)
        refine lv_iload hx hb dX7_match_78 (lv_at hl 1 rfl) ?_
        refine lv_iload hx hb dX7_match_80 (lv_at hl 5 rfl) ?_
        refine lv_icmp_le (tgt := 90) hx hb dX7_match_82 (by decide) (fun c_12 => ?_) (fun c_12 => ?_)
        · have h := ite_t c_12 h
          refine lv_iload hx hb dX7_match_90 (lv_at hl 5 rfl) ?_
          refine lv_istore (lv' := [(4, .int v4), (3, .int v5), (6, .int z_8.1), (0, .ref (ta Θ 0)), (1, .int v1), (2, .int v2), (5, .int v5)]) hx hb dX7_match_92 hl (by decide) rfl (fun ls hl => ?_)
          refine lv_iinc (v := v5 + 1) (lv' := [(5, .int (v5 + 1)), (4, .int v4), (3, .int v5), (6, .int z_8.1), (0, .ref (ta Θ 0)), (1, .int v1), (2, .int v2)]) hx hb dX7_match_94 hl (k := 6) rfl rfl (by decide) rfl (fun ls hl => ?_)
          refine lv_goto (tgt := 50) hx hb dX7_match_97 (by decide) ?_
          exact ih v5 v4 (v5 + 1) z_8.2 h _ _ _ hP hS (lv_sub hl [4, 5, 6, 2, 1, 0] rfl)
        · have h := ite_f c_12 h
          refine lv_iload hx hb dX7_match_85 (lv_at hl 1 rfl) ?_
          refine lv_goto (tgt := 92) hx hb dX7_match_87 (by decide) ?_
          refine lv_istore (lv' := [(4, .int z_8.1), (3, .int v5), (6, .int z_8.1), (0, .ref (ta Θ 0)), (1, .int v1), (2, .int v2), (5, .int v5)]) hx hb dX7_match_92 hl (by decide) rfl (fun ls hl => ?_)
          refine lv_iinc (v := v5 + 1) (lv' := [(5, .int (v5 + 1)), (4, .int z_8.1), (3, .int v5), (6, .int z_8.1), (0, .ref (ta Θ 0)), (1, .int v1), (2, .int v2)]) hx hb dX7_match_94 hl (k := 6) rfl rfl (by decide) rfl (fun ls hl => ?_)
          refine lv_goto (tgt := 50) hx hb dX7_match_97 (by decide) ?_
          exact ih v5 z_8.1 (v5 + 1) z_8.2 h _ _ _ hP hS (lv_sub hl [4, 5, 6, 2, 1, 0] rfl)
theorem hd_X7_match : yX7_match.cls ≠ "java/lang/invoke/MethodHandle" ∧ yX7_match.cls ≠ "java/lang/invoke/VarHandle" ∧ (parseMethodDescriptor yX7_match.desc).map (fun d => d.parameters.length) = some 1 := by decide +kernel
set_option maxHeartbeats 4000000 in
set_option maxRecDepth 100000 in
theorem k_X7_match {F : Nat} {Θ : TH} {l : Launch} (O : okT Θ (eM Θ) 23) (v1 : Int32) (σ0 : Mem) {y : Int32 × Mem} (h : X7_match F v1 σ0 = some y) : Met l yX7_match (Cond.code yX7_match cX7_match 7 (some .int) :: wAll) rm_X7_match (va_Pc [.ref (ta Θ 0), .int v1] (tS Θ σ0)) (qI Θ y.1 y.2) 0 0 (tA Θ) := by
  refine x_ent (by decide) (Nat.le_of_ble_eq_true rfl) (fun p e s m below meth c X hr hlk hP ls hl => ?_)
  have hS : va_S (tA Θ) s.heap s.heap [] := va_S.rf
  have hl : lv_has ls 7 [(0, .ref (ta Θ 0)), (1, .int v1)] := hl
  have hx := X.1
  have hb := X.2.1
  unfold X7_match at h
  refine lv_iload_n hx hb dX7_match_0 rfl (lv_at hl 1 rfl) ?_
  refine lv_iconst (v := (-1)) hx hb dX7_match_1 (by decide) ?_
  refine lv_icmp_ge (tgt := 7) hx hb dX7_match_2 (by decide) (fun c_1 => ?_) (fun c_1 => ?_)
  · have h := ite_t c_1 h
    refine lv_aload_n hx hb dX7_match_7 rfl (lv_at hl 0 rfl) ?_
    refine g_X7_87 X O hP dX7_match_8 ?_
    refine lv_if_ne (tgt := 17) hx hb dX7_match_11 (by decide) (fun c_2 => ?_) (fun c_2 => ?_)
    · have h := ite_f c_2 h
      refine lv_iconst (v := 1) hx hb dX7_match_17 (by decide) ?_
      refine lv_istore_n (lv' := [(2, .int 1), (0, .ref (ta Θ 0)), (1, .int v1)]) hx hb dX7_match_18 rfl hl (by decide) rfl (fun ls hl => ?_)
      refine lv_iconst (v := 0) hx hb dX7_match_19 (by decide) ?_
      refine lv_istore_n (lv' := [(3, .int 0), (2, .int 1), (0, .ref (ta Θ 0)), (1, .int v1)]) hx hb dX7_match_20 rfl hl (by decide) rfl (fun ls hl => ?_)
      refine w_X7_match_L21 X O hr hlk v1 σ0 ?_ _ (1 : Int32) (0 : Int32) h _ _ _ hP hS (lv_sub hl [2, 3, 1, 0] rfl)
      · intro v2_6 h H locs ls hP hS hl
        refine lv_iconst (v := 0) hx hb dX7_match_42 (by decide) ?_
        refine lv_istore_n (lv' := [(3, .int 0), (0, .ref (ta Θ 0)), (1, .int v1), (2, .int v2_6)]) hx hb dX7_match_43 rfl hl (by decide) rfl (fun ls hl => ?_)
        refine lv_iconst (v := (-1)) hx hb dX7_match_44 (by decide) ?_
        refine lv_istore (lv' := [(4, .int ((-1))), (3, .int 0), (0, .ref (ta Θ 0)), (1, .int v1), (2, .int v2_6)]) hx hb dX7_match_45 hl (by decide) rfl (fun ls hl => ?_)
        refine lv_iconst (v := 0) hx hb dX7_match_47 (by decide) ?_
        refine lv_istore (lv' := [(5, .int 0), (4, .int ((-1))), (3, .int 0), (0, .ref (ta Θ 0)), (1, .int v1), (2, .int v2_6)]) hx hb dX7_match_48 hl (by decide) rfl (fun ls hl => ?_)
        refine w_X7_match_L50 X O hr hlk v1 v2_6 ?_ _ (0 : Int32) (-1 : Int32) (0 : Int32) σ0 h _ _ _ hP hS (lv_sub hl [3, 4, 5, 2, 1, 0] rfl)
        · intro v3_13 v4_14 σ_15 h H locs ls hP hS hl
          refine lv_aload_n hx hb dX7_match_100 rfl (lv_at hl 0 rfl) ?_
          refine lv_iload_n hx hb dX7_match_101 rfl (lv_at hl 2 rfl) ?_
          obtain ⟨z_16, e_17, h⟩ := ob_s h
          refine x_calli (x_runV X O hP hS hl.1 (As := [.int v3_13]) (rest := []) (k_X7_matchBy O v3_13 σ_15 e_17) lt_X7 (e_X7 _) rfl wM_X7_214 wI_yX7_matchBy wS_yX7_matchBy wN_X7 wC_yX7_matchBy hd_X7_matchBy rfl ⟨rfl, rfl⟩ ⟨(Nat.le_of_ble_eq_true rfl), (Nat.le_of_ble_eq_true rfl)⟩ ⟨Nat.zero_le _, Nat.zero_le _⟩ rfl (Nat.le_of_ble_eq_true rfl) dX7_match_102) hS (fun H locs hP hS => ?_)
          refine lv_pop hx hb dX7_match_105 rfl ?_
          refine lv_iload_n hx hb dX7_match_106 rfl (lv_at hl 1 rfl) ?_
          refine lv_if_ge (tgt := 115) hx hb dX7_match_107 (by decide) (fun c_18 => ?_) (fun c_18 => ?_)
          · have h := ite_t c_18 h
            refine lv_aload_n hx hb dX7_match_115 rfl (lv_at hl 0 rfl) ?_
            refine lv_iload_n hx hb dX7_match_116 rfl (lv_at hl 1 rfl) ?_
            refine x_calli (x_runV X O hP hS hl.1 (As := [.int v1]) (rest := []) (k_X7_noPerson O v1 z_16.2 rfl) lt_X7 (e_X7 _) rfl wM_X7_139 wI_yX7_noPerson wS_yX7_noPerson wN_X7 wC_yX7_noPerson hd_X7_noPerson rfl ⟨rfl, rfl⟩ ⟨(Nat.le_of_ble_eq_true rfl), (Nat.le_of_ble_eq_true rfl)⟩ ⟨Nat.zero_le _, Nat.zero_le _⟩ rfl (Nat.le_of_ble_eq_true rfl) dX7_match_117) hS (fun H locs hP hS => ?_)
            refine lv_if_eq (tgt := 128) hx hb dX7_match_120 (by decide) (fun c_19 => ?_) (fun c_19 => ?_)
            · have h := ite_t c_19 h
              refine lv_aload_n hx hb dX7_match_128 rfl (lv_at hl 0 rfl) ?_
              refine g_X7_52 X O hP dX7_match_129 ?_
              refine lv_iload_n hx hb dX7_match_132 rfl (lv_at hl 1 rfl) ?_
              obtain ⟨g_20, h⟩ := grd_s h
              refine x_iald X O hP mI_15 g_20 dX7_match_133 ?_
              have h := some_i h
              subst h
              exact x_reti X hP hS hr hlk rfl rfl dX7_match_134
            · have h := ite_f c_19 h
              refine lv_bipush (v := (-9)) hx hb dX7_match_123 (by decide) ?_
              refine lv_goto (tgt := 134) hx hb dX7_match_125 (by decide) ?_
              have h := some_i h
              subst h
              exact x_reti X hP hS hr hlk rfl rfl dX7_match_134
          · have h := ite_f c_18 h
            refine lv_iload hx hb dX7_match_110 (lv_at hl 3 rfl) ?_
            refine lv_goto (tgt := 134) hx hb dX7_match_112 (by decide) ?_
            have h := some_i h
            subst h
            exact x_reti X hP hS hr hlk rfl rfl dX7_match_134
    · have h := ite_t c_2 h
      refine lv_bipush (v := (-3)) hx hb dX7_match_14 (by decide) ?_
      have h := some_i h
      subst h
      exact x_reti X hP hS hr hlk rfl rfl dX7_match_16
  · have h := ite_f c_1 h
    refine lv_iconst (v := (-1)) hx hb dX7_match_5 (by decide) ?_
    have h := some_i h
    subst h
    exact x_reti X hP hS hr hlk rfl rfl dX7_match_6
abbrev rm_X7_help : Room := { frames := 2, cells := 0, slots := 0, locals := 46 }
set_option maxHeartbeats 4000000 in
set_option maxRecDepth 100000 in
theorem w_X7_help_L14 {F : Nat} {Θ : TH} {p : Program} {l : Launch} {e : Env} {s : State} {m : MethodId} {args : Array Value} {below : List Frame} {meth : Method} {c : Code} (X : CX Θ p s m args c RX7 cX7_help 5) (O : okT Θ (eM Θ) 23) (hr : meth.sig.returnType = some .int) (hlk : meth.locks = false) (v1 : Int32) (σ0 : Mem) {y : Int32} :
    ∀ (f : Nat) (v2 : Int32) (v3 : Int32), X7_help_L14 F v1 σ0 f v2 v3 = some y → ∀ (H : Heap) (locs : List Loc) (ls : Array Slot), va_P (tD Θ) vwCl (tw Θ σ0) H → va_S (tA Θ) s.heap H locs → lv_has ls 5 [(0, .ref (ta Θ 0)), (1, .int v1), (2, .int v2), (3, .int v3)] → W p l e rm_X7_help s m args below meth c H locs 0 0 (MQ below (qI Θ y σ0) args s 0 0 (tA Θ)) (F0 m 14 ls []) := by
  have hx := X.1
  have hb := X.2.1
  intro f
  induction f with
  | zero => intro v2 v3 h; cases h
  | succ f ih =>
    intro v2 v3 h H locs ls hP hS hl
    rw [X7_help_L14] at h
    refine lv_iload_n hx hb dX7_help_14 rfl (lv_at hl 3 rfl) ?_
    refine lv_aload_n hx hb dX7_help_15 rfl (lv_at hl 0 rfl) ?_
    refine g_X7_87 X O hP dX7_help_16 ?_
    refine lv_icmp_ge (tgt := 79) hx hb dX7_help_19 (by decide) (fun c_2 => ?_) (fun c_2 => ?_)
    · have h := ite_t c_2 h
      refine lv_iload_n hx hb dX7_help_79 rfl (lv_at hl 2 rfl) ?_
      have h := some_i h
      subst h
      exact x_reti X hP hS hr hlk rfl rfl dX7_help_80
    · have h := ite_f c_2 h
      refine lv_aload_n hx hb dX7_help_22 rfl (lv_at hl 0 rfl) ?_
      refine g_X7_16 X O hP dX7_help_23 ?_
      refine lv_iload_n hx hb dX7_help_26 rfl (lv_at hl 3 rfl) ?_
      obtain ⟨g_3, h⟩ := grd_s h
      refine x_iald X O hP mI_3 g_3 dX7_help_27 ?_
      obtain ⟨v4_4, e_5, h⟩ := bnd_s h
      refine lv_nam e_5 ?_
      refine lv_istore (lv' := [(4, .int v4_4), (0, .ref (ta Θ 0)), (1, .int v1), (2, .int v2), (3, .int v3)]) hx hb dX7_help_28 hl (by decide) rfl (fun ls hl => ?_)
      refine lv_iload_n hx hb dX7_help_30 rfl (lv_at hl 3 rfl) ?_
      refine lv_iload hx hb dX7_help_31 (lv_at hl 0 rfl) ?_
      refine lv_bipush (v := 6) hx hb dX7_help_33 (by decide) ?_
      refine lv_icmp_ge (tgt := 70) hx hb dX7_help_35 (by decide) (fun c_6 => ?_) (fun c_6 => ?_)
      · have h := ite_t c_6 h
        refine lv_iconst (v := 0) hx hb dX7_help_70 (by decide) ?_
        refine lv_iadd hx hb dX7_help_71 ?_
        obtain ⟨v2_7, e_8, h⟩ := bnd_s h
        refine lv_nam e_8 ?_
        refine lv_istore_n (lv' := [(2, .int v2_7), (4, .int v4_4), (0, .ref (ta Θ 0)), (1, .int v1), (3, .int v3)]) hx hb dX7_help_72 rfl hl (by decide) rfl (fun ls hl => ?_)
        refine lv_iinc (v := v3 + 1) (lv' := [(3, .int (v3 + 1)), (2, .int v2_7), (4, .int v4_4), (0, .ref (ta Θ 0)), (1, .int v1)]) hx hb dX7_help_73 hl (k := 4) rfl rfl (by decide) rfl (fun ls hl => ?_)
        refine lv_goto (tgt := 14) hx hb dX7_help_76 (by decide) ?_
        exact ih v2_7 (v3 + 1) h _ _ _ hP hS (lv_sub hl [3, 4, 1, 0] rfl)
      · have h := ite_f c_6 h
        refine lv_aload_n hx hb dX7_help_38 rfl (lv_at hl 1 rfl) ?_
        refine g_X7_13 X O hP dX7_help_39 ?_
        refine lv_iload_n hx hb dX7_help_42 rfl (lv_at hl 2 rfl) ?_
        obtain ⟨g_9, h⟩ := grd_s h
        refine x_iald X O hP mI_2 g_9 dX7_help_43 ?_
        refine lv_iload hx hb dX7_help_44 (lv_at hl 0 rfl) ?_
        refine x_calli (x_runS X hP hS hl.1 (As := [.int (σ0 2 v1.toNatClampNeg), .int v4_4]) (rest := [.int v2]) (k_X7_isIn O (σ0 2 v1.toNatClampNeg) v4_4 σ0 rfl) wM_X7_149 wT_yX7_isIn wN_X7 wC_yX7_isIn hd_X7_isIn rfl ⟨rfl, rfl⟩ ⟨(Nat.le_of_ble_eq_true rfl), (Nat.le_of_ble_eq_true rfl)⟩ ⟨Nat.zero_le _, Nat.zero_le _⟩ rfl (Nat.le_of_ble_eq_true rfl) dX7_help_46) hS (fun H locs hP hS => ?_)
        refine lv_if_eq (tgt := 70) hx hb dX7_help_49 (by decide) (fun c_10 => ?_) (fun c_10 => ?_)
        · have h := ite_t c_10 h
          refine lv_iconst (v := 0) hx hb dX7_help_70 (by decide) ?_
          refine lv_iadd hx hb dX7_help_71 ?_
          obtain ⟨v2_11, e_12, h⟩ := bnd_s h
          refine lv_nam e_12 ?_
          refine lv_istore_n (lv' := [(2, .int v2_11), (4, .int v4_4), (0, .ref (ta Θ 0)), (1, .int v1), (3, .int v3)]) hx hb dX7_help_72 rfl hl (by decide) rfl (fun ls hl => ?_)
          refine lv_iinc (v := v3 + 1) (lv' := [(3, .int (v3 + 1)), (2, .int v2_11), (4, .int v4_4), (0, .ref (ta Θ 0)), (1, .int v1)]) hx hb dX7_help_73 hl (k := 4) rfl rfl (by decide) rfl (fun ls hl => ?_)
          refine lv_goto (tgt := 14) hx hb dX7_help_76 (by decide) ?_
          exact ih v2_11 (v3 + 1) h _ _ _ hP hS (lv_sub hl [3, 4, 1, 0] rfl)
        · have h := ite_f c_10 h
          refine lv_aload_n hx hb dX7_help_52 rfl (lv_at hl 1 rfl) ?_
          refine g_X7_13 X O hP dX7_help_53 ?_
          refine lv_iload_n hx hb dX7_help_56 rfl (lv_at hl 4 rfl) ?_
          obtain ⟨g_13, h⟩ := grd_s h
          refine x_iald X O hP mI_2 g_13 dX7_help_57 ?_
          refine lv_iload hx hb dX7_help_58 (lv_at hl 0 rfl) ?_
          refine x_calli (x_runS X hP hS hl.1 (As := [.int (σ0 2 v3.toNatClampNeg), .int v4_4]) (rest := [.int v2]) (k_X7_isIn O (σ0 2 v3.toNatClampNeg) v4_4 σ0 rfl) wM_X7_149 wT_yX7_isIn wN_X7 wC_yX7_isIn hd_X7_isIn rfl ⟨rfl, rfl⟩ ⟨(Nat.le_of_ble_eq_true rfl), (Nat.le_of_ble_eq_true rfl)⟩ ⟨Nat.zero_le _, Nat.zero_le _⟩ rfl (Nat.le_of_ble_eq_true rfl) dX7_help_60) hS (fun H locs hP hS => ?_)
          refine lv_if_ne (tgt := 70) hx hb dX7_help_63 (by decide) (fun c_14 => ?_) (fun c_14 => ?_)
          · have h := ite_f c_14 h
            refine lv_iconst (v := 0) hx hb dX7_help_70 (by decide) ?_
            refine lv_iadd hx hb dX7_help_71 ?_
            obtain ⟨v2_15, e_16, h⟩ := bnd_s h
            refine lv_nam e_16 ?_
            refine lv_istore_n (lv' := [(2, .int v2_15), (4, .int v4_4), (0, .ref (ta Θ 0)), (1, .int v1), (3, .int v3)]) hx hb dX7_help_72 rfl hl (by decide) rfl (fun ls hl => ?_)
            refine lv_iinc (v := v3 + 1) (lv' := [(3, .int (v3 + 1)), (2, .int v2_15), (4, .int v4_4), (0, .ref (ta Θ 0)), (1, .int v1)]) hx hb dX7_help_73 hl (k := 4) rfl rfl (by decide) rfl (fun ls hl => ?_)
            refine lv_goto (tgt := 14) hx hb dX7_help_76 (by decide) ?_
            exact ih v2_15 (v3 + 1) h _ _ _ hP hS (lv_sub hl [3, 4, 1, 0] rfl)
          · have h := ite_t c_14 h
            refine lv_iconst (v := 1) hx hb dX7_help_66 (by decide) ?_
            refine lv_goto (tgt := 71) hx hb dX7_help_67 (by decide) ?_
            refine lv_iadd hx hb dX7_help_71 ?_
            obtain ⟨v2_17, e_18, h⟩ := bnd_s h
            refine lv_nam e_18 ?_
            refine lv_istore_n (lv' := [(2, .int v2_17), (4, .int v4_4), (0, .ref (ta Θ 0)), (1, .int v1), (3, .int v3)]) hx hb dX7_help_72 rfl hl (by decide) rfl (fun ls hl => ?_)
            refine lv_iinc (v := v3 + 1) (lv' := [(3, .int (v3 + 1)), (2, .int v2_17), (4, .int v4_4), (0, .ref (ta Θ 0)), (1, .int v1)]) hx hb dX7_help_73 hl (k := 4) rfl rfl (by decide) rfl (fun ls hl => ?_)
            refine lv_goto (tgt := 14) hx hb dX7_help_76 (by decide) ?_
            exact ih v2_17 (v3 + 1) h _ _ _ hP hS (lv_sub hl [3, 4, 1, 0] rfl)
theorem hd_X7_help : yX7_help.cls ≠ "java/lang/invoke/MethodHandle" ∧ yX7_help.cls ≠ "java/lang/invoke/VarHandle" ∧ (parseMethodDescriptor yX7_help.desc).map (fun d => d.parameters.length) = some 1 := by decide +kernel
set_option maxHeartbeats 4000000 in
set_option maxRecDepth 100000 in
theorem k_X7_help {F : Nat} {Θ : TH} {l : Launch} (O : okT Θ (eM Θ) 23) (v1 : Int32) (σ0 : Mem) {y : Int32} (h : X7_help F v1 σ0 = some y) : Met l yX7_help (Cond.code yX7_help cX7_help 5 (some .int) :: wAll) rm_X7_help (va_Pc [.ref (ta Θ 0), .int v1] (tS Θ σ0)) (qI Θ y σ0) 0 0 (tA Θ) := by
  refine x_ent (by decide) (Nat.le_of_ble_eq_true rfl) (fun p e s m below meth c X hr hlk hP ls hl => ?_)
  have hS : va_S (tA Θ) s.heap s.heap [] := va_S.rf
  have hl : lv_has ls 5 [(0, .ref (ta Θ 0)), (1, .int v1)] := hl
  have hx := X.1
  have hb := X.2.1
  unfold X7_help at h
  refine lv_aload_n hx hb dX7_help_0 rfl (lv_at hl 0 rfl) ?_
  refine lv_iload_n hx hb dX7_help_1 rfl (lv_at hl 1 rfl) ?_
  refine x_calli (x_runV X O hP hS hl.1 (As := [.int v1]) (rest := []) (k_X7_noPerson O v1 σ0 rfl) lt_X7 (e_X7 _) rfl wM_X7_139 wI_yX7_noPerson wS_yX7_noPerson wN_X7 wC_yX7_noPerson hd_X7_noPerson rfl ⟨rfl, rfl⟩ ⟨(Nat.le_of_ble_eq_true rfl), (Nat.le_of_ble_eq_true rfl)⟩ ⟨Nat.zero_le _, Nat.zero_le _⟩ rfl (Nat.le_of_ble_eq_true rfl) dX7_help_2) hS (fun H locs hP hS => ?_)
  refine lv_if_eq (tgt := 10) hx hb dX7_help_5 (by decide) (fun c_1 => ?_) (fun c_1 => ?_)
  · have h := ite_t c_1 h
    refine lv_iconst (v := 0) hx hb dX7_help_10 (by decide) ?_
    refine lv_istore_n (lv' := [(2, .int 0), (0, .ref (ta Θ 0)), (1, .int v1)]) hx hb dX7_help_11 rfl hl (by decide) rfl (fun ls hl => ?_)
    refine lv_iconst (v := 0) hx hb dX7_help_12 (by decide) ?_
    refine lv_istore_n (lv' := [(3, .int 0), (2, .int 0), (0, .ref (ta Θ 0)), (1, .int v1)]) hx hb dX7_help_13 rfl hl (by decide) rfl (fun ls hl => ?_)
    refine w_X7_help_L14 X O hr hlk v1 σ0  _ (0 : Int32) (0 : Int32) h _ _ _ hP hS (lv_sub hl [2, 3, 1, 0] rfl)
  · have h := ite_f c_1 h
    refine lv_iconst (v := (-1)) hx hb dX7_help_8 (by decide) ?_
    have h := some_i h
    subst h
    exact x_reti X hP hS hr hlk rfl rfl dX7_help_9
abbrev rm_X7_reading : Room := { frames := 2, cells := 0, slots := 0, locals := 46 }
theorem hd_X7_reading : yX7_reading.cls ≠ "java/lang/invoke/MethodHandle" ∧ yX7_reading.cls ≠ "java/lang/invoke/VarHandle" ∧ (parseMethodDescriptor yX7_reading.desc).map (fun d => d.parameters.length) = some 3 := by decide +kernel
set_option maxHeartbeats 4000000 in
set_option maxRecDepth 100000 in
theorem k_X7_reading {Θ : TH} {l : Launch} (O : okT Θ (eM Θ) 23) (v1 : Int32) (v2 : Int32) (v3 : Int32) (σ0 : Mem) {y : Int32 × Mem} (h : X7_reading v1 v2 v3 σ0 = some y) : Met l yX7_reading (Cond.code yX7_reading cX7_reading 4 (some .int) :: wAll) rm_X7_reading (va_Pc [.ref (ta Θ 0), .int v1, .int v2, .int v3] (tS Θ σ0)) (qI Θ y.1 y.2) 0 0 (tA Θ) := by
  refine x_ent (by decide) (Nat.le_of_ble_eq_true rfl) (fun p e s m below meth c X hr hlk hP ls hl => ?_)
  have hS : va_S (tA Θ) s.heap s.heap [] := va_S.rf
  have hl : lv_has ls 4 [(0, .ref (ta Θ 0)), (1, .int v1), (2, .int v2), (3, .int v3)] := hl
  have hx := X.1
  have hb := X.2.1
  unfold X7_reading at h
  refine lv_aload_n hx hb dX7_reading_0 rfl (lv_at hl 0 rfl) ?_
  refine lv_iload_n hx hb dX7_reading_1 rfl (lv_at hl 1 rfl) ?_
  refine x_calli (x_runV X O hP hS hl.1 (As := [.int v1]) (rest := []) (k_X7_noPerson O v1 σ0 rfl) lt_X7 (e_X7 _) rfl wM_X7_139 wI_yX7_noPerson wS_yX7_noPerson wN_X7 wC_yX7_noPerson hd_X7_noPerson rfl ⟨rfl, rfl⟩ ⟨(Nat.le_of_ble_eq_true rfl), (Nat.le_of_ble_eq_true rfl)⟩ ⟨Nat.zero_le _, Nat.zero_le _⟩ rfl (Nat.le_of_ble_eq_true rfl) dX7_reading_2) hS (fun H locs hP hS => ?_)
  refine lv_if_ne (tgt := 20) hx hb dX7_reading_5 (by decide) (fun c_1 => ?_) (fun c_1 => ?_)
  · have h := ite_f c_1 h
    refine lv_iconst (v := (-1)) hx hb dX7_reading_20 (by decide) ?_
    have h := some_i h
    subst h
    exact x_reti X hP hS hr hlk rfl rfl dX7_reading_21
  · have h := ite_t c_1 h
    refine lv_iload_n hx hb dX7_reading_8 rfl (lv_at hl 2 rfl) ?_
    refine lv_i2l (v := v2.toInt64) hx hb dX7_reading_9 rfl ?_
    refine lv_lconst (v := 0) hx hb dX7_reading_10 (by decide) ?_
    refine lv_ldc2 (v := 5) hx hb X.2.2.2.1 (X.2.2.2.2.1 _ wL_X7_217) dX7_reading_11 ?_
    refine x_calli (x_runS X hP hS hl.1 (As := [.long v2.toInt64, .long 0, .long 5]) (rest := []) (k_X7_in O v2.toInt64 (0 : Int64) (5 : Int64) σ0 rfl) wM_X7_90 wT_yX7_in wN_X7 wC_yX7_in hd_X7_in rfl ⟨rfl, rfl⟩ ⟨(Nat.le_of_ble_eq_true rfl), (Nat.le_of_ble_eq_true rfl)⟩ ⟨Nat.zero_le _, Nat.zero_le _⟩ rfl (Nat.le_of_ble_eq_true rfl) dX7_reading_14) hS (fun H locs hP hS => ?_)
    refine lv_if_ne (tgt := 22) hx hb dX7_reading_17 (by decide) (fun c_2 => ?_) (fun c_2 => ?_)
    · have h := ite_f c_2 h
      refine lv_aload_n hx hb dX7_reading_22 rfl (lv_at hl 0 rfl) ?_
      refine g_X7_136 X O hP dX7_reading_23 ?_
      refine lv_bipush (v := 8) hx hb dX7_reading_26 (by decide) ?_
      refine lv_icmp_ne (tgt := 34) hx hb dX7_reading_28 (by decide) (fun c_3 => ?_) (fun c_3 => ?_)
      · have h := ite_f c_3 h
        refine lv_aload_n hx hb dX7_reading_34 rfl (lv_at hl 0 rfl) ?_
        refine g_X7_55 X O hP dX7_reading_35 ?_
        refine lv_aload_n hx hb dX7_reading_38 rfl (lv_at hl 0 rfl) ?_
        refine g_X7_136 X O hP dX7_reading_39 ?_
        refine lv_iload_n hx hb dX7_reading_42 rfl (lv_at hl 1 rfl) ?_
        obtain ⟨g_4, h⟩ := grd_s h
        obtain ⟨σ_5, e_6, h⟩ := bnd_s h
        refine x_iast X O hP hS mI_16 g_4 dX7_reading_43 e_6 (fun H locs hP hS => ?_)
        refine lv_aload_n hx hb dX7_reading_44 rfl (lv_at hl 0 rfl) ?_
        refine g_X7_58 X O hP dX7_reading_45 ?_
        refine lv_aload_n hx hb dX7_reading_48 rfl (lv_at hl 0 rfl) ?_
        refine g_X7_136 X O hP dX7_reading_49 ?_
        refine lv_iload_n hx hb dX7_reading_52 rfl (lv_at hl 2 rfl) ?_
        obtain ⟨g_7, h⟩ := grd_s h
        obtain ⟨σ_8, e_9, h⟩ := bnd_s h
        refine x_iast X O hP hS mI_17 g_7 dX7_reading_53 e_9 (fun H locs hP hS => ?_)
        refine lv_aload_n hx hb dX7_reading_54 rfl (lv_at hl 0 rfl) ?_
        refine g_X7_61 X O hP dX7_reading_55 ?_
        refine lv_aload_n hx hb dX7_reading_58 rfl (lv_at hl 0 rfl) ?_
        refine g_X7_136 X O hP dX7_reading_59 ?_
        refine lv_iload_n hx hb dX7_reading_62 rfl (lv_at hl 3 rfl) ?_
        obtain ⟨g_10, h⟩ := grd_s h
        obtain ⟨σ_11, e_12, h⟩ := bnd_s h
        refine x_zast X O hP hS mZ_18 g_10 dX7_reading_63 e_12 (fun H locs hP hS => ?_)
        refine lv_aload_n hx hb dX7_reading_64 rfl (lv_at hl 0 rfl) ?_
        refine lv_dup hx hb dX7_reading_65 rfl ?_
        refine g_X7_136 X O hP dX7_reading_66 ?_
        refine lv_iconst (v := 1) hx hb dX7_reading_69 (by decide) ?_
        refine lv_iadd hx hb dX7_reading_70 ?_
        obtain ⟨σ_13, e_14, h⟩ := bnd_s h
        refine p_X7_136 X O hP hS dX7_reading_71 e_14 (fun H locs hP hS => ?_)
        refine lv_aload_n hx hb dX7_reading_74 rfl (lv_at hl 0 rfl) ?_
        refine g_X7_136 X O hP dX7_reading_75 ?_
        refine lv_iconst (v := 1) hx hb dX7_reading_78 (by decide) ?_
        refine lv_isub hx hb dX7_reading_79 ?_
        have h := some_i h
        subst h
        exact x_reti X hP hS hr hlk rfl rfl dX7_reading_80
      · have h := ite_t c_3 h
        refine lv_bipush (v := (-4)) hx hb dX7_reading_31 (by decide) ?_
        have h := some_i h
        subst h
        exact x_reti X hP hS hr hlk rfl rfl dX7_reading_33
    · have h := ite_t c_2 h
      refine lv_iconst (v := (-1)) hx hb dX7_reading_20 (by decide) ?_
      have h := some_i h
      subst h
      exact x_reti X hP hS hr hlk rfl rfl dX7_reading_21
abbrev rm_X7_back : Room := { frames := 1, cells := 0, slots := 0, locals := 25 }
theorem hd_X7_back : yX7_back.cls ≠ "java/lang/invoke/MethodHandle" ∧ yX7_back.cls ≠ "java/lang/invoke/VarHandle" ∧ (parseMethodDescriptor yX7_back.desc).map (fun d => d.parameters.length) = some 1 := by decide +kernel
set_option maxHeartbeats 4000000 in
set_option maxRecDepth 100000 in
theorem k_X7_back {Θ : TH} {l : Launch} (O : okT Θ (eM Θ) 23) (v1 : Int32) (σ0 : Mem) {y : Int32 × Mem} (h : X7_back v1 σ0 = y) : Met l yX7_back (Cond.code yX7_back cX7_back 2 (some .int) :: wAll) rm_X7_back (va_Pc [.ref (ta Θ 0), .int v1] (tS Θ σ0)) (qI Θ y.1 y.2) 0 0 (tA Θ) := by
  refine x_ent (by decide) (Nat.le_of_ble_eq_true rfl) (fun p e s m below meth c X hr hlk hP ls hl => ?_)
  have hS : va_S (tA Θ) s.heap s.heap [] := va_S.rf
  have hl : lv_has ls 2 [(0, .ref (ta Θ 0)), (1, .int v1)] := hl
  have hx := X.1
  have hb := X.2.1
  unfold X7_back at h
  refine lv_iload_n hx hb dX7_back_0 rfl (lv_at hl 1 rfl) ?_
  refine lv_i2l (v := v1.toInt64) hx hb dX7_back_1 rfl ?_
  refine lv_lconst (v := 0) hx hb dX7_back_2 (by decide) ?_
  refine lv_aload_n hx hb dX7_back_3 rfl (lv_at hl 0 rfl) ?_
  refine g_X7_136 X O hP dX7_back_4 ?_
  refine lv_i2l (v := (σ0 0 21).toInt64) hx hb dX7_back_7 rfl ?_
  refine x_calli (x_runS X hP hS hl.1 (As := [.long v1.toInt64, .long 0, .long ((σ0 0 21).toInt64)]) (rest := []) (k_X7_in O v1.toInt64 (0 : Int64) ((σ0 0 21).toInt64) σ0 rfl) wM_X7_90 wT_yX7_in wN_X7 wC_yX7_in hd_X7_in rfl ⟨rfl, rfl⟩ ⟨(Nat.le_of_ble_eq_true rfl), (Nat.le_of_ble_eq_true rfl)⟩ ⟨Nat.zero_le _, Nat.zero_le _⟩ rfl (Nat.le_of_ble_eq_true rfl) dX7_back_8) hS (fun H locs hP hS => ?_)
  refine lv_if_ne (tgt := 17) hx hb dX7_back_11 (by decide) (fun c_1 => ?_) (fun c_1 => ?_)
  · have h := ite_f c_1 h
    refine lv_aload_n hx hb dX7_back_17 rfl (lv_at hl 0 rfl) ?_
    refine lv_dup hx hb dX7_back_18 rfl ?_
    refine g_X7_136 X O hP dX7_back_19 ?_
    refine lv_iload_n hx hb dX7_back_22 rfl (lv_at hl 1 rfl) ?_
    refine lv_isub hx hb dX7_back_23 ?_
    obtain ⟨σ_2, e_3, h⟩ := bnd_s h
    refine p_X7_136 X O hP hS dX7_back_24 e_3 (fun H locs hP hS => ?_)
    refine lv_aload_n hx hb dX7_back_27 rfl (lv_at hl 0 rfl) ?_
    refine g_X7_136 X O hP dX7_back_28 ?_
    subst h
    exact x_reti X hP hS hr hlk rfl rfl dX7_back_31
  · have h := ite_t c_1 h
    refine lv_bipush (v := (-2)) hx hb dX7_back_14 (by decide) ?_
    subst h
    exact x_reti X hP hS hr hlk rfl rfl dX7_back_16
abbrev rm_X7_areSo : Room := { frames := 4, cells := 0, slots := 0, locals := 92 }
set_option maxHeartbeats 4000000 in
set_option maxRecDepth 100000 in
theorem w_X7_areSo_L22 {F : Nat} {Θ : TH} {p : Program} {l : Launch} {e : Env} {s : State} {m : MethodId} {args : Array Value} {below : List Frame} {meth : Method} {c : Code} (X : CX Θ p s m args c RX7 cX7_areSo 5) (O : okT Θ (eM Θ) 23) (hr : meth.sig.returnType = some .boolean) (hlk : meth.locks = false) (σ0 : Mem) {y : Int32 × Mem} :
    ∀ (f : Nat) (v3 : Int32) (v4 : Int32), X7_areSo_L22 F σ0 f v3 v4 = some y → ∀ (H : Heap) (locs : List Loc) (ls : Array Slot), va_P (tD Θ) vwCl (tw Θ σ0) H → va_S (tA Θ) s.heap H locs → lv_has ls 5 [(0, .ref (ta Θ 0)), (3, .int v3), (4, .int v4)] → W p l e rm_X7_areSo s m args below meth c H locs 0 0 (MQ below (qI Θ y.1 y.2) args s 0 0 (tA Θ)) (F0 m 22 ls []) := by
  have hx := X.1
  have hb := X.2.1
  intro f
  induction f with
  | zero => intro v3 v4 h; cases h
  | succ f ih =>
    intro v3 v4 h H locs ls hP hS hl
    rw [X7_areSo_L22] at h
    refine lv_iload hx hb dX7_areSo_22 (lv_at hl 2 rfl) ?_
    refine lv_aload_n hx hb dX7_areSo_24 rfl (lv_at hl 0 rfl) ?_
    refine g_X7_136 X O hP dX7_areSo_25 ?_
    refine lv_icmp_ge (tgt := 79) hx hb dX7_areSo_28 (by decide) (fun c_4 => ?_) (fun c_4 => ?_)
    · have h := ite_t c_4 h
      refine lv_iload_n hx hb dX7_areSo_79 rfl (lv_at hl 1 rfl) ?_
      obtain ⟨g_5, h⟩ := grd_s h
      have h := some_i h
      subst h
      exact x_retz X hP hS hr hlk (isB_s g_5) rfl rfl dX7_areSo_80
    · have h := ite_f c_4 h
      refine lv_iload_n hx hb dX7_areSo_31 rfl (lv_at hl 1 rfl) ?_
      refine lv_if_eq (tgt := 71) hx hb dX7_areSo_32 (by decide) (fun c_6 => ?_) (fun c_6 => ?_)
      · have h := ite_t c_6 h
        refine lv_iconst (v := 0) hx hb dX7_areSo_71 (by decide) ?_
        refine lv_istore_n (lv' := [(3, .int 0), (0, .ref (ta Θ 0)), (4, .int v4)]) hx hb dX7_areSo_72 rfl hl (by decide) rfl (fun ls hl => ?_)
        refine lv_iinc (v := v4 + 1) (lv' := [(4, .int (v4 + 1)), (3, .int 0), (0, .ref (ta Θ 0))]) hx hb dX7_areSo_73 hl (k := 2) rfl rfl (by decide) rfl (fun ls hl => ?_)
        refine lv_goto (tgt := 22) hx hb dX7_areSo_76 (by decide) ?_
        exact ih (0 : Int32) (v4 + 1) h _ _ _ hP hS (lv_sub hl [2, 1, 0] rfl)
      · have h := ite_f c_6 h
        refine lv_aload_n hx hb dX7_areSo_35 rfl (lv_at hl 0 rfl) ?_
        refine g_X7_43 X O hP dX7_areSo_36 ?_
        refine lv_aload_n hx hb dX7_areSo_39 rfl (lv_at hl 0 rfl) ?_
        refine g_X7_55 X O hP dX7_areSo_40 ?_
        refine lv_iload hx hb dX7_areSo_43 (lv_at hl 2 rfl) ?_
        obtain ⟨g_7, h⟩ := grd_s h
        refine x_iald X O hP mI_16 g_7 dX7_areSo_45 ?_
        obtain ⟨g_8, h⟩ := grd_s h
        refine x_iald X O hP mI_12 g_8 dX7_areSo_46 ?_
        refine lv_aload_n hx hb dX7_areSo_47 rfl (lv_at hl 0 rfl) ?_
        refine g_X7_58 X O hP dX7_areSo_48 ?_
        refine lv_iload hx hb dX7_areSo_51 (lv_at hl 2 rfl) ?_
        obtain ⟨g_9, h⟩ := grd_s h
        refine x_iald X O hP mI_17 g_9 dX7_areSo_53 ?_
        refine x_calli (x_runS X hP hS hl.1 (As := [.int (σ0 12 (σ0 16 v4.toNatClampNeg).toNatClampNeg), .int (σ0 17 v4.toNatClampNeg)]) (rest := []) (k_X7_isIn O (σ0 12 (σ0 16 v4.toNatClampNeg).toNatClampNeg) (σ0 17 v4.toNatClampNeg) σ0 rfl) wM_X7_149 wT_yX7_isIn wN_X7 wC_yX7_isIn hd_X7_isIn rfl ⟨rfl, rfl⟩ ⟨(Nat.le_of_ble_eq_true rfl), (Nat.le_of_ble_eq_true rfl)⟩ ⟨Nat.zero_le _, Nat.zero_le _⟩ rfl (Nat.le_of_ble_eq_true rfl) dX7_areSo_54) hS (fun H locs hP hS => ?_)
        refine lv_aload_n hx hb dX7_areSo_57 rfl (lv_at hl 0 rfl) ?_
        refine g_X7_61 X O hP dX7_areSo_58 ?_
        refine lv_iload hx hb dX7_areSo_61 (lv_at hl 2 rfl) ?_
        obtain ⟨g_10, h⟩ := grd_s h
        refine x_zald X O hP mZ_18 g_10 dX7_areSo_63 ?_
        refine lv_icmp_ne (tgt := 71) hx hb dX7_areSo_64 (by decide) (fun c_11 => ?_) (fun c_11 => ?_)
        · have h := ite_f c_11 h
          refine lv_iconst (v := 0) hx hb dX7_areSo_71 (by decide) ?_
          refine lv_istore_n (lv' := [(3, .int 0), (0, .ref (ta Θ 0)), (4, .int v4)]) hx hb dX7_areSo_72 rfl hl (by decide) rfl (fun ls hl => ?_)
          refine lv_iinc (v := v4 + 1) (lv' := [(4, .int (v4 + 1)), (3, .int 0), (0, .ref (ta Θ 0))]) hx hb dX7_areSo_73 hl (k := 2) rfl rfl (by decide) rfl (fun ls hl => ?_)
          refine lv_goto (tgt := 22) hx hb dX7_areSo_76 (by decide) ?_
          exact ih (0 : Int32) (v4 + 1) h _ _ _ hP hS (lv_sub hl [2, 1, 0] rfl)
        · have h := ite_t c_11 h
          refine lv_iconst (v := 1) hx hb dX7_areSo_67 (by decide) ?_
          refine lv_goto (tgt := 72) hx hb dX7_areSo_68 (by decide) ?_
          refine lv_istore_n (lv' := [(3, .int 1), (0, .ref (ta Θ 0)), (4, .int v4)]) hx hb dX7_areSo_72 rfl hl (by decide) rfl (fun ls hl => ?_)
          refine lv_iinc (v := v4 + 1) (lv' := [(4, .int (v4 + 1)), (3, .int 1), (0, .ref (ta Θ 0))]) hx hb dX7_areSo_73 hl (k := 2) rfl rfl (by decide) rfl (fun ls hl => ?_)
          refine lv_goto (tgt := 22) hx hb dX7_areSo_76 (by decide) ?_
          exact ih (1 : Int32) (v4 + 1) h _ _ _ hP hS (lv_sub hl [2, 1, 0] rfl)
theorem hd_X7_areSo : yX7_areSo.cls ≠ "java/lang/invoke/MethodHandle" ∧ yX7_areSo.cls ≠ "java/lang/invoke/VarHandle" ∧ (parseMethodDescriptor yX7_areSo.desc).map (fun d => d.parameters.length) = some 2 := by decide +kernel
set_option maxHeartbeats 4000000 in
set_option maxRecDepth 100000 in
theorem k_X7_areSo {F : Nat} {Θ : TH} {l : Launch} (O : okT Θ (eM Θ) 23) (v1 : Int32) (v2 : Int32) (σ0 : Mem) {y : Int32 × Mem} (h : X7_areSo F v1 v2 σ0 = some y) : Met l yX7_areSo (Cond.code yX7_areSo cX7_areSo 5 (some .boolean) :: wAll) rm_X7_areSo (va_Pc [.ref (ta Θ 0), .int v1, .int v2] (tS Θ σ0)) (qI Θ y.1 y.2) 0 0 (tA Θ) := by
  refine x_ent (by decide) (Nat.le_of_ble_eq_true rfl) (fun p e s m below meth c X hr hlk hP ls hl => ?_)
  have hS : va_S (tA Θ) s.heap s.heap [] := va_S.rf
  have hl : lv_has ls 5 [(0, .ref (ta Θ 0)), (1, .int v1), (2, .int v2)] := hl
  have hx := X.1
  have hb := X.2.1
  unfold X7_areSo at h
  refine lv_aload_n hx hb dX7_areSo_0 rfl (lv_at hl 0 rfl) ?_
  refine lv_iload_n hx hb dX7_areSo_1 rfl (lv_at hl 1 rfl) ?_
  refine lv_iload_n hx hb dX7_areSo_2 rfl (lv_at hl 2 rfl) ?_
  obtain ⟨σ_1, e_2, h⟩ := ob_s h
  refine x_callv (x_runV X O hP hS hl.1 (As := [.int v1, .int v2]) (rest := []) (k_X7_goLoans O v1 v2 σ0 e_2) lt_X7 (e_X7 _) rfl wM_X7_202 wI_yX7_goLoans wS_yX7_goLoans wN_X7 wC_yX7_goLoans hd_X7_goLoans rfl ⟨rfl, rfl⟩ ⟨(Nat.le_of_ble_eq_true rfl), (Nat.le_of_ble_eq_true rfl)⟩ ⟨Nat.zero_le _, Nat.zero_le _⟩ rfl (Nat.le_of_ble_eq_true rfl) dX7_areSo_3) hS (fun H locs hP hS => ?_)
  refine lv_aload_n hx hb dX7_areSo_6 rfl (lv_at hl 0 rfl) ?_
  refine g_X7_159 X O hP dX7_areSo_7 ?_
  refine lv_if_ge (tgt := 17) hx hb dX7_areSo_10 (by decide) (fun c_3 => ?_) (fun c_3 => ?_)
  · have h := ite_t c_3 h
    refine lv_iconst (v := 0) hx hb dX7_areSo_17 (by decide) ?_
    refine lv_istore_n (lv' := [(3, .int 0), (0, .ref (ta Θ 0)), (1, .int v1), (2, .int v2)]) hx hb dX7_areSo_18 rfl hl (by decide) rfl (fun ls hl => ?_)
    refine lv_iconst (v := 0) hx hb dX7_areSo_19 (by decide) ?_
    refine lv_istore (lv' := [(4, .int 0), (3, .int 0), (0, .ref (ta Θ 0)), (1, .int v1), (2, .int v2)]) hx hb dX7_areSo_20 hl (by decide) rfl (fun ls hl => ?_)
    refine w_X7_areSo_L22 X O hr hlk σ_1  _ (0 : Int32) (0 : Int32) h _ _ _ hP hS (lv_sub hl [2, 1, 0] rfl)
  · have h := ite_f c_3 h
    refine lv_iconst (v := 1) hx hb dX7_areSo_13 (by decide) ?_
    refine lv_goto (tgt := 18) hx hb dX7_areSo_14 (by decide) ?_
    refine lv_istore_n (lv' := [(3, .int 1), (0, .ref (ta Θ 0)), (1, .int v1), (2, .int v2)]) hx hb dX7_areSo_18 rfl hl (by decide) rfl (fun ls hl => ?_)
    refine lv_iconst (v := 0) hx hb dX7_areSo_19 (by decide) ?_
    refine lv_istore (lv' := [(4, .int 0), (3, .int 1), (0, .ref (ta Θ 0)), (1, .int v1), (2, .int v2)]) hx hb dX7_areSo_20 hl (by decide) rfl (fun ls hl => ?_)
    refine w_X7_areSo_L22 X O hr hlk σ_1  _ (1 : Int32) (0 : Int32) h _ _ _ hP hS (lv_sub hl [2, 1, 0] rfl)
abbrev rm_X7_seenBarred : Room := { frames := 3, cells := 0, slots := 0, locals := 74 }
theorem hd_X7_seenBarred : yX7_seenBarred.cls ≠ "java/lang/invoke/MethodHandle" ∧ yX7_seenBarred.cls ≠ "java/lang/invoke/VarHandle" ∧ (parseMethodDescriptor yX7_seenBarred.desc).map (fun d => d.parameters.length) = some 6 := by decide +kernel
set_option maxHeartbeats 4000000 in
set_option maxRecDepth 100000 in
theorem k_X7_seenBarred {F : Nat} {Θ : TH} {l : Launch} (O : okT Θ (eM Θ) 23) (v1 : Int32) (v2 : Int32) (v3 : Int32) (v4 : Int32) (v5 : Int32) (v6 : Int32) (σ0 : Mem) {y : Int32 × Mem} (h : X7_seenBarred F v1 v2 v3 v4 v5 v6 σ0 = some y) : Met l yX7_seenBarred (Cond.code yX7_seenBarred cX7_seenBarred 7 (some .int) :: wAll) rm_X7_seenBarred (va_Pc [.ref (ta Θ 0), .int v1, .int v2, .int v3, .int v4, .int v5, .int v6] (tS Θ σ0)) (qI Θ y.1 y.2) 0 0 (tA Θ) := by
  refine x_ent (by decide) (Nat.le_of_ble_eq_true rfl) (fun p e s m below meth c X hr hlk hP ls hl => ?_)
  have hS : va_S (tA Θ) s.heap s.heap [] := va_S.rf
  have hl : lv_has ls 7 [(0, .ref (ta Θ 0)), (1, .int v1), (2, .int v2), (3, .int v3), (4, .int v4), (5, .int v5), (6, .int v6)] := hl
  have hx := X.1
  have hb := X.2.1
  unfold X7_seenBarred at h
  refine lv_aload_n hx hb dX7_seenBarred_0 rfl (lv_at hl 0 rfl) ?_
  refine lv_iload_n hx hb dX7_seenBarred_1 rfl (lv_at hl 1 rfl) ?_
  refine x_calli (x_runV X O hP hS hl.1 (As := [.int v1]) (rest := []) (k_X7_noPerson O v1 σ0 rfl) lt_X7 (e_X7 _) rfl wM_X7_139 wI_yX7_noPerson wS_yX7_noPerson wN_X7 wC_yX7_noPerson hd_X7_noPerson rfl ⟨rfl, rfl⟩ ⟨(Nat.le_of_ble_eq_true rfl), (Nat.le_of_ble_eq_true rfl)⟩ ⟨Nat.zero_le _, Nat.zero_le _⟩ rfl (Nat.le_of_ble_eq_true rfl) dX7_seenBarred_2) hS (fun H locs hP hS => ?_)
  refine lv_if_ne (tgt := 15) hx hb dX7_seenBarred_5 (by decide) (fun c_1 => ?_) (fun c_1 => ?_)
  · have h := ite_f c_1 h
    refine lv_aload_n hx hb dX7_seenBarred_15 rfl (lv_at hl 0 rfl) ?_
    refine lv_iconst (v := (-1)) hx hb dX7_seenBarred_16 (by decide) ?_
    obtain ⟨z_2, e_3, h⟩ := bnd_s h
    refine x_calli (x_runV X O hP hS hl.1 (As := [.int ((-1))]) (rest := []) (k_X7_refused O (-1 : Int32) σ0 e_3.symm) lt_X7 (e_X7 _) rfl wM_X7_124 wI_yX7_refused wS_yX7_refused wN_X7 wC_yX7_refused hd_X7_refused rfl ⟨rfl, rfl⟩ ⟨(Nat.le_of_ble_eq_true rfl), (Nat.le_of_ble_eq_true rfl)⟩ ⟨Nat.zero_le _, Nat.zero_le _⟩ rfl (Nat.le_of_ble_eq_true rfl) dX7_seenBarred_17) hS (fun H locs hP hS => ?_)
    have h := some_i h
    subst h
    exact x_reti X hP hS hr hlk rfl rfl dX7_seenBarred_20
  · have h := ite_t c_1 h
    refine lv_iload_n hx hb dX7_seenBarred_8 rfl (lv_at hl 2 rfl) ?_
    refine x_calli (x_runS X hP hS hl.1 (As := [.int v2]) (rest := []) (k_X7_noSheet O v2 σ0 rfl) wM_X7_120 wT_yX7_noSheet wN_X7 wC_yX7_noSheet hd_X7_noSheet rfl ⟨rfl, rfl⟩ ⟨(Nat.le_of_ble_eq_true rfl), (Nat.le_of_ble_eq_true rfl)⟩ ⟨Nat.zero_le _, Nat.zero_le _⟩ rfl (Nat.le_of_ble_eq_true rfl) dX7_seenBarred_9) hS (fun H locs hP hS => ?_)
    refine lv_if_eq (tgt := 21) hx hb dX7_seenBarred_12 (by decide) (fun c_4 => ?_) (fun c_4 => ?_)
    · have h := ite_t c_4 h
      refine lv_iload_n hx hb dX7_seenBarred_21 rfl (lv_at hl 3 rfl) ?_
      refine lv_i2l (v := v3.toInt64) hx hb dX7_seenBarred_22 rfl ?_
      refine lv_lconst (v := 0) hx hb dX7_seenBarred_23 (by decide) ?_
      refine lv_ldc2 (v := 2) hx hb X.2.2.2.1 (X.2.2.2.2.1 _ wL_X7_127) dX7_seenBarred_24 ?_
      refine x_calli (x_runS X hP hS hl.1 (As := [.long v3.toInt64, .long 0, .long 2]) (rest := []) (k_X7_in O v3.toInt64 (0 : Int64) (2 : Int64) σ0 rfl) wM_X7_90 wT_yX7_in wN_X7 wC_yX7_in hd_X7_in rfl ⟨rfl, rfl⟩ ⟨(Nat.le_of_ble_eq_true rfl), (Nat.le_of_ble_eq_true rfl)⟩ ⟨Nat.zero_le _, Nat.zero_le _⟩ rfl (Nat.le_of_ble_eq_true rfl) dX7_seenBarred_27) hS (fun H locs hP hS => ?_)
      refine lv_if_eq (tgt := 51) hx hb dX7_seenBarred_30 (by decide) (fun c_5 => ?_) (fun c_5 => ?_)
      · have h := ite_t c_5 h
        refine lv_aload_n hx hb dX7_seenBarred_51 rfl (lv_at hl 0 rfl) ?_
        refine lv_bipush (v := (-2)) hx hb dX7_seenBarred_52 (by decide) ?_
        obtain ⟨z_6, e_7, h⟩ := bnd_s h
        refine x_calli (x_runV X O hP hS hl.1 (As := [.int ((-2))]) (rest := []) (k_X7_refused O (-2 : Int32) σ0 e_7.symm) lt_X7 (e_X7 _) rfl wM_X7_124 wI_yX7_refused wS_yX7_refused wN_X7 wC_yX7_refused hd_X7_refused rfl ⟨rfl, rfl⟩ ⟨(Nat.le_of_ble_eq_true rfl), (Nat.le_of_ble_eq_true rfl)⟩ ⟨Nat.zero_le _, Nat.zero_le _⟩ rfl (Nat.le_of_ble_eq_true rfl) dX7_seenBarred_54) hS (fun H locs hP hS => ?_)
        have h := some_i h
        subst h
        exact x_reti X hP hS hr hlk rfl rfl dX7_seenBarred_57
      · have h := ite_f c_5 h
        refine lv_iload hx hb dX7_seenBarred_33 (lv_at hl 5 rfl) ?_
        refine lv_i2l (v := v5.toInt64) hx hb dX7_seenBarred_35 rfl ?_
        refine lv_lconst (v := 0) hx hb dX7_seenBarred_36 (by decide) ?_
        refine lv_ldc2 (v := 20) hx hb X.2.2.2.1 (X.2.2.2.2.1 _ wL_X7_191) dX7_seenBarred_37 ?_
        refine x_calli (x_runS X hP hS hl.1 (As := [.long v5.toInt64, .long 0, .long 20]) (rest := []) (k_X7_in O v5.toInt64 (0 : Int64) (20 : Int64) σ0 rfl) wM_X7_90 wT_yX7_in wN_X7 wC_yX7_in hd_X7_in rfl ⟨rfl, rfl⟩ ⟨(Nat.le_of_ble_eq_true rfl), (Nat.le_of_ble_eq_true rfl)⟩ ⟨Nat.zero_le _, Nat.zero_le _⟩ rfl (Nat.le_of_ble_eq_true rfl) dX7_seenBarred_40) hS (fun H locs hP hS => ?_)
        refine lv_if_eq (tgt := 51) hx hb dX7_seenBarred_43 (by decide) (fun c_8 => ?_) (fun c_8 => ?_)
        · have h := ite_t c_8 h
          refine lv_aload_n hx hb dX7_seenBarred_51 rfl (lv_at hl 0 rfl) ?_
          refine lv_bipush (v := (-2)) hx hb dX7_seenBarred_52 (by decide) ?_
          obtain ⟨z_9, e_10, h⟩ := bnd_s h
          refine x_calli (x_runV X O hP hS hl.1 (As := [.int ((-2))]) (rest := []) (k_X7_refused O (-2 : Int32) σ0 e_10.symm) lt_X7 (e_X7 _) rfl wM_X7_124 wI_yX7_refused wS_yX7_refused wN_X7 wC_yX7_refused hd_X7_refused rfl ⟨rfl, rfl⟩ ⟨(Nat.le_of_ble_eq_true rfl), (Nat.le_of_ble_eq_true rfl)⟩ ⟨Nat.zero_le _, Nat.zero_le _⟩ rfl (Nat.le_of_ble_eq_true rfl) dX7_seenBarred_54) hS (fun H locs hP hS => ?_)
          have h := some_i h
          subst h
          exact x_reti X hP hS hr hlk rfl rfl dX7_seenBarred_57
        · have h := ite_f c_8 h
          refine lv_iload hx hb dX7_seenBarred_46 (lv_at hl 6 rfl) ?_
          refine lv_if_ne (tgt := 58) hx hb dX7_seenBarred_48 (by decide) (fun c_11 => ?_) (fun c_11 => ?_)
          · have h := ite_f c_11 h
            refine lv_aload_n hx hb dX7_seenBarred_58 rfl (lv_at hl 0 rfl) ?_
            refine lv_iload_n hx hb dX7_seenBarred_59 rfl (lv_at hl 2 rfl) ?_
            refine lv_iload_n hx hb dX7_seenBarred_60 rfl (lv_at hl 3 rfl) ?_
            refine lv_iload hx hb dX7_seenBarred_61 (lv_at hl 4 rfl) ?_
            refine lv_iload hx hb dX7_seenBarred_63 (lv_at hl 5 rfl) ?_
            obtain ⟨z_12, e_13, h⟩ := ob_s h
            refine x_calli (x_runV X O hP hS hl.1 (As := [.int v2, .int v3, .int v4, .int v5]) (rest := []) (k_X7_pairsBarred O v2 v3 v4 v5 σ0 e_13) lt_X7 (e_X7 _) rfl wM_X7_199 wI_yX7_pairsBarred wS_yX7_pairsBarred wN_X7 wC_yX7_pairsBarred hd_X7_pairsBarred rfl ⟨rfl, rfl⟩ ⟨(Nat.le_of_ble_eq_true rfl), (Nat.le_of_ble_eq_true rfl)⟩ ⟨Nat.zero_le _, Nat.zero_le _⟩ rfl (Nat.le_of_ble_eq_true rfl) dX7_seenBarred_65) hS (fun H locs hP hS => ?_)
            have h := some_i h
            subst h
            exact x_reti X hP hS hr hlk rfl rfl dX7_seenBarred_68
          · have h := ite_t c_11 h
            refine lv_aload_n hx hb dX7_seenBarred_51 rfl (lv_at hl 0 rfl) ?_
            refine lv_bipush (v := (-2)) hx hb dX7_seenBarred_52 (by decide) ?_
            obtain ⟨z_14, e_15, h⟩ := bnd_s h
            refine x_calli (x_runV X O hP hS hl.1 (As := [.int ((-2))]) (rest := []) (k_X7_refused O (-2 : Int32) σ0 e_15.symm) lt_X7 (e_X7 _) rfl wM_X7_124 wI_yX7_refused wS_yX7_refused wN_X7 wC_yX7_refused hd_X7_refused rfl ⟨rfl, rfl⟩ ⟨(Nat.le_of_ble_eq_true rfl), (Nat.le_of_ble_eq_true rfl)⟩ ⟨Nat.zero_le _, Nat.zero_le _⟩ rfl (Nat.le_of_ble_eq_true rfl) dX7_seenBarred_54) hS (fun H locs hP hS => ?_)
            have h := some_i h
            subst h
            exact x_reti X hP hS hr hlk rfl rfl dX7_seenBarred_57
    · have h := ite_f c_4 h
      refine lv_aload_n hx hb dX7_seenBarred_15 rfl (lv_at hl 0 rfl) ?_
      refine lv_iconst (v := (-1)) hx hb dX7_seenBarred_16 (by decide) ?_
      obtain ⟨z_16, e_17, h⟩ := bnd_s h
      refine x_calli (x_runV X O hP hS hl.1 (As := [.int ((-1))]) (rest := []) (k_X7_refused O (-1 : Int32) σ0 e_17.symm) lt_X7 (e_X7 _) rfl wM_X7_124 wI_yX7_refused wS_yX7_refused wN_X7 wC_yX7_refused hd_X7_refused rfl ⟨rfl, rfl⟩ ⟨(Nat.le_of_ble_eq_true rfl), (Nat.le_of_ble_eq_true rfl)⟩ ⟨Nat.zero_le _, Nat.zero_le _⟩ rfl (Nat.le_of_ble_eq_true rfl) dX7_seenBarred_17) hS (fun H locs hP hS => ?_)
      have h := some_i h
      subst h
      exact x_reti X hP hS hr hlk rfl rfl dX7_seenBarred_20
abbrev rm_X7_told : Room := { frames := 5, cells := 0, slots := 0, locals := 116 }
set_option maxHeartbeats 4000000 in
set_option maxRecDepth 100000 in
theorem w_X7_told_L47 {F : Nat} {Θ : TH} {p : Program} {l : Launch} {e : Env} {s : State} {m : MethodId} {args : Array Value} {below : List Frame} {meth : Method} {c : Code} (X : CX Θ p s m args c RX7 cX7_told 12) (O : okT Θ (eM Θ) 23) (hr : meth.sig.returnType = some .int) (hlk : meth.locks = false) (v1 : Int32) (v2 : Int32) (v4 : Int32) (v5 : Int32) (v6 : Int32) (v8 : Int32) {y : Int32 × Mem} {k101 : Int32 → Int32 → Mem → Option (Int32 × Mem)} (hk101 : ∀ (v9 : Int32) (v10 : Int32) (σ0 : Mem), k101 v9 v10 σ0 = some y → ∀ (H : Heap) (locs : List Loc) (ls : Array Slot), va_P (tD Θ) vwCl (tw Θ σ0) H → va_S (tA Θ) s.heap H locs → lv_has ls 12 [(0, .ref (ta Θ 0)), (1, .int v1), (6, .int v6), (8, .int v8), (9, .int v9), (10, .int v10)] → W p l e rm_X7_told s m args below meth c H locs 0 0 (MQ below (qI Θ y.1 y.2) args s 0 0 (tA Θ)) (F0 m 101 ls [])) :
    ∀ (f : Nat) (v9 : Int32) (v10 : Int32) (v11 : Int32) (σ0 : Mem), X7_told_L47 F v1 v2 v4 v5 v6 v8 k101 f v9 v10 v11 σ0 = some y → ∀ (H : Heap) (locs : List Loc) (ls : Array Slot), va_P (tD Θ) vwCl (tw Θ σ0) H → va_S (tA Θ) s.heap H locs → lv_has ls 12 [(0, .ref (ta Θ 0)), (1, .int v1), (2, .int v2), (4, .int v4), (5, .int v5), (6, .int v6), (8, .int v8), (9, .int v9), (10, .int v10), (11, .int v11)] → W p l e rm_X7_told s m args below meth c H locs 0 0 (MQ below (qI Θ y.1 y.2) args s 0 0 (tA Θ)) (F0 m 47 ls []) := by
  have hx := X.1
  have hb := X.2.1
  intro f
  induction f with
  | zero => intro v9 v10 v11 σ0 h; cases h
  | succ f ih =>
    intro v9 v10 v11 σ0 h H locs ls hP hS hl
    rw [X7_told_L47] at h
    refine lv_iload hx hb dX7_told_47 (lv_at hl 9 rfl) ?_
    refine lv_bipush (v := 64) hx hb dX7_told_49 (by decide) ?_
    refine lv_icmp_ge (tgt := 101) hx hb dX7_told_51 (by decide) (fun c_7 => ?_) (fun c_7 => ?_)
    · have h := ite_t c_7 h
      exact hk101 v9 v10 σ0 h _ _ _ hP hS (lv_sub hl [0, 1, 5, 6, 7, 8] rfl)
    · have h := ite_f c_7 h
      refine lv_aload_n hx hb dX7_told_54 rfl (lv_at hl 0 rfl) ?_
      refine g_X7_13 X O hP dX7_told_55 ?_
      refine lv_iload_n hx hb dX7_told_58 rfl (lv_at hl 1 rfl) ?_
      refine lv_iload hx hb dX7_told_59 (lv_at hl 9 rfl) ?_
      obtain ⟨g_8, h⟩ := grd_s h
      obtain ⟨σ_9, e_10, h⟩ := bnd_s h
      refine x_iast X O hP hS mI_2 g_8 dX7_told_61 e_10 (fun H locs hP hS => ?_)
      refine lv_aload_n hx hb dX7_told_62 rfl (lv_at hl 0 rfl) ?_
      refine lv_bipush (v := 60) hx hb dX7_told_63 (by decide) ?_
      refine lv_iload_n hx hb dX7_told_65 rfl (lv_at hl 2 rfl) ?_
      refine lv_imul hx hb dX7_told_66 ?_
      refine lv_iload hx hb dX7_told_67 (lv_at hl 3 rfl) ?_
      refine lv_iadd hx hb dX7_told_69 ?_
      refine lv_iload hx hb dX7_told_70 (lv_at hl 4 rfl) ?_
      obtain ⟨z_11, e_12, h⟩ := ob_s h
      refine x_calli (x_runV X O hP hS hl.1 (As := [.int (((60 : Int32) * v2) + v4), .int v5]) (rest := []) (k_X7_areSo O (((60 : Int32) * v2) + v4) v5 σ_9 e_12) lt_X7 (e_X7 _) rfl wM_X7_223 wI_yX7_areSo wS_yX7_areSo wN_X7 wC_yX7_areSo hd_X7_areSo rfl ⟨rfl, rfl⟩ ⟨(Nat.le_of_ble_eq_true rfl), (Nat.le_of_ble_eq_true rfl)⟩ ⟨Nat.zero_le _, Nat.zero_le _⟩ rfl (Nat.le_of_ble_eq_true rfl) dX7_told_72) hS (fun H locs hP hS => ?_)
      refine lv_if_eq (tgt := 95) hx hb dX7_told_75 (by decide) (fun c_13 => ?_) (fun c_13 => ?_)
      · have h := ite_t c_13 h
        refine lv_iinc (v := v11 + 1) (lv' := [(11, .int (v11 + 1)), (0, .ref (ta Θ 0)), (1, .int v1), (2, .int v2), (4, .int v4), (5, .int v5), (6, .int v6), (8, .int v8), (9, .int v9), (10, .int v10)]) hx hb dX7_told_95 hl (k := 9) rfl rfl (by decide) rfl (fun ls hl => ?_)
        refine lv_goto (tgt := 47) hx hb dX7_told_98 (by decide) ?_
        exact ih v9 v10 (v11 + 1) z_11.2 h _ _ _ hP hS (lv_sub hl [1, 2, 3, 4, 5, 6, 7, 8, 9, 0] rfl)
      · have h := ite_f c_13 h
        refine lv_iinc (v := v9 + 1) (lv' := [(9, .int (v9 + 1)), (0, .ref (ta Θ 0)), (1, .int v1), (2, .int v2), (4, .int v4), (5, .int v5), (6, .int v6), (8, .int v8), (10, .int v10), (11, .int v11)]) hx hb dX7_told_78 hl (k := 7) rfl rfl (by decide) rfl (fun ls hl => ?_)
        refine lv_iload hx hb dX7_told_81 (lv_at hl 8 rfl) ?_
        refine lv_if_ge (tgt := 91) hx hb dX7_told_83 (by decide) (fun c_14 => ?_) (fun c_14 => ?_)
        · have h := ite_t c_14 h
          refine lv_iload hx hb dX7_told_91 (lv_at hl 8 rfl) ?_
          refine lv_istore (lv' := [(10, .int v10), (9, .int (v9 + 1)), (0, .ref (ta Θ 0)), (1, .int v1), (2, .int v2), (4, .int v4), (5, .int v5), (6, .int v6), (8, .int v8), (11, .int v11)]) hx hb dX7_told_93 hl (by decide) rfl (fun ls hl => ?_)
          refine lv_iinc (v := v11 + 1) (lv' := [(11, .int (v11 + 1)), (10, .int v10), (9, .int (v9 + 1)), (0, .ref (ta Θ 0)), (1, .int v1), (2, .int v2), (4, .int v4), (5, .int v5), (6, .int v6), (8, .int v8)]) hx hb dX7_told_95 hl (k := 9) rfl rfl (by decide) rfl (fun ls hl => ?_)
          refine lv_goto (tgt := 47) hx hb dX7_told_98 (by decide) ?_
          exact ih (v9 + 1) v10 (v11 + 1) z_11.2 h _ _ _ hP hS (lv_sub hl [3, 4, 5, 6, 7, 8, 9, 2, 1, 0] rfl)
        · have h := ite_f c_14 h
          refine lv_iload hx hb dX7_told_86 (lv_at hl 9 rfl) ?_
          refine lv_goto (tgt := 93) hx hb dX7_told_88 (by decide) ?_
          refine lv_istore (lv' := [(10, .int v11), (9, .int (v9 + 1)), (0, .ref (ta Θ 0)), (1, .int v1), (2, .int v2), (4, .int v4), (5, .int v5), (6, .int v6), (8, .int v8), (11, .int v11)]) hx hb dX7_told_93 hl (by decide) rfl (fun ls hl => ?_)
          refine lv_iinc (v := v11 + 1) (lv' := [(11, .int (v11 + 1)), (10, .int v11), (9, .int (v9 + 1)), (0, .ref (ta Θ 0)), (1, .int v1), (2, .int v2), (4, .int v4), (5, .int v5), (6, .int v6), (8, .int v8)]) hx hb dX7_told_95 hl (k := 9) rfl rfl (by decide) rfl (fun ls hl => ?_)
          refine lv_goto (tgt := 47) hx hb dX7_told_98 (by decide) ?_
          exact ih (v9 + 1) v11 (v11 + 1) z_11.2 h _ _ _ hP hS (lv_sub hl [3, 4, 5, 6, 7, 8, 9, 2, 1, 0] rfl)
theorem hd_X7_told : yX7_told.cls ≠ "java/lang/invoke/MethodHandle" ∧ yX7_told.cls ≠ "java/lang/invoke/VarHandle" ∧ (parseMethodDescriptor yX7_told.desc).map (fun d => d.parameters.length) = some 6 := by decide +kernel
set_option maxHeartbeats 4000000 in
set_option maxRecDepth 100000 in
theorem k_X7_told {F : Nat} {Θ : TH} {l : Launch} (O : okT Θ (eM Θ) 23) (v1 : Int32) (v2 : Int32) (v3 : Int32) (v4 : Int32) (v5 : Int32) (v6 : Int32) (σ0 : Mem) {y : Int32 × Mem} (h : X7_told F v1 v2 v3 v4 v5 v6 σ0 = some y) : Met l yX7_told (Cond.code yX7_told cX7_told 12 (some .int) :: wAll) rm_X7_told (va_Pc [.ref (ta Θ 0), .int v1, .int v2, .int v3, .int v4, .int v5, .int v6] (tS Θ σ0)) (qI Θ y.1 y.2) 0 0 (tA Θ) := by
  refine x_ent (by decide) (Nat.le_of_ble_eq_true rfl) (fun p e s m below meth c X hr hlk hP ls hl => ?_)
  have hS : va_S (tA Θ) s.heap s.heap [] := va_S.rf
  have hl : lv_has ls 12 [(0, .ref (ta Θ 0)), (1, .int v1), (2, .int v2), (3, .int v3), (4, .int v4), (5, .int v5), (6, .int v6)] := hl
  have hx := X.1
  have hb := X.2.1
  unfold X7_told at h
  refine lv_aload_n hx hb dX7_told_0 rfl (lv_at hl 0 rfl) ?_
  refine lv_iload_n hx hb dX7_told_1 rfl (lv_at hl 1 rfl) ?_
  refine lv_iload_n hx hb dX7_told_2 rfl (lv_at hl 2 rfl) ?_
  refine lv_iload_n hx hb dX7_told_3 rfl (lv_at hl 3 rfl) ?_
  refine lv_iload hx hb dX7_told_4 (lv_at hl 4 rfl) ?_
  refine lv_iload hx hb dX7_told_6 (lv_at hl 5 rfl) ?_
  refine lv_iload hx hb dX7_told_8 (lv_at hl 6 rfl) ?_
  refine lv_i2l (v := v6.toInt64) hx hb dX7_told_10 rfl ?_
  refine lv_lconst (v := 0) hx hb dX7_told_11 (by decide) ?_
  refine lv_lconst (v := 1) hx hb dX7_told_12 (by decide) ?_
  refine x_calli (x_runS X hP hS hl.1 (As := [.long v6.toInt64, .long 0, .long 1]) (rest := [.int v5, .int v4, .int v3, .int v2, .int v1, .ref (ta Θ 0)]) (k_X7_in O v6.toInt64 (0 : Int64) (1 : Int64) σ0 rfl) wM_X7_90 wT_yX7_in wN_X7 wC_yX7_in hd_X7_in rfl ⟨rfl, rfl⟩ ⟨(Nat.le_of_ble_eq_true rfl), (Nat.le_of_ble_eq_true rfl)⟩ ⟨Nat.zero_le _, Nat.zero_le _⟩ rfl (Nat.le_of_ble_eq_true rfl) dX7_told_13) hS (fun H locs hP hS => ?_)
  obtain ⟨z_1, e_2, h⟩ := ob_s h
  refine x_calli (x_runV X O hP hS hl.1 (As := [.int v1, .int v2, .int v3, .int v4, .int v5, .int (X7_in v6.toInt64 (0 : Int64) (1 : Int64))]) (rest := []) (k_X7_seenBarred O v1 v2 v3 v4 v5 (X7_in v6.toInt64 (0 : Int64) (1 : Int64)) σ0 e_2) lt_X7 (e_X7 _) rfl wM_X7_219 wI_yX7_seenBarred wS_yX7_seenBarred wN_X7 wC_yX7_seenBarred hd_X7_seenBarred rfl ⟨rfl, rfl⟩ ⟨(Nat.le_of_ble_eq_true rfl), (Nat.le_of_ble_eq_true rfl)⟩ ⟨Nat.zero_le _, Nat.zero_le _⟩ rfl (Nat.le_of_ble_eq_true rfl) dX7_told_16) hS (fun H locs hP hS => ?_)
  refine lv_istore (lv' := [(7, .int z_1.1), (0, .ref (ta Θ 0)), (1, .int v1), (2, .int v2), (3, .int v3), (4, .int v4), (5, .int v5), (6, .int v6)]) hx hb dX7_told_19 hl (by decide) rfl (fun ls hl => ?_)
  refine lv_iload hx hb dX7_told_21 (lv_at hl 0 rfl) ?_
  refine lv_if_ge (tgt := 29) hx hb dX7_told_23 (by decide) (fun c_3 => ?_) (fun c_3 => ?_)
  · have h := ite_t c_3 h
    refine lv_aload_n hx hb dX7_told_29 rfl (lv_at hl 1 rfl) ?_
    refine g_X7_13 X O hP dX7_told_30 ?_
    refine lv_iload_n hx hb dX7_told_33 rfl (lv_at hl 2 rfl) ?_
    obtain ⟨g_4, h⟩ := grd_s h
    refine x_iald X O hP mI_2 g_4 dX7_told_34 ?_
    obtain ⟨v8_5, e_6, h⟩ := bnd_s h
    refine lv_nam e_6 ?_
    refine lv_istore (lv' := [(8, .int v8_5), (7, .int z_1.1), (0, .ref (ta Θ 0)), (1, .int v1), (2, .int v2), (3, .int v3), (4, .int v4), (5, .int v5), (6, .int v6)]) hx hb dX7_told_35 hl (by decide) rfl (fun ls hl => ?_)
    refine lv_iconst (v := 0) hx hb dX7_told_37 (by decide) ?_
    refine lv_istore (lv' := [(9, .int 0), (8, .int v8_5), (7, .int z_1.1), (0, .ref (ta Θ 0)), (1, .int v1), (2, .int v2), (3, .int v3), (4, .int v4), (5, .int v5), (6, .int v6)]) hx hb dX7_told_38 hl (by decide) rfl (fun ls hl => ?_)
    refine lv_bipush (v := (-9)) hx hb dX7_told_40 (by decide) ?_
    refine lv_istore (lv' := [(10, .int ((-9))), (9, .int 0), (8, .int v8_5), (7, .int z_1.1), (0, .ref (ta Θ 0)), (1, .int v1), (2, .int v2), (3, .int v3), (4, .int v4), (5, .int v5), (6, .int v6)]) hx hb dX7_told_42 hl (by decide) rfl (fun ls hl => ?_)
    refine lv_iconst (v := 0) hx hb dX7_told_44 (by decide) ?_
    refine lv_istore (lv' := [(11, .int 0), (10, .int ((-9))), (9, .int 0), (8, .int v8_5), (7, .int z_1.1), (0, .ref (ta Θ 0)), (1, .int v1), (2, .int v2), (3, .int v3), (4, .int v4), (5, .int v5), (6, .int v6)]) hx hb dX7_told_45 hl (by decide) rfl (fun ls hl => ?_)
    refine w_X7_told_L47 X O hr hlk v1 v2 v4 v5 v6 v8_5 ?_ _ (0 : Int32) (-9 : Int32) (0 : Int32) z_1.2 h _ _ _ hP hS (lv_sub hl [5, 6, 7, 9, 10, 11, 3, 2, 1, 0] rfl)
    · intro v9_15 v10_16 σ_17 h H locs ls hP hS hl
      refine lv_aload_n hx hb dX7_told_101 rfl (lv_at hl 0 rfl) ?_
      refine g_X7_13 X O hP dX7_told_102 ?_
      refine lv_iload_n hx hb dX7_told_105 rfl (lv_at hl 1 rfl) ?_
      refine lv_iload hx hb dX7_told_106 (lv_at hl 3 rfl) ?_
      obtain ⟨g_18, h⟩ := grd_s h
      obtain ⟨σ_19, e_20, h⟩ := bnd_s h
      refine x_iast X O hP hS mI_2 g_18 dX7_told_108 e_20 (fun H locs hP hS => ?_)
      refine lv_iload hx hb dX7_told_109 (lv_at hl 2 rfl) ?_
      refine lv_if_ne (tgt := 119) hx hb dX7_told_111 (by decide) (fun c_21 => ?_) (fun c_21 => ?_)
      · have h := ite_f c_21 h
        refine lv_iload hx hb dX7_told_119 (lv_at hl 5 rfl) ?_
        have h := some_i h
        subst h
        exact x_reti X hP hS hr hlk rfl rfl dX7_told_121
      · have h := ite_t c_21 h
        refine lv_iload hx hb dX7_told_114 (lv_at hl 4 rfl) ?_
        refine lv_goto (tgt := 121) hx hb dX7_told_116 (by decide) ?_
        have h := some_i h
        subst h
        exact x_reti X hP hS hr hlk rfl rfl dX7_told_121
  · have h := ite_f c_3 h
    refine lv_iload hx hb dX7_told_26 (lv_at hl 0 rfl) ?_
    have h := some_i h
    subst h
    exact x_reti X hP hS hr hlk rfl rfl dX7_told_28
abbrev rm_X7_kinds : Room := { frames := 5, cells := 0, slots := 0, locals := 116 }
set_option maxHeartbeats 4000000 in
set_option maxRecDepth 100000 in
theorem w_X7_kinds_L36 {F : Nat} {Θ : TH} {p : Program} {l : Launch} {e : Env} {s : State} {m : MethodId} {args : Array Value} {below : List Frame} {meth : Method} {c : Code} (X : CX Θ p s m args c RX7 cX7_kinds 10) (O : okT Θ (eM Θ) 23) (hr : meth.sig.returnType = some .int) (hlk : meth.locks = false) (v1 : Int32) (v2 : Int32) (v4 : Int32) (v5 : Int32) (v7 : Int32) {y : Int32 × Mem} {k85 : Int32 → Mem → Option (Int32 × Mem)} (hk85 : ∀ (v8 : Int32) (σ0 : Mem), k85 v8 σ0 = some y → ∀ (H : Heap) (locs : List Loc) (ls : Array Slot), va_P (tD Θ) vwCl (tw Θ σ0) H → va_S (tA Θ) s.heap H locs → lv_has ls 10 [(0, .ref (ta Θ 0)), (1, .int v1), (7, .int v7), (8, .int v8)] → W p l e rm_X7_kinds s m args below meth c H locs 0 0 (MQ below (qI Θ y.1 y.2) args s 0 0 (tA Θ)) (F0 m 85 ls [])) :
    ∀ (f : Nat) (v8 : Int32) (v9 : Int32) (σ0 : Mem), X7_kinds_L36 F v1 v2 v4 v5 v7 k85 f v8 v9 σ0 = some y → ∀ (H : Heap) (locs : List Loc) (ls : Array Slot), va_P (tD Θ) vwCl (tw Θ σ0) H → va_S (tA Θ) s.heap H locs → lv_has ls 10 [(0, .ref (ta Θ 0)), (1, .int v1), (2, .int v2), (4, .int v4), (5, .int v5), (7, .int v7), (8, .int v8), (9, .int v9)] → W p l e rm_X7_kinds s m args below meth c H locs 0 0 (MQ below (qI Θ y.1 y.2) args s 0 0 (tA Θ)) (F0 m 36 ls []) := by
  have hx := X.1
  have hb := X.2.1
  intro f
  induction f with
  | zero => intro v8 v9 σ0 h; cases h
  | succ f ih =>
    intro v8 v9 σ0 h H locs ls hP hS hl
    rw [X7_kinds_L36] at h
    refine lv_iload hx hb dX7_kinds_36 (lv_at hl 7 rfl) ?_
    refine lv_iconst (v := 3) hx hb dX7_kinds_38 (by decide) ?_
    refine lv_icmp_ge (tgt := 85) hx hb dX7_kinds_39 (by decide) (fun c_7 => ?_) (fun c_7 => ?_)
    · have h := ite_t c_7 h
      exact hk85 v8 σ0 h _ _ _ hP hS (lv_sub hl [0, 1, 5, 6] rfl)
    · have h := ite_f c_7 h
      refine lv_aload_n hx hb dX7_kinds_42 rfl (lv_at hl 0 rfl) ?_
      refine g_X7_7 X O hP dX7_kinds_43 ?_
      refine lv_iload_n hx hb dX7_kinds_46 rfl (lv_at hl 1 rfl) ?_
      refine lv_iload hx hb dX7_kinds_47 (lv_at hl 7 rfl) ?_
      obtain ⟨g_8, h⟩ := grd_s h
      obtain ⟨σ_9, e_10, h⟩ := bnd_s h
      refine x_iast X O hP hS mI_1 g_8 dX7_kinds_49 e_10 (fun H locs hP hS => ?_)
      refine lv_iload hx hb dX7_kinds_50 (lv_at hl 6 rfl) ?_
      refine lv_aload_n hx hb dX7_kinds_52 rfl (lv_at hl 0 rfl) ?_
      refine lv_bipush (v := 60) hx hb dX7_kinds_53 (by decide) ?_
      refine lv_iload_n hx hb dX7_kinds_55 rfl (lv_at hl 2 rfl) ?_
      refine lv_imul hx hb dX7_kinds_56 ?_
      refine lv_iload hx hb dX7_kinds_57 (lv_at hl 3 rfl) ?_
      refine lv_iadd hx hb dX7_kinds_59 ?_
      refine lv_iload hx hb dX7_kinds_60 (lv_at hl 4 rfl) ?_
      obtain ⟨z_11, e_12, h⟩ := ob_s h
      refine x_calli (x_runV X O hP hS hl.1 (As := [.int (((60 : Int32) * v2) + v4), .int v5]) (rest := [.int v8]) (k_X7_areSo O (((60 : Int32) * v2) + v4) v5 σ_9 e_12) lt_X7 (e_X7 _) rfl wM_X7_223 wI_yX7_areSo wS_yX7_areSo wN_X7 wC_yX7_areSo hd_X7_areSo rfl ⟨rfl, rfl⟩ ⟨(Nat.le_of_ble_eq_true rfl), (Nat.le_of_ble_eq_true rfl)⟩ ⟨Nat.zero_le _, Nat.zero_le _⟩ rfl (Nat.le_of_ble_eq_true rfl) dX7_kinds_62) hS (fun H locs hP hS => ?_)
      refine lv_if_eq (tgt := 75) hx hb dX7_kinds_65 (by decide) (fun c_13 => ?_) (fun c_13 => ?_)
      · have h := ite_t c_13 h
        refine lv_iconst (v := 0) hx hb dX7_kinds_75 (by decide) ?_
        refine lv_ior hx hb dX7_kinds_76 ?_
        obtain ⟨v8_14, e_15, h⟩ := bnd_s h
        refine lv_nam e_15 ?_
        refine lv_istore (lv' := [(8, .int v8_14), (0, .ref (ta Θ 0)), (1, .int v1), (2, .int v2), (4, .int v4), (5, .int v5), (7, .int v7), (9, .int v9)]) hx hb dX7_kinds_77 hl (by decide) rfl (fun ls hl => ?_)
        refine lv_iinc (v := v9 + 1) (lv' := [(9, .int (v9 + 1)), (8, .int v8_14), (0, .ref (ta Θ 0)), (1, .int v1), (2, .int v2), (4, .int v4), (5, .int v5), (7, .int v7)]) hx hb dX7_kinds_79 hl (k := 7) rfl rfl (by decide) rfl (fun ls hl => ?_)
        refine lv_goto (tgt := 36) hx hb dX7_kinds_82 (by decide) ?_
        exact ih v8_14 (v9 + 1) z_11.2 h _ _ _ hP hS (lv_sub hl [2, 3, 4, 5, 6, 7, 1, 0] rfl)
      · have h := ite_f c_13 h
        refine lv_iconst (v := 1) hx hb dX7_kinds_68 (by decide) ?_
        refine lv_iload hx hb dX7_kinds_69 (lv_at hl 7 rfl) ?_
        refine lv_ishl hx hb dX7_kinds_71 ?_
        refine lv_goto (tgt := 76) hx hb dX7_kinds_72 (by decide) ?_
        refine lv_ior hx hb dX7_kinds_76 ?_
        obtain ⟨v8_16, e_17, h⟩ := bnd_s h
        refine lv_nam e_17 ?_
        refine lv_istore (lv' := [(8, .int v8_16), (0, .ref (ta Θ 0)), (1, .int v1), (2, .int v2), (4, .int v4), (5, .int v5), (7, .int v7), (9, .int v9)]) hx hb dX7_kinds_77 hl (by decide) rfl (fun ls hl => ?_)
        refine lv_iinc (v := v9 + 1) (lv' := [(9, .int (v9 + 1)), (8, .int v8_16), (0, .ref (ta Θ 0)), (1, .int v1), (2, .int v2), (4, .int v4), (5, .int v5), (7, .int v7)]) hx hb dX7_kinds_79 hl (k := 7) rfl rfl (by decide) rfl (fun ls hl => ?_)
        refine lv_goto (tgt := 36) hx hb dX7_kinds_82 (by decide) ?_
        exact ih v8_16 (v9 + 1) z_11.2 h _ _ _ hP hS (lv_sub hl [2, 3, 4, 5, 6, 7, 1, 0] rfl)
theorem hd_X7_kinds : yX7_kinds.cls ≠ "java/lang/invoke/MethodHandle" ∧ yX7_kinds.cls ≠ "java/lang/invoke/VarHandle" ∧ (parseMethodDescriptor yX7_kinds.desc).map (fun d => d.parameters.length) = some 5 := by decide +kernel
set_option maxHeartbeats 4000000 in
set_option maxRecDepth 100000 in
theorem k_X7_kinds {F : Nat} {Θ : TH} {l : Launch} (O : okT Θ (eM Θ) 23) (v1 : Int32) (v2 : Int32) (v3 : Int32) (v4 : Int32) (v5 : Int32) (σ0 : Mem) {y : Int32 × Mem} (h : X7_kinds F v1 v2 v3 v4 v5 σ0 = some y) : Met l yX7_kinds (Cond.code yX7_kinds cX7_kinds 10 (some .int) :: wAll) rm_X7_kinds (va_Pc [.ref (ta Θ 0), .int v1, .int v2, .int v3, .int v4, .int v5] (tS Θ σ0)) (qI Θ y.1 y.2) 0 0 (tA Θ) := by
  refine x_ent (by decide) (Nat.le_of_ble_eq_true rfl) (fun p e s m below meth c X hr hlk hP ls hl => ?_)
  have hS : va_S (tA Θ) s.heap s.heap [] := va_S.rf
  have hl : lv_has ls 10 [(0, .ref (ta Θ 0)), (1, .int v1), (2, .int v2), (3, .int v3), (4, .int v4), (5, .int v5)] := hl
  have hx := X.1
  have hb := X.2.1
  unfold X7_kinds at h
  refine lv_aload_n hx hb dX7_kinds_0 rfl (lv_at hl 0 rfl) ?_
  refine lv_iload_n hx hb dX7_kinds_1 rfl (lv_at hl 1 rfl) ?_
  refine lv_iload_n hx hb dX7_kinds_2 rfl (lv_at hl 2 rfl) ?_
  refine lv_iload_n hx hb dX7_kinds_3 rfl (lv_at hl 3 rfl) ?_
  refine lv_iload hx hb dX7_kinds_4 (lv_at hl 4 rfl) ?_
  refine lv_iload hx hb dX7_kinds_6 (lv_at hl 5 rfl) ?_
  refine lv_iconst (v := 1) hx hb dX7_kinds_8 (by decide) ?_
  obtain ⟨z_1, e_2, h⟩ := ob_s h
  refine x_calli (x_runV X O hP hS hl.1 (As := [.int v1, .int v2, .int v3, .int v4, .int v5, .int 1]) (rest := []) (k_X7_seenBarred O v1 v2 v3 v4 v5 (1 : Int32) σ0 e_2) lt_X7 (e_X7 _) rfl wM_X7_219 wI_yX7_seenBarred wS_yX7_seenBarred wN_X7 wC_yX7_seenBarred hd_X7_seenBarred rfl ⟨rfl, rfl⟩ ⟨(Nat.le_of_ble_eq_true rfl), (Nat.le_of_ble_eq_true rfl)⟩ ⟨Nat.zero_le _, Nat.zero_le _⟩ rfl (Nat.le_of_ble_eq_true rfl) dX7_kinds_9) hS (fun H locs hP hS => ?_)
  refine lv_istore (lv' := [(6, .int z_1.1), (0, .ref (ta Θ 0)), (1, .int v1), (2, .int v2), (3, .int v3), (4, .int v4), (5, .int v5)]) hx hb dX7_kinds_12 hl (by decide) rfl (fun ls hl => ?_)
  refine lv_iload hx hb dX7_kinds_14 (lv_at hl 0 rfl) ?_
  refine lv_if_ge (tgt := 22) hx hb dX7_kinds_16 (by decide) (fun c_3 => ?_) (fun c_3 => ?_)
  · have h := ite_t c_3 h
    refine lv_aload_n hx hb dX7_kinds_22 rfl (lv_at hl 1 rfl) ?_
    refine g_X7_7 X O hP dX7_kinds_23 ?_
    refine lv_iload_n hx hb dX7_kinds_26 rfl (lv_at hl 2 rfl) ?_
    obtain ⟨g_4, h⟩ := grd_s h
    refine x_iald X O hP mI_1 g_4 dX7_kinds_27 ?_
    obtain ⟨v7_5, e_6, h⟩ := bnd_s h
    refine lv_nam e_6 ?_
    refine lv_istore (lv' := [(7, .int v7_5), (6, .int z_1.1), (0, .ref (ta Θ 0)), (1, .int v1), (2, .int v2), (3, .int v3), (4, .int v4), (5, .int v5)]) hx hb dX7_kinds_28 hl (by decide) rfl (fun ls hl => ?_)
    refine lv_iconst (v := 0) hx hb dX7_kinds_30 (by decide) ?_
    refine lv_istore (lv' := [(8, .int 0), (7, .int v7_5), (6, .int z_1.1), (0, .ref (ta Θ 0)), (1, .int v1), (2, .int v2), (3, .int v3), (4, .int v4), (5, .int v5)]) hx hb dX7_kinds_31 hl (by decide) rfl (fun ls hl => ?_)
    refine lv_iconst (v := 0) hx hb dX7_kinds_33 (by decide) ?_
    refine lv_istore (lv' := [(9, .int 0), (8, .int 0), (7, .int v7_5), (6, .int z_1.1), (0, .ref (ta Θ 0)), (1, .int v1), (2, .int v2), (3, .int v3), (4, .int v4), (5, .int v5)]) hx hb dX7_kinds_34 hl (by decide) rfl (fun ls hl => ?_)
    refine w_X7_kinds_L36 X O hr hlk v1 v2 v4 v5 v7_5 ?_ _ (0 : Int32) (0 : Int32) z_1.2 h _ _ _ hP hS (lv_sub hl [4, 5, 6, 8, 9, 2, 1, 0] rfl)
    · intro v8_18 σ_19 h H locs ls hP hS hl
      refine lv_aload_n hx hb dX7_kinds_85 rfl (lv_at hl 0 rfl) ?_
      refine g_X7_7 X O hP dX7_kinds_86 ?_
      refine lv_iload_n hx hb dX7_kinds_89 rfl (lv_at hl 1 rfl) ?_
      refine lv_iload hx hb dX7_kinds_90 (lv_at hl 2 rfl) ?_
      obtain ⟨g_20, h⟩ := grd_s h
      obtain ⟨σ_21, e_22, h⟩ := bnd_s h
      refine x_iast X O hP hS mI_1 g_20 dX7_kinds_92 e_22 (fun H locs hP hS => ?_)
      refine lv_iload hx hb dX7_kinds_93 (lv_at hl 3 rfl) ?_
      have h := some_i h
      subst h
      exact x_reti X hP hS hr hlk rfl rfl dX7_kinds_95
  · have h := ite_f c_3 h
    refine lv_iload hx hb dX7_kinds_19 (lv_at hl 0 rfl) ?_
    have h := some_i h
    subst h
    exact x_reti X hP hS hr hlk rfl rfl dX7_kinds_21
abbrev rm_X7_wears : Room := { frames := 5, cells := 0, slots := 0, locals := 116 }
set_option maxHeartbeats 4000000 in
set_option maxRecDepth 100000 in
theorem w_X7_wears_L36 {F : Nat} {Θ : TH} {p : Program} {l : Launch} {e : Env} {s : State} {m : MethodId} {args : Array Value} {below : List Frame} {meth : Method} {c : Code} (X : CX Θ p s m args c RX7 cX7_wears 10) (O : okT Θ (eM Θ) 23) (hr : meth.sig.returnType = some .int) (hlk : meth.locks = false) (v1 : Int32) (v2 : Int32) (v4 : Int32) (v5 : Int32) (v7 : Int32) {y : Int32 × Mem} {k86 : Int32 → Mem → Option (Int32 × Mem)} (hk86 : ∀ (v8 : Int32) (σ0 : Mem), k86 v8 σ0 = some y → ∀ (H : Heap) (locs : List Loc) (ls : Array Slot), va_P (tD Θ) vwCl (tw Θ σ0) H → va_S (tA Θ) s.heap H locs → lv_has ls 10 [(0, .ref (ta Θ 0)), (1, .int v1), (7, .int v7), (8, .int v8)] → W p l e rm_X7_wears s m args below meth c H locs 0 0 (MQ below (qI Θ y.1 y.2) args s 0 0 (tA Θ)) (F0 m 86 ls [])) :
    ∀ (f : Nat) (v8 : Int32) (v9 : Int32) (σ0 : Mem), X7_wears_L36 F v1 v2 v4 v5 v7 k86 f v8 v9 σ0 = some y → ∀ (H : Heap) (locs : List Loc) (ls : Array Slot), va_P (tD Θ) vwCl (tw Θ σ0) H → va_S (tA Θ) s.heap H locs → lv_has ls 10 [(0, .ref (ta Θ 0)), (1, .int v1), (2, .int v2), (4, .int v4), (5, .int v5), (7, .int v7), (8, .int v8), (9, .int v9)] → W p l e rm_X7_wears s m args below meth c H locs 0 0 (MQ below (qI Θ y.1 y.2) args s 0 0 (tA Θ)) (F0 m 36 ls []) := by
  have hx := X.1
  have hb := X.2.1
  intro f
  induction f with
  | zero => intro v8 v9 σ0 h; cases h
  | succ f ih =>
    intro v8 v9 σ0 h H locs ls hP hS hl
    rw [X7_wears_L36] at h
    refine lv_iload hx hb dX7_wears_36 (lv_at hl 7 rfl) ?_
    refine lv_bipush (v := 10) hx hb dX7_wears_38 (by decide) ?_
    refine lv_icmp_ge (tgt := 86) hx hb dX7_wears_40 (by decide) (fun c_7 => ?_) (fun c_7 => ?_)
    · have h := ite_t c_7 h
      exact hk86 v8 σ0 h _ _ _ hP hS (lv_sub hl [0, 1, 5, 6] rfl)
    · have h := ite_f c_7 h
      refine lv_aload_n hx hb dX7_wears_43 rfl (lv_at hl 0 rfl) ?_
      refine g_X7_19 X O hP dX7_wears_44 ?_
      refine lv_iload_n hx hb dX7_wears_47 rfl (lv_at hl 1 rfl) ?_
      refine lv_iload hx hb dX7_wears_48 (lv_at hl 7 rfl) ?_
      obtain ⟨g_8, h⟩ := grd_s h
      obtain ⟨σ_9, e_10, h⟩ := bnd_s h
      refine x_iast X O hP hS mI_4 g_8 dX7_wears_50 e_10 (fun H locs hP hS => ?_)
      refine lv_iload hx hb dX7_wears_51 (lv_at hl 6 rfl) ?_
      refine lv_aload_n hx hb dX7_wears_53 rfl (lv_at hl 0 rfl) ?_
      refine lv_bipush (v := 60) hx hb dX7_wears_54 (by decide) ?_
      refine lv_iload_n hx hb dX7_wears_56 rfl (lv_at hl 2 rfl) ?_
      refine lv_imul hx hb dX7_wears_57 ?_
      refine lv_iload hx hb dX7_wears_58 (lv_at hl 3 rfl) ?_
      refine lv_iadd hx hb dX7_wears_60 ?_
      refine lv_iload hx hb dX7_wears_61 (lv_at hl 4 rfl) ?_
      obtain ⟨z_11, e_12, h⟩ := ob_s h
      refine x_calli (x_runV X O hP hS hl.1 (As := [.int (((60 : Int32) * v2) + v4), .int v5]) (rest := [.int v8]) (k_X7_areSo O (((60 : Int32) * v2) + v4) v5 σ_9 e_12) lt_X7 (e_X7 _) rfl wM_X7_223 wI_yX7_areSo wS_yX7_areSo wN_X7 wC_yX7_areSo hd_X7_areSo rfl ⟨rfl, rfl⟩ ⟨(Nat.le_of_ble_eq_true rfl), (Nat.le_of_ble_eq_true rfl)⟩ ⟨Nat.zero_le _, Nat.zero_le _⟩ rfl (Nat.le_of_ble_eq_true rfl) dX7_wears_63) hS (fun H locs hP hS => ?_)
      refine lv_if_eq (tgt := 76) hx hb dX7_wears_66 (by decide) (fun c_13 => ?_) (fun c_13 => ?_)
      · have h := ite_t c_13 h
        refine lv_iconst (v := 0) hx hb dX7_wears_76 (by decide) ?_
        refine lv_ior hx hb dX7_wears_77 ?_
        obtain ⟨v8_14, e_15, h⟩ := bnd_s h
        refine lv_nam e_15 ?_
        refine lv_istore (lv' := [(8, .int v8_14), (0, .ref (ta Θ 0)), (1, .int v1), (2, .int v2), (4, .int v4), (5, .int v5), (7, .int v7), (9, .int v9)]) hx hb dX7_wears_78 hl (by decide) rfl (fun ls hl => ?_)
        refine lv_iinc (v := v9 + 1) (lv' := [(9, .int (v9 + 1)), (8, .int v8_14), (0, .ref (ta Θ 0)), (1, .int v1), (2, .int v2), (4, .int v4), (5, .int v5), (7, .int v7)]) hx hb dX7_wears_80 hl (k := 7) rfl rfl (by decide) rfl (fun ls hl => ?_)
        refine lv_goto (tgt := 36) hx hb dX7_wears_83 (by decide) ?_
        exact ih v8_14 (v9 + 1) z_11.2 h _ _ _ hP hS (lv_sub hl [2, 3, 4, 5, 6, 7, 1, 0] rfl)
      · have h := ite_f c_13 h
        refine lv_iconst (v := 1) hx hb dX7_wears_69 (by decide) ?_
        refine lv_iload hx hb dX7_wears_70 (lv_at hl 7 rfl) ?_
        refine lv_ishl hx hb dX7_wears_72 ?_
        refine lv_goto (tgt := 77) hx hb dX7_wears_73 (by decide) ?_
        refine lv_ior hx hb dX7_wears_77 ?_
        obtain ⟨v8_16, e_17, h⟩ := bnd_s h
        refine lv_nam e_17 ?_
        refine lv_istore (lv' := [(8, .int v8_16), (0, .ref (ta Θ 0)), (1, .int v1), (2, .int v2), (4, .int v4), (5, .int v5), (7, .int v7), (9, .int v9)]) hx hb dX7_wears_78 hl (by decide) rfl (fun ls hl => ?_)
        refine lv_iinc (v := v9 + 1) (lv' := [(9, .int (v9 + 1)), (8, .int v8_16), (0, .ref (ta Θ 0)), (1, .int v1), (2, .int v2), (4, .int v4), (5, .int v5), (7, .int v7)]) hx hb dX7_wears_80 hl (k := 7) rfl rfl (by decide) rfl (fun ls hl => ?_)
        refine lv_goto (tgt := 36) hx hb dX7_wears_83 (by decide) ?_
        exact ih v8_16 (v9 + 1) z_11.2 h _ _ _ hP hS (lv_sub hl [2, 3, 4, 5, 6, 7, 1, 0] rfl)
theorem hd_X7_wears : yX7_wears.cls ≠ "java/lang/invoke/MethodHandle" ∧ yX7_wears.cls ≠ "java/lang/invoke/VarHandle" ∧ (parseMethodDescriptor yX7_wears.desc).map (fun d => d.parameters.length) = some 5 := by decide +kernel
set_option maxHeartbeats 4000000 in
set_option maxRecDepth 100000 in
theorem k_X7_wears {F : Nat} {Θ : TH} {l : Launch} (O : okT Θ (eM Θ) 23) (v1 : Int32) (v2 : Int32) (v3 : Int32) (v4 : Int32) (v5 : Int32) (σ0 : Mem) {y : Int32 × Mem} (h : X7_wears F v1 v2 v3 v4 v5 σ0 = some y) : Met l yX7_wears (Cond.code yX7_wears cX7_wears 10 (some .int) :: wAll) rm_X7_wears (va_Pc [.ref (ta Θ 0), .int v1, .int v2, .int v3, .int v4, .int v5] (tS Θ σ0)) (qI Θ y.1 y.2) 0 0 (tA Θ) := by
  refine x_ent (by decide) (Nat.le_of_ble_eq_true rfl) (fun p e s m below meth c X hr hlk hP ls hl => ?_)
  have hS : va_S (tA Θ) s.heap s.heap [] := va_S.rf
  have hl : lv_has ls 10 [(0, .ref (ta Θ 0)), (1, .int v1), (2, .int v2), (3, .int v3), (4, .int v4), (5, .int v5)] := hl
  have hx := X.1
  have hb := X.2.1
  unfold X7_wears at h
  refine lv_aload_n hx hb dX7_wears_0 rfl (lv_at hl 0 rfl) ?_
  refine lv_iload_n hx hb dX7_wears_1 rfl (lv_at hl 1 rfl) ?_
  refine lv_iload_n hx hb dX7_wears_2 rfl (lv_at hl 2 rfl) ?_
  refine lv_iload_n hx hb dX7_wears_3 rfl (lv_at hl 3 rfl) ?_
  refine lv_iload hx hb dX7_wears_4 (lv_at hl 4 rfl) ?_
  refine lv_iload hx hb dX7_wears_6 (lv_at hl 5 rfl) ?_
  refine lv_iconst (v := 1) hx hb dX7_wears_8 (by decide) ?_
  obtain ⟨z_1, e_2, h⟩ := ob_s h
  refine x_calli (x_runV X O hP hS hl.1 (As := [.int v1, .int v2, .int v3, .int v4, .int v5, .int 1]) (rest := []) (k_X7_seenBarred O v1 v2 v3 v4 v5 (1 : Int32) σ0 e_2) lt_X7 (e_X7 _) rfl wM_X7_219 wI_yX7_seenBarred wS_yX7_seenBarred wN_X7 wC_yX7_seenBarred hd_X7_seenBarred rfl ⟨rfl, rfl⟩ ⟨(Nat.le_of_ble_eq_true rfl), (Nat.le_of_ble_eq_true rfl)⟩ ⟨Nat.zero_le _, Nat.zero_le _⟩ rfl (Nat.le_of_ble_eq_true rfl) dX7_wears_9) hS (fun H locs hP hS => ?_)
  refine lv_istore (lv' := [(6, .int z_1.1), (0, .ref (ta Θ 0)), (1, .int v1), (2, .int v2), (3, .int v3), (4, .int v4), (5, .int v5)]) hx hb dX7_wears_12 hl (by decide) rfl (fun ls hl => ?_)
  refine lv_iload hx hb dX7_wears_14 (lv_at hl 0 rfl) ?_
  refine lv_if_ge (tgt := 22) hx hb dX7_wears_16 (by decide) (fun c_3 => ?_) (fun c_3 => ?_)
  · have h := ite_t c_3 h
    refine lv_aload_n hx hb dX7_wears_22 rfl (lv_at hl 1 rfl) ?_
    refine g_X7_19 X O hP dX7_wears_23 ?_
    refine lv_iload_n hx hb dX7_wears_26 rfl (lv_at hl 2 rfl) ?_
    obtain ⟨g_4, h⟩ := grd_s h
    refine x_iald X O hP mI_4 g_4 dX7_wears_27 ?_
    obtain ⟨v7_5, e_6, h⟩ := bnd_s h
    refine lv_nam e_6 ?_
    refine lv_istore (lv' := [(7, .int v7_5), (6, .int z_1.1), (0, .ref (ta Θ 0)), (1, .int v1), (2, .int v2), (3, .int v3), (4, .int v4), (5, .int v5)]) hx hb dX7_wears_28 hl (by decide) rfl (fun ls hl => ?_)
    refine lv_iconst (v := 0) hx hb dX7_wears_30 (by decide) ?_
    refine lv_istore (lv' := [(8, .int 0), (7, .int v7_5), (6, .int z_1.1), (0, .ref (ta Θ 0)), (1, .int v1), (2, .int v2), (3, .int v3), (4, .int v4), (5, .int v5)]) hx hb dX7_wears_31 hl (by decide) rfl (fun ls hl => ?_)
    refine lv_iconst (v := 1) hx hb dX7_wears_33 (by decide) ?_
    refine lv_istore (lv' := [(9, .int 1), (8, .int 0), (7, .int v7_5), (6, .int z_1.1), (0, .ref (ta Θ 0)), (1, .int v1), (2, .int v2), (3, .int v3), (4, .int v4), (5, .int v5)]) hx hb dX7_wears_34 hl (by decide) rfl (fun ls hl => ?_)
    refine w_X7_wears_L36 X O hr hlk v1 v2 v4 v5 v7_5 ?_ _ (0 : Int32) (1 : Int32) z_1.2 h _ _ _ hP hS (lv_sub hl [4, 5, 6, 8, 9, 2, 1, 0] rfl)
    · intro v8_18 σ_19 h H locs ls hP hS hl
      refine lv_aload_n hx hb dX7_wears_86 rfl (lv_at hl 0 rfl) ?_
      refine g_X7_19 X O hP dX7_wears_87 ?_
      refine lv_iload_n hx hb dX7_wears_90 rfl (lv_at hl 1 rfl) ?_
      refine lv_iload hx hb dX7_wears_91 (lv_at hl 2 rfl) ?_
      obtain ⟨g_20, h⟩ := grd_s h
      obtain ⟨σ_21, e_22, h⟩ := bnd_s h
      refine x_iast X O hP hS mI_4 g_20 dX7_wears_93 e_22 (fun H locs hP hS => ?_)
      refine lv_iload hx hb dX7_wears_94 (lv_at hl 3 rfl) ?_
      have h := some_i h
      subst h
      exact x_reti X hP hS hr hlk rfl rfl dX7_wears_96
  · have h := ite_f c_3 h
    refine lv_iload hx hb dX7_wears_19 (lv_at hl 0 rfl) ?_
    have h := some_i h
    subst h
    exact x_reti X hP hS hr hlk rfl rfl dX7_wears_21
abbrev rm_X7_odds : Room := { frames := 4, cells := 0, slots := 0, locals := 100 }
set_option maxHeartbeats 4000000 in
set_option maxRecDepth 100000 in
theorem w_X7_odds_L69 {F : Nat} {Θ : TH} {p : Program} {l : Launch} {e : Env} {s : State} {m : MethodId} {args : Array Value} {below : List Frame} {meth : Method} {c : Code} (X : CX Θ p s m args c RX7 cX7_odds 9) (O : okT Θ (eM Θ) 23) (hr : meth.sig.returnType = some .long) (hlk : meth.locks = false) (v1 : Int32) (v6 : Int32) (σ0 : Mem) {y : Int64 × Mem} {k108 : Int32 → Option (Int64 × Mem)} (hk108 : ∀ (v7 : Int32), k108 v7 = some y → ∀ (H : Heap) (locs : List Loc) (ls : Array Slot), va_P (tD Θ) vwCl (tw Θ σ0) H → va_S (tA Θ) s.heap H locs → lv_has ls 9 [(6, .int v6), (7, .int v7)] → W p l e rm_X7_odds s m args below meth c H locs 0 0 (MQ below (qL Θ y.1 y.2) args s 0 0 (tA Θ)) (F0 m 108 ls [])) :
    ∀ (f : Nat) (v7 : Int32) (v8 : Int32), X7_odds_L69 F v1 v6 σ0 k108 f v7 v8 = some y → ∀ (H : Heap) (locs : List Loc) (ls : Array Slot), va_P (tD Θ) vwCl (tw Θ σ0) H → va_S (tA Θ) s.heap H locs → lv_has ls 9 [(0, .ref (ta Θ 0)), (1, .int v1), (6, .int v6), (7, .int v7), (8, .int v8)] → W p l e rm_X7_odds s m args below meth c H locs 0 0 (MQ below (qL Θ y.1 y.2) args s 0 0 (tA Θ)) (F0 m 69 ls []) := by
  have hx := X.1
  have hb := X.2.1
  intro f
  induction f with
  | zero => intro v7 v8 h; cases h
  | succ f ih =>
    intro v7 v8 h H locs ls hP hS hl
    rw [X7_odds_L69] at h
    refine lv_iload hx hb dX7_odds_69 (lv_at hl 4 rfl) ?_
    refine lv_aload_n hx hb dX7_odds_71 rfl (lv_at hl 0 rfl) ?_
    refine g_X7_87 X O hP dX7_odds_72 ?_
    refine lv_icmp_ge (tgt := 108) hx hb dX7_odds_75 (by decide) (fun c_9 => ?_) (fun c_9 => ?_)
    · have h := ite_t c_9 h
      exact hk108 v7 h _ _ _ hP hS (lv_sub hl [2, 3] rfl)
    · have h := ite_f c_9 h
      refine lv_iload hx hb dX7_odds_78 (lv_at hl 3 rfl) ?_
      refine lv_aload_n hx hb dX7_odds_80 rfl (lv_at hl 0 rfl) ?_
      refine g_X7_46 X O hP dX7_odds_81 ?_
      refine lv_iload_n hx hb dX7_odds_84 rfl (lv_at hl 1 rfl) ?_
      obtain ⟨g_10, h⟩ := grd_s h
      refine x_iald X O hP mI_13 g_10 dX7_odds_85 ?_
      refine lv_iload hx hb dX7_odds_86 (lv_at hl 4 rfl) ?_
      refine x_calli (x_runS X hP hS hl.1 (As := [.int (σ0 13 v1.toNatClampNeg), .int v8]) (rest := [.int v7]) (k_X7_isIn O (σ0 13 v1.toNatClampNeg) v8 σ0 rfl) wM_X7_149 wT_yX7_isIn wN_X7 wC_yX7_isIn hd_X7_isIn rfl ⟨rfl, rfl⟩ ⟨(Nat.le_of_ble_eq_true rfl), (Nat.le_of_ble_eq_true rfl)⟩ ⟨Nat.zero_le _, Nat.zero_le _⟩ rfl (Nat.le_of_ble_eq_true rfl) dX7_odds_88) hS (fun H locs hP hS => ?_)
      refine lv_if_eq (tgt := 98) hx hb dX7_odds_91 (by decide) (fun c_11 => ?_) (fun c_11 => ?_)
      · have h := ite_t c_11 h
        refine lv_iconst (v := 0) hx hb dX7_odds_98 (by decide) ?_
        refine lv_iadd hx hb dX7_odds_99 ?_
        obtain ⟨v7_12, e_13, h⟩ := bnd_s h
        refine lv_nam e_13 ?_
        refine lv_istore (lv' := [(7, .int v7_12), (0, .ref (ta Θ 0)), (1, .int v1), (6, .int v6), (8, .int v8)]) hx hb dX7_odds_100 hl (by decide) rfl (fun ls hl => ?_)
        refine lv_iinc (v := v8 + 1) (lv' := [(8, .int (v8 + 1)), (7, .int v7_12), (0, .ref (ta Θ 0)), (1, .int v1), (6, .int v6)]) hx hb dX7_odds_102 hl (k := 4) rfl rfl (by decide) rfl (fun ls hl => ?_)
        refine lv_goto (tgt := 69) hx hb dX7_odds_105 (by decide) ?_
        exact ih v7_12 (v8 + 1) h _ _ _ hP hS (lv_sub hl [2, 3, 4, 1, 0] rfl)
      · have h := ite_f c_11 h
        refine lv_iconst (v := 1) hx hb dX7_odds_94 (by decide) ?_
        refine lv_goto (tgt := 99) hx hb dX7_odds_95 (by decide) ?_
        refine lv_iadd hx hb dX7_odds_99 ?_
        obtain ⟨v7_14, e_15, h⟩ := bnd_s h
        refine lv_nam e_15 ?_
        refine lv_istore (lv' := [(7, .int v7_14), (0, .ref (ta Θ 0)), (1, .int v1), (6, .int v6), (8, .int v8)]) hx hb dX7_odds_100 hl (by decide) rfl (fun ls hl => ?_)
        refine lv_iinc (v := v8 + 1) (lv' := [(8, .int (v8 + 1)), (7, .int v7_14), (0, .ref (ta Θ 0)), (1, .int v1), (6, .int v6)]) hx hb dX7_odds_102 hl (k := 4) rfl rfl (by decide) rfl (fun ls hl => ?_)
        refine lv_goto (tgt := 69) hx hb dX7_odds_105 (by decide) ?_
        exact ih v7_14 (v8 + 1) h _ _ _ hP hS (lv_sub hl [2, 3, 4, 1, 0] rfl)
theorem hd_X7_odds : yX7_odds.cls ≠ "java/lang/invoke/MethodHandle" ∧ yX7_odds.cls ≠ "java/lang/invoke/VarHandle" ∧ (parseMethodDescriptor yX7_odds.desc).map (fun d => d.parameters.length) = some 6 := by decide +kernel
set_option maxHeartbeats 4000000 in
set_option maxRecDepth 100000 in
theorem k_X7_odds {F : Nat} {Θ : TH} {l : Launch} (O : okT Θ (eM Θ) 23) (v1 : Int32) (v2 : Int32) (v3 : Int32) (v4 : Int32) (v5 : Int32) (v6 : Int32) (σ0 : Mem) {y : Int64 × Mem} (h : X7_odds F v1 v2 v3 v4 v5 v6 σ0 = some y) : Met l yX7_odds (Cond.code yX7_odds cX7_odds 9 (some .long) :: wAll) rm_X7_odds (va_Pc [.ref (ta Θ 0), .int v1, .int v2, .int v3, .int v4, .int v5, .int v6] (tS Θ σ0)) (qL Θ y.1 y.2) 0 0 (tA Θ) := by
  refine x_ent (by decide) (Nat.le_of_ble_eq_true rfl) (fun p e s m below meth c X hr hlk hP ls hl => ?_)
  have hS : va_S (tA Θ) s.heap s.heap [] := va_S.rf
  have hl : lv_has ls 9 [(0, .ref (ta Θ 0)), (1, .int v1), (2, .int v2), (3, .int v3), (4, .int v4), (5, .int v5), (6, .int v6)] := hl
  have hx := X.1
  have hb := X.2.1
  unfold X7_odds at h
  refine lv_aload_n hx hb dX7_odds_0 rfl (lv_at hl 0 rfl) ?_
  refine lv_iload_n hx hb dX7_odds_1 rfl (lv_at hl 1 rfl) ?_
  refine lv_iload_n hx hb dX7_odds_2 rfl (lv_at hl 2 rfl) ?_
  refine lv_iload_n hx hb dX7_odds_3 rfl (lv_at hl 3 rfl) ?_
  refine lv_iload hx hb dX7_odds_4 (lv_at hl 4 rfl) ?_
  refine lv_iload hx hb dX7_odds_6 (lv_at hl 5 rfl) ?_
  refine lv_iload hx hb dX7_odds_8 (lv_at hl 6 rfl) ?_
  refine lv_i2l (v := v6.toInt64) hx hb dX7_odds_10 rfl ?_
  refine lv_lconst (v := 0) hx hb dX7_odds_11 (by decide) ?_
  refine lv_lconst (v := 1) hx hb dX7_odds_12 (by decide) ?_
  refine x_calli (x_runS X hP hS hl.1 (As := [.long v6.toInt64, .long 0, .long 1]) (rest := [.int v5, .int v4, .int v3, .int v2, .int v1, .ref (ta Θ 0)]) (k_X7_in O v6.toInt64 (0 : Int64) (1 : Int64) σ0 rfl) wM_X7_90 wT_yX7_in wN_X7 wC_yX7_in hd_X7_in rfl ⟨rfl, rfl⟩ ⟨(Nat.le_of_ble_eq_true rfl), (Nat.le_of_ble_eq_true rfl)⟩ ⟨Nat.zero_le _, Nat.zero_le _⟩ rfl (Nat.le_of_ble_eq_true rfl) dX7_odds_13) hS (fun H locs hP hS => ?_)
  obtain ⟨z_1, e_2, h⟩ := ob_s h
  refine x_calli (x_runV X O hP hS hl.1 (As := [.int v1, .int v2, .int v3, .int v4, .int v5, .int (X7_in v6.toInt64 (0 : Int64) (1 : Int64))]) (rest := []) (k_X7_seenBarred O v1 v2 v3 v4 v5 (X7_in v6.toInt64 (0 : Int64) (1 : Int64)) σ0 e_2) lt_X7 (e_X7 _) rfl wM_X7_219 wI_yX7_seenBarred wS_yX7_seenBarred wN_X7 wC_yX7_seenBarred hd_X7_seenBarred rfl ⟨rfl, rfl⟩ ⟨(Nat.le_of_ble_eq_true rfl), (Nat.le_of_ble_eq_true rfl)⟩ ⟨Nat.zero_le _, Nat.zero_le _⟩ rfl (Nat.le_of_ble_eq_true rfl) dX7_odds_16) hS (fun H locs hP hS => ?_)
  refine lv_if_ge (tgt := 26) hx hb dX7_odds_19 (by decide) (fun c_3 => ?_) (fun c_3 => ?_)
  · have h := ite_t c_3 h
    refine lv_aload_n hx hb dX7_odds_26 rfl (lv_at hl 0 rfl) ?_
    refine lv_bipush (v := 60) hx hb dX7_odds_27 (by decide) ?_
    refine lv_iload_n hx hb dX7_odds_29 rfl (lv_at hl 2 rfl) ?_
    refine lv_imul hx hb dX7_odds_30 ?_
    refine lv_iload hx hb dX7_odds_31 (lv_at hl 4 rfl) ?_
    refine lv_iadd hx hb dX7_odds_33 ?_
    refine lv_iload hx hb dX7_odds_34 (lv_at hl 5 rfl) ?_
    obtain ⟨σ_4, e_5, h⟩ := ob_s h
    refine x_callv (x_runV X O hP hS hl.1 (As := [.int (((60 : Int32) * v2) + v4), .int v5]) (rest := []) (k_X7_goLoans O (((60 : Int32) * v2) + v4) v5 z_1.2 e_5) lt_X7 (e_X7 _) rfl wM_X7_202 wI_yX7_goLoans wS_yX7_goLoans wN_X7 wC_yX7_goLoans hd_X7_goLoans rfl ⟨rfl, rfl⟩ ⟨(Nat.le_of_ble_eq_true rfl), (Nat.le_of_ble_eq_true rfl)⟩ ⟨Nat.zero_le _, Nat.zero_le _⟩ rfl (Nat.le_of_ble_eq_true rfl) dX7_odds_36) hS (fun H locs hP hS => ?_)
    refine lv_aload_n hx hb dX7_odds_39 rfl (lv_at hl 0 rfl) ?_
    refine g_X7_159 X O hP dX7_odds_40 ?_
    refine lv_if_lt (tgt := 50) hx hb dX7_odds_43 (by decide) (fun c_6 => ?_) (fun c_6 => ?_)
    · have h := ite_t c_6 h
      refine lv_aload_n hx hb dX7_odds_50 rfl (lv_at hl 0 rfl) ?_
      refine g_X7_16 X O hP dX7_odds_51 ?_
      refine lv_iload_n hx hb dX7_odds_54 rfl (lv_at hl 1 rfl) ?_
      obtain ⟨g_7, h⟩ := grd_s h
      refine x_iald X O hP mI_3 g_7 dX7_odds_55 ?_
      refine lv_bipush (v := 6) hx hb dX7_odds_56 (by decide) ?_
      refine lv_icmp_ne (tgt := 63) hx hb dX7_odds_58 (by decide) (fun c_8 => ?_) (fun c_8 => ?_)
      · have h := ite_f c_8 h
        refine lv_iconst (v := 0) hx hb dX7_odds_63 (by decide) ?_
        refine lv_istore (lv' := [(7, .int 0), (0, .ref (ta Θ 0)), (1, .int v1), (2, .int v2), (3, .int v3), (4, .int v4), (5, .int v5), (6, .int v6)]) hx hb dX7_odds_64 hl (by decide) rfl (fun ls hl => ?_)
        refine lv_iconst (v := 0) hx hb dX7_odds_66 (by decide) ?_
        refine lv_istore (lv' := [(8, .int 0), (7, .int 0), (0, .ref (ta Θ 0)), (1, .int v1), (2, .int v2), (3, .int v3), (4, .int v4), (5, .int v5), (6, .int v6)]) hx hb dX7_odds_67 hl (by decide) rfl (fun ls hl => ?_)
        refine w_X7_odds_L69 X O hr hlk v1 v6 σ_4 ?_ _ (0 : Int32) (0 : Int32) h _ _ _ hP hS (lv_sub hl [2, 3, 8, 1, 0] rfl)
        · intro v7_16 h H locs ls hP hS hl
          refine lv_iload hx hb dX7_odds_108 (lv_at hl 0 rfl) ?_
          refine lv_if_ne (tgt := 122) hx hb dX7_odds_110 (by decide) (fun c_17 => ?_) (fun c_17 => ?_)
          · have h := ite_f c_17 h
            refine lv_lconst (v := 1) hx hb dX7_odds_122 (by decide) ?_
            refine lv_iload hx hb dX7_odds_123 (lv_at hl 1 rfl) ?_
            refine lv_lshl (v := (1 : Int64) <<< (v7_16.toInt64 &&& 63)) hx hb dX7_odds_125 rfl ?_
            have h := some_i h
            subst h
            exact x_retl X hP hS hr hlk rfl rfl dX7_odds_126
          · have h := ite_t c_17 h
            refine lv_lconst (v := 1) hx hb dX7_odds_113 (by decide) ?_
            refine lv_iload hx hb dX7_odds_114 (lv_at hl 1 rfl) ?_
            refine lv_lshl (v := (1 : Int64) <<< (v7_16.toInt64 &&& 63)) hx hb dX7_odds_116 rfl ?_
            refine lv_lconst (v := 1) hx hb dX7_odds_117 (by decide) ?_
            refine lv_lsub hx hb dX7_odds_118 ?_
            refine lv_goto (tgt := 126) hx hb dX7_odds_119 (by decide) ?_
            have h := some_i h
            subst h
            exact x_retl X hP hS hr hlk rfl rfl dX7_odds_126
      · have h := ite_t c_8 h
        refine lv_lconst (v := 1) hx hb dX7_odds_61 (by decide) ?_
        have h := some_i h
        subst h
        exact x_retl X hP hS hr hlk rfl rfl dX7_odds_62
    · have h := ite_f c_6 h
      refine x_calll (x_runS X hP hS hl.1 (As := []) (rest := []) (k_X7_lost O σ_4 rfl) wM_X7_83 wT_yX7_lost wN_X7 wC_yX7_lost hd_X7_lost rfl ⟨rfl, rfl⟩ ⟨(Nat.le_of_ble_eq_true rfl), (Nat.le_of_ble_eq_true rfl)⟩ ⟨Nat.zero_le _, Nat.zero_le _⟩ rfl (Nat.le_of_ble_eq_true rfl) dX7_odds_46) hS (fun H locs hP hS => ?_)
      have h := some_i h
      subst h
      exact x_retl X hP hS hr hlk rfl rfl dX7_odds_49
  · have h := ite_f c_3 h
    refine x_calll (x_runS X hP hS hl.1 (As := []) (rest := []) (k_X7_lost O z_1.2 rfl) wM_X7_83 wT_yX7_lost wN_X7 wC_yX7_lost hd_X7_lost rfl ⟨rfl, rfl⟩ ⟨(Nat.le_of_ble_eq_true rfl), (Nat.le_of_ble_eq_true rfl)⟩ ⟨Nat.zero_le _, Nat.zero_le _⟩ rfl (Nat.le_of_ble_eq_true rfl) dX7_odds_22) hS (fun H locs hP hS => ?_)
    have h := some_i h
    subst h
    exact x_retl X hP hS hr hlk rfl rfl dX7_odds_25
abbrev rm_X7_sheet : Room := { frames := 2, cells := 0, slots := 0, locals := 45 }
set_option maxHeartbeats 4000000 in
set_option maxRecDepth 100000 in
theorem w_X7_sheet_L65 {F : Nat} {Θ : TH} {p : Program} {l : Launch} {e : Env} {s : State} {m : MethodId} {args : Array Value} {below : List Frame} {meth : Method} {c : Code} (X : CX Θ p s m args c RX7 cX7_sheet 5) (O : okT Θ (eM Θ) 23) (hr : meth.sig.returnType = some .int) (hlk : meth.locks = false) (v1 : Int32) (v3 : Int32) {y : Int32 × Mem} {k90 : Mem → Option (Int32 × Mem)} (hk90 : ∀ (σ0 : Mem), k90 σ0 = some y → ∀ (H : Heap) (locs : List Loc) (ls : Array Slot), va_P (tD Θ) vwCl (tw Θ σ0) H → va_S (tA Θ) s.heap H locs → lv_has ls 5 [(0, .ref (ta Θ 0))] → W p l e rm_X7_sheet s m args below meth c H locs 0 0 (MQ below (qI Θ y.1 y.2) args s 0 0 (tA Θ)) (F0 m 90 ls [])) :
    ∀ (f : Nat) (v4 : Int32) (σ0 : Mem), X7_sheet_L65 F v1 v3 k90 f v4 σ0 = some y → ∀ (H : Heap) (locs : List Loc) (ls : Array Slot), va_P (tD Θ) vwCl (tw Θ σ0) H → va_S (tA Θ) s.heap H locs → lv_has ls 5 [(0, .ref (ta Θ 0)), (1, .int v1), (3, .int v3), (4, .int v4)] → W p l e rm_X7_sheet s m args below meth c H locs 0 0 (MQ below (qI Θ y.1 y.2) args s 0 0 (tA Θ)) (F0 m 65 ls []) := by
  have hx := X.1
  have hb := X.2.1
  intro f
  induction f with
  | zero => intro v4 σ0 h; cases h
  | succ f ih =>
    intro v4 σ0 h H locs ls hP hS hl
    rw [X7_sheet_L65] at h
    refine lv_iload hx hb dX7_sheet_65 (lv_at hl 3 rfl) ?_
    refine lv_iload_n hx hb dX7_sheet_67 rfl (lv_at hl 2 rfl) ?_
    refine lv_icmp_ge (tgt := 90) hx hb dX7_sheet_68 (by decide) (fun c_13 => ?_) (fun c_13 => ?_)
    · have h := ite_t c_13 h
      exact hk90 σ0 h _ _ _ hP hS (lv_sub hl [0] rfl)
    · have h := ite_f c_13 h
      refine lv_aload_n hx hb dX7_sheet_71 rfl (lv_at hl 0 rfl) ?_
      refine g_X7_71 X O hP dX7_sheet_72 ?_
      refine lv_bipush (v := 60) hx hb dX7_sheet_75 (by decide) ?_
      refine lv_iload_n hx hb dX7_sheet_77 rfl (lv_at hl 1 rfl) ?_
      refine lv_imul hx hb dX7_sheet_78 ?_
      refine lv_iload hx hb dX7_sheet_79 (lv_at hl 3 rfl) ?_
      refine lv_iadd hx hb dX7_sheet_81 ?_
      refine lv_iconst (v := 0) hx hb dX7_sheet_82 (by decide) ?_
      obtain ⟨g_14, h⟩ := grd_s h
      obtain ⟨σ_15, e_16, h⟩ := bnd_s h
      refine x_iast X O hP hS mI_21 g_14 dX7_sheet_83 e_16 (fun H locs hP hS => ?_)
      refine lv_iinc (v := v4 + 1) (lv' := [(4, .int (v4 + 1)), (0, .ref (ta Θ 0)), (1, .int v1), (3, .int v3)]) hx hb dX7_sheet_84 hl (k := 3) rfl rfl (by decide) rfl (fun ls hl => ?_)
      refine lv_goto (tgt := 65) hx hb dX7_sheet_87 (by decide) ?_
      exact ih (v4 + 1) σ_15 h _ _ _ hP hS (lv_sub hl [1, 2, 3, 0] rfl)
theorem hd_X7_sheet : yX7_sheet.cls ≠ "java/lang/invoke/MethodHandle" ∧ yX7_sheet.cls ≠ "java/lang/invoke/VarHandle" ∧ (parseMethodDescriptor yX7_sheet.desc).map (fun d => d.parameters.length) = some 3 := by decide +kernel
set_option maxHeartbeats 4000000 in
set_option maxRecDepth 100000 in
theorem k_X7_sheet {F : Nat} {Θ : TH} {l : Launch} (O : okT Θ (eM Θ) 23) (v1 : Int32) (v2 : Int32) (v3 : Int32) (σ0 : Mem) {y : Int32 × Mem} (h : X7_sheet F v1 v2 v3 σ0 = some y) : Met l yX7_sheet (Cond.code yX7_sheet cX7_sheet 5 (some .int) :: wAll) rm_X7_sheet (va_Pc [.ref (ta Θ 0), .int v1, .int v2, .int v3] (tS Θ σ0)) (qI Θ y.1 y.2) 0 0 (tA Θ) := by
  refine x_ent (by decide) (Nat.le_of_ble_eq_true rfl) (fun p e s m below meth c X hr hlk hP ls hl => ?_)
  have hS : va_S (tA Θ) s.heap s.heap [] := va_S.rf
  have hl : lv_has ls 5 [(0, .ref (ta Θ 0)), (1, .int v1), (2, .int v2), (3, .int v3)] := hl
  have hx := X.1
  have hb := X.2.1
  unfold X7_sheet at h
  refine lv_iload_n hx hb dX7_sheet_0 rfl (lv_at hl 1 rfl) ?_
  refine x_calli (x_runS X hP hS hl.1 (As := [.int v1]) (rest := []) (k_X7_noSheet O v1 σ0 rfl) wM_X7_120 wT_yX7_noSheet wN_X7 wC_yX7_noSheet hd_X7_noSheet rfl ⟨rfl, rfl⟩ ⟨(Nat.le_of_ble_eq_true rfl), (Nat.le_of_ble_eq_true rfl)⟩ ⟨Nat.zero_le _, Nat.zero_le _⟩ rfl (Nat.le_of_ble_eq_true rfl) dX7_sheet_1) hS (fun H locs hP hS => ?_)
  refine lv_if_eq (tgt := 13) hx hb dX7_sheet_4 (by decide) (fun c_1 => ?_) (fun c_1 => ?_)
  · have h := ite_t c_1 h
    refine lv_iload_n hx hb dX7_sheet_13 rfl (lv_at hl 2 rfl) ?_
    refine lv_i2l (v := v2.toInt64) hx hb dX7_sheet_14 rfl ?_
    refine lv_lconst (v := 0) hx hb dX7_sheet_15 (by decide) ?_
    refine lv_ldc2 (v := 2) hx hb X.2.2.2.1 (X.2.2.2.2.1 _ wL_X7_127) dX7_sheet_16 ?_
    refine x_calli (x_runS X hP hS hl.1 (As := [.long v2.toInt64, .long 0, .long 2]) (rest := []) (k_X7_in O v2.toInt64 (0 : Int64) (2 : Int64) σ0 rfl) wM_X7_90 wT_yX7_in wN_X7 wC_yX7_in hd_X7_in rfl ⟨rfl, rfl⟩ ⟨(Nat.le_of_ble_eq_true rfl), (Nat.le_of_ble_eq_true rfl)⟩ ⟨Nat.zero_le _, Nat.zero_le _⟩ rfl (Nat.le_of_ble_eq_true rfl) dX7_sheet_19) hS (fun H locs hP hS => ?_)
    refine lv_if_eq (tgt := 31) hx hb dX7_sheet_22 (by decide) (fun c_2 => ?_) (fun c_2 => ?_)
    · have h := ite_t c_2 h
      refine lv_aload_n hx hb dX7_sheet_31 rfl (lv_at hl 0 rfl) ?_
      refine lv_bipush (v := (-2)) hx hb dX7_sheet_32 (by decide) ?_
      obtain ⟨z_3, e_4, h⟩ := bnd_s h
      refine x_calli (x_runV X O hP hS hl.1 (As := [.int ((-2))]) (rest := []) (k_X7_refused O (-2 : Int32) σ0 e_4.symm) lt_X7 (e_X7 _) rfl wM_X7_124 wI_yX7_refused wS_yX7_refused wN_X7 wC_yX7_refused hd_X7_refused rfl ⟨rfl, rfl⟩ ⟨(Nat.le_of_ble_eq_true rfl), (Nat.le_of_ble_eq_true rfl)⟩ ⟨Nat.zero_le _, Nat.zero_le _⟩ rfl (Nat.le_of_ble_eq_true rfl) dX7_sheet_34) hS (fun H locs hP hS => ?_)
      have h := some_i h
      subst h
      exact x_reti X hP hS hr hlk rfl rfl dX7_sheet_37
    · have h := ite_f c_2 h
      refine lv_iload_n hx hb dX7_sheet_25 rfl (lv_at hl 3 rfl) ?_
      refine lv_bipush (v := 60) hx hb dX7_sheet_26 (by decide) ?_
      refine lv_icmp_le (tgt := 38) hx hb dX7_sheet_28 (by decide) (fun c_5 => ?_) (fun c_5 => ?_)
      · have h := ite_t c_5 h
        refine lv_iload_n hx hb dX7_sheet_38 rfl (lv_at hl 3 rfl) ?_
        refine lv_if_ge (tgt := 48) hx hb dX7_sheet_39 (by decide) (fun c_6 => ?_) (fun c_6 => ?_)
        · have h := ite_t c_6 h
          refine lv_aload_n hx hb dX7_sheet_48 rfl (lv_at hl 0 rfl) ?_
          refine g_X7_65 X O hP dX7_sheet_49 ?_
          refine lv_iload_n hx hb dX7_sheet_52 rfl (lv_at hl 1 rfl) ?_
          refine lv_iload_n hx hb dX7_sheet_53 rfl (lv_at hl 3 rfl) ?_
          obtain ⟨g_7, h⟩ := grd_s h
          obtain ⟨σ_8, e_9, h⟩ := bnd_s h
          refine x_iast X O hP hS mI_19 g_7 dX7_sheet_54 e_9 (fun H locs hP hS => ?_)
          refine lv_aload_n hx hb dX7_sheet_55 rfl (lv_at hl 0 rfl) ?_
          refine g_X7_68 X O hP dX7_sheet_56 ?_
          refine lv_iload_n hx hb dX7_sheet_59 rfl (lv_at hl 1 rfl) ?_
          refine lv_iload_n hx hb dX7_sheet_60 rfl (lv_at hl 2 rfl) ?_
          obtain ⟨g_10, h⟩ := grd_s h
          obtain ⟨σ_11, e_12, h⟩ := bnd_s h
          refine x_iast X O hP hS mI_20 g_10 dX7_sheet_61 e_12 (fun H locs hP hS => ?_)
          refine lv_iconst (v := 0) hx hb dX7_sheet_62 (by decide) ?_
          refine lv_istore (lv' := [(4, .int 0), (0, .ref (ta Θ 0)), (1, .int v1), (2, .int v2), (3, .int v3)]) hx hb dX7_sheet_63 hl (by decide) rfl (fun ls hl => ?_)
          refine w_X7_sheet_L65 X O hr hlk v1 v3 ?_ _ (0 : Int32) σ_11 h _ _ _ hP hS (lv_sub hl [1, 2, 4, 0] rfl)
          · intro σ_17 h H locs ls hP hS hl
            refine lv_aload_n hx hb dX7_sheet_90 rfl (lv_at hl 0 rfl) ?_
            refine lv_iconst (v := 1) hx hb dX7_sheet_91 (by decide) ?_
            obtain ⟨z_18, e_19, h⟩ := bnd_s h
            refine x_calli (x_runV X O hP hS hl.1 (As := [.int 1]) (rest := []) (k_X7_refused O (1 : Int32) σ_17 e_19.symm) lt_X7 (e_X7 _) rfl wM_X7_124 wI_yX7_refused wS_yX7_refused wN_X7 wC_yX7_refused hd_X7_refused rfl ⟨rfl, rfl⟩ ⟨(Nat.le_of_ble_eq_true rfl), (Nat.le_of_ble_eq_true rfl)⟩ ⟨Nat.zero_le _, Nat.zero_le _⟩ rfl (Nat.le_of_ble_eq_true rfl) dX7_sheet_92) hS (fun H locs hP hS => ?_)
            have h := some_i h
            subst h
            exact x_reti X hP hS hr hlk rfl rfl dX7_sheet_95
        · have h := ite_f c_6 h
          refine lv_aload_n hx hb dX7_sheet_42 rfl (lv_at hl 0 rfl) ?_
          refine lv_iconst (v := 4) hx hb dX7_sheet_43 (by decide) ?_
          obtain ⟨z_20, e_21, h⟩ := bnd_s h
          refine x_calli (x_runV X O hP hS hl.1 (As := [.int 4]) (rest := []) (k_X7_failed O (4 : Int32) σ0 e_21.symm) lt_X7 (e_X7 _) rfl wM_X7_112 wI_yX7_failed wS_yX7_failed wN_X7 wC_yX7_failed hd_X7_failed rfl ⟨rfl, rfl⟩ ⟨(Nat.le_of_ble_eq_true rfl), (Nat.le_of_ble_eq_true rfl)⟩ ⟨Nat.zero_le _, Nat.zero_le _⟩ rfl (Nat.le_of_ble_eq_true rfl) dX7_sheet_44) hS (fun H locs hP hS => ?_)
          have h := some_i h
          subst h
          exact x_reti X hP hS hr hlk rfl rfl dX7_sheet_47
      · have h := ite_f c_5 h
        refine lv_aload_n hx hb dX7_sheet_31 rfl (lv_at hl 0 rfl) ?_
        refine lv_bipush (v := (-2)) hx hb dX7_sheet_32 (by decide) ?_
        obtain ⟨z_22, e_23, h⟩ := bnd_s h
        refine x_calli (x_runV X O hP hS hl.1 (As := [.int ((-2))]) (rest := []) (k_X7_refused O (-2 : Int32) σ0 e_23.symm) lt_X7 (e_X7 _) rfl wM_X7_124 wI_yX7_refused wS_yX7_refused wN_X7 wC_yX7_refused hd_X7_refused rfl ⟨rfl, rfl⟩ ⟨(Nat.le_of_ble_eq_true rfl), (Nat.le_of_ble_eq_true rfl)⟩ ⟨Nat.zero_le _, Nat.zero_le _⟩ rfl (Nat.le_of_ble_eq_true rfl) dX7_sheet_34) hS (fun H locs hP hS => ?_)
        have h := some_i h
        subst h
        exact x_reti X hP hS hr hlk rfl rfl dX7_sheet_37
  · have h := ite_f c_1 h
    refine lv_aload_n hx hb dX7_sheet_7 rfl (lv_at hl 0 rfl) ?_
    refine lv_iconst (v := (-1)) hx hb dX7_sheet_8 (by decide) ?_
    obtain ⟨z_24, e_25, h⟩ := bnd_s h
    refine x_calli (x_runV X O hP hS hl.1 (As := [.int ((-1))]) (rest := []) (k_X7_refused O (-1 : Int32) σ0 e_25.symm) lt_X7 (e_X7 _) rfl wM_X7_124 wI_yX7_refused wS_yX7_refused wN_X7 wC_yX7_refused hd_X7_refused rfl ⟨rfl, rfl⟩ ⟨(Nat.le_of_ble_eq_true rfl), (Nat.le_of_ble_eq_true rfl)⟩ ⟨Nat.zero_le _, Nat.zero_le _⟩ rfl (Nat.le_of_ble_eq_true rfl) dX7_sheet_9) hS (fun H locs hP hS => ?_)
    have h := some_i h
    subst h
    exact x_reti X hP hS hr hlk rfl rfl dX7_sheet_12
abbrev rm_X7_lose : Room := { frames := 2, cells := 0, slots := 0, locals := 45 }
theorem hd_X7_lose : yX7_lose.cls ≠ "java/lang/invoke/MethodHandle" ∧ yX7_lose.cls ≠ "java/lang/invoke/VarHandle" ∧ (parseMethodDescriptor yX7_lose.desc).map (fun d => d.parameters.length) = some 1 := by decide +kernel
set_option maxHeartbeats 4000000 in
set_option maxRecDepth 100000 in
theorem k_X7_lose {Θ : TH} {l : Launch} (O : okT Θ (eM Θ) 23) (v1 : Int32) (σ0 : Mem) {y : Int32 × Mem} (h : X7_lose v1 σ0 = some y) : Met l yX7_lose (Cond.code yX7_lose cX7_lose 3 (some .int) :: wAll) rm_X7_lose (va_Pc [.ref (ta Θ 0), .int v1] (tS Θ σ0)) (qI Θ y.1 y.2) 0 0 (tA Θ) := by
  refine x_ent (by decide) (Nat.le_of_ble_eq_true rfl) (fun p e s m below meth c X hr hlk hP ls hl => ?_)
  have hS : va_S (tA Θ) s.heap s.heap [] := va_S.rf
  have hl : lv_has ls 3 [(0, .ref (ta Θ 0)), (1, .int v1)] := hl
  have hx := X.1
  have hb := X.2.1
  unfold X7_lose at h
  refine lv_iload_n hx hb dX7_lose_0 rfl (lv_at hl 1 rfl) ?_
  refine x_calli (x_runS X hP hS hl.1 (As := [.int v1]) (rest := []) (k_X7_noSheet O v1 σ0 rfl) wM_X7_120 wT_yX7_noSheet wN_X7 wC_yX7_noSheet hd_X7_noSheet rfl ⟨rfl, rfl⟩ ⟨(Nat.le_of_ble_eq_true rfl), (Nat.le_of_ble_eq_true rfl)⟩ ⟨Nat.zero_le _, Nat.zero_le _⟩ rfl (Nat.le_of_ble_eq_true rfl) dX7_lose_1) hS (fun H locs hP hS => ?_)
  refine lv_if_eq (tgt := 9) hx hb dX7_lose_4 (by decide) (fun c_1 => ?_) (fun c_1 => ?_)
  · have h := ite_t c_1 h
    refine lv_aload_n hx hb dX7_lose_9 rfl (lv_at hl 0 rfl) ?_
    refine g_X7_65 X O hP dX7_lose_10 ?_
    refine lv_iload_n hx hb dX7_lose_13 rfl (lv_at hl 1 rfl) ?_
    obtain ⟨g_2, h⟩ := grd_s h
    refine x_iald X O hP mI_19 g_2 dX7_lose_14 ?_
    refine lv_if_ge (tgt := 22) hx hb dX7_lose_15 (by decide) (fun c_3 => ?_) (fun c_3 => ?_)
    · have h := ite_t c_3 h
      refine lv_iconst (v := 1) hx hb dX7_lose_22 (by decide) ?_
      refine lv_istore_n (lv' := [(2, .int 1), (0, .ref (ta Θ 0)), (1, .int v1)]) hx hb dX7_lose_23 rfl hl (by decide) rfl (fun ls hl => ?_)
      refine lv_aload_n hx hb dX7_lose_24 rfl (lv_at hl 1 rfl) ?_
      refine g_X7_65 X O hP dX7_lose_25 ?_
      refine lv_iload_n hx hb dX7_lose_28 rfl (lv_at hl 2 rfl) ?_
      refine lv_iconst (v := (-1)) hx hb dX7_lose_29 (by decide) ?_
      obtain ⟨g_4, h⟩ := grd_s h
      obtain ⟨σ_5, e_6, h⟩ := bnd_s h
      refine x_iast X O hP hS mI_19 g_4 dX7_lose_30 e_6 (fun H locs hP hS => ?_)
      refine lv_iload_n hx hb dX7_lose_31 rfl (lv_at hl 0 rfl) ?_
      have h := some_i h
      subst h
      exact x_reti X hP hS hr hlk rfl rfl dX7_lose_32
    · have h := ite_f c_3 h
      refine lv_iconst (v := 0) hx hb dX7_lose_18 (by decide) ?_
      refine lv_goto (tgt := 23) hx hb dX7_lose_19 (by decide) ?_
      refine lv_istore_n (lv' := [(2, .int 0), (0, .ref (ta Θ 0)), (1, .int v1)]) hx hb dX7_lose_23 rfl hl (by decide) rfl (fun ls hl => ?_)
      refine lv_aload_n hx hb dX7_lose_24 rfl (lv_at hl 1 rfl) ?_
      refine g_X7_65 X O hP dX7_lose_25 ?_
      refine lv_iload_n hx hb dX7_lose_28 rfl (lv_at hl 2 rfl) ?_
      refine lv_iconst (v := (-1)) hx hb dX7_lose_29 (by decide) ?_
      obtain ⟨g_7, h⟩ := grd_s h
      obtain ⟨σ_8, e_9, h⟩ := bnd_s h
      refine x_iast X O hP hS mI_19 g_7 dX7_lose_30 e_9 (fun H locs hP hS => ?_)
      refine lv_iload_n hx hb dX7_lose_31 rfl (lv_at hl 0 rfl) ?_
      have h := some_i h
      subst h
      exact x_reti X hP hS hr hlk rfl rfl dX7_lose_32
  · have h := ite_f c_1 h
    refine lv_iconst (v := (-1)) hx hb dX7_lose_7 (by decide) ?_
    have h := some_i h
    subst h
    exact x_reti X hP hS hr hlk rfl rfl dX7_lose_8
abbrev rm_X7_noCell : Room := { frames := 1, cells := 0, slots := 0, locals := 25 }
theorem hd_X7_noCell : yX7_noCell.cls ≠ "java/lang/invoke/MethodHandle" ∧ yX7_noCell.cls ≠ "java/lang/invoke/VarHandle" ∧ (parseMethodDescriptor yX7_noCell.desc).map (fun d => d.parameters.length) = some 2 := by decide +kernel
set_option maxHeartbeats 4000000 in
set_option maxRecDepth 100000 in
theorem k_X7_noCell {Θ : TH} {l : Launch} (O : okT Θ (eM Θ) 23) (v1 : Int32) (v2 : Int32) (σ0 : Mem) {y : Int32} (h : X7_noCell v1 v2 σ0 = some y) : Met l yX7_noCell (Cond.code yX7_noCell cX7_noCell 3 (some .int) :: wAll) rm_X7_noCell (va_Pc [.ref (ta Θ 0), .int v1, .int v2] (tS Θ σ0)) (qI Θ y σ0) 0 0 (tA Θ) := by
  refine x_ent (by decide) (Nat.le_of_ble_eq_true rfl) (fun p e s m below meth c X hr hlk hP ls hl => ?_)
  have hS : va_S (tA Θ) s.heap s.heap [] := va_S.rf
  have hl : lv_has ls 3 [(0, .ref (ta Θ 0)), (1, .int v1), (2, .int v2)] := hl
  have hx := X.1
  have hb := X.2.1
  unfold X7_noCell at h
  refine lv_aload_n hx hb dX7_noCell_0 rfl (lv_at hl 0 rfl) ?_
  refine g_X7_65 X O hP dX7_noCell_1 ?_
  refine lv_iload_n hx hb dX7_noCell_4 rfl (lv_at hl 1 rfl) ?_
  obtain ⟨g_1, h⟩ := grd_s h
  refine x_iald X O hP mI_19 g_1 dX7_noCell_5 ?_
  refine lv_if_ge (tgt := 13) hx hb dX7_noCell_6 (by decide) (fun c_2 => ?_) (fun c_2 => ?_)
  · have h := ite_t c_2 h
    refine lv_iload_n hx hb dX7_noCell_13 rfl (lv_at hl 2 rfl) ?_
    refine lv_i2l (v := v2.toInt64) hx hb dX7_noCell_14 rfl ?_
    refine lv_lconst (v := 0) hx hb dX7_noCell_15 (by decide) ?_
    refine lv_aload_n hx hb dX7_noCell_16 rfl (lv_at hl 0 rfl) ?_
    refine g_X7_65 X O hP dX7_noCell_17 ?_
    refine lv_iload_n hx hb dX7_noCell_20 rfl (lv_at hl 1 rfl) ?_
    obtain ⟨g_3, h⟩ := grd_s h
    refine x_iald X O hP mI_19 g_3 dX7_noCell_21 ?_
    refine lv_i2l (v := (σ0 19 v1.toNatClampNeg).toInt64) hx hb dX7_noCell_22 rfl ?_
    refine lv_lconst (v := 1) hx hb dX7_noCell_23 (by decide) ?_
    refine lv_lsub hx hb dX7_noCell_24 ?_
    refine x_calli (x_runS X hP hS hl.1 (As := [.long v2.toInt64, .long 0, .long (((σ0 19 v1.toNatClampNeg).toInt64) - 1)]) (rest := []) (k_X7_in O v2.toInt64 (0 : Int64) (((σ0 19 v1.toNatClampNeg).toInt64) - 1) σ0 rfl) wM_X7_90 wT_yX7_in wN_X7 wC_yX7_in hd_X7_in rfl ⟨rfl, rfl⟩ ⟨(Nat.le_of_ble_eq_true rfl), (Nat.le_of_ble_eq_true rfl)⟩ ⟨Nat.zero_le _, Nat.zero_le _⟩ rfl (Nat.le_of_ble_eq_true rfl) dX7_noCell_25) hS (fun H locs hP hS => ?_)
    refine lv_if_eq (tgt := 35) hx hb dX7_noCell_28 (by decide) (fun c_4 => ?_) (fun c_4 => ?_)
    · have h := ite_t c_4 h
      refine lv_iconst (v := 3) hx hb dX7_noCell_35 (by decide) ?_
      have h := some_i h
      subst h
      exact x_reti X hP hS hr hlk rfl rfl dX7_noCell_36
    · have h := ite_f c_4 h
      refine lv_iconst (v := 0) hx hb dX7_noCell_31 (by decide) ?_
      refine lv_goto (tgt := 36) hx hb dX7_noCell_32 (by decide) ?_
      have h := some_i h
      subst h
      exact x_reti X hP hS hr hlk rfl rfl dX7_noCell_36
  · have h := ite_f c_2 h
    refine lv_iconst (v := 1) hx hb dX7_noCell_9 (by decide) ?_
    refine lv_goto (tgt := 36) hx hb dX7_noCell_10 (by decide) ?_
    have h := some_i h
    subst h
    exact x_reti X hP hS hr hlk rfl rfl dX7_noCell_36
abbrev rm_X7_put : Room := { frames := 2, cells := 0, slots := 0, locals := 47 }
theorem hd_X7_put : yX7_put.cls ≠ "java/lang/invoke/MethodHandle" ∧ yX7_put.cls ≠ "java/lang/invoke/VarHandle" ∧ (parseMethodDescriptor yX7_put.desc).map (fun d => d.parameters.length) = some 3 := by decide +kernel
set_option maxHeartbeats 4000000 in
set_option maxRecDepth 100000 in
theorem k_X7_put {Θ : TH} {l : Launch} (O : okT Θ (eM Θ) 23) (v1 : Int32) (v2 : Int32) (v3 : Int32) (σ0 : Mem) {y : Int32 × Mem} (h : X7_put v1 v2 v3 σ0 = some y) : Met l yX7_put (Cond.code yX7_put cX7_put 4 (some .int) :: wAll) rm_X7_put (va_Pc [.ref (ta Θ 0), .int v1, .int v2, .int v3] (tS Θ σ0)) (qI Θ y.1 y.2) 0 0 (tA Θ) := by
  refine x_ent (by decide) (Nat.le_of_ble_eq_true rfl) (fun p e s m below meth c X hr hlk hP ls hl => ?_)
  have hS : va_S (tA Θ) s.heap s.heap [] := va_S.rf
  have hl : lv_has ls 4 [(0, .ref (ta Θ 0)), (1, .int v1), (2, .int v2), (3, .int v3)] := hl
  have hx := X.1
  have hb := X.2.1
  unfold X7_put at h
  refine lv_iload_n hx hb dX7_put_0 rfl (lv_at hl 1 rfl) ?_
  refine x_calli (x_runS X hP hS hl.1 (As := [.int v1]) (rest := []) (k_X7_noSheet O v1 σ0 rfl) wM_X7_120 wT_yX7_noSheet wN_X7 wC_yX7_noSheet hd_X7_noSheet rfl ⟨rfl, rfl⟩ ⟨(Nat.le_of_ble_eq_true rfl), (Nat.le_of_ble_eq_true rfl)⟩ ⟨Nat.zero_le _, Nat.zero_le _⟩ rfl (Nat.le_of_ble_eq_true rfl) dX7_put_1) hS (fun H locs hP hS => ?_)
  refine lv_if_eq (tgt := 13) hx hb dX7_put_4 (by decide) (fun c_1 => ?_) (fun c_1 => ?_)
  · have h := ite_t c_1 h
    refine lv_aload_n hx hb dX7_put_13 rfl (lv_at hl 0 rfl) ?_
    refine lv_iload_n hx hb dX7_put_14 rfl (lv_at hl 1 rfl) ?_
    refine lv_iload_n hx hb dX7_put_15 rfl (lv_at hl 2 rfl) ?_
    obtain ⟨z_2, e_3, h⟩ := ob_s h
    refine x_calli (x_runV X O hP hS hl.1 (As := [.int v1, .int v2]) (rest := []) (k_X7_noCell O v1 v2 σ0 e_3) lt_X7 (e_X7 _) rfl wM_X7_226 wI_yX7_noCell wS_yX7_noCell wN_X7 wC_yX7_noCell hd_X7_noCell rfl ⟨rfl, rfl⟩ ⟨(Nat.le_of_ble_eq_true rfl), (Nat.le_of_ble_eq_true rfl)⟩ ⟨Nat.zero_le _, Nat.zero_le _⟩ rfl (Nat.le_of_ble_eq_true rfl) dX7_put_16) hS (fun H locs hP hS => ?_)
    refine lv_if_le (tgt := 33) hx hb dX7_put_19 (by decide) (fun c_4 => ?_) (fun c_4 => ?_)
    · have h := ite_t c_4 h
      refine lv_aload_n hx hb dX7_put_33 rfl (lv_at hl 0 rfl) ?_
      refine g_X7_71 X O hP dX7_put_34 ?_
      refine lv_bipush (v := 60) hx hb dX7_put_37 (by decide) ?_
      refine lv_iload_n hx hb dX7_put_39 rfl (lv_at hl 1 rfl) ?_
      refine lv_imul hx hb dX7_put_40 ?_
      refine lv_iload_n hx hb dX7_put_41 rfl (lv_at hl 2 rfl) ?_
      refine lv_iadd hx hb dX7_put_42 ?_
      refine lv_aload_n hx hb dX7_put_43 rfl (lv_at hl 0 rfl) ?_
      refine g_X7_68 X O hP dX7_put_44 ?_
      refine lv_iload_n hx hb dX7_put_47 rfl (lv_at hl 1 rfl) ?_
      obtain ⟨g_5, h⟩ := grd_s h
      refine x_iald X O hP mI_20 g_5 dX7_put_48 ?_
      refine lv_if_ne (tgt := 57) hx hb dX7_put_49 (by decide) (fun c_6 => ?_) (fun c_6 => ?_)
      · have h := ite_f c_6 h
        refine lv_aload_n hx hb dX7_put_57 rfl (lv_at hl 0 rfl) ?_
        refine g_X7_68 X O hP dX7_put_58 ?_
        refine lv_iload_n hx hb dX7_put_61 rfl (lv_at hl 1 rfl) ?_
        obtain ⟨g_7, h⟩ := grd_s h
        refine x_iald X O hP mI_20 g_7 dX7_put_62 ?_
        refine lv_iconst (v := 1) hx hb dX7_put_63 (by decide) ?_
        refine lv_icmp_ne (tgt := 72) hx hb dX7_put_64 (by decide) (fun c_8 => ?_) (fun c_8 => ?_)
        · have h := ite_f c_8 h
          refine lv_iload_n hx hb dX7_put_72 rfl (lv_at hl 3 rfl) ?_
          obtain ⟨g_9, h⟩ := grd_s h
          obtain ⟨σ_10, e_11, h⟩ := bnd_s h
          refine x_iast X O hP hS mI_21 g_9 dX7_put_73 e_11 (fun H locs hP hS => ?_)
          refine lv_aload_n hx hb dX7_put_74 rfl (lv_at hl 0 rfl) ?_
          refine lv_iconst (v := 1) hx hb dX7_put_75 (by decide) ?_
          obtain ⟨z_12, e_13, h⟩ := bnd_s h
          refine x_calli (x_runV X O hP hS hl.1 (As := [.int 1]) (rest := []) (k_X7_refused O (1 : Int32) σ_10 e_13.symm) lt_X7 (e_X7 _) rfl wM_X7_124 wI_yX7_refused wS_yX7_refused wN_X7 wC_yX7_refused hd_X7_refused rfl ⟨rfl, rfl⟩ ⟨(Nat.le_of_ble_eq_true rfl), (Nat.le_of_ble_eq_true rfl)⟩ ⟨Nat.zero_le _, Nat.zero_le _⟩ rfl (Nat.le_of_ble_eq_true rfl) dX7_put_76) hS (fun H locs hP hS => ?_)
          have h := some_i h
          subst h
          exact x_reti X hP hS hr hlk rfl rfl dX7_put_79
        · have h := ite_t c_8 h
          refine lv_iload_n hx hb dX7_put_67 rfl (lv_at hl 3 rfl) ?_
          refine lv_i2s (v := v3.toInt16.toInt32) hx hb dX7_put_68 rfl ?_
          refine lv_goto (tgt := 73) hx hb dX7_put_69 (by decide) ?_
          obtain ⟨g_14, h⟩ := grd_s h
          obtain ⟨σ_15, e_16, h⟩ := bnd_s h
          refine x_iast X O hP hS mI_21 g_14 dX7_put_73 e_16 (fun H locs hP hS => ?_)
          refine lv_aload_n hx hb dX7_put_74 rfl (lv_at hl 0 rfl) ?_
          refine lv_iconst (v := 1) hx hb dX7_put_75 (by decide) ?_
          obtain ⟨z_17, e_18, h⟩ := bnd_s h
          refine x_calli (x_runV X O hP hS hl.1 (As := [.int 1]) (rest := []) (k_X7_refused O (1 : Int32) σ_15 e_18.symm) lt_X7 (e_X7 _) rfl wM_X7_124 wI_yX7_refused wS_yX7_refused wN_X7 wC_yX7_refused hd_X7_refused rfl ⟨rfl, rfl⟩ ⟨(Nat.le_of_ble_eq_true rfl), (Nat.le_of_ble_eq_true rfl)⟩ ⟨Nat.zero_le _, Nat.zero_le _⟩ rfl (Nat.le_of_ble_eq_true rfl) dX7_put_76) hS (fun H locs hP hS => ?_)
          have h := some_i h
          subst h
          exact x_reti X hP hS hr hlk rfl rfl dX7_put_79
      · have h := ite_t c_6 h
        refine lv_iload_n hx hb dX7_put_52 rfl (lv_at hl 3 rfl) ?_
        refine lv_i2b (v := v3.toInt8.toInt32) hx hb dX7_put_53 rfl ?_
        refine lv_goto (tgt := 73) hx hb dX7_put_54 (by decide) ?_
        obtain ⟨g_19, h⟩ := grd_s h
        obtain ⟨σ_20, e_21, h⟩ := bnd_s h
        refine x_iast X O hP hS mI_21 g_19 dX7_put_73 e_21 (fun H locs hP hS => ?_)
        refine lv_aload_n hx hb dX7_put_74 rfl (lv_at hl 0 rfl) ?_
        refine lv_iconst (v := 1) hx hb dX7_put_75 (by decide) ?_
        obtain ⟨z_22, e_23, h⟩ := bnd_s h
        refine x_calli (x_runV X O hP hS hl.1 (As := [.int 1]) (rest := []) (k_X7_refused O (1 : Int32) σ_20 e_23.symm) lt_X7 (e_X7 _) rfl wM_X7_124 wI_yX7_refused wS_yX7_refused wN_X7 wC_yX7_refused hd_X7_refused rfl ⟨rfl, rfl⟩ ⟨(Nat.le_of_ble_eq_true rfl), (Nat.le_of_ble_eq_true rfl)⟩ ⟨Nat.zero_le _, Nat.zero_le _⟩ rfl (Nat.le_of_ble_eq_true rfl) dX7_put_76) hS (fun H locs hP hS => ?_)
        have h := some_i h
        subst h
        exact x_reti X hP hS hr hlk rfl rfl dX7_put_79
    · have h := ite_f c_4 h
      refine lv_aload_n hx hb dX7_put_22 rfl (lv_at hl 0 rfl) ?_
      refine lv_aload_n hx hb dX7_put_23 rfl (lv_at hl 0 rfl) ?_
      refine lv_iload_n hx hb dX7_put_24 rfl (lv_at hl 1 rfl) ?_
      refine lv_iload_n hx hb dX7_put_25 rfl (lv_at hl 2 rfl) ?_
      obtain ⟨z_24, e_25, h⟩ := ob_s h
      refine x_calli (x_runV X O hP hS hl.1 (As := [.int v1, .int v2]) (rest := [.ref (ta Θ 0)]) (k_X7_noCell O v1 v2 σ0 e_25) lt_X7 (e_X7 _) rfl wM_X7_226 wI_yX7_noCell wS_yX7_noCell wN_X7 wC_yX7_noCell hd_X7_noCell rfl ⟨rfl, rfl⟩ ⟨(Nat.le_of_ble_eq_true rfl), (Nat.le_of_ble_eq_true rfl)⟩ ⟨Nat.zero_le _, Nat.zero_le _⟩ rfl (Nat.le_of_ble_eq_true rfl) dX7_put_26) hS (fun H locs hP hS => ?_)
      obtain ⟨z_26, e_27, h⟩ := bnd_s h
      refine x_calli (x_runV X O hP hS hl.1 (As := [.int z_24]) (rest := []) (k_X7_failed O z_24 σ0 e_27.symm) lt_X7 (e_X7 _) rfl wM_X7_112 wI_yX7_failed wS_yX7_failed wN_X7 wC_yX7_failed hd_X7_failed rfl ⟨rfl, rfl⟩ ⟨(Nat.le_of_ble_eq_true rfl), (Nat.le_of_ble_eq_true rfl)⟩ ⟨Nat.zero_le _, Nat.zero_le _⟩ rfl (Nat.le_of_ble_eq_true rfl) dX7_put_29) hS (fun H locs hP hS => ?_)
      have h := some_i h
      subst h
      exact x_reti X hP hS hr hlk rfl rfl dX7_put_32
  · have h := ite_f c_1 h
    refine lv_aload_n hx hb dX7_put_7 rfl (lv_at hl 0 rfl) ?_
    refine lv_iconst (v := (-1)) hx hb dX7_put_8 (by decide) ?_
    obtain ⟨z_28, e_29, h⟩ := bnd_s h
    refine x_calli (x_runV X O hP hS hl.1 (As := [.int ((-1))]) (rest := []) (k_X7_refused O (-1 : Int32) σ0 e_29.symm) lt_X7 (e_X7 _) rfl wM_X7_124 wI_yX7_refused wS_yX7_refused wN_X7 wC_yX7_refused hd_X7_refused rfl ⟨rfl, rfl⟩ ⟨(Nat.le_of_ble_eq_true rfl), (Nat.le_of_ble_eq_true rfl)⟩ ⟨Nat.zero_le _, Nat.zero_le _⟩ rfl (Nat.le_of_ble_eq_true rfl) dX7_put_9) hS (fun H locs hP hS => ?_)
    have h := some_i h
    subst h
    exact x_reti X hP hS hr hlk rfl rfl dX7_put_12
abbrev rm_X7_cell : Room := { frames := 2, cells := 0, slots := 0, locals := 47 }
theorem hd_X7_cell : yX7_cell.cls ≠ "java/lang/invoke/MethodHandle" ∧ yX7_cell.cls ≠ "java/lang/invoke/VarHandle" ∧ (parseMethodDescriptor yX7_cell.desc).map (fun d => d.parameters.length) = some 3 := by decide +kernel
set_option maxHeartbeats 4000000 in
set_option maxRecDepth 100000 in
theorem k_X7_cell {Θ : TH} {l : Launch} (O : okT Θ (eM Θ) 23) (v1 : Int32) (v2 : Int32) (v3 : Int32) (σ0 : Mem) {y : Int64 × Mem} (h : X7_cell v1 v2 v3 σ0 = some y) : Met l yX7_cell (Cond.code yX7_cell cX7_cell 4 (some .long) :: wAll) rm_X7_cell (va_Pc [.ref (ta Θ 0), .int v1, .int v2, .int v3] (tS Θ σ0)) (qL Θ y.1 y.2) 0 0 (tA Θ) := by
  refine x_ent (by decide) (Nat.le_of_ble_eq_true rfl) (fun p e s m below meth c X hr hlk hP ls hl => ?_)
  have hS : va_S (tA Θ) s.heap s.heap [] := va_S.rf
  have hl : lv_has ls 4 [(0, .ref (ta Θ 0)), (1, .int v1), (2, .int v2), (3, .int v3)] := hl
  have hx := X.1
  have hb := X.2.1
  unfold X7_cell at h
  refine lv_aload_n hx hb dX7_cell_0 rfl (lv_at hl 0 rfl) ?_
  refine lv_iconst (v := 0) hx hb dX7_cell_1 (by decide) ?_
  obtain ⟨σ_1, e_2, h⟩ := bnd_s h
  refine p_X7_79 X O hP hS dX7_cell_2 e_2 (fun H locs hP hS => ?_)
  refine lv_iload_n hx hb dX7_cell_5 rfl (lv_at hl 1 rfl) ?_
  refine x_calli (x_runS X hP hS hl.1 (As := [.int v1]) (rest := []) (k_X7_noSheet O v1 σ_1 rfl) wM_X7_120 wT_yX7_noSheet wN_X7 wC_yX7_noSheet hd_X7_noSheet rfl ⟨rfl, rfl⟩ ⟨(Nat.le_of_ble_eq_true rfl), (Nat.le_of_ble_eq_true rfl)⟩ ⟨Nat.zero_le _, Nat.zero_le _⟩ rfl (Nat.le_of_ble_eq_true rfl) dX7_cell_6) hS (fun H locs hP hS => ?_)
  refine lv_if_ne (tgt := 24) hx hb dX7_cell_9 (by decide) (fun c_3 => ?_) (fun c_3 => ?_)
  · have h := ite_f c_3 h
    refine x_calll (x_runS X hP hS hl.1 (As := []) (rest := []) (k_X7_lost O σ_1 rfl) wM_X7_83 wT_yX7_lost wN_X7 wC_yX7_lost hd_X7_lost rfl ⟨rfl, rfl⟩ ⟨(Nat.le_of_ble_eq_true rfl), (Nat.le_of_ble_eq_true rfl)⟩ ⟨Nat.zero_le _, Nat.zero_le _⟩ rfl (Nat.le_of_ble_eq_true rfl) dX7_cell_24) hS (fun H locs hP hS => ?_)
    have h := some_i h
    subst h
    exact x_retl X hP hS hr hlk rfl rfl dX7_cell_27
  · have h := ite_t c_3 h
    refine lv_iload_n hx hb dX7_cell_12 rfl (lv_at hl 3 rfl) ?_
    refine lv_i2l (v := v3.toInt64) hx hb dX7_cell_13 rfl ?_
    refine lv_lconst (v := 0) hx hb dX7_cell_14 (by decide) ?_
    refine lv_ldc2 (v := 2) hx hb X.2.2.2.1 (X.2.2.2.2.1 _ wL_X7_127) dX7_cell_15 ?_
    refine x_calli (x_runS X hP hS hl.1 (As := [.long v3.toInt64, .long 0, .long 2]) (rest := []) (k_X7_in O v3.toInt64 (0 : Int64) (2 : Int64) σ_1 rfl) wM_X7_90 wT_yX7_in wN_X7 wC_yX7_in hd_X7_in rfl ⟨rfl, rfl⟩ ⟨(Nat.le_of_ble_eq_true rfl), (Nat.le_of_ble_eq_true rfl)⟩ ⟨Nat.zero_le _, Nat.zero_le _⟩ rfl (Nat.le_of_ble_eq_true rfl) dX7_cell_18) hS (fun H locs hP hS => ?_)
    refine lv_if_ne (tgt := 28) hx hb dX7_cell_21 (by decide) (fun c_4 => ?_) (fun c_4 => ?_)
    · have h := ite_f c_4 h
      refine lv_aload_n hx hb dX7_cell_28 rfl (lv_at hl 0 rfl) ?_
      refine g_X7_65 X O hP dX7_cell_29 ?_
      refine lv_iload_n hx hb dX7_cell_32 rfl (lv_at hl 1 rfl) ?_
      obtain ⟨g_5, h⟩ := grd_s h
      refine x_iald X O hP mI_19 g_5 dX7_cell_33 ?_
      refine lv_if_lt (tgt := 53) hx hb dX7_cell_34 (by decide) (fun c_6 => ?_) (fun c_6 => ?_)
      · have h := ite_t c_6 h
        refine lv_aload_n hx hb dX7_cell_53 rfl (lv_at hl 0 rfl) ?_
        refine lv_iload_n hx hb dX7_cell_54 rfl (lv_at hl 1 rfl) ?_
        refine lv_iload_n hx hb dX7_cell_55 rfl (lv_at hl 2 rfl) ?_
        obtain ⟨z_7, e_8, h⟩ := ob_s h
        refine x_calli (x_runV X O hP hS hl.1 (As := [.int v1, .int v2]) (rest := []) (k_X7_noCell O v1 v2 σ_1 e_8) lt_X7 (e_X7 _) rfl wM_X7_226 wI_yX7_noCell wS_yX7_noCell wN_X7 wC_yX7_noCell hd_X7_noCell rfl ⟨rfl, rfl⟩ ⟨(Nat.le_of_ble_eq_true rfl), (Nat.le_of_ble_eq_true rfl)⟩ ⟨Nat.zero_le _, Nat.zero_le _⟩ rfl (Nat.le_of_ble_eq_true rfl) dX7_cell_56) hS (fun H locs hP hS => ?_)
        refine lv_if_le (tgt := 75) hx hb dX7_cell_59 (by decide) (fun c_9 => ?_) (fun c_9 => ?_)
        · have h := ite_t c_9 h
          refine lv_aload_n hx hb dX7_cell_75 rfl (lv_at hl 0 rfl) ?_
          refine g_X7_71 X O hP dX7_cell_76 ?_
          refine lv_bipush (v := 60) hx hb dX7_cell_79 (by decide) ?_
          refine lv_iload_n hx hb dX7_cell_81 rfl (lv_at hl 1 rfl) ?_
          refine lv_imul hx hb dX7_cell_82 ?_
          refine lv_iload_n hx hb dX7_cell_83 rfl (lv_at hl 2 rfl) ?_
          refine lv_iadd hx hb dX7_cell_84 ?_
          obtain ⟨g_10, h⟩ := grd_s h
          refine x_iald X O hP mI_21 g_10 dX7_cell_85 ?_
          refine lv_i2l (v := (σ_1 21 (((60 : Int32) * v1) + v2).toNatClampNeg).toInt64) hx hb dX7_cell_86 rfl ?_
          have h := some_i h
          subst h
          exact x_retl X hP hS hr hlk rfl rfl dX7_cell_87
        · have h := ite_f c_9 h
          refine lv_aload_n hx hb dX7_cell_62 rfl (lv_at hl 0 rfl) ?_
          refine lv_aload_n hx hb dX7_cell_63 rfl (lv_at hl 0 rfl) ?_
          refine lv_iload_n hx hb dX7_cell_64 rfl (lv_at hl 1 rfl) ?_
          refine lv_iload_n hx hb dX7_cell_65 rfl (lv_at hl 2 rfl) ?_
          obtain ⟨z_11, e_12, h⟩ := ob_s h
          refine x_calli (x_runV X O hP hS hl.1 (As := [.int v1, .int v2]) (rest := [.ref (ta Θ 0)]) (k_X7_noCell O v1 v2 σ_1 e_12) lt_X7 (e_X7 _) rfl wM_X7_226 wI_yX7_noCell wS_yX7_noCell wN_X7 wC_yX7_noCell hd_X7_noCell rfl ⟨rfl, rfl⟩ ⟨(Nat.le_of_ble_eq_true rfl), (Nat.le_of_ble_eq_true rfl)⟩ ⟨Nat.zero_le _, Nat.zero_le _⟩ rfl (Nat.le_of_ble_eq_true rfl) dX7_cell_66) hS (fun H locs hP hS => ?_)
          obtain ⟨z_13, e_14, h⟩ := bnd_s h
          refine x_calll (x_runV X O hP hS hl.1 (As := [.int z_11]) (rest := []) (k_X7_failedLong O z_11 σ_1 e_14.symm) lt_X7 (e_X7 _) rfl wM_X7_229 wI_yX7_failedLong wS_yX7_failedLong wN_X7 wC_yX7_failedLong hd_X7_failedLong rfl ⟨rfl, rfl⟩ ⟨(Nat.le_of_ble_eq_true rfl), (Nat.le_of_ble_eq_true rfl)⟩ ⟨Nat.zero_le _, Nat.zero_le _⟩ rfl (Nat.le_of_ble_eq_true rfl) dX7_cell_69) hS (fun H locs hP hS => ?_)
          refine lv_goto (tgt := 87) hx hb dX7_cell_72 (by decide) ?_
          have h := some_i h
          subst h
          exact x_retl X hP hS hr hlk rfl rfl dX7_cell_87
      · have h := ite_f c_6 h
        refine lv_aload_n hx hb dX7_cell_37 rfl (lv_at hl 0 rfl) ?_
        refine g_X7_68 X O hP dX7_cell_38 ?_
        refine lv_iload_n hx hb dX7_cell_41 rfl (lv_at hl 1 rfl) ?_
        obtain ⟨g_15, h⟩ := grd_s h
        refine x_iald X O hP mI_20 g_15 dX7_cell_42 ?_
        refine lv_iload_n hx hb dX7_cell_43 rfl (lv_at hl 3 rfl) ?_
        refine lv_icmp_eq (tgt := 53) hx hb dX7_cell_44 (by decide) (fun c_16 => ?_) (fun c_16 => ?_)
        · have h := ite_t c_16 h
          refine lv_aload_n hx hb dX7_cell_53 rfl (lv_at hl 0 rfl) ?_
          refine lv_iload_n hx hb dX7_cell_54 rfl (lv_at hl 1 rfl) ?_
          refine lv_iload_n hx hb dX7_cell_55 rfl (lv_at hl 2 rfl) ?_
          obtain ⟨z_17, e_18, h⟩ := ob_s h
          refine x_calli (x_runV X O hP hS hl.1 (As := [.int v1, .int v2]) (rest := []) (k_X7_noCell O v1 v2 σ_1 e_18) lt_X7 (e_X7 _) rfl wM_X7_226 wI_yX7_noCell wS_yX7_noCell wN_X7 wC_yX7_noCell hd_X7_noCell rfl ⟨rfl, rfl⟩ ⟨(Nat.le_of_ble_eq_true rfl), (Nat.le_of_ble_eq_true rfl)⟩ ⟨Nat.zero_le _, Nat.zero_le _⟩ rfl (Nat.le_of_ble_eq_true rfl) dX7_cell_56) hS (fun H locs hP hS => ?_)
          refine lv_if_le (tgt := 75) hx hb dX7_cell_59 (by decide) (fun c_19 => ?_) (fun c_19 => ?_)
          · have h := ite_t c_19 h
            refine lv_aload_n hx hb dX7_cell_75 rfl (lv_at hl 0 rfl) ?_
            refine g_X7_71 X O hP dX7_cell_76 ?_
            refine lv_bipush (v := 60) hx hb dX7_cell_79 (by decide) ?_
            refine lv_iload_n hx hb dX7_cell_81 rfl (lv_at hl 1 rfl) ?_
            refine lv_imul hx hb dX7_cell_82 ?_
            refine lv_iload_n hx hb dX7_cell_83 rfl (lv_at hl 2 rfl) ?_
            refine lv_iadd hx hb dX7_cell_84 ?_
            obtain ⟨g_20, h⟩ := grd_s h
            refine x_iald X O hP mI_21 g_20 dX7_cell_85 ?_
            refine lv_i2l (v := (σ_1 21 (((60 : Int32) * v1) + v2).toNatClampNeg).toInt64) hx hb dX7_cell_86 rfl ?_
            have h := some_i h
            subst h
            exact x_retl X hP hS hr hlk rfl rfl dX7_cell_87
          · have h := ite_f c_19 h
            refine lv_aload_n hx hb dX7_cell_62 rfl (lv_at hl 0 rfl) ?_
            refine lv_aload_n hx hb dX7_cell_63 rfl (lv_at hl 0 rfl) ?_
            refine lv_iload_n hx hb dX7_cell_64 rfl (lv_at hl 1 rfl) ?_
            refine lv_iload_n hx hb dX7_cell_65 rfl (lv_at hl 2 rfl) ?_
            obtain ⟨z_21, e_22, h⟩ := ob_s h
            refine x_calli (x_runV X O hP hS hl.1 (As := [.int v1, .int v2]) (rest := [.ref (ta Θ 0)]) (k_X7_noCell O v1 v2 σ_1 e_22) lt_X7 (e_X7 _) rfl wM_X7_226 wI_yX7_noCell wS_yX7_noCell wN_X7 wC_yX7_noCell hd_X7_noCell rfl ⟨rfl, rfl⟩ ⟨(Nat.le_of_ble_eq_true rfl), (Nat.le_of_ble_eq_true rfl)⟩ ⟨Nat.zero_le _, Nat.zero_le _⟩ rfl (Nat.le_of_ble_eq_true rfl) dX7_cell_66) hS (fun H locs hP hS => ?_)
            obtain ⟨z_23, e_24, h⟩ := bnd_s h
            refine x_calll (x_runV X O hP hS hl.1 (As := [.int z_21]) (rest := []) (k_X7_failedLong O z_21 σ_1 e_24.symm) lt_X7 (e_X7 _) rfl wM_X7_229 wI_yX7_failedLong wS_yX7_failedLong wN_X7 wC_yX7_failedLong hd_X7_failedLong rfl ⟨rfl, rfl⟩ ⟨(Nat.le_of_ble_eq_true rfl), (Nat.le_of_ble_eq_true rfl)⟩ ⟨Nat.zero_le _, Nat.zero_le _⟩ rfl (Nat.le_of_ble_eq_true rfl) dX7_cell_69) hS (fun H locs hP hS => ?_)
            refine lv_goto (tgt := 87) hx hb dX7_cell_72 (by decide) ?_
            have h := some_i h
            subst h
            exact x_retl X hP hS hr hlk rfl rfl dX7_cell_87
        · have h := ite_f c_16 h
          refine lv_aload_n hx hb dX7_cell_47 rfl (lv_at hl 0 rfl) ?_
          refine lv_iconst (v := 2) hx hb dX7_cell_48 (by decide) ?_
          obtain ⟨z_25, e_26, h⟩ := bnd_s h
          refine x_calll (x_runV X O hP hS hl.1 (As := [.int 2]) (rest := []) (k_X7_failedLong O (2 : Int32) σ_1 e_26.symm) lt_X7 (e_X7 _) rfl wM_X7_229 wI_yX7_failedLong wS_yX7_failedLong wN_X7 wC_yX7_failedLong hd_X7_failedLong rfl ⟨rfl, rfl⟩ ⟨(Nat.le_of_ble_eq_true rfl), (Nat.le_of_ble_eq_true rfl)⟩ ⟨Nat.zero_le _, Nat.zero_le _⟩ rfl (Nat.le_of_ble_eq_true rfl) dX7_cell_49) hS (fun H locs hP hS => ?_)
          have h := some_i h
          subst h
          exact x_retl X hP hS hr hlk rfl rfl dX7_cell_52
    · have h := ite_t c_4 h
      refine x_calll (x_runS X hP hS hl.1 (As := []) (rest := []) (k_X7_lost O σ_1 rfl) wM_X7_83 wT_yX7_lost wN_X7 wC_yX7_lost hd_X7_lost rfl ⟨rfl, rfl⟩ ⟨(Nat.le_of_ble_eq_true rfl), (Nat.le_of_ble_eq_true rfl)⟩ ⟨Nat.zero_le _, Nat.zero_le _⟩ rfl (Nat.le_of_ble_eq_true rfl) dX7_cell_24) hS (fun H locs hP hS => ?_)
      have h := some_i h
      subst h
      exact x_retl X hP hS hr hlk rfl rfl dX7_cell_27
abbrev rm_X7_copy : Room := { frames := 2, cells := 0, slots := 0, locals := 45 }
set_option maxHeartbeats 4000000 in
set_option maxRecDepth 100000 in
theorem w_X7_copy_L107 {F : Nat} {Θ : TH} {p : Program} {l : Launch} {e : Env} {s : State} {m : MethodId} {args : Array Value} {below : List Frame} {meth : Method} {c : Code} (X : CX Θ p s m args c RX7 cX7_copy 7) (O : okT Θ (eM Θ) 23) (hr : meth.sig.returnType = some .int) (hlk : meth.locks = false) (v1 : Int32) (v2 : Int32) (v3 : Int32) (v4 : Int32) (v5 : Int32) {y : Int32 × Mem} {k141 : Mem → Option (Int32 × Mem)} (hk141 : ∀ (σ0 : Mem), k141 σ0 = some y → ∀ (H : Heap) (locs : List Loc) (ls : Array Slot), va_P (tD Θ) vwCl (tw Θ σ0) H → va_S (tA Θ) s.heap H locs → lv_has ls 7 [(0, .ref (ta Θ 0)), (3, .int v3), (4, .int v4), (5, .int v5)] → W p l e rm_X7_copy s m args below meth c H locs 0 0 (MQ below (qI Θ y.1 y.2) args s 0 0 (tA Θ)) (F0 m 141 ls [])) :
    ∀ (f : Nat) (v6 : Int32) (σ0 : Mem), X7_copy_L107 F v1 v2 v3 v4 v5 k141 f v6 σ0 = some y → ∀ (H : Heap) (locs : List Loc) (ls : Array Slot), va_P (tD Θ) vwCl (tw Θ σ0) H → va_S (tA Θ) s.heap H locs → lv_has ls 7 [(0, .ref (ta Θ 0)), (1, .int v1), (2, .int v2), (3, .int v3), (4, .int v4), (5, .int v5), (6, .int v6)] → W p l e rm_X7_copy s m args below meth c H locs 0 0 (MQ below (qI Θ y.1 y.2) args s 0 0 (tA Θ)) (F0 m 107 ls []) := by
  have hx := X.1
  have hb := X.2.1
  intro f
  induction f with
  | zero => intro v6 σ0 h; cases h
  | succ f ih =>
    intro v6 σ0 h H locs ls hP hS hl
    rw [X7_copy_L107] at h
    refine lv_iload hx hb dX7_copy_107 (lv_at hl 6 rfl) ?_
    refine lv_iload hx hb dX7_copy_109 (lv_at hl 5 rfl) ?_
    refine lv_icmp_ge (tgt := 141) hx hb dX7_copy_111 (by decide) (fun c_20 => ?_) (fun c_20 => ?_)
    · have h := ite_t c_20 h
      exact hk141 σ0 h _ _ _ hP hS (lv_sub hl [0, 3, 4, 5] rfl)
    · have h := ite_f c_20 h
      refine lv_aload_n hx hb dX7_copy_114 rfl (lv_at hl 0 rfl) ?_
      refine g_X7_74 X O hP dX7_copy_115 ?_
      refine lv_iload hx hb dX7_copy_118 (lv_at hl 6 rfl) ?_
      refine lv_aload_n hx hb dX7_copy_120 rfl (lv_at hl 0 rfl) ?_
      refine g_X7_71 X O hP dX7_copy_121 ?_
      refine lv_bipush (v := 60) hx hb dX7_copy_124 (by decide) ?_
      refine lv_iload_n hx hb dX7_copy_126 rfl (lv_at hl 1 rfl) ?_
      refine lv_imul hx hb dX7_copy_127 ?_
      refine lv_iload_n hx hb dX7_copy_128 rfl (lv_at hl 2 rfl) ?_
      refine lv_iadd hx hb dX7_copy_129 ?_
      refine lv_iload hx hb dX7_copy_130 (lv_at hl 6 rfl) ?_
      refine lv_iadd hx hb dX7_copy_132 ?_
      obtain ⟨g_21, h⟩ := grd_s h
      refine x_iald X O hP mI_21 g_21 dX7_copy_133 ?_
      obtain ⟨g_22, h⟩ := grd_s h
      obtain ⟨σ_23, e_24, h⟩ := bnd_s h
      refine x_iast X O hP hS mI_22 g_22 dX7_copy_134 e_24 (fun H locs hP hS => ?_)
      refine lv_iinc (v := v6 + 1) (lv' := [(6, .int (v6 + 1)), (0, .ref (ta Θ 0)), (1, .int v1), (2, .int v2), (3, .int v3), (4, .int v4), (5, .int v5)]) hx hb dX7_copy_135 hl (k := 6) rfl rfl (by decide) rfl (fun ls hl => ?_)
      refine lv_goto (tgt := 107) hx hb dX7_copy_138 (by decide) ?_
      exact ih (v6 + 1) σ_23 h _ _ _ hP hS (lv_sub hl [1, 2, 3, 4, 5, 6, 0] rfl)
set_option maxHeartbeats 4000000 in
set_option maxRecDepth 100000 in
theorem w_X7_copy_L144 {F : Nat} {Θ : TH} {p : Program} {l : Launch} {e : Env} {s : State} {m : MethodId} {args : Array Value} {below : List Frame} {meth : Method} {c : Code} (X : CX Θ p s m args c RX7 cX7_copy 7) (O : okT Θ (eM Θ) 23) (hr : meth.sig.returnType = some .int) (hlk : meth.locks = false) (v3 : Int32) (v4 : Int32) (v5 : Int32) {y : Int32 × Mem} {k179 : Mem → Option (Int32 × Mem)} (hk179 : ∀ (σ0 : Mem), k179 σ0 = some y → ∀ (H : Heap) (locs : List Loc) (ls : Array Slot), va_P (tD Θ) vwCl (tw Θ σ0) H → va_S (tA Θ) s.heap H locs → lv_has ls 7 [(0, .ref (ta Θ 0)), (5, .int v5)] → W p l e rm_X7_copy s m args below meth c H locs 0 0 (MQ below (qI Θ y.1 y.2) args s 0 0 (tA Θ)) (F0 m 179 ls [])) :
    ∀ (f : Nat) (v6 : Int32) (σ0 : Mem), X7_copy_L144 F v3 v4 v5 k179 f v6 σ0 = some y → ∀ (H : Heap) (locs : List Loc) (ls : Array Slot), va_P (tD Θ) vwCl (tw Θ σ0) H → va_S (tA Θ) s.heap H locs → lv_has ls 7 [(0, .ref (ta Θ 0)), (3, .int v3), (4, .int v4), (5, .int v5), (6, .int v6)] → W p l e rm_X7_copy s m args below meth c H locs 0 0 (MQ below (qI Θ y.1 y.2) args s 0 0 (tA Θ)) (F0 m 144 ls []) := by
  have hx := X.1
  have hb := X.2.1
  intro f
  induction f with
  | zero => intro v6 σ0 h; cases h
  | succ f ih =>
    intro v6 σ0 h H locs ls hP hS hl
    rw [X7_copy_L144] at h
    refine lv_iload hx hb dX7_copy_144 (lv_at hl 4 rfl) ?_
    refine lv_iload hx hb dX7_copy_146 (lv_at hl 3 rfl) ?_
    refine lv_icmp_ge (tgt := 179) hx hb dX7_copy_148 (by decide) (fun c_26 => ?_) (fun c_26 => ?_)
    · have h := ite_t c_26 h
      exact hk179 σ0 h _ _ _ hP hS (lv_sub hl [0, 3] rfl)
    · have h := ite_f c_26 h
      refine lv_aload_n hx hb dX7_copy_151 rfl (lv_at hl 0 rfl) ?_
      refine g_X7_71 X O hP dX7_copy_152 ?_
      refine lv_bipush (v := 60) hx hb dX7_copy_155 (by decide) ?_
      refine lv_iload_n hx hb dX7_copy_157 rfl (lv_at hl 1 rfl) ?_
      refine lv_imul hx hb dX7_copy_158 ?_
      refine lv_iload hx hb dX7_copy_159 (lv_at hl 2 rfl) ?_
      refine lv_iadd hx hb dX7_copy_161 ?_
      refine lv_iload hx hb dX7_copy_162 (lv_at hl 4 rfl) ?_
      refine lv_iadd hx hb dX7_copy_164 ?_
      refine lv_aload_n hx hb dX7_copy_165 rfl (lv_at hl 0 rfl) ?_
      refine g_X7_74 X O hP dX7_copy_166 ?_
      refine lv_iload hx hb dX7_copy_169 (lv_at hl 4 rfl) ?_
      obtain ⟨g_27, h⟩ := grd_s h
      refine x_iald X O hP mI_22 g_27 dX7_copy_171 ?_
      obtain ⟨g_28, h⟩ := grd_s h
      obtain ⟨σ_29, e_30, h⟩ := bnd_s h
      refine x_iast X O hP hS mI_21 g_28 dX7_copy_172 e_30 (fun H locs hP hS => ?_)
      refine lv_iinc (v := v6 + 1) (lv' := [(6, .int (v6 + 1)), (0, .ref (ta Θ 0)), (3, .int v3), (4, .int v4), (5, .int v5)]) hx hb dX7_copy_173 hl (k := 4) rfl rfl (by decide) rfl (fun ls hl => ?_)
      refine lv_goto (tgt := 144) hx hb dX7_copy_176 (by decide) ?_
      exact ih (v6 + 1) σ_29 h _ _ _ hP hS (lv_sub hl [1, 2, 3, 4, 0] rfl)
theorem hd_X7_copy : yX7_copy.cls ≠ "java/lang/invoke/MethodHandle" ∧ yX7_copy.cls ≠ "java/lang/invoke/VarHandle" ∧ (parseMethodDescriptor yX7_copy.desc).map (fun d => d.parameters.length) = some 5 := by decide +kernel
set_option maxHeartbeats 4000000 in
set_option maxRecDepth 100000 in
theorem k_X7_copy {F : Nat} {Θ : TH} {l : Launch} (O : okT Θ (eM Θ) 23) (v1 : Int32) (v2 : Int32) (v3 : Int32) (v4 : Int32) (v5 : Int32) (σ0 : Mem) {y : Int32 × Mem} (h : X7_copy F v1 v2 v3 v4 v5 σ0 = some y) : Met l yX7_copy (Cond.code yX7_copy cX7_copy 7 (some .int) :: wAll) rm_X7_copy (va_Pc [.ref (ta Θ 0), .int v1, .int v2, .int v3, .int v4, .int v5] (tS Θ σ0)) (qI Θ y.1 y.2) 0 0 (tA Θ) := by
  refine x_ent (by decide) (Nat.le_of_ble_eq_true rfl) (fun p e s m below meth c X hr hlk hP ls hl => ?_)
  have hS : va_S (tA Θ) s.heap s.heap [] := va_S.rf
  have hl : lv_has ls 7 [(0, .ref (ta Θ 0)), (1, .int v1), (2, .int v2), (3, .int v3), (4, .int v4), (5, .int v5)] := hl
  have hx := X.1
  have hb := X.2.1
  unfold X7_copy at h
  refine lv_iload_n hx hb dX7_copy_0 rfl (lv_at hl 1 rfl) ?_
  refine x_calli (x_runS X hP hS hl.1 (As := [.int v1]) (rest := []) (k_X7_noSheet O v1 σ0 rfl) wM_X7_120 wT_yX7_noSheet wN_X7 wC_yX7_noSheet hd_X7_noSheet rfl ⟨rfl, rfl⟩ ⟨(Nat.le_of_ble_eq_true rfl), (Nat.le_of_ble_eq_true rfl)⟩ ⟨Nat.zero_le _, Nat.zero_le _⟩ rfl (Nat.le_of_ble_eq_true rfl) dX7_copy_1) hS (fun H locs hP hS => ?_)
  refine lv_if_ne (tgt := 14) hx hb dX7_copy_4 (by decide) (fun c_1 => ?_) (fun c_1 => ?_)
  · have h := ite_f c_1 h
    refine lv_aload_n hx hb dX7_copy_14 rfl (lv_at hl 0 rfl) ?_
    refine lv_iconst (v := (-1)) hx hb dX7_copy_15 (by decide) ?_
    obtain ⟨z_2, e_3, h⟩ := bnd_s h
    refine x_calli (x_runV X O hP hS hl.1 (As := [.int ((-1))]) (rest := []) (k_X7_refused O (-1 : Int32) σ0 e_3.symm) lt_X7 (e_X7 _) rfl wM_X7_124 wI_yX7_refused wS_yX7_refused wN_X7 wC_yX7_refused hd_X7_refused rfl ⟨rfl, rfl⟩ ⟨(Nat.le_of_ble_eq_true rfl), (Nat.le_of_ble_eq_true rfl)⟩ ⟨Nat.zero_le _, Nat.zero_le _⟩ rfl (Nat.le_of_ble_eq_true rfl) dX7_copy_16) hS (fun H locs hP hS => ?_)
    have h := some_i h
    subst h
    exact x_reti X hP hS hr hlk rfl rfl dX7_copy_19
  · have h := ite_t c_1 h
    refine lv_iload_n hx hb dX7_copy_7 rfl (lv_at hl 3 rfl) ?_
    refine x_calli (x_runS X hP hS hl.1 (As := [.int v3]) (rest := []) (k_X7_noSheet O v3 σ0 rfl) wM_X7_120 wT_yX7_noSheet wN_X7 wC_yX7_noSheet hd_X7_noSheet rfl ⟨rfl, rfl⟩ ⟨(Nat.le_of_ble_eq_true rfl), (Nat.le_of_ble_eq_true rfl)⟩ ⟨Nat.zero_le _, Nat.zero_le _⟩ rfl (Nat.le_of_ble_eq_true rfl) dX7_copy_8) hS (fun H locs hP hS => ?_)
    refine lv_if_eq (tgt := 20) hx hb dX7_copy_11 (by decide) (fun c_4 => ?_) (fun c_4 => ?_)
    · have h := ite_t c_4 h
      refine lv_aload_n hx hb dX7_copy_20 rfl (lv_at hl 0 rfl) ?_
      refine g_X7_65 X O hP dX7_copy_21 ?_
      refine lv_iload_n hx hb dX7_copy_24 rfl (lv_at hl 1 rfl) ?_
      obtain ⟨g_5, h⟩ := grd_s h
      refine x_iald X O hP mI_19 g_5 dX7_copy_25 ?_
      refine lv_if_lt (tgt := 38) hx hb dX7_copy_26 (by decide) (fun c_6 => ?_) (fun c_6 => ?_)
      · have h := ite_t c_6 h
        refine lv_aload_n hx hb dX7_copy_38 rfl (lv_at hl 0 rfl) ?_
        refine lv_iconst (v := 1) hx hb dX7_copy_39 (by decide) ?_
        obtain ⟨z_7, e_8, h⟩ := bnd_s h
        refine x_calli (x_runV X O hP hS hl.1 (As := [.int 1]) (rest := []) (k_X7_failed O (1 : Int32) σ0 e_8.symm) lt_X7 (e_X7 _) rfl wM_X7_112 wI_yX7_failed wS_yX7_failed wN_X7 wC_yX7_failed hd_X7_failed rfl ⟨rfl, rfl⟩ ⟨(Nat.le_of_ble_eq_true rfl), (Nat.le_of_ble_eq_true rfl)⟩ ⟨Nat.zero_le _, Nat.zero_le _⟩ rfl (Nat.le_of_ble_eq_true rfl) dX7_copy_40) hS (fun H locs hP hS => ?_)
        have h := some_i h
        subst h
        exact x_reti X hP hS hr hlk rfl rfl dX7_copy_43
      · have h := ite_f c_6 h
        refine lv_aload_n hx hb dX7_copy_29 rfl (lv_at hl 0 rfl) ?_
        refine g_X7_65 X O hP dX7_copy_30 ?_
        refine lv_iload_n hx hb dX7_copy_33 rfl (lv_at hl 3 rfl) ?_
        obtain ⟨g_9, h⟩ := grd_s h
        refine x_iald X O hP mI_19 g_9 dX7_copy_34 ?_
        refine lv_if_ge (tgt := 44) hx hb dX7_copy_35 (by decide) (fun c_10 => ?_) (fun c_10 => ?_)
        · have h := ite_t c_10 h
          refine lv_aload_n hx hb dX7_copy_44 rfl (lv_at hl 0 rfl) ?_
          refine g_X7_68 X O hP dX7_copy_45 ?_
          refine lv_iload_n hx hb dX7_copy_48 rfl (lv_at hl 1 rfl) ?_
          obtain ⟨g_11, h⟩ := grd_s h
          refine x_iald X O hP mI_20 g_11 dX7_copy_49 ?_
          refine lv_aload_n hx hb dX7_copy_50 rfl (lv_at hl 0 rfl) ?_
          refine g_X7_68 X O hP dX7_copy_51 ?_
          refine lv_iload_n hx hb dX7_copy_54 rfl (lv_at hl 3 rfl) ?_
          obtain ⟨g_12, h⟩ := grd_s h
          refine x_iald X O hP mI_20 g_12 dX7_copy_55 ?_
          refine lv_icmp_eq (tgt := 65) hx hb dX7_copy_56 (by decide) (fun c_13 => ?_) (fun c_13 => ?_)
          · have h := ite_t c_13 h
            refine lv_iload_n hx hb dX7_copy_65 rfl (lv_at hl 2 rfl) ?_
            refine lv_iload hx hb dX7_copy_66 (lv_at hl 5 rfl) ?_
            refine lv_i2l (v := v5.toInt64) hx hb dX7_copy_68 rfl ?_
            refine lv_aload_n hx hb dX7_copy_69 rfl (lv_at hl 0 rfl) ?_
            refine g_X7_65 X O hP dX7_copy_70 ?_
            refine lv_iload_n hx hb dX7_copy_73 rfl (lv_at hl 1 rfl) ?_
            obtain ⟨g_14, h⟩ := grd_s h
            refine x_iald X O hP mI_19 g_14 dX7_copy_74 ?_
            refine x_calli (x_runS X hP hS hl.1 (As := [.int v2, .long v5.toInt64, .int (σ0 19 v1.toNatClampNeg)]) (rest := []) (k_X7_isBeyond O v2 v5.toInt64 (σ0 19 v1.toNatClampNeg) σ0 rfl) wM_X7_116 wT_yX7_isBeyond wN_X7 wC_yX7_isBeyond hd_X7_isBeyond rfl ⟨rfl, rfl⟩ ⟨(Nat.le_of_ble_eq_true rfl), (Nat.le_of_ble_eq_true rfl)⟩ ⟨Nat.zero_le _, Nat.zero_le _⟩ rfl (Nat.le_of_ble_eq_true rfl) dX7_copy_75) hS (fun H locs hP hS => ?_)
            refine lv_if_ne (tgt := 98) hx hb dX7_copy_78 (by decide) (fun c_15 => ?_) (fun c_15 => ?_)
            · have h := ite_f c_15 h
              refine lv_aload_n hx hb dX7_copy_98 rfl (lv_at hl 0 rfl) ?_
              refine lv_iconst (v := 3) hx hb dX7_copy_99 (by decide) ?_
              obtain ⟨z_16, e_17, h⟩ := bnd_s h
              refine x_calli (x_runV X O hP hS hl.1 (As := [.int 3]) (rest := []) (k_X7_failed O (3 : Int32) σ0 e_17.symm) lt_X7 (e_X7 _) rfl wM_X7_112 wI_yX7_failed wS_yX7_failed wN_X7 wC_yX7_failed hd_X7_failed rfl ⟨rfl, rfl⟩ ⟨(Nat.le_of_ble_eq_true rfl), (Nat.le_of_ble_eq_true rfl)⟩ ⟨Nat.zero_le _, Nat.zero_le _⟩ rfl (Nat.le_of_ble_eq_true rfl) dX7_copy_100) hS (fun H locs hP hS => ?_)
              have h := some_i h
              subst h
              exact x_reti X hP hS hr hlk rfl rfl dX7_copy_103
            · have h := ite_t c_15 h
              refine lv_iload hx hb dX7_copy_81 (lv_at hl 4 rfl) ?_
              refine lv_iload hx hb dX7_copy_83 (lv_at hl 5 rfl) ?_
              refine lv_i2l (v := v5.toInt64) hx hb dX7_copy_85 rfl ?_
              refine lv_aload_n hx hb dX7_copy_86 rfl (lv_at hl 0 rfl) ?_
              refine g_X7_65 X O hP dX7_copy_87 ?_
              refine lv_iload_n hx hb dX7_copy_90 rfl (lv_at hl 3 rfl) ?_
              obtain ⟨g_18, h⟩ := grd_s h
              refine x_iald X O hP mI_19 g_18 dX7_copy_91 ?_
              refine x_calli (x_runS X hP hS hl.1 (As := [.int v4, .long v5.toInt64, .int (σ0 19 v3.toNatClampNeg)]) (rest := []) (k_X7_isBeyond O v4 v5.toInt64 (σ0 19 v3.toNatClampNeg) σ0 rfl) wM_X7_116 wT_yX7_isBeyond wN_X7 wC_yX7_isBeyond hd_X7_isBeyond rfl ⟨rfl, rfl⟩ ⟨(Nat.le_of_ble_eq_true rfl), (Nat.le_of_ble_eq_true rfl)⟩ ⟨Nat.zero_le _, Nat.zero_le _⟩ rfl (Nat.le_of_ble_eq_true rfl) dX7_copy_92) hS (fun H locs hP hS => ?_)
              refine lv_if_eq (tgt := 104) hx hb dX7_copy_95 (by decide) (fun c_19 => ?_) (fun c_19 => ?_)
              · have h := ite_t c_19 h
                refine lv_iconst (v := 0) hx hb dX7_copy_104 (by decide) ?_
                refine lv_istore (lv' := [(6, .int 0), (0, .ref (ta Θ 0)), (1, .int v1), (2, .int v2), (3, .int v3), (4, .int v4), (5, .int v5)]) hx hb dX7_copy_105 hl (by decide) rfl (fun ls hl => ?_)
                refine w_X7_copy_L107 X O hr hlk v1 v2 v3 v4 v5 ?_ _ (0 : Int32) σ0 h _ _ _ hP hS (lv_sub hl [1, 2, 3, 4, 5, 6, 0] rfl)
                · intro σ_25 h H locs ls hP hS hl
                  refine lv_iconst (v := 0) hx hb dX7_copy_141 (by decide) ?_
                  refine lv_istore (lv' := [(6, .int 0), (0, .ref (ta Θ 0)), (3, .int v3), (4, .int v4), (5, .int v5)]) hx hb dX7_copy_142 hl (by decide) rfl (fun ls hl => ?_)
                  refine w_X7_copy_L144 X O hr hlk v3 v4 v5 ?_ _ (0 : Int32) σ_25 h _ _ _ hP hS (lv_sub hl [1, 2, 3, 4, 0] rfl)
                  · intro σ_31 h H locs ls hP hS hl
                    refine lv_aload_n hx hb dX7_copy_179 rfl (lv_at hl 0 rfl) ?_
                    refine lv_iload hx hb dX7_copy_180 (lv_at hl 1 rfl) ?_
                    obtain ⟨z_32, e_33, h⟩ := bnd_s h
                    refine x_calli (x_runV X O hP hS hl.1 (As := [.int v5]) (rest := []) (k_X7_refused O v5 σ_31 e_33.symm) lt_X7 (e_X7 _) rfl wM_X7_124 wI_yX7_refused wS_yX7_refused wN_X7 wC_yX7_refused hd_X7_refused rfl ⟨rfl, rfl⟩ ⟨(Nat.le_of_ble_eq_true rfl), (Nat.le_of_ble_eq_true rfl)⟩ ⟨Nat.zero_le _, Nat.zero_le _⟩ rfl (Nat.le_of_ble_eq_true rfl) dX7_copy_182) hS (fun H locs hP hS => ?_)
                    have h := some_i h
                    subst h
                    exact x_reti X hP hS hr hlk rfl rfl dX7_copy_185
              · have h := ite_f c_19 h
                refine lv_aload_n hx hb dX7_copy_98 rfl (lv_at hl 0 rfl) ?_
                refine lv_iconst (v := 3) hx hb dX7_copy_99 (by decide) ?_
                obtain ⟨z_34, e_35, h⟩ := bnd_s h
                refine x_calli (x_runV X O hP hS hl.1 (As := [.int 3]) (rest := []) (k_X7_failed O (3 : Int32) σ0 e_35.symm) lt_X7 (e_X7 _) rfl wM_X7_112 wI_yX7_failed wS_yX7_failed wN_X7 wC_yX7_failed hd_X7_failed rfl ⟨rfl, rfl⟩ ⟨(Nat.le_of_ble_eq_true rfl), (Nat.le_of_ble_eq_true rfl)⟩ ⟨Nat.zero_le _, Nat.zero_le _⟩ rfl (Nat.le_of_ble_eq_true rfl) dX7_copy_100) hS (fun H locs hP hS => ?_)
                have h := some_i h
                subst h
                exact x_reti X hP hS hr hlk rfl rfl dX7_copy_103
          · have h := ite_f c_13 h
            refine lv_aload_n hx hb dX7_copy_59 rfl (lv_at hl 0 rfl) ?_
            refine lv_iconst (v := 2) hx hb dX7_copy_60 (by decide) ?_
            obtain ⟨z_36, e_37, h⟩ := bnd_s h
            refine x_calli (x_runV X O hP hS hl.1 (As := [.int 2]) (rest := []) (k_X7_failed O (2 : Int32) σ0 e_37.symm) lt_X7 (e_X7 _) rfl wM_X7_112 wI_yX7_failed wS_yX7_failed wN_X7 wC_yX7_failed hd_X7_failed rfl ⟨rfl, rfl⟩ ⟨(Nat.le_of_ble_eq_true rfl), (Nat.le_of_ble_eq_true rfl)⟩ ⟨Nat.zero_le _, Nat.zero_le _⟩ rfl (Nat.le_of_ble_eq_true rfl) dX7_copy_61) hS (fun H locs hP hS => ?_)
            have h := some_i h
            subst h
            exact x_reti X hP hS hr hlk rfl rfl dX7_copy_64
        · have h := ite_f c_10 h
          refine lv_aload_n hx hb dX7_copy_38 rfl (lv_at hl 0 rfl) ?_
          refine lv_iconst (v := 1) hx hb dX7_copy_39 (by decide) ?_
          obtain ⟨z_38, e_39, h⟩ := bnd_s h
          refine x_calli (x_runV X O hP hS hl.1 (As := [.int 1]) (rest := []) (k_X7_failed O (1 : Int32) σ0 e_39.symm) lt_X7 (e_X7 _) rfl wM_X7_112 wI_yX7_failed wS_yX7_failed wN_X7 wC_yX7_failed hd_X7_failed rfl ⟨rfl, rfl⟩ ⟨(Nat.le_of_ble_eq_true rfl), (Nat.le_of_ble_eq_true rfl)⟩ ⟨Nat.zero_le _, Nat.zero_le _⟩ rfl (Nat.le_of_ble_eq_true rfl) dX7_copy_40) hS (fun H locs hP hS => ?_)
          have h := some_i h
          subst h
          exact x_reti X hP hS hr hlk rfl rfl dX7_copy_43
    · have h := ite_f c_4 h
      refine lv_aload_n hx hb dX7_copy_14 rfl (lv_at hl 0 rfl) ?_
      refine lv_iconst (v := (-1)) hx hb dX7_copy_15 (by decide) ?_
      obtain ⟨z_40, e_41, h⟩ := bnd_s h
      refine x_calli (x_runV X O hP hS hl.1 (As := [.int ((-1))]) (rest := []) (k_X7_refused O (-1 : Int32) σ0 e_41.symm) lt_X7 (e_X7 _) rfl wM_X7_124 wI_yX7_refused wS_yX7_refused wN_X7 wC_yX7_refused hd_X7_refused rfl ⟨rfl, rfl⟩ ⟨(Nat.le_of_ble_eq_true rfl), (Nat.le_of_ble_eq_true rfl)⟩ ⟨Nat.zero_le _, Nat.zero_le _⟩ rfl (Nat.le_of_ble_eq_true rfl) dX7_copy_16) hS (fun H locs hP hS => ?_)
      have h := some_i h
      subst h
      exact x_reti X hP hS hr hlk rfl rfl dX7_copy_19
abbrev rm_X7_traced : Room := { frames := 0, cells := 0, slots := 0, locals := 0 }
theorem hd_X7_traced : yX7_traced.cls ≠ "java/lang/invoke/MethodHandle" ∧ yX7_traced.cls ≠ "java/lang/invoke/VarHandle" ∧ (parseMethodDescriptor yX7_traced.desc).map (fun d => d.parameters.length) = some 1 := by decide +kernel
set_option maxHeartbeats 4000000 in
set_option maxRecDepth 100000 in
theorem k_X7_traced {Θ : TH} {l : Launch} (O : okT Θ (eM Θ) 23) (v1 : Int32) (σ0 : Mem) {y : Mem} (h : X7_traced v1 σ0 = y) : Met l yX7_traced (Cond.code yX7_traced cX7_traced 2 none :: wAll) rm_X7_traced (va_Pc [.ref (ta Θ 0), .int v1] (tS Θ σ0)) (qV Θ y) 0 0 (tA Θ) := by
  refine x_ent (by decide) (Nat.le_of_ble_eq_true rfl) (fun p e s m below meth c X hr hlk hP ls hl => ?_)
  have hS : va_S (tA Θ) s.heap s.heap [] := va_S.rf
  have hl : lv_has ls 2 [(0, .ref (ta Θ 0)), (1, .int v1)] := hl
  have hx := X.1
  have hb := X.2.1
  unfold X7_traced at h
  refine lv_aload_n hx hb dX7_traced_0 rfl (lv_at hl 0 rfl) ?_
  refine lv_bipush (v := 31) hx hb dX7_traced_1 (by decide) ?_
  refine lv_aload_n hx hb dX7_traced_3 rfl (lv_at hl 0 rfl) ?_
  refine g_X7_233 X O hP dX7_traced_4 ?_
  refine lv_imul hx hb dX7_traced_7 ?_
  refine lv_iload_n hx hb dX7_traced_8 rfl (lv_at hl 1 rfl) ?_
  refine lv_iadd hx hb dX7_traced_9 ?_
  obtain ⟨σ_1, e_2, h⟩ := bnd_s h
  refine p_X7_233 X O hP hS dX7_traced_10 e_2 (fun H locs hP hS => ?_)
  subst h
  exact x_retv X hP hS hr hlk rfl dX7_traced_13
abbrev rm_X7_tell : Room := { frames := 2, cells := 0, slots := 0, locals := 46 }
set_option maxHeartbeats 4000000 in
set_option maxRecDepth 100000 in
theorem w_X7_tell_J51 {Θ : TH} {p : Program} {l : Launch} {e : Env} {s : State} {m : MethodId} {args : Array Value} {below : List Frame} {meth : Method} {c : Code} (X : CX Θ p s m args c RX7 cX7_tell 4) (O : okT Θ (eM Θ) 23) (hr : meth.sig.returnType = some .int) (hlk : meth.locks = false) {y : Int32 × Mem} (v1 : Int32) (v2 : Int32) (σ0 : Mem) (h : X7_tell_J51 v1 v2 σ0 = some y) (H : Heap) (locs : List Loc) (ls : Array Slot) (hP : va_P (tD Θ) vwCl (tw Θ σ0) H) (hS : va_S (tA Θ) s.heap H locs) (hl : lv_has ls 4 [(0, .ref (ta Θ 0)), (1, .int v1), (2, .int v2)]) : W p l e rm_X7_tell s m args below meth c H locs 0 0 (MQ below (qI Θ y.1 y.2) args s 0 0 (tA Θ)) (F0 m 51 ls []) := by
  have hx := X.1
  have hb := X.2.1
  unfold X7_tell_J51 at h
  refine lv_aload_n hx hb dX7_tell_51 rfl (lv_at hl 0 rfl) ?_
  refine g_X7_19 X O hP dX7_tell_52 ?_
  refine lv_iload_n hx hb dX7_tell_55 rfl (lv_at hl 1 rfl) ?_
  obtain ⟨g_10, h⟩ := grd_s h
  refine x_iald X O hP mI_4 g_10 dX7_tell_56 ?_
  obtain ⟨v3_11, e_12, h⟩ := bnd_s h
  refine lv_nam e_12 ?_
  refine lv_istore_n (lv' := [(3, .int v3_11), (0, .ref (ta Θ 0)), (1, .int v1), (2, .int v2)]) hx hb dX7_tell_57 rfl hl (by decide) rfl (fun ls hl => ?_)
  refine lv_iload_n hx hb dX7_tell_58 rfl (lv_at hl 3 rfl) ?_
  refine lv_if_ne (tgt := 66) hx hb dX7_tell_59 (by decide) (fun c_13 => ?_) (fun c_13 => ?_)
  · have h := ite_f c_13 h
    refine lv_iload_n hx hb dX7_tell_66 rfl (lv_at hl 3 rfl) ?_
    refine lv_iconst (v := 1) hx hb dX7_tell_67 (by decide) ?_
    refine lv_icmp_ne (tgt := 78) hx hb dX7_tell_68 (by decide) (fun c_14 => ?_) (fun c_14 => ?_)
    · have h := ite_f c_14 h
      refine lv_iconst (v := 2) hx hb dX7_tell_78 (by decide) ?_
      refine lv_iload_n hx hb dX7_tell_79 rfl (lv_at hl 0 rfl) ?_
      refine lv_imul hx hb dX7_tell_80 ?_
      refine lv_bipush (v := 100) hx hb dX7_tell_81 (by decide) ?_
      refine lv_iadd hx hb dX7_tell_83 ?_
      have h := some_i h
      subst h
      exact x_reti X hP hS hr hlk rfl rfl dX7_tell_84
    · have h := ite_t c_14 h
      refine lv_iload_n hx hb dX7_tell_71 rfl (lv_at hl 0 rfl) ?_
      refine lv_bipush (v := 100) hx hb dX7_tell_72 (by decide) ?_
      refine lv_iadd hx hb dX7_tell_74 ?_
      refine lv_goto (tgt := 84) hx hb dX7_tell_75 (by decide) ?_
      have h := some_i h
      subst h
      exact x_reti X hP hS hr hlk rfl rfl dX7_tell_84
  · have h := ite_t c_13 h
    refine lv_iload_n hx hb dX7_tell_62 rfl (lv_at hl 0 rfl) ?_
    refine lv_goto (tgt := 84) hx hb dX7_tell_63 (by decide) ?_
    have h := some_i h
    subst h
    exact x_reti X hP hS hr hlk rfl rfl dX7_tell_84
set_option maxHeartbeats 4000000 in
set_option maxRecDepth 100000 in
theorem w_X7_tell_J36 {Θ : TH} {p : Program} {l : Launch} {e : Env} {s : State} {m : MethodId} {args : Array Value} {below : List Frame} {meth : Method} {c : Code} (X : CX Θ p s m args c RX7 cX7_tell 4) (O : okT Θ (eM Θ) 23) (hr : meth.sig.returnType = some .int) (hlk : meth.locks = false) {y : Int32 × Mem} (v1 : Int32) (v2 : Int32) (σ0 : Mem) (h : X7_tell_J36 v1 v2 σ0 = some y) (H : Heap) (locs : List Loc) (ls : Array Slot) (hP : va_P (tD Θ) vwCl (tw Θ σ0) H) (hS : va_S (tA Θ) s.heap H locs) (hl : lv_has ls 4 [(0, .ref (ta Θ 0)), (1, .int v1), (2, .int v2)]) : W p l e rm_X7_tell s m args below meth c H locs 0 0 (MQ below (qI Θ y.1 y.2) args s 0 0 (tA Θ)) (F0 m 36 ls []) := by
  have hx := X.1
  have hb := X.2.1
  unfold X7_tell_J36 at h
  refine lv_aload_n hx hb dX7_tell_36 rfl (lv_at hl 0 rfl) ?_
  refine lv_iconst (v := 1) hx hb dX7_tell_37 (by decide) ?_
  obtain ⟨σ_7, e_8, h⟩ := bnd_s h
  refine x_callv (x_runV X O hP hS hl.1 (As := [.int 1]) (rest := []) (k_X7_traced O (1 : Int32) σ0 e_8.symm) lt_X7 (e_X7 _) rfl wM_X7_236 wI_yX7_traced wS_yX7_traced wN_X7 wC_yX7_traced hd_X7_traced rfl ⟨rfl, rfl⟩ ⟨(Nat.le_of_ble_eq_true rfl), (Nat.le_of_ble_eq_true rfl)⟩ ⟨Nat.zero_le _, Nat.zero_le _⟩ rfl (Nat.le_of_ble_eq_true rfl) dX7_tell_38) hS (fun H locs hP hS => ?_)
  refine lv_iload_n hx hb dX7_tell_41 rfl (lv_at hl 2 rfl) ?_
  refine lv_iconst (v := 2) hx hb dX7_tell_42 (by decide) ?_
  refine lv_icmp_ne (tgt := 51) hx hb dX7_tell_43 (by decide) (fun c_9 => ?_) (fun c_9 => ?_)
  · have h := ite_f c_9 h
    exact w_X7_tell_J51 X O hr hlk v1 v2 σ_7 h _ _ _ hP hS (lv_sub hl [0, 1, 2] rfl)
  · have h := ite_t c_9 h
    refine lv_aload_n hx hb dX7_tell_46 rfl (lv_at hl 0 rfl) ?_
    refine lv_iconst (v := 1) hx hb dX7_tell_47 (by decide) ?_
    obtain ⟨σ_15, e_16, h⟩ := bnd_s h
    refine x_callv (x_runV X O hP hS hl.1 (As := [.int 1]) (rest := []) (k_X7_traced O (1 : Int32) σ_7 e_16.symm) lt_X7 (e_X7 _) rfl wM_X7_236 wI_yX7_traced wS_yX7_traced wN_X7 wC_yX7_traced hd_X7_traced rfl ⟨rfl, rfl⟩ ⟨(Nat.le_of_ble_eq_true rfl), (Nat.le_of_ble_eq_true rfl)⟩ ⟨Nat.zero_le _, Nat.zero_le _⟩ rfl (Nat.le_of_ble_eq_true rfl) dX7_tell_48) hS (fun H locs hP hS => ?_)
    exact w_X7_tell_J51 X O hr hlk v1 v2 σ_15 h _ _ _ hP hS (lv_sub hl [0, 1, 2] rfl)
set_option maxHeartbeats 4000000 in
set_option maxRecDepth 100000 in
theorem w_X7_tell_J27 {Θ : TH} {p : Program} {l : Launch} {e : Env} {s : State} {m : MethodId} {args : Array Value} {below : List Frame} {meth : Method} {c : Code} (X : CX Θ p s m args c RX7 cX7_tell 4) (O : okT Θ (eM Θ) 23) (hr : meth.sig.returnType = some .int) (hlk : meth.locks = false) {y : Int32 × Mem} (v1 : Int32) (v2 : Int32) (σ0 : Mem) (h : X7_tell_J27 v1 v2 σ0 = some y) (H : Heap) (locs : List Loc) (ls : Array Slot) (hP : va_P (tD Θ) vwCl (tw Θ σ0) H) (hS : va_S (tA Θ) s.heap H locs) (hl : lv_has ls 4 [(0, .ref (ta Θ 0)), (1, .int v1), (2, .int v2)]) : W p l e rm_X7_tell s m args below meth c H locs 0 0 (MQ below (qI Θ y.1 y.2) args s 0 0 (tA Θ)) (F0 m 27 ls []) := by
  have hx := X.1
  have hb := X.2.1
  unfold X7_tell_J27 at h
  refine lv_iload_n hx hb dX7_tell_27 rfl (lv_at hl 2 rfl) ?_
  refine lv_if_le (tgt := 36) hx hb dX7_tell_28 (by decide) (fun c_6 => ?_) (fun c_6 => ?_)
  · have h := ite_t c_6 h
    exact w_X7_tell_J36 X O hr hlk v1 v2 σ0 h _ _ _ hP hS (lv_sub hl [0, 1, 2] rfl)
  · have h := ite_f c_6 h
    refine lv_aload_n hx hb dX7_tell_31 rfl (lv_at hl 0 rfl) ?_
    refine lv_iconst (v := 2) hx hb dX7_tell_32 (by decide) ?_
    obtain ⟨σ_17, e_18, h⟩ := bnd_s h
    refine x_callv (x_runV X O hP hS hl.1 (As := [.int 2]) (rest := []) (k_X7_traced O (2 : Int32) σ0 e_18.symm) lt_X7 (e_X7 _) rfl wM_X7_236 wI_yX7_traced wS_yX7_traced wN_X7 wC_yX7_traced hd_X7_traced rfl ⟨rfl, rfl⟩ ⟨(Nat.le_of_ble_eq_true rfl), (Nat.le_of_ble_eq_true rfl)⟩ ⟨Nat.zero_le _, Nat.zero_le _⟩ rfl (Nat.le_of_ble_eq_true rfl) dX7_tell_33) hS (fun H locs hP hS => ?_)
    exact w_X7_tell_J36 X O hr hlk v1 v2 σ_17 h _ _ _ hP hS (lv_sub hl [0, 1, 2] rfl)
theorem hd_X7_tell : yX7_tell.cls ≠ "java/lang/invoke/MethodHandle" ∧ yX7_tell.cls ≠ "java/lang/invoke/VarHandle" ∧ (parseMethodDescriptor yX7_tell.desc).map (fun d => d.parameters.length) = some 1 := by decide +kernel
set_option maxHeartbeats 4000000 in
set_option maxRecDepth 100000 in
theorem k_X7_tell {Θ : TH} {l : Launch} (O : okT Θ (eM Θ) 23) (v1 : Int32) (σ0 : Mem) {y : Int32 × Mem} (h : X7_tell v1 σ0 = some y) : Met l yX7_tell (Cond.code yX7_tell cX7_tell 4 (some .int) :: wAll) rm_X7_tell (va_Pc [.ref (ta Θ 0), .int v1] (tS Θ σ0)) (qI Θ y.1 y.2) 0 0 (tA Θ) := by
  refine x_ent (by decide) (Nat.le_of_ble_eq_true rfl) (fun p e s m below meth c X hr hlk hP ls hl => ?_)
  have hS : va_S (tA Θ) s.heap s.heap [] := va_S.rf
  have hl : lv_has ls 4 [(0, .ref (ta Θ 0)), (1, .int v1)] := hl
  have hx := X.1
  have hb := X.2.1
  unfold X7_tell at h
  refine lv_aload_n hx hb dX7_tell_0 rfl (lv_at hl 0 rfl) ?_
  refine lv_iload_n hx hb dX7_tell_1 rfl (lv_at hl 1 rfl) ?_
  refine x_calli (x_runV X O hP hS hl.1 (As := [.int v1]) (rest := []) (k_X7_noPerson O v1 σ0 rfl) lt_X7 (e_X7 _) rfl wM_X7_139 wI_yX7_noPerson wS_yX7_noPerson wN_X7 wC_yX7_noPerson hd_X7_noPerson rfl ⟨rfl, rfl⟩ ⟨(Nat.le_of_ble_eq_true rfl), (Nat.le_of_ble_eq_true rfl)⟩ ⟨Nat.zero_le _, Nat.zero_le _⟩ rfl (Nat.le_of_ble_eq_true rfl) dX7_tell_2) hS (fun H locs hP hS => ?_)
  refine lv_if_eq (tgt := 10) hx hb dX7_tell_5 (by decide) (fun c_1 => ?_) (fun c_1 => ?_)
  · have h := ite_t c_1 h
    refine lv_aload_n hx hb dX7_tell_10 rfl (lv_at hl 0 rfl) ?_
    refine g_X7_7 X O hP dX7_tell_11 ?_
    refine lv_iload_n hx hb dX7_tell_14 rfl (lv_at hl 1 rfl) ?_
    obtain ⟨g_2, h⟩ := grd_s h
    refine x_iald X O hP mI_1 g_2 dX7_tell_15 ?_
    obtain ⟨v2_3, e_4, h⟩ := bnd_s h
    refine lv_nam e_4 ?_
    refine lv_istore_n (lv' := [(2, .int v2_3), (0, .ref (ta Θ 0)), (1, .int v1)]) hx hb dX7_tell_16 rfl hl (by decide) rfl (fun ls hl => ?_)
    refine lv_iload_n hx hb dX7_tell_17 rfl (lv_at hl 0 rfl) ?_
    refine lv_iconst (v := 2) hx hb dX7_tell_18 (by decide) ?_
    refine lv_icmp_ne (tgt := 27) hx hb dX7_tell_19 (by decide) (fun c_5 => ?_) (fun c_5 => ?_)
    · have h := ite_f c_5 h
      exact w_X7_tell_J27 X O hr hlk v1 v2_3 σ0 h _ _ _ hP hS (lv_sub hl [1, 2, 0] rfl)
    · have h := ite_t c_5 h
      refine lv_aload_n hx hb dX7_tell_22 rfl (lv_at hl 1 rfl) ?_
      refine lv_iconst (v := 3) hx hb dX7_tell_23 (by decide) ?_
      obtain ⟨σ_19, e_20, h⟩ := bnd_s h
      refine x_callv (x_runV X O hP hS hl.1 (As := [.int 3]) (rest := []) (k_X7_traced O (3 : Int32) σ0 e_20.symm) lt_X7 (e_X7 _) rfl wM_X7_236 wI_yX7_traced wS_yX7_traced wN_X7 wC_yX7_traced hd_X7_traced rfl ⟨rfl, rfl⟩ ⟨(Nat.le_of_ble_eq_true rfl), (Nat.le_of_ble_eq_true rfl)⟩ ⟨Nat.zero_le _, Nat.zero_le _⟩ rfl (Nat.le_of_ble_eq_true rfl) dX7_tell_24) hS (fun H locs hP hS => ?_)
      exact w_X7_tell_J27 X O hr hlk v1 v2_3 σ_19 h _ _ _ hP hS (lv_sub hl [1, 2, 0] rfl)
  · have h := ite_f c_1 h
    refine lv_iconst (v := (-1)) hx hb dX7_tell_8 (by decide) ?_
    have h := some_i h
    subst h
    exact x_reti X hP hS hr hlk rfl rfl dX7_tell_9
abbrev rm_X7_hand : Room := { frames := 2, cells := 0, slots := 0, locals := 46 }
theorem hd_X7_hand : yX7_hand.cls ≠ "java/lang/invoke/MethodHandle" ∧ yX7_hand.cls ≠ "java/lang/invoke/VarHandle" ∧ (parseMethodDescriptor yX7_hand.desc).map (fun d => d.parameters.length) = some 1 := by decide +kernel
set_option maxHeartbeats 4000000 in
set_option maxRecDepth 100000 in
theorem k_X7_hand {Θ : TH} {l : Launch} (O : okT Θ (eM Θ) 23) (v1 : Int32) (σ0 : Mem) {y : Int32 × Mem} (h : X7_hand v1 σ0 = some y) : Met l yX7_hand (Cond.code yX7_hand cX7_hand 2 (some .int) :: wAll) rm_X7_hand (va_Pc [.ref (ta Θ 0), .int v1] (tS Θ σ0)) (qI Θ y.1 y.2) 0 0 (tA Θ) := by
  refine x_ent (by decide) (Nat.le_of_ble_eq_true rfl) (fun p e s m below meth c X hr hlk hP ls hl => ?_)
  have hS : va_S (tA Θ) s.heap s.heap [] := va_S.rf
  have hl : lv_has ls 2 [(0, .ref (ta Θ 0)), (1, .int v1)] := hl
  have hx := X.1
  have hb := X.2.1
  unfold X7_hand at h
  refine lv_aload_n hx hb dX7_hand_0 rfl (lv_at hl 0 rfl) ?_
  refine lv_iload_n hx hb dX7_hand_1 rfl (lv_at hl 1 rfl) ?_
  refine x_calli (x_runV X O hP hS hl.1 (As := [.int v1]) (rest := []) (k_X7_noPerson O v1 σ0 rfl) lt_X7 (e_X7 _) rfl wM_X7_139 wI_yX7_noPerson wS_yX7_noPerson wN_X7 wC_yX7_noPerson hd_X7_noPerson rfl ⟨rfl, rfl⟩ ⟨(Nat.le_of_ble_eq_true rfl), (Nat.le_of_ble_eq_true rfl)⟩ ⟨Nat.zero_le _, Nat.zero_le _⟩ rfl (Nat.le_of_ble_eq_true rfl) dX7_hand_2) hS (fun H locs hP hS => ?_)
  refine lv_if_eq (tgt := 10) hx hb dX7_hand_5 (by decide) (fun c_1 => ?_) (fun c_1 => ?_)
  · have h := ite_t c_1 h
    refine lv_aload_n hx hb dX7_hand_10 rfl (lv_at hl 0 rfl) ?_
    refine lv_aload_n hx hb dX7_hand_11 rfl (lv_at hl 0 rfl) ?_
    refine g_X7_7 X O hP dX7_hand_12 ?_
    refine lv_iload_n hx hb dX7_hand_15 rfl (lv_at hl 1 rfl) ?_
    obtain ⟨g_2, h⟩ := grd_s h
    refine x_iald X O hP mI_1 g_2 dX7_hand_16 ?_
    refine lv_iconst (v := 2) hx hb dX7_hand_17 (by decide) ?_
    refine lv_icmp_ne (tgt := 25) hx hb dX7_hand_18 (by decide) (fun c_3 => ?_) (fun c_3 => ?_)
    · have h := ite_f c_3 h
      refine lv_iconst (v := 4) hx hb dX7_hand_25 (by decide) ?_
      obtain ⟨σ_4, e_5, h⟩ := bnd_s h
      refine x_callv (x_runV X O hP hS hl.1 (As := [.int 4]) (rest := []) (k_X7_traced O (4 : Int32) σ0 e_5.symm) lt_X7 (e_X7 _) rfl wM_X7_236 wI_yX7_traced wS_yX7_traced wN_X7 wC_yX7_traced hd_X7_traced rfl ⟨rfl, rfl⟩ ⟨(Nat.le_of_ble_eq_true rfl), (Nat.le_of_ble_eq_true rfl)⟩ ⟨Nat.zero_le _, Nat.zero_le _⟩ rfl (Nat.le_of_ble_eq_true rfl) dX7_hand_26) hS (fun H locs hP hS => ?_)
      refine lv_aload_n hx hb dX7_hand_29 rfl (lv_at hl 0 rfl) ?_
      refine g_X7_7 X O hP dX7_hand_30 ?_
      refine lv_iload_n hx hb dX7_hand_33 rfl (lv_at hl 1 rfl) ?_
      obtain ⟨g_6, h⟩ := grd_s h
      refine x_iald X O hP mI_1 g_6 dX7_hand_34 ?_
      refine lv_iconst (v := 2) hx hb dX7_hand_35 (by decide) ?_
      refine lv_icmp_ne (tgt := 44) hx hb dX7_hand_36 (by decide) (fun c_7 => ?_) (fun c_7 => ?_)
      · have h := ite_f c_7 h
        refine lv_iload_n hx hb dX7_hand_44 rfl (lv_at hl 1 rfl) ?_
        have h := some_i h
        subst h
        exact x_reti X hP hS hr hlk rfl rfl dX7_hand_45
      · have h := ite_t c_7 h
        refine lv_bipush (v := 40) hx hb dX7_hand_39 (by decide) ?_
        refine lv_goto (tgt := 45) hx hb dX7_hand_41 (by decide) ?_
        have h := some_i h
        subst h
        exact x_reti X hP hS hr hlk rfl rfl dX7_hand_45
    · have h := ite_t c_3 h
      refine lv_iconst (v := 5) hx hb dX7_hand_21 (by decide) ?_
      refine lv_goto (tgt := 26) hx hb dX7_hand_22 (by decide) ?_
      obtain ⟨σ_8, e_9, h⟩ := bnd_s h
      refine x_callv (x_runV X O hP hS hl.1 (As := [.int 5]) (rest := []) (k_X7_traced O (5 : Int32) σ0 e_9.symm) lt_X7 (e_X7 _) rfl wM_X7_236 wI_yX7_traced wS_yX7_traced wN_X7 wC_yX7_traced hd_X7_traced rfl ⟨rfl, rfl⟩ ⟨(Nat.le_of_ble_eq_true rfl), (Nat.le_of_ble_eq_true rfl)⟩ ⟨Nat.zero_le _, Nat.zero_le _⟩ rfl (Nat.le_of_ble_eq_true rfl) dX7_hand_26) hS (fun H locs hP hS => ?_)
      refine lv_aload_n hx hb dX7_hand_29 rfl (lv_at hl 0 rfl) ?_
      refine g_X7_7 X O hP dX7_hand_30 ?_
      refine lv_iload_n hx hb dX7_hand_33 rfl (lv_at hl 1 rfl) ?_
      obtain ⟨g_10, h⟩ := grd_s h
      refine x_iald X O hP mI_1 g_10 dX7_hand_34 ?_
      refine lv_iconst (v := 2) hx hb dX7_hand_35 (by decide) ?_
      refine lv_icmp_ne (tgt := 44) hx hb dX7_hand_36 (by decide) (fun c_11 => ?_) (fun c_11 => ?_)
      · have h := ite_f c_11 h
        refine lv_iload_n hx hb dX7_hand_44 rfl (lv_at hl 1 rfl) ?_
        have h := some_i h
        subst h
        exact x_reti X hP hS hr hlk rfl rfl dX7_hand_45
      · have h := ite_t c_11 h
        refine lv_bipush (v := 40) hx hb dX7_hand_39 (by decide) ?_
        refine lv_goto (tgt := 45) hx hb dX7_hand_41 (by decide) ?_
        have h := some_i h
        subst h
        exact x_reti X hP hS hr hlk rfl rfl dX7_hand_45
  · have h := ite_f c_1 h
    refine lv_iconst (v := (-1)) hx hb dX7_hand_8 (by decide) ?_
    have h := some_i h
    subst h
    exact x_reti X hP hS hr hlk rfl rfl dX7_hand_9
abbrev rm_X7_as : Room := { frames := 2, cells := 0, slots := 0, locals := 46 }
theorem hd_X7_as : yX7_as.cls ≠ "java/lang/invoke/MethodHandle" ∧ yX7_as.cls ≠ "java/lang/invoke/VarHandle" ∧ (parseMethodDescriptor yX7_as.desc).map (fun d => d.parameters.length) = some 2 := by decide +kernel
set_option maxHeartbeats 4000000 in
set_option maxRecDepth 100000 in
theorem k_X7_as {Θ : TH} {l : Launch} (O : okT Θ (eM Θ) 23) (v1 : Int32) (v2 : Int32) (σ0 : Mem) {y : Int32 × Mem} (h : X7_as v1 v2 σ0 = some y) : Met l yX7_as (Cond.code yX7_as cX7_as 3 (some .int) :: wAll) rm_X7_as (va_Pc [.ref (ta Θ 0), .int v1, .int v2] (tS Θ σ0)) (qI Θ y.1 y.2) 0 0 (tA Θ) := by
  refine x_ent (by decide) (Nat.le_of_ble_eq_true rfl) (fun p e s m below meth c X hr hlk hP ls hl => ?_)
  have hS : va_S (tA Θ) s.heap s.heap [] := va_S.rf
  have hl : lv_has ls 3 [(0, .ref (ta Θ 0)), (1, .int v1), (2, .int v2)] := hl
  have hx := X.1
  have hb := X.2.1
  unfold X7_as at h
  refine lv_aload_n hx hb dX7_as_0 rfl (lv_at hl 0 rfl) ?_
  refine lv_iload_n hx hb dX7_as_1 rfl (lv_at hl 1 rfl) ?_
  refine x_calli (x_runV X O hP hS hl.1 (As := [.int v1]) (rest := []) (k_X7_noPerson O v1 σ0 rfl) lt_X7 (e_X7 _) rfl wM_X7_139 wI_yX7_noPerson wS_yX7_noPerson wN_X7 wC_yX7_noPerson hd_X7_noPerson rfl ⟨rfl, rfl⟩ ⟨(Nat.le_of_ble_eq_true rfl), (Nat.le_of_ble_eq_true rfl)⟩ ⟨Nat.zero_le _, Nat.zero_le _⟩ rfl (Nat.le_of_ble_eq_true rfl) dX7_as_2) hS (fun H locs hP hS => ?_)
  refine lv_if_eq (tgt := 14) hx hb dX7_as_5 (by decide) (fun c_1 => ?_) (fun c_1 => ?_)
  · have h := ite_t c_1 h
    refine lv_iload_n hx hb dX7_as_14 rfl (lv_at hl 2 rfl) ?_
    refine lv_i2l (v := v2.toInt64) hx hb dX7_as_15 rfl ?_
    refine lv_lconst (v := 0) hx hb dX7_as_16 (by decide) ?_
    refine lv_ldc2 (v := 2) hx hb X.2.2.2.1 (X.2.2.2.2.1 _ wL_X7_127) dX7_as_17 ?_
    refine x_calli (x_runS X hP hS hl.1 (As := [.long v2.toInt64, .long 0, .long 2]) (rest := []) (k_X7_in O v2.toInt64 (0 : Int64) (2 : Int64) σ0 rfl) wM_X7_90 wT_yX7_in wN_X7 wC_yX7_in hd_X7_in rfl ⟨rfl, rfl⟩ ⟨(Nat.le_of_ble_eq_true rfl), (Nat.le_of_ble_eq_true rfl)⟩ ⟨Nat.zero_le _, Nat.zero_le _⟩ rfl (Nat.le_of_ble_eq_true rfl) dX7_as_20) hS (fun H locs hP hS => ?_)
    refine lv_if_ne (tgt := 33) hx hb dX7_as_23 (by decide) (fun c_2 => ?_) (fun c_2 => ?_)
    · have h := ite_f c_2 h
      refine lv_aload_n hx hb dX7_as_33 rfl (lv_at hl 0 rfl) ?_
      refine g_X7_7 X O hP dX7_as_34 ?_
      refine lv_iload_n hx hb dX7_as_37 rfl (lv_at hl 1 rfl) ?_
      obtain ⟨g_3, h⟩ := grd_s h
      refine x_iald X O hP mI_1 g_3 dX7_as_38 ?_
      refine lv_iload_n hx hb dX7_as_39 rfl (lv_at hl 2 rfl) ?_
      refine lv_icmp_lt (tgt := 51) hx hb dX7_as_40 (by decide) (fun c_4 => ?_) (fun c_4 => ?_)
      · have h := ite_t c_4 h
        refine lv_aload_n hx hb dX7_as_51 rfl (lv_at hl 0 rfl) ?_
        refine lv_iconst (v := 2) hx hb dX7_as_52 (by decide) ?_
        obtain ⟨z_5, e_6, h⟩ := bnd_s h
        refine x_calli (x_runV X O hP hS hl.1 (As := [.int 2]) (rest := []) (k_X7_failed O (2 : Int32) σ0 e_6.symm) lt_X7 (e_X7 _) rfl wM_X7_112 wI_yX7_failed wS_yX7_failed wN_X7 wC_yX7_failed hd_X7_failed rfl ⟨rfl, rfl⟩ ⟨(Nat.le_of_ble_eq_true rfl), (Nat.le_of_ble_eq_true rfl)⟩ ⟨Nat.zero_le _, Nat.zero_le _⟩ rfl (Nat.le_of_ble_eq_true rfl) dX7_as_53) hS (fun H locs hP hS => ?_)
        have h := some_i h
        subst h
        exact x_reti X hP hS hr hlk rfl rfl dX7_as_56
      · have h := ite_f c_4 h
        refine lv_aload_n hx hb dX7_as_43 rfl (lv_at hl 0 rfl) ?_
        refine lv_iconst (v := 1) hx hb dX7_as_44 (by decide) ?_
        obtain ⟨z_7, e_8, h⟩ := bnd_s h
        refine x_calli (x_runV X O hP hS hl.1 (As := [.int 1]) (rest := []) (k_X7_refused O (1 : Int32) σ0 e_8.symm) lt_X7 (e_X7 _) rfl wM_X7_124 wI_yX7_refused wS_yX7_refused wN_X7 wC_yX7_refused hd_X7_refused rfl ⟨rfl, rfl⟩ ⟨(Nat.le_of_ble_eq_true rfl), (Nat.le_of_ble_eq_true rfl)⟩ ⟨Nat.zero_le _, Nat.zero_le _⟩ rfl (Nat.le_of_ble_eq_true rfl) dX7_as_45) hS (fun H locs hP hS => ?_)
        refine lv_goto (tgt := 56) hx hb dX7_as_48 (by decide) ?_
        have h := some_i h
        subst h
        exact x_reti X hP hS hr hlk rfl rfl dX7_as_56
    · have h := ite_t c_2 h
      refine lv_aload_n hx hb dX7_as_26 rfl (lv_at hl 0 rfl) ?_
      refine lv_bipush (v := (-2)) hx hb dX7_as_27 (by decide) ?_
      obtain ⟨z_9, e_10, h⟩ := bnd_s h
      refine x_calli (x_runV X O hP hS hl.1 (As := [.int ((-2))]) (rest := []) (k_X7_refused O (-2 : Int32) σ0 e_10.symm) lt_X7 (e_X7 _) rfl wM_X7_124 wI_yX7_refused wS_yX7_refused wN_X7 wC_yX7_refused hd_X7_refused rfl ⟨rfl, rfl⟩ ⟨(Nat.le_of_ble_eq_true rfl), (Nat.le_of_ble_eq_true rfl)⟩ ⟨Nat.zero_le _, Nat.zero_le _⟩ rfl (Nat.le_of_ble_eq_true rfl) dX7_as_29) hS (fun H locs hP hS => ?_)
      have h := some_i h
      subst h
      exact x_reti X hP hS hr hlk rfl rfl dX7_as_32
  · have h := ite_f c_1 h
    refine lv_aload_n hx hb dX7_as_8 rfl (lv_at hl 0 rfl) ?_
    refine lv_iconst (v := (-1)) hx hb dX7_as_9 (by decide) ?_
    obtain ⟨z_11, e_12, h⟩ := bnd_s h
    refine x_calli (x_runV X O hP hS hl.1 (As := [.int ((-1))]) (rest := []) (k_X7_refused O (-1 : Int32) σ0 e_12.symm) lt_X7 (e_X7 _) rfl wM_X7_124 wI_yX7_refused wS_yX7_refused wN_X7 wC_yX7_refused hd_X7_refused rfl ⟨rfl, rfl⟩ ⟨(Nat.le_of_ble_eq_true rfl), (Nat.le_of_ble_eq_true rfl)⟩ ⟨Nat.zero_le _, Nat.zero_le _⟩ rfl (Nat.le_of_ble_eq_true rfl) dX7_as_10) hS (fun H locs hP hS => ?_)
    have h := some_i h
    subst h
    exact x_reti X hP hS hr hlk rfl rfl dX7_as_13
abbrev rm_X7_trace : Room := { frames := 0, cells := 0, slots := 0, locals := 0 }
theorem hd_X7_trace : yX7_trace.cls ≠ "java/lang/invoke/MethodHandle" ∧ yX7_trace.cls ≠ "java/lang/invoke/VarHandle" ∧ (parseMethodDescriptor yX7_trace.desc).map (fun d => d.parameters.length) = some 0 := by decide +kernel
set_option maxHeartbeats 4000000 in
set_option maxRecDepth 100000 in
theorem k_X7_trace {Θ : TH} {l : Launch} (O : okT Θ (eM Θ) 23) (σ0 : Mem) {y : Int32} (h : X7_trace σ0 = y) : Met l yX7_trace (Cond.code yX7_trace cX7_trace 1 (some .int) :: wAll) rm_X7_trace (va_Pc [.ref (ta Θ 0)] (tS Θ σ0)) (qI Θ y σ0) 0 0 (tA Θ) := by
  refine x_ent (by decide) (Nat.le_of_ble_eq_true rfl) (fun p e s m below meth c X hr hlk hP ls hl => ?_)
  have hS : va_S (tA Θ) s.heap s.heap [] := va_S.rf
  have hl : lv_has ls 1 [(0, .ref (ta Θ 0))] := hl
  have hx := X.1
  have hb := X.2.1
  unfold X7_trace at h
  refine lv_aload_n hx hb dX7_trace_0 rfl (lv_at hl 0 rfl) ?_
  refine g_X7_233 X O hP dX7_trace_1 ?_
  subst h
  exact x_reti X hP hS hr hlk rfl rfl dX7_trace_4
abbrev rm_X7_fault : Room := { frames := 0, cells := 0, slots := 0, locals := 0 }
theorem hd_X7_fault : yX7_fault.cls ≠ "java/lang/invoke/MethodHandle" ∧ yX7_fault.cls ≠ "java/lang/invoke/VarHandle" ∧ (parseMethodDescriptor yX7_fault.desc).map (fun d => d.parameters.length) = some 0 := by decide +kernel
set_option maxHeartbeats 4000000 in
set_option maxRecDepth 100000 in
theorem k_X7_fault {Θ : TH} {l : Launch} (O : okT Θ (eM Θ) 23) (σ0 : Mem) {y : Int32} (h : X7_fault σ0 = y) : Met l yX7_fault (Cond.code yX7_fault cX7_fault 1 (some .int) :: wAll) rm_X7_fault (va_Pc [.ref (ta Θ 0)] (tS Θ σ0)) (qI Θ y σ0) 0 0 (tA Θ) := by
  refine x_ent (by decide) (Nat.le_of_ble_eq_true rfl) (fun p e s m below meth c X hr hlk hP ls hl => ?_)
  have hS : va_S (tA Θ) s.heap s.heap [] := va_S.rf
  have hl : lv_has ls 1 [(0, .ref (ta Θ 0))] := hl
  have hx := X.1
  have hb := X.2.1
  unfold X7_fault at h
  refine lv_aload_n hx hb dX7_fault_0 rfl (lv_at hl 0 rfl) ?_
  refine g_X7_79 X O hP dX7_fault_1 ?_
  subst h
  exact x_reti X hP hS hr hlk rfl rfl dX7_fault_4
abbrev rm_X7_many : Room := { frames := 0, cells := 0, slots := 0, locals := 0 }
theorem hd_X7_many : yX7_many.cls ≠ "java/lang/invoke/MethodHandle" ∧ yX7_many.cls ≠ "java/lang/invoke/VarHandle" ∧ (parseMethodDescriptor yX7_many.desc).map (fun d => d.parameters.length) = some 1 := by decide +kernel
set_option maxHeartbeats 4000000 in
set_option maxRecDepth 100000 in
theorem k_X7_many {Θ : TH} {l : Launch} (O : okT Θ (eM Θ) 23) (v1 : Int32) (σ0 : Mem) {y : Int32} (h : X7_many v1 σ0 = y) : Met l yX7_many (Cond.code yX7_many cX7_many 2 (some .int) :: wAll) rm_X7_many (va_Pc [.ref (ta Θ 0), .int v1] (tS Θ σ0)) (qI Θ y σ0) 0 0 (tA Θ) := by
  refine x_ent (by decide) (Nat.le_of_ble_eq_true rfl) (fun p e s m below meth c X hr hlk hP ls hl => ?_)
  have hS : va_S (tA Θ) s.heap s.heap [] := va_S.rf
  have hl : lv_has ls 2 [(0, .ref (ta Θ 0)), (1, .int v1)] := hl
  have hx := X.1
  have hb := X.2.1
  unfold X7_many at h
  refine lv_iload_n hx hb dX7_many_0 rfl (lv_at hl 1 rfl) ?_
  refine lv_if_ne (tgt := 11) hx hb dX7_many_1 (by decide) (fun c_1 => ?_) (fun c_1 => ?_)
  · have h := ite_f c_1 h
    refine lv_iload_n hx hb dX7_many_11 rfl (lv_at hl 1 rfl) ?_
    refine lv_iconst (v := 1) hx hb dX7_many_12 (by decide) ?_
    refine lv_icmp_ne (tgt := 23) hx hb dX7_many_13 (by decide) (fun c_2 => ?_) (fun c_2 => ?_)
    · have h := ite_f c_2 h
      refine lv_bipush (v := (-2)) hx hb dX7_many_23 (by decide) ?_
      subst h
      exact x_reti X hP hS hr hlk rfl rfl dX7_many_25
    · have h := ite_t c_2 h
      refine lv_aload_n hx hb dX7_many_16 rfl (lv_at hl 0 rfl) ?_
      refine g_X7_136 X O hP dX7_many_17 ?_
      refine lv_goto (tgt := 25) hx hb dX7_many_20 (by decide) ?_
      subst h
      exact x_reti X hP hS hr hlk rfl rfl dX7_many_25
  · have h := ite_t c_1 h
    refine lv_aload_n hx hb dX7_many_4 rfl (lv_at hl 0 rfl) ?_
    refine g_X7_87 X O hP dX7_many_5 ?_
    refine lv_goto (tgt := 25) hx hb dX7_many_8 (by decide) ?_
    subst h
    exact x_reti X hP hS hr hlk rfl rfl dX7_many_25
