-- the law's cases (printed by gen5.py)
theorem lgc_self (x : Int64) : lg_cmp x x = 0 := by
  have h1 := (lgc_ge x x).mpr (Int.le_refl _)
  have h2 := (lgc_le x x).mpr (Int.le_refl _)
  rw [i32_le, t0_32] at h1 h2
  rw [i32_eq, t0_32]
  omega
theorem ixk (j k : Nat) : nI (7 * j + k) = nI (7 * j) + nI k := (nI_add _ _).symm
set_option maxHeartbeats 4000000 in
set_option maxRecDepth 100000 in
theorem law_0 {p : Program} {l : Launch} {e : Env} {s : State} {m : MethodId} {below : List Frame} {meth : Method} {c : Code} {D : va_G} {ax am : Nat → Nat} {cls : Nat → ClassId} {b L j : Nat} {xs : Nat → Int32} {Q : State → Prop} (hL : L ≤ 448) (hj : 7 * j + 7 ≤ L) (hx : p.tables.exec = Jvm.exec) (hb : c.code = code) (hX : va_X b L xs s s.heap) (hbl : b < s.heap.size) (hbA : ¬ (fun q : Nat => s.heap.size ≤ q) b) (Xx : ∀ τ, CX (Thx D ax am cls s.heap.size τ) p s m #[Value.ref b] c RL cL_law 4) (Xm : ∀ σ, CX (Thm D ax am cls s.heap.size σ) p s m #[Value.ref b] c RL cL_law 4) {σ τ : Mem} (hR : Rel σ τ) {H : Heap} {locs : List Loc} (hP : va_P D vwCl (WXx D ax cls σ ++ WMm D am cls τ) H) (hD : va_D (fun q : Nat => s.heap.size ≤ q) (WXx D ax cls σ ++ WMm D am cls τ)) (hS : va_S (fun q : Nat => s.heap.size ≤ q) s.heap H locs) {ls : Array Slot} (hl : lv_has ls 4 [(0, .ref b), (1, .ref (ax 0)), (2, .ref (am 0)), (3, .int (nI (7 * j)))])
    (kk : ∀ (H1 : Heap) (locs1 : List Loc) (σ1 τ1 : Mem), Rel σ1 τ1 → va_P D vwCl (WXx D ax cls σ1 ++ WMm D am cls τ1) H1 → va_D (fun q : Nat => s.heap.size ≤ q) (WXx D ax cls σ1 ++ WMm D am cls τ1) → va_S (fun q : Nat => s.heap.size ≤ q) s.heap H1 locs1 → W p l e room_1 s m #[Value.ref b] below meth c H1 locs1 91 1268 Q (F0 m 1145 ls [])) : W p l e room_1 s m #[Value.ref b] below meth c H locs 91 1268 Q (F0 m 148 ls []) := by
  refine lv_aload_n hx hb dL_law_148 rfl (lv_at hl 1 rfl) ?_
  refine lv_aload_n hx hb dL_law_149 rfl (lv_at hl 0 rfl) ?_
  refine lv_iload_n hx hb dL_law_150 rfl (lv_at hl 3 rfl) ?_
  refine lv_iconst (v := 1) hx hb dL_law_151 (by decide) ?_
  refine lv_iadd hx hb dL_law_152 ?_
  refine lv_nam (show nI (7 * j + 1) = nI (7 * j) + 1 from ixk j 1) ?_
  refine va_sld hx hb hX hbl hbA hS (sx_in hj (show 1 < 7 by decide) hL) dL_law_153 ?_
  refine lv_aload_n hx hb dL_law_154 rfl (lv_at hl 0 rfl) ?_
  refine lv_iload_n hx hb dL_law_155 rfl (lv_at hl 3 rfl) ?_
  refine lv_iconst (v := 2) hx hb dL_law_156 (by decide) ?_
  refine lv_iadd hx hb dL_law_157 ?_
  refine lv_nam (show nI (7 * j + 2) = nI (7 * j) + 2 from ixk j 2) ?_
  refine va_sld hx hb hX hbl hbA hS (sx_in hj (show 2 < 7 by decide) hL) dL_law_158 ?_
  refine lv_aload_n hx hb dL_law_159 rfl (lv_at hl 0 rfl) ?_
  refine lv_iload_n hx hb dL_law_160 rfl (lv_at hl 3 rfl) ?_
  refine lv_iconst (v := 3) hx hb dL_law_161 (by decide) ?_
  refine lv_iadd hx hb dL_law_162 ?_
  refine lv_nam (show nI (7 * j + 3) = nI (7 * j) + 3 from ixk j 3) ?_
  refine va_sld hx hb hX hbl hbA hS (sx_in hj (show 3 < 7 by decide) hL) dL_law_163 ?_
  refine lv_aload_n hx hb dL_law_164 rfl (lv_at hl 0 rfl) ?_
  refine lv_iload_n hx hb dL_law_165 rfl (lv_at hl 3 rfl) ?_
  refine lv_iconst (v := 4) hx hb dL_law_166 (by decide) ?_
  refine lv_iadd hx hb dL_law_167 ?_
  refine lv_nam (show nI (7 * j + 4) = nI (7 * j) + 4 from ixk j 4) ?_
  refine va_sld hx hb hX hbl hbA hS (sx_in hj (show 4 < 7 by decide) hL) dL_law_168 ?_
  obtain ⟨r0, σ', τ', eX0, eM0, hR'⟩ := r_counter (F := 50000) (Nat.le_refl _) (xs (nI (7 * j + 1)).toNatClampNeg) (xs (nI (7 * j + 2)).toNatClampNeg) (xs (nI (7 * j + 3)).toNatClampNeg) (xs (nI (7 * j + 4)).toNatClampNeg) σ τ hR
  refine x_calli (x_runV (Xx _) (okx hD) hP hS hl.1 (As := [.int (xs (nI (7 * j + 1)).toNatClampNeg), .int (xs (nI (7 * j + 2)).toNatClampNeg), .int (xs (nI (7 * j + 3)).toNatClampNeg), .int (xs (nI (7 * j + 4)).toNatClampNeg)]) (rest := []) (k_X6_counter (F := 50000) (okx hD) (xs (nI (7 * j + 1)).toNatClampNeg) (xs (nI (7 * j + 2)).toNatClampNeg) (xs (nI (7 * j + 3)).toNatClampNeg) (xs (nI (7 * j + 4)).toNatClampNeg) σ eX0) lt_X6 (e_X6 _) rfl wM_L_13 wI_yX6_counter wS_yX6_counter wN_X6 wC_yX6_counter hd_X6_counter rfl ⟨rfl, rfl⟩ ⟨(by decide), (by decide)⟩ ⟨by decide, by decide⟩ rfl (Nat.le_of_ble_eq_true rfl) dL_law_169) hS (fun H locs hP hS => ?_)
  have hD := LD_any (σ' := σ') (τ' := τ) hD
  replace hP : va_P D vwCl (WXx D ax cls σ' ++ WMm D am cls τ) H := hP
  refine lv_aload_n hx hb dL_law_172 rfl (lv_at hl 2 rfl) ?_
  refine lv_aload_n hx hb dL_law_173 rfl (lv_at hl 0 rfl) ?_
  refine lv_iload_n hx hb dL_law_174 rfl (lv_at hl 3 rfl) ?_
  refine lv_iconst (v := 1) hx hb dL_law_175 (by decide) ?_
  refine lv_iadd hx hb dL_law_176 ?_
  refine lv_nam (show nI (7 * j + 1) = nI (7 * j) + 1 from ixk j 1) ?_
  refine va_sld hx hb hX hbl hbA hS (sx_in hj (show 1 < 7 by decide) hL) dL_law_177 ?_
  refine lv_aload_n hx hb dL_law_178 rfl (lv_at hl 0 rfl) ?_
  refine lv_iload_n hx hb dL_law_179 rfl (lv_at hl 3 rfl) ?_
  refine lv_iconst (v := 2) hx hb dL_law_180 (by decide) ?_
  refine lv_iadd hx hb dL_law_181 ?_
  refine lv_nam (show nI (7 * j + 2) = nI (7 * j) + 2 from ixk j 2) ?_
  refine va_sld hx hb hX hbl hbA hS (sx_in hj (show 2 < 7 by decide) hL) dL_law_182 ?_
  refine lv_aload_n hx hb dL_law_183 rfl (lv_at hl 0 rfl) ?_
  refine lv_iload_n hx hb dL_law_184 rfl (lv_at hl 3 rfl) ?_
  refine lv_iconst (v := 3) hx hb dL_law_185 (by decide) ?_
  refine lv_iadd hx hb dL_law_186 ?_
  refine lv_nam (show nI (7 * j + 3) = nI (7 * j) + 3 from ixk j 3) ?_
  refine va_sld hx hb hX hbl hbA hS (sx_in hj (show 3 < 7 by decide) hL) dL_law_187 ?_
  refine lv_aload_n hx hb dL_law_188 rfl (lv_at hl 0 rfl) ?_
  refine lv_iload_n hx hb dL_law_189 rfl (lv_at hl 3 rfl) ?_
  refine lv_iconst (v := 4) hx hb dL_law_190 (by decide) ?_
  refine lv_iadd hx hb dL_law_191 ?_
  refine lv_nam (show nI (7 * j + 4) = nI (7 * j) + 4 from ixk j 4) ?_
  refine va_sld hx hb hX hbl hbA hS (sx_in hj (show 4 < 7 by decide) hL) dL_law_192 ?_
  refine x_calli (x_runV (Xm _) (okm hD) (va_P_swap hP) hS hl.1 (As := [.int (xs (nI (7 * j + 1)).toNatClampNeg), .int (xs (nI (7 * j + 2)).toNatClampNeg), .int (xs (nI (7 * j + 3)).toNatClampNeg), .int (xs (nI (7 * j + 4)).toNatClampNeg)]) (rest := [.int r0]) (k_X7_counter (F := 50000) (okm hD) (xs (nI (7 * j + 1)).toNatClampNeg) (xs (nI (7 * j + 2)).toNatClampNeg) (xs (nI (7 * j + 3)).toNatClampNeg) (xs (nI (7 * j + 4)).toNatClampNeg) τ eM0) lt_X7 (e_X7 _) rfl wM_L_17 wI_yX7_counter wS_yX7_counter wN_X7 wC_yX7_counter hd_X7_counter rfl ⟨rfl, rfl⟩ ⟨(by decide), (by decide)⟩ ⟨by decide, by decide⟩ rfl (Nat.le_of_ble_eq_true rfl) dL_law_193) hS (fun H locs hP hS => ?_)
  refine lv_icmp_eq (tgt := 1145) hx hb dL_law_196 (by decide) (fun cz => ?_) (fun cz => absurd rfl cz)
  exact kk H locs σ' τ' hR' (va_P_swap hP) (LD_any hD) hS
set_option maxHeartbeats 4000000 in
set_option maxRecDepth 100000 in
theorem law_1 {p : Program} {l : Launch} {e : Env} {s : State} {m : MethodId} {below : List Frame} {meth : Method} {c : Code} {D : va_G} {ax am : Nat → Nat} {cls : Nat → ClassId} {b L j : Nat} {xs : Nat → Int32} {Q : State → Prop} (hL : L ≤ 448) (hj : 7 * j + 7 ≤ L) (hx : p.tables.exec = Jvm.exec) (hb : c.code = code) (hX : va_X b L xs s s.heap) (hbl : b < s.heap.size) (hbA : ¬ (fun q : Nat => s.heap.size ≤ q) b) (Xx : ∀ τ, CX (Thx D ax am cls s.heap.size τ) p s m #[Value.ref b] c RL cL_law 4) (Xm : ∀ σ, CX (Thm D ax am cls s.heap.size σ) p s m #[Value.ref b] c RL cL_law 4) {σ τ : Mem} (hR : Rel σ τ) {H : Heap} {locs : List Loc} (hP : va_P D vwCl (WXx D ax cls σ ++ WMm D am cls τ) H) (hD : va_D (fun q : Nat => s.heap.size ≤ q) (WXx D ax cls σ ++ WMm D am cls τ)) (hS : va_S (fun q : Nat => s.heap.size ≤ q) s.heap H locs) {ls : Array Slot} (hl : lv_has ls 4 [(0, .ref b), (1, .ref (ax 0)), (2, .ref (am 0)), (3, .int (nI (7 * j)))])
    (kk : ∀ (H1 : Heap) (locs1 : List Loc) (σ1 τ1 : Mem), Rel σ1 τ1 → va_P D vwCl (WXx D ax cls σ1 ++ WMm D am cls τ1) H1 → va_D (fun q : Nat => s.heap.size ≤ q) (WXx D ax cls σ1 ++ WMm D am cls τ1) → va_S (fun q : Nat => s.heap.size ≤ q) s.heap H1 locs1 → W p l e room_1 s m #[Value.ref b] below meth c H1 locs1 91 1268 Q (F0 m 1145 ls [])) : W p l e room_1 s m #[Value.ref b] below meth c H locs 91 1268 Q (F0 m 201 ls []) := by
  refine lv_aload_n hx hb dL_law_201 rfl (lv_at hl 1 rfl) ?_
  refine lv_aload_n hx hb dL_law_202 rfl (lv_at hl 0 rfl) ?_
  refine lv_iload_n hx hb dL_law_203 rfl (lv_at hl 3 rfl) ?_
  refine lv_iconst (v := 1) hx hb dL_law_204 (by decide) ?_
  refine lv_iadd hx hb dL_law_205 ?_
  refine lv_nam (show nI (7 * j + 1) = nI (7 * j) + 1 from ixk j 1) ?_
  refine va_sld hx hb hX hbl hbA hS (sx_in hj (show 1 < 7 by decide) hL) dL_law_206 ?_
  refine lv_aload_n hx hb dL_law_207 rfl (lv_at hl 0 rfl) ?_
  refine lv_iload_n hx hb dL_law_208 rfl (lv_at hl 3 rfl) ?_
  refine lv_iconst (v := 2) hx hb dL_law_209 (by decide) ?_
  refine lv_iadd hx hb dL_law_210 ?_
  refine lv_nam (show nI (7 * j + 2) = nI (7 * j) + 2 from ixk j 2) ?_
  refine va_sld hx hb hX hbl hbA hS (sx_in hj (show 2 < 7 by decide) hL) dL_law_211 ?_
  obtain ⟨r0, eX0, eM0⟩ := r_ofPerson (xs (nI (7 * j + 1)).toNatClampNeg) (xs (nI (7 * j + 2)).toNatClampNeg) hR
  refine x_calli (x_runV (Xx _) (okx hD) hP hS hl.1 (As := [.int (xs (nI (7 * j + 1)).toNatClampNeg), .int (xs (nI (7 * j + 2)).toNatClampNeg)]) (rest := []) (k_X6_ofPerson (okx hD) (xs (nI (7 * j + 1)).toNatClampNeg) (xs (nI (7 * j + 2)).toNatClampNeg) σ eX0) lt_X6 (e_X6 _) rfl wM_L_18 wI_yX6_ofPerson wS_yX6_ofPerson wN_X6 wC_yX6_ofPerson hd_X6_ofPerson rfl ⟨rfl, rfl⟩ ⟨(by decide), (by decide)⟩ ⟨by decide, by decide⟩ rfl (Nat.le_of_ble_eq_true rfl) dL_law_212) hS (fun H locs hP hS => ?_)
  replace hP : va_P D vwCl (WXx D ax cls σ ++ WMm D am cls τ) H := hP
  refine lv_aload_n hx hb dL_law_215 rfl (lv_at hl 2 rfl) ?_
  refine lv_aload_n hx hb dL_law_216 rfl (lv_at hl 0 rfl) ?_
  refine lv_iload_n hx hb dL_law_217 rfl (lv_at hl 3 rfl) ?_
  refine lv_iconst (v := 1) hx hb dL_law_218 (by decide) ?_
  refine lv_iadd hx hb dL_law_219 ?_
  refine lv_nam (show nI (7 * j + 1) = nI (7 * j) + 1 from ixk j 1) ?_
  refine va_sld hx hb hX hbl hbA hS (sx_in hj (show 1 < 7 by decide) hL) dL_law_220 ?_
  refine lv_aload_n hx hb dL_law_221 rfl (lv_at hl 0 rfl) ?_
  refine lv_iload_n hx hb dL_law_222 rfl (lv_at hl 3 rfl) ?_
  refine lv_iconst (v := 2) hx hb dL_law_223 (by decide) ?_
  refine lv_iadd hx hb dL_law_224 ?_
  refine lv_nam (show nI (7 * j + 2) = nI (7 * j) + 2 from ixk j 2) ?_
  refine va_sld hx hb hX hbl hbA hS (sx_in hj (show 2 < 7 by decide) hL) dL_law_225 ?_
  refine x_calli (x_runV (Xm _) (okm hD) (va_P_swap hP) hS hl.1 (As := [.int (xs (nI (7 * j + 1)).toNatClampNeg), .int (xs (nI (7 * j + 2)).toNatClampNeg)]) (rest := [.int r0]) (k_X7_ofPerson (okm hD) (xs (nI (7 * j + 1)).toNatClampNeg) (xs (nI (7 * j + 2)).toNatClampNeg) τ eM0) lt_X7 (e_X7 _) rfl wM_L_22 wI_yX7_ofPerson wS_yX7_ofPerson wN_X7 wC_yX7_ofPerson hd_X7_ofPerson rfl ⟨rfl, rfl⟩ ⟨(by decide), (by decide)⟩ ⟨by decide, by decide⟩ rfl (Nat.le_of_ble_eq_true rfl) dL_law_226) hS (fun H locs hP hS => ?_)
  refine lv_icmp_eq (tgt := 1145) hx hb dL_law_229 (by decide) (fun cz => ?_) (fun cz => absurd rfl cz)
  exact kk H locs σ τ hR (va_P_swap hP) (LD_any hD) hS
set_option maxHeartbeats 4000000 in
set_option maxRecDepth 100000 in
theorem law_2 {p : Program} {l : Launch} {e : Env} {s : State} {m : MethodId} {below : List Frame} {meth : Method} {c : Code} {D : va_G} {ax am : Nat → Nat} {cls : Nat → ClassId} {b L j : Nat} {xs : Nat → Int32} {Q : State → Prop} (hL : L ≤ 448) (hj : 7 * j + 7 ≤ L) (hx : p.tables.exec = Jvm.exec) (hb : c.code = code) (hX : va_X b L xs s s.heap) (hbl : b < s.heap.size) (hbA : ¬ (fun q : Nat => s.heap.size ≤ q) b) (Xx : ∀ τ, CX (Thx D ax am cls s.heap.size τ) p s m #[Value.ref b] c RL cL_law 4) (Xm : ∀ σ, CX (Thm D ax am cls s.heap.size σ) p s m #[Value.ref b] c RL cL_law 4) {σ τ : Mem} (hR : Rel σ τ) {H : Heap} {locs : List Loc} (hP : va_P D vwCl (WXx D ax cls σ ++ WMm D am cls τ) H) (hD : va_D (fun q : Nat => s.heap.size ≤ q) (WXx D ax cls σ ++ WMm D am cls τ)) (hS : va_S (fun q : Nat => s.heap.size ≤ q) s.heap H locs) {ls : Array Slot} (hl : lv_has ls 4 [(0, .ref b), (1, .ref (ax 0)), (2, .ref (am 0)), (3, .int (nI (7 * j)))])
    (kk : ∀ (H1 : Heap) (locs1 : List Loc) (σ1 τ1 : Mem), Rel σ1 τ1 → va_P D vwCl (WXx D ax cls σ1 ++ WMm D am cls τ1) H1 → va_D (fun q : Nat => s.heap.size ≤ q) (WXx D ax cls σ1 ++ WMm D am cls τ1) → va_S (fun q : Nat => s.heap.size ≤ q) s.heap H1 locs1 → W p l e room_1 s m #[Value.ref b] below meth c H1 locs1 91 1268 Q (F0 m 1145 ls [])) : W p l e room_1 s m #[Value.ref b] below meth c H locs 91 1268 Q (F0 m 234 ls []) := by
  refine lv_aload_n hx hb dL_law_234 rfl (lv_at hl 1 rfl) ?_
  refine lv_aload_n hx hb dL_law_235 rfl (lv_at hl 0 rfl) ?_
  refine lv_iload_n hx hb dL_law_236 rfl (lv_at hl 3 rfl) ?_
  refine lv_iconst (v := 1) hx hb dL_law_237 (by decide) ?_
  refine lv_iadd hx hb dL_law_238 ?_
  refine lv_nam (show nI (7 * j + 1) = nI (7 * j) + 1 from ixk j 1) ?_
  refine va_sld hx hb hX hbl hbA hS (sx_in hj (show 1 < 7 by decide) hL) dL_law_239 ?_
  refine lv_aload_n hx hb dL_law_240 rfl (lv_at hl 0 rfl) ?_
  refine lv_iload_n hx hb dL_law_241 rfl (lv_at hl 3 rfl) ?_
  refine lv_iconst (v := 2) hx hb dL_law_242 (by decide) ?_
  refine lv_iadd hx hb dL_law_243 ?_
  refine lv_nam (show nI (7 * j + 2) = nI (7 * j) + 2 from ixk j 2) ?_
  refine va_sld hx hb hX hbl hbA hS (sx_in hj (show 2 < 7 by decide) hL) dL_law_244 ?_
  obtain ⟨r0, σ', τ', eX0, eM0, hR'⟩ := r_live (xs (nI (7 * j + 1)).toNatClampNeg) (xs (nI (7 * j + 2)).toNatClampNeg) σ τ hR
  refine x_calli (x_runV (Xx _) (okx hD) hP hS hl.1 (As := [.int (xs (nI (7 * j + 1)).toNatClampNeg), .int (xs (nI (7 * j + 2)).toNatClampNeg)]) (rest := []) (k_X6_live (okx hD) (xs (nI (7 * j + 1)).toNatClampNeg) (xs (nI (7 * j + 2)).toNatClampNeg) σ eX0) lt_X6 (e_X6 _) rfl wM_L_23 wI_yX6_live wS_yX6_live wN_X6 wC_yX6_live hd_X6_live rfl ⟨rfl, rfl⟩ ⟨(by decide), (by decide)⟩ ⟨by decide, by decide⟩ rfl (Nat.le_of_ble_eq_true rfl) dL_law_245) hS (fun H locs hP hS => ?_)
  have hD := LD_any (σ' := σ') (τ' := τ) hD
  replace hP : va_P D vwCl (WXx D ax cls σ' ++ WMm D am cls τ) H := hP
  refine lv_aload_n hx hb dL_law_248 rfl (lv_at hl 2 rfl) ?_
  refine lv_aload_n hx hb dL_law_249 rfl (lv_at hl 0 rfl) ?_
  refine lv_iload_n hx hb dL_law_250 rfl (lv_at hl 3 rfl) ?_
  refine lv_iconst (v := 1) hx hb dL_law_251 (by decide) ?_
  refine lv_iadd hx hb dL_law_252 ?_
  refine lv_nam (show nI (7 * j + 1) = nI (7 * j) + 1 from ixk j 1) ?_
  refine va_sld hx hb hX hbl hbA hS (sx_in hj (show 1 < 7 by decide) hL) dL_law_253 ?_
  refine lv_aload_n hx hb dL_law_254 rfl (lv_at hl 0 rfl) ?_
  refine lv_iload_n hx hb dL_law_255 rfl (lv_at hl 3 rfl) ?_
  refine lv_iconst (v := 2) hx hb dL_law_256 (by decide) ?_
  refine lv_iadd hx hb dL_law_257 ?_
  refine lv_nam (show nI (7 * j + 2) = nI (7 * j) + 2 from ixk j 2) ?_
  refine va_sld hx hb hX hbl hbA hS (sx_in hj (show 2 < 7 by decide) hL) dL_law_258 ?_
  refine x_calli (x_runV (Xm _) (okm hD) (va_P_swap hP) hS hl.1 (As := [.int (xs (nI (7 * j + 1)).toNatClampNeg), .int (xs (nI (7 * j + 2)).toNatClampNeg)]) (rest := [.int r0]) (k_X7_live (okm hD) (xs (nI (7 * j + 1)).toNatClampNeg) (xs (nI (7 * j + 2)).toNatClampNeg) τ eM0) lt_X7 (e_X7 _) rfl wM_L_26 wI_yX7_live wS_yX7_live wN_X7 wC_yX7_live hd_X7_live rfl ⟨rfl, rfl⟩ ⟨(by decide), (by decide)⟩ ⟨by decide, by decide⟩ rfl (Nat.le_of_ble_eq_true rfl) dL_law_259) hS (fun H locs hP hS => ?_)
  refine lv_icmp_eq (tgt := 1145) hx hb dL_law_262 (by decide) (fun cz => ?_) (fun cz => absurd rfl cz)
  exact kk H locs σ' τ' hR' (va_P_swap hP) (LD_any hD) hS
set_option maxHeartbeats 4000000 in
set_option maxRecDepth 100000 in
theorem law_3 {p : Program} {l : Launch} {e : Env} {s : State} {m : MethodId} {below : List Frame} {meth : Method} {c : Code} {D : va_G} {ax am : Nat → Nat} {cls : Nat → ClassId} {b L j : Nat} {xs : Nat → Int32} {Q : State → Prop} (hL : L ≤ 448) (hj : 7 * j + 7 ≤ L) (hx : p.tables.exec = Jvm.exec) (hb : c.code = code) (hX : va_X b L xs s s.heap) (hbl : b < s.heap.size) (hbA : ¬ (fun q : Nat => s.heap.size ≤ q) b) (Xx : ∀ τ, CX (Thx D ax am cls s.heap.size τ) p s m #[Value.ref b] c RL cL_law 4) (Xm : ∀ σ, CX (Thm D ax am cls s.heap.size σ) p s m #[Value.ref b] c RL cL_law 4) {σ τ : Mem} (hR : Rel σ τ) {H : Heap} {locs : List Loc} (hP : va_P D vwCl (WXx D ax cls σ ++ WMm D am cls τ) H) (hD : va_D (fun q : Nat => s.heap.size ≤ q) (WXx D ax cls σ ++ WMm D am cls τ)) (hS : va_S (fun q : Nat => s.heap.size ≤ q) s.heap H locs) {ls : Array Slot} (hl : lv_has ls 4 [(0, .ref b), (1, .ref (ax 0)), (2, .ref (am 0)), (3, .int (nI (7 * j)))])
    (kk : ∀ (H1 : Heap) (locs1 : List Loc) (σ1 τ1 : Mem), Rel σ1 τ1 → va_P D vwCl (WXx D ax cls σ1 ++ WMm D am cls τ1) H1 → va_D (fun q : Nat => s.heap.size ≤ q) (WXx D ax cls σ1 ++ WMm D am cls τ1) → va_S (fun q : Nat => s.heap.size ≤ q) s.heap H1 locs1 → W p l e room_1 s m #[Value.ref b] below meth c H1 locs1 91 1268 Q (F0 m 1145 ls [])) : W p l e room_1 s m #[Value.ref b] below meth c H locs 91 1268 Q (F0 m 267 ls []) := by
  refine lv_aload_n hx hb dL_law_267 rfl (lv_at hl 1 rfl) ?_
  refine lv_aload_n hx hb dL_law_268 rfl (lv_at hl 0 rfl) ?_
  refine lv_iload_n hx hb dL_law_269 rfl (lv_at hl 3 rfl) ?_
  refine lv_iconst (v := 1) hx hb dL_law_270 (by decide) ?_
  refine lv_iadd hx hb dL_law_271 ?_
  refine lv_nam (show nI (7 * j + 1) = nI (7 * j) + 1 from ixk j 1) ?_
  refine va_sld hx hb hX hbl hbA hS (sx_in hj (show 1 < 7 by decide) hL) dL_law_272 ?_
  refine lv_aload_n hx hb dL_law_273 rfl (lv_at hl 0 rfl) ?_
  refine lv_iload_n hx hb dL_law_274 rfl (lv_at hl 3 rfl) ?_
  refine lv_iconst (v := 2) hx hb dL_law_275 (by decide) ?_
  refine lv_iadd hx hb dL_law_276 ?_
  refine lv_nam (show nI (7 * j + 2) = nI (7 * j) + 2 from ixk j 2) ?_
  refine va_sld hx hb hX hbl hbA hS (sx_in hj (show 2 < 7 by decide) hL) dL_law_277 ?_
  obtain ⟨r0, σ', τ', eX0, eM0, hR'⟩ := r_want (xs (nI (7 * j + 1)).toNatClampNeg) (xs (nI (7 * j + 2)).toNatClampNeg) σ τ hR
  refine x_calli (x_runV (Xx _) (okx hD) hP hS hl.1 (As := [.int (xs (nI (7 * j + 1)).toNatClampNeg), .int (xs (nI (7 * j + 2)).toNatClampNeg)]) (rest := []) (k_X6_want (okx hD) (xs (nI (7 * j + 1)).toNatClampNeg) (xs (nI (7 * j + 2)).toNatClampNeg) σ eX0) lt_X6 (e_X6 _) rfl wM_L_27 wI_yX6_want wS_yX6_want wN_X6 wC_yX6_want hd_X6_want rfl ⟨rfl, rfl⟩ ⟨(by decide), (by decide)⟩ ⟨by decide, by decide⟩ rfl (Nat.le_of_ble_eq_true rfl) dL_law_278) hS (fun H locs hP hS => ?_)
  have hD := LD_any (σ' := σ') (τ' := τ) hD
  replace hP : va_P D vwCl (WXx D ax cls σ' ++ WMm D am cls τ) H := hP
  refine lv_aload_n hx hb dL_law_281 rfl (lv_at hl 2 rfl) ?_
  refine lv_aload_n hx hb dL_law_282 rfl (lv_at hl 0 rfl) ?_
  refine lv_iload_n hx hb dL_law_283 rfl (lv_at hl 3 rfl) ?_
  refine lv_iconst (v := 1) hx hb dL_law_284 (by decide) ?_
  refine lv_iadd hx hb dL_law_285 ?_
  refine lv_nam (show nI (7 * j + 1) = nI (7 * j) + 1 from ixk j 1) ?_
  refine va_sld hx hb hX hbl hbA hS (sx_in hj (show 1 < 7 by decide) hL) dL_law_286 ?_
  refine lv_aload_n hx hb dL_law_287 rfl (lv_at hl 0 rfl) ?_
  refine lv_iload_n hx hb dL_law_288 rfl (lv_at hl 3 rfl) ?_
  refine lv_iconst (v := 2) hx hb dL_law_289 (by decide) ?_
  refine lv_iadd hx hb dL_law_290 ?_
  refine lv_nam (show nI (7 * j + 2) = nI (7 * j) + 2 from ixk j 2) ?_
  refine va_sld hx hb hX hbl hbA hS (sx_in hj (show 2 < 7 by decide) hL) dL_law_291 ?_
  refine x_calli (x_runV (Xm _) (okm hD) (va_P_swap hP) hS hl.1 (As := [.int (xs (nI (7 * j + 1)).toNatClampNeg), .int (xs (nI (7 * j + 2)).toNatClampNeg)]) (rest := [.int r0]) (k_X7_want (okm hD) (xs (nI (7 * j + 1)).toNatClampNeg) (xs (nI (7 * j + 2)).toNatClampNeg) τ eM0) lt_X7 (e_X7 _) rfl wM_L_30 wI_yX7_want wS_yX7_want wN_X7 wC_yX7_want hd_X7_want rfl ⟨rfl, rfl⟩ ⟨(by decide), (by decide)⟩ ⟨by decide, by decide⟩ rfl (Nat.le_of_ble_eq_true rfl) dL_law_292) hS (fun H locs hP hS => ?_)
  refine lv_icmp_eq (tgt := 1145) hx hb dL_law_295 (by decide) (fun cz => ?_) (fun cz => absurd rfl cz)
  exact kk H locs σ' τ' hR' (va_P_swap hP) (LD_any hD) hS
set_option maxHeartbeats 4000000 in
set_option maxRecDepth 100000 in
theorem law_4 {p : Program} {l : Launch} {e : Env} {s : State} {m : MethodId} {below : List Frame} {meth : Method} {c : Code} {D : va_G} {ax am : Nat → Nat} {cls : Nat → ClassId} {b L j : Nat} {xs : Nat → Int32} {Q : State → Prop} (hL : L ≤ 448) (hj : 7 * j + 7 ≤ L) (hx : p.tables.exec = Jvm.exec) (hb : c.code = code) (hX : va_X b L xs s s.heap) (hbl : b < s.heap.size) (hbA : ¬ (fun q : Nat => s.heap.size ≤ q) b) (Xx : ∀ τ, CX (Thx D ax am cls s.heap.size τ) p s m #[Value.ref b] c RL cL_law 4) (Xm : ∀ σ, CX (Thm D ax am cls s.heap.size σ) p s m #[Value.ref b] c RL cL_law 4) {σ τ : Mem} (hR : Rel σ τ) {H : Heap} {locs : List Loc} (hP : va_P D vwCl (WXx D ax cls σ ++ WMm D am cls τ) H) (hD : va_D (fun q : Nat => s.heap.size ≤ q) (WXx D ax cls σ ++ WMm D am cls τ)) (hS : va_S (fun q : Nat => s.heap.size ≤ q) s.heap H locs) {ls : Array Slot} (hl : lv_has ls 4 [(0, .ref b), (1, .ref (ax 0)), (2, .ref (am 0)), (3, .int (nI (7 * j)))])
    (kk : ∀ (H1 : Heap) (locs1 : List Loc) (σ1 τ1 : Mem), Rel σ1 τ1 → va_P D vwCl (WXx D ax cls σ1 ++ WMm D am cls τ1) H1 → va_D (fun q : Nat => s.heap.size ≤ q) (WXx D ax cls σ1 ++ WMm D am cls τ1) → va_S (fun q : Nat => s.heap.size ≤ q) s.heap H1 locs1 → W p l e room_1 s m #[Value.ref b] below meth c H1 locs1 91 1268 Q (F0 m 1145 ls [])) : W p l e room_1 s m #[Value.ref b] below meth c H locs 91 1268 Q (F0 m 300 ls []) := by
  refine lv_aload_n hx hb dL_law_300 rfl (lv_at hl 1 rfl) ?_
  refine lv_aload_n hx hb dL_law_301 rfl (lv_at hl 0 rfl) ?_
  refine lv_iload_n hx hb dL_law_302 rfl (lv_at hl 3 rfl) ?_
  refine lv_iconst (v := 1) hx hb dL_law_303 (by decide) ?_
  refine lv_iadd hx hb dL_law_304 ?_
  refine lv_nam (show nI (7 * j + 1) = nI (7 * j) + 1 from ixk j 1) ?_
  refine va_sld hx hb hX hbl hbA hS (sx_in hj (show 1 < 7 by decide) hL) dL_law_305 ?_
  refine lv_aload_n hx hb dL_law_306 rfl (lv_at hl 0 rfl) ?_
  refine lv_iload_n hx hb dL_law_307 rfl (lv_at hl 3 rfl) ?_
  refine lv_iconst (v := 2) hx hb dL_law_308 (by decide) ?_
  refine lv_iadd hx hb dL_law_309 ?_
  refine lv_nam (show nI (7 * j + 2) = nI (7 * j) + 2 from ixk j 2) ?_
  refine va_sld hx hb hX hbl hbA hS (sx_in hj (show 2 < 7 by decide) hL) dL_law_310 ?_
  refine lv_aload_n hx hb dL_law_311 rfl (lv_at hl 0 rfl) ?_
  refine lv_iload_n hx hb dL_law_312 rfl (lv_at hl 3 rfl) ?_
  refine lv_iconst (v := 3) hx hb dL_law_313 (by decide) ?_
  refine lv_iadd hx hb dL_law_314 ?_
  refine lv_nam (show nI (7 * j + 3) = nI (7 * j) + 3 from ixk j 3) ?_
  refine va_sld hx hb hX hbl hbA hS (sx_in hj (show 3 < 7 by decide) hL) dL_law_315 ?_
  refine lv_aload_n hx hb dL_law_316 rfl (lv_at hl 0 rfl) ?_
  refine lv_iload_n hx hb dL_law_317 rfl (lv_at hl 3 rfl) ?_
  refine lv_iconst (v := 4) hx hb dL_law_318 (by decide) ?_
  refine lv_iadd hx hb dL_law_319 ?_
  refine lv_nam (show nI (7 * j + 4) = nI (7 * j) + 4 from ixk j 4) ?_
  refine va_sld hx hb hX hbl hbA hS (sx_in hj (show 4 < 7 by decide) hL) dL_law_320 ?_
  refine lv_aload_n hx hb dL_law_321 rfl (lv_at hl 0 rfl) ?_
  refine lv_iload_n hx hb dL_law_322 rfl (lv_at hl 3 rfl) ?_
  refine lv_iconst (v := 5) hx hb dL_law_323 (by decide) ?_
  refine lv_iadd hx hb dL_law_324 ?_
  refine lv_nam (show nI (7 * j + 5) = nI (7 * j) + 5 from ixk j 5) ?_
  refine va_sld hx hb hX hbl hbA hS (sx_in hj (show 5 < 7 by decide) hL) dL_law_325 ?_
  obtain ⟨r0, σ', τ', eX0, eM0, hR'⟩ := r_loans (F := 50000) (Nat.le_refl _) (xs (nI (7 * j + 1)).toNatClampNeg) (xs (nI (7 * j + 2)).toNatClampNeg) (xs (nI (7 * j + 3)).toNatClampNeg) (xs (nI (7 * j + 4)).toNatClampNeg) (xs (nI (7 * j + 5)).toNatClampNeg) σ τ hR
  refine x_calli (x_runV (Xx _) (okx hD) hP hS hl.1 (As := [.int (xs (nI (7 * j + 1)).toNatClampNeg), .int (xs (nI (7 * j + 2)).toNatClampNeg), .int (xs (nI (7 * j + 3)).toNatClampNeg), .int (xs (nI (7 * j + 4)).toNatClampNeg), .int (xs (nI (7 * j + 5)).toNatClampNeg)]) (rest := []) (k_X6_loans (F := 50000) (okx hD) (xs (nI (7 * j + 1)).toNatClampNeg) (xs (nI (7 * j + 2)).toNatClampNeg) (xs (nI (7 * j + 3)).toNatClampNeg) (xs (nI (7 * j + 4)).toNatClampNeg) (xs (nI (7 * j + 5)).toNatClampNeg) σ eX0) lt_X6 (e_X6 _) rfl wM_L_31 wI_yX6_loans wS_yX6_loans wN_X6 wC_yX6_loans hd_X6_loans rfl ⟨rfl, rfl⟩ ⟨(by decide), (by decide)⟩ ⟨by decide, by decide⟩ rfl (Nat.le_of_ble_eq_true rfl) dL_law_326) hS (fun H locs hP hS => ?_)
  have hD := LD_any (σ' := σ') (τ' := τ) hD
  replace hP : va_P D vwCl (WXx D ax cls σ' ++ WMm D am cls τ) H := hP
  refine lv_aload_n hx hb dL_law_329 rfl (lv_at hl 2 rfl) ?_
  refine lv_aload_n hx hb dL_law_330 rfl (lv_at hl 0 rfl) ?_
  refine lv_iload_n hx hb dL_law_331 rfl (lv_at hl 3 rfl) ?_
  refine lv_iconst (v := 1) hx hb dL_law_332 (by decide) ?_
  refine lv_iadd hx hb dL_law_333 ?_
  refine lv_nam (show nI (7 * j + 1) = nI (7 * j) + 1 from ixk j 1) ?_
  refine va_sld hx hb hX hbl hbA hS (sx_in hj (show 1 < 7 by decide) hL) dL_law_334 ?_
  refine lv_aload_n hx hb dL_law_335 rfl (lv_at hl 0 rfl) ?_
  refine lv_iload_n hx hb dL_law_336 rfl (lv_at hl 3 rfl) ?_
  refine lv_iconst (v := 2) hx hb dL_law_337 (by decide) ?_
  refine lv_iadd hx hb dL_law_338 ?_
  refine lv_nam (show nI (7 * j + 2) = nI (7 * j) + 2 from ixk j 2) ?_
  refine va_sld hx hb hX hbl hbA hS (sx_in hj (show 2 < 7 by decide) hL) dL_law_339 ?_
  refine lv_aload_n hx hb dL_law_340 rfl (lv_at hl 0 rfl) ?_
  refine lv_iload_n hx hb dL_law_341 rfl (lv_at hl 3 rfl) ?_
  refine lv_iconst (v := 3) hx hb dL_law_342 (by decide) ?_
  refine lv_iadd hx hb dL_law_343 ?_
  refine lv_nam (show nI (7 * j + 3) = nI (7 * j) + 3 from ixk j 3) ?_
  refine va_sld hx hb hX hbl hbA hS (sx_in hj (show 3 < 7 by decide) hL) dL_law_344 ?_
  refine lv_aload_n hx hb dL_law_345 rfl (lv_at hl 0 rfl) ?_
  refine lv_iload_n hx hb dL_law_346 rfl (lv_at hl 3 rfl) ?_
  refine lv_iconst (v := 4) hx hb dL_law_347 (by decide) ?_
  refine lv_iadd hx hb dL_law_348 ?_
  refine lv_nam (show nI (7 * j + 4) = nI (7 * j) + 4 from ixk j 4) ?_
  refine va_sld hx hb hX hbl hbA hS (sx_in hj (show 4 < 7 by decide) hL) dL_law_349 ?_
  refine lv_aload_n hx hb dL_law_350 rfl (lv_at hl 0 rfl) ?_
  refine lv_iload_n hx hb dL_law_351 rfl (lv_at hl 3 rfl) ?_
  refine lv_iconst (v := 5) hx hb dL_law_352 (by decide) ?_
  refine lv_iadd hx hb dL_law_353 ?_
  refine lv_nam (show nI (7 * j + 5) = nI (7 * j) + 5 from ixk j 5) ?_
  refine va_sld hx hb hX hbl hbA hS (sx_in hj (show 5 < 7 by decide) hL) dL_law_354 ?_
  refine x_calli (x_runV (Xm _) (okm hD) (va_P_swap hP) hS hl.1 (As := [.int (xs (nI (7 * j + 1)).toNatClampNeg), .int (xs (nI (7 * j + 2)).toNatClampNeg), .int (xs (nI (7 * j + 3)).toNatClampNeg), .int (xs (nI (7 * j + 4)).toNatClampNeg), .int (xs (nI (7 * j + 5)).toNatClampNeg)]) (rest := [.int r0]) (k_X7_loans (F := 50000) (okm hD) (xs (nI (7 * j + 1)).toNatClampNeg) (xs (nI (7 * j + 2)).toNatClampNeg) (xs (nI (7 * j + 3)).toNatClampNeg) (xs (nI (7 * j + 4)).toNatClampNeg) (xs (nI (7 * j + 5)).toNatClampNeg) τ eM0) lt_X7 (e_X7 _) rfl wM_L_35 wI_yX7_loans wS_yX7_loans wN_X7 wC_yX7_loans hd_X7_loans rfl ⟨rfl, rfl⟩ ⟨(by decide), (by decide)⟩ ⟨by decide, by decide⟩ rfl (Nat.le_of_ble_eq_true rfl) dL_law_355) hS (fun H locs hP hS => ?_)
  refine lv_icmp_eq (tgt := 1145) hx hb dL_law_358 (by decide) (fun cz => ?_) (fun cz => absurd rfl cz)
  exact kk H locs σ' τ' hR' (va_P_swap hP) (LD_any hD) hS
set_option maxHeartbeats 4000000 in
set_option maxRecDepth 100000 in
theorem law_5 {p : Program} {l : Launch} {e : Env} {s : State} {m : MethodId} {below : List Frame} {meth : Method} {c : Code} {D : va_G} {ax am : Nat → Nat} {cls : Nat → ClassId} {b L j : Nat} {xs : Nat → Int32} {Q : State → Prop} (hL : L ≤ 448) (hj : 7 * j + 7 ≤ L) (hx : p.tables.exec = Jvm.exec) (hb : c.code = code) (hX : va_X b L xs s s.heap) (hbl : b < s.heap.size) (hbA : ¬ (fun q : Nat => s.heap.size ≤ q) b) (Xx : ∀ τ, CX (Thx D ax am cls s.heap.size τ) p s m #[Value.ref b] c RL cL_law 4) (Xm : ∀ σ, CX (Thm D ax am cls s.heap.size σ) p s m #[Value.ref b] c RL cL_law 4) {σ τ : Mem} (hR : Rel σ τ) {H : Heap} {locs : List Loc} (hP : va_P D vwCl (WXx D ax cls σ ++ WMm D am cls τ) H) (hD : va_D (fun q : Nat => s.heap.size ≤ q) (WXx D ax cls σ ++ WMm D am cls τ)) (hS : va_S (fun q : Nat => s.heap.size ≤ q) s.heap H locs) {ls : Array Slot} (hl : lv_has ls 4 [(0, .ref b), (1, .ref (ax 0)), (2, .ref (am 0)), (3, .int (nI (7 * j)))])
    (kk : ∀ (H1 : Heap) (locs1 : List Loc) (σ1 τ1 : Mem), Rel σ1 τ1 → va_P D vwCl (WXx D ax cls σ1 ++ WMm D am cls τ1) H1 → va_D (fun q : Nat => s.heap.size ≤ q) (WXx D ax cls σ1 ++ WMm D am cls τ1) → va_S (fun q : Nat => s.heap.size ≤ q) s.heap H1 locs1 → W p l e room_1 s m #[Value.ref b] below meth c H1 locs1 91 1268 Q (F0 m 1145 ls [])) : W p l e room_1 s m #[Value.ref b] below meth c H locs 91 1268 Q (F0 m 363 ls []) := by
  refine lv_aload_n hx hb dL_law_363 rfl (lv_at hl 1 rfl) ?_
  refine lv_aload_n hx hb dL_law_364 rfl (lv_at hl 0 rfl) ?_
  refine lv_iload_n hx hb dL_law_365 rfl (lv_at hl 3 rfl) ?_
  refine lv_iconst (v := 1) hx hb dL_law_366 (by decide) ?_
  refine lv_iadd hx hb dL_law_367 ?_
  refine lv_nam (show nI (7 * j + 1) = nI (7 * j) + 1 from ixk j 1) ?_
  refine va_sld hx hb hX hbl hbA hS (sx_in hj (show 1 < 7 by decide) hL) dL_law_368 ?_
  refine lv_aload_n hx hb dL_law_369 rfl (lv_at hl 0 rfl) ?_
  refine lv_iload_n hx hb dL_law_370 rfl (lv_at hl 3 rfl) ?_
  refine lv_iconst (v := 2) hx hb dL_law_371 (by decide) ?_
  refine lv_iadd hx hb dL_law_372 ?_
  refine lv_nam (show nI (7 * j + 2) = nI (7 * j) + 2 from ixk j 2) ?_
  refine va_sld hx hb hX hbl hbA hS (sx_in hj (show 2 < 7 by decide) hL) dL_law_373 ?_
  obtain ⟨r0, σ', τ', eX0, eM0, hR'⟩ := r_fewest (F := 50000) (Nat.le_refl _) (xs (nI (7 * j + 1)).toNatClampNeg) (xs (nI (7 * j + 2)).toNatClampNeg) σ τ hR
  refine x_calli (x_runV (Xx _) (okx hD) hP hS hl.1 (As := [.int (xs (nI (7 * j + 1)).toNatClampNeg), .int (xs (nI (7 * j + 2)).toNatClampNeg)]) (rest := []) (k_X6_fewest (F := 50000) (okx hD) (xs (nI (7 * j + 1)).toNatClampNeg) (xs (nI (7 * j + 2)).toNatClampNeg) σ eX0) lt_X6 (e_X6 _) rfl wM_L_36 wI_yX6_fewest wS_yX6_fewest wN_X6 wC_yX6_fewest hd_X6_fewest rfl ⟨rfl, rfl⟩ ⟨(by decide), (by decide)⟩ ⟨by decide, by decide⟩ rfl (Nat.le_of_ble_eq_true rfl) dL_law_374) hS (fun H locs hP hS => ?_)
  have hD := LD_any (σ' := σ') (τ' := τ) hD
  replace hP : va_P D vwCl (WXx D ax cls σ' ++ WMm D am cls τ) H := hP
  refine lv_aload_n hx hb dL_law_377 rfl (lv_at hl 2 rfl) ?_
  refine lv_aload_n hx hb dL_law_378 rfl (lv_at hl 0 rfl) ?_
  refine lv_iload_n hx hb dL_law_379 rfl (lv_at hl 3 rfl) ?_
  refine lv_iconst (v := 1) hx hb dL_law_380 (by decide) ?_
  refine lv_iadd hx hb dL_law_381 ?_
  refine lv_nam (show nI (7 * j + 1) = nI (7 * j) + 1 from ixk j 1) ?_
  refine va_sld hx hb hX hbl hbA hS (sx_in hj (show 1 < 7 by decide) hL) dL_law_382 ?_
  refine lv_aload_n hx hb dL_law_383 rfl (lv_at hl 0 rfl) ?_
  refine lv_iload_n hx hb dL_law_384 rfl (lv_at hl 3 rfl) ?_
  refine lv_iconst (v := 2) hx hb dL_law_385 (by decide) ?_
  refine lv_iadd hx hb dL_law_386 ?_
  refine lv_nam (show nI (7 * j + 2) = nI (7 * j) + 2 from ixk j 2) ?_
  refine va_sld hx hb hX hbl hbA hS (sx_in hj (show 2 < 7 by decide) hL) dL_law_387 ?_
  refine x_calli (x_runV (Xm _) (okm hD) (va_P_swap hP) hS hl.1 (As := [.int (xs (nI (7 * j + 1)).toNatClampNeg), .int (xs (nI (7 * j + 2)).toNatClampNeg)]) (rest := [.int r0]) (k_X7_fewest (F := 50000) (okm hD) (xs (nI (7 * j + 1)).toNatClampNeg) (xs (nI (7 * j + 2)).toNatClampNeg) τ eM0) lt_X7 (e_X7 _) rfl wM_L_39 wI_yX7_fewest wS_yX7_fewest wN_X7 wC_yX7_fewest hd_X7_fewest rfl ⟨rfl, rfl⟩ ⟨(by decide), (by decide)⟩ ⟨by decide, by decide⟩ rfl (Nat.le_of_ble_eq_true rfl) dL_law_388) hS (fun H locs hP hS => ?_)
  refine lv_icmp_eq (tgt := 1145) hx hb dL_law_391 (by decide) (fun cz => ?_) (fun cz => absurd rfl cz)
  exact kk H locs σ' τ' hR' (va_P_swap hP) (LD_any hD) hS
set_option maxHeartbeats 4000000 in
set_option maxRecDepth 100000 in
theorem law_6 {p : Program} {l : Launch} {e : Env} {s : State} {m : MethodId} {below : List Frame} {meth : Method} {c : Code} {D : va_G} {ax am : Nat → Nat} {cls : Nat → ClassId} {b L j : Nat} {xs : Nat → Int32} {Q : State → Prop} (hL : L ≤ 448) (hj : 7 * j + 7 ≤ L) (hx : p.tables.exec = Jvm.exec) (hb : c.code = code) (hX : va_X b L xs s s.heap) (hbl : b < s.heap.size) (hbA : ¬ (fun q : Nat => s.heap.size ≤ q) b) (Xx : ∀ τ, CX (Thx D ax am cls s.heap.size τ) p s m #[Value.ref b] c RL cL_law 4) (Xm : ∀ σ, CX (Thm D ax am cls s.heap.size σ) p s m #[Value.ref b] c RL cL_law 4) {σ τ : Mem} (hR : Rel σ τ) {H : Heap} {locs : List Loc} (hP : va_P D vwCl (WXx D ax cls σ ++ WMm D am cls τ) H) (hD : va_D (fun q : Nat => s.heap.size ≤ q) (WXx D ax cls σ ++ WMm D am cls τ)) (hS : va_S (fun q : Nat => s.heap.size ≤ q) s.heap H locs) {ls : Array Slot} (hl : lv_has ls 4 [(0, .ref b), (1, .ref (ax 0)), (2, .ref (am 0)), (3, .int (nI (7 * j)))])
    (kk : ∀ (H1 : Heap) (locs1 : List Loc) (σ1 τ1 : Mem), Rel σ1 τ1 → va_P D vwCl (WXx D ax cls σ1 ++ WMm D am cls τ1) H1 → va_D (fun q : Nat => s.heap.size ≤ q) (WXx D ax cls σ1 ++ WMm D am cls τ1) → va_S (fun q : Nat => s.heap.size ≤ q) s.heap H1 locs1 → W p l e room_1 s m #[Value.ref b] below meth c H1 locs1 91 1268 Q (F0 m 1145 ls [])) : W p l e room_1 s m #[Value.ref b] below meth c H locs 91 1268 Q (F0 m 396 ls []) := by
  refine lv_aload_n hx hb dL_law_396 rfl (lv_at hl 1 rfl) ?_
  refine lv_aload_n hx hb dL_law_397 rfl (lv_at hl 0 rfl) ?_
  refine lv_iload_n hx hb dL_law_398 rfl (lv_at hl 3 rfl) ?_
  refine lv_iconst (v := 1) hx hb dL_law_399 (by decide) ?_
  refine lv_iadd hx hb dL_law_400 ?_
  refine lv_nam (show nI (7 * j + 1) = nI (7 * j) + 1 from ixk j 1) ?_
  refine va_sld hx hb hX hbl hbA hS (sx_in hj (show 1 < 7 by decide) hL) dL_law_401 ?_
  obtain ⟨r0, σ', τ', eX0, eM0, hR'⟩ := r_match (F := 50000) (Nat.le_refl _) (xs (nI (7 * j + 1)).toNatClampNeg) σ τ hR
  refine x_calli (x_runV (Xx _) (okx hD) hP hS hl.1 (As := [.int (xs (nI (7 * j + 1)).toNatClampNeg)]) (rest := []) (k_X6_match (F := 50000) (okx hD) (xs (nI (7 * j + 1)).toNatClampNeg) σ eX0) lt_X6 (e_X6 _) rfl wM_L_40 wI_yX6_match wS_yX6_match wN_X6 wC_yX6_match hd_X6_match rfl ⟨rfl, rfl⟩ ⟨(by decide), (by decide)⟩ ⟨by decide, by decide⟩ rfl (Nat.le_of_ble_eq_true rfl) dL_law_402) hS (fun H locs hP hS => ?_)
  have hD := LD_any (σ' := σ') (τ' := τ) hD
  replace hP : va_P D vwCl (WXx D ax cls σ' ++ WMm D am cls τ) H := hP
  refine lv_aload_n hx hb dL_law_405 rfl (lv_at hl 2 rfl) ?_
  refine lv_aload_n hx hb dL_law_406 rfl (lv_at hl 0 rfl) ?_
  refine lv_iload_n hx hb dL_law_407 rfl (lv_at hl 3 rfl) ?_
  refine lv_iconst (v := 1) hx hb dL_law_408 (by decide) ?_
  refine lv_iadd hx hb dL_law_409 ?_
  refine lv_nam (show nI (7 * j + 1) = nI (7 * j) + 1 from ixk j 1) ?_
  refine va_sld hx hb hX hbl hbA hS (sx_in hj (show 1 < 7 by decide) hL) dL_law_410 ?_
  refine x_calli (x_runV (Xm _) (okm hD) (va_P_swap hP) hS hl.1 (As := [.int (xs (nI (7 * j + 1)).toNatClampNeg)]) (rest := [.int r0]) (k_X7_match (F := 50000) (okm hD) (xs (nI (7 * j + 1)).toNatClampNeg) τ eM0) lt_X7 (e_X7 _) rfl wM_L_44 wI_yX7_match wS_yX7_match wN_X7 wC_yX7_match hd_X7_match rfl ⟨rfl, rfl⟩ ⟨(by decide), (by decide)⟩ ⟨by decide, by decide⟩ rfl (Nat.le_of_ble_eq_true rfl) dL_law_411) hS (fun H locs hP hS => ?_)
  refine lv_icmp_eq (tgt := 1145) hx hb dL_law_414 (by decide) (fun cz => ?_) (fun cz => absurd rfl cz)
  exact kk H locs σ' τ' hR' (va_P_swap hP) (LD_any hD) hS
set_option maxHeartbeats 4000000 in
set_option maxRecDepth 100000 in
theorem law_7 {p : Program} {l : Launch} {e : Env} {s : State} {m : MethodId} {below : List Frame} {meth : Method} {c : Code} {D : va_G} {ax am : Nat → Nat} {cls : Nat → ClassId} {b L j : Nat} {xs : Nat → Int32} {Q : State → Prop} (hL : L ≤ 448) (hj : 7 * j + 7 ≤ L) (hx : p.tables.exec = Jvm.exec) (hb : c.code = code) (hX : va_X b L xs s s.heap) (hbl : b < s.heap.size) (hbA : ¬ (fun q : Nat => s.heap.size ≤ q) b) (Xx : ∀ τ, CX (Thx D ax am cls s.heap.size τ) p s m #[Value.ref b] c RL cL_law 4) (Xm : ∀ σ, CX (Thm D ax am cls s.heap.size σ) p s m #[Value.ref b] c RL cL_law 4) {σ τ : Mem} (hR : Rel σ τ) {H : Heap} {locs : List Loc} (hP : va_P D vwCl (WXx D ax cls σ ++ WMm D am cls τ) H) (hD : va_D (fun q : Nat => s.heap.size ≤ q) (WXx D ax cls σ ++ WMm D am cls τ)) (hS : va_S (fun q : Nat => s.heap.size ≤ q) s.heap H locs) {ls : Array Slot} (hl : lv_has ls 4 [(0, .ref b), (1, .ref (ax 0)), (2, .ref (am 0)), (3, .int (nI (7 * j)))])
    (kk : ∀ (H1 : Heap) (locs1 : List Loc) (σ1 τ1 : Mem), Rel σ1 τ1 → va_P D vwCl (WXx D ax cls σ1 ++ WMm D am cls τ1) H1 → va_D (fun q : Nat => s.heap.size ≤ q) (WXx D ax cls σ1 ++ WMm D am cls τ1) → va_S (fun q : Nat => s.heap.size ≤ q) s.heap H1 locs1 → W p l e room_1 s m #[Value.ref b] below meth c H1 locs1 91 1268 Q (F0 m 1145 ls [])) : W p l e room_1 s m #[Value.ref b] below meth c H locs 91 1268 Q (F0 m 419 ls []) := by
  refine lv_aload_n hx hb dL_law_419 rfl (lv_at hl 1 rfl) ?_
  refine lv_aload_n hx hb dL_law_420 rfl (lv_at hl 0 rfl) ?_
  refine lv_iload_n hx hb dL_law_421 rfl (lv_at hl 3 rfl) ?_
  refine lv_iconst (v := 1) hx hb dL_law_422 (by decide) ?_
  refine lv_iadd hx hb dL_law_423 ?_
  refine lv_nam (show nI (7 * j + 1) = nI (7 * j) + 1 from ixk j 1) ?_
  refine va_sld hx hb hX hbl hbA hS (sx_in hj (show 1 < 7 by decide) hL) dL_law_424 ?_
  obtain ⟨r0, eX0, eM0⟩ := r_help (F := 50000) (Nat.le_refl _) (xs (nI (7 * j + 1)).toNatClampNeg) hR
  refine x_calli (x_runV (Xx _) (okx hD) hP hS hl.1 (As := [.int (xs (nI (7 * j + 1)).toNatClampNeg)]) (rest := []) (k_X6_help (F := 50000) (okx hD) (xs (nI (7 * j + 1)).toNatClampNeg) σ eX0) lt_X6 (e_X6 _) rfl wM_L_45 wI_yX6_help wS_yX6_help wN_X6 wC_yX6_help hd_X6_help rfl ⟨rfl, rfl⟩ ⟨(by decide), (by decide)⟩ ⟨by decide, by decide⟩ rfl (Nat.le_of_ble_eq_true rfl) dL_law_425) hS (fun H locs hP hS => ?_)
  replace hP : va_P D vwCl (WXx D ax cls σ ++ WMm D am cls τ) H := hP
  refine lv_aload_n hx hb dL_law_428 rfl (lv_at hl 2 rfl) ?_
  refine lv_aload_n hx hb dL_law_429 rfl (lv_at hl 0 rfl) ?_
  refine lv_iload_n hx hb dL_law_430 rfl (lv_at hl 3 rfl) ?_
  refine lv_iconst (v := 1) hx hb dL_law_431 (by decide) ?_
  refine lv_iadd hx hb dL_law_432 ?_
  refine lv_nam (show nI (7 * j + 1) = nI (7 * j) + 1 from ixk j 1) ?_
  refine va_sld hx hb hX hbl hbA hS (sx_in hj (show 1 < 7 by decide) hL) dL_law_433 ?_
  refine x_calli (x_runV (Xm _) (okm hD) (va_P_swap hP) hS hl.1 (As := [.int (xs (nI (7 * j + 1)).toNatClampNeg)]) (rest := [.int r0]) (k_X7_help (F := 50000) (okm hD) (xs (nI (7 * j + 1)).toNatClampNeg) τ eM0) lt_X7 (e_X7 _) rfl wM_L_48 wI_yX7_help wS_yX7_help wN_X7 wC_yX7_help hd_X7_help rfl ⟨rfl, rfl⟩ ⟨(by decide), (by decide)⟩ ⟨by decide, by decide⟩ rfl (Nat.le_of_ble_eq_true rfl) dL_law_434) hS (fun H locs hP hS => ?_)
  refine lv_icmp_eq (tgt := 1145) hx hb dL_law_437 (by decide) (fun cz => ?_) (fun cz => absurd rfl cz)
  exact kk H locs σ τ hR (va_P_swap hP) (LD_any hD) hS
set_option maxHeartbeats 4000000 in
set_option maxRecDepth 100000 in
theorem law_8 {p : Program} {l : Launch} {e : Env} {s : State} {m : MethodId} {below : List Frame} {meth : Method} {c : Code} {D : va_G} {ax am : Nat → Nat} {cls : Nat → ClassId} {b L j : Nat} {xs : Nat → Int32} {Q : State → Prop} (hL : L ≤ 448) (hj : 7 * j + 7 ≤ L) (hx : p.tables.exec = Jvm.exec) (hb : c.code = code) (hX : va_X b L xs s s.heap) (hbl : b < s.heap.size) (hbA : ¬ (fun q : Nat => s.heap.size ≤ q) b) (Xx : ∀ τ, CX (Thx D ax am cls s.heap.size τ) p s m #[Value.ref b] c RL cL_law 4) (Xm : ∀ σ, CX (Thm D ax am cls s.heap.size σ) p s m #[Value.ref b] c RL cL_law 4) {σ τ : Mem} (hR : Rel σ τ) {H : Heap} {locs : List Loc} (hP : va_P D vwCl (WXx D ax cls σ ++ WMm D am cls τ) H) (hD : va_D (fun q : Nat => s.heap.size ≤ q) (WXx D ax cls σ ++ WMm D am cls τ)) (hS : va_S (fun q : Nat => s.heap.size ≤ q) s.heap H locs) {ls : Array Slot} (hl : lv_has ls 4 [(0, .ref b), (1, .ref (ax 0)), (2, .ref (am 0)), (3, .int (nI (7 * j)))])
    (kk : ∀ (H1 : Heap) (locs1 : List Loc) (σ1 τ1 : Mem), Rel σ1 τ1 → va_P D vwCl (WXx D ax cls σ1 ++ WMm D am cls τ1) H1 → va_D (fun q : Nat => s.heap.size ≤ q) (WXx D ax cls σ1 ++ WMm D am cls τ1) → va_S (fun q : Nat => s.heap.size ≤ q) s.heap H1 locs1 → W p l e room_1 s m #[Value.ref b] below meth c H1 locs1 91 1268 Q (F0 m 1145 ls [])) : W p l e room_1 s m #[Value.ref b] below meth c H locs 91 1268 Q (F0 m 442 ls []) := by
  refine lv_aload_n hx hb dL_law_442 rfl (lv_at hl 1 rfl) ?_
  refine lv_aload_n hx hb dL_law_443 rfl (lv_at hl 0 rfl) ?_
  refine lv_iload_n hx hb dL_law_444 rfl (lv_at hl 3 rfl) ?_
  refine lv_iconst (v := 1) hx hb dL_law_445 (by decide) ?_
  refine lv_iadd hx hb dL_law_446 ?_
  refine lv_nam (show nI (7 * j + 1) = nI (7 * j) + 1 from ixk j 1) ?_
  refine va_sld hx hb hX hbl hbA hS (sx_in hj (show 1 < 7 by decide) hL) dL_law_447 ?_
  refine lv_aload_n hx hb dL_law_448 rfl (lv_at hl 0 rfl) ?_
  refine lv_iload_n hx hb dL_law_449 rfl (lv_at hl 3 rfl) ?_
  refine lv_iconst (v := 2) hx hb dL_law_450 (by decide) ?_
  refine lv_iadd hx hb dL_law_451 ?_
  refine lv_nam (show nI (7 * j + 2) = nI (7 * j) + 2 from ixk j 2) ?_
  refine va_sld hx hb hX hbl hbA hS (sx_in hj (show 2 < 7 by decide) hL) dL_law_452 ?_
  refine lv_aload_n hx hb dL_law_453 rfl (lv_at hl 0 rfl) ?_
  refine lv_iload_n hx hb dL_law_454 rfl (lv_at hl 3 rfl) ?_
  refine lv_iconst (v := 3) hx hb dL_law_455 (by decide) ?_
  refine lv_iadd hx hb dL_law_456 ?_
  refine lv_nam (show nI (7 * j + 3) = nI (7 * j) + 3 from ixk j 3) ?_
  refine va_sld hx hb hX hbl hbA hS (sx_in hj (show 3 < 7 by decide) hL) dL_law_457 ?_
  by_cases cb : (xs (nI (7 * j + 3)).toNatClampNeg) = 0
  · refine lv_if_eq (tgt := 465) hx hb dL_law_458 (by decide) (fun cz => ?_) (fun cz => absurd cb cz)
    refine lv_iconst (v := 0) hx hb dL_law_465 (by decide) ?_
    obtain ⟨r0, σ', τ', eX0, eM0, hR'⟩ := r_reading (xs (nI (7 * j + 1)).toNatClampNeg) (xs (nI (7 * j + 2)).toNatClampNeg) 0 (Or.inl rfl) σ τ hR
    refine x_calli (x_runV (Xx _) (okx hD) hP hS hl.1 (As := [.int (xs (nI (7 * j + 1)).toNatClampNeg), .int (xs (nI (7 * j + 2)).toNatClampNeg), .int 0]) (rest := []) (k_X6_reading (okx hD) (xs (nI (7 * j + 1)).toNatClampNeg) (xs (nI (7 * j + 2)).toNatClampNeg) 0 σ eX0) lt_X6 (e_X6 _) rfl wM_L_49 wI_yX6_reading wS_yX6_reading wN_X6 wC_yX6_reading hd_X6_reading rfl ⟨rfl, rfl⟩ ⟨(by decide), (by decide)⟩ ⟨by decide, by decide⟩ rfl (Nat.le_of_ble_eq_true rfl) dL_law_466) hS (fun H locs hP hS => ?_)
    have hD := LD_any (σ' := σ') (τ' := τ) hD
    replace hP : va_P D vwCl (WXx D ax cls σ' ++ WMm D am cls τ) H := hP
    refine lv_aload_n hx hb dL_law_469 rfl (lv_at hl 2 rfl) ?_
    refine lv_aload_n hx hb dL_law_470 rfl (lv_at hl 0 rfl) ?_
    refine lv_iload_n hx hb dL_law_471 rfl (lv_at hl 3 rfl) ?_
    refine lv_iconst (v := 1) hx hb dL_law_472 (by decide) ?_
    refine lv_iadd hx hb dL_law_473 ?_
    refine lv_nam (show nI (7 * j + 1) = nI (7 * j) + 1 from ixk j 1) ?_
    refine va_sld hx hb hX hbl hbA hS (sx_in hj (show 1 < 7 by decide) hL) dL_law_474 ?_
    refine lv_aload_n hx hb dL_law_475 rfl (lv_at hl 0 rfl) ?_
    refine lv_iload_n hx hb dL_law_476 rfl (lv_at hl 3 rfl) ?_
    refine lv_iconst (v := 2) hx hb dL_law_477 (by decide) ?_
    refine lv_iadd hx hb dL_law_478 ?_
    refine lv_nam (show nI (7 * j + 2) = nI (7 * j) + 2 from ixk j 2) ?_
    refine va_sld hx hb hX hbl hbA hS (sx_in hj (show 2 < 7 by decide) hL) dL_law_479 ?_
    refine lv_aload_n hx hb dL_law_480 rfl (lv_at hl 0 rfl) ?_
    refine lv_iload_n hx hb dL_law_481 rfl (lv_at hl 3 rfl) ?_
    refine lv_iconst (v := 3) hx hb dL_law_482 (by decide) ?_
    refine lv_iadd hx hb dL_law_483 ?_
    refine lv_nam (show nI (7 * j + 3) = nI (7 * j) + 3 from ixk j 3) ?_
    refine va_sld hx hb hX hbl hbA hS (sx_in hj (show 3 < 7 by decide) hL) dL_law_484 ?_
    refine lv_if_eq (tgt := 492) hx hb dL_law_485 (by decide) (fun cz => ?_) (fun cz => absurd cb cz)
    refine lv_iconst (v := 0) hx hb dL_law_492 (by decide) ?_
    refine x_calli (x_runV (Xm _) (okm hD) (va_P_swap hP) hS hl.1 (As := [.int (xs (nI (7 * j + 1)).toNatClampNeg), .int (xs (nI (7 * j + 2)).toNatClampNeg), .int 0]) (rest := [.int r0]) (k_X7_reading (okm hD) (xs (nI (7 * j + 1)).toNatClampNeg) (xs (nI (7 * j + 2)).toNatClampNeg) 0 τ eM0) lt_X7 (e_X7 _) rfl wM_L_53 wI_yX7_reading wS_yX7_reading wN_X7 wC_yX7_reading hd_X7_reading rfl ⟨rfl, rfl⟩ ⟨(by decide), (by decide)⟩ ⟨by decide, by decide⟩ rfl (Nat.le_of_ble_eq_true rfl) dL_law_493) hS (fun H locs hP hS => ?_)
    refine lv_icmp_eq (tgt := 1145) hx hb dL_law_496 (by decide) (fun cz => ?_) (fun cz => absurd rfl cz)
    exact kk H locs σ' τ' hR' (va_P_swap hP) (LD_any hD) hS
  · refine lv_if_eq (tgt := 465) hx hb dL_law_458 (by decide) (fun cz => absurd cz cb) (fun cz => ?_)
    refine lv_iconst (v := 1) hx hb dL_law_461 (by decide) ?_
    refine lv_goto (tgt := 466) hx hb dL_law_462 (by decide) ?_
    obtain ⟨r0, σ', τ', eX0, eM0, hR'⟩ := r_reading (xs (nI (7 * j + 1)).toNatClampNeg) (xs (nI (7 * j + 2)).toNatClampNeg) 1 (Or.inr rfl) σ τ hR
    refine x_calli (x_runV (Xx _) (okx hD) hP hS hl.1 (As := [.int (xs (nI (7 * j + 1)).toNatClampNeg), .int (xs (nI (7 * j + 2)).toNatClampNeg), .int 1]) (rest := []) (k_X6_reading (okx hD) (xs (nI (7 * j + 1)).toNatClampNeg) (xs (nI (7 * j + 2)).toNatClampNeg) 1 σ eX0) lt_X6 (e_X6 _) rfl wM_L_49 wI_yX6_reading wS_yX6_reading wN_X6 wC_yX6_reading hd_X6_reading rfl ⟨rfl, rfl⟩ ⟨(by decide), (by decide)⟩ ⟨by decide, by decide⟩ rfl (Nat.le_of_ble_eq_true rfl) dL_law_466) hS (fun H locs hP hS => ?_)
    have hD := LD_any (σ' := σ') (τ' := τ) hD
    replace hP : va_P D vwCl (WXx D ax cls σ' ++ WMm D am cls τ) H := hP
    refine lv_aload_n hx hb dL_law_469 rfl (lv_at hl 2 rfl) ?_
    refine lv_aload_n hx hb dL_law_470 rfl (lv_at hl 0 rfl) ?_
    refine lv_iload_n hx hb dL_law_471 rfl (lv_at hl 3 rfl) ?_
    refine lv_iconst (v := 1) hx hb dL_law_472 (by decide) ?_
    refine lv_iadd hx hb dL_law_473 ?_
    refine lv_nam (show nI (7 * j + 1) = nI (7 * j) + 1 from ixk j 1) ?_
    refine va_sld hx hb hX hbl hbA hS (sx_in hj (show 1 < 7 by decide) hL) dL_law_474 ?_
    refine lv_aload_n hx hb dL_law_475 rfl (lv_at hl 0 rfl) ?_
    refine lv_iload_n hx hb dL_law_476 rfl (lv_at hl 3 rfl) ?_
    refine lv_iconst (v := 2) hx hb dL_law_477 (by decide) ?_
    refine lv_iadd hx hb dL_law_478 ?_
    refine lv_nam (show nI (7 * j + 2) = nI (7 * j) + 2 from ixk j 2) ?_
    refine va_sld hx hb hX hbl hbA hS (sx_in hj (show 2 < 7 by decide) hL) dL_law_479 ?_
    refine lv_aload_n hx hb dL_law_480 rfl (lv_at hl 0 rfl) ?_
    refine lv_iload_n hx hb dL_law_481 rfl (lv_at hl 3 rfl) ?_
    refine lv_iconst (v := 3) hx hb dL_law_482 (by decide) ?_
    refine lv_iadd hx hb dL_law_483 ?_
    refine lv_nam (show nI (7 * j + 3) = nI (7 * j) + 3 from ixk j 3) ?_
    refine va_sld hx hb hX hbl hbA hS (sx_in hj (show 3 < 7 by decide) hL) dL_law_484 ?_
    refine lv_if_eq (tgt := 492) hx hb dL_law_485 (by decide) (fun cz => absurd cz cb) (fun cz => ?_)
    refine lv_iconst (v := 1) hx hb dL_law_488 (by decide) ?_
    refine lv_goto (tgt := 493) hx hb dL_law_489 (by decide) ?_
    refine x_calli (x_runV (Xm _) (okm hD) (va_P_swap hP) hS hl.1 (As := [.int (xs (nI (7 * j + 1)).toNatClampNeg), .int (xs (nI (7 * j + 2)).toNatClampNeg), .int 1]) (rest := [.int r0]) (k_X7_reading (okm hD) (xs (nI (7 * j + 1)).toNatClampNeg) (xs (nI (7 * j + 2)).toNatClampNeg) 1 τ eM0) lt_X7 (e_X7 _) rfl wM_L_53 wI_yX7_reading wS_yX7_reading wN_X7 wC_yX7_reading hd_X7_reading rfl ⟨rfl, rfl⟩ ⟨(by decide), (by decide)⟩ ⟨by decide, by decide⟩ rfl (Nat.le_of_ble_eq_true rfl) dL_law_493) hS (fun H locs hP hS => ?_)
    refine lv_icmp_eq (tgt := 1145) hx hb dL_law_496 (by decide) (fun cz => ?_) (fun cz => absurd rfl cz)
    exact kk H locs σ' τ' hR' (va_P_swap hP) (LD_any hD) hS
set_option maxHeartbeats 4000000 in
set_option maxRecDepth 100000 in
theorem law_9 {p : Program} {l : Launch} {e : Env} {s : State} {m : MethodId} {below : List Frame} {meth : Method} {c : Code} {D : va_G} {ax am : Nat → Nat} {cls : Nat → ClassId} {b L j : Nat} {xs : Nat → Int32} {Q : State → Prop} (hL : L ≤ 448) (hj : 7 * j + 7 ≤ L) (hx : p.tables.exec = Jvm.exec) (hb : c.code = code) (hX : va_X b L xs s s.heap) (hbl : b < s.heap.size) (hbA : ¬ (fun q : Nat => s.heap.size ≤ q) b) (Xx : ∀ τ, CX (Thx D ax am cls s.heap.size τ) p s m #[Value.ref b] c RL cL_law 4) (Xm : ∀ σ, CX (Thm D ax am cls s.heap.size σ) p s m #[Value.ref b] c RL cL_law 4) {σ τ : Mem} (hR : Rel σ τ) {H : Heap} {locs : List Loc} (hP : va_P D vwCl (WXx D ax cls σ ++ WMm D am cls τ) H) (hD : va_D (fun q : Nat => s.heap.size ≤ q) (WXx D ax cls σ ++ WMm D am cls τ)) (hS : va_S (fun q : Nat => s.heap.size ≤ q) s.heap H locs) {ls : Array Slot} (hl : lv_has ls 4 [(0, .ref b), (1, .ref (ax 0)), (2, .ref (am 0)), (3, .int (nI (7 * j)))])
    (kk : ∀ (H1 : Heap) (locs1 : List Loc) (σ1 τ1 : Mem), Rel σ1 τ1 → va_P D vwCl (WXx D ax cls σ1 ++ WMm D am cls τ1) H1 → va_D (fun q : Nat => s.heap.size ≤ q) (WXx D ax cls σ1 ++ WMm D am cls τ1) → va_S (fun q : Nat => s.heap.size ≤ q) s.heap H1 locs1 → W p l e room_1 s m #[Value.ref b] below meth c H1 locs1 91 1268 Q (F0 m 1145 ls [])) : W p l e room_1 s m #[Value.ref b] below meth c H locs 91 1268 Q (F0 m 501 ls []) := by
  refine lv_aload_n hx hb dL_law_501 rfl (lv_at hl 1 rfl) ?_
  refine lv_aload_n hx hb dL_law_502 rfl (lv_at hl 0 rfl) ?_
  refine lv_iload_n hx hb dL_law_503 rfl (lv_at hl 3 rfl) ?_
  refine lv_iconst (v := 1) hx hb dL_law_504 (by decide) ?_
  refine lv_iadd hx hb dL_law_505 ?_
  refine lv_nam (show nI (7 * j + 1) = nI (7 * j) + 1 from ixk j 1) ?_
  refine va_sld hx hb hX hbl hbA hS (sx_in hj (show 1 < 7 by decide) hL) dL_law_506 ?_
  obtain ⟨e0, hR'⟩ := r_back (xs (nI (7 * j + 1)).toNatClampNeg) hR
  refine x_calli (x_runV (Xx _) (okx hD) hP hS hl.1 (As := [.int (xs (nI (7 * j + 1)).toNatClampNeg)]) (rest := []) (k_X6_back (okx hD) (xs (nI (7 * j + 1)).toNatClampNeg) σ rfl) lt_X6 (e_X6 _) rfl wM_L_54 wI_yX6_back wS_yX6_back wN_X6 wC_yX6_back hd_X6_back rfl ⟨rfl, rfl⟩ ⟨(by decide), (by decide)⟩ ⟨by decide, by decide⟩ rfl (Nat.le_of_ble_eq_true rfl) dL_law_507) hS (fun H locs hP hS => ?_)
  have hD := LD_any (σ' := (X6_back (xs (nI (7 * j + 1)).toNatClampNeg) σ).2) (τ' := τ) hD
  replace hP : va_P D vwCl (WXx D ax cls (X6_back (xs (nI (7 * j + 1)).toNatClampNeg) σ).2 ++ WMm D am cls τ) H := hP
  refine lv_aload_n hx hb dL_law_510 rfl (lv_at hl 2 rfl) ?_
  refine lv_aload_n hx hb dL_law_511 rfl (lv_at hl 0 rfl) ?_
  refine lv_iload_n hx hb dL_law_512 rfl (lv_at hl 3 rfl) ?_
  refine lv_iconst (v := 1) hx hb dL_law_513 (by decide) ?_
  refine lv_iadd hx hb dL_law_514 ?_
  refine lv_nam (show nI (7 * j + 1) = nI (7 * j) + 1 from ixk j 1) ?_
  refine va_sld hx hb hX hbl hbA hS (sx_in hj (show 1 < 7 by decide) hL) dL_law_515 ?_
  refine x_calli (x_runV (Xm _) (okm hD) (va_P_swap hP) hS hl.1 (As := [.int (xs (nI (7 * j + 1)).toNatClampNeg)]) (rest := [.int (X6_back (xs (nI (7 * j + 1)).toNatClampNeg) σ).1]) (k_X7_back (okm hD) (xs (nI (7 * j + 1)).toNatClampNeg) τ rfl) lt_X7 (e_X7 _) rfl wM_L_57 wI_yX7_back wS_yX7_back wN_X7 wC_yX7_back hd_X7_back rfl ⟨rfl, rfl⟩ ⟨(by decide), (by decide)⟩ ⟨by decide, by decide⟩ rfl (Nat.le_of_ble_eq_true rfl) dL_law_516) hS (fun H locs hP hS => ?_)
  refine lv_icmp_eq (tgt := 1145) hx hb dL_law_519 (by decide) (fun cz => ?_) (fun cz => absurd e0 cz)
  exact kk H locs _ _ hR' (va_P_swap hP) (LD_any hD) hS
set_option maxHeartbeats 4000000 in
set_option maxRecDepth 100000 in
theorem law_10 {p : Program} {l : Launch} {e : Env} {s : State} {m : MethodId} {below : List Frame} {meth : Method} {c : Code} {D : va_G} {ax am : Nat → Nat} {cls : Nat → ClassId} {b L j : Nat} {xs : Nat → Int32} {Q : State → Prop} (hL : L ≤ 448) (hj : 7 * j + 7 ≤ L) (hx : p.tables.exec = Jvm.exec) (hb : c.code = code) (hX : va_X b L xs s s.heap) (hbl : b < s.heap.size) (hbA : ¬ (fun q : Nat => s.heap.size ≤ q) b) (Xx : ∀ τ, CX (Thx D ax am cls s.heap.size τ) p s m #[Value.ref b] c RL cL_law 4) (Xm : ∀ σ, CX (Thm D ax am cls s.heap.size σ) p s m #[Value.ref b] c RL cL_law 4) {σ τ : Mem} (hR : Rel σ τ) {H : Heap} {locs : List Loc} (hP : va_P D vwCl (WXx D ax cls σ ++ WMm D am cls τ) H) (hD : va_D (fun q : Nat => s.heap.size ≤ q) (WXx D ax cls σ ++ WMm D am cls τ)) (hS : va_S (fun q : Nat => s.heap.size ≤ q) s.heap H locs) {ls : Array Slot} (hl : lv_has ls 4 [(0, .ref b), (1, .ref (ax 0)), (2, .ref (am 0)), (3, .int (nI (7 * j)))])
    (kk : ∀ (H1 : Heap) (locs1 : List Loc) (σ1 τ1 : Mem), Rel σ1 τ1 → va_P D vwCl (WXx D ax cls σ1 ++ WMm D am cls τ1) H1 → va_D (fun q : Nat => s.heap.size ≤ q) (WXx D ax cls σ1 ++ WMm D am cls τ1) → va_S (fun q : Nat => s.heap.size ≤ q) s.heap H1 locs1 → W p l e room_1 s m #[Value.ref b] below meth c H1 locs1 91 1268 Q (F0 m 1145 ls [])) : W p l e room_1 s m #[Value.ref b] below meth c H locs 91 1268 Q (F0 m 524 ls []) := by
  refine lv_aload_n hx hb dL_law_524 rfl (lv_at hl 1 rfl) ?_
  refine lv_aload_n hx hb dL_law_525 rfl (lv_at hl 0 rfl) ?_
  refine lv_iload_n hx hb dL_law_526 rfl (lv_at hl 3 rfl) ?_
  refine lv_iconst (v := 1) hx hb dL_law_527 (by decide) ?_
  refine lv_iadd hx hb dL_law_528 ?_
  refine lv_nam (show nI (7 * j + 1) = nI (7 * j) + 1 from ixk j 1) ?_
  refine va_sld hx hb hX hbl hbA hS (sx_in hj (show 1 < 7 by decide) hL) dL_law_529 ?_
  refine lv_aload_n hx hb dL_law_530 rfl (lv_at hl 0 rfl) ?_
  refine lv_iload_n hx hb dL_law_531 rfl (lv_at hl 3 rfl) ?_
  refine lv_iconst (v := 2) hx hb dL_law_532 (by decide) ?_
  refine lv_iadd hx hb dL_law_533 ?_
  refine lv_nam (show nI (7 * j + 2) = nI (7 * j) + 2 from ixk j 2) ?_
  refine va_sld hx hb hX hbl hbA hS (sx_in hj (show 2 < 7 by decide) hL) dL_law_534 ?_
  refine lv_aload_n hx hb dL_law_535 rfl (lv_at hl 0 rfl) ?_
  refine lv_iload_n hx hb dL_law_536 rfl (lv_at hl 3 rfl) ?_
  refine lv_iconst (v := 3) hx hb dL_law_537 (by decide) ?_
  refine lv_iadd hx hb dL_law_538 ?_
  refine lv_nam (show nI (7 * j + 3) = nI (7 * j) + 3 from ixk j 3) ?_
  refine va_sld hx hb hX hbl hbA hS (sx_in hj (show 3 < 7 by decide) hL) dL_law_539 ?_
  refine lv_aload_n hx hb dL_law_540 rfl (lv_at hl 0 rfl) ?_
  refine lv_iload_n hx hb dL_law_541 rfl (lv_at hl 3 rfl) ?_
  refine lv_iconst (v := 4) hx hb dL_law_542 (by decide) ?_
  refine lv_iadd hx hb dL_law_543 ?_
  refine lv_nam (show nI (7 * j + 4) = nI (7 * j) + 4 from ixk j 4) ?_
  refine va_sld hx hb hX hbl hbA hS (sx_in hj (show 4 < 7 by decide) hL) dL_law_544 ?_
  refine lv_aload_n hx hb dL_law_545 rfl (lv_at hl 0 rfl) ?_
  refine lv_iload_n hx hb dL_law_546 rfl (lv_at hl 3 rfl) ?_
  refine lv_iconst (v := 5) hx hb dL_law_547 (by decide) ?_
  refine lv_iadd hx hb dL_law_548 ?_
  refine lv_nam (show nI (7 * j + 5) = nI (7 * j) + 5 from ixk j 5) ?_
  refine va_sld hx hb hX hbl hbA hS (sx_in hj (show 5 < 7 by decide) hL) dL_law_549 ?_
  refine lv_aload_n hx hb dL_law_550 rfl (lv_at hl 0 rfl) ?_
  refine lv_iload_n hx hb dL_law_551 rfl (lv_at hl 3 rfl) ?_
  refine lv_bipush (v := 6) hx hb dL_law_552 (by decide) ?_
  refine lv_iadd hx hb dL_law_554 ?_
  refine lv_nam (show nI (7 * j + 6) = nI (7 * j) + 6 from ixk j 6) ?_
  refine va_sld hx hb hX hbl hbA hS (sx_in hj (show 6 < 7 by decide) hL) dL_law_555 ?_
  obtain ⟨r0, σ', τ', eX0, eM0, hR'⟩ := r_told (F := 50000) (Nat.le_refl _) (xs (nI (7 * j + 1)).toNatClampNeg) (xs (nI (7 * j + 2)).toNatClampNeg) (xs (nI (7 * j + 3)).toNatClampNeg) (xs (nI (7 * j + 4)).toNatClampNeg) (xs (nI (7 * j + 5)).toNatClampNeg) (xs (nI (7 * j + 6)).toNatClampNeg) σ τ hR
  refine x_calli (x_runV (Xx _) (okx hD) hP hS hl.1 (As := [.int (xs (nI (7 * j + 1)).toNatClampNeg), .int (xs (nI (7 * j + 2)).toNatClampNeg), .int (xs (nI (7 * j + 3)).toNatClampNeg), .int (xs (nI (7 * j + 4)).toNatClampNeg), .int (xs (nI (7 * j + 5)).toNatClampNeg), .int (xs (nI (7 * j + 6)).toNatClampNeg)]) (rest := []) (k_X6_told (F := 50000) (okx hD) (xs (nI (7 * j + 1)).toNatClampNeg) (xs (nI (7 * j + 2)).toNatClampNeg) (xs (nI (7 * j + 3)).toNatClampNeg) (xs (nI (7 * j + 4)).toNatClampNeg) (xs (nI (7 * j + 5)).toNatClampNeg) (xs (nI (7 * j + 6)).toNatClampNeg) σ eX0) lt_X6 (e_X6 _) rfl wM_L_58 wI_yX6_told wS_yX6_told wN_X6 wC_yX6_told hd_X6_told rfl ⟨rfl, rfl⟩ ⟨(by decide), (by decide)⟩ ⟨by decide, by decide⟩ rfl (Nat.le_of_ble_eq_true rfl) dL_law_556) hS (fun H locs hP hS => ?_)
  have hD := LD_any (σ' := σ') (τ' := τ) hD
  replace hP : va_P D vwCl (WXx D ax cls σ' ++ WMm D am cls τ) H := hP
  refine lv_aload_n hx hb dL_law_559 rfl (lv_at hl 2 rfl) ?_
  refine lv_aload_n hx hb dL_law_560 rfl (lv_at hl 0 rfl) ?_
  refine lv_iload_n hx hb dL_law_561 rfl (lv_at hl 3 rfl) ?_
  refine lv_iconst (v := 1) hx hb dL_law_562 (by decide) ?_
  refine lv_iadd hx hb dL_law_563 ?_
  refine lv_nam (show nI (7 * j + 1) = nI (7 * j) + 1 from ixk j 1) ?_
  refine va_sld hx hb hX hbl hbA hS (sx_in hj (show 1 < 7 by decide) hL) dL_law_564 ?_
  refine lv_aload_n hx hb dL_law_565 rfl (lv_at hl 0 rfl) ?_
  refine lv_iload_n hx hb dL_law_566 rfl (lv_at hl 3 rfl) ?_
  refine lv_iconst (v := 2) hx hb dL_law_567 (by decide) ?_
  refine lv_iadd hx hb dL_law_568 ?_
  refine lv_nam (show nI (7 * j + 2) = nI (7 * j) + 2 from ixk j 2) ?_
  refine va_sld hx hb hX hbl hbA hS (sx_in hj (show 2 < 7 by decide) hL) dL_law_569 ?_
  refine lv_aload_n hx hb dL_law_570 rfl (lv_at hl 0 rfl) ?_
  refine lv_iload_n hx hb dL_law_571 rfl (lv_at hl 3 rfl) ?_
  refine lv_iconst (v := 3) hx hb dL_law_572 (by decide) ?_
  refine lv_iadd hx hb dL_law_573 ?_
  refine lv_nam (show nI (7 * j + 3) = nI (7 * j) + 3 from ixk j 3) ?_
  refine va_sld hx hb hX hbl hbA hS (sx_in hj (show 3 < 7 by decide) hL) dL_law_574 ?_
  refine lv_aload_n hx hb dL_law_575 rfl (lv_at hl 0 rfl) ?_
  refine lv_iload_n hx hb dL_law_576 rfl (lv_at hl 3 rfl) ?_
  refine lv_iconst (v := 4) hx hb dL_law_577 (by decide) ?_
  refine lv_iadd hx hb dL_law_578 ?_
  refine lv_nam (show nI (7 * j + 4) = nI (7 * j) + 4 from ixk j 4) ?_
  refine va_sld hx hb hX hbl hbA hS (sx_in hj (show 4 < 7 by decide) hL) dL_law_579 ?_
  refine lv_aload_n hx hb dL_law_580 rfl (lv_at hl 0 rfl) ?_
  refine lv_iload_n hx hb dL_law_581 rfl (lv_at hl 3 rfl) ?_
  refine lv_iconst (v := 5) hx hb dL_law_582 (by decide) ?_
  refine lv_iadd hx hb dL_law_583 ?_
  refine lv_nam (show nI (7 * j + 5) = nI (7 * j) + 5 from ixk j 5) ?_
  refine va_sld hx hb hX hbl hbA hS (sx_in hj (show 5 < 7 by decide) hL) dL_law_584 ?_
  refine lv_aload_n hx hb dL_law_585 rfl (lv_at hl 0 rfl) ?_
  refine lv_iload_n hx hb dL_law_586 rfl (lv_at hl 3 rfl) ?_
  refine lv_bipush (v := 6) hx hb dL_law_587 (by decide) ?_
  refine lv_iadd hx hb dL_law_589 ?_
  refine lv_nam (show nI (7 * j + 6) = nI (7 * j) + 6 from ixk j 6) ?_
  refine va_sld hx hb hX hbl hbA hS (sx_in hj (show 6 < 7 by decide) hL) dL_law_590 ?_
  refine x_calli (x_runV (Xm _) (okm hD) (va_P_swap hP) hS hl.1 (As := [.int (xs (nI (7 * j + 1)).toNatClampNeg), .int (xs (nI (7 * j + 2)).toNatClampNeg), .int (xs (nI (7 * j + 3)).toNatClampNeg), .int (xs (nI (7 * j + 4)).toNatClampNeg), .int (xs (nI (7 * j + 5)).toNatClampNeg), .int (xs (nI (7 * j + 6)).toNatClampNeg)]) (rest := [.int r0]) (k_X7_told (F := 50000) (okm hD) (xs (nI (7 * j + 1)).toNatClampNeg) (xs (nI (7 * j + 2)).toNatClampNeg) (xs (nI (7 * j + 3)).toNatClampNeg) (xs (nI (7 * j + 4)).toNatClampNeg) (xs (nI (7 * j + 5)).toNatClampNeg) (xs (nI (7 * j + 6)).toNatClampNeg) τ eM0) lt_X7 (e_X7 _) rfl wM_L_62 wI_yX7_told wS_yX7_told wN_X7 wC_yX7_told hd_X7_told rfl ⟨rfl, rfl⟩ ⟨(by decide), (by decide)⟩ ⟨by decide, by decide⟩ rfl (Nat.le_of_ble_eq_true rfl) dL_law_591) hS (fun H locs hP hS => ?_)
  refine lv_icmp_eq (tgt := 1145) hx hb dL_law_594 (by decide) (fun cz => ?_) (fun cz => absurd rfl cz)
  exact kk H locs σ' τ' hR' (va_P_swap hP) (LD_any hD) hS
set_option maxHeartbeats 4000000 in
set_option maxRecDepth 100000 in
theorem law_11 {p : Program} {l : Launch} {e : Env} {s : State} {m : MethodId} {below : List Frame} {meth : Method} {c : Code} {D : va_G} {ax am : Nat → Nat} {cls : Nat → ClassId} {b L j : Nat} {xs : Nat → Int32} {Q : State → Prop} (hL : L ≤ 448) (hj : 7 * j + 7 ≤ L) (hx : p.tables.exec = Jvm.exec) (hb : c.code = code) (hX : va_X b L xs s s.heap) (hbl : b < s.heap.size) (hbA : ¬ (fun q : Nat => s.heap.size ≤ q) b) (Xx : ∀ τ, CX (Thx D ax am cls s.heap.size τ) p s m #[Value.ref b] c RL cL_law 4) (Xm : ∀ σ, CX (Thm D ax am cls s.heap.size σ) p s m #[Value.ref b] c RL cL_law 4) {σ τ : Mem} (hR : Rel σ τ) {H : Heap} {locs : List Loc} (hP : va_P D vwCl (WXx D ax cls σ ++ WMm D am cls τ) H) (hD : va_D (fun q : Nat => s.heap.size ≤ q) (WXx D ax cls σ ++ WMm D am cls τ)) (hS : va_S (fun q : Nat => s.heap.size ≤ q) s.heap H locs) {ls : Array Slot} (hl : lv_has ls 4 [(0, .ref b), (1, .ref (ax 0)), (2, .ref (am 0)), (3, .int (nI (7 * j)))])
    (kk : ∀ (H1 : Heap) (locs1 : List Loc) (σ1 τ1 : Mem), Rel σ1 τ1 → va_P D vwCl (WXx D ax cls σ1 ++ WMm D am cls τ1) H1 → va_D (fun q : Nat => s.heap.size ≤ q) (WXx D ax cls σ1 ++ WMm D am cls τ1) → va_S (fun q : Nat => s.heap.size ≤ q) s.heap H1 locs1 → W p l e room_1 s m #[Value.ref b] below meth c H1 locs1 91 1268 Q (F0 m 1145 ls [])) : W p l e room_1 s m #[Value.ref b] below meth c H locs 91 1268 Q (F0 m 599 ls []) := by
  refine lv_aload_n hx hb dL_law_599 rfl (lv_at hl 1 rfl) ?_
  refine lv_aload_n hx hb dL_law_600 rfl (lv_at hl 0 rfl) ?_
  refine lv_iload_n hx hb dL_law_601 rfl (lv_at hl 3 rfl) ?_
  refine lv_iconst (v := 1) hx hb dL_law_602 (by decide) ?_
  refine lv_iadd hx hb dL_law_603 ?_
  refine lv_nam (show nI (7 * j + 1) = nI (7 * j) + 1 from ixk j 1) ?_
  refine va_sld hx hb hX hbl hbA hS (sx_in hj (show 1 < 7 by decide) hL) dL_law_604 ?_
  refine lv_aload_n hx hb dL_law_605 rfl (lv_at hl 0 rfl) ?_
  refine lv_iload_n hx hb dL_law_606 rfl (lv_at hl 3 rfl) ?_
  refine lv_iconst (v := 2) hx hb dL_law_607 (by decide) ?_
  refine lv_iadd hx hb dL_law_608 ?_
  refine lv_nam (show nI (7 * j + 2) = nI (7 * j) + 2 from ixk j 2) ?_
  refine va_sld hx hb hX hbl hbA hS (sx_in hj (show 2 < 7 by decide) hL) dL_law_609 ?_
  refine lv_aload_n hx hb dL_law_610 rfl (lv_at hl 0 rfl) ?_
  refine lv_iload_n hx hb dL_law_611 rfl (lv_at hl 3 rfl) ?_
  refine lv_iconst (v := 3) hx hb dL_law_612 (by decide) ?_
  refine lv_iadd hx hb dL_law_613 ?_
  refine lv_nam (show nI (7 * j + 3) = nI (7 * j) + 3 from ixk j 3) ?_
  refine va_sld hx hb hX hbl hbA hS (sx_in hj (show 3 < 7 by decide) hL) dL_law_614 ?_
  refine lv_aload_n hx hb dL_law_615 rfl (lv_at hl 0 rfl) ?_
  refine lv_iload_n hx hb dL_law_616 rfl (lv_at hl 3 rfl) ?_
  refine lv_iconst (v := 4) hx hb dL_law_617 (by decide) ?_
  refine lv_iadd hx hb dL_law_618 ?_
  refine lv_nam (show nI (7 * j + 4) = nI (7 * j) + 4 from ixk j 4) ?_
  refine va_sld hx hb hX hbl hbA hS (sx_in hj (show 4 < 7 by decide) hL) dL_law_619 ?_
  refine lv_aload_n hx hb dL_law_620 rfl (lv_at hl 0 rfl) ?_
  refine lv_iload_n hx hb dL_law_621 rfl (lv_at hl 3 rfl) ?_
  refine lv_iconst (v := 5) hx hb dL_law_622 (by decide) ?_
  refine lv_iadd hx hb dL_law_623 ?_
  refine lv_nam (show nI (7 * j + 5) = nI (7 * j) + 5 from ixk j 5) ?_
  refine va_sld hx hb hX hbl hbA hS (sx_in hj (show 5 < 7 by decide) hL) dL_law_624 ?_
  obtain ⟨r0, σ', τ', eX0, eM0, hR'⟩ := r_kinds (F := 50000) (Nat.le_refl _) (xs (nI (7 * j + 1)).toNatClampNeg) (xs (nI (7 * j + 2)).toNatClampNeg) (xs (nI (7 * j + 3)).toNatClampNeg) (xs (nI (7 * j + 4)).toNatClampNeg) (xs (nI (7 * j + 5)).toNatClampNeg) σ τ hR
  refine x_calli (x_runV (Xx _) (okx hD) hP hS hl.1 (As := [.int (xs (nI (7 * j + 1)).toNatClampNeg), .int (xs (nI (7 * j + 2)).toNatClampNeg), .int (xs (nI (7 * j + 3)).toNatClampNeg), .int (xs (nI (7 * j + 4)).toNatClampNeg), .int (xs (nI (7 * j + 5)).toNatClampNeg)]) (rest := []) (k_X6_kinds (F := 50000) (okx hD) (xs (nI (7 * j + 1)).toNatClampNeg) (xs (nI (7 * j + 2)).toNatClampNeg) (xs (nI (7 * j + 3)).toNatClampNeg) (xs (nI (7 * j + 4)).toNatClampNeg) (xs (nI (7 * j + 5)).toNatClampNeg) σ eX0) lt_X6 (e_X6 _) rfl wM_L_63 wI_yX6_kinds wS_yX6_kinds wN_X6 wC_yX6_kinds hd_X6_kinds rfl ⟨rfl, rfl⟩ ⟨(by decide), (by decide)⟩ ⟨by decide, by decide⟩ rfl (Nat.le_of_ble_eq_true rfl) dL_law_625) hS (fun H locs hP hS => ?_)
  have hD := LD_any (σ' := σ') (τ' := τ) hD
  replace hP : va_P D vwCl (WXx D ax cls σ' ++ WMm D am cls τ) H := hP
  refine lv_aload_n hx hb dL_law_628 rfl (lv_at hl 2 rfl) ?_
  refine lv_aload_n hx hb dL_law_629 rfl (lv_at hl 0 rfl) ?_
  refine lv_iload_n hx hb dL_law_630 rfl (lv_at hl 3 rfl) ?_
  refine lv_iconst (v := 1) hx hb dL_law_631 (by decide) ?_
  refine lv_iadd hx hb dL_law_632 ?_
  refine lv_nam (show nI (7 * j + 1) = nI (7 * j) + 1 from ixk j 1) ?_
  refine va_sld hx hb hX hbl hbA hS (sx_in hj (show 1 < 7 by decide) hL) dL_law_633 ?_
  refine lv_aload_n hx hb dL_law_634 rfl (lv_at hl 0 rfl) ?_
  refine lv_iload_n hx hb dL_law_635 rfl (lv_at hl 3 rfl) ?_
  refine lv_iconst (v := 2) hx hb dL_law_636 (by decide) ?_
  refine lv_iadd hx hb dL_law_637 ?_
  refine lv_nam (show nI (7 * j + 2) = nI (7 * j) + 2 from ixk j 2) ?_
  refine va_sld hx hb hX hbl hbA hS (sx_in hj (show 2 < 7 by decide) hL) dL_law_638 ?_
  refine lv_aload_n hx hb dL_law_639 rfl (lv_at hl 0 rfl) ?_
  refine lv_iload_n hx hb dL_law_640 rfl (lv_at hl 3 rfl) ?_
  refine lv_iconst (v := 3) hx hb dL_law_641 (by decide) ?_
  refine lv_iadd hx hb dL_law_642 ?_
  refine lv_nam (show nI (7 * j + 3) = nI (7 * j) + 3 from ixk j 3) ?_
  refine va_sld hx hb hX hbl hbA hS (sx_in hj (show 3 < 7 by decide) hL) dL_law_643 ?_
  refine lv_aload_n hx hb dL_law_644 rfl (lv_at hl 0 rfl) ?_
  refine lv_iload_n hx hb dL_law_645 rfl (lv_at hl 3 rfl) ?_
  refine lv_iconst (v := 4) hx hb dL_law_646 (by decide) ?_
  refine lv_iadd hx hb dL_law_647 ?_
  refine lv_nam (show nI (7 * j + 4) = nI (7 * j) + 4 from ixk j 4) ?_
  refine va_sld hx hb hX hbl hbA hS (sx_in hj (show 4 < 7 by decide) hL) dL_law_648 ?_
  refine lv_aload_n hx hb dL_law_649 rfl (lv_at hl 0 rfl) ?_
  refine lv_iload_n hx hb dL_law_650 rfl (lv_at hl 3 rfl) ?_
  refine lv_iconst (v := 5) hx hb dL_law_651 (by decide) ?_
  refine lv_iadd hx hb dL_law_652 ?_
  refine lv_nam (show nI (7 * j + 5) = nI (7 * j) + 5 from ixk j 5) ?_
  refine va_sld hx hb hX hbl hbA hS (sx_in hj (show 5 < 7 by decide) hL) dL_law_653 ?_
  refine x_calli (x_runV (Xm _) (okm hD) (va_P_swap hP) hS hl.1 (As := [.int (xs (nI (7 * j + 1)).toNatClampNeg), .int (xs (nI (7 * j + 2)).toNatClampNeg), .int (xs (nI (7 * j + 3)).toNatClampNeg), .int (xs (nI (7 * j + 4)).toNatClampNeg), .int (xs (nI (7 * j + 5)).toNatClampNeg)]) (rest := [.int r0]) (k_X7_kinds (F := 50000) (okm hD) (xs (nI (7 * j + 1)).toNatClampNeg) (xs (nI (7 * j + 2)).toNatClampNeg) (xs (nI (7 * j + 3)).toNatClampNeg) (xs (nI (7 * j + 4)).toNatClampNeg) (xs (nI (7 * j + 5)).toNatClampNeg) τ eM0) lt_X7 (e_X7 _) rfl wM_L_66 wI_yX7_kinds wS_yX7_kinds wN_X7 wC_yX7_kinds hd_X7_kinds rfl ⟨rfl, rfl⟩ ⟨(by decide), (by decide)⟩ ⟨by decide, by decide⟩ rfl (Nat.le_of_ble_eq_true rfl) dL_law_654) hS (fun H locs hP hS => ?_)
  refine lv_icmp_eq (tgt := 1145) hx hb dL_law_657 (by decide) (fun cz => ?_) (fun cz => absurd rfl cz)
  exact kk H locs σ' τ' hR' (va_P_swap hP) (LD_any hD) hS
set_option maxHeartbeats 4000000 in
set_option maxRecDepth 100000 in
theorem law_12 {p : Program} {l : Launch} {e : Env} {s : State} {m : MethodId} {below : List Frame} {meth : Method} {c : Code} {D : va_G} {ax am : Nat → Nat} {cls : Nat → ClassId} {b L j : Nat} {xs : Nat → Int32} {Q : State → Prop} (hL : L ≤ 448) (hj : 7 * j + 7 ≤ L) (hx : p.tables.exec = Jvm.exec) (hb : c.code = code) (hX : va_X b L xs s s.heap) (hbl : b < s.heap.size) (hbA : ¬ (fun q : Nat => s.heap.size ≤ q) b) (Xx : ∀ τ, CX (Thx D ax am cls s.heap.size τ) p s m #[Value.ref b] c RL cL_law 4) (Xm : ∀ σ, CX (Thm D ax am cls s.heap.size σ) p s m #[Value.ref b] c RL cL_law 4) {σ τ : Mem} (hR : Rel σ τ) {H : Heap} {locs : List Loc} (hP : va_P D vwCl (WXx D ax cls σ ++ WMm D am cls τ) H) (hD : va_D (fun q : Nat => s.heap.size ≤ q) (WXx D ax cls σ ++ WMm D am cls τ)) (hS : va_S (fun q : Nat => s.heap.size ≤ q) s.heap H locs) {ls : Array Slot} (hl : lv_has ls 4 [(0, .ref b), (1, .ref (ax 0)), (2, .ref (am 0)), (3, .int (nI (7 * j)))])
    (kk : ∀ (H1 : Heap) (locs1 : List Loc) (σ1 τ1 : Mem), Rel σ1 τ1 → va_P D vwCl (WXx D ax cls σ1 ++ WMm D am cls τ1) H1 → va_D (fun q : Nat => s.heap.size ≤ q) (WXx D ax cls σ1 ++ WMm D am cls τ1) → va_S (fun q : Nat => s.heap.size ≤ q) s.heap H1 locs1 → W p l e room_1 s m #[Value.ref b] below meth c H1 locs1 91 1268 Q (F0 m 1145 ls [])) : W p l e room_1 s m #[Value.ref b] below meth c H locs 91 1268 Q (F0 m 662 ls []) := by
  refine lv_aload_n hx hb dL_law_662 rfl (lv_at hl 1 rfl) ?_
  refine lv_aload_n hx hb dL_law_663 rfl (lv_at hl 0 rfl) ?_
  refine lv_iload_n hx hb dL_law_664 rfl (lv_at hl 3 rfl) ?_
  refine lv_iconst (v := 1) hx hb dL_law_665 (by decide) ?_
  refine lv_iadd hx hb dL_law_666 ?_
  refine lv_nam (show nI (7 * j + 1) = nI (7 * j) + 1 from ixk j 1) ?_
  refine va_sld hx hb hX hbl hbA hS (sx_in hj (show 1 < 7 by decide) hL) dL_law_667 ?_
  refine lv_aload_n hx hb dL_law_668 rfl (lv_at hl 0 rfl) ?_
  refine lv_iload_n hx hb dL_law_669 rfl (lv_at hl 3 rfl) ?_
  refine lv_iconst (v := 2) hx hb dL_law_670 (by decide) ?_
  refine lv_iadd hx hb dL_law_671 ?_
  refine lv_nam (show nI (7 * j + 2) = nI (7 * j) + 2 from ixk j 2) ?_
  refine va_sld hx hb hX hbl hbA hS (sx_in hj (show 2 < 7 by decide) hL) dL_law_672 ?_
  refine lv_aload_n hx hb dL_law_673 rfl (lv_at hl 0 rfl) ?_
  refine lv_iload_n hx hb dL_law_674 rfl (lv_at hl 3 rfl) ?_
  refine lv_iconst (v := 3) hx hb dL_law_675 (by decide) ?_
  refine lv_iadd hx hb dL_law_676 ?_
  refine lv_nam (show nI (7 * j + 3) = nI (7 * j) + 3 from ixk j 3) ?_
  refine va_sld hx hb hX hbl hbA hS (sx_in hj (show 3 < 7 by decide) hL) dL_law_677 ?_
  refine lv_aload_n hx hb dL_law_678 rfl (lv_at hl 0 rfl) ?_
  refine lv_iload_n hx hb dL_law_679 rfl (lv_at hl 3 rfl) ?_
  refine lv_iconst (v := 4) hx hb dL_law_680 (by decide) ?_
  refine lv_iadd hx hb dL_law_681 ?_
  refine lv_nam (show nI (7 * j + 4) = nI (7 * j) + 4 from ixk j 4) ?_
  refine va_sld hx hb hX hbl hbA hS (sx_in hj (show 4 < 7 by decide) hL) dL_law_682 ?_
  refine lv_aload_n hx hb dL_law_683 rfl (lv_at hl 0 rfl) ?_
  refine lv_iload_n hx hb dL_law_684 rfl (lv_at hl 3 rfl) ?_
  refine lv_iconst (v := 5) hx hb dL_law_685 (by decide) ?_
  refine lv_iadd hx hb dL_law_686 ?_
  refine lv_nam (show nI (7 * j + 5) = nI (7 * j) + 5 from ixk j 5) ?_
  refine va_sld hx hb hX hbl hbA hS (sx_in hj (show 5 < 7 by decide) hL) dL_law_687 ?_
  obtain ⟨r0, σ', τ', eX0, eM0, hR'⟩ := r_wears (F := 50000) (Nat.le_refl _) (xs (nI (7 * j + 1)).toNatClampNeg) (xs (nI (7 * j + 2)).toNatClampNeg) (xs (nI (7 * j + 3)).toNatClampNeg) (xs (nI (7 * j + 4)).toNatClampNeg) (xs (nI (7 * j + 5)).toNatClampNeg) σ τ hR
  refine x_calli (x_runV (Xx _) (okx hD) hP hS hl.1 (As := [.int (xs (nI (7 * j + 1)).toNatClampNeg), .int (xs (nI (7 * j + 2)).toNatClampNeg), .int (xs (nI (7 * j + 3)).toNatClampNeg), .int (xs (nI (7 * j + 4)).toNatClampNeg), .int (xs (nI (7 * j + 5)).toNatClampNeg)]) (rest := []) (k_X6_wears (F := 50000) (okx hD) (xs (nI (7 * j + 1)).toNatClampNeg) (xs (nI (7 * j + 2)).toNatClampNeg) (xs (nI (7 * j + 3)).toNatClampNeg) (xs (nI (7 * j + 4)).toNatClampNeg) (xs (nI (7 * j + 5)).toNatClampNeg) σ eX0) lt_X6 (e_X6 _) rfl wM_L_67 wI_yX6_wears wS_yX6_wears wN_X6 wC_yX6_wears hd_X6_wears rfl ⟨rfl, rfl⟩ ⟨(by decide), (by decide)⟩ ⟨by decide, by decide⟩ rfl (Nat.le_of_ble_eq_true rfl) dL_law_688) hS (fun H locs hP hS => ?_)
  have hD := LD_any (σ' := σ') (τ' := τ) hD
  replace hP : va_P D vwCl (WXx D ax cls σ' ++ WMm D am cls τ) H := hP
  refine lv_aload_n hx hb dL_law_691 rfl (lv_at hl 2 rfl) ?_
  refine lv_aload_n hx hb dL_law_692 rfl (lv_at hl 0 rfl) ?_
  refine lv_iload_n hx hb dL_law_693 rfl (lv_at hl 3 rfl) ?_
  refine lv_iconst (v := 1) hx hb dL_law_694 (by decide) ?_
  refine lv_iadd hx hb dL_law_695 ?_
  refine lv_nam (show nI (7 * j + 1) = nI (7 * j) + 1 from ixk j 1) ?_
  refine va_sld hx hb hX hbl hbA hS (sx_in hj (show 1 < 7 by decide) hL) dL_law_696 ?_
  refine lv_aload_n hx hb dL_law_697 rfl (lv_at hl 0 rfl) ?_
  refine lv_iload_n hx hb dL_law_698 rfl (lv_at hl 3 rfl) ?_
  refine lv_iconst (v := 2) hx hb dL_law_699 (by decide) ?_
  refine lv_iadd hx hb dL_law_700 ?_
  refine lv_nam (show nI (7 * j + 2) = nI (7 * j) + 2 from ixk j 2) ?_
  refine va_sld hx hb hX hbl hbA hS (sx_in hj (show 2 < 7 by decide) hL) dL_law_701 ?_
  refine lv_aload_n hx hb dL_law_702 rfl (lv_at hl 0 rfl) ?_
  refine lv_iload_n hx hb dL_law_703 rfl (lv_at hl 3 rfl) ?_
  refine lv_iconst (v := 3) hx hb dL_law_704 (by decide) ?_
  refine lv_iadd hx hb dL_law_705 ?_
  refine lv_nam (show nI (7 * j + 3) = nI (7 * j) + 3 from ixk j 3) ?_
  refine va_sld hx hb hX hbl hbA hS (sx_in hj (show 3 < 7 by decide) hL) dL_law_706 ?_
  refine lv_aload_n hx hb dL_law_707 rfl (lv_at hl 0 rfl) ?_
  refine lv_iload_n hx hb dL_law_708 rfl (lv_at hl 3 rfl) ?_
  refine lv_iconst (v := 4) hx hb dL_law_709 (by decide) ?_
  refine lv_iadd hx hb dL_law_710 ?_
  refine lv_nam (show nI (7 * j + 4) = nI (7 * j) + 4 from ixk j 4) ?_
  refine va_sld hx hb hX hbl hbA hS (sx_in hj (show 4 < 7 by decide) hL) dL_law_711 ?_
  refine lv_aload_n hx hb dL_law_712 rfl (lv_at hl 0 rfl) ?_
  refine lv_iload_n hx hb dL_law_713 rfl (lv_at hl 3 rfl) ?_
  refine lv_iconst (v := 5) hx hb dL_law_714 (by decide) ?_
  refine lv_iadd hx hb dL_law_715 ?_
  refine lv_nam (show nI (7 * j + 5) = nI (7 * j) + 5 from ixk j 5) ?_
  refine va_sld hx hb hX hbl hbA hS (sx_in hj (show 5 < 7 by decide) hL) dL_law_716 ?_
  refine x_calli (x_runV (Xm _) (okm hD) (va_P_swap hP) hS hl.1 (As := [.int (xs (nI (7 * j + 1)).toNatClampNeg), .int (xs (nI (7 * j + 2)).toNatClampNeg), .int (xs (nI (7 * j + 3)).toNatClampNeg), .int (xs (nI (7 * j + 4)).toNatClampNeg), .int (xs (nI (7 * j + 5)).toNatClampNeg)]) (rest := [.int r0]) (k_X7_wears (F := 50000) (okm hD) (xs (nI (7 * j + 1)).toNatClampNeg) (xs (nI (7 * j + 2)).toNatClampNeg) (xs (nI (7 * j + 3)).toNatClampNeg) (xs (nI (7 * j + 4)).toNatClampNeg) (xs (nI (7 * j + 5)).toNatClampNeg) τ eM0) lt_X7 (e_X7 _) rfl wM_L_70 wI_yX7_wears wS_yX7_wears wN_X7 wC_yX7_wears hd_X7_wears rfl ⟨rfl, rfl⟩ ⟨(by decide), (by decide)⟩ ⟨by decide, by decide⟩ rfl (Nat.le_of_ble_eq_true rfl) dL_law_717) hS (fun H locs hP hS => ?_)
  refine lv_icmp_eq (tgt := 1145) hx hb dL_law_720 (by decide) (fun cz => ?_) (fun cz => absurd rfl cz)
  exact kk H locs σ' τ' hR' (va_P_swap hP) (LD_any hD) hS
set_option maxHeartbeats 4000000 in
set_option maxRecDepth 100000 in
theorem law_13 {p : Program} {l : Launch} {e : Env} {s : State} {m : MethodId} {below : List Frame} {meth : Method} {c : Code} {D : va_G} {ax am : Nat → Nat} {cls : Nat → ClassId} {b L j : Nat} {xs : Nat → Int32} {Q : State → Prop} (hL : L ≤ 448) (hj : 7 * j + 7 ≤ L) (hx : p.tables.exec = Jvm.exec) (hb : c.code = code) (hX : va_X b L xs s s.heap) (hbl : b < s.heap.size) (hbA : ¬ (fun q : Nat => s.heap.size ≤ q) b) (Xx : ∀ τ, CX (Thx D ax am cls s.heap.size τ) p s m #[Value.ref b] c RL cL_law 4) (Xm : ∀ σ, CX (Thm D ax am cls s.heap.size σ) p s m #[Value.ref b] c RL cL_law 4) {σ τ : Mem} (hR : Rel σ τ) {H : Heap} {locs : List Loc} (hP : va_P D vwCl (WXx D ax cls σ ++ WMm D am cls τ) H) (hD : va_D (fun q : Nat => s.heap.size ≤ q) (WXx D ax cls σ ++ WMm D am cls τ)) (hS : va_S (fun q : Nat => s.heap.size ≤ q) s.heap H locs) {ls : Array Slot} (hl : lv_has ls 4 [(0, .ref b), (1, .ref (ax 0)), (2, .ref (am 0)), (3, .int (nI (7 * j)))])
    (kk : ∀ (H1 : Heap) (locs1 : List Loc) (σ1 τ1 : Mem), Rel σ1 τ1 → va_P D vwCl (WXx D ax cls σ1 ++ WMm D am cls τ1) H1 → va_D (fun q : Nat => s.heap.size ≤ q) (WXx D ax cls σ1 ++ WMm D am cls τ1) → va_S (fun q : Nat => s.heap.size ≤ q) s.heap H1 locs1 → W p l e room_1 s m #[Value.ref b] below meth c H1 locs1 91 1268 Q (F0 m 1145 ls [])) : W p l e room_1 s m #[Value.ref b] below meth c H locs 91 1268 Q (F0 m 725 ls []) := by
  refine lv_aload_n hx hb dL_law_725 rfl (lv_at hl 1 rfl) ?_
  refine lv_aload_n hx hb dL_law_726 rfl (lv_at hl 0 rfl) ?_
  refine lv_iload_n hx hb dL_law_727 rfl (lv_at hl 3 rfl) ?_
  refine lv_iconst (v := 1) hx hb dL_law_728 (by decide) ?_
  refine lv_iadd hx hb dL_law_729 ?_
  refine lv_nam (show nI (7 * j + 1) = nI (7 * j) + 1 from ixk j 1) ?_
  refine va_sld hx hb hX hbl hbA hS (sx_in hj (show 1 < 7 by decide) hL) dL_law_730 ?_
  refine lv_aload_n hx hb dL_law_731 rfl (lv_at hl 0 rfl) ?_
  refine lv_iload_n hx hb dL_law_732 rfl (lv_at hl 3 rfl) ?_
  refine lv_iconst (v := 2) hx hb dL_law_733 (by decide) ?_
  refine lv_iadd hx hb dL_law_734 ?_
  refine lv_nam (show nI (7 * j + 2) = nI (7 * j) + 2 from ixk j 2) ?_
  refine va_sld hx hb hX hbl hbA hS (sx_in hj (show 2 < 7 by decide) hL) dL_law_735 ?_
  refine lv_aload_n hx hb dL_law_736 rfl (lv_at hl 0 rfl) ?_
  refine lv_iload_n hx hb dL_law_737 rfl (lv_at hl 3 rfl) ?_
  refine lv_iconst (v := 3) hx hb dL_law_738 (by decide) ?_
  refine lv_iadd hx hb dL_law_739 ?_
  refine lv_nam (show nI (7 * j + 3) = nI (7 * j) + 3 from ixk j 3) ?_
  refine va_sld hx hb hX hbl hbA hS (sx_in hj (show 3 < 7 by decide) hL) dL_law_740 ?_
  refine lv_aload_n hx hb dL_law_741 rfl (lv_at hl 0 rfl) ?_
  refine lv_iload_n hx hb dL_law_742 rfl (lv_at hl 3 rfl) ?_
  refine lv_iconst (v := 4) hx hb dL_law_743 (by decide) ?_
  refine lv_iadd hx hb dL_law_744 ?_
  refine lv_nam (show nI (7 * j + 4) = nI (7 * j) + 4 from ixk j 4) ?_
  refine va_sld hx hb hX hbl hbA hS (sx_in hj (show 4 < 7 by decide) hL) dL_law_745 ?_
  refine lv_aload_n hx hb dL_law_746 rfl (lv_at hl 0 rfl) ?_
  refine lv_iload_n hx hb dL_law_747 rfl (lv_at hl 3 rfl) ?_
  refine lv_iconst (v := 5) hx hb dL_law_748 (by decide) ?_
  refine lv_iadd hx hb dL_law_749 ?_
  refine lv_nam (show nI (7 * j + 5) = nI (7 * j) + 5 from ixk j 5) ?_
  refine va_sld hx hb hX hbl hbA hS (sx_in hj (show 5 < 7 by decide) hL) dL_law_750 ?_
  refine lv_aload_n hx hb dL_law_751 rfl (lv_at hl 0 rfl) ?_
  refine lv_iload_n hx hb dL_law_752 rfl (lv_at hl 3 rfl) ?_
  refine lv_bipush (v := 6) hx hb dL_law_753 (by decide) ?_
  refine lv_iadd hx hb dL_law_755 ?_
  refine lv_nam (show nI (7 * j + 6) = nI (7 * j) + 6 from ixk j 6) ?_
  refine va_sld hx hb hX hbl hbA hS (sx_in hj (show 6 < 7 by decide) hL) dL_law_756 ?_
  obtain ⟨r0, σ', τ', eX0, eM0, hR'⟩ := r_odds (F := 50000) (Nat.le_refl _) (xs (nI (7 * j + 1)).toNatClampNeg) (xs (nI (7 * j + 2)).toNatClampNeg) (xs (nI (7 * j + 3)).toNatClampNeg) (xs (nI (7 * j + 4)).toNatClampNeg) (xs (nI (7 * j + 5)).toNatClampNeg) (xs (nI (7 * j + 6)).toNatClampNeg) σ τ hR
  refine x_calll (x_runV (Xx _) (okx hD) hP hS hl.1 (As := [.int (xs (nI (7 * j + 1)).toNatClampNeg), .int (xs (nI (7 * j + 2)).toNatClampNeg), .int (xs (nI (7 * j + 3)).toNatClampNeg), .int (xs (nI (7 * j + 4)).toNatClampNeg), .int (xs (nI (7 * j + 5)).toNatClampNeg), .int (xs (nI (7 * j + 6)).toNatClampNeg)]) (rest := []) (k_X6_odds (F := 50000) (okx hD) (xs (nI (7 * j + 1)).toNatClampNeg) (xs (nI (7 * j + 2)).toNatClampNeg) (xs (nI (7 * j + 3)).toNatClampNeg) (xs (nI (7 * j + 4)).toNatClampNeg) (xs (nI (7 * j + 5)).toNatClampNeg) (xs (nI (7 * j + 6)).toNatClampNeg) σ eX0) lt_X6 (e_X6 _) rfl wM_L_71 wI_yX6_odds wS_yX6_odds wN_X6 wC_yX6_odds hd_X6_odds rfl ⟨rfl, rfl⟩ ⟨(by decide), (by decide)⟩ ⟨by decide, by decide⟩ rfl (Nat.le_of_ble_eq_true rfl) dL_law_757) hS (fun H locs hP hS => ?_)
  have hD := LD_any (σ' := σ') (τ' := τ) hD
  replace hP : va_P D vwCl (WXx D ax cls σ' ++ WMm D am cls τ) H := hP
  refine lv_aload_n hx hb dL_law_760 rfl (lv_at hl 2 rfl) ?_
  refine lv_aload_n hx hb dL_law_761 rfl (lv_at hl 0 rfl) ?_
  refine lv_iload_n hx hb dL_law_762 rfl (lv_at hl 3 rfl) ?_
  refine lv_iconst (v := 1) hx hb dL_law_763 (by decide) ?_
  refine lv_iadd hx hb dL_law_764 ?_
  refine lv_nam (show nI (7 * j + 1) = nI (7 * j) + 1 from ixk j 1) ?_
  refine va_sld hx hb hX hbl hbA hS (sx_in hj (show 1 < 7 by decide) hL) dL_law_765 ?_
  refine lv_aload_n hx hb dL_law_766 rfl (lv_at hl 0 rfl) ?_
  refine lv_iload_n hx hb dL_law_767 rfl (lv_at hl 3 rfl) ?_
  refine lv_iconst (v := 2) hx hb dL_law_768 (by decide) ?_
  refine lv_iadd hx hb dL_law_769 ?_
  refine lv_nam (show nI (7 * j + 2) = nI (7 * j) + 2 from ixk j 2) ?_
  refine va_sld hx hb hX hbl hbA hS (sx_in hj (show 2 < 7 by decide) hL) dL_law_770 ?_
  refine lv_aload_n hx hb dL_law_771 rfl (lv_at hl 0 rfl) ?_
  refine lv_iload_n hx hb dL_law_772 rfl (lv_at hl 3 rfl) ?_
  refine lv_iconst (v := 3) hx hb dL_law_773 (by decide) ?_
  refine lv_iadd hx hb dL_law_774 ?_
  refine lv_nam (show nI (7 * j + 3) = nI (7 * j) + 3 from ixk j 3) ?_
  refine va_sld hx hb hX hbl hbA hS (sx_in hj (show 3 < 7 by decide) hL) dL_law_775 ?_
  refine lv_aload_n hx hb dL_law_776 rfl (lv_at hl 0 rfl) ?_
  refine lv_iload_n hx hb dL_law_777 rfl (lv_at hl 3 rfl) ?_
  refine lv_iconst (v := 4) hx hb dL_law_778 (by decide) ?_
  refine lv_iadd hx hb dL_law_779 ?_
  refine lv_nam (show nI (7 * j + 4) = nI (7 * j) + 4 from ixk j 4) ?_
  refine va_sld hx hb hX hbl hbA hS (sx_in hj (show 4 < 7 by decide) hL) dL_law_780 ?_
  refine lv_aload_n hx hb dL_law_781 rfl (lv_at hl 0 rfl) ?_
  refine lv_iload_n hx hb dL_law_782 rfl (lv_at hl 3 rfl) ?_
  refine lv_iconst (v := 5) hx hb dL_law_783 (by decide) ?_
  refine lv_iadd hx hb dL_law_784 ?_
  refine lv_nam (show nI (7 * j + 5) = nI (7 * j) + 5 from ixk j 5) ?_
  refine va_sld hx hb hX hbl hbA hS (sx_in hj (show 5 < 7 by decide) hL) dL_law_785 ?_
  refine lv_aload_n hx hb dL_law_786 rfl (lv_at hl 0 rfl) ?_
  refine lv_iload_n hx hb dL_law_787 rfl (lv_at hl 3 rfl) ?_
  refine lv_bipush (v := 6) hx hb dL_law_788 (by decide) ?_
  refine lv_iadd hx hb dL_law_790 ?_
  refine lv_nam (show nI (7 * j + 6) = nI (7 * j) + 6 from ixk j 6) ?_
  refine va_sld hx hb hX hbl hbA hS (sx_in hj (show 6 < 7 by decide) hL) dL_law_791 ?_
  refine x_calll (x_runV (Xm _) (okm hD) (va_P_swap hP) hS hl.1 (As := [.int (xs (nI (7 * j + 1)).toNatClampNeg), .int (xs (nI (7 * j + 2)).toNatClampNeg), .int (xs (nI (7 * j + 3)).toNatClampNeg), .int (xs (nI (7 * j + 4)).toNatClampNeg), .int (xs (nI (7 * j + 5)).toNatClampNeg), .int (xs (nI (7 * j + 6)).toNatClampNeg)]) (rest := [.long r0]) (k_X7_odds (F := 50000) (okm hD) (xs (nI (7 * j + 1)).toNatClampNeg) (xs (nI (7 * j + 2)).toNatClampNeg) (xs (nI (7 * j + 3)).toNatClampNeg) (xs (nI (7 * j + 4)).toNatClampNeg) (xs (nI (7 * j + 5)).toNatClampNeg) (xs (nI (7 * j + 6)).toNatClampNeg) τ eM0) lt_X7 (e_X7 _) rfl wM_L_75 wI_yX7_odds wS_yX7_odds wN_X7 wC_yX7_odds hd_X7_odds rfl ⟨rfl, rfl⟩ ⟨(by decide), (by decide)⟩ ⟨by decide, by decide⟩ rfl (Nat.le_of_ble_eq_true rfl) dL_law_792) hS (fun H locs hP hS => ?_)
  refine W.lcmp hx hb dL_law_795 ?_
  refine lv_if_eq (tgt := 1145) hx hb dL_law_796 (by decide) (fun cz => ?_) (fun cz => absurd (lgc_self _) cz)
  exact kk H locs σ' τ' hR' (va_P_swap hP) (LD_any hD) hS
set_option maxHeartbeats 4000000 in
set_option maxRecDepth 100000 in
theorem law_14 {p : Program} {l : Launch} {e : Env} {s : State} {m : MethodId} {below : List Frame} {meth : Method} {c : Code} {D : va_G} {ax am : Nat → Nat} {cls : Nat → ClassId} {b L j : Nat} {xs : Nat → Int32} {Q : State → Prop} (hL : L ≤ 448) (hj : 7 * j + 7 ≤ L) (hx : p.tables.exec = Jvm.exec) (hb : c.code = code) (hX : va_X b L xs s s.heap) (hbl : b < s.heap.size) (hbA : ¬ (fun q : Nat => s.heap.size ≤ q) b) (Xx : ∀ τ, CX (Thx D ax am cls s.heap.size τ) p s m #[Value.ref b] c RL cL_law 4) (Xm : ∀ σ, CX (Thm D ax am cls s.heap.size σ) p s m #[Value.ref b] c RL cL_law 4) {σ τ : Mem} (hR : Rel σ τ) {H : Heap} {locs : List Loc} (hP : va_P D vwCl (WXx D ax cls σ ++ WMm D am cls τ) H) (hD : va_D (fun q : Nat => s.heap.size ≤ q) (WXx D ax cls σ ++ WMm D am cls τ)) (hS : va_S (fun q : Nat => s.heap.size ≤ q) s.heap H locs) {ls : Array Slot} (hl : lv_has ls 4 [(0, .ref b), (1, .ref (ax 0)), (2, .ref (am 0)), (3, .int (nI (7 * j)))])
    (kk : ∀ (H1 : Heap) (locs1 : List Loc) (σ1 τ1 : Mem), Rel σ1 τ1 → va_P D vwCl (WXx D ax cls σ1 ++ WMm D am cls τ1) H1 → va_D (fun q : Nat => s.heap.size ≤ q) (WXx D ax cls σ1 ++ WMm D am cls τ1) → va_S (fun q : Nat => s.heap.size ≤ q) s.heap H1 locs1 → W p l e room_1 s m #[Value.ref b] below meth c H1 locs1 91 1268 Q (F0 m 1145 ls [])) : W p l e room_1 s m #[Value.ref b] below meth c H locs 91 1268 Q (F0 m 801 ls []) := by
  refine lv_aload_n hx hb dL_law_801 rfl (lv_at hl 1 rfl) ?_
  refine lv_aload_n hx hb dL_law_802 rfl (lv_at hl 0 rfl) ?_
  refine lv_iload_n hx hb dL_law_803 rfl (lv_at hl 3 rfl) ?_
  refine lv_iconst (v := 1) hx hb dL_law_804 (by decide) ?_
  refine lv_iadd hx hb dL_law_805 ?_
  refine lv_nam (show nI (7 * j + 1) = nI (7 * j) + 1 from ixk j 1) ?_
  refine va_sld hx hb hX hbl hbA hS (sx_in hj (show 1 < 7 by decide) hL) dL_law_806 ?_
  refine lv_aload_n hx hb dL_law_807 rfl (lv_at hl 0 rfl) ?_
  refine lv_iload_n hx hb dL_law_808 rfl (lv_at hl 3 rfl) ?_
  refine lv_iconst (v := 2) hx hb dL_law_809 (by decide) ?_
  refine lv_iadd hx hb dL_law_810 ?_
  refine lv_nam (show nI (7 * j + 2) = nI (7 * j) + 2 from ixk j 2) ?_
  refine va_sld hx hb hX hbl hbA hS (sx_in hj (show 2 < 7 by decide) hL) dL_law_811 ?_
  refine lv_aload_n hx hb dL_law_812 rfl (lv_at hl 0 rfl) ?_
  refine lv_iload_n hx hb dL_law_813 rfl (lv_at hl 3 rfl) ?_
  refine lv_iconst (v := 3) hx hb dL_law_814 (by decide) ?_
  refine lv_iadd hx hb dL_law_815 ?_
  refine lv_nam (show nI (7 * j + 3) = nI (7 * j) + 3 from ixk j 3) ?_
  refine va_sld hx hb hX hbl hbA hS (sx_in hj (show 3 < 7 by decide) hL) dL_law_816 ?_
  obtain ⟨r0, σ', τ', eX0, eM0, hR'⟩ := r_sheet (F := 50000) (Nat.le_refl _) (xs (nI (7 * j + 1)).toNatClampNeg) (xs (nI (7 * j + 2)).toNatClampNeg) (xs (nI (7 * j + 3)).toNatClampNeg) σ τ hR
  refine x_calli (x_runV (Xx _) (okx hD) hP hS hl.1 (As := [.int (xs (nI (7 * j + 1)).toNatClampNeg), .int (xs (nI (7 * j + 2)).toNatClampNeg), .int (xs (nI (7 * j + 3)).toNatClampNeg)]) (rest := []) (k_X6_sheet (F := 50000) (okx hD) (xs (nI (7 * j + 1)).toNatClampNeg) (xs (nI (7 * j + 2)).toNatClampNeg) (xs (nI (7 * j + 3)).toNatClampNeg) σ eX0) lt_X6 (e_X6 _) rfl wM_L_76 wI_yX6_sheet wS_yX6_sheet wN_X6 wC_yX6_sheet hd_X6_sheet rfl ⟨rfl, rfl⟩ ⟨(by decide), (by decide)⟩ ⟨by decide, by decide⟩ rfl (Nat.le_of_ble_eq_true rfl) dL_law_817) hS (fun H locs hP hS => ?_)
  have hD := LD_any (σ' := σ') (τ' := τ) hD
  replace hP : va_P D vwCl (WXx D ax cls σ' ++ WMm D am cls τ) H := hP
  refine lv_aload_n hx hb dL_law_820 rfl (lv_at hl 2 rfl) ?_
  refine lv_aload_n hx hb dL_law_821 rfl (lv_at hl 0 rfl) ?_
  refine lv_iload_n hx hb dL_law_822 rfl (lv_at hl 3 rfl) ?_
  refine lv_iconst (v := 1) hx hb dL_law_823 (by decide) ?_
  refine lv_iadd hx hb dL_law_824 ?_
  refine lv_nam (show nI (7 * j + 1) = nI (7 * j) + 1 from ixk j 1) ?_
  refine va_sld hx hb hX hbl hbA hS (sx_in hj (show 1 < 7 by decide) hL) dL_law_825 ?_
  refine lv_aload_n hx hb dL_law_826 rfl (lv_at hl 0 rfl) ?_
  refine lv_iload_n hx hb dL_law_827 rfl (lv_at hl 3 rfl) ?_
  refine lv_iconst (v := 2) hx hb dL_law_828 (by decide) ?_
  refine lv_iadd hx hb dL_law_829 ?_
  refine lv_nam (show nI (7 * j + 2) = nI (7 * j) + 2 from ixk j 2) ?_
  refine va_sld hx hb hX hbl hbA hS (sx_in hj (show 2 < 7 by decide) hL) dL_law_830 ?_
  refine lv_aload_n hx hb dL_law_831 rfl (lv_at hl 0 rfl) ?_
  refine lv_iload_n hx hb dL_law_832 rfl (lv_at hl 3 rfl) ?_
  refine lv_iconst (v := 3) hx hb dL_law_833 (by decide) ?_
  refine lv_iadd hx hb dL_law_834 ?_
  refine lv_nam (show nI (7 * j + 3) = nI (7 * j) + 3 from ixk j 3) ?_
  refine va_sld hx hb hX hbl hbA hS (sx_in hj (show 3 < 7 by decide) hL) dL_law_835 ?_
  refine x_calli (x_runV (Xm _) (okm hD) (va_P_swap hP) hS hl.1 (As := [.int (xs (nI (7 * j + 1)).toNatClampNeg), .int (xs (nI (7 * j + 2)).toNatClampNeg), .int (xs (nI (7 * j + 3)).toNatClampNeg)]) (rest := [.int r0]) (k_X7_sheet (F := 50000) (okm hD) (xs (nI (7 * j + 1)).toNatClampNeg) (xs (nI (7 * j + 2)).toNatClampNeg) (xs (nI (7 * j + 3)).toNatClampNeg) τ eM0) lt_X7 (e_X7 _) rfl wM_L_80 wI_yX7_sheet wS_yX7_sheet wN_X7 wC_yX7_sheet hd_X7_sheet rfl ⟨rfl, rfl⟩ ⟨(by decide), (by decide)⟩ ⟨by decide, by decide⟩ rfl (Nat.le_of_ble_eq_true rfl) dL_law_836) hS (fun H locs hP hS => ?_)
  refine lv_icmp_eq (tgt := 1145) hx hb dL_law_839 (by decide) (fun cz => ?_) (fun cz => absurd rfl cz)
  exact kk H locs σ' τ' hR' (va_P_swap hP) (LD_any hD) hS
set_option maxHeartbeats 4000000 in
set_option maxRecDepth 100000 in
theorem law_15 {p : Program} {l : Launch} {e : Env} {s : State} {m : MethodId} {below : List Frame} {meth : Method} {c : Code} {D : va_G} {ax am : Nat → Nat} {cls : Nat → ClassId} {b L j : Nat} {xs : Nat → Int32} {Q : State → Prop} (hL : L ≤ 448) (hj : 7 * j + 7 ≤ L) (hx : p.tables.exec = Jvm.exec) (hb : c.code = code) (hX : va_X b L xs s s.heap) (hbl : b < s.heap.size) (hbA : ¬ (fun q : Nat => s.heap.size ≤ q) b) (Xx : ∀ τ, CX (Thx D ax am cls s.heap.size τ) p s m #[Value.ref b] c RL cL_law 4) (Xm : ∀ σ, CX (Thm D ax am cls s.heap.size σ) p s m #[Value.ref b] c RL cL_law 4) {σ τ : Mem} (hR : Rel σ τ) {H : Heap} {locs : List Loc} (hP : va_P D vwCl (WXx D ax cls σ ++ WMm D am cls τ) H) (hD : va_D (fun q : Nat => s.heap.size ≤ q) (WXx D ax cls σ ++ WMm D am cls τ)) (hS : va_S (fun q : Nat => s.heap.size ≤ q) s.heap H locs) {ls : Array Slot} (hl : lv_has ls 4 [(0, .ref b), (1, .ref (ax 0)), (2, .ref (am 0)), (3, .int (nI (7 * j)))])
    (kk : ∀ (H1 : Heap) (locs1 : List Loc) (σ1 τ1 : Mem), Rel σ1 τ1 → va_P D vwCl (WXx D ax cls σ1 ++ WMm D am cls τ1) H1 → va_D (fun q : Nat => s.heap.size ≤ q) (WXx D ax cls σ1 ++ WMm D am cls τ1) → va_S (fun q : Nat => s.heap.size ≤ q) s.heap H1 locs1 → W p l e room_1 s m #[Value.ref b] below meth c H1 locs1 91 1268 Q (F0 m 1145 ls [])) : W p l e room_1 s m #[Value.ref b] below meth c H locs 91 1268 Q (F0 m 844 ls []) := by
  refine lv_aload_n hx hb dL_law_844 rfl (lv_at hl 1 rfl) ?_
  refine lv_aload_n hx hb dL_law_845 rfl (lv_at hl 0 rfl) ?_
  refine lv_iload_n hx hb dL_law_846 rfl (lv_at hl 3 rfl) ?_
  refine lv_iconst (v := 1) hx hb dL_law_847 (by decide) ?_
  refine lv_iadd hx hb dL_law_848 ?_
  refine lv_nam (show nI (7 * j + 1) = nI (7 * j) + 1 from ixk j 1) ?_
  refine va_sld hx hb hX hbl hbA hS (sx_in hj (show 1 < 7 by decide) hL) dL_law_849 ?_
  obtain ⟨r0, σ', τ', eX0, eM0, hR'⟩ := r_lose (xs (nI (7 * j + 1)).toNatClampNeg) σ τ hR
  refine x_calli (x_runV (Xx _) (okx hD) hP hS hl.1 (As := [.int (xs (nI (7 * j + 1)).toNatClampNeg)]) (rest := []) (k_X6_lose (okx hD) (xs (nI (7 * j + 1)).toNatClampNeg) σ eX0) lt_X6 (e_X6 _) rfl wM_L_81 wI_yX6_lose wS_yX6_lose wN_X6 wC_yX6_lose hd_X6_lose rfl ⟨rfl, rfl⟩ ⟨(by decide), (by decide)⟩ ⟨by decide, by decide⟩ rfl (Nat.le_of_ble_eq_true rfl) dL_law_850) hS (fun H locs hP hS => ?_)
  have hD := LD_any (σ' := σ') (τ' := τ) hD
  replace hP : va_P D vwCl (WXx D ax cls σ' ++ WMm D am cls τ) H := hP
  refine lv_aload_n hx hb dL_law_853 rfl (lv_at hl 2 rfl) ?_
  refine lv_aload_n hx hb dL_law_854 rfl (lv_at hl 0 rfl) ?_
  refine lv_iload_n hx hb dL_law_855 rfl (lv_at hl 3 rfl) ?_
  refine lv_iconst (v := 1) hx hb dL_law_856 (by decide) ?_
  refine lv_iadd hx hb dL_law_857 ?_
  refine lv_nam (show nI (7 * j + 1) = nI (7 * j) + 1 from ixk j 1) ?_
  refine va_sld hx hb hX hbl hbA hS (sx_in hj (show 1 < 7 by decide) hL) dL_law_858 ?_
  refine x_calli (x_runV (Xm _) (okm hD) (va_P_swap hP) hS hl.1 (As := [.int (xs (nI (7 * j + 1)).toNatClampNeg)]) (rest := [.int r0]) (k_X7_lose (okm hD) (xs (nI (7 * j + 1)).toNatClampNeg) τ eM0) lt_X7 (e_X7 _) rfl wM_L_84 wI_yX7_lose wS_yX7_lose wN_X7 wC_yX7_lose hd_X7_lose rfl ⟨rfl, rfl⟩ ⟨(by decide), (by decide)⟩ ⟨by decide, by decide⟩ rfl (Nat.le_of_ble_eq_true rfl) dL_law_859) hS (fun H locs hP hS => ?_)
  refine lv_icmp_eq (tgt := 1145) hx hb dL_law_862 (by decide) (fun cz => ?_) (fun cz => absurd rfl cz)
  exact kk H locs σ' τ' hR' (va_P_swap hP) (LD_any hD) hS
set_option maxHeartbeats 4000000 in
set_option maxRecDepth 100000 in
theorem law_16 {p : Program} {l : Launch} {e : Env} {s : State} {m : MethodId} {below : List Frame} {meth : Method} {c : Code} {D : va_G} {ax am : Nat → Nat} {cls : Nat → ClassId} {b L j : Nat} {xs : Nat → Int32} {Q : State → Prop} (hL : L ≤ 448) (hj : 7 * j + 7 ≤ L) (hx : p.tables.exec = Jvm.exec) (hb : c.code = code) (hX : va_X b L xs s s.heap) (hbl : b < s.heap.size) (hbA : ¬ (fun q : Nat => s.heap.size ≤ q) b) (Xx : ∀ τ, CX (Thx D ax am cls s.heap.size τ) p s m #[Value.ref b] c RL cL_law 4) (Xm : ∀ σ, CX (Thm D ax am cls s.heap.size σ) p s m #[Value.ref b] c RL cL_law 4) {σ τ : Mem} (hR : Rel σ τ) {H : Heap} {locs : List Loc} (hP : va_P D vwCl (WXx D ax cls σ ++ WMm D am cls τ) H) (hD : va_D (fun q : Nat => s.heap.size ≤ q) (WXx D ax cls σ ++ WMm D am cls τ)) (hS : va_S (fun q : Nat => s.heap.size ≤ q) s.heap H locs) {ls : Array Slot} (hl : lv_has ls 4 [(0, .ref b), (1, .ref (ax 0)), (2, .ref (am 0)), (3, .int (nI (7 * j)))])
    (kk : ∀ (H1 : Heap) (locs1 : List Loc) (σ1 τ1 : Mem), Rel σ1 τ1 → va_P D vwCl (WXx D ax cls σ1 ++ WMm D am cls τ1) H1 → va_D (fun q : Nat => s.heap.size ≤ q) (WXx D ax cls σ1 ++ WMm D am cls τ1) → va_S (fun q : Nat => s.heap.size ≤ q) s.heap H1 locs1 → W p l e room_1 s m #[Value.ref b] below meth c H1 locs1 91 1268 Q (F0 m 1145 ls [])) : W p l e room_1 s m #[Value.ref b] below meth c H locs 91 1268 Q (F0 m 867 ls []) := by
  refine lv_aload_n hx hb dL_law_867 rfl (lv_at hl 1 rfl) ?_
  refine lv_aload_n hx hb dL_law_868 rfl (lv_at hl 0 rfl) ?_
  refine lv_iload_n hx hb dL_law_869 rfl (lv_at hl 3 rfl) ?_
  refine lv_iconst (v := 1) hx hb dL_law_870 (by decide) ?_
  refine lv_iadd hx hb dL_law_871 ?_
  refine lv_nam (show nI (7 * j + 1) = nI (7 * j) + 1 from ixk j 1) ?_
  refine va_sld hx hb hX hbl hbA hS (sx_in hj (show 1 < 7 by decide) hL) dL_law_872 ?_
  refine lv_aload_n hx hb dL_law_873 rfl (lv_at hl 0 rfl) ?_
  refine lv_iload_n hx hb dL_law_874 rfl (lv_at hl 3 rfl) ?_
  refine lv_iconst (v := 2) hx hb dL_law_875 (by decide) ?_
  refine lv_iadd hx hb dL_law_876 ?_
  refine lv_nam (show nI (7 * j + 2) = nI (7 * j) + 2 from ixk j 2) ?_
  refine va_sld hx hb hX hbl hbA hS (sx_in hj (show 2 < 7 by decide) hL) dL_law_877 ?_
  refine lv_aload_n hx hb dL_law_878 rfl (lv_at hl 0 rfl) ?_
  refine lv_iload_n hx hb dL_law_879 rfl (lv_at hl 3 rfl) ?_
  refine lv_iconst (v := 3) hx hb dL_law_880 (by decide) ?_
  refine lv_iadd hx hb dL_law_881 ?_
  refine lv_nam (show nI (7 * j + 3) = nI (7 * j) + 3 from ixk j 3) ?_
  refine va_sld hx hb hX hbl hbA hS (sx_in hj (show 3 < 7 by decide) hL) dL_law_882 ?_
  obtain ⟨r0, σ', τ', eX0, eM0, hR'⟩ := r_put (xs (nI (7 * j + 1)).toNatClampNeg) (xs (nI (7 * j + 2)).toNatClampNeg) (xs (nI (7 * j + 3)).toNatClampNeg) σ τ hR
  refine x_calli (x_runV (Xx _) (okx hD) hP hS hl.1 (As := [.int (xs (nI (7 * j + 1)).toNatClampNeg), .int (xs (nI (7 * j + 2)).toNatClampNeg), .int (xs (nI (7 * j + 3)).toNatClampNeg)]) (rest := []) (k_X6_put (okx hD) (xs (nI (7 * j + 1)).toNatClampNeg) (xs (nI (7 * j + 2)).toNatClampNeg) (xs (nI (7 * j + 3)).toNatClampNeg) σ eX0) lt_X6 (e_X6 _) rfl wM_L_85 wI_yX6_put wS_yX6_put wN_X6 wC_yX6_put hd_X6_put rfl ⟨rfl, rfl⟩ ⟨(by decide), (by decide)⟩ ⟨by decide, by decide⟩ rfl (Nat.le_of_ble_eq_true rfl) dL_law_883) hS (fun H locs hP hS => ?_)
  have hD := LD_any (σ' := σ') (τ' := τ) hD
  replace hP : va_P D vwCl (WXx D ax cls σ' ++ WMm D am cls τ) H := hP
  refine lv_aload_n hx hb dL_law_886 rfl (lv_at hl 2 rfl) ?_
  refine lv_aload_n hx hb dL_law_887 rfl (lv_at hl 0 rfl) ?_
  refine lv_iload_n hx hb dL_law_888 rfl (lv_at hl 3 rfl) ?_
  refine lv_iconst (v := 1) hx hb dL_law_889 (by decide) ?_
  refine lv_iadd hx hb dL_law_890 ?_
  refine lv_nam (show nI (7 * j + 1) = nI (7 * j) + 1 from ixk j 1) ?_
  refine va_sld hx hb hX hbl hbA hS (sx_in hj (show 1 < 7 by decide) hL) dL_law_891 ?_
  refine lv_aload_n hx hb dL_law_892 rfl (lv_at hl 0 rfl) ?_
  refine lv_iload_n hx hb dL_law_893 rfl (lv_at hl 3 rfl) ?_
  refine lv_iconst (v := 2) hx hb dL_law_894 (by decide) ?_
  refine lv_iadd hx hb dL_law_895 ?_
  refine lv_nam (show nI (7 * j + 2) = nI (7 * j) + 2 from ixk j 2) ?_
  refine va_sld hx hb hX hbl hbA hS (sx_in hj (show 2 < 7 by decide) hL) dL_law_896 ?_
  refine lv_aload_n hx hb dL_law_897 rfl (lv_at hl 0 rfl) ?_
  refine lv_iload_n hx hb dL_law_898 rfl (lv_at hl 3 rfl) ?_
  refine lv_iconst (v := 3) hx hb dL_law_899 (by decide) ?_
  refine lv_iadd hx hb dL_law_900 ?_
  refine lv_nam (show nI (7 * j + 3) = nI (7 * j) + 3 from ixk j 3) ?_
  refine va_sld hx hb hX hbl hbA hS (sx_in hj (show 3 < 7 by decide) hL) dL_law_901 ?_
  refine x_calli (x_runV (Xm _) (okm hD) (va_P_swap hP) hS hl.1 (As := [.int (xs (nI (7 * j + 1)).toNatClampNeg), .int (xs (nI (7 * j + 2)).toNatClampNeg), .int (xs (nI (7 * j + 3)).toNatClampNeg)]) (rest := [.int r0]) (k_X7_put (okm hD) (xs (nI (7 * j + 1)).toNatClampNeg) (xs (nI (7 * j + 2)).toNatClampNeg) (xs (nI (7 * j + 3)).toNatClampNeg) τ eM0) lt_X7 (e_X7 _) rfl wM_L_88 wI_yX7_put wS_yX7_put wN_X7 wC_yX7_put hd_X7_put rfl ⟨rfl, rfl⟩ ⟨(by decide), (by decide)⟩ ⟨by decide, by decide⟩ rfl (Nat.le_of_ble_eq_true rfl) dL_law_902) hS (fun H locs hP hS => ?_)
  refine lv_icmp_eq (tgt := 1145) hx hb dL_law_905 (by decide) (fun cz => ?_) (fun cz => absurd rfl cz)
  exact kk H locs σ' τ' hR' (va_P_swap hP) (LD_any hD) hS
set_option maxHeartbeats 4000000 in
set_option maxRecDepth 100000 in
theorem law_17 {p : Program} {l : Launch} {e : Env} {s : State} {m : MethodId} {below : List Frame} {meth : Method} {c : Code} {D : va_G} {ax am : Nat → Nat} {cls : Nat → ClassId} {b L j : Nat} {xs : Nat → Int32} {Q : State → Prop} (hL : L ≤ 448) (hj : 7 * j + 7 ≤ L) (hx : p.tables.exec = Jvm.exec) (hb : c.code = code) (hX : va_X b L xs s s.heap) (hbl : b < s.heap.size) (hbA : ¬ (fun q : Nat => s.heap.size ≤ q) b) (Xx : ∀ τ, CX (Thx D ax am cls s.heap.size τ) p s m #[Value.ref b] c RL cL_law 4) (Xm : ∀ σ, CX (Thm D ax am cls s.heap.size σ) p s m #[Value.ref b] c RL cL_law 4) {σ τ : Mem} (hR : Rel σ τ) {H : Heap} {locs : List Loc} (hP : va_P D vwCl (WXx D ax cls σ ++ WMm D am cls τ) H) (hD : va_D (fun q : Nat => s.heap.size ≤ q) (WXx D ax cls σ ++ WMm D am cls τ)) (hS : va_S (fun q : Nat => s.heap.size ≤ q) s.heap H locs) {ls : Array Slot} (hl : lv_has ls 4 [(0, .ref b), (1, .ref (ax 0)), (2, .ref (am 0)), (3, .int (nI (7 * j)))])
    (kk : ∀ (H1 : Heap) (locs1 : List Loc) (σ1 τ1 : Mem), Rel σ1 τ1 → va_P D vwCl (WXx D ax cls σ1 ++ WMm D am cls τ1) H1 → va_D (fun q : Nat => s.heap.size ≤ q) (WXx D ax cls σ1 ++ WMm D am cls τ1) → va_S (fun q : Nat => s.heap.size ≤ q) s.heap H1 locs1 → W p l e room_1 s m #[Value.ref b] below meth c H1 locs1 91 1268 Q (F0 m 1145 ls [])) : W p l e room_1 s m #[Value.ref b] below meth c H locs 91 1268 Q (F0 m 910 ls []) := by
  refine lv_aload_n hx hb dL_law_910 rfl (lv_at hl 1 rfl) ?_
  refine lv_aload_n hx hb dL_law_911 rfl (lv_at hl 0 rfl) ?_
  refine lv_iload_n hx hb dL_law_912 rfl (lv_at hl 3 rfl) ?_
  refine lv_iconst (v := 1) hx hb dL_law_913 (by decide) ?_
  refine lv_iadd hx hb dL_law_914 ?_
  refine lv_nam (show nI (7 * j + 1) = nI (7 * j) + 1 from ixk j 1) ?_
  refine va_sld hx hb hX hbl hbA hS (sx_in hj (show 1 < 7 by decide) hL) dL_law_915 ?_
  refine lv_aload_n hx hb dL_law_916 rfl (lv_at hl 0 rfl) ?_
  refine lv_iload_n hx hb dL_law_917 rfl (lv_at hl 3 rfl) ?_
  refine lv_iconst (v := 2) hx hb dL_law_918 (by decide) ?_
  refine lv_iadd hx hb dL_law_919 ?_
  refine lv_nam (show nI (7 * j + 2) = nI (7 * j) + 2 from ixk j 2) ?_
  refine va_sld hx hb hX hbl hbA hS (sx_in hj (show 2 < 7 by decide) hL) dL_law_920 ?_
  refine lv_aload_n hx hb dL_law_921 rfl (lv_at hl 0 rfl) ?_
  refine lv_iload_n hx hb dL_law_922 rfl (lv_at hl 3 rfl) ?_
  refine lv_iconst (v := 3) hx hb dL_law_923 (by decide) ?_
  refine lv_iadd hx hb dL_law_924 ?_
  refine lv_nam (show nI (7 * j + 3) = nI (7 * j) + 3 from ixk j 3) ?_
  refine va_sld hx hb hX hbl hbA hS (sx_in hj (show 3 < 7 by decide) hL) dL_law_925 ?_
  obtain ⟨r0, σ', τ', eX0, eM0, hR'⟩ := r_cell (xs (nI (7 * j + 1)).toNatClampNeg) (xs (nI (7 * j + 2)).toNatClampNeg) (xs (nI (7 * j + 3)).toNatClampNeg) σ τ hR
  refine x_calll (x_runV (Xx _) (okx hD) hP hS hl.1 (As := [.int (xs (nI (7 * j + 1)).toNatClampNeg), .int (xs (nI (7 * j + 2)).toNatClampNeg), .int (xs (nI (7 * j + 3)).toNatClampNeg)]) (rest := []) (k_X6_cell (okx hD) (xs (nI (7 * j + 1)).toNatClampNeg) (xs (nI (7 * j + 2)).toNatClampNeg) (xs (nI (7 * j + 3)).toNatClampNeg) σ eX0) lt_X6 (e_X6 _) rfl wM_L_89 wI_yX6_cell wS_yX6_cell wN_X6 wC_yX6_cell hd_X6_cell rfl ⟨rfl, rfl⟩ ⟨(by decide), (by decide)⟩ ⟨by decide, by decide⟩ rfl (Nat.le_of_ble_eq_true rfl) dL_law_926) hS (fun H locs hP hS => ?_)
  have hD := LD_any (σ' := σ') (τ' := τ) hD
  replace hP : va_P D vwCl (WXx D ax cls σ' ++ WMm D am cls τ) H := hP
  refine lv_aload_n hx hb dL_law_929 rfl (lv_at hl 2 rfl) ?_
  refine lv_aload_n hx hb dL_law_930 rfl (lv_at hl 0 rfl) ?_
  refine lv_iload_n hx hb dL_law_931 rfl (lv_at hl 3 rfl) ?_
  refine lv_iconst (v := 1) hx hb dL_law_932 (by decide) ?_
  refine lv_iadd hx hb dL_law_933 ?_
  refine lv_nam (show nI (7 * j + 1) = nI (7 * j) + 1 from ixk j 1) ?_
  refine va_sld hx hb hX hbl hbA hS (sx_in hj (show 1 < 7 by decide) hL) dL_law_934 ?_
  refine lv_aload_n hx hb dL_law_935 rfl (lv_at hl 0 rfl) ?_
  refine lv_iload_n hx hb dL_law_936 rfl (lv_at hl 3 rfl) ?_
  refine lv_iconst (v := 2) hx hb dL_law_937 (by decide) ?_
  refine lv_iadd hx hb dL_law_938 ?_
  refine lv_nam (show nI (7 * j + 2) = nI (7 * j) + 2 from ixk j 2) ?_
  refine va_sld hx hb hX hbl hbA hS (sx_in hj (show 2 < 7 by decide) hL) dL_law_939 ?_
  refine lv_aload_n hx hb dL_law_940 rfl (lv_at hl 0 rfl) ?_
  refine lv_iload_n hx hb dL_law_941 rfl (lv_at hl 3 rfl) ?_
  refine lv_iconst (v := 3) hx hb dL_law_942 (by decide) ?_
  refine lv_iadd hx hb dL_law_943 ?_
  refine lv_nam (show nI (7 * j + 3) = nI (7 * j) + 3 from ixk j 3) ?_
  refine va_sld hx hb hX hbl hbA hS (sx_in hj (show 3 < 7 by decide) hL) dL_law_944 ?_
  refine x_calll (x_runV (Xm _) (okm hD) (va_P_swap hP) hS hl.1 (As := [.int (xs (nI (7 * j + 1)).toNatClampNeg), .int (xs (nI (7 * j + 2)).toNatClampNeg), .int (xs (nI (7 * j + 3)).toNatClampNeg)]) (rest := [.long r0]) (k_X7_cell (okm hD) (xs (nI (7 * j + 1)).toNatClampNeg) (xs (nI (7 * j + 2)).toNatClampNeg) (xs (nI (7 * j + 3)).toNatClampNeg) τ eM0) lt_X7 (e_X7 _) rfl wM_L_93 wI_yX7_cell wS_yX7_cell wN_X7 wC_yX7_cell hd_X7_cell rfl ⟨rfl, rfl⟩ ⟨(by decide), (by decide)⟩ ⟨by decide, by decide⟩ rfl (Nat.le_of_ble_eq_true rfl) dL_law_945) hS (fun H locs hP hS => ?_)
  refine W.lcmp hx hb dL_law_948 ?_
  refine lv_if_eq (tgt := 1145) hx hb dL_law_949 (by decide) (fun cz => ?_) (fun cz => absurd (lgc_self _) cz)
  exact kk H locs σ' τ' hR' (va_P_swap hP) (LD_any hD) hS
set_option maxHeartbeats 4000000 in
set_option maxRecDepth 100000 in
theorem law_18 {p : Program} {l : Launch} {e : Env} {s : State} {m : MethodId} {below : List Frame} {meth : Method} {c : Code} {D : va_G} {ax am : Nat → Nat} {cls : Nat → ClassId} {b L j : Nat} {xs : Nat → Int32} {Q : State → Prop} (hL : L ≤ 448) (hj : 7 * j + 7 ≤ L) (hx : p.tables.exec = Jvm.exec) (hb : c.code = code) (hX : va_X b L xs s s.heap) (hbl : b < s.heap.size) (hbA : ¬ (fun q : Nat => s.heap.size ≤ q) b) (Xx : ∀ τ, CX (Thx D ax am cls s.heap.size τ) p s m #[Value.ref b] c RL cL_law 4) (Xm : ∀ σ, CX (Thm D ax am cls s.heap.size σ) p s m #[Value.ref b] c RL cL_law 4) {σ τ : Mem} (hR : Rel σ τ) {H : Heap} {locs : List Loc} (hP : va_P D vwCl (WXx D ax cls σ ++ WMm D am cls τ) H) (hD : va_D (fun q : Nat => s.heap.size ≤ q) (WXx D ax cls σ ++ WMm D am cls τ)) (hS : va_S (fun q : Nat => s.heap.size ≤ q) s.heap H locs) {ls : Array Slot} (hl : lv_has ls 4 [(0, .ref b), (1, .ref (ax 0)), (2, .ref (am 0)), (3, .int (nI (7 * j)))])
    (kk : ∀ (H1 : Heap) (locs1 : List Loc) (σ1 τ1 : Mem), Rel σ1 τ1 → va_P D vwCl (WXx D ax cls σ1 ++ WMm D am cls τ1) H1 → va_D (fun q : Nat => s.heap.size ≤ q) (WXx D ax cls σ1 ++ WMm D am cls τ1) → va_S (fun q : Nat => s.heap.size ≤ q) s.heap H1 locs1 → W p l e room_1 s m #[Value.ref b] below meth c H1 locs1 91 1268 Q (F0 m 1145 ls [])) : W p l e room_1 s m #[Value.ref b] below meth c H locs 91 1268 Q (F0 m 954 ls []) := by
  refine lv_aload_n hx hb dL_law_954 rfl (lv_at hl 1 rfl) ?_
  refine lv_aload_n hx hb dL_law_955 rfl (lv_at hl 0 rfl) ?_
  refine lv_iload_n hx hb dL_law_956 rfl (lv_at hl 3 rfl) ?_
  refine lv_iconst (v := 1) hx hb dL_law_957 (by decide) ?_
  refine lv_iadd hx hb dL_law_958 ?_
  refine lv_nam (show nI (7 * j + 1) = nI (7 * j) + 1 from ixk j 1) ?_
  refine va_sld hx hb hX hbl hbA hS (sx_in hj (show 1 < 7 by decide) hL) dL_law_959 ?_
  refine lv_aload_n hx hb dL_law_960 rfl (lv_at hl 0 rfl) ?_
  refine lv_iload_n hx hb dL_law_961 rfl (lv_at hl 3 rfl) ?_
  refine lv_iconst (v := 2) hx hb dL_law_962 (by decide) ?_
  refine lv_iadd hx hb dL_law_963 ?_
  refine lv_nam (show nI (7 * j + 2) = nI (7 * j) + 2 from ixk j 2) ?_
  refine va_sld hx hb hX hbl hbA hS (sx_in hj (show 2 < 7 by decide) hL) dL_law_964 ?_
  refine lv_aload_n hx hb dL_law_965 rfl (lv_at hl 0 rfl) ?_
  refine lv_iload_n hx hb dL_law_966 rfl (lv_at hl 3 rfl) ?_
  refine lv_iconst (v := 3) hx hb dL_law_967 (by decide) ?_
  refine lv_iadd hx hb dL_law_968 ?_
  refine lv_nam (show nI (7 * j + 3) = nI (7 * j) + 3 from ixk j 3) ?_
  refine va_sld hx hb hX hbl hbA hS (sx_in hj (show 3 < 7 by decide) hL) dL_law_969 ?_
  refine lv_aload_n hx hb dL_law_970 rfl (lv_at hl 0 rfl) ?_
  refine lv_iload_n hx hb dL_law_971 rfl (lv_at hl 3 rfl) ?_
  refine lv_iconst (v := 4) hx hb dL_law_972 (by decide) ?_
  refine lv_iadd hx hb dL_law_973 ?_
  refine lv_nam (show nI (7 * j + 4) = nI (7 * j) + 4 from ixk j 4) ?_
  refine va_sld hx hb hX hbl hbA hS (sx_in hj (show 4 < 7 by decide) hL) dL_law_974 ?_
  refine lv_aload_n hx hb dL_law_975 rfl (lv_at hl 0 rfl) ?_
  refine lv_iload_n hx hb dL_law_976 rfl (lv_at hl 3 rfl) ?_
  refine lv_iconst (v := 5) hx hb dL_law_977 (by decide) ?_
  refine lv_iadd hx hb dL_law_978 ?_
  refine lv_nam (show nI (7 * j + 5) = nI (7 * j) + 5 from ixk j 5) ?_
  refine va_sld hx hb hX hbl hbA hS (sx_in hj (show 5 < 7 by decide) hL) dL_law_979 ?_
  obtain ⟨r0, σ', τ', eX0, eM0, hR'⟩ := r_copy (F := 50000) (Nat.le_refl _) (xs (nI (7 * j + 1)).toNatClampNeg) (xs (nI (7 * j + 2)).toNatClampNeg) (xs (nI (7 * j + 3)).toNatClampNeg) (xs (nI (7 * j + 4)).toNatClampNeg) (xs (nI (7 * j + 5)).toNatClampNeg) σ τ hR
  refine x_calli (x_runV (Xx _) (okx hD) hP hS hl.1 (As := [.int (xs (nI (7 * j + 1)).toNatClampNeg), .int (xs (nI (7 * j + 2)).toNatClampNeg), .int (xs (nI (7 * j + 3)).toNatClampNeg), .int (xs (nI (7 * j + 4)).toNatClampNeg), .int (xs (nI (7 * j + 5)).toNatClampNeg)]) (rest := []) (k_X6_copy (okx hD) (xs (nI (7 * j + 1)).toNatClampNeg) (xs (nI (7 * j + 2)).toNatClampNeg) (xs (nI (7 * j + 3)).toNatClampNeg) (xs (nI (7 * j + 4)).toNatClampNeg) (xs (nI (7 * j + 5)).toNatClampNeg) σ eX0) lt_X6 (e_X6 _) rfl wM_L_94 wI_yX6_copy wS_yX6_copy wN_X6 wC_yX6_copy hd_X6_copy rfl ⟨rfl, rfl⟩ ⟨(by decide), (by decide)⟩ ⟨by decide, by decide⟩ rfl (Nat.le_of_ble_eq_true rfl) dL_law_980) hS (fun H locs hP hS => ?_)
  have hD := LD_any (σ' := σ') (τ' := τ) hD
  replace hP : va_P D vwCl (WXx D ax cls σ' ++ WMm D am cls τ) H := hP
  refine lv_aload_n hx hb dL_law_983 rfl (lv_at hl 2 rfl) ?_
  refine lv_aload_n hx hb dL_law_984 rfl (lv_at hl 0 rfl) ?_
  refine lv_iload_n hx hb dL_law_985 rfl (lv_at hl 3 rfl) ?_
  refine lv_iconst (v := 1) hx hb dL_law_986 (by decide) ?_
  refine lv_iadd hx hb dL_law_987 ?_
  refine lv_nam (show nI (7 * j + 1) = nI (7 * j) + 1 from ixk j 1) ?_
  refine va_sld hx hb hX hbl hbA hS (sx_in hj (show 1 < 7 by decide) hL) dL_law_988 ?_
  refine lv_aload_n hx hb dL_law_989 rfl (lv_at hl 0 rfl) ?_
  refine lv_iload_n hx hb dL_law_990 rfl (lv_at hl 3 rfl) ?_
  refine lv_iconst (v := 2) hx hb dL_law_991 (by decide) ?_
  refine lv_iadd hx hb dL_law_992 ?_
  refine lv_nam (show nI (7 * j + 2) = nI (7 * j) + 2 from ixk j 2) ?_
  refine va_sld hx hb hX hbl hbA hS (sx_in hj (show 2 < 7 by decide) hL) dL_law_993 ?_
  refine lv_aload_n hx hb dL_law_994 rfl (lv_at hl 0 rfl) ?_
  refine lv_iload_n hx hb dL_law_995 rfl (lv_at hl 3 rfl) ?_
  refine lv_iconst (v := 3) hx hb dL_law_996 (by decide) ?_
  refine lv_iadd hx hb dL_law_997 ?_
  refine lv_nam (show nI (7 * j + 3) = nI (7 * j) + 3 from ixk j 3) ?_
  refine va_sld hx hb hX hbl hbA hS (sx_in hj (show 3 < 7 by decide) hL) dL_law_998 ?_
  refine lv_aload_n hx hb dL_law_999 rfl (lv_at hl 0 rfl) ?_
  refine lv_iload_n hx hb dL_law_1000 rfl (lv_at hl 3 rfl) ?_
  refine lv_iconst (v := 4) hx hb dL_law_1001 (by decide) ?_
  refine lv_iadd hx hb dL_law_1002 ?_
  refine lv_nam (show nI (7 * j + 4) = nI (7 * j) + 4 from ixk j 4) ?_
  refine va_sld hx hb hX hbl hbA hS (sx_in hj (show 4 < 7 by decide) hL) dL_law_1003 ?_
  refine lv_aload_n hx hb dL_law_1004 rfl (lv_at hl 0 rfl) ?_
  refine lv_iload_n hx hb dL_law_1005 rfl (lv_at hl 3 rfl) ?_
  refine lv_iconst (v := 5) hx hb dL_law_1006 (by decide) ?_
  refine lv_iadd hx hb dL_law_1007 ?_
  refine lv_nam (show nI (7 * j + 5) = nI (7 * j) + 5 from ixk j 5) ?_
  refine va_sld hx hb hX hbl hbA hS (sx_in hj (show 5 < 7 by decide) hL) dL_law_1008 ?_
  refine x_calli (x_runV (Xm _) (okm hD) (va_P_swap hP) hS hl.1 (As := [.int (xs (nI (7 * j + 1)).toNatClampNeg), .int (xs (nI (7 * j + 2)).toNatClampNeg), .int (xs (nI (7 * j + 3)).toNatClampNeg), .int (xs (nI (7 * j + 4)).toNatClampNeg), .int (xs (nI (7 * j + 5)).toNatClampNeg)]) (rest := [.int r0]) (k_X7_copy (F := 50000) (okm hD) (xs (nI (7 * j + 1)).toNatClampNeg) (xs (nI (7 * j + 2)).toNatClampNeg) (xs (nI (7 * j + 3)).toNatClampNeg) (xs (nI (7 * j + 4)).toNatClampNeg) (xs (nI (7 * j + 5)).toNatClampNeg) τ eM0) lt_X7 (e_X7 _) rfl wM_L_97 wI_yX7_copy wS_yX7_copy wN_X7 wC_yX7_copy hd_X7_copy rfl ⟨rfl, rfl⟩ ⟨(by decide), (by decide)⟩ ⟨by decide, by decide⟩ rfl (Nat.le_of_ble_eq_true rfl) dL_law_1009) hS (fun H locs hP hS => ?_)
  refine lv_icmp_eq (tgt := 1145) hx hb dL_law_1012 (by decide) (fun cz => ?_) (fun cz => absurd rfl cz)
  exact kk H locs σ' τ' hR' (va_P_swap hP) (LD_any hD) hS
set_option maxHeartbeats 4000000 in
set_option maxRecDepth 100000 in
theorem law_19 {p : Program} {l : Launch} {e : Env} {s : State} {m : MethodId} {below : List Frame} {meth : Method} {c : Code} {D : va_G} {ax am : Nat → Nat} {cls : Nat → ClassId} {b L j : Nat} {xs : Nat → Int32} {Q : State → Prop} (hL : L ≤ 448) (hj : 7 * j + 7 ≤ L) (hx : p.tables.exec = Jvm.exec) (hb : c.code = code) (hX : va_X b L xs s s.heap) (hbl : b < s.heap.size) (hbA : ¬ (fun q : Nat => s.heap.size ≤ q) b) (Xx : ∀ τ, CX (Thx D ax am cls s.heap.size τ) p s m #[Value.ref b] c RL cL_law 4) (Xm : ∀ σ, CX (Thm D ax am cls s.heap.size σ) p s m #[Value.ref b] c RL cL_law 4) {σ τ : Mem} (hR : Rel σ τ) {H : Heap} {locs : List Loc} (hP : va_P D vwCl (WXx D ax cls σ ++ WMm D am cls τ) H) (hD : va_D (fun q : Nat => s.heap.size ≤ q) (WXx D ax cls σ ++ WMm D am cls τ)) (hS : va_S (fun q : Nat => s.heap.size ≤ q) s.heap H locs) {ls : Array Slot} (hl : lv_has ls 4 [(0, .ref b), (1, .ref (ax 0)), (2, .ref (am 0)), (3, .int (nI (7 * j)))])
    (kk : ∀ (H1 : Heap) (locs1 : List Loc) (σ1 τ1 : Mem), Rel σ1 τ1 → va_P D vwCl (WXx D ax cls σ1 ++ WMm D am cls τ1) H1 → va_D (fun q : Nat => s.heap.size ≤ q) (WXx D ax cls σ1 ++ WMm D am cls τ1) → va_S (fun q : Nat => s.heap.size ≤ q) s.heap H1 locs1 → W p l e room_1 s m #[Value.ref b] below meth c H1 locs1 91 1268 Q (F0 m 1145 ls [])) : W p l e room_1 s m #[Value.ref b] below meth c H locs 91 1268 Q (F0 m 1017 ls []) := by
  refine lv_aload_n hx hb dL_law_1017 rfl (lv_at hl 1 rfl) ?_
  refine lv_aload_n hx hb dL_law_1018 rfl (lv_at hl 0 rfl) ?_
  refine lv_iload_n hx hb dL_law_1019 rfl (lv_at hl 3 rfl) ?_
  refine lv_iconst (v := 1) hx hb dL_law_1020 (by decide) ?_
  refine lv_iadd hx hb dL_law_1021 ?_
  refine lv_nam (show nI (7 * j + 1) = nI (7 * j) + 1 from ixk j 1) ?_
  refine va_sld hx hb hX hbl hbA hS (sx_in hj (show 1 < 7 by decide) hL) dL_law_1022 ?_
  obtain ⟨r0, σ', τ', eX0, eM0, hR'⟩ := r_tell (xs (nI (7 * j + 1)).toNatClampNeg) σ τ hR
  refine x_calli (x_runV (Xx _) (okx hD) hP hS hl.1 (As := [.int (xs (nI (7 * j + 1)).toNatClampNeg)]) (rest := []) (k_X6_tell (okx hD) (xs (nI (7 * j + 1)).toNatClampNeg) σ eX0) lt_X6 (e_X6 _) rfl wM_L_98 wI_yX6_tell wS_yX6_tell wN_X6 wC_yX6_tell hd_X6_tell rfl ⟨rfl, rfl⟩ ⟨(by decide), (by decide)⟩ ⟨by decide, by decide⟩ rfl (Nat.le_of_ble_eq_true rfl) dL_law_1023) hS (fun H locs hP hS => ?_)
  have hD := LD_any (σ' := σ') (τ' := τ) hD
  replace hP : va_P D vwCl (WXx D ax cls σ' ++ WMm D am cls τ) H := hP
  refine lv_aload_n hx hb dL_law_1026 rfl (lv_at hl 2 rfl) ?_
  refine lv_aload_n hx hb dL_law_1027 rfl (lv_at hl 0 rfl) ?_
  refine lv_iload_n hx hb dL_law_1028 rfl (lv_at hl 3 rfl) ?_
  refine lv_iconst (v := 1) hx hb dL_law_1029 (by decide) ?_
  refine lv_iadd hx hb dL_law_1030 ?_
  refine lv_nam (show nI (7 * j + 1) = nI (7 * j) + 1 from ixk j 1) ?_
  refine va_sld hx hb hX hbl hbA hS (sx_in hj (show 1 < 7 by decide) hL) dL_law_1031 ?_
  refine x_calli (x_runV (Xm _) (okm hD) (va_P_swap hP) hS hl.1 (As := [.int (xs (nI (7 * j + 1)).toNatClampNeg)]) (rest := [.int r0]) (k_X7_tell (okm hD) (xs (nI (7 * j + 1)).toNatClampNeg) τ eM0) lt_X7 (e_X7 _) rfl wM_L_101 wI_yX7_tell wS_yX7_tell wN_X7 wC_yX7_tell hd_X7_tell rfl ⟨rfl, rfl⟩ ⟨(by decide), (by decide)⟩ ⟨by decide, by decide⟩ rfl (Nat.le_of_ble_eq_true rfl) dL_law_1032) hS (fun H locs hP hS => ?_)
  refine lv_icmp_eq (tgt := 1145) hx hb dL_law_1035 (by decide) (fun cz => ?_) (fun cz => absurd rfl cz)
  exact kk H locs σ' τ' hR' (va_P_swap hP) (LD_any hD) hS
set_option maxHeartbeats 4000000 in
set_option maxRecDepth 100000 in
theorem law_20 {p : Program} {l : Launch} {e : Env} {s : State} {m : MethodId} {below : List Frame} {meth : Method} {c : Code} {D : va_G} {ax am : Nat → Nat} {cls : Nat → ClassId} {b L j : Nat} {xs : Nat → Int32} {Q : State → Prop} (hL : L ≤ 448) (hj : 7 * j + 7 ≤ L) (hx : p.tables.exec = Jvm.exec) (hb : c.code = code) (hX : va_X b L xs s s.heap) (hbl : b < s.heap.size) (hbA : ¬ (fun q : Nat => s.heap.size ≤ q) b) (Xx : ∀ τ, CX (Thx D ax am cls s.heap.size τ) p s m #[Value.ref b] c RL cL_law 4) (Xm : ∀ σ, CX (Thm D ax am cls s.heap.size σ) p s m #[Value.ref b] c RL cL_law 4) {σ τ : Mem} (hR : Rel σ τ) {H : Heap} {locs : List Loc} (hP : va_P D vwCl (WXx D ax cls σ ++ WMm D am cls τ) H) (hD : va_D (fun q : Nat => s.heap.size ≤ q) (WXx D ax cls σ ++ WMm D am cls τ)) (hS : va_S (fun q : Nat => s.heap.size ≤ q) s.heap H locs) {ls : Array Slot} (hl : lv_has ls 4 [(0, .ref b), (1, .ref (ax 0)), (2, .ref (am 0)), (3, .int (nI (7 * j)))])
    (kk : ∀ (H1 : Heap) (locs1 : List Loc) (σ1 τ1 : Mem), Rel σ1 τ1 → va_P D vwCl (WXx D ax cls σ1 ++ WMm D am cls τ1) H1 → va_D (fun q : Nat => s.heap.size ≤ q) (WXx D ax cls σ1 ++ WMm D am cls τ1) → va_S (fun q : Nat => s.heap.size ≤ q) s.heap H1 locs1 → W p l e room_1 s m #[Value.ref b] below meth c H1 locs1 91 1268 Q (F0 m 1145 ls [])) : W p l e room_1 s m #[Value.ref b] below meth c H locs 91 1268 Q (F0 m 1040 ls []) := by
  refine lv_aload_n hx hb dL_law_1040 rfl (lv_at hl 1 rfl) ?_
  refine lv_aload_n hx hb dL_law_1041 rfl (lv_at hl 0 rfl) ?_
  refine lv_iload_n hx hb dL_law_1042 rfl (lv_at hl 3 rfl) ?_
  refine lv_iconst (v := 1) hx hb dL_law_1043 (by decide) ?_
  refine lv_iadd hx hb dL_law_1044 ?_
  refine lv_nam (show nI (7 * j + 1) = nI (7 * j) + 1 from ixk j 1) ?_
  refine va_sld hx hb hX hbl hbA hS (sx_in hj (show 1 < 7 by decide) hL) dL_law_1045 ?_
  obtain ⟨r0, σ', τ', eX0, eM0, hR'⟩ := r_hand (xs (nI (7 * j + 1)).toNatClampNeg) σ τ hR
  refine x_calli (x_runV (Xx _) (okx hD) hP hS hl.1 (As := [.int (xs (nI (7 * j + 1)).toNatClampNeg)]) (rest := []) (k_X6_hand (okx hD) (xs (nI (7 * j + 1)).toNatClampNeg) σ eX0) lt_X6 (e_X6 _) rfl wM_L_102 wI_yX6_hand wS_yX6_hand wN_X6 wC_yX6_hand hd_X6_hand rfl ⟨rfl, rfl⟩ ⟨(by decide), (by decide)⟩ ⟨by decide, by decide⟩ rfl (Nat.le_of_ble_eq_true rfl) dL_law_1046) hS (fun H locs hP hS => ?_)
  have hD := LD_any (σ' := σ') (τ' := τ) hD
  replace hP : va_P D vwCl (WXx D ax cls σ' ++ WMm D am cls τ) H := hP
  refine lv_aload_n hx hb dL_law_1049 rfl (lv_at hl 2 rfl) ?_
  refine lv_aload_n hx hb dL_law_1050 rfl (lv_at hl 0 rfl) ?_
  refine lv_iload_n hx hb dL_law_1051 rfl (lv_at hl 3 rfl) ?_
  refine lv_iconst (v := 1) hx hb dL_law_1052 (by decide) ?_
  refine lv_iadd hx hb dL_law_1053 ?_
  refine lv_nam (show nI (7 * j + 1) = nI (7 * j) + 1 from ixk j 1) ?_
  refine va_sld hx hb hX hbl hbA hS (sx_in hj (show 1 < 7 by decide) hL) dL_law_1054 ?_
  refine x_calli (x_runV (Xm _) (okm hD) (va_P_swap hP) hS hl.1 (As := [.int (xs (nI (7 * j + 1)).toNatClampNeg)]) (rest := [.int r0]) (k_X7_hand (okm hD) (xs (nI (7 * j + 1)).toNatClampNeg) τ eM0) lt_X7 (e_X7 _) rfl wM_L_105 wI_yX7_hand wS_yX7_hand wN_X7 wC_yX7_hand hd_X7_hand rfl ⟨rfl, rfl⟩ ⟨(by decide), (by decide)⟩ ⟨by decide, by decide⟩ rfl (Nat.le_of_ble_eq_true rfl) dL_law_1055) hS (fun H locs hP hS => ?_)
  refine lv_icmp_eq (tgt := 1145) hx hb dL_law_1058 (by decide) (fun cz => ?_) (fun cz => absurd rfl cz)
  exact kk H locs σ' τ' hR' (va_P_swap hP) (LD_any hD) hS
set_option maxHeartbeats 4000000 in
set_option maxRecDepth 100000 in
theorem law_21 {p : Program} {l : Launch} {e : Env} {s : State} {m : MethodId} {below : List Frame} {meth : Method} {c : Code} {D : va_G} {ax am : Nat → Nat} {cls : Nat → ClassId} {b L j : Nat} {xs : Nat → Int32} {Q : State → Prop} (hL : L ≤ 448) (hj : 7 * j + 7 ≤ L) (hx : p.tables.exec = Jvm.exec) (hb : c.code = code) (hX : va_X b L xs s s.heap) (hbl : b < s.heap.size) (hbA : ¬ (fun q : Nat => s.heap.size ≤ q) b) (Xx : ∀ τ, CX (Thx D ax am cls s.heap.size τ) p s m #[Value.ref b] c RL cL_law 4) (Xm : ∀ σ, CX (Thm D ax am cls s.heap.size σ) p s m #[Value.ref b] c RL cL_law 4) {σ τ : Mem} (hR : Rel σ τ) {H : Heap} {locs : List Loc} (hP : va_P D vwCl (WXx D ax cls σ ++ WMm D am cls τ) H) (hD : va_D (fun q : Nat => s.heap.size ≤ q) (WXx D ax cls σ ++ WMm D am cls τ)) (hS : va_S (fun q : Nat => s.heap.size ≤ q) s.heap H locs) {ls : Array Slot} (hl : lv_has ls 4 [(0, .ref b), (1, .ref (ax 0)), (2, .ref (am 0)), (3, .int (nI (7 * j)))])
    (kk : ∀ (H1 : Heap) (locs1 : List Loc) (σ1 τ1 : Mem), Rel σ1 τ1 → va_P D vwCl (WXx D ax cls σ1 ++ WMm D am cls τ1) H1 → va_D (fun q : Nat => s.heap.size ≤ q) (WXx D ax cls σ1 ++ WMm D am cls τ1) → va_S (fun q : Nat => s.heap.size ≤ q) s.heap H1 locs1 → W p l e room_1 s m #[Value.ref b] below meth c H1 locs1 91 1268 Q (F0 m 1145 ls [])) : W p l e room_1 s m #[Value.ref b] below meth c H locs 91 1268 Q (F0 m 1063 ls []) := by
  refine lv_aload_n hx hb dL_law_1063 rfl (lv_at hl 1 rfl) ?_
  refine lv_aload_n hx hb dL_law_1064 rfl (lv_at hl 0 rfl) ?_
  refine lv_iload_n hx hb dL_law_1065 rfl (lv_at hl 3 rfl) ?_
  refine lv_iconst (v := 1) hx hb dL_law_1066 (by decide) ?_
  refine lv_iadd hx hb dL_law_1067 ?_
  refine lv_nam (show nI (7 * j + 1) = nI (7 * j) + 1 from ixk j 1) ?_
  refine va_sld hx hb hX hbl hbA hS (sx_in hj (show 1 < 7 by decide) hL) dL_law_1068 ?_
  refine lv_aload_n hx hb dL_law_1069 rfl (lv_at hl 0 rfl) ?_
  refine lv_iload_n hx hb dL_law_1070 rfl (lv_at hl 3 rfl) ?_
  refine lv_iconst (v := 2) hx hb dL_law_1071 (by decide) ?_
  refine lv_iadd hx hb dL_law_1072 ?_
  refine lv_nam (show nI (7 * j + 2) = nI (7 * j) + 2 from ixk j 2) ?_
  refine va_sld hx hb hX hbl hbA hS (sx_in hj (show 2 < 7 by decide) hL) dL_law_1073 ?_
  obtain ⟨r0, σ', τ', eX0, eM0, hR'⟩ := r_as (xs (nI (7 * j + 1)).toNatClampNeg) (xs (nI (7 * j + 2)).toNatClampNeg) σ τ hR
  refine x_calli (x_runV (Xx _) (okx hD) hP hS hl.1 (As := [.int (xs (nI (7 * j + 1)).toNatClampNeg), .int (xs (nI (7 * j + 2)).toNatClampNeg)]) (rest := []) (k_X6_as (okx hD) (xs (nI (7 * j + 1)).toNatClampNeg) (xs (nI (7 * j + 2)).toNatClampNeg) σ eX0) lt_X6 (e_X6 _) rfl wM_L_106 wI_yX6_as wS_yX6_as wN_X6 wC_yX6_as hd_X6_as rfl ⟨rfl, rfl⟩ ⟨(by decide), (by decide)⟩ ⟨by decide, by decide⟩ rfl (Nat.le_of_ble_eq_true rfl) dL_law_1074) hS (fun H locs hP hS => ?_)
  have hD := LD_any (σ' := σ') (τ' := τ) hD
  replace hP : va_P D vwCl (WXx D ax cls σ' ++ WMm D am cls τ) H := hP
  refine lv_aload_n hx hb dL_law_1077 rfl (lv_at hl 2 rfl) ?_
  refine lv_aload_n hx hb dL_law_1078 rfl (lv_at hl 0 rfl) ?_
  refine lv_iload_n hx hb dL_law_1079 rfl (lv_at hl 3 rfl) ?_
  refine lv_iconst (v := 1) hx hb dL_law_1080 (by decide) ?_
  refine lv_iadd hx hb dL_law_1081 ?_
  refine lv_nam (show nI (7 * j + 1) = nI (7 * j) + 1 from ixk j 1) ?_
  refine va_sld hx hb hX hbl hbA hS (sx_in hj (show 1 < 7 by decide) hL) dL_law_1082 ?_
  refine lv_aload_n hx hb dL_law_1083 rfl (lv_at hl 0 rfl) ?_
  refine lv_iload_n hx hb dL_law_1084 rfl (lv_at hl 3 rfl) ?_
  refine lv_iconst (v := 2) hx hb dL_law_1085 (by decide) ?_
  refine lv_iadd hx hb dL_law_1086 ?_
  refine lv_nam (show nI (7 * j + 2) = nI (7 * j) + 2 from ixk j 2) ?_
  refine va_sld hx hb hX hbl hbA hS (sx_in hj (show 2 < 7 by decide) hL) dL_law_1087 ?_
  refine x_calli (x_runV (Xm _) (okm hD) (va_P_swap hP) hS hl.1 (As := [.int (xs (nI (7 * j + 1)).toNatClampNeg), .int (xs (nI (7 * j + 2)).toNatClampNeg)]) (rest := [.int r0]) (k_X7_as (okm hD) (xs (nI (7 * j + 1)).toNatClampNeg) (xs (nI (7 * j + 2)).toNatClampNeg) τ eM0) lt_X7 (e_X7 _) rfl wM_L_109 wI_yX7_as wS_yX7_as wN_X7 wC_yX7_as hd_X7_as rfl ⟨rfl, rfl⟩ ⟨(by decide), (by decide)⟩ ⟨by decide, by decide⟩ rfl (Nat.le_of_ble_eq_true rfl) dL_law_1088) hS (fun H locs hP hS => ?_)
  refine lv_icmp_eq (tgt := 1145) hx hb dL_law_1091 (by decide) (fun cz => ?_) (fun cz => absurd rfl cz)
  exact kk H locs σ' τ' hR' (va_P_swap hP) (LD_any hD) hS
set_option maxHeartbeats 4000000 in
set_option maxRecDepth 100000 in
theorem law_22 {p : Program} {l : Launch} {e : Env} {s : State} {m : MethodId} {below : List Frame} {meth : Method} {c : Code} {D : va_G} {ax am : Nat → Nat} {cls : Nat → ClassId} {b L j : Nat} {xs : Nat → Int32} {Q : State → Prop} (hL : L ≤ 448) (hj : 7 * j + 7 ≤ L) (hx : p.tables.exec = Jvm.exec) (hb : c.code = code) (hX : va_X b L xs s s.heap) (hbl : b < s.heap.size) (hbA : ¬ (fun q : Nat => s.heap.size ≤ q) b) (Xx : ∀ τ, CX (Thx D ax am cls s.heap.size τ) p s m #[Value.ref b] c RL cL_law 4) (Xm : ∀ σ, CX (Thm D ax am cls s.heap.size σ) p s m #[Value.ref b] c RL cL_law 4) {σ τ : Mem} (hR : Rel σ τ) {H : Heap} {locs : List Loc} (hP : va_P D vwCl (WXx D ax cls σ ++ WMm D am cls τ) H) (hD : va_D (fun q : Nat => s.heap.size ≤ q) (WXx D ax cls σ ++ WMm D am cls τ)) (hS : va_S (fun q : Nat => s.heap.size ≤ q) s.heap H locs) {ls : Array Slot} (hl : lv_has ls 4 [(0, .ref b), (1, .ref (ax 0)), (2, .ref (am 0)), (3, .int (nI (7 * j)))])
    (kk : ∀ (H1 : Heap) (locs1 : List Loc) (σ1 τ1 : Mem), Rel σ1 τ1 → va_P D vwCl (WXx D ax cls σ1 ++ WMm D am cls τ1) H1 → va_D (fun q : Nat => s.heap.size ≤ q) (WXx D ax cls σ1 ++ WMm D am cls τ1) → va_S (fun q : Nat => s.heap.size ≤ q) s.heap H1 locs1 → W p l e room_1 s m #[Value.ref b] below meth c H1 locs1 91 1268 Q (F0 m 1145 ls [])) : W p l e room_1 s m #[Value.ref b] below meth c H locs 91 1268 Q (F0 m 1096 ls []) := by
  refine lv_aload_n hx hb dL_law_1096 rfl (lv_at hl 1 rfl) ?_
  have e0 := r_trace hR
  refine x_calli (x_runV (Xx _) (okx hD) hP hS hl.1 (As := []) (rest := []) (k_X6_trace (okx hD)  σ rfl) lt_X6 (e_X6 _) rfl wM_L_110 wI_yX6_trace wS_yX6_trace wN_X6 wC_yX6_trace hd_X6_trace rfl ⟨rfl, rfl⟩ ⟨(by decide), (by decide)⟩ ⟨by decide, by decide⟩ rfl (Nat.le_of_ble_eq_true rfl) dL_law_1097) hS (fun H locs hP hS => ?_)
  replace hP : va_P D vwCl (WXx D ax cls σ ++ WMm D am cls τ) H := hP
  refine lv_aload_n hx hb dL_law_1100 rfl (lv_at hl 2 rfl) ?_
  refine x_calli (x_runV (Xm _) (okm hD) (va_P_swap hP) hS hl.1 (As := []) (rest := [.int (X6_trace σ)]) (k_X7_trace (okm hD)  τ rfl) lt_X7 (e_X7 _) rfl wM_L_114 wI_yX7_trace wS_yX7_trace wN_X7 wC_yX7_trace hd_X7_trace rfl ⟨rfl, rfl⟩ ⟨(by decide), (by decide)⟩ ⟨by decide, by decide⟩ rfl (Nat.le_of_ble_eq_true rfl) dL_law_1101) hS (fun H locs hP hS => ?_)
  refine lv_icmp_eq (tgt := 1145) hx hb dL_law_1104 (by decide) (fun cz => ?_) (fun cz => absurd e0 cz)
  exact kk H locs σ τ hR (va_P_swap hP) (LD_any hD) hS
set_option maxHeartbeats 4000000 in
set_option maxRecDepth 100000 in
theorem law_23 {p : Program} {l : Launch} {e : Env} {s : State} {m : MethodId} {below : List Frame} {meth : Method} {c : Code} {D : va_G} {ax am : Nat → Nat} {cls : Nat → ClassId} {b L j : Nat} {xs : Nat → Int32} {Q : State → Prop} (hL : L ≤ 448) (hj : 7 * j + 7 ≤ L) (hx : p.tables.exec = Jvm.exec) (hb : c.code = code) (hX : va_X b L xs s s.heap) (hbl : b < s.heap.size) (hbA : ¬ (fun q : Nat => s.heap.size ≤ q) b) (Xx : ∀ τ, CX (Thx D ax am cls s.heap.size τ) p s m #[Value.ref b] c RL cL_law 4) (Xm : ∀ σ, CX (Thm D ax am cls s.heap.size σ) p s m #[Value.ref b] c RL cL_law 4) {σ τ : Mem} (hR : Rel σ τ) {H : Heap} {locs : List Loc} (hP : va_P D vwCl (WXx D ax cls σ ++ WMm D am cls τ) H) (hD : va_D (fun q : Nat => s.heap.size ≤ q) (WXx D ax cls σ ++ WMm D am cls τ)) (hS : va_S (fun q : Nat => s.heap.size ≤ q) s.heap H locs) {ls : Array Slot} (hl : lv_has ls 4 [(0, .ref b), (1, .ref (ax 0)), (2, .ref (am 0)), (3, .int (nI (7 * j)))])
    (kk : ∀ (H1 : Heap) (locs1 : List Loc) (σ1 τ1 : Mem), Rel σ1 τ1 → va_P D vwCl (WXx D ax cls σ1 ++ WMm D am cls τ1) H1 → va_D (fun q : Nat => s.heap.size ≤ q) (WXx D ax cls σ1 ++ WMm D am cls τ1) → va_S (fun q : Nat => s.heap.size ≤ q) s.heap H1 locs1 → W p l e room_1 s m #[Value.ref b] below meth c H1 locs1 91 1268 Q (F0 m 1145 ls [])) : W p l e room_1 s m #[Value.ref b] below meth c H locs 91 1268 Q (F0 m 1109 ls []) := by
  refine lv_aload_n hx hb dL_law_1109 rfl (lv_at hl 1 rfl) ?_
  have e0 := r_fault hR
  refine x_calli (x_runV (Xx _) (okx hD) hP hS hl.1 (As := []) (rest := []) (k_X6_fault (okx hD)  σ rfl) lt_X6 (e_X6 _) rfl wM_L_115 wI_yX6_fault wS_yX6_fault wN_X6 wC_yX6_fault hd_X6_fault rfl ⟨rfl, rfl⟩ ⟨(by decide), (by decide)⟩ ⟨by decide, by decide⟩ rfl (Nat.le_of_ble_eq_true rfl) dL_law_1110) hS (fun H locs hP hS => ?_)
  replace hP : va_P D vwCl (WXx D ax cls σ ++ WMm D am cls τ) H := hP
  refine lv_aload_n hx hb dL_law_1113 rfl (lv_at hl 2 rfl) ?_
  refine x_calli (x_runV (Xm _) (okm hD) (va_P_swap hP) hS hl.1 (As := []) (rest := [.int (X6_fault σ)]) (k_X7_fault (okm hD)  τ rfl) lt_X7 (e_X7 _) rfl wM_L_118 wI_yX7_fault wS_yX7_fault wN_X7 wC_yX7_fault hd_X7_fault rfl ⟨rfl, rfl⟩ ⟨(by decide), (by decide)⟩ ⟨by decide, by decide⟩ rfl (Nat.le_of_ble_eq_true rfl) dL_law_1114) hS (fun H locs hP hS => ?_)
  refine lv_icmp_eq (tgt := 1145) hx hb dL_law_1117 (by decide) (fun cz => ?_) (fun cz => absurd e0 cz)
  exact kk H locs σ τ hR (va_P_swap hP) (LD_any hD) hS
set_option maxHeartbeats 4000000 in
set_option maxRecDepth 100000 in
theorem law_24 {p : Program} {l : Launch} {e : Env} {s : State} {m : MethodId} {below : List Frame} {meth : Method} {c : Code} {D : va_G} {ax am : Nat → Nat} {cls : Nat → ClassId} {b L j : Nat} {xs : Nat → Int32} {Q : State → Prop} (hL : L ≤ 448) (hj : 7 * j + 7 ≤ L) (hx : p.tables.exec = Jvm.exec) (hb : c.code = code) (hX : va_X b L xs s s.heap) (hbl : b < s.heap.size) (hbA : ¬ (fun q : Nat => s.heap.size ≤ q) b) (Xx : ∀ τ, CX (Thx D ax am cls s.heap.size τ) p s m #[Value.ref b] c RL cL_law 4) (Xm : ∀ σ, CX (Thm D ax am cls s.heap.size σ) p s m #[Value.ref b] c RL cL_law 4) {σ τ : Mem} (hR : Rel σ τ) {H : Heap} {locs : List Loc} (hP : va_P D vwCl (WXx D ax cls σ ++ WMm D am cls τ) H) (hD : va_D (fun q : Nat => s.heap.size ≤ q) (WXx D ax cls σ ++ WMm D am cls τ)) (hS : va_S (fun q : Nat => s.heap.size ≤ q) s.heap H locs) {ls : Array Slot} (hl : lv_has ls 4 [(0, .ref b), (1, .ref (ax 0)), (2, .ref (am 0)), (3, .int (nI (7 * j)))])
    (kk : ∀ (H1 : Heap) (locs1 : List Loc) (σ1 τ1 : Mem), Rel σ1 τ1 → va_P D vwCl (WXx D ax cls σ1 ++ WMm D am cls τ1) H1 → va_D (fun q : Nat => s.heap.size ≤ q) (WXx D ax cls σ1 ++ WMm D am cls τ1) → va_S (fun q : Nat => s.heap.size ≤ q) s.heap H1 locs1 → W p l e room_1 s m #[Value.ref b] below meth c H1 locs1 91 1268 Q (F0 m 1145 ls [])) : W p l e room_1 s m #[Value.ref b] below meth c H locs 91 1268 Q (F0 m 1122 ls []) := by
  refine lv_aload_n hx hb dL_law_1122 rfl (lv_at hl 1 rfl) ?_
  refine lv_aload_n hx hb dL_law_1123 rfl (lv_at hl 0 rfl) ?_
  refine lv_iload_n hx hb dL_law_1124 rfl (lv_at hl 3 rfl) ?_
  refine lv_iconst (v := 1) hx hb dL_law_1125 (by decide) ?_
  refine lv_iadd hx hb dL_law_1126 ?_
  refine lv_nam (show nI (7 * j + 1) = nI (7 * j) + 1 from ixk j 1) ?_
  refine va_sld hx hb hX hbl hbA hS (sx_in hj (show 1 < 7 by decide) hL) dL_law_1127 ?_
  have e0 := r_many (xs (nI (7 * j + 1)).toNatClampNeg) hR
  refine x_calli (x_runV (Xx _) (okx hD) hP hS hl.1 (As := [.int (xs (nI (7 * j + 1)).toNatClampNeg)]) (rest := []) (k_X6_many (okx hD) (xs (nI (7 * j + 1)).toNatClampNeg) σ rfl) lt_X6 (e_X6 _) rfl wM_L_119 wI_yX6_many wS_yX6_many wN_X6 wC_yX6_many hd_X6_many rfl ⟨rfl, rfl⟩ ⟨(by decide), (by decide)⟩ ⟨by decide, by decide⟩ rfl (Nat.le_of_ble_eq_true rfl) dL_law_1128) hS (fun H locs hP hS => ?_)
  replace hP : va_P D vwCl (WXx D ax cls σ ++ WMm D am cls τ) H := hP
  refine lv_aload_n hx hb dL_law_1131 rfl (lv_at hl 2 rfl) ?_
  refine lv_aload_n hx hb dL_law_1132 rfl (lv_at hl 0 rfl) ?_
  refine lv_iload_n hx hb dL_law_1133 rfl (lv_at hl 3 rfl) ?_
  refine lv_iconst (v := 1) hx hb dL_law_1134 (by decide) ?_
  refine lv_iadd hx hb dL_law_1135 ?_
  refine lv_nam (show nI (7 * j + 1) = nI (7 * j) + 1 from ixk j 1) ?_
  refine va_sld hx hb hX hbl hbA hS (sx_in hj (show 1 < 7 by decide) hL) dL_law_1136 ?_
  refine x_calli (x_runV (Xm _) (okm hD) (va_P_swap hP) hS hl.1 (As := [.int (xs (nI (7 * j + 1)).toNatClampNeg)]) (rest := [.int (X6_many (xs (nI (7 * j + 1)).toNatClampNeg) σ)]) (k_X7_many (okm hD) (xs (nI (7 * j + 1)).toNatClampNeg) τ rfl) lt_X7 (e_X7 _) rfl wM_L_122 wI_yX7_many wS_yX7_many wN_X7 wC_yX7_many hd_X7_many rfl ⟨rfl, rfl⟩ ⟨(by decide), (by decide)⟩ ⟨by decide, by decide⟩ rfl (Nat.le_of_ble_eq_true rfl) dL_law_1137) hS (fun H locs hP hS => ?_)
  refine lv_icmp_eq (tgt := 1145) hx hb dL_law_1140 (by decide) (fun cz => ?_) (fun cz => absurd e0 cz)
  exact kk H locs σ τ hR (va_P_swap hP) (LD_any hD) hS
