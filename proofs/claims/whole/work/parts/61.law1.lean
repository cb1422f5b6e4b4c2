-- the law's cases (printed by gen5.py)
theorem ixk (j k : Nat) : nI (7 * j + k) = nI (7 * j) + nI k := (nI_add _ _).symm
set_option maxHeartbeats 4000000 in
set_option maxRecDepth 100000 in
theorem law_0 {p : Program} {l : Launch} {e : Env} {s : State} {m : MethodId} {below : List Frame} {meth : Method} {c : Code} {D : va_G} {ax am : Nat → Nat} {cls : Nat → ClassId} {b L j : Nat} {xs : Nat → Int32} {Q : State → Prop} (hL : L ≤ 448) (hj : 7 * j + 7 ≤ L) (hx : p.tables.exec = Jvm.exec) (hb : c.code = code) (hX : va_X b L xs s s.heap) (hbl : b < s.heap.size) (hbA : ¬ (fun q : Nat => s.heap.size ≤ q) b) (Xx : ∀ τ, CX (Thx D ax am cls s.heap.size τ) p s m #[Value.ref b] c RL cL_law 4) (Xm : ∀ σ, CX (Thm D ax am cls s.heap.size σ) p s m #[Value.ref b] c RL cL_law 4) {σ τ : Mem} (hR : Rel σ τ) {H : Heap} {locs : List Loc} (hP : va_P D vwCl (WXx D ax cls σ ++ WMm D am cls τ) H) (hD : va_D (fun q : Nat => s.heap.size ≤ q) (WXx D ax cls σ ++ WMm D am cls τ)) (hS : va_S (fun q : Nat => s.heap.size ≤ q) s.heap H locs) {ls : Array Slot} (hl : lv_has ls 4 [(0, .ref b), (1, .ref (ax 0)), (2, .ref (am 0)), (3, .int (nI (7 * j)))])
    (kk : ∀ (H1 : Heap) (locs1 : List Loc) (σ1 τ1 : Mem), Rel σ1 τ1 → va_P D vwCl (WXx D ax cls σ1 ++ WMm D am cls τ1) H1 → va_D (fun q : Nat => s.heap.size ≤ q) (WXx D ax cls σ1 ++ WMm D am cls τ1) → va_S (fun q : Nat => s.heap.size ≤ q) s.heap H1 locs1 → W p l e room_1 s m #[Value.ref b] below meth c H1 locs1 89 1268 Q (F0 m 1145 ls [])) : W p l e room_1 s m #[Value.ref b] below meth c H locs 89 1268 Q (F0 m 148 ls []) := by
  refine lv_aload_n hx hb dL_law_148 rfl (lv_at hl 1 rfl) ?_
  refine lv_aload_n hx hb dL_law_149 rfl (lv_at hl 0 rfl) ?_
  refine lv_iload_n hx hb dL_law_150 rfl (lv_at hl 3 rfl) ?_
  refine lv_iconst (v := 1) hx hb dL_law_151 (by decide) ?_
  refine lv_iadd hx hb dL_law_152 ?_
  refine lv_nam (show nI (7 * j + 1) = nI (7 * j) + 1 from ixk j 1) ?_
  refine va_sld hx hb hX hbl hbA hS (sx_in hj (show 1 < 7 by decide) hL) dL_law_153 ?_
  refine lv_aload_n hx hb dL_law_154 rfl (lv_at hl 0 rfl) ?_
  refine lv_iload_n hx hb dL_law_155 rfl (lv_at hl 3 rfl) ?_
  refine lv_iconst (v := 2) hx hb dL_law_156 (by decide) ?_
  refine lv_iadd hx hb dL_law_157 ?_
  refine lv_nam (show nI (7 * j + 2) = nI (7 * j) + 2 from ixk j 2) ?_
  refine va_sld hx hb hX hbl hbA hS (sx_in hj (show 2 < 7 by decide) hL) dL_law_158 ?_
  refine lv_aload_n hx hb dL_law_159 rfl (lv_at hl 0 rfl) ?_
  refine lv_iload_n hx hb dL_law_160 rfl (lv_at hl 3 rfl) ?_
  refine lv_iconst (v := 3) hx hb dL_law_161 (by decide) ?_
  refine lv_iadd hx hb dL_law_162 ?_
  refine lv_nam (show nI (7 * j + 3) = nI (7 * j) + 3 from ixk j 3) ?_
  refine va_sld hx hb hX hbl hbA hS (sx_in hj (show 3 < 7 by decide) hL) dL_law_163 ?_
  refine lv_aload_n hx hb dL_law_164 rfl (lv_at hl 0 rfl) ?_
  refine lv_iload_n hx hb dL_law_165 rfl (lv_at hl 3 rfl) ?_
  refine lv_iconst (v := 4) hx hb dL_law_166 (by decide) ?_
  refine lv_iadd hx hb dL_law_167 ?_
  refine lv_nam (show nI (7 * j + 4) = nI (7 * j) + 4 from ixk j 4) ?_
  refine va_sld hx hb hX hbl hbA hS (sx_in hj (show 4 < 7 by decide) hL) dL_law_168 ?_
  obtain ⟨r0, σ', τ', eX0, eM0, hR'⟩ := r_counter (F := 50000) (Nat.le_refl _) (xs (nI (7 * j + 1)).toNatClampNeg) (xs (nI (7 * j + 2)).toNatClampNeg) (xs (nI (7 * j + 3)).toNatClampNeg) (xs (nI (7 * j + 4)).toNatClampNeg) σ τ hR
  refine x_calli (x_runV Xx (okx hD) hP hS hl.1 (As := [.int (xs (nI (7 * j + 1)).toNatClampNeg), .int (xs (nI (7 * j + 2)).toNatClampNeg), .int (xs (nI (7 * j + 3)).toNatClampNeg), .int (xs (nI (7 * j + 4)).toNatClampNeg)]) (rest := []) (k_X6_counter (F := 50000) (okx hD) (xs (nI (7 * j + 1)).toNatClampNeg) (xs (nI (7 * j + 2)).toNatClampNeg) (xs (nI (7 * j + 3)).toNatClampNeg) (xs (nI (7 * j + 4)).toNatClampNeg) σ eX0) lt_X6 (e_X6 _) rfl wM_L_13 wI_yX6_counter wS_yX6_counter wN_X6 wC_yX6_counter hd_X6_counter rfl ⟨rfl, rfl⟩ ⟨(by decide), (by decide)⟩ ⟨by decide, by decide⟩ rfl (Nat.le_of_ble_eq_true rfl) dL_law_169) hS (fun H locs hP hS => ?_)
  have hD := LD_any (σ' := σ') (τ' := τ) hD
  replace hP : va_P D vwCl (WXx D ax cls σ' ++ WMm D am cls τ) H := hP
  refine lv_aload_n hx hb dL_law_172 rfl (lv_at hl 2 rfl) ?_
  refine lv_aload_n hx hb dL_law_173 rfl (lv_at hl 0 rfl) ?_
  refine lv_iload_n hx hb dL_law_174 rfl (lv_at hl 3 rfl) ?_
  refine lv_iconst (v := 1) hx hb dL_law_175 (by decide) ?_
  refine lv_iadd hx hb dL_law_176 ?_
  refine lv_nam (show nI (7 * j + 1) = nI (7 * j) + 1 from ixk j 1) ?_
  refine va_sld hx hb hX hbl hbA hS (sx_in hj (show 1 < 7 by decide) hL) dL_law_177 ?_
  refine lv_aload_n hx hb dL_law_178 rfl (lv_at hl 0 rfl) ?_
  refine lv_iload_n hx hb dL_law_179 rfl (lv_at hl 3 rfl) ?_
  refine lv_iconst (v := 2) hx hb dL_law_180 (by decide) ?_
  refine lv_iadd hx hb dL_law_181 ?_
  refine lv_nam (show nI (7 * j + 2) = nI (7 * j) + 2 from ixk j 2) ?_
  refine va_sld hx hb hX hbl hbA hS (sx_in hj (show 2 < 7 by decide) hL) dL_law_182 ?_
  refine lv_aload_n hx hb dL_law_183 rfl (lv_at hl 0 rfl) ?_
  refine lv_iload_n hx hb dL_law_184 rfl (lv_at hl 3 rfl) ?_
  refine lv_iconst (v := 3) hx hb dL_law_185 (by decide) ?_
  refine lv_iadd hx hb dL_law_186 ?_
  refine lv_nam (show nI (7 * j + 3) = nI (7 * j) + 3 from ixk j 3) ?_
  refine va_sld hx hb hX hbl hbA hS (sx_in hj (show 3 < 7 by decide) hL) dL_law_187 ?_
  refine lv_aload_n hx hb dL_law_188 rfl (lv_at hl 0 rfl) ?_
  refine lv_iload_n hx hb dL_law_189 rfl (lv_at hl 3 rfl) ?_
  refine lv_iconst (v := 4) hx hb dL_law_190 (by decide) ?_
  refine lv_iadd hx hb dL_law_191 ?_
  refine lv_nam (show nI (7 * j + 4) = nI (7 * j) + 4 from ixk j 4) ?_
  refine va_sld hx hb hX hbl hbA hS (sx_in hj (show 4 < 7 by decide) hL) dL_law_192 ?_
  refine x_calli (x_runV Xm (okm hD) (va_P_swap hP) hS hl.1 (As := [.int (xs (nI (7 * j + 1)).toNatClampNeg), .int (xs (nI (7 * j + 2)).toNatClampNeg), .int (xs (nI (7 * j + 3)).toNatClampNeg), .int (xs (nI (7 * j + 4)).toNatClampNeg)]) (rest := [.int r]) (k_X7_counter (F := 50000) (okm hD) (xs (nI (7 * j + 1)).toNatClampNeg) (xs (nI (7 * j + 2)).toNatClampNeg) (xs (nI (7 * j + 3)).toNatClampNeg) (xs (nI (7 * j + 4)).toNatClampNeg) τ eM0) lt_X7 (e_X7 _) rfl wM_L_17 wI_yX7_counter wS_yX7_counter wN_X7 wC_yX7_counter hd_X7_counter rfl ⟨rfl, rfl⟩ ⟨(by decide), (by decide)⟩ ⟨by decide, by decide⟩ rfl (Nat.le_of_ble_eq_true rfl) dL_law_193) hS (fun H locs hP hS => ?_)
  refine lv_icmp_eq (tgt := 1145) hx hb dL_law_196 (by decide) (fun cz => ?_) (fun cz => absurd rfl cz)
  exact kk H locs σ' τ' hR' (va_P_swap hP) (LD_any hD) hS
set_option maxHeartbeats 4000000 in
set_option maxRecDepth 100000 in
theorem law_1 {p : Program} {l : Launch} {e : Env} {s : State} {m : MethodId} {below : List Frame} {meth : Method} {c : Code} {D : va_G} {ax am : Nat → Nat} {cls : Nat → ClassId} {b L j : Nat} {xs : Nat → Int32} {Q : State → Prop} (hL : L ≤ 448) (hj : 7 * j + 7 ≤ L) (hx : p.tables.exec = Jvm.exec) (hb : c.code = code) (hX : va_X b L xs s s.heap) (hbl : b < s.heap.size) (hbA : ¬ (fun q : Nat => s.heap.size ≤ q) b) (Xx : ∀ τ, CX (Thx D ax am cls s.heap.size τ) p s m #[Value.ref b] c RL cL_law 4) (Xm : ∀ σ, CX (Thm D ax am cls s.heap.size σ) p s m #[Value.ref b] c RL cL_law 4) {σ τ : Mem} (hR : Rel σ τ) {H : Heap} {locs : List Loc} (hP : va_P D vwCl (WXx D ax cls σ ++ WMm D am cls τ) H) (hD : va_D (fun q : Nat => s.heap.size ≤ q) (WXx D ax cls σ ++ WMm D am cls τ)) (hS : va_S (fun q : Nat => s.heap.size ≤ q) s.heap H locs) {ls : Array Slot} (hl : lv_has ls 4 [(0, .ref b), (1, .ref (ax 0)), (2, .ref (am 0)), (3, .int (nI (7 * j)))])
    (kk : ∀ (H1 : Heap) (locs1 : List Loc) (σ1 τ1 : Mem), Rel σ1 τ1 → va_P D vwCl (WXx D ax cls σ1 ++ WMm D am cls τ1) H1 → va_D (fun q : Nat => s.heap.size ≤ q) (WXx D ax cls σ1 ++ WMm D am cls τ1) → va_S (fun q : Nat => s.heap.size ≤ q) s.heap H1 locs1 → W p l e room_1 s m #[Value.ref b] below meth c H1 locs1 89 1268 Q (F0 m 1145 ls [])) : W p l e room_1 s m #[Value.ref b] below meth c H locs 89 1268 Q (F0 m 201 ls []) := by
  refine lv_aload_n hx hb dL_law_201 rfl (lv_at hl 1 rfl) ?_
  refine lv_aload_n hx hb dL_law_202 rfl (lv_at hl 0 rfl) ?_
  refine lv_iload_n hx hb dL_law_203 rfl (lv_at hl 3 rfl) ?_
  refine lv_iconst (v := 1) hx hb dL_law_204 (by decide) ?_
  refine lv_iadd hx hb dL_law_205 ?_
  refine lv_nam (show nI (7 * j + 1) = nI (7 * j) + 1 from ixk j 1) ?_
  refine va_sld hx hb hX hbl hbA hS (sx_in hj (show 1 < 7 by decide) hL) dL_law_206 ?_
  refine lv_aload_n hx hb dL_law_207 rfl (lv_at hl 0 rfl) ?_
  refine lv_iload_n hx hb dL_law_208 rfl (lv_at hl 3 rfl) ?_
  refine lv_iconst (v := 2) hx hb dL_law_209 (by decide) ?_
  refine lv_iadd hx hb dL_law_210 ?_
  refine lv_nam (show nI (7 * j + 2) = nI (7 * j) + 2 from ixk j 2) ?_
  refine va_sld hx hb hX hbl hbA hS (sx_in hj (show 2 < 7 by decide) hL) dL_law_211 ?_
  obtain ⟨r0, eX0, eM0⟩ := r_ofPerson (xs (nI (7 * j + 1)).toNatClampNeg) (xs (nI (7 * j + 2)).toNatClampNeg) hR
  refine x_calli (x_runV Xx (okx hD) hP hS hl.1 (As := [.int (xs (nI (7 * j + 1)).toNatClampNeg), .int (xs (nI (7 * j + 2)).toNatClampNeg)]) (rest := []) (k_X6_ofPerson (okx hD) (xs (nI (7 * j + 1)).toNatClampNeg) (xs (nI (7 * j + 2)).toNatClampNeg) σ eX0) lt_X6 (e_X6 _) rfl wM_L_18 wI_yX6_ofPerson wS_yX6_ofPerson wN_X6 wC_yX6_ofPerson hd_X6_ofPerson rfl ⟨rfl, rfl⟩ ⟨(by decide), (by decide)⟩ ⟨by decide, by decide⟩ rfl (Nat.le_of_ble_eq_true rfl) dL_law_212) hS (fun H locs hP hS => ?_)
  replace hP : va_P D vwCl (WXx D ax cls σ ++ WMm D am cls τ) H := hP
  refine lv_aload_n hx hb dL_law_215 rfl (lv_at hl 2 rfl) ?_
  refine lv_aload_n hx hb dL_law_216 rfl (lv_at hl 0 rfl) ?_
  refine lv_iload_n hx hb dL_law_217 rfl (lv_at hl 3 rfl) ?_
  refine lv_iconst (v := 1) hx hb dL_law_218 (by decide) ?_
  refine lv_iadd hx hb dL_law_219 ?_
  refine lv_nam (show nI (7 * j + 1) = nI (7 * j) + 1 from ixk j 1) ?_
  refine va_sld hx hb hX hbl hbA hS (sx_in hj (show 1 < 7 by decide) hL) dL_law_220 ?_
  refine lv_aload_n hx hb dL_law_221 rfl (lv_at hl 0 rfl) ?_
  refine lv_iload_n hx hb dL_law_222 rfl (lv_at hl 3 rfl) ?_
  refine lv_iconst (v := 2) hx hb dL_law_223 (by decide) ?_
  refine lv_iadd hx hb dL_law_224 ?_
  refine lv_nam (show nI (7 * j + 2) = nI (7 * j) + 2 from ixk j 2) ?_
  refine va_sld hx hb hX hbl hbA hS (sx_in hj (show 2 < 7 by decide) hL) dL_law_225 ?_
  refine x_calli (x_runV Xm (okm hD) (va_P_swap hP) hS hl.1 (As := [.int (xs (nI (7 * j + 1)).toNatClampNeg), .int (xs (nI (7 * j + 2)).toNatClampNeg)]) (rest := [.int r]) (k_X7_ofPerson (okm hD) (xs (nI (7 * j + 1)).toNatClampNeg) (xs (nI (7 * j + 2)).toNatClampNeg) τ eM0) lt_X7 (e_X7 _) rfl wM_L_22 wI_yX7_ofPerson wS_yX7_ofPerson wN_X7 wC_yX7_ofPerson hd_X7_ofPerson rfl ⟨rfl, rfl⟩ ⟨(by decide), (by decide)⟩ ⟨by decide, by decide⟩ rfl (Nat.le_of_ble_eq_true rfl) dL_law_226) hS (fun H locs hP hS => ?_)
  refine lv_icmp_eq (tgt := 1145) hx hb dL_law_229 (by decide) (fun cz => ?_) (fun cz => absurd rfl cz)
  exact kk H locs σ τ hR (va_P_swap hP) (LD_any hD) hS
