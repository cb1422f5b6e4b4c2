-- the law: its words (the skeleton), its loop (gen6.py)
/-! THE CLAIM OUT OF ONE WALK OF THE LAW'S BODY. Your part is whole_start (and what it stands on); all else here is the same for every law, but numbers. -/
def R_law : String := "LentYouthsLaw"
def lw_P (b : Addr) (xs : List Int32) (args : Array Value) (s : State) : Prop := args = #[.ref b] ∧ s.IntsAt b xs ∧ xs.length ≤ 448 ∧ (Jvm.Cond.and given_1 narrow_1).before args s = true
def lw_Q (_ : Array Value) (s : State) (o : Outcome) (t : State) : Prop := o = .returned (some (.int 1)) ∧ Framed s o t [] 600000 7302250
def lw_Z (below : List Frame) (a : Array Value) (s : State) : State → Prop := fun t => ∃ o, t.status = .running ∧ Ended t below o ∧ lw_Q a s o t
/-- the law's own end, with 1 on the stack, nothing written that was there before, its room as the claim has it -/
theorem lw_ret {p : Program} {l : Launch} {e : Env} {s : State} {m : MethodId} {below : List Frame} {meth : Method} {c : Code} {b : Nat} (hx : p.tables.exec = Jvm.exec) (hb : c.code = code) (hr : meth.sig.returnType = ret) (hlocks : meth.locks = false) {pc : Nat} {H : Heap} {ls : Array Slot} (hdg : decode code pc = .ok (.ireturn, 1)) : W p l e room_1 s m #[Value.ref b] below meth c H [] 600000 7302250 (lw_Z below #[Value.ref b] s) (F0 m pc ls [.int 1]) := by
  intro T hT X
  obtain ⟨fs, hret, hrun, hended, hW, hframe⟩ := X.leave (v := some (.int 1)) (hlocks := hlocks) (fun h => by rw [hr] at h; cases h)
  have hmeth' : T.vm.method? m = some meth := X.method'
  refine ⟨T.setFrames fs, ?_, .returned (some (.int 1)), hrun, hended, rfl, ⟨_, rfl⟩, hW, hframe⟩
  jvm_step X.here [X.here.top, hx, hb, hdg, hmeth', hr, ret, narrow_b1]
  (try refine ⟨rfl, ?_⟩); (try refine ⟨rfl, ?_⟩)
  first | (intro acts; rw [hret _ acts rfl rfl rfl]) | rw [hret _ _ rfl rfl rfl]
  exact Steps.refl _
/-- what holds at the law's entry: the machine, the code, the tables' words (any of lw_tbl by 'hts w (by decide +kernel)'), the script of L ints xs at the cell b, what the Statement gives of the start (any of its parts by flat_of_before) -/
def lw_At (p : Program) (s : State) (m : MethodId) (meth : Method) (c : Code) (b L : Nat) (xs : Nat → Int32) : Prop :=
  p.tables.exec = Jvm.exec ∧ c.code = code ∧ meth.sig.returnType = ret ∧ c.maxLocals = 4 ∧ s.vm.findClass R_law = some m.cls ∧ (∀ w ∈ lw_tbl, w.before #[Value.ref b] s = true) ∧ va_X b L xs s s.heap ∧ b < s.heap.size ∧ meth.locks = false ∧ (Jvm.Cond.and given_1 narrow_1).before #[Value.ref b] s = true
set_option maxHeartbeats 4000000 in
set_option maxRecDepth 100000 in
theorem law_loop {p : Program} {l : Launch} {e : Env} {s : State} {m : MethodId} {below : List Frame} {meth : Method} {c : Code} {D : va_G} {ax am : Nat → Nat} {cls : Nat → ClassId} {b L : Nat} {xs : Nat → Int32} (hL : L ≤ 448) (C0 : lw_At p s m meth c b L xs) (Xx : ∀ τ, CX (Thx D ax am cls s.heap.size τ) p s m #[Value.ref b] c RL cL_law 4) (Xm : ∀ σ, CX (Thm D ax am cls s.heap.size σ) p s m #[Value.ref b] c RL cL_law 4) :
    ∀ (n j : Nat), j ≤ 64 → 65 - j < n → ∀ (σ τ : Mem) (H : Heap) (locs : List Loc) (ls : Array Slot), Rel σ τ → va_P D vwCl (WXx D ax cls σ ++ WMm D am cls τ) H → va_D (fun q : Nat => s.heap.size ≤ q) (WXx D ax cls σ ++ WMm D am cls τ) → va_S (fun q : Nat => s.heap.size ≤ q) s.heap H locs → lv_has ls 4 [(0, .ref b), (1, .ref (ax 0)), (2, .ref (am 0)), (3, .int (nI (7 * j)))] → W p l e room_1 s m #[Value.ref b] below meth c H locs 91 1268 (lw_Z below #[Value.ref b] s) (F0 m 18 ls []) := by
  obtain ⟨hx, hb, hr, hml, hown, hts, hX, hbl, hlocks, hgv⟩ := C0
  have hbA : ¬ (fun q : Nat => s.heap.size ≤ q) b := Nat.not_le.mpr hbl
  intro n
  induction n with
  | zero => intro j h1 h2; omega
  | succ n ih =>
    intro j hj64 hn σ τ H locs ls hR hP hD hS hl
    refine lv_iload_n hx hb dL_law_18 rfl (lv_at hl 3 rfl) ?_
    refine lv_aload_n hx hb dL_law_19 rfl (lv_at hl 0 rfl) ?_
    refine va_slen hx hb hX hbl hbA hS dL_law_20 ?_
    refine lv_bipush (v := 7) hx hb dL_law_21 (by decide) ?_
    refine lv_isub hx hb dL_law_23 ?_
    refine lv_icmp_gt (tgt := 1151) hx hb dL_law_24 (by decide) (fun cz => ?_) (fun cz => ?_)
    · refine lv_iconst (v := 1) hx hb dL_law_1151 (by decide) ?_
      refine va_forget (fun q hq => hS.2.2 q hq) ?_
      refine W.widen (k := 600000) (n := 7302250) (by decide) (by decide) ?_
      exact lw_ret hx hb hr hlocks dL_law_1152
    · have hj : 7 * j + 7 ≤ L := Decidable.byContradiction fun q => cz ((law_go hL (by omega)).mpr q)
      have kk : ∀ (H1 : Heap) (locs1 : List Loc) (σ1 τ1 : Mem), Rel σ1 τ1 → va_P D vwCl (WXx D ax cls σ1 ++ WMm D am cls τ1) H1 → va_D (fun q : Nat => s.heap.size ≤ q) (WXx D ax cls σ1 ++ WMm D am cls τ1) → va_S (fun q : Nat => s.heap.size ≤ q) s.heap H1 locs1 → W p l e room_1 s m #[Value.ref b] below meth c H1 locs1 91 1268 (lw_Z below #[Value.ref b] s) (F0 m 1145 ls []) := by
        intro H1 locs1 σ1 τ1 hR1 hP1 hD1 hS1
        refine lv_iinc (v := nI (7 * (j + 1))) (lv' := [(3, .int (nI (7 * (j + 1)))), (0, .ref b), (1, .ref (ax 0)), (2, .ref (am 0))]) hx hb dL_law_1145 hl (k := 3) rfl (nI_add (7 * j) 7) (by decide) rfl (fun ls hl => ?_)
        refine lv_goto (tgt := 18) hx hb dL_law_1148 (by decide) ?_
        exact ih (j + 1) (by omega) (by omega) σ1 τ1 H1 locs1 ls hR1 hP1 hD1 hS1 (lv_sub hl [1, 2, 3, 0] rfl)
      refine lv_aload_n hx hb dL_law_27 rfl (lv_at hl 0 rfl) ?_
      refine lv_iload_n hx hb dL_law_28 rfl (lv_at hl 3 rfl) ?_
      refine va_sld hx hb hX hbl hbA hS (sx_in hj (show 0 < 7 by decide) hL) dL_law_29 ?_
      refine lv_bipush (v := 31) hx hb dL_law_30 (by decide) ?_
      refine lv_iand hx hb dL_law_32 ?_
      generalize xs (nI (7 * j)).toNatClampNeg &&& 31 = w
      by_cases w0 : w = 0
      · refine lv_tableIn (off := 115) (tgt := 148) hx hb dL_law_33 (by rw [w0]; decide) (by rw [w0]; decide) (by rw [w0]; rfl) (by decide) ?_
        exact law_0 hL hj hx hb hX hbl hbA Xx Xm hR hP hD hS hl kk
      by_cases w1 : w = 1
      · refine lv_tableIn (off := 168) (tgt := 201) hx hb dL_law_33 (by rw [w1]; decide) (by rw [w1]; decide) (by rw [w1]; rfl) (by decide) ?_
        exact law_1 hL hj hx hb hX hbl hbA Xx Xm hR hP hD hS hl kk
      by_cases w2 : w = 2
      · refine lv_tableIn (off := 201) (tgt := 234) hx hb dL_law_33 (by rw [w2]; decide) (by rw [w2]; decide) (by rw [w2]; rfl) (by decide) ?_
        exact law_2 hL hj hx hb hX hbl hbA Xx Xm hR hP hD hS hl kk
      by_cases w3 : w = 3
      · refine lv_tableIn (off := 234) (tgt := 267) hx hb dL_law_33 (by rw [w3]; decide) (by rw [w3]; decide) (by rw [w3]; rfl) (by decide) ?_
        exact law_3 hL hj hx hb hX hbl hbA Xx Xm hR hP hD hS hl kk
      by_cases w4 : w = 4
      · refine lv_tableIn (off := 267) (tgt := 300) hx hb dL_law_33 (by rw [w4]; decide) (by rw [w4]; decide) (by rw [w4]; rfl) (by decide) ?_
        exact law_4 hL hj hx hb hX hbl hbA Xx Xm hR hP hD hS hl kk
      by_cases w5 : w = 5
      · refine lv_tableIn (off := 330) (tgt := 363) hx hb dL_law_33 (by rw [w5]; decide) (by rw [w5]; decide) (by rw [w5]; rfl) (by decide) ?_
        exact law_5 hL hj hx hb hX hbl hbA Xx Xm hR hP hD hS hl kk
      by_cases w6 : w = 6
      · refine lv_tableIn (off := 363) (tgt := 396) hx hb dL_law_33 (by rw [w6]; decide) (by rw [w6]; decide) (by rw [w6]; rfl) (by decide) ?_
        exact law_6 hL hj hx hb hX hbl hbA Xx Xm hR hP hD hS hl kk
      by_cases w7 : w = 7
      · refine lv_tableIn (off := 386) (tgt := 419) hx hb dL_law_33 (by rw [w7]; decide) (by rw [w7]; decide) (by rw [w7]; rfl) (by decide) ?_
        exact law_7 hL hj hx hb hX hbl hbA Xx Xm hR hP hD hS hl kk
      by_cases w8 : w = 8
      · refine lv_tableIn (off := 409) (tgt := 442) hx hb dL_law_33 (by rw [w8]; decide) (by rw [w8]; decide) (by rw [w8]; rfl) (by decide) ?_
        exact law_8 hL hj hx hb hX hbl hbA Xx Xm hR hP hD hS hl kk
      by_cases w9 : w = 9
      · refine lv_tableIn (off := 468) (tgt := 501) hx hb dL_law_33 (by rw [w9]; decide) (by rw [w9]; decide) (by rw [w9]; rfl) (by decide) ?_
        exact law_9 hL hj hx hb hX hbl hbA Xx Xm hR hP hD hS hl kk
      by_cases w10 : w = 10
      · refine lv_tableIn (off := 491) (tgt := 524) hx hb dL_law_33 (by rw [w10]; decide) (by rw [w10]; decide) (by rw [w10]; rfl) (by decide) ?_
        exact law_10 hL hj hx hb hX hbl hbA Xx Xm hR hP hD hS hl kk
      by_cases w11 : w = 11
      · refine lv_tableIn (off := 566) (tgt := 599) hx hb dL_law_33 (by rw [w11]; decide) (by rw [w11]; decide) (by rw [w11]; rfl) (by decide) ?_
        exact law_11 hL hj hx hb hX hbl hbA Xx Xm hR hP hD hS hl kk
      by_cases w12 : w = 12
      · refine lv_tableIn (off := 629) (tgt := 662) hx hb dL_law_33 (by rw [w12]; decide) (by rw [w12]; decide) (by rw [w12]; rfl) (by decide) ?_
        exact law_12 hL hj hx hb hX hbl hbA Xx Xm hR hP hD hS hl kk
      by_cases w13 : w = 13
      · refine lv_tableIn (off := 692) (tgt := 725) hx hb dL_law_33 (by rw [w13]; decide) (by rw [w13]; decide) (by rw [w13]; rfl) (by decide) ?_
        exact law_13 hL hj hx hb hX hbl hbA Xx Xm hR hP hD hS hl kk
      by_cases w14 : w = 14
      · refine lv_tableIn (off := 768) (tgt := 801) hx hb dL_law_33 (by rw [w14]; decide) (by rw [w14]; decide) (by rw [w14]; rfl) (by decide) ?_
        exact law_14 hL hj hx hb hX hbl hbA Xx Xm hR hP hD hS hl kk
      by_cases w15 : w = 15
      · refine lv_tableIn (off := 811) (tgt := 844) hx hb dL_law_33 (by rw [w15]; decide) (by rw [w15]; decide) (by rw [w15]; rfl) (by decide) ?_
        exact law_15 hL hj hx hb hX hbl hbA Xx Xm hR hP hD hS hl kk
      by_cases w16 : w = 16
      · refine lv_tableIn (off := 834) (tgt := 867) hx hb dL_law_33 (by rw [w16]; decide) (by rw [w16]; decide) (by rw [w16]; rfl) (by decide) ?_
        exact law_16 hL hj hx hb hX hbl hbA Xx Xm hR hP hD hS hl kk
      by_cases w17 : w = 17
      · refine lv_tableIn (off := 877) (tgt := 910) hx hb dL_law_33 (by rw [w17]; decide) (by rw [w17]; decide) (by rw [w17]; rfl) (by decide) ?_
        exact law_17 hL hj hx hb hX hbl hbA Xx Xm hR hP hD hS hl kk
      by_cases w18 : w = 18
      · refine lv_tableIn (off := 921) (tgt := 954) hx hb dL_law_33 (by rw [w18]; decide) (by rw [w18]; decide) (by rw [w18]; rfl) (by decide) ?_
        exact law_18 hL hj hx hb hX hbl hbA Xx Xm hR hP hD hS hl kk
      by_cases w19 : w = 19
      · refine lv_tableIn (off := 984) (tgt := 1017) hx hb dL_law_33 (by rw [w19]; decide) (by rw [w19]; decide) (by rw [w19]; rfl) (by decide) ?_
        exact law_19 hL hj hx hb hX hbl hbA Xx Xm hR hP hD hS hl kk
      by_cases w20 : w = 20
      · refine lv_tableIn (off := 1007) (tgt := 1040) hx hb dL_law_33 (by rw [w20]; decide) (by rw [w20]; decide) (by rw [w20]; rfl) (by decide) ?_
        exact law_20 hL hj hx hb hX hbl hbA Xx Xm hR hP hD hS hl kk
      by_cases w21 : w = 21
      · refine lv_tableIn (off := 1030) (tgt := 1063) hx hb dL_law_33 (by rw [w21]; decide) (by rw [w21]; decide) (by rw [w21]; rfl) (by decide) ?_
        exact law_21 hL hj hx hb hX hbl hbA Xx Xm hR hP hD hS hl kk
      by_cases w22 : w = 22
      · refine lv_tableIn (off := 1063) (tgt := 1096) hx hb dL_law_33 (by rw [w22]; decide) (by rw [w22]; decide) (by rw [w22]; rfl) (by decide) ?_
        exact law_22 hL hj hx hb hX hbl hbA Xx Xm hR hP hD hS hl kk
      by_cases w23 : w = 23
      · refine lv_tableIn (off := 1076) (tgt := 1109) hx hb dL_law_33 (by rw [w23]; decide) (by rw [w23]; decide) (by rw [w23]; rfl) (by decide) ?_
        exact law_23 hL hj hx hb hX hbl hbA Xx Xm hR hP hD hS hl kk
      by_cases w24 : w = 24
      · refine lv_tableIn (off := 1089) (tgt := 1122) hx hb dL_law_33 (by rw [w24]; decide) (by rw [w24]; decide) (by rw [w24]; rfl) (by decide) ?_
        exact law_24 hL hj hx hb hX hbl hbA Xx Xm hR hP hD hS hl kk
      refine lv_tableOut (tgt := 1145) hx hb dL_law_33 (by have a0 := lv_neT w0 (a := 0) rfl; have a1 := lv_neT w1 (a := 1) rfl; have a2 := lv_neT w2 (a := 2) rfl; have a3 := lv_neT w3 (a := 3) rfl; have a4 := lv_neT w4 (a := 4) rfl; have a5 := lv_neT w5 (a := 5) rfl; have a6 := lv_neT w6 (a := 6) rfl; have a7 := lv_neT w7 (a := 7) rfl; have a8 := lv_neT w8 (a := 8) rfl; have a9 := lv_neT w9 (a := 9) rfl; have a10 := lv_neT w10 (a := 10) rfl; have a11 := lv_neT w11 (a := 11) rfl; have a12 := lv_neT w12 (a := 12) rfl; have a13 := lv_neT w13 (a := 13) rfl; have a14 := lv_neT w14 (a := 14) rfl; have a15 := lv_neT w15 (a := 15) rfl; have a16 := lv_neT w16 (a := 16) rfl; have a17 := lv_neT w17 (a := 17) rfl; have a18 := lv_neT w18 (a := 18) rfl; have a19 := lv_neT w19 (a := 19) rfl; have a20 := lv_neT w20 (a := 20) rfl; have a21 := lv_neT w21 (a := 21) rfl; have a22 := lv_neT w22 (a := 22) rfl; have a23 := lv_neT w23 (a := 23) rfl; have a24 := lv_neT w24 (a := 24) rfl; omega) (by decide) ?_
      exact kk H locs σ τ hR hP hD hS
