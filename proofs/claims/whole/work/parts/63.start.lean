-- the law's start (gen7.py)
theorem D_snd {A : Nat → Prop} {w1 w2 : va_W} (h : va_D A (w1 ++ w2)) : va_D A w2 := ⟨fun i j p q hi hj e => by
  have := h.1 _ _ p q (app_at hi) (app_at hj) e
  omega, fun k q hk => h.2 _ q (app_at hk)⟩
theorem P_snd {D : va_G} {cl : List vw_C} {w1 w2 : va_W} {H : Heap} (h : va_P D cl (w1 ++ w2) H) : va_P D cl w2 H := fun k q hk => h _ q (app_at hk)
set_option maxHeartbeats 4000000 in
set_option maxRecDepth 100000 in
theorem whole_start {p : Program} {e : Env} {s : State} {m : MethodId} {below : List Frame} {meth : Method} {c : Code} (l : Launch) (hflags : l.flags = flags0) {b L : Nat} {xs : Nat → Int32} (hL : L ≤ 448) (C0 : lw_At p s m meth c b L xs) : W p l e room_1 s m #[Value.ref b] below meth c s.heap [] 0 0 (lw_Z below #[Value.ref b] s) (entryFrame m ([Value.ref b] : List Value).toArray 4) := by
  obtain ⟨hx, hb, hr, hml, hown, hts, hX, hbl, hlocks, hgv⟩ := id C0
  have hown : s.vm.findClass RL = some m.cls := hown
  have htw : ∀ w ∈ wAll, w.before #[Value.ref b] s = true := fun w hw => hts w (wAll_in hw)
  have hA : ∀ q : Nat, s.heap.size ≤ q → (fun q : Nat => s.heap.size ≤ q) q := fun _ h => h
  obtain ⟨c0, i0, hKn0⟩ := u_known (C := RX0) (T := TX0) (N := 8) (n := 8) htw wU_X0 (htw _ wX_X0)
  obtain ⟨c1, i1, hKn1⟩ := u_known (C := RX1) (T := TX1) (N := 2) (n := 2) htw wU_X1 (htw _ wX_X1)
  obtain ⟨c2, i2, hKn2⟩ := u_known (C := RX2) (T := TX2) (N := 2) (n := 2) htw wU_X2 (htw _ wX_X2)
  obtain ⟨c3, i3, hKn3⟩ := u_known (C := RX3) (T := TX3) (N := 4) (n := 4) htw wU_X3 (htw _ wX_X3)
  obtain ⟨c4, i4, hKn4⟩ := u_known (C := RX4) (T := TX4) (N := 4) (n := 4) htw wU_X4 (htw _ wX_X4)
  obtain ⟨c5, i5, hKn5⟩ := u_known (C := RX5) (T := TX5) (N := 4) (n := 4) htw wU_X5 (htw _ wX_X5)
  obtain ⟨c6, i6, hKn6⟩ := u_known (C := RX6) (T := TX6) (N := 10) (n := 10) htw wU_X6 (htw _ wX_X6)
  obtain ⟨c7, i7, hKn7⟩ := u_known (C := RX7) (T := TX7) (N := 30) (n := 30) htw wU_X7 (htw _ wX_X7)
  obtain ⟨dC, dI, hKc⟩ : ∃ (dC : Nat → ClassId) (dI : Nat → Nat → Nat), ∀ (k : Nat) (q : vw_C), vwCl[k]? = some q → u_Kn s q.1 q.2.1 q.2.2 (dC k) (dI k) := by
    refine ⟨fun k => if k = 0 then c0 else if k = 1 then c1 else if k = 2 then c2 else if k = 3 then c3 else if k = 4 then c4 else if k = 5 then c5 else if k = 6 then c6 else c7, fun k => if k = 0 then i0 else if k = 1 then i1 else if k = 2 then i2 else if k = 3 then i3 else if k = 4 then i4 else if k = 5 then i5 else if k = 6 then i6 else i7, ?_⟩
    intro k q hq
    match k, hq with
    | 0, hq => cases hq; exact hKn0
    | 1, hq => cases hq; exact hKn1
    | 2, hq => cases hq; exact hKn2
    | 3, hq => cases hq; exact hKn3
    | 4, hq => cases hq; exact hKn4
    | 5, hq => cases hq; exact hKn5
    | 6, hq => cases hq; exact hKn6
    | 7, hq => cases hq; exact hKn7
    | k + 8, hq => simp [vwCl] at hq
  have hS : va_S (fun q : Nat => s.heap.size ≤ q) s.heap s.heap [] := va_S.rf
  have hK : va_K (dC, dI) vwCl [] s := ⟨hKc, fun k q h => by simp at h⟩
  have hP : va_P (dC, dI) vwCl [] s.heap := fun k q h => by simp at h
  have hD : va_D (fun q : Nat => s.heap.size ≤ q) [] := ⟨fun i j p q h => by simp at h, fun k q h => by simp at h⟩
  have hNW : NWS s := ⟨⟨va_AO.of (hts _ wR_X5), va_AO.of (hts _ wR_X3), va_AO.of (hts _ wR_X0)⟩, va_Nw.of rfl (hts _ wQ_X6_25), va_Nw.of rfl (hts _ wQ_X6_32), va_Nw.of rfl (hts _ wQ_X6_46), va_Nw.of rfl (hts _ wQ_X6_65), va_Nw.of rfl (hts _ wQ_X6_66), va_Nw.of rfl (hts _ wQ_X1_21)⟩
  have hNest : va_Nw wNest s := va_Nw.of rfl (hts _ wQ_X3_30)
  have hl := lv_entry ([.ref b]) (n := 4) (Nat.le_of_ble_eq_true rfl)
  rw [lg_entry_eq]
  generalize (lg_sl ([.ref b]) ++ List.replicate (4 - (lg_sl ([.ref b])).length) Slot.unset).toArray = ls at hl ⊢
  have hl : lv_has ls 4 [(0, .ref b)] := hl
  refine va_new (ci := 6) (fs := [.null, .null, .null, .null, .null, .null, .null, .int 0, .int 0, .int 0]) (C := RX6) (T := TX6) (N := 10) hx hb htw wU_X6 tyX6 tyX6_ok hown (htw _ wD_L_7) (htw _ wX_X6) (htw _ wN_X6) hK hP hD hS hA rfl (fun j hj => by rcases (show j = 0 ∨ j = 1 ∨ j = 2 ∨ j = 3 ∨ j = 4 ∨ j = 5 ∨ j = 6 ∨ j = 7 ∨ j = 8 ∨ j = 9 by omega) with rfl | rfl | rfl | rfl | rfl | rfl | rfl | rfl | rfl | rfl <;> rfl) (Nat.le_of_ble_eq_true rfl) (Nat.le_of_ble_eq_true rfl) dL_law_0 (fun h0 H hP hD hS => ?_)
  have hP : va_P (dC, dI) vwCl ([] ++ [(h0, .inr (6, [.null, .null, .null, .null, .null, .null, .null, .int 0, .int 0, .int 0]))]) H := hP
  have hD : va_D (fun q : Nat => s.heap.size ≤ q) ([] ++ [(h0, .inr (6, [.null, .null, .null, .null, .null, .null, .null, .int 0, .int 0, .int 0]))]) := hD
  refine W.widen (k := 1) (n := 10) (by omega) (by omega) ?_
  refine lv_dup hx hb dL_law_3 rfl ?_
  have hPc : va_P (dC, dI) vwCl [(h0, .inr (6, [.null, .null, .null, .null, .null, .null, .null, .int 0, .int 0, .int 0]))] H := P_snd hP
  have hDc : va_D (fun q : Nat => s.heap.size ≤ q) [(h0, .inr (6, [.null, .null, .null, .null, .null, .null, .null, .int 0, .int 0, .int 0]))] := D_snd hD
  have hKc := hK.sub (tys' := []) [] rfl
  have hFc : ∀ q, va_A [(h0, .inr (6, [.null, .null, .null, .null, .null, .null, .null, .int 0, .int 0, .int 0]))] H.size q → (fun q : Nat => s.heap.size ≤ q) q := free2 (wr := []) hD hS hA
  refine va_callv (va_runI (As := []) (rest := [.ref h0]) ⟨hx, hb, hml, hown, htw⟩ (n_X6_init l dC dI h0 H.size) ⟨callB_of 0 htw (gAll wC_yX6_init) rfl rfl rfl (htw _ wN_X6) (htw _ wM_L_9) hd_X6_init ⟨Nat.le_of_ble_eq_true rfl, Nat.le_of_ble_eq_true rfl⟩, rfl, htw _ wI_yX6_init⟩ ⟨fun a U g mk q => ⟨q.1, q.2.call⟩, fun U hU hW => ⟨rfl, by rw [hU], by rw [hU]; exact hPc, va_K.moved hW.alike hKc, hDc.weaken (fun _ _ _ _ => trivial), hNW.warm hW⟩⟩ rfl rfl hl.1 rfl (lv_room (Nat.le_of_ble_eq_true rfl)) dL_law_4 ⟨Nat.le_of_ble_eq_true rfl, Nat.le_of_ble_eq_true rfl⟩) hS (fun q _ h => hFc q h) hFc (fun u t H1 locs ht hvm _ hB hz1 hk1 hS => ?_)
  have hK1 := va_K.moved hvm.symm hB.2.1
  have hP1 := wX_born (base := 0) (R := []) hB
  rw [ht] at hP1
  have hD1 := dX_born hB (eX (Tx (dC, dI) (adX h0 u) u.2)) sX
  obtain ⟨hP, hD⟩ := join2 (wr := []) hP hD hk1 hFc hP1 hD1
  have hP : va_P (dC, dI) vwCl (WXx (dC, dI) (adX h0 u) u.2 sX) H1 := hP
  have hD : va_D (fun q : Nat => s.heap.size ≤ q) (WXx (dC, dI) (adX h0 u) u.2 sX) := hD
  generalize H1 = H at hP hS ⊢
  refine W.widen (k := 68) (n := 819) (by omega) (by omega) ?_
  refine lv_astore_n (lv' := [(1, .ref h0), (0, .ref b)]) hx hb dL_law_7 rfl hl (by decide) rfl (fun ls hl => ?_)
  refine va_new (ci := 7) (fs := [.int 0, .int 0, .null, .null, .null, .null, .int 0, .int 0, .null, .null, .null, .null, .null, .null, .null, .null, .null, .int 0, .int 0, .null, .null, .int 0, .null, .null, .null, .null, .null, .null, .null, .int 0]) (C := RX7) (T := TX7) (N := 30) hx hb htw wU_X7 tyX7 tyX7_ok hown (htw _ wD_L_10) (htw _ wX_X7) (htw _ wN_X7) hK hP hD hS hA rfl (fun j hj => by rcases (show j = 0 ∨ j = 1 ∨ j = 2 ∨ j = 3 ∨ j = 4 ∨ j = 5 ∨ j = 6 ∨ j = 7 ∨ j = 8 ∨ j = 9 ∨ j = 10 ∨ j = 11 ∨ j = 12 ∨ j = 13 ∨ j = 14 ∨ j = 15 ∨ j = 16 ∨ j = 17 ∨ j = 18 ∨ j = 19 ∨ j = 20 ∨ j = 21 ∨ j = 22 ∨ j = 23 ∨ j = 24 ∨ j = 25 ∨ j = 26 ∨ j = 27 ∨ j = 28 ∨ j = 29 by omega) with rfl | rfl | rfl | rfl | rfl | rfl | rfl | rfl | rfl | rfl | rfl | rfl | rfl | rfl | rfl | rfl | rfl | rfl | rfl | rfl | rfl | rfl | rfl | rfl | rfl | rfl | rfl | rfl | rfl | rfl <;> rfl) (Nat.le_of_ble_eq_true rfl) (Nat.le_of_ble_eq_true rfl) dL_law_8 (fun h1 H hP hD hS => ?_)
  have hP : va_P (dC, dI) vwCl (WXx (dC, dI) (adX h0 u) u.2 sX ++ [(h1, .inr (7, [.int 0, .int 0, .null, .null, .null, .null, .int 0, .int 0, .null, .null, .null, .null, .null, .null, .null, .null, .null, .int 0, .int 0, .null, .null, .int 0, .null, .null, .null, .null, .null, .null, .null, .int 0]))]) H := hP
  have hD : va_D (fun q : Nat => s.heap.size ≤ q) (WXx (dC, dI) (adX h0 u) u.2 sX ++ [(h1, .inr (7, [.int 0, .int 0, .null, .null, .null, .null, .int 0, .int 0, .null, .null, .null, .null, .null, .null, .null, .null, .null, .int 0, .int 0, .null, .null, .int 0, .null, .null, .null, .null, .null, .null, .null, .int 0]))]) := hD
  refine W.widen (k := 69) (n := 849) (by omega) (by omega) ?_
  refine lv_dup hx hb dL_law_11 rfl ?_
  have hPc : va_P (dC, dI) vwCl [(h1, .inr (7, [.int 0, .int 0, .null, .null, .null, .null, .int 0, .int 0, .null, .null, .null, .null, .null, .null, .null, .null, .null, .int 0, .int 0, .null, .null, .int 0, .null, .null, .null, .null, .null, .null, .null, .int 0]))] H := P_snd hP
  have hDc : va_D (fun q : Nat => s.heap.size ≤ q) [(h1, .inr (7, [.int 0, .int 0, .null, .null, .null, .null, .int 0, .int 0, .null, .null, .null, .null, .null, .null, .null, .null, .null, .int 0, .int 0, .null, .null, .int 0, .null, .null, .null, .null, .null, .null, .null, .int 0]))] := D_snd hD
  have hKc := hK.sub (tys' := []) [] rfl
  have hFc : ∀ q, va_A [(h1, .inr (7, [.int 0, .int 0, .null, .null, .null, .null, .int 0, .int 0, .null, .null, .null, .null, .null, .null, .null, .null, .null, .int 0, .int 0, .null, .null, .int 0, .null, .null, .null, .null, .null, .null, .null, .int 0]))] H.size q → (fun q : Nat => s.heap.size ≤ q) q := free2 (wr := WXx (dC, dI) (adX h0 u) u.2 sX) hD hS hA
  refine va_callv (va_runI (As := []) (rest := [.ref h1]) ⟨hx, hb, hml, hown, htw⟩ (n_X7_init l dC dI h1 H.size) ⟨callB_of 0 htw (gAll wC_yX7_init) rfl rfl rfl (htw _ wN_X7) (htw _ wM_L_12) hd_X7_init ⟨Nat.le_of_ble_eq_true rfl, Nat.le_of_ble_eq_true rfl⟩, rfl, htw _ wI_yX7_init⟩ ⟨fun a U g mk q => ⟨q.1, q.2.call⟩, fun U hU hW => ⟨rfl, by rw [hU], by rw [hU]; exact hPc, va_K.moved hW.alike hKc, hDc.weaken (fun _ _ _ _ => trivial), hNW.warm hW⟩⟩ rfl rfl hl.1 rfl (lv_room (Nat.le_of_ble_eq_true rfl)) dL_law_12 ⟨Nat.le_of_ble_eq_true rfl, Nat.le_of_ble_eq_true rfl⟩) hS (fun q _ h => hFc q h) hFc (fun v t H1 locs ht hvm _ hB hz1 hk1 hS => ?_)
  have hK2 := va_K.moved hvm.symm hB.2.1
  have hKu := hK1.app hK2
  have e0 : v.2 0 = u.2 0 := va_K_uniq hKu (i := 5) (j := 0) rfl rfl
  have e1 : v.2 1 = u.2 1 := va_K_uniq hKu (i := 6) (j := 1) rfl rfl
  have hP1 := wM_born (base := 0) (R := []) hB e0 e1
  rw [ht] at hP1
  have hD1 := dM_born hB (eM (Tx (dC, dI) (adM h1 v) u.2)) sM
  obtain ⟨hP, hD⟩ := join2 (wr := WXx (dC, dI) (adX h0 u) u.2 sX) hP hD hk1 hFc hP1 hD1
  have hP : va_P (dC, dI) vwCl (WXx (dC, dI) (adX h0 u) u.2 sX ++ WMm (dC, dI) (adM h1 v) u.2 sM) H1 := hP
  have hD : va_D (fun q : Nat => s.heap.size ≤ q) (WXx (dC, dI) (adX h0 u) u.2 sX ++ WMm (dC, dI) (adM h1 v) u.2 sM) := hD
  refine W.widen (k := 91) (n := 1268) (by omega) (by omega) ?_
  refine lv_astore_n (lv' := [(2, .ref h1), (1, .ref h0), (0, .ref b)]) hx hb dL_law_15 rfl hl (by decide) rfl (fun ls hl => ?_)
  refine lv_iconst (v := 0) hx hb dL_law_16 (by decide) ?_
  refine lv_istore_n (lv' := [(3, .int 0), (2, .ref h1), (1, .ref h0), (0, .ref b)]) hx hb dL_law_17 rfl hl (by decide) rfl (fun ls hl => ?_)
  have hl : lv_has ls 4 [(0, .ref b), (1, .ref (adX h0 u 0)), (2, .ref (adM h1 v 0)), (3, .int (nI (7 * 0)))] := lv_sub hl [3, 2, 1, 0] rfl
  exact law_loop hL C0 (fun _ => ⟨hx, hb, hml, hown, htw, hK1, Nat.le_refl _, hNest⟩) (fun _ => ⟨hx, hb, hml, hown, htw, hK1, Nat.le_refl _, hNest⟩) 66 0 (by omega) (by omega) sX sM H1 _ ls rel_born hP hD hS hl
