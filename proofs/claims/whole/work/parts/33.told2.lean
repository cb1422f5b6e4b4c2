-- told, kinds, wears agree
theorem va_same {α : Type} (f : Nat → α) (p : Nat) : va_up f p (f p) = f := by
  funext q
  by_cases h : q = p
  · subst h; exact vup_s _ _ _
  · exact vup_n _ _ h
theorem dn_ge {j : Nat} (h : j < 2 ^ 31) : ¬ dn (j + 1) < 0 := nI_pos h
theorem toldX {F n r m p : Nat} {rw_ : Nat → Nat} {v6 l : Int32} {σ0 τ0 : Mem} {kk : Int32 → Int32 → Mem → Option (Int32 × Mem)} (hF0 : 50000 ≤ F) (h : RelN n r σ0 τ0) (hp : p < n) (hm : m ≤ 20) (hrw : ∀ j, j < 2 * m → rw_ j < n ∧ σ0 13 j = nI (rw_ j)) : ∀ (f j : Nat) (a : Int32 × Int32) (σ : Mem), j ≤ 64 → j < f → FrX σ0 σ →
    ∃ σ', X6_told_L45 F (nI p) (nI m) v6 l kk f a.1 a.2 (dn j) σ = kk (downC (fun k => cdV n m r (va_up (laF σ0) p l) (wF σ0) (va_up (scF σ0) p (nI k)) rw_ τ0) j a).1 (downC (fun k => cdV n m r (va_up (laF σ0) p l) (wF σ0) (va_up (scF σ0) p (nI k)) rw_ τ0) j a).2 σ' ∧ FrX σ0 σ' := by
  intro f
  induction f with
  | zero => intro j a σ h1 h2; omega
  | succ f ih =>
    intro j a σ h1 h2 hX
    rw [X6_told_L45]
    cases j with
    | zero =>
      rw [if_pos (show dn 0 < 0 by decide), downC]
      exact ⟨σ, rfl, hX⟩
    | succ j =>
      obtain ⟨σ1, e1, f1⟩ := x_could (F := F) (rw_ := rw_) hF0 h hX hp hm hrw (nI j) l
      rw [if_neg (dn_ge (by omega)), dn_s, show dn (j + 1) = nI j from rfl, e1, ob_e, downC]
      dsimp only
      by_cases c : cdV n m r (va_up (laF σ0) p l) (wF σ0) (va_up (scF σ0) p (nI j)) rw_ τ0 = 0
      · rw [if_pos c, if_pos c]
        exact ih j a σ1 (by omega) (by omega) f1
      · rw [if_neg c, if_neg c]
        exact ih j (a.1 + 1, nI j) σ1 (by omega) (by omega) f1
theorem toldM {F n r m fr p : Nat} {rw_ : Nat → Nat} {v2 v4 v6 v8 : Int32} {σ0 τ0 : Mem} {kk : Int32 → Int32 → Mem → Option (Int32 × Mem)} (hF0 : 50000 ≤ F) (h : RelN n r σ0 τ0) (hp : p < n) (hm : m ≤ 20) (efr : (60 : Int32) * v2 + v4 = nI fr) (hfr : fr + 2 * m ≤ 240) (hrw : ∀ j, j < 2 * m → rw_ j < n ∧ τ0 21 (fr + j) = nI (rw_ j)) : ∀ (f j : Nat) (a : Int32 × Int32) (τ : Mem), j ≤ 64 → 64 - j < f → FrC 2 p τ0 τ →
    ∃ τ', X7_told_L47 F (nI p) v2 v4 (nI m) v6 v8 kk f a.1 a.2 (nI j) τ = kk (upC (fun k => cdV n m r (va_up (laF σ0) p (laF σ0 p)) (wF σ0) (va_up (scF σ0) p (nI k)) rw_ τ0) (64 - j) j a).1 (upC (fun k => cdV n m r (va_up (laF σ0) p (laF σ0 p)) (wF σ0) (va_up (scF σ0) p (nI k)) rw_ τ0) (64 - j) j a).2 τ' ∧ FrC 2 p τ0 τ' := by
  have hn := h.1.2.1
  intro f
  induction f with
  | zero => intro j a τ h1 h2; omega
  | succ f ih =>
    intro j a τ h1 h2 hC
    rw [X7_told_L47]
    by_cases e : j = 64
    · subst e
      rw [if_pos (show (64 : Int32) ≤ nI 64 by decide), Nat.sub_self, upC]
      exact ⟨τ, rfl, hC⟩
    obtain ⟨b1, b2, b3, b4, ⟨kd, hkd, b5⟩, b6, b7, b8⟩ := h.2.1 p hp
    have k1 : u2 τ 2 p (nI j) 1 p = nI kd := by rw [u2_k _ _ _ (by decide), hC.1 1 (by decide) (by decide) (by decide)]; exact b5
    have k4 : u2 τ 2 p (nI j) 4 p = τ0 4 p := by rw [u2_k _ _ _ (by decide), hC.1 4 (by decide) (by decide) (by decide)]
    obtain ⟨τ1, e1, f1⟩ := hC.it (F := F) (rw_ := rw_) (val := nI j) (v := nI j) (l := laF σ0 p) hF0 h (Or.inr (Or.inl rfl)) hp hm hfr hrw hkd (u2_s _ _ _ _) k1 (by
      rw [k4]
      unfold laF X3_lasts
      rw [b1, b4, b5])
    have es : 64 - j = (64 - (j + 1)) + 1 := by omega
    rw [if_neg (show ¬ (64 : Int32) ≤ nI j from nI_ge (b := 64) (by omega) (by decide)), grd_t (inb_p hp hn), bnd_e, clN (show p < 2 ^ 31 by omega), efr, e1, ob_e, nI_1, es, upC]
    dsimp only
    unfold stpC
    by_cases c : cdV n m r (va_up (laF σ0) p (laF σ0 p)) (wF σ0) (va_up (scF σ0) p (nI j)) rw_ τ0 = 0
    · rw [if_pos c, if_pos c]
      exact ih (j + 1) a τ1 (by omega) (by omega) f1
    · rw [if_neg c, if_neg c]
      by_cases d : 0 ≤ a.2
      · rw [if_pos d, if_pos d]
        exact ih (j + 1) (a.1 + 1, a.2) τ1 (by omega) (by omega) f1
      · rw [if_neg d, if_neg d]
        exact ih (j + 1) (a.1 + 1, nI j) τ1 (by omega) (by omega) f1
theorem FrX.r (σ : Mem) : FrX σ σ := fun _ _ => rfl
theorem FrC.r (c p : Nat) (τ : Mem) : FrC c p τ τ := ⟨fun _ _ _ _ => rfl, fun _ _ => rfl, fun _ _ _ => rfl⟩
theorem r_told {F : Nat} (hF0 : 50000 ≤ F) (v1 v2 v3 v4 v5 v6 : Int32) : Agree (X6_told F v1 v2 v3 v4 v5 v6) (X7_told F v1 v2 v3 v4 v5 v6) := by
  rintro σ τ ⟨n, r, h⟩
  have hn := h.1.2.1
  unfold X6_told X7_told
  rcases refusal_eq (F := F) hF0 h v1 v2 v3 v4 v5 v6 _ rfl with ⟨z, σ', τ', e1, e2, z1, z2, hR⟩ | ⟨p, m, σ', τ', fr, hp, rfl, hm, rfl, efr, hfr, e1, e2, hR, rw_, hrw⟩
  · rw [e1, e2, ob_e, ob_e, if_neg z1, if_neg z2]
    exact ⟨_, _, _, rfl, rfl, n, r, hR⟩
  rw [e1, e2, ob_e, ob_e, if_pos rfl, if_pos (show (0 : Int32) ≤ 0 by decide)]
  dsimp only
  rw [grd_t (inb_p hp hn), grd_t (inb_p hp hn), bnd_e, bnd_e, clN (show p < 2 ^ 31 by omega)]
  obtain ⟨σ3, g1, hX⟩ := toldX (F := F) (v6 := v6) (l := laF σ' p) (kk := fun v9_11 v10_12 σ_13 => if v6 = 0 then some (v9_11, σ_13) else some (v10_12, σ_13)) hF0 hR hp hm (fun j hj => ⟨(hrw j hj).1, (hrw j hj).2.1⟩) F 64 (0, -9) σ' (by omega) (by omega) (FrX.r σ')
  obtain ⟨τ3, g2, hC⟩ := toldM (F := F) (v6 := v6) (v8 := τ' 2 p) (kk := fun v9_15 v10_16 σ_17 => grd (inb (nI p) 6) (bnd (u2 σ_17 2 p (τ' 2 p)) fun σ_19 => if v6 = 0 then some (v9_15, σ_19) else some (v10_16, σ_19))) hF0 hR hp hm efr hfr (fun j hj => ⟨(hrw j hj).1, (hrw j hj).2.2⟩) F 0 (0, -9) τ' (by omega) (by omega) (FrC.r 2 p τ')
  have hfin := FrC.fin hR (Or.inr (Or.inl rfl)) hX hC
  rw [nI_0, Nat.sub_zero, ← down_up64] at g2
  have d64 : dn 64 = 63 := rfl
  rw [d64] at g1
  rw [show X3_lasts (22 + p) σ' = laF σ' p from rfl, g1, g2, grd_t (inb_p hp hn), bnd_e]
  by_cases c : v6 = 0
  · rw [if_pos c, if_pos c]
    exact ⟨_, _, _, rfl, rfl, n, r, hfin⟩
  · rw [if_neg c, if_neg c]
    exact ⟨_, _, _, rfl, rfl, n, r, hfin⟩
theorem kinds_loop {F n r m fr p : Nat} {rw_ : Nat → Nat} {v2 v4 v7 : Int32} {σ0 τ0 : Mem} {kk : Int32 → Mem → Option (Int32 × Mem)} (hF0 : 50000 ≤ F) (h : RelN n r σ0 τ0) (hp : p < n) (hm : m ≤ 20) (efr : (60 : Int32) * v2 + v4 = nI fr) (hfr : fr + 2 * m ≤ 240) (hrw : ∀ j, j < 2 * m → rw_ j < n ∧ σ0 13 j = nI (rw_ j) ∧ τ0 21 (fr + j) = nI (rw_ j)) : ∀ (f j : Nat) (v : Int32) (σ τ : Mem), j ≤ 3 → 3 - j < f → FrX σ0 σ → FrC 1 p τ0 τ →
    ∃ z σ' τ', X6_kinds_L36 F (nI p) (nI m) (22 + p) f v (nI j) σ = some (z, σ') ∧ X7_kinds_L36 F (nI p) v2 v4 (nI m) v7 kk f v (nI j) τ = kk z τ' ∧ FrX σ0 σ' ∧ FrC 1 p τ0 τ' := by
  have hn := h.1.2.1
  intro f
  induction f with
  | zero => intro j v σ τ h1 h2; omega
  | succ f ih =>
    intro j v σ τ h1 h2 hX hC
    rw [X6_kinds_L36, X7_kinds_L36]
    by_cases e : j = 3
    · subst e
      rw [if_pos (show (3 : Int32) ≤ nI 3 by decide), if_pos (show (3 : Int32) ≤ nI 3 by decide)]
      exact ⟨v, σ, τ, rfl, rfl, hX, hC⟩
    obtain ⟨b1, b2, b3, b4, ⟨kd, hkd, b5⟩, b6, b7, b8⟩ := h.2.1 p hp
    have k4 : u2 τ 1 p (nI j) 4 p = τ0 4 p := by rw [u2_k _ _ _ (by decide), hC.1 4 (by decide) (by decide) (by decide)]
    have k2 : u2 τ 1 p (nI j) 2 p = scF σ0 p := by rw [u2_k _ _ _ (by decide), hC.1 2 (by decide) (by decide) (by decide)]; exact b2.symm
    obtain ⟨τ1, e1, f1⟩ := hC.it (F := F) (rw_ := rw_) (val := nI j) (v := scF σ0 p) (l := X6_lastsOf (nI j) (τ0 4 p)) hF0 h (Or.inl rfl) hp hm hfr (fun j hj => ⟨(hrw j hj).1, (hrw j hj).2.2⟩) (show j ≤ 2 by omega) k2 (u2_s _ _ _ _) (by rw [k4])
    obtain ⟨σ1, g1, q1⟩ := x_could (F := F) (rw_ := rw_) hF0 h hX hp hm (fun j hj => ⟨(hrw j hj).1, (hrw j hj).2.1⟩) (scF σ0 p) (X6_lastsOf (nI j) (τ0 4 p))
    have x1 : σ (22 + p) 1 = scF σ0 p := by rw [hX (22 + p) (by omega)]; rfl
    have x3 : σ (22 + p) 3 = τ0 4 p := by rw [hX (22 + p) (by omega)]; exact b4
    rw [if_neg (show ¬ (3 : Int32) ≤ nI j from nI_ge (b := 3) (by omega) (by decide)), if_neg (show ¬ (3 : Int32) ≤ nI j from nI_ge (b := 3) (by omega) (by decide)), grd_t (inb_p hp hn), bnd_e, clN (show p < 2 ^ 31 by omega), efr, e1, ob_e, x1, x3, g1, ob_e, nI_1]
    dsimp only
    by_cases c : cdV n m r (va_up (laF σ0) p (X6_lastsOf (nI j) (τ0 4 p))) (wF σ0) (va_up (scF σ0) p (scF σ0 p)) rw_ τ0 = 0
    · rw [if_pos c, if_pos c, bnd_e, Int32.or_zero]
      exact ih (j + 1) v σ1 τ1 (by omega) (by omega) q1 f1
    · rw [if_neg c, if_neg c, bnd_e, bnd_e]
      exact ih (j + 1) _ σ1 τ1 (by omega) (by omega) q1 f1
theorem r_kinds {F : Nat} (hF0 : 50000 ≤ F) (v1 v2 v3 v4 v5 : Int32) : Agree (X6_kinds F v1 v2 v3 v4 v5) (X7_kinds F v1 v2 v3 v4 v5) := by
  rintro σ τ ⟨n, r, h⟩
  have hn := h.1.2.1
  unfold X6_kinds X7_kinds
  rcases refusal_eq (F := F) hF0 h v1 v2 v3 v4 v5 0 1 (by decide) with ⟨z, σ', τ', e1, e2, z1, z2, hR⟩ | ⟨p, m, σ', τ', fr, hp, rfl, hm, rfl, efr, hfr, e1, e2, hR, rw_, hrw⟩
  · rw [e1, e2, ob_e, ob_e, if_neg z1, if_neg z2]
    exact ⟨_, _, _, rfl, rfl, n, r, hR⟩
  rw [e1, e2, ob_e, ob_e, if_pos rfl, if_pos (show (0 : Int32) ≤ 0 by decide)]
  dsimp only
  rw [grd_t (inb_p hp hn), grd_t (inb_p hp hn), bnd_e, clN (show p < 2 ^ 31 by omega)]
  obtain ⟨z, σ3, τ3, g1, g2, hX, hC⟩ := kinds_loop (F := F) (v7 := τ' 1 p) (kk := fun v8_18 σ_19 => grd (inb (nI p) 6) (bnd (u2 σ_19 1 p (τ' 1 p)) fun σ_21 => some (v8_18, σ_21))) hF0 hR hp hm efr hfr hrw F 0 0 σ' τ' (by omega) (by omega) (FrX.r σ') (FrC.r 1 p τ')
  rw [nI_0] at g1 g2
  rw [g1, g2, grd_t (inb_p hp hn), bnd_e]
  exact ⟨_, _, _, rfl, rfl, n, r, FrC.fin hR (Or.inl rfl) hX hC⟩
theorem wears_loop {F n r m fr p : Nat} {rw_ : Nat → Nat} {v2 v4 v7 : Int32} {σ0 τ0 : Mem} {kk : Int32 → Mem → Option (Int32 × Mem)} (hF0 : 50000 ≤ F) (h : RelN n r σ0 τ0) (hp : p < n) (hm : m ≤ 20) (efr : (60 : Int32) * v2 + v4 = nI fr) (hfr : fr + 2 * m ≤ 240) (hrw : ∀ j, j < 2 * m → rw_ j < n ∧ σ0 13 j = nI (rw_ j) ∧ τ0 21 (fr + j) = nI (rw_ j)) : ∀ (f j : Nat) (v : Int32) (σ τ : Mem), j ≤ 10 → 10 - j < f → FrX σ0 σ → FrC 4 p τ0 τ →
    ∃ z σ' τ', X6_wears_L36 F (nI p) (nI m) (22 + p) f v (nI j) σ = some (z, σ') ∧ X7_wears_L36 F (nI p) v2 v4 (nI m) v7 kk f v (nI j) τ = kk z τ' ∧ FrX σ0 σ' ∧ FrC 4 p τ0 τ' := by
  have hn := h.1.2.1
  intro f
  induction f with
  | zero => intro j v σ τ h1 h2; omega
  | succ f ih =>
    intro j v σ τ h1 h2 hX hC
    rw [X6_wears_L36, X7_wears_L36]
    by_cases e : j = 10
    · subst e
      rw [if_pos (show (9 : Int32) < nI 10 by decide), if_pos (show (10 : Int32) ≤ nI 10 by decide)]
      exact ⟨v, σ, τ, rfl, rfl, hX, hC⟩
    obtain ⟨b1, b2, b3, b4, ⟨kd, hkd, b5⟩, b6, b7, b8⟩ := h.2.1 p hp
    have k1 : u2 τ 4 p (nI j) 1 p = nI kd := by rw [u2_k _ _ _ (by decide), hC.1 1 (by decide) (by decide) (by decide)]; exact b5
    have k2 : u2 τ 4 p (nI j) 2 p = scF σ0 p := by rw [u2_k _ _ _ (by decide), hC.1 2 (by decide) (by decide) (by decide)]; exact b2.symm
    obtain ⟨τ1, e1, f1⟩ := hC.it (F := F) (rw_ := rw_) (val := nI j) (v := scF σ0 p) (l := X6_lastsOf (nI kd) (nI j)) hF0 h (Or.inr (Or.inr rfl)) hp hm hfr (fun j hj => ⟨(hrw j hj).1, (hrw j hj).2.2⟩) hkd k2 k1 (by rw [u2_s])
    obtain ⟨σ1, g1, q1⟩ := x_could (F := F) (rw_ := rw_) hF0 h hX hp hm (fun j hj => ⟨(hrw j hj).1, (hrw j hj).2.1⟩) (scF σ0 p) (X6_lastsOf (nI kd) (nI j))
    have x1 : σ (22 + p) 1 = scF σ0 p := by rw [hX (22 + p) (by omega)]; rfl
    have x3 : σ (22 + p) 0 = nI kd := by rw [hX (22 + p) (by omega)]; exact b1.trans b5
    have w9 : ∀ j, j < 10 → ¬ (9 : Int32) < nI j := by decide
    rw [if_neg (w9 j (by omega)), if_neg (show ¬ (10 : Int32) ≤ nI j from nI_ge (b := 10) (by omega) (by decide)), grd_t (inb_p hp hn), bnd_e, clN (show p < 2 ^ 31 by omega), efr, e1, ob_e, x1, x3, g1, ob_e, nI_1]
    dsimp only
    by_cases c : cdV n m r (va_up (laF σ0) p (X6_lastsOf (nI kd) (nI j))) (wF σ0) (va_up (scF σ0) p (scF σ0 p)) rw_ τ0 = 0
    · rw [if_pos c, if_pos c, bnd_e, Int32.or_zero]
      exact ih (j + 1) v σ1 τ1 (by omega) (by omega) q1 f1
    · rw [if_neg c, if_neg c, bnd_e, bnd_e]
      exact ih (j + 1) _ σ1 τ1 (by omega) (by omega) q1 f1
theorem r_wears {F : Nat} (hF0 : 50000 ≤ F) (v1 v2 v3 v4 v5 : Int32) : Agree (X6_wears F v1 v2 v3 v4 v5) (X7_wears F v1 v2 v3 v4 v5) := by
  rintro σ τ ⟨n, r, h⟩
  have hn := h.1.2.1
  unfold X6_wears X7_wears
  rcases refusal_eq (F := F) hF0 h v1 v2 v3 v4 v5 0 1 (by decide) with ⟨z, σ', τ', e1, e2, z1, z2, hR⟩ | ⟨p, m, σ', τ', fr, hp, rfl, hm, rfl, efr, hfr, e1, e2, hR, rw_, hrw⟩
  · rw [e1, e2, ob_e, ob_e, if_neg z1, if_neg z2]
    exact ⟨_, _, _, rfl, rfl, n, r, hR⟩
  rw [e1, e2, ob_e, ob_e, if_pos rfl, if_pos (show (0 : Int32) ≤ 0 by decide)]
  dsimp only
  rw [grd_t (inb_p hp hn), grd_t (inb_p hp hn), bnd_e, clN (show p < 2 ^ 31 by omega)]
  obtain ⟨z, σ3, τ3, g1, g2, hX, hC⟩ := wears_loop (F := F) (v7 := τ' 4 p) (kk := fun v8_18 σ_19 => grd (inb (nI p) 6) (bnd (u2 σ_19 4 p (τ' 4 p)) fun σ_21 => some (v8_18, σ_21))) hF0 hR hp hm efr hfr hrw F 1 0 σ' τ' (by omega) (by omega) (FrX.r σ') (FrC.r 4 p τ')
  rw [show nI 1 = 1 from rfl] at g1 g2
  rw [g1, g2, grd_t (inb_p hp hn), bnd_e]
  exact ⟨_, _, _, rfl, rfl, n, r, FrC.fin hR (Or.inr (Or.inr rfl)) hX hC⟩
