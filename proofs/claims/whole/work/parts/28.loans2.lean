-- loans: both sides play; the answers
def wF (σ : Mem) : Nat → Int32 := fun p => σ (22 + p) 2
def scF (σ : Mem) : Nat → Int32 := fun p => σ (22 + p) 1
theorem play_res {n : Nat} {la w : Nat → Int32} {were all : Int32} {rw_ : Nat → Nat} : ∀ (r j : Nat) (T : PS), (playF n la w were all rw_ r j T).1 = -9 ∨ ∃ i, i < j + r ∧ (playF n la w were all rw_ r j T).1 = nI i := by
  intro r
  induction r with
  | zero => intro j T; exact Or.inl rfl
  | succ r ih =>
    intro j T
    rw [playF]
    split
    · exact Or.inr ⟨j, by omega, rfl⟩
    · rcases ih (j + 1) (lendP n la w were all T (rw_ (2 * j)) (rw_ (2 * j + 1)) j) with q | ⟨i, hi, q⟩
      · exact Or.inl q
      · exact Or.inr ⟨i, by omega, q⟩
theorem s0_WF {n r : Nat} {σ τ : Mem} (h : RelN n r σ τ) : WF n (s0M (scF σ)) := by
  intro p hp
  obtain ⟨b1, b2, b3, b4, b5, ⟨k, hk, b6⟩, b7, b8⟩ := h.2.1 p hp
  exact ⟨hp, ⟨k, hk, b2.trans b6⟩, ⟨k, hk, b2.trans b6⟩⟩
theorem both_go {F n r m fr : Nat} {rw_ : Nat → Nat} {σ τ : Mem} (hF0 : 50000 ≤ F) (h : RelN n r σ τ) (hm : m ≤ 20) (hfr : fr + 2 * m ≤ 240) (hrw : ∀ j, j < 2 * m → rw_ j < n ∧ σ 13 j = nI (rw_ j) ∧ τ 21 (fr + j) = nI (rw_ j)) :
    ∃ σ1 σ2 τ2 sh, X0_begin F 28 (nI n) σ = some σ1 ∧ X0_play F 28 (nI m) σ1 = some ((goP n m (laF σ) (wF σ) (scF σ) rw_ sh).1, σ2) ∧ RX 28 n (laF σ) (goP n m (laF σ) (wF σ) (scF σ) rw_ sh).2.1 σ2 ∧ σ2 34 = (goP n m (laF σ) (wF σ) (scF σ) rw_ sh).2.2.1 ∧ (∀ k, k < 28 ∨ 35 ≤ k → σ2 k = σ k) ∧
      X7_goLoans F (nI fr) (nI m) τ = some τ2 ∧ RM n (laF σ) (wF σ) (goP n m (laF σ) (wF σ) (scF σ) rw_ sh).2.1 (goP n m (laF σ) (wF σ) (scF σ) rw_ sh).2.2.2.1 τ2 ∧ τ2 0 17 = (goP n m (laF σ) (wF σ) (scF σ) rw_ sh).1 ∧ τ2 0 18 = (goP n m (laF σ) (wF σ) (scF σ) rw_ sh).2.2.2.2 ∧ RelN n r σ2 τ2 ∧ (∀ p c, p < n → c < n → sh (6 * p + c) = if p = c then scF σ p else 0) := by
  have hn := h.1.2.1
  obtain ⟨σ1, e1, hR1, f1, g1⟩ := x_begin (F := F) (e := 28) (σ := σ) hF0 hn (by decide)
  obtain ⟨σ2, e2, hR2, g2, f2⟩ := x_play (F := F) (e := 28) (la := laF σ) (w := wF σ) (were := if mskF (mdI (wF σ) (s0M (scF σ))) n = allI n then 1 else 0) (all := allI n) hn (by decide) hm (fun j hj => (hrw j hj).1) F 0 (s0M (scF σ), σ1 34, cb0 (scF σ) (wF σ), -9) σ1 (by omega) (by omega) hR1 rfl (fun i hi => by rw [f1 13 (by omega)]; exact (hrw i hi).2.1)
  obtain ⟨τ2, e3, hR3, g17, g18, f3, f4⟩ := m_go (F := F) (fr := fr) (la := laF σ) (w := wF σ) (sc := scF σ) (τ := τ) (σ1 34) hF0 hn hm hfr (fun j hj => (hrw j hj).1) h.1.2.2.2.2.1 (fun p hp => by
    obtain ⟨b1, b2, b3, b4, b5, b6, b7, b8⟩ := h.2.1 p hp
    exact ⟨b2.symm, b3.symm, lasts_eq h hp⟩) (fun i hi => (hrw i hi).2.2)
  rw [nI_0] at e2
  refine ⟨σ1, σ2, τ2, σ1 34, e1, e2, hR2, g2, fun k hk => (f2 k (by omega)).trans (f1 k (by omega)), e3, hR3, g17, g18, ?_, g1⟩
  refine h.frame (fun k hk => (f2 k (by omega)).trans (f1 k (by omega))) (fun k hk => f3 k (by omega) (by omega)) ⟨f4 0 (by decide) (by decide), f4 1 (by decide) (by decide), f4 21 (by decide) (by decide), f4 29 (by decide) (by decide)⟩
theorem ten_q : ∀ k, k < 40 → nI k / 10 = nI (k / 10) ∧ nI k - nI k / 10 * 10 = nI (k % 10) := by decide +kernel
theorem k_dec : ∀ k, k < 40 → (10 ≤ k → ¬ nI k ≤ 9 ∧ ¬ nI k = 0 ∧ ¬ nI k = 1 ∧ ¬ nI k = 2 ∧ ¬ nI k = 3) ∧ (nI (k / 10) = 1 ↔ k / 10 = 1) ∧ (nI (k / 10) = 2 ↔ k / 10 = 2) ∧ (20 ≤ nI k ↔ 20 ≤ k) ∧ (30 ≤ nI k ↔ 30 ≤ k) := by decide +kernel
theorem m100 : ∀ i, i < 20 → ¬ nI i = -9 ∧ ¬ nI i < 0 := by decide +kernel
theorem r_loans {F : Nat} (hF0 : 50000 ≤ F) (v1 v2 v3 v4 v5 : Int32) : Agree (X6_loans F v1 v2 v3 v4 v5) (X7_loans F v1 v2 v3 v4 v5) := by
  rintro σ τ ⟨n, r, h⟩
  have hF := h.fault 0
  have hn := h.1.2.1
  unfold X6_loans X7_loans X7_refused
  rw [(q_cases v5 (fun w => X7_loans_J76 F v1 v2 v3 v4 v5 w τ)).1]
  have hq := (q_cases v5 (fun w => X7_loans_J76 F v1 v2 v3 v4 v5 w τ)).2
  rw [bnd_e, bnd_e]
  rcases isSheet_cases v1 with ⟨a, b⟩ | ⟨k, hk, rfl, a, b⟩
  · rw [a, b, if_pos rfl, if_neg n10, bnd_e]
    exact ⟨_, _, _, rfl, rfl, n, r, hF⟩
  rw [a, b, if_neg n10, if_pos rfl]
  unfold X7_loans_J76 X7_refused
  simp only [bnd_e]
  rcases isLane_cases v2 with ⟨a, b⟩ | ⟨l, hl, rfl, a, b⟩
  · rw [a, b, if_pos rfl, if_pos rfl]
    exact ⟨_, _, _, rfl, rfl, n, r, hF⟩
  rw [a, b, if_neg n10, if_neg n10]
  rcases isCount_cases v4 with ⟨a, b⟩ | ⟨m, hm, rfl, a, b⟩
  · rw [a, b, if_pos rfl, if_pos rfl]
    exact ⟨_, _, _, rfl, rfl, n, r, hF⟩
  rw [a, b, if_neg n10, if_neg n10]
  rcases hq with hq | ⟨q, hq40, rfl, hq1, hqd⟩
  · rw [hq, if_pos rfl, if_pos rfl]
    exact ⟨_, _, _, rfl, rfl, n, r, hF⟩
  rw [hq1, if_neg n10, if_neg n10, u2_j _ _ _ (show 7 ≠ 9 by decide), h.1.2.2.2.1, h.1.2.2.2.2.1]
  by_cases c0 : nI n = 0
  · rw [if_pos c0, if_pos c0]
    exact ⟨_, _, _, rfl, rfl, n, r, hF⟩
  rw [if_neg c0, if_neg c0]
  rcases row_eq (F := F) hF0 hk hm (nI l) v3 h with ⟨z, σ', τ', e1, e2, z1, z2, hR⟩ | ⟨σ', τ', fr, efr, hfr, e1, e2, hR, rw_, hrw⟩
  · rw [e1, e2, ob_e, ob_e, if_neg z1, if_neg z2]
    exact ⟨_, _, _, rfl, rfl, n, r, hR⟩
  rw [e1, e2, ob_e, ob_e, if_pos rfl, if_pos (show (0 : Int32) ≤ 0 by decide), efr]
  dsimp only
  rw [hR.1.2.2.2.1]
  obtain ⟨σ1, σ2, τ2, sh, g1, g2, hX, hsh, fX, g3, hM, h17, h18, hR2, -⟩ := both_go (F := F) hF0 hR hm hfr hrw
  rw [g1, g3, ob_e, ob_e, g2, ob_e, h17]
  by_cases c1 : nI q = 1
  · rw [if_pos c1, if_pos c1]
    exact ⟨_, _, _, rfl, rfl, n, r, hR2⟩
  rw [if_neg c1, if_neg c1]
  rcases play_res (n := n) (la := laF σ') (w := wF σ') (were := if mskF (mdI (wF σ') (s0M (scF σ'))) n = allI n then 1 else 0) (all := allI n) (rw_ := rw_) m 0 (s0M (scF σ'), sh, cb0 (scF σ') (wF σ'), -9) with w | ⟨i, hi, w⟩
  rotate_left
  · have w' : (goP n m (laF σ') (wF σ') (scF σ') rw_ sh).1 = nI i := w
    have hm1 := m100 i (by omega)
    dsimp only
    rw [w', if_neg hm1.1, if_neg hm1.2]
    exact ⟨_, _, _, rfl, rfl, n, r, hR2⟩
  have w' : (goP n m (laF σ') (wF σ') (scF σ') rw_ sh).1 = -9 := w
  dsimp only
  rw [w', if_pos rfl, if_pos (show (-9 : Int32) < 0 by decide)]
  have hWX : WF n (goP n m (laF σ') (wF σ') (scF σ') rw_ sh).2.1 := play_WF (fun j hj => (hrw j hj).1) m 0 _ (by omega) (s0_WF hR)
  have hw2 : ∀ p, p < n → σ2 (22 + p) 2 = wF σ' p ∧ ∃ z, z ≤ 6 ∧ wF σ' p = nI z := fun p hp => by
    obtain ⟨b1, b2, b3, b4, b5, b6, ⟨z, hz, b7⟩, b8⟩ := hR.2.1 p hp
    rw [fX (22 + p) (by omega)]
    exact ⟨rfl, z, hz, b3.trans b7⟩
  unfold X6_answerOfLoans
  rcases hqd with hq4 | ⟨hq10, hq6⟩
  · have hle : nI q ≤ 9 := nI_le (a := q) (b := 9) (by omega) (by decide)
    rw [if_pos hle]
    by_cases d0 : nI q = 0
    · rw [if_pos d0, if_pos d0, x_mended hF0 hn hX hWX hw2, m_mended hF0 hn hM, ob_e, ob_e, ob_e]
      exact ⟨_, _, _, rfl, rfl, n, r, hR2⟩
    rw [if_neg d0, if_neg d0, if_neg c1]
    by_cases d2 : nI q = 2
    · rw [if_pos d2, if_pos d2, h18, hR2.1.2.2.2.1]
      obtain ⟨σ3, e3, hX3, f3, -⟩ := x_begin (F := F) (e := 28) (σ := σ2) hF0 hn (by decide)
      have hX4 : RX 28 n (laF σ') (s0M (scF σ')) σ3 := hX3.congr (fun p hp => by
        have e : σ2 (22 + p) = σ' (22 + p) := fX (22 + p) (by omega)
        unfold laF s0F s0M scF X3_lasts
        dsimp only
        rw [e]
        exact ⟨rfl, rfl, rfl, rfl, rfl⟩)
      obtain ⟨σ4, e4, f4⟩ := x_firstAll (F := F) (e := 28) (w := wF σ') sh hF0 hn (by decide) hm (fun j hj => (hrw j hj).1) hX4 (s0_WF hR) w' (fun i hi => by rw [f3 13 (by omega), fX 13 (by omega)]; exact (hrw i hi).2.1) (fun p hp => by rw [f3 (22 + p) (by omega)]; exact hw2 p hp)
      rw [e3, ob_e, e4, ob_e, ob_e]
      exact ⟨_, _, _, rfl, rfl, n, r, hR2.frame (fun k hk => (f4 k (by omega)).trans (f3 k (by omega))) (fun _ _ => rfl) ⟨rfl, rfl, rfl, rfl⟩⟩
    rw [if_neg d2, if_neg d2]
    have d3 : nI q = 3 := by
      have e0 : q ≠ 0 := fun e => d0 (by rw [e]; rfl)
      have e1 : q ≠ 1 := fun e => c1 (by rw [e]; rfl)
      have e2 : q ≠ 2 := fun e => d2 (by rw [e]; rfl)
      rw [show q = 3 by omega]; rfl
    rw [if_pos d3]
    obtain ⟨z, e3, e4⟩ := home_eq (F := F) (e := 28) hF0 hn hX.2.2.2 hM.2.2 (fun p hp => (hX.1 p hp).1) (fun p hp => (hM.1 p hp).1) (fun p hp => (hX.1 p hp).2) (play_inj (fun j hj => (hrw j hj).1) m 0 (s0M (scF σ'), sh, cb0 (scF σ') (wF σ'), -9) (by omega) (fun p q _ _ e => e))
    rw [e3, e4, ob_e, ob_e, ob_e]
    exact ⟨_, _, _, rfl, rfl, n, r, hR2⟩
  · obtain ⟨kd, k1, k2, k20, k30⟩ := k_dec q hq40
    obtain ⟨kd9, kd0, kd1, kd2, kd3⟩ := kd hq10
    obtain ⟨t1, t2⟩ := ten_q q hq40
    rw [if_neg kd9, if_neg kd0, if_neg kd1, if_neg kd2, if_neg kd3, t2, t1]
    unfold X6_answerOfOne
    rcases isPerson_cases hR2 (nI (q % 10)) with ⟨a, b⟩ | ⟨p, hp, ep, a, b⟩
    · rw [a, b, if_pos rfl, if_neg n10, ob_e, ob_e]
      exact ⟨_, _, _, rfl, rfl, n, r, hR2⟩
    · rw [a, b, if_neg n10, if_pos rfl, ep]
      have ip := inb_p hp hn
      have cp := clN (show p < 2 ^ 31 by omega)
      obtain ⟨x1, x2⟩ := hX.1 p hp
      obtain ⟨x3, x4, x5, x6⟩ := hX.2.1 p hp
      obtain ⟨y1, y2⟩ := hM.1 p hp
      obtain ⟨y3, y4, y5, -⟩ := hM.2.1 p hp
      rw [cp]
      by_cases c1 : q / 10 = 1
      · rw [if_pos (k1.mpr c1), if_neg (show ¬ 20 ≤ nI q from fun x => absurd (k20.mp x) (by omega)), grd_t ip, grd_t ip, ob_e, ob_e, x1, y1]
        exact ⟨_, _, _, rfl, rfl, n, r, hR2⟩
      rw [if_neg (fun x => c1 (k1.mp x)), if_pos (k20.mpr (by omega))]
      by_cases c2 : q / 10 = 2
      · rw [if_pos (k2.mpr c2), if_neg (show ¬ 30 ≤ nI q from fun x => absurd (k30.mp x) (by omega)), grd_t ip, grd_t ip, ob_e, ob_e, x6, y5]
        exact ⟨_, _, _, rfl, rfl, n, r, hR2⟩
      rw [if_neg (fun x => c2 (k2.mp x)), if_pos (k30.mpr (by omega)), grd_t ip, grd_t ip, ob_e, ob_e, x3, y3]
      exact ⟨_, _, _, rfl, rfl, n, r, hR2⟩
