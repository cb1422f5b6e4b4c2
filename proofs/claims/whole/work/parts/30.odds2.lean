-- odds
theorem in01 : ∀ v : Int32, (X7_in v.toInt64 0 1 = 0 ∧ (v < 0 ∨ ¬ v ≤ 1)) ∨ (X7_in v.toInt64 0 1 = 1 ∧ ¬ v < 0 ∧ v ≤ 1) := by
  intro v
  have a1 : (1 : Int32).toInt = 1 := by decide
  rw [X7_in_iff, i64_of, t0_64, t1_64, i32_lt, i32_le, t0_32, a1]
  by_cases c : 0 ≤ v.toInt ∧ v.toInt ≤ 1
  · rw [if_pos c]; exact Or.inr ⟨rfl, by omega, by omega⟩
  · rw [if_neg c]
    refine Or.inl ⟨rfl, ?_⟩
    by_cases d : v.toInt < 0
    · exact Or.inl d
    · exact Or.inr (by omega)
theorem refusal_eq {F n r : Nat} {σ τ : Mem} (hF0 : 50000 ≤ F) (h : RelN n r σ τ) (v1 v2 v3 v4 v5 v6 w6 : Int32) (hw6 : w6 = X7_in v6.toInt64 0 1) :
    (∃ z σ' τ', X6_refusalOfReadLoans F v1 v2 v3 v4 v5 v6 σ = some (z, σ') ∧ X7_seenBarred F v1 v2 v3 v4 v5 w6 τ = some (z, τ') ∧ ¬ z = 0 ∧ ¬ 0 ≤ z ∧ RelN n r σ' τ') ∨
    (∃ p m σ' τ' fr, p < n ∧ v1 = nI p ∧ m ≤ 20 ∧ v5 = nI m ∧ (60 : Int32) * v2 + v4 = nI fr ∧ fr + 2 * m ≤ 240 ∧ X6_refusalOfReadLoans F v1 v2 v3 v4 v5 v6 σ = some (0, σ') ∧ X7_seenBarred F v1 v2 v3 v4 v5 w6 τ = some (0, τ') ∧ RelN n r σ' τ' ∧ ∃ rw_ : Nat → Nat, ∀ j, j < 2 * m → rw_ j < n ∧ σ' 13 j = nI (rw_ j) ∧ τ' 21 (fr + j) = nI (rw_ j)) := by
  have hF := h.fault 0
  subst hw6
  have e6 : X6_isPerson v1 (u2 σ 0 9 0) = X6_isPerson v1 σ := by
    unfold X6_isPerson
    rw [u2_j _ _ _ (show 7 ≠ 9 by decide)]
  unfold X6_refusalOfReadLoans X7_seenBarred X7_refused
  simp only [bnd_e]
  rw [e6]
  rcases isPerson_cases h v1 with ⟨a, b⟩ | ⟨p, hp, rfl, a, b⟩
  · rw [a, b, if_pos rfl, if_neg n10]
    exact Or.inl ⟨_, _, _, rfl, rfl, by decide, by decide, hF⟩
  rw [a, b, if_neg n10, if_pos rfl]
  rcases isSheet_cases v2 with ⟨a, b⟩ | ⟨k, hk, rfl, a, b⟩
  · rw [a, b, if_pos rfl, if_neg n10]
    exact Or.inl ⟨_, _, _, rfl, rfl, by decide, by decide, hF⟩
  rw [a, b, if_neg n10, if_pos rfl]
  rcases isLane_cases v3 with ⟨a, b⟩ | ⟨l, hl, rfl, a, b⟩
  · rw [a, b, if_pos rfl, if_pos rfl]
    exact Or.inl ⟨_, _, _, rfl, rfl, by decide, by decide, hF⟩
  rw [a, b, if_neg n10, if_neg n10]
  rcases isCount_cases v5 with ⟨a, b⟩ | ⟨m, hm, rfl, a, b⟩
  · rw [a, b, if_pos rfl, if_pos rfl]
    exact Or.inl ⟨_, _, _, rfl, rfl, by decide, by decide, hF⟩
  rw [a, b, if_neg n10, if_neg n10]
  rcases in01 v6 with ⟨a, b⟩ | ⟨a, b, c⟩
  · rw [a, if_pos rfl]
    refine Or.inl ⟨-2, _, _, ?_, rfl, by decide, by decide, hF⟩
    rcases b with b | b
    · rw [if_pos b]
    · rw [if_neg b]
      by_cases d : v6 < 0
      · rw [if_pos d]
      · rw [if_neg d]
  rw [a, if_neg n10, if_neg b, if_pos c]
  rcases row_eq (F := F) hF0 hk hm (nI l) v4 h with ⟨z, σ', τ', e1, e2, z1, z2, hR⟩ | ⟨σ', τ', fr, efr, hfr, e1, e2, hR, rw_, hrw⟩
  · rw [e1, e2, ob_e, ob_e]
    exact Or.inl ⟨_, _, _, rfl, rfl, z1, z2, hR⟩
  · rw [e1, e2, ob_e, ob_e]
    exact Or.inr ⟨p, m, σ', τ', fr, hp, rfl, hm, rfl, efr, hfr, rfl, rfl, hR, rw_, hrw⟩
theorem odds_loop {F n p z : Nat} {w sh cb : Nat → Int32} {v6 : Int32} {σ τ : Mem} {kk : Int32 → Option (Int64 × Mem)} (hn : n ≤ 6) (hp : p < n) (hz : z < 6) (ew : w p = nI z) (hI : INV n w sh cb) (hs : σ 34 = sh) (h7 : σ 28 7 = nI n) (h1 : τ 0 1 = nI n) (ht : τ 13 p = cb p) : ∀ (f c : Nat) (v : Int32), c ≤ n → n - c < f → ∃ x, X0_childhoodsThatShowed_L5 F 28 (nI p) ((1 : Int32) <<< (nI z &&& 31)) σ f v (nI c) = some x ∧ X7_odds_L69 F (nI p) v6 τ kk f v (nI c) = kk x := by
  intro f
  induction f with
  | zero => intro c v h1 h2; omega
  | succ f ih =>
    intro c v h1' h2
    rw [X0_childhoodsThatShowed_L5, X7_odds_L69, h7, h1]
    by_cases e : c = n
    · subst e
      rw [if_pos (nI_le (Nat.le_refl _) (by omega)), if_pos (nI_le (Nat.le_refl _) (by omega))]
      exact ⟨v, rfl, rfl⟩
    obtain ⟨⟨y, hy, ey⟩, hc⟩ := hI p hp
    obtain ⟨⟨x, hx, ex⟩, hi⟩ := hc c (by omega)
    have hs2 : σ (28 + 6) = sh := hs
    rw [if_neg (nI_ge (by omega) (by omega)), if_neg (nI_ge (by omega) (by omega)), m6_nI, nI_add, grd_t (inb_nI (by omega) (by decide)), grd_t (inb_p hp hn), clN (show 6 * p + c < 2 ^ 31 by omega), clN (show p < 2 ^ 31 by omega), hs2, ex, ht, hi, ex, ew, nI_1]
    rcases bit_eq z hz x hx with ⟨b1, b2⟩ | ⟨b1, b2⟩
    · rw [if_pos b2, if_pos b1, bnd_e, Int32.add_zero]
      exact ih (c + 1) v (by omega) (by omega)
    · rw [if_neg b2, if_neg (by rw [b1]; decide), bnd_e]
      exact ih (c + 1) (v + 1) (by omega) (by omega)
theorem r_odds {F : Nat} (hF0 : 50000 ≤ F) (v1 v2 v3 v4 v5 v6 : Int32) : Agree (X6_odds F v1 v2 v3 v4 v5 v6) (X7_odds F v1 v2 v3 v4 v5 v6) := by
  rintro σ τ ⟨n, r, h⟩
  have hn := h.1.2.1
  unfold X6_odds X7_odds
  rcases refusal_eq (F := F) hF0 h v1 v2 v3 v4 v5 v6 _ rfl with ⟨z, σ', τ', e1, e2, z1, z2, hR⟩ | ⟨p, m, σ', τ', fr, hp, rfl, hm, rfl, efr, hfr, e1, e2, hR, rw_, hrw⟩
  · rw [e1, e2, ob_e, ob_e, if_neg z1, if_neg z2]
    exact ⟨_, _, _, rfl, rfl, n, r, hR⟩
  rw [e1, e2, ob_e, ob_e, if_pos rfl, if_pos (show (0 : Int32) ≤ 0 by decide), efr]
  dsimp only
  rw [hR.1.2.2.2.1]
  obtain ⟨σ1, σ2, τ2, sh, g1, g2, hX, hsh, fX, g3, hM, h17, h18, hR2, hsh0⟩ := both_go (F := F) hF0 hR hm hfr hrw
  rw [g1, g3, ob_e, ob_e, g2, ob_e, h17]
  dsimp only
  rcases play_res (n := n) (la := laF σ') (w := wF σ') (were := if mskF (mdI (wF σ') (s0M (scF σ'))) n = allI n then 1 else 0) (all := allI n) (rw_ := rw_) m 0 (s0M (scF σ'), sh, cb0 (scF σ') (wF σ'), -9) with w | ⟨i, hi, w⟩
  rotate_left
  · have w' : (goP n m (laF σ') (wF σ') (scF σ') rw_ sh).1 = nI i := w
    have hm1 := m100 i (by omega)
    rw [w', if_neg hm1.1, if_neg hm1.2]
    exact ⟨_, _, _, rfl, rfl, n, r, hR2⟩
  have w' : (goP n m (laF σ') (wF σ') (scF σ') rw_ sh).1 = -9 := w
  rw [w', if_pos rfl, if_pos (show (-9 : Int32) < 0 by decide), grd_t (inb_p hp hn), grd_t (inb_p hp hn), grd_t (inb_p hp hn), clN (show p < 2 ^ 31 by omega)]
  obtain ⟨b1, b2, b3, b4, b5, b6, ⟨z, hz, b7⟩, b8⟩ := hR2.2.1 p hp
  by_cases c6 : τ2 3 p = 6
  · rw [if_pos (b3.trans c6), if_pos c6]
    exact ⟨_, _, _, rfl, rfl, n, r, hR2⟩
  have hz6 : z < 6 := by
    have : ¬ z = 6 := fun q => c6 (by rw [b7, q]; rfl)
    omega
  have hw : ∀ p, p < n → ∃ z, z ≤ 6 ∧ wF σ' p = nI z := fun p hp => by
    obtain ⟨b1, b2, b3, b4, b5, b6, ⟨z, hz, b7⟩, b8⟩ := hR.2.1 p hp
    exact ⟨z, hz, b3.trans b7⟩
  have hsc : ∀ p, p < n → ∃ k, k < 64 ∧ scF σ' p = nI k := fun p hp => by
    obtain ⟨b1, b2, b3, b4, b5, ⟨k, hk, b6⟩, b7, b8⟩ := hR.2.1 p hp
    exact ⟨k, hk, b2.trans b6⟩
  have hI := play_INV (la := laF σ') (were := if mskF (mdI (wF σ') (s0M (scF σ'))) n = allI n then 1 else 0) (all := allI n) hn hw (fun j hj => (hrw j hj).1) m 0 (s0M (scF σ'), sh, cb0 (scF σ') (wF σ'), -9) (by omega) (s0_WF hR) (INV0 hn hw hsc hsh0)
  have ew : wF σ' p = nI z := by
    have := fX (22 + p) (by omega)
    unfold wF
    rw [← this, b3, b7]
  have ews : X3_wantedSet (22 + p) σ2 = (1 : Int32) <<< (nI z &&& 31) := by
    unfold X3_wantedSet
    rw [b3, if_neg c6, b7]
  rw [if_neg (fun q => c6 (b3.symm.trans q)), if_neg c6, ews]
  unfold X0_childhoodsThatShowed
  obtain ⟨x, k1, k2⟩ := odds_loop (F := F) (v6 := v6) (kk := fun v7_16 => if v6 = 0 then some (((1 : Int64) <<< (v7_16.toInt64 &&& 63)) - 1, τ2) else some ((1 : Int64) <<< (v7_16.toInt64 &&& 63), τ2)) hn hp hz6 ew hI hsh hX.2.2.2 hM.2.2 (hM.2.1 p hp).2.2.2.1 F 0 0 (by omega) (by omega)
  rw [nI_0] at k1 k2
  rw [k1, k2, ob_e, bnd_e]
  by_cases c0 : v6 = 0
  · rw [if_pos c0, if_pos c0]
    exact ⟨_, _, _, rfl, rfl, n, r, hR2⟩
  · rw [if_neg c0, if_neg c0]
    exact ⟨_, _, _, rfl, rfl, n, r, hR2⟩
