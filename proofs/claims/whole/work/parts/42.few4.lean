-- fewest: the answers
theorem d10 : ∀ d, d < 36 → (10 : Int32) * (nI d / 6) + (nI d - nI d / 6 * 6) = c10 d := by decide +kernel
theorem shl_n : ∀ n, n ≤ 6 → (1 : Int32) <<< (nI n &&& 31) = nI (2 ^ n) := by decide +kernel
theorem few_k (v : Int32) : (X7_in v.toInt64 (-1) 2 = 0 ∧ (v < -1 ∨ 3 ≤ v)) ∨ (X7_in v.toInt64 (-1) 2 = 1 ∧ ¬ v < -1 ∧ ¬ 3 ≤ v ∧ ((v = -1 ∧ ¬ 0 ≤ v) ∨ ∃ k, k < 3 ∧ v = nI k)) := by
  have a1 : (-1 : Int32).toInt = -1 := by decide
  have a2 : (-1 : Int64).toInt = -1 := by decide
  have a3 : (3 : Int32).toInt = 3 := by decide
  rw [X7_in_iff, i64_of, a2, t2_64, i32_lt, i32_le, a1, a3]
  by_cases c : -1 ≤ v.toInt ∧ v.toInt ≤ 2
  · rw [if_pos c]
    refine Or.inr ⟨rfl, by omega, by omega, ?_⟩
    by_cases d : v.toInt = -1
    · refine Or.inl ⟨by rw [i32_eq, a1]; exact d, ?_⟩
      rw [i32_le, t0_32]; omega
    · exact Or.inr (nI_ex (N := 3) (by omega) (by omega))
  · rw [if_neg c]
    exact Or.inl ⟨rfl, by omega⟩
theorem few_s {n : Nat} (hn : n ≤ 6) (v : Int32) : (X7_in v.toInt64 0 ((nI (2 ^ n - 1)).toInt64) = 0 ∧ (v < 0 ∨ ¬ v < nI (2 ^ n))) ∨ (X7_in v.toInt64 0 ((nI (2 ^ n - 1)).toInt64) = 1 ∧ ¬ v < 0 ∧ v < nI (2 ^ n) ∧ ∃ S, S < 2 ^ n ∧ v = nI S) := by
  have h64 := two_le hn
  have h2 : 0 < 2 ^ n := Nat.pow_pos (by decide)
  rw [X7_in_iff, i64_of, i64_of, t0_64, i32_lt, i32_lt, t0_32, t32 (by omega), t32 (by omega)]
  by_cases c : 0 ≤ v.toInt ∧ v.toInt ≤ ((2 ^ n - 1 : Nat) : Int)
  · rw [if_pos c]
    exact Or.inr ⟨rfl, by omega, by omega, nI_ex (N := 2 ^ n) (by omega) (by omega)⟩
  · rw [if_neg c]
    exact Or.inl ⟨rfl, by omega⟩
theorem m9_lt : ∀ k, k < 3 → (-9 : Int32) ≤ nI k ∧ ¬ nI k = -1 ∧ (0 : Int32) ≤ nI k := by decide
theorem r_fewest {F : Nat} (hF0 : 50000 ≤ F) (v1 v2 : Int32) : Agree (X6_fewest F v1 v2) (X7_fewest F v1 v2) := by
  rintro σ τ ⟨n, r, h⟩
  have hn := h.1.2.1
  have h64 := two_le hn
  have hev : X7_everybody τ = nI (2 ^ n - 1) := by
    unfold X7_everybody
    rw [h.1.2.2.2.2.1]
    exact (all_n n hn).1
  unfold X6_fewest X7_fewest
  rw [hev, h.1.2.2.2.1, h.1.2.2.2.2.1, shl_n n hn]
  by_cases c0 : nI n = 0
  · rw [if_pos c0, if_pos c0]
    exact ⟨_, _, _, rfl, rfl, n, r, h⟩
  rw [if_neg c0, if_neg c0]
  rcases few_s hn v1 with ⟨a, b⟩ | ⟨a, b1, b2, S, hS, rfl⟩
  · rw [a, if_pos rfl]
    refine ⟨-2, σ, τ, ?_, rfl, n, r, h⟩
    by_cases d1 : v2 < -1
    · rw [if_pos d1]
    rw [if_neg d1]
    by_cases d2 : 3 ≤ v2
    · rw [if_pos d2]
    rw [if_neg d2]
    rcases b with b | b
    · rw [if_pos b]
    · by_cases d3 : v1 < 0
      · rw [if_pos d3]
      · rw [if_neg d3, if_neg b]
  rw [a, if_neg n10]
  rcases few_k v2 with ⟨a, b⟩ | ⟨a, c1, c2, c3⟩
  · rw [a, if_pos rfl]
    refine ⟨-2, σ, τ, ?_, rfl, n, r, h⟩
    rcases b with b | b
    · rw [if_pos b]
    · by_cases d1 : v2 < -1
      · rw [if_pos d1]
      · rw [if_neg d1, if_pos b]
  rw [a, if_neg n10, if_neg c1, if_neg c2, if_neg b1, if_pos b2]
  have hHW : HW n (wF σ) σ := fun p hp => by
    obtain ⟨b1, b2, b3, b4, b5, b6, ⟨z, hz, b7⟩, b8⟩ := h.2.1 p hp
    exact ⟨rfl, z, hz, b3.trans b7⟩
  have hPF : PF n (scF σ) (wF σ) (laF σ) τ := ⟨h.1.2.2.2.2.1, fun p hp => by
    obtain ⟨b1, b2, b3, b4, b5⟩ := h.2.1 p hp
    exact ⟨b2.symm, b3.symm, lasts_eq h hp⟩⟩
  unfold X1_find
  obtain ⟨σ1, e1, hR1, f1, -⟩ := x_begin (F := F) (e := 36) (σ := σ) hF0 hn (by decide)
  have e36 : 36 + 8 * (0 : Int32).toNatClampNeg = 36 := rfl
  rw [grd_t (by decide), e36, e1, ob_e]
  have hX := x14 (F := F) (S := S) (la := laF σ) (w := wF σ) hF0 hn (by omega) (s0_WF h) F 0 σ1 (by omega) (by omega) hR1 (hHW.fr hn (fun k h4 h5 => f1 k (by omega)))
  have hM := f46 (F := F) (S := S) (sc := scF σ) (w := wF σ) (la := laF σ) (v2 := v2) (k2 := fun v4_13 σ_14 => if 0 ≤ v2 then (if v4_13 ≤ v2 then some (-9, σ_14) else grd (inb v2 3) (grd (inb v2 3) (some ((10 : Int32) * ((σ_14 14 v2.toNatClampNeg) / 6) + ((σ_14 14 v2.toNatClampNeg) - (σ_14 14 v2.toNatClampNeg) / 6 * 6), σ_14)))) else some (v4_13, σ_14)) hF0 hn (show S < 64 by omega) F 0 τ (by omega) (by omega) hPF
  rw [nI_0] at hX hM
  rw [Nat.pow_zero, show nI 1 = 1 from rfl] at hM
  have hfin : ∀ σ' τ', FrD 0 σ1 σ' → FrF τ τ' → Rel σ' τ' := fun σ' τ' g1 g2 => ⟨n, r, h.frame (fun k hk => (g1.1 k (by omega) (by omega)).trans (f1 k (by omega))) (fun k hk => g2.1 k (by omega) (by omega)) ⟨g2.2 0 (by decide) (by decide), g2.2 1 (by decide) (by decide), g2.2 21 (by decide) (by decide), g2.2 29 (by decide) (by decide)⟩⟩
  rcases hX with ⟨σ2, x1, x2, x3⟩ | ⟨σ2, L0, u0, x1, x2, x3, x4, x5, x6, x7, x8, x9⟩
  · rcases hM with ⟨τ2, y1, y2, y3⟩ | ⟨τ2, L1, u1, y1, y2, y3, y4, y5, y6, y7, y8, y9⟩
    · rw [x1, ob_e, y1]
      dsimp only
      rcases c3 with ⟨rfl, -⟩ | ⟨k, hk, rfl⟩
      · rw [if_pos rfl]
        exact ⟨_, _, _, rfl, rfl, hfin _ _ x2 y2⟩
      · obtain ⟨w1, w2, w3⟩ := m9_lt k hk
        rw [if_neg w2, if_pos w1]
        exact ⟨_, _, _, rfl, rfl, hfin _ _ x2 y2⟩
    · have := x3 L1 (Nat.zero_le _) y4 u1 y6
      rw [y7] at this
      exact absurd this (by decide)
  · rcases hM with ⟨τ2, y1, y2, y3⟩ | ⟨τ2, L1, u1, y1, y2, y3, y4, y5, y6, y7, y8, y9⟩
    · have := y3 L0 (Nat.zero_le _) x4 u0 x6
      have x7'' : tst n (laF σ) (wF σ) S L0 (s0F σ) u0 = true := x7
      rw [show tst n (laF σ) (wF σ) S L0 (s0F σ) u0 = false from this] at x7''
      exact absurd x7'' (by decide)
    · have x7' : tst n (laF σ) (wF σ) S L0 (s0M (scF σ)) u0 = true := x7
      have eL : L0 = L1 := by
        by_cases l1 : L0 < L1
        · have := y5 L0 (Nat.zero_le _) l1 u0 x6
          rw [x7'] at this
          exact absurd this (by decide)
        · by_cases l2 : L1 < L0
          · have : tst n (laF σ) (wF σ) S L1 (s0M (scF σ)) u1 = false := x5 L1 (Nat.zero_le _) l2 u1 y6
            rw [y7] at this
            exact absurd this (by decide)
          · omega
      subst eL
      have eu : u0 = u1 := by
        by_cases l1 : u0 < u1
        · have := y8 u0 l1
          rw [x7'] at this
          exact absurd this (by decide)
        · by_cases l2 : u1 < u0
          · have : tst n (laF σ) (wF σ) S L0 (s0M (scF σ)) u1 = false := x8 u1 l2
            rw [y7] at this
            exact absurd this (by decide)
          · omega
      subst eu
      rw [x1, ob_e, y1]
      dsimp only
      rcases c3 with ⟨rfl, nz⟩ | ⟨k, hk, rfl⟩
      · rw [if_pos rfl, if_neg nz]
        exact ⟨_, _, _, rfl, rfl, hfin _ _ x2 y2⟩
      · obtain ⟨w1, w2, w3⟩ := m9_lt k hk
        rw [if_neg w2, if_pos w3]
        by_cases d : L0 ≤ k
        · rw [if_pos (nI_le d (by omega)), if_pos (nI_le d (by omega))]
          exact ⟨_, _, _, rfl, rfl, hfin _ _ x2 y2⟩
        · have ik := inb_nI (k := k) (N := 3) hk (by decide)
          unfold X1_loanAt
          rw [if_neg (nI_ge (by omega) (by omega)), if_neg (nI_ge (by omega) (by omega)), grd_t ik, grd_t ik, grd_t ik, ob_e, clN (by omega), x9 k (by omega), y9 k (by omega), d10 _ (Nat.mod_lt _ (by decide))]
          exact ⟨_, _, _, rfl, rfl, hfin _ _ x2 y2⟩
