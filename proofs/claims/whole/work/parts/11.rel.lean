-- the class's memory and the reference's: what they have in common
def RPer (p : Nat) (σ τ : Mem) : Prop := σ (22 + p) 0 = τ 1 p ∧ σ (22 + p) 1 = τ 2 p ∧ σ (22 + p) 2 = τ 3 p ∧ σ (22 + p) 3 = τ 4 p ∧ (∃ k, k ≤ 2 ∧ τ 1 p = nI k) ∧ (∃ k, k < 64 ∧ τ 2 p = nI k) ∧ (∃ k, k ≤ 6 ∧ τ 3 p = nI k) ∧ (∃ k, k ≤ 9 ∧ τ 4 p = nI k)
def RRea (n k : Nat) (σ τ : Mem) : Prop := (∃ p, p < n ∧ σ 4 k = nI p ∧ τ 16 k = nI p) ∧ (∃ z, z < 6 ∧ σ 5 k = nI z ∧ τ 17 k = nI z) ∧ σ 6 k = τ 18 k ∧ (τ 18 k = 0 ∨ τ 18 k = 1)
def RShe (k : Nat) (σ τ : Mem) : Prop := (σ (14 + k) 1 = 0 ∧ τ 19 k = -1) ∨ (σ (14 + k) 1 = 1 ∧ ∃ c l, c ≤ 60 ∧ l < 3 ∧ σ (14 + k) 3 = nI c ∧ τ 19 k = nI c ∧ σ (14 + k) 2 = nI l ∧ τ 20 k = nI l ∧ ∀ i, i < c → σ (14 + k + 4) i = τ 21 (60 * k + i))
def RelN (n r : Nat) (σ τ : Mem) : Prop := ((n = 0 ∨ 2 ≤ n) ∧ n ≤ 6 ∧ r ≤ 8 ∧ σ 0 7 = nI n ∧ τ 0 1 = nI n ∧ σ 3 3 = nI r ∧ τ 0 21 = nI r ∧ σ 0 8 = τ 0 29 ∧ σ 0 9 = τ 0 0) ∧ (∀ p, p < n → RPer p σ τ) ∧ (∀ k, k < r → RRea n k σ τ) ∧ (∀ k, k < 4 → RShe k σ τ)
def Rel (σ τ : Mem) : Prop := ∃ n r, RelN n r σ τ
/-- what the cells that Rel speaks of hold, the same -/
theorem RelN.frame {n r : Nat} {σ τ σ' τ' : Mem} (h : RelN n r σ τ) (hs : ∀ k, (k < 7 ∨ (14 ≤ k ∧ k < 28)) → σ' k = σ k) (ht : ∀ k, (1 ≤ k ∧ k < 5) ∨ (16 ≤ k ∧ k < 22) → τ' k = τ k) (h0 : τ' 0 0 = τ 0 0 ∧ τ' 0 1 = τ 0 1 ∧ τ' 0 21 = τ 0 21 ∧ τ' 0 29 = τ 0 29) : RelN n r σ' τ' := by
  obtain ⟨⟨a1, a2, a3, a4, a5, a6, a7, a8, a9⟩, hp, hr, hk⟩ := h
  obtain ⟨b1, b2, b3, b4⟩ := h0
  refine ⟨⟨a1, a2, a3, ?_, ?_, ?_, ?_, ?_, ?_⟩, fun p q => ?_, fun k q => ?_, fun k q => ?_⟩
  · rw [hs 0 (by omega)]; exact a4
  · rw [b2]; exact a5
  · rw [hs 3 (by omega)]; exact a6
  · rw [b3]; exact a7
  · rw [hs 0 (by omega), b4]; exact a8
  · rw [hs 0 (by omega), b1]; exact a9
  · have := hp p q
    unfold RPer at this ⊢
    rw [hs (22 + p) (by omega), ht 1 (by omega), ht 2 (by omega), ht 3 (by omega), ht 4 (by omega)]
    exact this
  · have := hr k q
    unfold RRea at this ⊢
    rw [hs 4 (by omega), hs 5 (by omega), hs 6 (by omega), ht 16 (by omega), ht 17 (by omega), ht 18 (by omega)]
    exact this
  · have := hk k q
    unfold RShe at this ⊢
    rw [hs (14 + k) (by omega), hs (14 + k + 4) (by omega), ht 19 (by omega), ht 20 (by omega), ht 21 (by omega)]
    exact this
theorem RelN.fault {n r : Nat} {σ τ : Mem} (h : RelN n r σ τ) (v : Int32) : RelN n r (u2 σ 0 9 v) (u2 τ 0 0 v) := by
  obtain ⟨⟨a1, a2, a3, a4, a5, a6, a7, a8, a9⟩, hp, hr, hk⟩ := h
  refine ⟨⟨a1, a2, a3, ?_, ?_, ?_, ?_, ?_, ?_⟩, fun p q => ?_, fun k q => ?_, fun k q => ?_⟩
  · rw [u2_j _ _ _ (by decide)]; exact a4
  · rw [u2_j _ _ _ (by decide)]; exact a5
  · rw [u2_k _ _ _ (by decide)]; exact a6
  · rw [u2_j _ _ _ (by decide)]; exact a7
  · rw [u2_j _ _ _ (by decide), u2_j _ _ _ (by decide)]; exact a8
  · rw [u2_s, u2_s]
  · have := hp p q
    unfold RPer at this ⊢
    rw [u2_k _ _ _ (show 22 + p ≠ 0 by omega), u2_k _ _ _ (show 1 ≠ 0 by omega), u2_k _ _ _ (show 2 ≠ 0 by omega), u2_k _ _ _ (show 3 ≠ 0 by omega), u2_k _ _ _ (show 4 ≠ 0 by omega)]
    exact this
  · have := hr k q
    unfold RRea at this ⊢
    rw [u2_k _ _ _ (show 4 ≠ 0 by omega), u2_k _ _ _ (show 5 ≠ 0 by omega), u2_k _ _ _ (show 6 ≠ 0 by omega), u2_k _ _ _ (show 16 ≠ 0 by omega), u2_k _ _ _ (show 17 ≠ 0 by omega), u2_k _ _ _ (show 18 ≠ 0 by omega)]
    exact this
  · have := hk k q
    unfold RShe at this ⊢
    rw [u2_k _ _ _ (show 14 + k ≠ 0 by omega), u2_k _ _ _ (show 14 + k + 4 ≠ 0 by omega), u2_k _ _ _ (show 19 ≠ 0 by omega), u2_k _ _ _ (show 20 ≠ 0 by omega), u2_k _ _ _ (show 21 ≠ 0 by omega)]
    exact this
theorem t0_32 : (0 : Int32).toInt = 0 := by decide
theorem t0_64 : (0 : Int64).toInt = 0 := by decide
theorem t1_64 : (1 : Int64).toInt = 1 := by decide
theorem t2_64 : (2 : Int64).toInt = 2 := by decide
theorem t3_64 : (3 : Int64).toInt = 3 := by decide
theorem t5_64 : (5 : Int64).toInt = 5 := by decide
theorem t6_64 : (6 : Int64).toInt = 6 := by decide
theorem t20_64 : (20 : Int64).toInt = 20 := by decide
theorem t63_64 : (63 : Int64).toInt = 63 := by decide
theorem isPerson_cases {n r : Nat} {σ τ : Mem} (h : RelN n r σ τ) (v : Int32) : (X6_isPerson v σ = 0 ∧ X7_noPerson v τ = 1) ∨ ∃ p, p < n ∧ v = nI p ∧ X6_isPerson v σ = 1 ∧ X7_noPerson v τ = 0 := by
  obtain ⟨⟨a1, a2, a3, a4, a5, a6, a7, a8, a9⟩, -⟩ := h
  have hn : (nI n).toInt = (n : Int) := t32 (by omega)
  have hn1 : ((nI n).toInt64 - 1).toInt = (n : Int) - 1 := by
    rw [nI_l (by omega)]
    have : ∀ m, m ≤ 6 → (lN m - 1).toInt = (m : Int) - 1 := by decide
    exact this n a2
  unfold X6_isPerson X7_noPerson
  rw [a4, a5, X7_in_iff, i64_of, t0_64, hn1]
  by_cases c : 0 ≤ v.toInt ∧ v.toInt < n
  · obtain ⟨p, hp, rfl⟩ := nI_ex c.1 c.2
    refine Or.inr ⟨p, hp, rfl, ?_, ?_⟩
    · rw [if_neg (by rw [i32_lt, t0_32]; omega), if_neg (by rw [i32_le, hn]; omega)]
    · have e : (0 ≤ (nI p).toInt ∧ (nI p).toInt ≤ (n : Int) - 1) := by omega
      simp only [if_pos e]
      decide
  · refine Or.inl ⟨?_, ?_⟩
    · by_cases c0 : v < 0
      · rw [if_pos c0]
      · rw [if_neg c0, if_pos (by rw [i32_lt, t0_32] at c0; rw [i32_le, hn]; omega)]
    · have e : ¬ (0 ≤ v.toInt ∧ v.toInt ≤ (n : Int) - 1) := by omega
      simp only [if_neg e]
      decide
theorem isSheet_cases (v : Int32) : (X6_isSheet v = 0 ∧ X7_noSheet v = 1) ∨ ∃ k, k < 4 ∧ v = nI k ∧ X6_isSheet v = 1 ∧ X7_noSheet v = 0 := by
  unfold X6_isSheet X7_noSheet
  rw [X7_in_iff, i64_of, t0_64, t3_64]
  have h4 : (4 : Int32).toInt = 4 := by decide
  by_cases c : 0 ≤ v.toInt ∧ v.toInt < (4 : Nat)
  · obtain ⟨p, hp, rfl⟩ := nI_ex c.1 c.2
    refine Or.inr ⟨p, hp, rfl, ?_, ?_⟩
    · rw [if_neg (by rw [i32_lt, t0_32]; omega), if_neg (by rw [i32_le, h4]; omega)]
    · have e : (0 ≤ (nI p).toInt ∧ (nI p).toInt ≤ 3) := by omega
      simp only [if_pos e]
      decide
  · refine Or.inl ⟨?_, ?_⟩
    · by_cases c0 : v < 0
      · rw [if_pos c0]
      · rw [if_neg c0, if_pos (by rw [i32_lt, t0_32] at c0; rw [i32_le, h4]; omega)]
    · have e : ¬ (0 ≤ v.toInt ∧ v.toInt ≤ 3) := by omega
      simp only [if_neg e]
      decide
theorem isLane_cases (v : Int32) : (X6_isLane v = 0 ∧ X7_in v.toInt64 0 2 = 0) ∨ ∃ k, k < 3 ∧ v = nI k ∧ X6_isLane v = 1 ∧ X7_in v.toInt64 0 2 = 1 := by
  unfold X6_isLane
  rw [X7_in_iff, i64_of, t0_64, t2_64]
  have h4 : (3 : Int32).toInt = 3 := by decide
  by_cases c : 0 ≤ v.toInt ∧ v.toInt < (3 : Nat)
  · obtain ⟨p, hp, rfl⟩ := nI_ex c.1 c.2
    refine Or.inr ⟨p, hp, rfl, ?_, ?_⟩
    · rw [if_neg (by rw [i32_lt, t0_32]; omega), if_neg (by rw [i32_le, h4]; omega)]
    · rw [if_pos (by omega)]
  · refine Or.inl ⟨?_, ?_⟩
    · by_cases c0 : v < 0
      · rw [if_pos c0]
      · rw [if_neg c0, if_pos (by rw [i32_lt, t0_32] at c0; rw [i32_le, h4]; omega)]
    · rw [if_neg (by omega)]
theorem isCount_cases (v : Int32) : (X6_isLoanCount v = 0 ∧ X7_in v.toInt64 0 20 = 0) ∨ ∃ k, k ≤ 20 ∧ v = nI k ∧ X6_isLoanCount v = 1 ∧ X7_in v.toInt64 0 20 = 1 := by
  unfold X6_isLoanCount
  rw [X7_in_iff, i64_of, t0_64, t20_64]
  have h4 : (20 : Int32).toInt = 20 := by decide
  by_cases c : 0 ≤ v.toInt ∧ v.toInt < (21 : Nat)
  · obtain ⟨p, hp, rfl⟩ := nI_ex c.1 c.2
    refine Or.inr ⟨p, by omega, rfl, ?_, ?_⟩
    · rw [if_neg (by rw [i32_lt, t0_32]; omega), if_neg (by rw [i32_lt, h4]; omega)]
    · rw [if_pos (by omega)]
  · refine Or.inl ⟨?_, ?_⟩
    · by_cases c0 : v < 0
      · rw [if_pos c0]
      · rw [if_neg c0, if_pos (by rw [i32_lt, t0_32] at c0; rw [i32_lt, h4]; omega)]
    · rw [if_neg (by omega)]
theorem inb_p {p n : Nat} (hp : p < n) (hn : n ≤ 6) : inb (nI p) 6 = true := inb_nI (by omega) (by omega)
theorem lasts_eq {n r : Nat} {σ τ : Mem} (h : RelN n r σ τ) {p : Nat} (hp : p < n) : X7_lastsOf (nI p) τ = some (X3_lasts (22 + p) σ) := by
  obtain ⟨⟨a1, a2, a3, a4, a5, a6, a7, a8, a9⟩, hpe, -⟩ := h
  obtain ⟨b1, b2, b3, b4, ⟨k, hk, b5⟩, b6, b7, b8⟩ := hpe p hp
  unfold X7_lastsOf X3_lasts X6_lastsOf
  simp only [grd_t (inb_p hp a2), bnd, clN (show p < 2 ^ 31 by omega), b1, b4, b5]
  rcases (show k = 0 ∨ k = 1 ∨ k = 2 by omega) with rfl | rfl | rfl
  · rw [if_pos (by decide), if_neg (by decide), if_neg (by decide)]
  · rw [if_neg (by decide), if_pos (by decide), if_pos (by decide)]
  · rw [if_neg (by decide), if_neg (by decide), if_neg (by decide), if_pos (by decide)]
/-- a person's cell, and the reference's, get a new value -/
theorem RelN.per {n r : Nat} {σ τ : Mem} (h : RelN n r σ τ) {p j : Nat} (hp : p < n) (hj : j = 1 ∨ j = 2) {v : Int32} (hv : (j = 1 → ∃ k, k < 64 ∧ v = nI k) ∧ (j = 2 → ∃ k, k ≤ 6 ∧ v = nI k)) : RelN n r (u2 σ (22 + p) j v) (u2 τ (j + 1) p v) := by
  obtain ⟨⟨a1, a2, a3, a4, a5, a6, a7, a8, a9⟩, hpe, hr, hk⟩ := h
  have e0 : (0 : Nat) ≠ 22 + p := by omega
  have e1 : (0 : Nat) ≠ j + 1 := by omega
  have hj2 : j ≤ 2 := by rcases hj with rfl | rfl <;> decide
  have e16 : (16 : Nat) ≠ j + 1 := by omega
  have e17 : (17 : Nat) ≠ j + 1 := by omega
  have e18 : (18 : Nat) ≠ j + 1 := by omega
  have e19 : (19 : Nat) ≠ j + 1 := by omega
  have e20 : (20 : Nat) ≠ j + 1 := by omega
  have e21 : (21 : Nat) ≠ j + 1 := by omega
  refine ⟨⟨a1, a2, a3, ?_, ?_, ?_, ?_, ?_, ?_⟩, fun q hq => ?_, fun k q => ?_, fun k q => ?_⟩
  · rw [u2_k _ _ _ e0]; exact a4
  · rw [u2_k _ _ _ e1]; exact a5
  · rw [u2_k _ _ _ (show 3 ≠ 22 + p by omega)]; exact a6
  · rw [u2_k _ _ _ e1]; exact a7
  · rw [u2_k _ _ _ e0, u2_k _ _ _ e1]; exact a8
  · rw [u2_k _ _ _ e0, u2_k _ _ _ e1]; exact a9
  · obtain ⟨b1, b2, b3, b4, b5, b6, b7, b8⟩ := hpe q hq
    unfold RPer
    by_cases hqp : q = p
    · subst hqp
      rcases hj with rfl | rfl
      · rw [u2_j _ _ _ (show 0 ≠ 1 by decide), u2_s, u2_j _ _ _ (show 2 ≠ 1 by decide), u2_j _ _ _ (show 3 ≠ 1 by decide), u2_k _ _ _ (show 1 ≠ 1 + 1 by decide), u2_s, u2_k _ _ _ (show 3 ≠ 1 + 1 by decide), u2_k _ _ _ (show 4 ≠ 1 + 1 by decide)]
        exact ⟨b1, rfl, b3, b4, b5, hv.1 rfl, b7, b8⟩
      · rw [u2_j _ _ _ (show 0 ≠ 2 by decide), u2_s, u2_j _ _ _ (show 1 ≠ 2 by decide), u2_j _ _ _ (show 3 ≠ 2 by decide), u2_k _ _ _ (show 1 ≠ 2 + 1 by decide), u2_s, u2_k _ _ _ (show 2 ≠ 2 + 1 by decide), u2_k _ _ _ (show 4 ≠ 2 + 1 by decide)]
        exact ⟨b1, b2, rfl, b4, b5, b6, hv.2 rfl, b8⟩
    · rw [u2_k _ _ _ (show 22 + q ≠ 22 + p by omega)]
      have e : ∀ z, u2 τ (j + 1) p v z q = τ z q := fun z => by
        by_cases hz : z = j + 1
        · subst hz; rw [u2_j _ _ _ hqp]
        · rw [u2_k _ _ _ hz]
      rw [e, e, e, e]
      exact ⟨b1, b2, b3, b4, b5, b6, b7, b8⟩
  · have := hr k q
    unfold RRea at this ⊢
    rw [u2_k _ _ _ (show 4 ≠ 22 + p by omega), u2_k _ _ _ (show 5 ≠ 22 + p by omega), u2_k _ _ _ (show 6 ≠ 22 + p by omega), u2_k _ _ _ e16, u2_k _ _ _ e17, u2_k _ _ _ e18]
    exact this
  · have := hk k q
    unfold RShe at this ⊢
    rw [u2_k _ _ _ (show 14 + k ≠ 22 + p by omega), u2_k _ _ _ (show 14 + k + 4 ≠ 22 + p by omega), u2_k _ _ _ e19, u2_k _ _ _ e20, u2_k _ _ _ e21]
    exact this
def Agree {α : Type} (f g : Mem → Option (α × Mem)) : Prop := ∀ σ τ : Mem, Rel σ τ → ∃ (r : α) (σ' τ' : Mem), f σ = some (r, σ') ∧ g τ = some (r, τ') ∧ Rel σ' τ'
theorem r_ofPerson (v1 v2 : Int32) {σ τ : Mem} (h : Rel σ τ) : ∃ r, X6_ofPerson v1 v2 σ = some r ∧ X7_ofPerson v1 v2 τ = some r := by
  obtain ⟨n, r, h⟩ := h
  unfold X6_ofPerson X7_ofPerson
  rcases isPerson_cases h v1 with ⟨a, b⟩ | ⟨p, hp, rfl, a, b⟩
  · rw [a, b, if_pos rfl, if_neg (by decide)]
    exact ⟨_, rfl, rfl⟩
  · have hl := lasts_eq h hp
    obtain ⟨⟨a1, a2, a3, a4, a5, a6, a7, a8, a9⟩, hpe, hr, hk⟩ := h
    obtain ⟨b1, b2, b3, b4, b5, b6, b7, b8⟩ := hpe p hp
    rw [a, b, if_neg (by decide), if_pos rfl]
    simp only [grd_t (inb_p hp a2), clN (show p < 2 ^ 31 by omega), hl, b1, b2, b3, b4, Option.bind_some]
    by_cases c0 : v2 = 0
    · simp only [if_pos c0]; exact ⟨_, rfl, rfl⟩
    by_cases c1 : v2 = 1
    · simp only [if_neg c0, if_pos c1]; exact ⟨_, rfl, rfl⟩
    by_cases c2 : v2 = 2
    · simp only [if_neg c0, if_neg c1, if_pos c2]; exact ⟨_, rfl, rfl⟩
    by_cases c3 : v2 = 3
    · simp only [if_neg c0, if_neg c1, if_neg c2, if_pos c3]; exact ⟨_, rfl, rfl⟩
    by_cases c4 : v2 = 4
    · simp only [if_neg c0, if_neg c1, if_neg c2, if_neg c3, if_pos c4]; exact ⟨_, rfl, rfl⟩
    · simp only [if_neg c0, if_neg c1, if_neg c2, if_neg c3, if_neg c4]; exact ⟨_, rfl, rfl⟩
theorem r_live (v1 v2 : Int32) : Agree (X6_live v1 v2) (X7_live v1 v2) := by
  rintro σ τ ⟨n, r, h⟩
  unfold X6_live X7_live
  rcases isPerson_cases h v1 with ⟨a, b⟩ | ⟨p, hp, rfl, a, b⟩
  · rw [a, b, if_pos rfl, if_neg (by decide)]
    exact ⟨_, _, _, rfl, rfl, n, r, h⟩
  · obtain ⟨⟨a1, a2, -⟩, hpe, -⟩ := id h
    obtain ⟨b1, b2, b3, b4, b5, b6, b7, b8⟩ := hpe p hp
    have h64 : (64 : Int32).toInt = 64 := by decide
    rw [a, b, if_neg (by decide), if_pos rfl, X7_in_iff, i64_of, t0_64, t63_64]
    simp only [grd_t (inb_p hp a2), clN (show p < 2 ^ 31 by omega), bnd, b2]
    by_cases c : 0 ≤ v2.toInt ∧ v2.toInt ≤ 63
    · rw [if_neg (by rw [i32_lt, t0_32]; omega), if_pos (by rw [i32_lt, h64]; omega), if_pos c, if_neg (by decide)]
      obtain ⟨k, hk, rfl⟩ := nI_ex (N := 64) c.1 (by omega)
      exact ⟨_, _, _, rfl, rfl, n, r, h.per hp (Or.inl rfl) ⟨fun _ => ⟨k, hk, rfl⟩, fun q => absurd q (by decide)⟩⟩
    · rw [if_neg c, if_pos rfl]
      by_cases c0 : v2 < 0
      · rw [if_pos c0]; exact ⟨_, _, _, rfl, rfl, n, r, h⟩
      · rw [if_neg c0, if_neg (by rw [i32_lt, t0_32] at c0; rw [i32_lt, h64]; omega)]
        exact ⟨_, _, _, rfl, rfl, n, r, h⟩
theorem r_want (v1 v2 : Int32) : Agree (X6_want v1 v2) (X7_want v1 v2) := by
  rintro σ τ ⟨n, r, h⟩
  unfold X6_want X7_want
  rcases isPerson_cases h v1 with ⟨a, b⟩ | ⟨p, hp, rfl, a, b⟩
  · rw [a, b, if_pos rfl, if_neg (by decide)]
    exact ⟨_, _, _, rfl, rfl, n, r, h⟩
  · obtain ⟨⟨a1, a2, -⟩, hpe, -⟩ := id h
    obtain ⟨b1, b2, b3, b4, b5, b6, b7, b8⟩ := hpe p hp
    have h64 : (6 : Int32).toInt = 6 := by decide
    rw [a, b, if_neg (by decide), if_pos rfl, X7_in_iff, i64_of, t0_64, t6_64]
    simp only [grd_t (inb_p hp a2), clN (show p < 2 ^ 31 by omega), bnd, b3]
    by_cases c : 0 ≤ v2.toInt ∧ v2.toInt ≤ 6
    · rw [if_neg (by rw [i32_lt, t0_32]; omega), if_pos (by rw [i32_le, h64]; omega), if_pos c, if_neg (by decide)]
      obtain ⟨k, hk, rfl⟩ := nI_ex (N := 7) c.1 (by omega)
      exact ⟨_, _, _, rfl, rfl, n, r, h.per hp (Or.inr rfl) ⟨fun q => absurd q (by decide), fun _ => ⟨k, by omega, rfl⟩⟩⟩
    · rw [if_neg c, if_pos rfl]
      by_cases c0 : v2 < 0
      · rw [if_pos c0]; exact ⟨_, _, _, rfl, rfl, n, r, h⟩
      · rw [if_neg c0, if_neg (by rw [i32_lt, t0_32] at c0; rw [i32_le, h64]; omega)]
        exact ⟨_, _, _, rfl, rfl, n, r, h⟩
theorem r_trace {σ τ : Mem} (h : Rel σ τ) : X6_trace σ = X7_trace τ := by
  obtain ⟨n, r, ⟨a1, a2, a3, a4, a5, a6, a7, a8, a9⟩, -⟩ := h
  exact a8
theorem r_fault {σ τ : Mem} (h : Rel σ τ) : X6_fault σ = X7_fault τ := by
  obtain ⟨n, r, ⟨a1, a2, a3, a4, a5, a6, a7, a8, a9⟩, -⟩ := h
  exact a9
theorem r_many (v1 : Int32) {σ τ : Mem} (h : Rel σ τ) : X6_many v1 σ = X7_many v1 τ := by
  obtain ⟨n, r, ⟨a1, a2, a3, a4, a5, a6, a7, a8, a9⟩, -⟩ := h
  unfold X6_many X7_many
  rw [a4, a5, a6, a7]
