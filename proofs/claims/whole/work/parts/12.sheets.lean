-- sheets
theorem n10 : ¬ (1 : Int32) = 0 := by decide
theorem i64_add (a b : Int32) : (a.toInt64 + b.toInt64).toInt = a.toInt + b.toInt := by
  have h1 := Int32.toInt_lt a
  have h2 := Int32.toInt_lt b
  have h3 := Int32.le_toInt a
  have h4 := Int32.le_toInt b
  rw [Int64.toInt_add, i64_of, i64_of]
  unfold Int.bmod
  simp only []
  split <;> omega
theorem i64_add2 (a : Int32) (n : Int64) (m : Nat) (hm : m < 2 ^ 40) (h : n.toInt = m) : (a.toInt64 + n).toInt = a.toInt + m := by
  have h1 := Int32.toInt_lt a
  have h3 := Int32.le_toInt a
  rw [Int64.toInt_add, i64_of, h]
  unfold Int.bmod
  simp only []
  split <;> omega
theorem hasCells_iff {σ : Mem} {n0 c : Nat} (hc : σ n0 3 = nI c) (h60 : c ≤ 60) (i n : Int32) : (X5_hasCells n0 i n σ = 1 ∧ ∃ a b, i = nI a ∧ n = nI b ∧ a + b ≤ c) ∨ (X5_hasCells n0 i n σ = 0 ∧ ¬ (0 ≤ i.toInt ∧ 0 ≤ n.toInt ∧ i.toInt + n.toInt ≤ c)) := by
  unfold X5_hasCells
  rw [hc]
  by_cases h1 : n < 0
  · rw [if_pos h1]
    rw [i32_lt, t0_32] at h1
    exact Or.inr ⟨rfl, by omega⟩
  rw [if_neg h1]
  by_cases h2 : i < 0
  · rw [if_pos h2]
    rw [i32_lt, t0_32] at h2
    exact Or.inr ⟨rfl, by omega⟩
  rw [if_neg h2]
  rw [i32_lt, t0_32] at h1 h2
  by_cases h3 : nI c < i
  · rw [if_pos h3]
    rw [i32_lt, t32 (by omega)] at h3
    exact Or.inr ⟨rfl, by omega⟩
  rw [if_neg h3]
  rw [i32_lt, t32 (by omega)] at h3
  obtain ⟨a, ha, rfl⟩ := nI_ex (v := i) (N := 61) (by omega) (by omega)
  rw [t32 (by omega)] at h2 h3
  rw [pk_sub (show a ≤ c by omega)]
  by_cases h4 : nI (c - a) < n
  · rw [if_pos h4]
    rw [i32_lt, t32 (by omega)] at h4
    exact Or.inr ⟨rfl, by rw [t32 (by omega)]; omega⟩
  · rw [if_neg h4]
    rw [i32_lt, t32 (by omega)] at h4
    obtain ⟨b, hb, rfl⟩ := nI_ex (v := n) (N := 61) (by omega) (by omega)
    rw [t32 (by omega)] at h4
    exact Or.inl ⟨rfl, a, b, rfl, rfl, by omega⟩
theorem isBeyond_iff (i : Int32) (n : Int64) (c : Nat) (hc : c ≤ 60) (m : Int) (hn : n.toInt = m) (hm : -2 ^ 40 ≤ m ∧ m < 2 ^ 40) : X7_isBeyond i n (nI c) = if 0 ≤ i.toInt ∧ 0 ≤ m ∧ i.toInt + m ≤ c then 0 else 1 := by
  unfold X7_isBeyond
  by_cases h1 : i < 0
  · rw [if_pos h1]
    rw [i32_lt, t0_32] at h1
    rw [if_neg (by omega)]
  rw [if_neg h1]
  rw [i32_lt, t0_32] at h1
  by_cases h2 : lg_cmp n 0 < 0
  · rw [if_pos h2]
    rw [lgc_lt, t0_64] at h2
    rw [if_neg (by omega)]
  rw [if_neg h2]
  rw [lgc_lt, t0_64] at h2
  have e := i64_add2 i n m.toNat (by omega) (by omega)
  have e2 : (nI c).toInt64.toInt = (c : Int) := by rw [i64_of, t32 (by omega)]
  by_cases h3 : lg_cmp (i.toInt64 + n) (nI c).toInt64 ≤ 0
  · rw [if_pos h3]
    rw [lgc_le, e, e2] at h3
    rw [if_pos (by omega)]
  · rw [if_neg h3]
    rw [lgc_le, e, e2] at h3
    rw [if_neg (by omega)]
theorem inb_k {k : Nat} (h : k < 4) : inb (nI k) 4 = true := inb_nI h (by omega)
/-- the cells of a sheet: the same fault on both sides, or none -/
theorem cells_eq {σ τ : Mem} {k : Nat} (hk : k < 4) (h : RShe k σ τ) (ln i n : Int32) (n2 : Int64) (hn : n2.toInt = n.toInt) :
    (X5_faultOfCells (14 + k) ln i n σ = 0 ∧ X7_cellsBarred (nI k) ln i n2 τ = some (0, τ) ∧ ∃ a b c, i = nI a ∧ n = nI b ∧ a + b ≤ c ∧ c ≤ 60 ∧ σ (14 + k) 1 = 1 ∧ τ 19 k = nI c ∧ ∀ j, j < c → σ (14 + k + 4) j = τ 21 (60 * k + j)) ∨
    ∃ f, (1 ≤ f ∧ f ≤ 4) ∧ X5_faultOfCells (14 + k) ln i n σ = nI f ∧ X7_cellsBarred (nI k) ln i n2 τ = some ((-10 : Int32) - nI f, u2 τ 0 0 (nI f)) := by
  have hb1 := Int32.toInt_lt n
  have hb2 := Int32.le_toInt n
  unfold X5_faultOfCells X7_cellsBarred X5_faultOfCells_J17 X7_cellsBarred_J25 X7_failed
  simp only [grd_t (inb_k hk), clN (show k < 2 ^ 31 by omega), bnd]
  rcases h with ⟨h1, h2⟩ | ⟨h1, c, l, hc, hl, e3, e4, e5, e6, e7⟩
  · refine Or.inr ⟨1, ⟨by decide, by decide⟩, ?_, ?_⟩
    · rw [if_pos h1, if_pos h1]; rfl
    · rw [h2, if_pos (by decide), if_neg (by decide)]; rfl
  · rw [h1, e4, e5, e6]
    simp only [if_neg (show ¬ (1 : Int32) = 0 by decide), if_neg (show ¬ nI c < 0 from nI_pos (by omega)), if_pos (show 0 ≤ nI c from nI_pos' (by omega))]
    by_cases c1 : nI l = ln
    · simp only [if_pos c1]
      have q2 : (0 ≤ lg_cmp n2 0) ↔ 0 ≤ n.toInt := by rw [lgc_ge, t0_64, hn]
      by_cases c2 : 0 ≤ n.toInt
      · have c2' : 0 ≤ n := by rw [i32_le, t0_32]; exact c2
        simp only [if_pos c2', if_pos (q2.mpr c2)]
        rw [isBeyond_iff i n2 c hc n.toInt hn (by omega)]
        rcases hasCells_iff e3 hc i n with ⟨g1, a, b, rfl, rfl, g2⟩ | ⟨g1, g2⟩
        · refine Or.inl ⟨?_, ?_, a, b, c, rfl, rfl, g2, hc, by first | rfl | trivial, by first | rfl | trivial, e7⟩
          · rw [g1]; rfl
          · have e1 := t32 (k := a) (by omega)
            have e2 := t32 (k := b) (by omega)
            have e3 : 0 ≤ (nI a).toInt ∧ 0 ≤ (nI b).toInt ∧ (nI a).toInt + (nI b).toInt ≤ (c : Int) := by omega
            simp only [if_pos e3]; rfl
        · refine Or.inr ⟨3, ⟨by decide, by decide⟩, ?_, ?_⟩
          · rw [g1]; rfl
          · simp only [if_neg g2]; rfl
      · have c2' : ¬ 0 ≤ n := by rw [i32_le, t0_32]; exact c2
        simp only [if_neg c2', if_neg (mt q2.mp c2)]
        exact Or.inr ⟨4, ⟨by decide, by decide⟩, rfl, rfl⟩
    · simp only [if_neg c1]
      exact Or.inr ⟨2, ⟨by decide, by decide⟩, rfl, rfl⟩
theorem renew_loop (F n0 : Nat) : ∀ (f i : Nat) (σ : Mem), i ≤ 60 → 60 - i < f → ∃ σ', X5_renew_L17 F n0 f (nI i) σ = some σ' ∧ (∀ k, k ≠ n0 + 4 → σ' k = σ k) ∧ (∀ j, j < i → σ' (n0 + 4) j = σ (n0 + 4) j) ∧ (∀ j, i ≤ j → j < 60 → σ' (n0 + 4) j = 0) := by
  intro f
  induction f with
  | zero => intro i σ h1 h2; omega
  | succ f ih =>
    intro i σ h1 h2
    rw [X5_renew_L17]
    by_cases c : i = 60
    · subst c
      rw [if_pos (by decide)]
      exact ⟨σ, rfl, fun _ _ => rfl, fun _ _ => rfl, fun j a b => absurd b (by omega)⟩
    · rw [if_neg (show ¬ (60 : Int32) ≤ nI i from nI_ge (b := 60) (by omega) (by decide)), grd_t (inb_nI (by omega) (by decide)), bnd, nI_1, clN (by omega)]
      obtain ⟨σ', e, g1, g2, g3⟩ := ih (i + 1) (u2 σ (n0 + 4) i 0) (by omega) (by omega)
      refine ⟨σ', e, fun k hk => (g1 k hk).trans (u2_k _ _ _ hk), fun j hj => (g2 j (by omega)).trans (u2_j _ _ _ (by omega)), fun j a b => ?_⟩
      by_cases hj : j = i
      · subst hj
        rw [g2 j (by omega), u2_s]
      · exact g3 j (by omega) b
theorem sheet_loop (F k c : Nat) (hk : k < 4) (hc : c ≤ 60) (kk : Mem → Option (Int32 × Mem)) : ∀ (f i : Nat) (σ : Mem), i ≤ c → c - i < f → ∃ σ', X7_sheet_L65 F (nI k) (nI c) kk f (nI i) σ = kk σ' ∧ (∀ a, a ≠ 21 → σ' a = σ a) ∧ (∀ j, ¬ (60 * k + i ≤ j ∧ j < 60 * k + c) → σ' 21 j = σ 21 j) ∧ (∀ j, 60 * k + i ≤ j → j < 60 * k + c → σ' 21 j = 0) := by
  intro f
  induction f with
  | zero => intro i σ h1 h2; omega
  | succ f ih =>
    intro i σ h1 h2
    rw [X7_sheet_L65]
    by_cases h : i = c
    · subst h
      rw [if_pos (nI_le (Nat.le_refl _) (by omega))]
      exact ⟨σ, rfl, fun _ _ => rfl, fun _ _ => rfl, fun j a b => absurd b (by omega)⟩
    · rw [if_neg (nI_ge (by omega) (by omega)), m60_nI, nI_add, grd_t (inb_nI (by omega) (by decide)), bnd, nI_1, clN (by omega)]
      obtain ⟨σ', e, g1, g2, g3⟩ := ih (i + 1) (u2 σ 21 (60 * k + i) 0) (by omega) (by omega)
      refine ⟨σ', e, fun a ha => (g1 a ha).trans (u2_k _ _ _ ha), fun j hj => (g2 j (by omega)).trans (u2_j _ _ _ (by omega)), fun j a b => ?_⟩
      by_cases hj : j = 60 * k + i
      · subst hj
        rw [g2 _ (by omega), u2_s]
      · exact g3 j (by omega) b
theorem nI_m1 (n : Nat) : nI (n + 1) + (-1) = nI n := pk_m1 n
/-- the sheets of a relation, changed at one sheet -/
theorem RelN.she {n r : Nat} {σ τ σ' τ' : Mem} (h : RelN n r σ τ) {k : Nat} (hk : k < 4) (hs : ∀ a, a ≠ 14 + k → a ≠ 14 + k + 4 → σ' a = σ a) (ht : ∀ a, a ≠ 19 → a ≠ 20 → a ≠ 21 → a ≠ 22 → τ' a = τ a) (h1 : ∀ j, j < 4 → j ≠ k → τ' 19 j = τ 19 j ∧ τ' 20 j = τ 20 j ∧ ∀ i, i < 60 → τ' 21 (60 * j + i) = τ 21 (60 * j + i)) (h2 : RShe k σ' τ') : RelN n r σ' τ' := by
  obtain ⟨⟨a1, a2, a3, a4, a5, a6, a7, a8, a9⟩, hp, hr, hsh⟩ := h
  refine ⟨⟨a1, a2, a3, ?_, ?_, ?_, ?_, ?_, ?_⟩, fun p q => ?_, fun z q => ?_, fun j q => ?_⟩
  · rw [hs 0 (by omega) (by omega)]; exact a4
  · rw [ht 0 (by decide) (by decide) (by decide) (by decide)]; exact a5
  · rw [hs 3 (by omega) (by omega)]; exact a6
  · rw [ht 0 (by decide) (by decide) (by decide) (by decide)]; exact a7
  · rw [hs 0 (by omega) (by omega), ht 0 (by decide) (by decide) (by decide) (by decide)]; exact a8
  · rw [hs 0 (by omega) (by omega), ht 0 (by decide) (by decide) (by decide) (by decide)]; exact a9
  · have := hp p q
    unfold RPer at this ⊢
    rw [hs (22 + p) (by omega) (by omega), ht 1 (by decide) (by decide) (by decide) (by decide), ht 2 (by decide) (by decide) (by decide) (by decide), ht 3 (by decide) (by decide) (by decide) (by decide), ht 4 (by decide) (by decide) (by decide) (by decide)]
    exact this
  · have := hr z q
    unfold RRea at this ⊢
    rw [hs 4 (by omega) (by omega), hs 5 (by omega) (by omega), hs 6 (by omega) (by omega), ht 16 (by decide) (by decide) (by decide) (by decide), ht 17 (by decide) (by decide) (by decide) (by decide), ht 18 (by decide) (by decide) (by decide) (by decide)]
    exact this
  · by_cases hj : j = k
    · subst hj; exact h2
    · have := hsh j q
      obtain ⟨b1, b2, b3⟩ := h1 j q hj
      unfold RShe at this ⊢
      rw [hs (14 + j) (by omega) (by omega), hs (14 + j + 4) (by omega) (by omega), b1, b2]
      rcases this with g | ⟨g1, c, l, g2, g3, g4, g5, g6, g7, g8⟩
      · exact Or.inl g
      · exact Or.inr ⟨g1, c, l, g2, g3, g4, g5, g6, g7, fun i hi => by rw [b3 i (by omega)]; exact g8 i hi⟩
theorem r_sheet {F : Nat} (hF0 : 50000 ≤ F) (v1 v2 v3 : Int32) : Agree (X6_sheet F v1 v2 v3) (X7_sheet F v1 v2 v3) := by
  rintro σ τ ⟨n, r, h⟩
  have hF := h.fault 0
  unfold X6_sheet X7_sheet X7_refused X7_failed X6_faultAnswer
  simp only [bnd]
  rcases isSheet_cases v1 with ⟨a, b⟩ | ⟨k, hk, rfl, a, b⟩
  · rw [a, b, if_pos rfl, if_neg n10]
    exact ⟨_, _, _, rfl, rfl, n, r, hF⟩
  rw [a, b, if_neg n10, if_pos rfl]
  rcases isLane_cases v2 with ⟨a, b⟩ | ⟨l, hl, rfl, a, b⟩
  · rw [a, b, if_pos rfl, if_pos rfl]
    exact ⟨_, _, _, rfl, rfl, n, r, hF⟩
  rw [a, b, if_neg n10, if_neg n10]
  by_cases c1 : v3 ≤ 60
  rotate_left
  · rw [if_neg c1, if_neg c1]
    exact ⟨_, _, _, rfl, rfl, n, r, hF⟩
  rw [if_pos c1, if_pos c1]
  by_cases c2 : 0 ≤ v3
  rotate_left
  · rw [if_neg c2, if_neg c2]
    refine ⟨_, _, _, rfl, rfl, n, r, ?_⟩
    have e : u2 (u2 σ 0 9 0) 0 9 4 = u2 σ 0 9 4 := by
      funext a j
      simp only [u2_at]
      split <;> rfl
    rw [e]
    exact h.fault 4
  rw [if_pos c2, if_pos c2]
  have h60 : (60 : Int32).toInt = 60 := by decide
  rw [i32_le, h60] at c1
  rw [i32_le, t0_32] at c2
  obtain ⟨c, hc, rfl⟩ := nI_ex (v := v3) (N := 61) c2 (by omega)
  simp only [grd_t (inb_k hk), clN (show k < 2 ^ 31 by omega)]
  unfold X5_renew
  simp only [bnd]
  obtain ⟨σ', e1, g1, g2, g3⟩ := renew_loop F (14 + k) F 0 (u2 (u2 (u2 (u2 σ 0 9 0) (14 + k) 1 1) (14 + k) 2 (nI l)) (14 + k) 3 (nI c)) (by omega) (by omega)
  obtain ⟨τ', e2, q1, q2, q3⟩ := sheet_loop F k c hk (by omega) (fun σ_17 => some (1, u2 σ_17 0 0 0)) F 0 (u2 (u2 τ 19 k (nI c)) 20 k (nI l)) (by omega) (by omega)
  rw [nI_0] at e1 e2
  rw [e1, e2]
  refine ⟨1, σ', u2 τ' 0 0 0, rfl, rfl, n, r, ?_⟩
  refine hF.she hk (fun a ha hb => ?_) (fun a ha hb hc hd => ?_) (fun j hj hjk => ⟨?_, ?_, fun i hi => ?_⟩) ?_
  · rw [g1 a hb, u2_k _ _ _ ha, u2_k _ _ _ ha, u2_k _ _ _ ha]
  · by_cases h0 : a = 0
    · subst h0
      funext j
      by_cases hj : j = 0
      · subst hj; rw [u2_s, u2_s]
      · rw [u2_j _ _ _ hj, u2_j _ _ _ hj, q1 0 hc, u2_k _ _ _ hb, u2_k _ _ _ ha]
    · rw [u2_k _ _ _ h0, u2_k _ _ _ h0, q1 a hc, u2_k _ _ _ hb, u2_k _ _ _ ha]
  · rw [u2_k _ _ _ (by decide), u2_k _ _ _ (by decide), q1 19 (by decide), u2_k _ _ _ (by decide), u2_j _ _ _ hjk]
  · rw [u2_k _ _ _ (by decide), u2_k _ _ _ (by decide), q1 20 (by decide), u2_j _ _ _ hjk, u2_k _ _ _ (by decide)]
  · rw [u2_k _ _ _ (by decide), u2_k _ _ _ (by decide), q2 _ (by omega), u2_k _ _ _ (by decide), u2_k _ _ _ (by decide)]
  · refine Or.inr ⟨?_, c, l, by omega, hl, ?_, ?_, ?_, ?_, fun i hi => ?_⟩
    · rw [g1 _ (by omega), u2_j _ _ _ (by decide), u2_j _ _ _ (by decide), u2_s]
    · rw [g1 _ (by omega), u2_s]
    · rw [u2_k _ _ _ (by decide), q1 19 (by decide), u2_k _ _ _ (by decide), u2_s]
    · rw [g1 _ (by omega), u2_j _ _ _ (by decide), u2_s]
    · rw [u2_k _ _ _ (by decide), q1 20 (by decide), u2_s]
    · rw [g3 i (by omega) (by omega), u2_k _ _ _ (by decide), q3 _ (by omega) (by omega)]
