-- the small calls
theorem noCell_eq {σ τ : Mem} {k : Nat} (hk : k < 4) (h : RShe k σ τ) (i : Int32) :
    (∃ a c, i = nI a ∧ a < c ∧ c ≤ 60 ∧ σ (14 + k) 1 = 1 ∧ τ 19 k = nI c ∧ X5_faultOfCells_J17 (14 + k) i 1 σ = 0 ∧ X7_noCell (nI k) i τ = some 0 ∧ ∀ j, j < c → σ (14 + k + 4) j = τ 21 (60 * k + j)) ∨
    ∃ f, (f = 1 ∨ f = 3) ∧ X5_faultOfCells_J17 (14 + k) i 1 σ = nI f ∧ X7_noCell (nI k) i τ = some (nI f) := by
  unfold X5_faultOfCells_J17 X7_noCell
  simp only [grd_t (inb_k hk), clN (show k < 2 ^ 31 by omega)]
  rcases h with ⟨h1, h2⟩ | ⟨h1, c, l, hc, hl, e3, e4, e5, e6, e7⟩
  · refine Or.inr ⟨1, Or.inl rfl, ?_, ?_⟩
    · rw [if_pos h1]; rfl
    · rw [h2, if_neg (by decide)]; rfl
  · rw [h1, e4, if_neg n10, if_pos (by decide), if_pos (nI_pos' (by omega))]
    have hn1 : ((nI c).toInt64 - 1).toInt = (c : Int) - 1 := by
      rw [nI_l (by omega)]
      have : ∀ m, m ≤ 60 → (lN m - 1).toInt = (m : Int) - 1 := by decide +kernel
      exact this c hc
    rw [X7_in_iff, i64_of, t0_64, hn1]
    rcases hasCells_iff e3 hc i 1 with ⟨g1, a, b, rfl, hb, g2⟩ | ⟨g1, g2⟩
    · have hb1 : b = 1 := (nI_inj (show 1 < 2 ^ 31 by decide) (by omega) hb).symm
      subst hb1
      have ea := t32 (k := a) (by omega)
      have e : 0 ≤ (nI a).toInt ∧ (nI a).toInt ≤ (c : Int) - 1 := by omega
      refine Or.inl ⟨a, c, rfl, by omega, hc, by first | rfl | trivial, by first | rfl | trivial, ?_, ?_, e7⟩
      · rw [g1]; rfl
      · simp only [if_pos e]; rfl
    · have t1 : (1 : Int32).toInt = 1 := by decide
      rw [t1] at g2
      have e : ¬ (0 ≤ i.toInt ∧ i.toInt ≤ (c : Int) - 1) := by omega
      refine Or.inr ⟨3, Or.inr rfl, ?_, ?_⟩
      · rw [g1]; rfl
      · simp only [if_neg e]; rfl
theorem u2_u2 (σ : Mem) (k j : Nat) (v w : Int32) : u2 (u2 σ k j v) k j w = u2 σ k j w := by
  funext a b
  simp only [u2_at]
  split <;> rfl
theorem r_lose (v1 : Int32) : Agree (X6_lose v1) (X7_lose v1) := by
  rintro σ τ ⟨n, r, h⟩
  unfold X6_lose X7_lose
  rcases isSheet_cases v1 with ⟨a, b⟩ | ⟨k, hk, rfl, a, b⟩
  · rw [a, b, if_pos rfl, if_neg n10]
    exact ⟨_, _, _, rfl, rfl, n, r, h⟩
  rw [a, b, if_neg n10, if_pos rfl]
  simp only [grd_t (inb_k hk), clN (show k < 2 ^ 31 by omega), bnd]
  have hR : RelN n r (u2 σ (14 + k) 1 0) (u2 τ 19 k (-1)) := by
    refine h.she hk (fun a ha hb => u2_k _ _ _ ha) (fun a ha hb hc hd => u2_k _ _ _ ha) (fun j hj hjk => ⟨u2_j _ _ _ hjk, by rw [u2_k _ _ _ (by decide)], fun i hi => by rw [u2_k _ _ _ (by decide)]⟩) (Or.inl ⟨u2_s _ _ _ _, u2_s _ _ _ _⟩)
  rcases h.2.2.2 k hk with ⟨h1, h2⟩ | ⟨h1, c, l, hc, hl, e3, e4, e5, e6, e7⟩
  · rw [h1, h2, if_pos rfl, if_neg (by decide)]
    exact ⟨_, _, _, rfl, rfl, n, r, hR⟩
  · rw [h1, e4, if_neg n10, if_pos (nI_pos' (by omega))]
    exact ⟨_, _, _, rfl, rfl, n, r, hR⟩
/-- one cell of a sheet, changed on both sides -/
theorem RelN.cell {n r : Nat} {σ τ : Mem} (h : RelN n r σ τ) {k c a : Nat} (hk : k < 4) (h1 : σ (14 + k) 1 = 1) (hc : τ 19 k = nI c) (h60 : c ≤ 60) (ha : a < c) (x : Int32) : RelN n r (u2 σ (14 + k + 4) a x) (u2 τ 21 (60 * k + a) x) := by
  refine h.she hk (fun z hz hz2 => u2_k _ _ _ hz2) (fun z hz hz2 hz3 hz4 => u2_k _ _ _ hz3) (fun j hj hjk => ⟨by rw [u2_k _ _ _ (by decide)], by rw [u2_k _ _ _ (by decide)], fun i hi => u2_j _ _ _ (by omega)⟩) ?_
  rcases h.2.2.2 k hk with ⟨h2, -⟩ | ⟨h2, c2, l, hc2, hl, e3, e4, e5, e6, e7⟩
  · rw [h2] at h1; exact absurd h1 (by decide)
  · have hcc : c2 = c := nI_inj (by omega) (by omega) (e4.symm.trans hc)
    subst hcc
    refine Or.inr ⟨?_, c2, l, hc2, hl, ?_, ?_, ?_, ?_, fun i hi => ?_⟩
    · rw [u2_k _ _ _ (by omega)]; exact h2
    · rw [u2_k _ _ _ (by omega)]; exact e3
    · rw [u2_k _ _ _ (by decide)]; exact e4
    · rw [u2_k _ _ _ (by omega)]; exact e5
    · rw [u2_k _ _ _ (by decide)]; exact e6
    · by_cases hi2 : i = a
      · subst hi2; rw [u2_s, u2_s]
      · rw [u2_j _ _ _ hi2, u2_j _ _ _ (by omega)]; exact e7 i hi
theorem r_put (v1 v2 v3 : Int32) : Agree (X6_put v1 v2 v3) (X7_put v1 v2 v3) := by
  rintro σ τ ⟨n, r, h⟩
  have hF := h.fault 0
  unfold X6_put X7_put X7_refused X7_failed X6_faultAnswer X5_faultOfCells
  simp only [bnd]
  rcases isSheet_cases v1 with ⟨a, b⟩ | ⟨k, hk, rfl, a, b⟩
  · rw [a, b, if_pos rfl, if_neg n10]
    exact ⟨_, _, _, rfl, rfl, n, r, hF⟩
  rw [a, b, if_neg n10, if_pos rfl]
  have hs := h.2.2.2 k hk
  have hs0 := hF.2.2.2 k hk
  have ek : 14 + k ≠ 0 := by omega
  have ek4 : 14 + k + 4 ≠ 0 := by omega
  have hJ : X5_faultOfCells_J17 (14 + k) v2 1 (u2 σ 0 9 0) = X5_faultOfCells_J17 (14 + k) v2 1 σ := by
    unfold X5_faultOfCells_J17 X5_hasCells
    simp only [u2_k σ 9 0 ek]
  simp only [grd_t (inb_k hk), clN (show k < 2 ^ 31 by omega), u2_k σ 9 0 ek, ite_self, hJ, if_true]
  rcases noCell_eq hk hs v2 with ⟨a, c, rfl, hac, hc, g1, g2, g3, g4, g5⟩ | ⟨f, hf, g1, g2⟩
  · have hR := hF.cell (a := a) hk (by rw [u2_k _ _ _ ek]; exact g1) (by rw [u2_k _ _ _ (by decide)]; exact g2) hc hac
    have hcom : ∀ x, u2 (u2 τ 21 (60 * k + a) x) 0 0 0 = u2 (u2 τ 0 0 0) 21 (60 * k + a) x := fun x => by
      funext z j
      simp only [u2_at]
      by_cases hz : z = 21
      · subst hz; simp
      · simp [hz]
    simp only [g3, g4, Option.bind_some, if_true, if_pos (show (0 : Int32) ≤ 0 by decide), grd_t (inb_nI (show a < 60 by omega) (by decide)), m60_nI, nI_add, grd_t (inb_nI (show 60 * k + a < 240 by omega) (by decide)), clN (show a < 2 ^ 31 by omega), clN (show 60 * k + a < 2 ^ 31 by omega), hcom]
    rcases hs with ⟨h1, -⟩ | ⟨h1, c2, l, hc2, hl, e3, e4, e5, e6, e7⟩
    · rw [h1] at g1; exact absurd g1 (by decide)
    rw [e5, e6]
    unfold X6_cutToLane
    rcases (show l = 0 ∨ l = 1 ∨ l = 2 by omega) with rfl | rfl | rfl
    · rw [if_pos (by decide), if_pos (by decide)]
      exact ⟨_, _, _, rfl, rfl, n, r, hR _⟩
    · rw [if_neg (by decide), if_pos (by decide), if_neg (by decide), if_pos (by decide)]
      exact ⟨_, _, _, rfl, rfl, n, r, hR _⟩
    · rw [if_neg (by decide), if_neg (by decide), if_neg (by decide), if_neg (by decide)]
      exact ⟨_, _, _, rfl, rfl, n, r, hR _⟩
  · have hf0 : ¬ nI f = 0 := by rcases hf with rfl | rfl <;> decide
    have hf1 : ¬ nI f ≤ 0 := by rcases hf with rfl | rfl <;> decide
    simp only [g1, g2, Option.bind_some, if_neg hf0, if_neg hf1, u2_u2]
    exact ⟨_, _, _, rfl, rfl, n, r, h.fault _⟩
theorem r_cell (v1 v2 v3 : Int32) : Agree (X6_cell v1 v2 v3) (X7_cell v1 v2 v3) := by
  rintro σ τ ⟨n, r, h⟩
  have hF := h.fault 0
  unfold X6_cell X7_cell X7_failedLong X5_faultOfCells X7_lost
  simp only [bnd]
  rcases isSheet_cases v1 with ⟨a, b⟩ | ⟨k, hk, rfl, a, b⟩
  · rw [a, b, if_pos rfl, if_neg n10]
    exact ⟨_, _, _, rfl, rfl, n, r, hF⟩
  rw [a, b, if_neg n10, if_pos rfl]
  rcases isLane_cases v3 with ⟨a, b⟩ | ⟨l3, hl3, rfl, a, b⟩
  · rw [a, b, if_pos rfl, if_pos rfl]
    exact ⟨_, _, _, rfl, rfl, n, r, hF⟩
  rw [a, b, if_neg n10, if_neg n10]
  have hs := h.2.2.2 k hk
  have hs0 := hF.2.2.2 k hk
  have ek : 14 + k ≠ 0 := by omega
  have ek4 : 14 + k + 4 ≠ 0 := by omega
  have hJ : X5_faultOfCells_J17 (14 + k) v2 1 (u2 σ 0 9 0) = X5_faultOfCells_J17 (14 + k) v2 1 σ := by
    unfold X5_faultOfCells_J17 X5_hasCells
    simp only [u2_k σ 9 0 ek]
  have hN : X7_noCell (nI k) v2 (u2 τ 0 0 0) = X7_noCell (nI k) v2 τ := by
    unfold X7_noCell
    simp only [u2_k τ 0 0 (show 19 ≠ 0 by decide)]
  simp only [grd_t (inb_k hk), clN (show k < 2 ^ 31 by omega), u2_k σ 9 0 ek, hJ, hN, u2_u2, u2_s, u2_k _ 9 _ ek4, u2_k τ 0 0 (show 19 ≠ 0 by decide), u2_k τ 0 0 (show 20 ≠ 0 by decide), u2_k τ 0 0 (show 21 ≠ 0 by decide)]
  have key : ∀ f : Int32, X5_faultOfCells_J17 (14 + k) v2 1 σ = f → X7_noCell (nI k) v2 τ = some f → ∃ (r0 : Int64) (σ' τ' : Mem), (if f = 0 then grd (inb v2 60) (some ((σ (14 + k + 4) v2.toNatClampNeg).toInt64, u2 σ 0 9 f)) else some (-9223372036854775808, u2 σ 0 9 f)) = some (r0, σ') ∧ (Option.bind (X7_noCell (nI k) v2 τ) fun z_7 => if z_7 ≤ 0 then grd (inb (60 * nI k + v2) 240) (some ((τ 21 (60 * nI k + v2).toNatClampNeg).toInt64, u2 τ 0 0 0)) else Option.bind (X7_noCell (nI k) v2 τ) fun z_11 => some (-9223372036854775808, u2 τ 0 0 z_11)) = some (r0, τ') ∧ Rel σ' τ' := by
    intro f h1 h2
    rcases noCell_eq hk hs v2 with ⟨a, c, rfl, hac, hc, g1, g2, g3, g4, g5⟩ | ⟨f2, hf, g1, g2⟩
    · have hf : f = 0 := h1.symm.trans g3
      subst hf
      simp only [h2, Option.bind_some, if_true, if_pos (show (0 : Int32) ≤ 0 by decide), grd_t (inb_nI (show a < 60 by omega) (by decide)), m60_nI, nI_add, grd_t (inb_nI (show 60 * k + a < 240 by omega) (by decide)), clN (show a < 2 ^ 31 by omega), clN (show 60 * k + a < 2 ^ 31 by omega), g5 a hac]
      exact ⟨_, _, _, rfl, rfl, n, r, hF⟩
    · have hf2 : f = nI f2 := h1.symm.trans g1
      subst hf2
      have hf0 : ¬ nI f2 = 0 := by rcases hf with rfl | rfl <;> decide
      have hf1 : ¬ nI f2 ≤ 0 := by rcases hf with rfl | rfl <;> decide
      simp only [h2, Option.bind_some, if_neg hf0, if_neg hf1]
      exact ⟨_, _, _, rfl, rfl, n, r, h.fault _⟩
  rcases hs with ⟨h1, h2⟩ | ⟨h1, c2, l, hc2, hl, e3, e4, e5, e6, e7⟩
  · rw [h1, h2]
    simp only [if_true, if_pos (show (-1 : Int32) < 0 by decide)]
    rcases noCell_eq hk (Or.inl ⟨h1, h2⟩) v2 with ⟨a, c, rfl, hac, hc, g1, g2, g3, g4, g5⟩ | ⟨f2, hf, g1, g2⟩
    · exact key _ rfl (by rw [g3]; exact g4)
    · exact key _ rfl (by rw [g1]; exact g2)
  · rw [h1, e4, e5, e6]
    simp only [if_neg n10, if_neg (nI_pos (show c2 < 2 ^ 31 by omega))]
    by_cases hl2 : nI l = nI l3
    · simp only [if_pos hl2]
      rcases noCell_eq hk (Or.inr ⟨h1, c2, l, hc2, hl, e3, e4, e5, e6, e7⟩) v2 with ⟨a, c, rfl, hac, hc, g1, g2, g3, g4, g5⟩ | ⟨f2, hf, g1, g2⟩
      · exact key _ rfl (by rw [g3]; exact g4)
      · exact key _ rfl (by rw [g1]; exact g2)
    · simp only [if_neg hl2, if_neg (show ¬ (2 : Int32) = 0 by decide)]
      exact ⟨_, _, _, rfl, rfl, n, r, h.fault _⟩
