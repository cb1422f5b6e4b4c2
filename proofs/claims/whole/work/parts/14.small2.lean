-- copy, readings, bodies
theorem copy_loop1 (F k i c : Nat) (v3 v4 : Int32) (hk : k < 4) (hc : i + c ≤ 60) (kk : Mem → Option (Int32 × Mem)) : ∀ (f x : Nat) (σ : Mem), x ≤ c → c - x < f → ∃ σ', X7_copy_L107 F (nI k) (nI i) v3 v4 (nI c) kk f (nI x) σ = kk σ' ∧ (∀ a, a ≠ 22 → σ' a = σ a) ∧ (∀ j, j < x → σ' 22 j = σ 22 j) ∧ (∀ j, x ≤ j → j < c → σ' 22 j = σ 21 (60 * k + i + j)) := by
  intro f
  induction f with
  | zero => intro i σ h1 h2; omega
  | succ f ih =>
    intro x σ h1 h2
    rw [X7_copy_L107]
    by_cases h : x = c
    · subst h
      rw [if_pos (nI_le (Nat.le_refl _) (by omega))]
      exact ⟨σ, rfl, fun _ _ => rfl, fun _ _ => rfl, fun j a b => absurd b (by omega)⟩
    · rw [if_neg (nI_ge (by omega) (by omega)), m60_nI, nI_add, nI_add, grd_t (inb_nI (by omega) (by decide)), grd_t (inb_nI (by omega) (by decide)), bnd, nI_1, clN (show x < 2 ^ 31 by omega), clN (by omega)]
      obtain ⟨σ', e, g1, g2, g3⟩ := ih (x + 1) (u2 σ 22 x (σ 21 (60 * k + i + x))) (by omega) (by omega)
      refine ⟨σ', e, fun a ha => (g1 a ha).trans (u2_k _ _ _ ha), fun j hj => (g2 j (by omega)).trans (u2_j _ _ _ (by omega)), fun j a b => ?_⟩
      by_cases hj : j = x
      · subst hj
        rw [g2 _ (by omega), u2_s]
      · rw [g3 j (by omega) b, u2_k _ _ _ (by decide)]
theorem copy_loop2 (F k i c : Nat) (hk : k < 4) (hc : i + c ≤ 60) (kk : Mem → Option (Int32 × Mem)) : ∀ (f x : Nat) (σ : Mem), x ≤ c → c - x < f → ∃ σ', X7_copy_L144 F (nI k) (nI i) (nI c) kk f (nI x) σ = kk σ' ∧ (∀ a, a ≠ 21 → σ' a = σ a) ∧ (∀ j, ¬ (60 * k + i + x ≤ j ∧ j < 60 * k + i + c) → σ' 21 j = σ 21 j) ∧ (∀ j, x ≤ j → j < c → σ' 21 (60 * k + i + j) = σ 22 j) := by
  intro f
  induction f with
  | zero => intro i σ h1 h2; omega
  | succ f ih =>
    intro x σ h1 h2
    rw [X7_copy_L144]
    by_cases h : x = c
    · subst h
      rw [if_pos (nI_le (Nat.le_refl _) (by omega))]
      exact ⟨σ, rfl, fun _ _ => rfl, fun _ _ => rfl, fun j a b => absurd b (by omega)⟩
    · rw [if_neg (nI_ge (by omega) (by omega)), m60_nI, nI_add, nI_add, grd_t (inb_nI (by omega) (by decide)), grd_t (inb_nI (by omega) (by decide)), bnd, nI_1, clN (show x < 2 ^ 31 by omega), clN (by omega)]
      obtain ⟨σ', e, g1, g2, g3⟩ := ih (x + 1) (u2 σ 21 (60 * k + i + x) (σ 22 x)) (by omega) (by omega)
      refine ⟨σ', e, fun a ha => (g1 a ha).trans (u2_k _ _ _ ha), fun j hj => (g2 j (by omega)).trans (u2_j _ _ _ (by omega)), fun j a b => ?_⟩
      by_cases hj : j = x
      · subst hj
        rw [g2 _ (by omega), u2_s]
      · rw [g3 j (by omega) b, u2_k _ _ _ (by decide)]
theorem r_copy {F : Nat} (hF0 : 50000 ≤ F) (v1 v2 v3 v4 v5 : Int32) : Agree (X6_copy v1 v2 v3 v4 v5) (X7_copy F v1 v2 v3 v4 v5) := by
  rintro σ τ ⟨n, r, h⟩
  have hF := h.fault 0
  unfold X6_copy X7_copy X7_refused X7_failed X6_faultAnswer
  simp only [bnd]
  rcases isSheet_cases v1 with ⟨a, b⟩ | ⟨k, hk, rfl, a, b⟩
  · rw [a, b, if_pos rfl, if_neg n10]
    exact ⟨_, _, _, rfl, rfl, n, r, hF⟩
  rw [a, b, if_neg n10, if_pos rfl]
  rcases isSheet_cases v3 with ⟨a, b⟩ | ⟨o, ho, rfl, a, b⟩
  · rw [a, b, if_pos rfl, if_neg n10]
    exact ⟨_, _, _, rfl, rfl, n, r, hF⟩
  rw [a, b, if_neg n10, if_pos rfl]
  have ek : 14 + k ≠ 0 := by omega
  have eo : 14 + o ≠ 0 := by omega
  have ek4 : 14 + k + 4 ≠ 0 := by omega
  have eo4 : 14 + o + 4 ≠ 0 := by omega
  have hC : ∀ i z, X5_hasCells (14 + k) i z (u2 σ 0 9 0) = X5_hasCells (14 + k) i z σ := fun i z => by
    unfold X5_hasCells
    simp only [u2_k σ 9 0 ek]
  have hC2 : ∀ i z, X5_hasCells (14 + o) i z (u2 σ 0 9 0) = X5_hasCells (14 + o) i z σ := fun i z => by
    unfold X5_hasCells
    simp only [u2_k σ 9 0 eo]
  simp only [grd_t (inb_k hk), grd_t (inb_k ho), clN (show k < 2 ^ 31 by omega), clN (show o < 2 ^ 31 by omega), u2_k σ 9 0 ek, u2_k σ 9 0 eo, u2_k σ 9 0 ek4, u2_k σ 9 0 eo4, hC, hC2, u2_u2]
  rcases h.2.2.2 k hk with ⟨h1, h2⟩ | ⟨h1, c, l, hc, hl, e3, e4, e5, e6, e7⟩
  · rw [h1, h2]
    simp only [if_true, if_pos (show (-1 : Int32) < 0 by decide)]
    exact ⟨_, _, _, rfl, rfl, n, r, h.fault 1⟩
  have hk1 := h1
  rw [h1, e4, e5, e6]
  simp only [if_neg n10, if_neg (nI_pos (show c < 2 ^ 31 by omega))]
  rcases h.2.2.2 o ho with ⟨h1, h2⟩ | ⟨h1, d, l2, hd, hl2, d3, d4, d5, d6, d7⟩
  · rw [h1, h2]
    simp only [if_true, if_neg (show ¬ (0 : Int32) ≤ -1 by decide)]
    exact ⟨_, _, _, rfl, rfl, n, r, h.fault 1⟩
  rw [h1, d4, d5, d6]
  simp only [if_neg n10, if_pos (nI_pos' (show d < 2 ^ 31 by omega))]
  by_cases hll : nI l = nI l2
  rotate_left
  · simp only [if_neg hll]
    exact ⟨_, _, _, rfl, rfl, n, r, h.fault 2⟩
  simp only [if_pos hll]
  have hb1 := Int32.toInt_lt v5
  have hb2 := Int32.le_toInt v5
  rw [isBeyond_iff v2 v5.toInt64 c hc v5.toInt (i64_of _) (by omega), isBeyond_iff v4 v5.toInt64 d hd v5.toInt (i64_of _) (by omega)]
  rcases hasCells_iff e3 hc v2 v5 with ⟨g1, a, b, rfl, rfl, g2⟩ | ⟨g1, g2⟩
  rotate_left
  · simp only [g1, if_true, if_neg g2, if_neg n10]
    exact ⟨_, _, _, rfl, rfl, n, r, h.fault 3⟩
  have ta := t32 (k := a) (by omega)
  have tb := t32 (k := b) (by omega)
  have g2' : 0 ≤ (nI a).toInt ∧ 0 ≤ (nI b).toInt ∧ (nI a).toInt + (nI b).toInt ≤ (c : Int) := by omega
  simp only [g1, if_neg n10, if_pos g2', if_true]
  rcases hasCells_iff d3 hd v4 (nI b) with ⟨q1, a2, b2, rfl, hb, q2⟩ | ⟨q1, q2⟩
  rotate_left
  · simp only [q1, if_true, if_neg q2, if_neg n10]
    exact ⟨_, _, _, rfl, rfl, n, r, h.fault 3⟩
  have hbb : b2 = b := (nI_inj (by omega) (by omega) hb).symm
  subst hbb
  have ta2 := t32 (k := a2) (by omega)
  have q2' : 0 ≤ (nI a2).toInt ∧ 0 ≤ (nI b2).toInt ∧ (nI a2).toInt + (nI b2).toInt ≤ (d : Int) := by omega
  have hcp : cpOk (nI a) (nI a2) (nI b2) 60 60 = true := by
    unfold cpOk
    rw [clN (show a < 2 ^ 31 by omega), clN (show a2 < 2 ^ 31 by omega), clN (show b2 < 2 ^ 31 by omega)]
    simp only [decide_eq_false (nI_pos (show a < 2 ^ 31 by omega)), decide_eq_false (nI_pos (show a2 < 2 ^ 31 by omega)), decide_eq_false (nI_pos (show b2 < 2 ^ 31 by omega)), decide_eq_true (show a + b2 ≤ 60 by omega), decide_eq_true (show a2 + b2 ≤ 60 by omega)]
    rfl
  simp only [q1, if_neg n10, if_pos q2', if_true, grd_t hcp, clN (show a < 2 ^ 31 by omega), clN (show a2 < 2 ^ 31 by omega), clN (show b2 < 2 ^ 31 by omega)]
  obtain ⟨τ1, e1, p1, p2, p3⟩ := copy_loop1 F k a b2 (nI o) (nI a2) hk (by omega) (fun σ_25 => X7_copy_L144 F (nI o) (nI a2) (nI b2) (fun σ_31 => some (nI b2, u2 σ_31 0 0 0)) F 0 σ_25) F 0 τ (by omega) (by omega)
  obtain ⟨τ2, e2, y1, y2, y3⟩ := copy_loop2 F o a2 b2 ho (by omega) (fun σ_31 => some (nI b2, u2 σ_31 0 0 0)) F 0 τ1 (by omega) (by omega)
  rw [nI_0] at e1 e2
  rw [e1, e2]
  refine ⟨_, _, _, rfl, rfl, n, r, ?_⟩
  refine hF.she ho (fun z ha hb => ?_) (fun z ha hb hc hd => ?_) (fun j hj hjk => ⟨?_, ?_, fun i hi => ?_⟩) ?_
  · rw [u1_n _ _ hb]
  · by_cases h0 : z = 0
    · subst h0
      funext j
      by_cases hj : j = 0
      · subst hj; rw [u2_s, u2_s]
      · rw [u2_j _ _ _ hj, u2_j _ _ _ hj, y1 0 hc, p1 0 hd]
    · rw [u2_k _ _ _ h0, u2_k _ _ _ h0, y1 z hc, p1 z hd]
  · rw [u2_k _ _ _ (by decide), u2_k _ _ _ (by decide), y1 19 (by decide), p1 19 (by decide)]
  · rw [u2_k _ _ _ (by decide), u2_k _ _ _ (by decide), y1 20 (by decide), p1 20 (by decide)]
  · rw [u2_k _ _ _ (by decide), u2_k _ _ _ (by decide), y2 _ (by omega), p1 21 (by decide)]
  · refine Or.inr ⟨?_, d, l2, hd, hl2, ?_, ?_, ?_, ?_, fun i hi => ?_⟩
    · rw [u1_n _ _ (by omega), u2_k _ _ _ eo]; exact h1
    · rw [u1_n _ _ (by omega), u2_k _ _ _ eo]; exact d3
    · rw [u2_k _ _ _ (by decide), y1 19 (by decide), p1 19 (by decide)]; exact d4
    · rw [u1_n _ _ (by omega), u2_k _ _ _ eo]; exact d5
    · rw [u2_k _ _ _ (by decide), y1 20 (by decide), p1 20 (by decide)]; exact d6
    · rw [u1_s, u2_k _ _ _ (by decide)]
      by_cases hin : a2 ≤ i ∧ i < a2 + b2
      · have e := y3 (i - a2) (by omega) (by omega)
        rw [show 60 * o + a2 + (i - a2) = 60 * o + i by omega, p3 _ (by omega) (by omega)] at e
        rw [va_cpy, if_pos hin, e, e7 _ (by omega), Nat.add_assoc]
      · rw [va_cpy, if_neg hin, y2 _ (by omega), p1 21 (by decide), d7 i hi]
theorem r_reading (v1 v2 v3 : Int32) (h3 : v3 = 0 ∨ v3 = 1) : Agree (X6_reading v1 v2 v3) (X7_reading v1 v2 v3) := by
  rintro σ τ ⟨n, r, h⟩
  unfold X6_reading X7_reading
  rcases isPerson_cases h v1 with ⟨a, b⟩ | ⟨p, hp, rfl, a, b⟩
  · rw [a, b, if_pos rfl, if_neg n10]
    exact ⟨_, _, _, rfl, rfl, n, r, h⟩
  rw [a, b, if_neg n10, if_pos rfl, X7_in_iff, i64_of, t0_64, t5_64]
  have h6 : (6 : Int32).toInt = 6 := by decide
  by_cases c : 0 ≤ v2.toInt ∧ v2.toInt ≤ 5
  rotate_left
  · rw [if_neg c, if_pos rfl]
    by_cases c0 : v2 < 0
    · rw [if_pos c0]; exact ⟨_, _, _, rfl, rfl, n, r, h⟩
    · rw [if_neg c0, if_neg (by rw [i32_lt, t0_32] at c0; rw [i32_lt, h6]; omega)]
      exact ⟨_, _, _, rfl, rfl, n, r, h⟩
  rw [if_neg (by rw [i32_lt, t0_32]; omega), if_pos (by rw [i32_lt, h6]; omega), if_pos c, if_neg n10]
  obtain ⟨z, hz, rfl⟩ := nI_ex (N := 6) c.1 (by omega)
  obtain ⟨⟨a1, a2, a3, a4, a5, a6, a7, a8, a9⟩, hpe, hr, hk⟩ := h
  have hnar : vp_nar .boolean v3 = v3 := by rcases h3 with rfl | rfl <;> rfl
  unfold X4_add
  simp only [bnd]
  rw [a6, a7, hnar]
  by_cases c8 : r = 8
  · subst c8
    rw [if_neg (by decide), if_pos (by decide)]
    exact ⟨_, _, _, rfl, rfl, n, 8, ⟨a1, a2, a3, a4, a5, a6, a7, a8, a9⟩, hpe, hr, hk⟩
  have hr8 : inb (nI r) 8 = true := inb_nI (by omega) (by decide)
  have k1 : ∀ v, u2 σ 4 r v 3 = σ 3 := fun v => u2_k _ _ _ (by decide)
  have k2 : ∀ v w, u2 (u2 σ 4 r v) 5 r w 3 = σ 3 := fun v w => by rw [u2_k _ _ _ (by decide), k1]
  have k3 : ∀ v w y, u2 (u2 (u2 σ 4 r v) 5 r w) 6 r y 3 = σ 3 := fun v w y => by rw [u2_k _ _ _ (by decide), k2]
  have m1 : ∀ v, u2 τ 16 r v 0 = τ 0 := fun v => u2_k _ _ _ (by decide)
  have m2 : ∀ v w, u2 (u2 τ 16 r v) 17 r w 0 = τ 0 := fun v w => by rw [u2_k _ _ _ (by decide), m1]
  have m3 : ∀ v w y, u2 (u2 (u2 τ 16 r v) 17 r w) 18 r y 0 = τ 0 := fun v w y => by rw [u2_k _ _ _ (by decide), m2]
  rw [if_pos (show nI r < 8 from nI_lt (b := 8) (by omega) (by decide)), if_neg (show ¬ nI r = 8 from fun q => c8 (nI_inj (b := 8) (by omega) (by decide) q))]
  simp only [grd_t hr8, clN (show r < 2 ^ 31 by omega), k1, k2, k3, m1, m2, m3, a6, a7, u2_s, Option.bind_some, if_neg n10]
  refine ⟨_, _, _, rfl, rfl, n, r + 1, ⟨a1, a2, by omega, ?_, ?_, ?_, ?_, ?_, ?_⟩, fun q hq => ?_, fun q hq => ?_, fun q hq => ?_⟩
  · rw [u2_k _ _ _ (by decide), u2_k _ _ _ (by decide), u2_k _ _ _ (by decide), u2_k _ _ _ (by decide)]; exact a4
  · rw [u2_j _ _ _ (by decide), m3]; exact a5
  · rw [u2_s, nI_1]
  · rw [u2_s, nI_1]
  · rw [u2_k _ _ _ (by decide), u2_k _ _ _ (by decide), u2_k _ _ _ (by decide), u2_k _ _ _ (by decide), u2_j _ _ _ (by decide), m3]; exact a8
  · rw [u2_k _ _ _ (by decide), u2_k _ _ _ (by decide), u2_k _ _ _ (by decide), u2_k _ _ _ (by decide), u2_j _ _ _ (by decide), m3]; exact a9
  · have := hpe q hq
    unfold RPer at this ⊢
    rw [u2_k _ _ _ (show 22 + q ≠ 3 by omega), u2_k _ _ _ (show 22 + q ≠ 6 by omega), u2_k _ _ _ (show 22 + q ≠ 5 by omega), u2_k _ _ _ (show 22 + q ≠ 4 by omega)]
    have e : ∀ y, 1 ≤ y → y < 5 → u2 (u2 (u2 (u2 τ 16 r (nI p)) 17 r (nI z)) 18 r v3) 0 21 (nI r + 1) y = τ y := fun y h1 h2 => by rw [u2_k _ _ _ (by omega), u2_k _ _ _ (by omega), u2_k _ _ _ (by omega), u2_k _ _ _ (by omega)]
    rw [e 1 (by decide) (by decide), e 2 (by decide) (by decide), e 3 (by decide) (by decide), e 4 (by decide) (by decide)]
    exact this
  · unfold RRea
    rw [u2_k _ _ _ (show 4 ≠ 3 by decide), u2_k _ _ _ (show 4 ≠ 6 by decide), u2_k _ _ _ (show 4 ≠ 5 by decide), u2_k _ _ _ (show 5 ≠ 3 by decide), u2_k _ _ _ (show 5 ≠ 6 by decide), u2_k _ _ _ (show 6 ≠ 3 by decide), u2_k _ _ _ (show 16 ≠ 0 by decide), u2_k _ _ _ (show 16 ≠ 18 by decide), u2_k _ _ _ (show 16 ≠ 17 by decide), u2_k _ _ _ (show 17 ≠ 0 by decide), u2_k _ _ _ (show 17 ≠ 18 by decide), u2_k _ _ _ (show 18 ≠ 0 by decide)]
    by_cases hqr : q = r
    · subst hqr
      rw [u2_s, u2_s, u2_s, u2_s, u2_s, u2_s]
      exact ⟨⟨p, hp, rfl, rfl⟩, ⟨z, hz, rfl, rfl⟩, rfl, h3⟩
    · rw [u2_j _ _ _ hqr, u2_j _ _ _ hqr, u2_j _ _ _ hqr, u2_j _ _ _ hqr, u2_j _ _ _ hqr, u2_j _ _ _ hqr, u2_k _ _ _ (show 5 ≠ 4 by decide), u2_k _ _ _ (show 6 ≠ 5 by decide), u2_k _ _ _ (show 6 ≠ 4 by decide), u2_k _ _ _ (show 17 ≠ 16 by decide), u2_k _ _ _ (show 18 ≠ 17 by decide), u2_k _ _ _ (show 18 ≠ 16 by decide)]
      exact hr q (by omega)
  · have := hk q hq
    unfold RShe at this ⊢
    have e : ∀ y, 14 ≤ y → u2 (u2 (u2 (u2 σ 4 r (nI p)) 5 r (nI z)) 6 r v3) 3 3 (nI r + 1) y = σ y := fun y h1 => by rw [u2_k _ _ _ (by omega), u2_k _ _ _ (by omega), u2_k _ _ _ (by omega), u2_k _ _ _ (by omega)]
    have e2 : ∀ y, 19 ≤ y → u2 (u2 (u2 (u2 τ 16 r (nI p)) 17 r (nI z)) 18 r v3) 0 21 (nI r + 1) y = τ y := fun y h1 => by rw [u2_k _ _ _ (by omega), u2_k _ _ _ (by omega), u2_k _ _ _ (by omega), u2_k _ _ _ (by omega)]
    rw [e _ (by omega), e _ (by omega), e2 19 (by decide), e2 20 (by decide), e2 21 (by decide)]
    exact this
