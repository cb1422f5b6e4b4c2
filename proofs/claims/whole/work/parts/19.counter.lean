-- counter
theorem readFrom_eq {n1 a b p : Nat} {σ τ0 : Mem} {cd : Nat → Int32} (hb : a + b ≤ 60) (hp : 7 + 6 * p ≤ b) (hn1 : 14 ≤ n1 ∧ n1 < 18) (hp6 : p < 6) (hcd : ∀ j, j < b → σ (n1 + 4) (a + j) = cd j) (hP : PB cd p τ0) :
    ∃ σ', X3_readFrom (22 + p) n1 (nI (a + 1 + 6 * p)) σ = some σ' ∧ (∀ z, z ≠ 22 + p → σ' z = σ z) ∧ σ' (22 + p) 0 = τ0 5 p ∧ σ' (22 + p) 1 = τ0 6 p ∧ σ' (22 + p) 2 = τ0 7 p ∧ σ' (22 + p) 3 = τ0 8 p := by
  obtain ⟨l, d2, d3, d4, d5, w1, w2, w3, w4, w5, w6, w7, w8, w9, w10, w11, w12, w13⟩ := hP
  have c1 := hcd (1 + 6 * p + 1) (by omega)
  have c2 := hcd (1 + 6 * p + 2) (by omega)
  have c3 := hcd (1 + 6 * p + 3) (by omega)
  have c4 := hcd (1 + 6 * p + 4) (by omega)
  have c5 := hcd (1 + 6 * p + 5) (by omega)
  rw [w2, show a + (1 + 6 * p + 1) = a + 1 + 6 * p + 1 by omega] at c1
  rw [w3, show a + (1 + 6 * p + 2) = a + 1 + 6 * p + 2 by omega] at c2
  rw [w4, show a + (1 + 6 * p + 3) = a + 1 + 6 * p + 3 by omega] at c3
  rw [w5, show a + (1 + 6 * p + 4) = a + 1 + 6 * p + 4 by omega] at c4
  rw [w6, show a + (1 + 6 * p + 5) = a + 1 + 6 * p + 5 by omega] at c5
  have e1 : nI (a + 1 + 6 * p) + 1 = nI (a + 1 + 6 * p + 1) := nI_1 _
  have e2 : nI (a + 1 + 6 * p) + 2 = nI (a + 1 + 6 * p + 2) := nI_add _ 2
  have e3 : nI (a + 1 + 6 * p) + 3 = nI (a + 1 + 6 * p + 3) := nI_add _ 3
  have e4 : nI (a + 1 + 6 * p) + 4 = nI (a + 1 + 6 * p + 4) := nI_add _ 4
  have e5 : nI (a + 1 + 6 * p) + 5 = nI (a + 1 + 6 * p + 5) := nI_add _ 5
  have hz : n1 + 4 ≠ 22 + p := by omega
  have s2 : nI (48 + d2) - 48 = nI d2 := by have := pk_sub (a := 48 + d2) (b := 48) (by omega); rw [show 48 + d2 - 48 = d2 by omega] at this; exact this
  have s4 : nI (48 + d4) - 48 = nI d4 := by have := pk_sub (a := 48 + d4) (b := 48) (by omega); rw [show 48 + d4 - 48 = d4 by omega] at this; exact this
  have s5 : nI (48 + d5) - 48 = nI d5 := by have := pk_sub (a := 48 + d5) (b := 48) (by omega); rw [show 48 + d5 - 48 = d5 by omega] at this; exact this
  have s3 : nI (10 * d2 + (48 + d3)) - 48 = nI (10 * d2 + d3) := by have := pk_sub (a := 10 * d2 + (48 + d3)) (b := 48) (by omega); rw [show 10 * d2 + (48 + d3) - 48 = 10 * d2 + d3 by omega] at this; exact this
  have tail : ∃ σ', X3_readFrom_J31 (22 + p) n1 (nI (a + 1 + 6 * p)) (nI l) σ = some σ' ∧ (∀ z, z ≠ 22 + p → σ' z = σ z) ∧ σ' (22 + p) 0 = τ0 5 p ∧ σ' (22 + p) 1 = τ0 6 p ∧ σ' (22 + p) 2 = τ0 7 p ∧ σ' (22 + p) 3 = τ0 8 p := by
    unfold X3_readFrom_J31
    simp only [e2, e3, e4, e5, bnd, grd_t (inb_nI (show a + 1 + 6 * p + 2 < 60 by omega) (by decide)), grd_t (inb_nI (show a + 1 + 6 * p + 3 < 60 by omega) (by decide)), grd_t (inb_nI (show a + 1 + 6 * p + 4 < 60 by omega) (by decide)), grd_t (inb_nI (show a + 1 + 6 * p + 5 < 60 by omega) (by decide)), clN (show a + 1 + 6 * p + 2 < 2 ^ 31 by omega), clN (show a + 1 + 6 * p + 3 < 2 ^ 31 by omega), clN (show a + 1 + 6 * p + 4 < 2 ^ 31 by omega), clN (show a + 1 + 6 * p + 5 < 2 ^ 31 by omega), u2_k _ _ _ hz, c2, c3, c4, c5, s2, s4, s5, m10_nI, nI_add, s3]
    refine ⟨_, rfl, fun z h => ?_, ?_, ?_, ?_, ?_⟩
    · rw [u2_k _ _ _ h, u2_k _ _ _ h, u2_k _ _ _ h, u2_k _ _ _ h]
    · rw [u2_j _ _ _ (by decide), u2_j _ _ _ (by decide), u2_j _ _ _ (by decide), u2_s, w10]
    · rw [u2_j _ _ _ (by decide), u2_j _ _ _ (by decide), u2_s, w11]
    · rw [u2_j _ _ _ (by decide), u2_s, w12]
    · rw [u2_s, w13]
  unfold X3_readFrom
  simp only [e1, bnd, grd_t (inb_nI (show a + 1 + 6 * p + 1 < 60 by omega) (by decide)), clN (show a + 1 + 6 * p + 1 < 2 ^ 31 by omega), c1]
  rcases (show l = 0 ∨ l = 1 ∨ l = 2 by omega) with rfl | rfl | rfl
  · exact tail
  · exact tail
  · exact tail
theorem xc_loop {F n1 a b Q : Nat} {τ0 : Mem} {cd : Nat → Int32} (kk : Mem → Option (Int32 × Mem)) (hb : a + b ≤ 60) (hQ : b = 1 + 6 * Q) (hQ6 : Q ≤ 6) (hn1 : 14 ≤ n1 ∧ n1 < 18) (hP : ∀ p, p < Q → PB cd p τ0) : ∀ (f p : Nat) (σ : Mem), p ≤ Q → Q - p < f → σ 0 7 = nI Q → (∀ j, j < b → σ (n1 + 4) (a + j) = cd j) →
    ∃ σ', X6_counter_L90 F (nI a) n1 kk f (nI p) σ = kk σ' ∧ (∀ z, z < 22 ∨ 28 ≤ z → σ' z = σ z) ∧ (∀ q, q < p → σ' (22 + q) = σ (22 + q)) ∧ ∀ q, p ≤ q → q < Q → σ' (22 + q) 0 = τ0 5 q ∧ σ' (22 + q) 1 = τ0 6 q ∧ σ' (22 + q) 2 = τ0 7 q ∧ σ' (22 + q) 3 = τ0 8 q := by
  intro f
  induction f with
  | zero => intro p σ h1 h2; omega
  | succ f ih =>
    intro p σ h1 h2 h7 hcd
    rw [X6_counter_L90, h7]
    by_cases c : p = Q
    · subst c
      rw [if_pos (nI_le (Nat.le_refl _) (by omega))]
      exact ⟨σ, rfl, fun _ _ => rfl, fun _ _ => rfl, fun q h1 h2 => absurd h2 (by omega)⟩
    rw [if_neg (nI_ge (by omega) (by omega)), grd_t (inb_nI (by omega) (by decide)), clN (by omega)]
    have ea : nI a + 1 + (6 : Int32) * nI p = nI (a + 1 + 6 * p) := by rw [nI_1, m6_nI, nI_add]
    obtain ⟨σ1, e1, g1, g2, g3, g4, g5⟩ := readFrom_eq hb (by omega) hn1 (by omega) hcd (hP p (by omega))
    rw [ea, e1]
    simp only [Option.bind_some, nI_1]
    obtain ⟨σ2, e2, q1, q2, q3⟩ := ih (p + 1) σ1 (by omega) (by omega) (by rw [g1 0 (by omega)]; exact h7) (fun j hj => by rw [g1 _ (by omega)]; exact hcd j hj)
    refine ⟨σ2, e2, fun z hz => (q1 z hz).trans (g1 z (by omega)), fun q hq => (q2 q (by omega)).trans (g1 _ (by omega)), fun q hq hqQ => ?_⟩
    by_cases hqp : q = p
    · subst hqp
      rw [q2 q (by omega)]
      exact ⟨g2, g3, g4, g5⟩
    · exact q3 q (by omega) hqQ
theorem mc_loop {F Q : Nat} (kk : Mem → Option (Int32 × Mem)) (hQ6 : Q ≤ 6) : ∀ (f p : Nat) (τ : Mem), p ≤ Q → Q - p < f → τ 0 1 = nI Q →
    ∃ τ', X7_counter_L90 F kk f (nI p) τ = kk τ' ∧ (∀ z, z = 0 ∨ 5 ≤ z → τ' z = τ z) ∧ (∀ q, q < p → τ' 1 q = τ 1 q ∧ τ' 2 q = τ 2 q ∧ τ' 3 q = τ 3 q ∧ τ' 4 q = τ 4 q) ∧ ∀ q, p ≤ q → q < Q → τ' 1 q = τ 5 q ∧ τ' 2 q = τ 6 q ∧ τ' 3 q = τ 7 q ∧ τ' 4 q = τ 8 q := by
  intro f
  induction f with
  | zero => intro p τ h1 h2; omega
  | succ f ih =>
    intro p τ h1 h2 h7
    rw [X7_counter_L90, h7]
    by_cases c : p = Q
    · subst c
      rw [if_pos (nI_le (Nat.le_refl _) (by omega))]
      exact ⟨τ, rfl, fun _ _ => rfl, fun _ _ => ⟨rfl, rfl, rfl, rfl⟩, fun q h1 h2 => absurd h2 (by omega)⟩
    rw [if_neg (nI_ge (by omega) (by omega))]
    have hi := inb_nI (k := p) (N := 6) (by omega) (by decide)
    simp only [grd_t hi, bnd, clN (show p < 2 ^ 31 by omega), nI_1, u2_k _ _ _ (show 6 ≠ 1 by decide), u2_k _ _ _ (show 7 ≠ 2 by decide), u2_k _ _ _ (show 7 ≠ 1 by decide), u2_k _ _ _ (show 8 ≠ 3 by decide), u2_k _ _ _ (show 8 ≠ 2 by decide), u2_k _ _ _ (show 8 ≠ 1 by decide)]
    generalize hτ : u2 (u2 (u2 (u2 τ 1 p (τ 5 p)) 2 p (τ 6 p)) 3 p (τ 7 p)) 4 p (τ 8 p) = τ1
    have k0 : ∀ z, z = 0 ∨ 5 ≤ z → τ1 z = τ z := fun z hz => by
      rw [← hτ, u2_k _ _ _ (by omega), u2_k _ _ _ (by omega), u2_k _ _ _ (by omega), u2_k _ _ _ (by omega)]
    have k1 : ∀ q, q ≠ p → τ1 1 q = τ 1 q ∧ τ1 2 q = τ 2 q ∧ τ1 3 q = τ 3 q ∧ τ1 4 q = τ 4 q := fun q hq => by
      rw [← hτ]
      refine ⟨?_, ?_, ?_, ?_⟩
      · rw [u2_k _ _ _ (by decide), u2_k _ _ _ (by decide), u2_k _ _ _ (by decide), u2_j _ _ _ hq]
      · rw [u2_k _ _ _ (by decide), u2_k _ _ _ (by decide), u2_j _ _ _ hq, u2_k _ _ _ (by decide)]
      · rw [u2_k _ _ _ (by decide), u2_j _ _ _ hq, u2_k _ _ _ (by decide), u2_k _ _ _ (by decide)]
      · rw [u2_j _ _ _ hq, u2_k _ _ _ (by decide), u2_k _ _ _ (by decide), u2_k _ _ _ (by decide)]
    have k2 : τ1 1 p = τ 5 p ∧ τ1 2 p = τ 6 p ∧ τ1 3 p = τ 7 p ∧ τ1 4 p = τ 8 p := by
      rw [← hτ]
      refine ⟨?_, ?_, ?_, ?_⟩
      · rw [u2_k _ _ _ (by decide), u2_k _ _ _ (by decide), u2_k _ _ _ (by decide), u2_s]
      · rw [u2_k _ _ _ (by decide), u2_k _ _ _ (by decide), u2_s]
      · rw [u2_k _ _ _ (by decide), u2_s]
      · rw [u2_s]
    obtain ⟨τ2, e2, q1, q2, q3⟩ := ih (p + 1) τ1 (by omega) (by omega) (by rw [k0 0 (Or.inl rfl)]; exact h7)
    refine ⟨τ2, e2, fun z hz => (q1 z hz).trans (k0 z hz), fun q hq => ?_, fun q hq hqQ => ?_⟩
    · obtain ⟨w1, w2, w3, w4⟩ := q2 q (by omega)
      obtain ⟨y1, y2, y3, y4⟩ := k1 q (by omega)
      exact ⟨w1.trans y1, w2.trans y2, w3.trans y3, w4.trans y4⟩
    · by_cases hqp : q = p
      · subst hqp
        obtain ⟨w1, w2, w3, w4⟩ := q2 q (by omega)
        exact ⟨w1.trans k2.1, w2.trans k2.2.1, w3.trans k2.2.2.1, w4.trans k2.2.2.2⟩
      · obtain ⟨w1, w2, w3, w4⟩ := q3 q (by omega) hqQ
        rw [k0 5 (by omega)] at w1
        rw [k0 6 (by omega)] at w2
        rw [k0 7 (by omega)] at w3
        rw [k0 8 (by omega)] at w4
        exact ⟨w1, w2, w3, w4⟩
theorem div6 : ∀ Q, Q ≤ 6 → nI (1 + 6 * Q) / 6 = nI Q := by decide +kernel
theorem sub100 : ∀ t, t ≤ 60 → ¬ nI t = -9 := by decide +kernel
theorem neg10 : ∀ f, f ≤ 4 → ¬ (0 : Int32) ≤ (-10 : Int32) - nI f := by decide +kernel
theorem r_counter {F : Nat} (hF0 : 50000 ≤ F) (v1 v2 v3 v4 : Int32) : Agree (X6_counter F v1 v2 v3 v4) (X7_counter F v1 v2 v3 v4) := by
  rintro σ τ ⟨n, r, h⟩
  have hF := h.fault 0
  unfold X6_counter X7_counter X7_refused X6_faultAnswer
  simp only [bnd]
  rcases isSheet_cases v1 with ⟨a, b⟩ | ⟨k, hk, rfl, a, b⟩
  · rw [a, b, if_pos rfl, if_neg n10]
    exact ⟨_, _, _, rfl, rfl, n, r, hF⟩
  rw [a, b, if_neg n10, if_pos rfl]
  rcases isLane_cases v2 with ⟨a, b⟩ | ⟨l, hl, rfl, a, b⟩
  · rw [a, b, if_pos rfl, if_pos rfl]
    exact ⟨_, _, _, rfl, rfl, n, r, hF⟩
  rw [a, b, if_neg n10, if_neg n10]
  have ek : 14 + k ≠ 0 := by omega
  have ek4 : 14 + k + 4 ≠ 0 := by omega
  have hC : X5_faultOfCells (14 + k) (nI l) v3 v4 (u2 σ 0 9 0) = X5_faultOfCells (14 + k) (nI l) v3 v4 σ := by
    unfold X5_faultOfCells X5_faultOfCells_J17 X5_hasCells
    simp only [u2_k σ 9 0 ek]
  simp only [grd_t (inb_k hk), clN (show k < 2 ^ 31 by omega), hC, u2_u2]
  rcases cells_eq hk (h.2.2.2 k hk) (nI l) v3 v4 v4.toInt64 (i64_of _) with ⟨e1, e2, a, b, c, rfl, rfl, g1, g2, g3, g4, g5⟩ | ⟨f, hf, e1, e2⟩
  rotate_left
  · have hf0 : ¬ nI f = 0 := nI_ne0 (by omega) (by omega)
    have hf1 : ¬ (0 : Int32) ≤ (-10 : Int32) - nI f := neg10 f (by omega)
    generalize hw : (-10 : Int32) - nI f = w at e2 hf1
    rw [e1, e2]
    rw [if_neg hf0, Option.bind_some, if_neg (show ¬ (0 : Int32) ≤ (w, u2 τ 0 0 (nI f)).1 from hf1), hw]
    exact ⟨w, _, _, rfl, rfl, n, r, h.fault _⟩
  simp only [e1, e2, if_true, Option.bind_some, if_pos (show (0 : Int32) ≤ 0 by decide), m60_nI, nI_add]
  have hcd : ∀ j, j < b → u2 σ 0 9 0 (14 + k + 4) (a + j) = τ 21 (60 * k + a + j) := fun j hj => by
    rw [u2_k _ _ _ ek4, g5 _ (by omega), Nat.add_assoc]
  obtain ⟨z, τ1, p1, hFr, hR⟩ := text_eq (F := F) (n0 := 14 + k) (a := a) (b := b) (fr := 60 * k + a) (σ := u2 σ 0 9 0) (τ := τ) hF0 (by omega) (by omega) hcd
  rw [p1]
  simp only [Option.bind_some]
  -- what the reading leaves of the relation
  have hRel1 : RelN n r (u2 σ 0 9 0) (u2 τ1 0 0 0) := by
    refine hF.frame (fun _ _ => rfl) (fun z hz => ?_) ⟨?_, ?_, ?_, ?_⟩
    · rw [u2_k _ _ _ (by omega), u2_k _ _ _ (by omega), hFr.1 z (by omega) (by omega) (by omega) (by omega) (by omega)]
    · rw [u2_s, u2_s]
    · rw [u2_j _ _ _ (by decide), u2_j _ _ _ (by decide), hFr.2 1 (by decide) (by decide)]
    · rw [u2_j _ _ _ (by decide), u2_j _ _ _ (by decide), hFr.2 21 (by decide) (by decide)]
    · rw [u2_j _ _ _ (by decide), u2_j _ _ _ (by decide), hFr.2 29 (by decide) (by decide)]
  rcases hR with ⟨rfl, t, w1, w2, w3⟩ | ⟨rfl, Q, w1, w2, w3, w4, w5, w6⟩
  · rw [w3, w2]
    simp only [Option.bind_some, if_neg (sub100 t (by omega)), if_true]
    exact ⟨_, _, _, rfl, rfl, n, r, hRel1⟩
  rw [w6]
  simp only [Option.bind_some, if_true, if_neg n10, w4]
  subst w3
  rw [div6 Q w2]
  obtain ⟨σ2, e3, q1, q2, q3⟩ := xc_loop (F := F) (n1 := 14 + k) (a := a) (τ0 := τ1) (cd := fun j => τ 21 (60 * k + a + j)) (fun σ_18 => some (u2 σ_18 3 3 0 0 7, u2 σ_18 3 3 0)) (by omega) rfl w2 (by omega) w5 F 0 (u2 (u2 σ 0 9 0) 0 7 (nI Q)) (by omega) (by omega) (u2_s _ _ _ _) (fun j hj => by rw [u2_k _ _ _ ek4]; exact hcd j hj)
  obtain ⟨τ2, e4, y1, y2, y3⟩ := mc_loop (F := F) (fun σ_28 => some (u2 σ_28 0 21 0 0 1, u2 (u2 σ_28 0 21 0) 0 0 0)) w2 F 0 (u2 τ1 0 1 (nI Q)) (by omega) (by omega) (u2_s _ _ _ _)
  rw [nI_0] at e3 e4
  rw [e3, e4]
  have x7 : u2 σ2 3 3 0 0 7 = nI Q := by rw [u2_k _ _ _ (by decide), q1 0 (by omega), u2_s]
  have m1 : u2 τ2 0 21 0 0 1 = nI Q := by rw [u2_j _ _ _ (by decide), y1 0 (Or.inl rfl), u2_s]
  rw [x7, m1]
  refine ⟨nI Q, _, _, rfl, rfl, Q, 0, ⟨Or.inr w1, w2, by omega, x7, ?_, ?_, ?_, ?_, ?_⟩, fun p hp => ?_, fun p hp => absurd hp (by omega), fun j hj => ?_⟩
  · rw [u2_j _ _ _ (by decide)]; exact m1
  · rw [u2_s]; rfl
  · rw [u2_j _ _ _ (by decide), u2_s]; rfl
  · rw [u2_k _ _ _ (by decide), q1 0 (by omega), u2_j _ _ _ (by decide), u2_j _ _ _ (by decide), u2_j _ _ _ (by decide), u2_j _ _ _ (by decide), y1 0 (Or.inl rfl), u2_j _ _ _ (by decide), hFr.2 29 (by decide) (by decide)]
    exact h.1.2.2.2.2.2.2.2.1
  · rw [u2_k _ _ _ (by decide), q1 0 (by omega), u2_j _ _ _ (by decide), u2_s, u2_s]
  · obtain ⟨x1, x2, x3, x4⟩ := q3 p (by omega) hp
    obtain ⟨z1, z2, z3, z4⟩ := y3 p (by omega) hp
    obtain ⟨l2, d2, d3, d4, d5, v1, v2, v3, v4, v5, v6, v7, v8, v9, v10, v11, v12, v13⟩ := w5 p hp
    rw [u2_k _ _ _ (show 5 ≠ 0 by decide)] at z1
    rw [u2_k _ _ _ (show 6 ≠ 0 by decide)] at z2
    rw [u2_k _ _ _ (show 7 ≠ 0 by decide)] at z3
    rw [u2_k _ _ _ (show 8 ≠ 0 by decide)] at z4
    unfold RPer
    rw [u2_k _ _ _ (show 22 + p ≠ 3 by omega), u2_k _ _ _ (show 1 ≠ 0 by decide), u2_k _ _ _ (show 2 ≠ 0 by decide), u2_k _ _ _ (show 3 ≠ 0 by decide), u2_k _ _ _ (show 4 ≠ 0 by decide), u2_k _ _ _ (show 1 ≠ 0 by decide), u2_k _ _ _ (show 2 ≠ 0 by decide), u2_k _ _ _ (show 3 ≠ 0 by decide), u2_k _ _ _ (show 4 ≠ 0 by decide), x1, x2, x3, x4, z1, z2, z3, z4]
    exact ⟨rfl, rfl, rfl, rfl, ⟨l2, v1, v10⟩, ⟨_, v7, v11⟩, ⟨_, v8, v12⟩, ⟨_, v9, v13⟩⟩
  · have := h.2.2.2 j hj
    unfold RShe at this ⊢
    rw [u2_k _ _ _ (show 14 + j ≠ 3 by omega), u2_k _ _ _ (show 14 + j + 4 ≠ 3 by omega), q1 _ (by omega), q1 _ (by omega), u2_k _ _ _ (show 14 + j ≠ 0 by omega), u2_k _ _ _ (show 14 + j + 4 ≠ 0 by omega), u2_k _ _ _ (show 14 + j ≠ 0 by omega), u2_k _ _ _ (show 14 + j + 4 ≠ 0 by omega),
      u2_k _ _ _ (show 19 ≠ 0 by decide), u2_k _ _ _ (show 20 ≠ 0 by decide), u2_k _ _ _ (show 21 ≠ 0 by decide), u2_k _ _ _ (show 19 ≠ 0 by decide), u2_k _ _ _ (show 20 ≠ 0 by decide), u2_k _ _ _ (show 21 ≠ 0 by decide), y1 19 (by omega), y1 20 (by omega), y1 21 (by omega), u2_k _ _ _ (show 19 ≠ 0 by decide), u2_k _ _ _ (show 20 ≠ 0 by decide), u2_k _ _ _ (show 21 ≠ 0 by decide), hFr.1 19 (by decide) (by decide) (by decide) (by decide) (by decide), hFr.1 20 (by decide) (by decide) (by decide) (by decide) (by decide), hFr.1 21 (by decide) (by decide) (by decide) (by decide) (by decide)]
    exact this
