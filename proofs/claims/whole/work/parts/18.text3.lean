-- a counter by a text
theorem person_step {F n0 a b fr q : Nat} {σ τ : Mem} {kk : Option Int32} (hb : a + b ≤ 60) (hf : fr + b ≤ 240) (hcd : ∀ j, j < b → σ (n0 + 4) (a + j) = τ 21 (fr + j)) (hq : q ≤ 6) (h6 : τ 0 6 = nI (1 + 6 * q)) (h7 : τ 0 7 = nI q) (htb : 1 + 6 * q ≤ b) (hg : q < 2 ∨ 1 + 6 * q < b) :
    ∃ z τ', X7_readsPerson (nI fr) (nI b) τ = some (z, τ') ∧ PStep F n0 a b fr q σ kk τ z τ' := by
  unfold X7_readsPerson
  have g6 : nI (1 + 6 * q) + 1 = nI (2 + 6 * q) := by rw [nI_1]; congr 1; omega
  simp only [bnd, h7, h6, g6]
  by_cases c6 : q = 6
  · subst c6
    rw [if_pos (show nI 6 = 6 from rfl)]
    have hlt : 37 < b := by rcases hg with h | h; · omega
                            · omega
    refine ⟨0, τ, rfl, FrP.r τ, fun p hp => ⟨rfl, rfl, rfl, rfl⟩, Or.inl ⟨rfl, 37, h6, by omega, Or.inl fun f bf => ?_⟩⟩
    rw [xt_step (f := f + 6) (by omega) hb]
    unfold X6_textGoesOn
    rw [if_neg (show ¬ nI (1 + 6 * 6) = 0 by decide), if_neg (show ¬ nI (1 + 6 * 6) ≤ 36 by decide), if_pos rfl]
  have hq6 : q < 6 := by omega
  rw [if_neg (show ¬ nI q = 6 from fun e => c6 (nI_inj (b := 6) (by omega) (by decide) e))]
  rcases Nat.lt_or_ge (1 + 6 * q) b with hlt | hge
  rotate_left
  · rw [code_ge h6 hge (by omega)]
    simp only [Option.bind_some, if_neg (show ¬ (-9 : Int32) = 59 by decide)]
    refine ⟨0, τ, rfl, FrP.r τ, fun p hp => ⟨rfl, rfl, rfl, rfl⟩, Or.inl ⟨rfl, 1 + 6 * q, h6, by omega, Or.inr ⟨by omega, Or.inl (by omega), fun f bf => ?_⟩⟩⟩
    rw [xt_end (f := f + 6) (by omega) hb]
  rw [code_lt h6 hlt hf]
  simp only [Option.bind_some]
  by_cases c0 : τ 21 (fr + (1 + 6 * q)) = 59
  rotate_left
  · rw [if_neg c0]
    refine ⟨0, τ, rfl, FrP.r τ, fun p hp => ⟨rfl, rfl, rfl, rfl⟩, Or.inl ⟨rfl, 1 + 6 * q, h6, by omega, Or.inl fun f bf => ?_⟩⟩
    rw [xt_step (f := f + 6) (by omega) hb, tg0 hq6, hcd _ (by omega), if_neg c0, if_pos rfl]
  rw [if_pos c0]
  have hs6 : u2 τ 0 6 (nI (2 + 6 * q)) 0 6 = nI (2 + 6 * q) := u2_s _ _ _ _
  have hold : ∀ p, p < q → u2 τ 0 6 (nI (2 + 6 * q)) 5 p = τ 5 p ∧ u2 τ 0 6 (nI (2 + 6 * q)) 6 p = τ 6 p ∧ u2 τ 0 6 (nI (2 + 6 * q)) 7 p = τ 7 p ∧ u2 τ 0 6 (nI (2 + 6 * q)) 8 p = τ 8 p := fun p _ => by
    rw [u2_k _ _ _ (show 5 ≠ 0 by decide), u2_k _ _ _ (show 6 ≠ 0 by decide), u2_k _ _ _ (show 7 ≠ 0 by decide), u2_k _ _ _ (show 8 ≠ 0 by decide)]
    exact ⟨rfl, rfl, rfl, rfl⟩
  rcases Nat.lt_or_ge (2 + 6 * q) b with hlt2 | hge2
  rotate_left
  · rw [code_ge hs6 hge2 (by omega)]
    simp only [Option.bind_some, if_neg (show ¬ (-9 : Int32) = 99 by decide), if_neg (show ¬ (-9 : Int32) = 115 by decide), if_neg (show ¬ (-9 : Int32) = 116 by decide)]
    refine ⟨0, _, rfl, FrP.at6 _ _, hold, Or.inl ⟨rfl, 2 + 6 * q, hs6, by omega, Or.inr ⟨by omega, Or.inr (by omega), fun f bf => ?_⟩⟩⟩
    rw [xt_step (f := f + 6) (by omega) hb, tg0 hq6, hcd _ (by omega), if_pos c0, if_neg n10, xt_end (f := f + 5) (by omega) hb]
  rw [code_lt hs6 hlt2 hf, at21]
  simp only [Option.bind_some]
  have tail := fun (l : Nat) (hl : l ≤ 2) (hc1 : τ 21 (fr + (2 + 6 * q)) = (if l = 0 then 99 else if l = 1 then 115 else 116)) => person_tail (F := F) (n0 := n0) (a := a) (b := b) (fr := fr) (q := q) (σ := σ) (τ := τ) (τ0 := u2 τ 0 6 (nI (2 + 6 * q))) (kk := kk) (v3 := τ 21 (fr + (2 + 6 * q))) (l := l) hb hf hcd hq6 (at21 _ _) (FrP.at6 _ _) hold hs6 (by rw [at67]; exact h7) (by omega) hlt2 hl c0 (by rw [show 1 + 6 * q + 1 = 2 + 6 * q by omega]; exact hc1) hc1
  by_cases c1 : τ 21 (fr + (2 + 6 * q)) = 99
  · rw [if_pos c1]; exact tail 0 (by omega) c1
  rw [if_neg c1]
  by_cases c2 : τ 21 (fr + (2 + 6 * q)) = 115
  · rw [if_pos c2]; exact tail 1 (by omega) c2
  rw [if_neg c2]
  by_cases c3 : τ 21 (fr + (2 + 6 * q)) = 116
  · rw [if_pos c3]; exact tail 2 (by omega) c3
  rw [if_neg c3]
  refine ⟨0, _, rfl, FrP.at6 _ _, hold, Or.inl ⟨rfl, 2 + 6 * q, hs6, by omega, Or.inl fun f bf => ?_⟩⟩
  rw [xt_step (f := f + 6) (by omega) hb, tg0 hq6, hcd _ (by omega), if_pos c0, if_neg n10, xt_step (f := f + 5) (by omega) hb, tg1 hq6, hcd _ (by omega), show fr + (1 + 6 * q + 1) = fr + (2 + 6 * q) by omega, if_neg c1, if_neg c2, if_neg c3, if_pos rfl]
  congr 2; omega
def kkX (v2 : Int32) : Option Int32 := if (v2 - v2 / 6 * 6) = 1 then (if v2 ≤ 12 then some v2 else some (-9)) else some v2
theorem kk_eq : ∀ b, b ≤ 60 → kkX (nI b) = if b % 6 = 1 ∧ 12 < b then some (-9) else some (nI b) := by decide +kernel
theorem counter_loop {F n0 a b fr : Nat} {σ : Mem} (hb : a + b ≤ 60) (hf : fr + b ≤ 240) : ∀ (fm q : Nat) (τ : Mem), q ≤ 6 → 8 - q < fm → τ 0 6 = nI (1 + 6 * q) → τ 0 7 = nI q → 1 + 6 * q ≤ b → (∀ j, j < b → σ (n0 + 4) (a + j) = τ 21 (fr + j)) → (∀ p, p < q → PB (fun j => τ 21 (fr + j)) p τ) →
    ∃ z τ', X7_readsCounter_L45 F (nI fr) (nI b) fm 1 τ = some (z, τ') ∧ FrP τ τ' ∧
      ((z = 0 ∧ ∃ t, t ≤ b ∧ τ' 0 6 = nI t ∧ ∀ fx bf, 60 ≤ fx + 6 * q → X6_firstFaultOfText_L5 F n0 (nI a) (nI b) σ (kkX (nI b)) fx bf (nI (1 + 6 * q)) = some (nI t)) ∨
       (z = 1 ∧ ∃ Q, 2 ≤ Q ∧ Q ≤ 6 ∧ b = 1 + 6 * Q ∧ τ' 0 7 = nI Q ∧ (∀ p, p < Q → PB (fun j => τ 21 (fr + j)) p τ') ∧ ∀ fx bf, 60 ≤ fx + 6 * q → X6_firstFaultOfText_L5 F n0 (nI a) (nI b) σ (kkX (nI b)) fx bf (nI (1 + 6 * q)) = some (-9))) := by
  intro fm
  induction fm with
  | zero => intro q τ h1 h2; omega
  | succ fm ih =>
    intro q τ hq hfm h6 h7 htb hcd hPB
    rw [X7_readsCounter_L45, if_neg n10, h7, h6]
    have body : (q < 2 ∨ 1 + 6 * q < b) → ∃ z τ', (Option.bind (X7_readsPerson (nI fr) (nI b) τ) fun z_14 => X7_readsCounter_L45 F (nI fr) (nI b) fm z_14.1 z_14.2) = some (z, τ') ∧ FrP τ τ' ∧
      ((z = 0 ∧ ∃ t, t ≤ b ∧ τ' 0 6 = nI t ∧ ∀ fx bf, 60 ≤ fx + 6 * q → X6_firstFaultOfText_L5 F n0 (nI a) (nI b) σ (kkX (nI b)) fx bf (nI (1 + 6 * q)) = some (nI t)) ∨
       (z = 1 ∧ ∃ Q, 2 ≤ Q ∧ Q ≤ 6 ∧ b = 1 + 6 * Q ∧ τ' 0 7 = nI Q ∧ (∀ p, p < Q → PB (fun j => τ 21 (fr + j)) p τ') ∧ ∀ fx bf, 60 ≤ fx + 6 * q → X6_firstFaultOfText_L5 F n0 (nI a) (nI b) σ (kkX (nI b)) fx bf (nI (1 + 6 * q)) = some (-9))) := by
      intro hg
      obtain ⟨z, τ1, e, hFr, hold, hS⟩ := person_step (F := F) (kk := kkX (nI b)) hb hf hcd hq h6 h7 htb hg
      rw [e]
      simp only [Option.bind_some]
      rcases hS with ⟨rfl, t, ht6, htle, hx⟩ | ⟨rfl, hq6, hle, g6, g7, gP, hx⟩
      · obtain ⟨fm, rfl⟩ : ∃ m, fm = m + 1 := ⟨fm - 1, by omega⟩
        rw [X7_readsCounter_L45, if_pos rfl, grd_t (by decide)]
        refine ⟨0, τ1, rfl, hFr, Or.inl ⟨rfl, t, htle, ht6, fun fx bf hfx => ?_⟩⟩
        obtain ⟨fx, rfl⟩ : ∃ m, fx = m + 7 := ⟨fx - 7, by omega⟩
        rcases hx with hx | ⟨hte, hbb, hx⟩
        · exact hx fx bf
        · rw [hx fx bf, kk_eq b (by omega), if_neg, hte]
          rintro ⟨w1, w2⟩
          rcases hbb with w3 | w3
          · rcases hg with w4 | w4
            · omega
            · omega
          · omega
      · have e21 : τ1 21 = τ 21 := hFr.1 21 (by decide) (by decide) (by decide) (by decide) (by decide)
        obtain ⟨z2, τ2, e2, hFr2, hR⟩ := ih (q + 1) τ1 (by omega) (by omega) (by rw [g6]; congr 1; omega) g7 (by omega) (fun j hj => by rw [e21]; exact hcd j hj) (fun p hp => by
          rw [e21]
          by_cases hpq : p = q
          · subst hpq; exact gP
          · obtain ⟨l, d2, d3, d4, d5, w1, w2, w3, w4, w5, w6, w7, w8, w9, w10, w11, w12, w13⟩ := hPB p (by omega)
            obtain ⟨y1, y2, y3, y4⟩ := hold p (by omega)
            exact ⟨l, d2, d3, d4, d5, w1, w2, w3, w4, w5, w6, w7, w8, w9, y1.trans w10, y2.trans w11, y3.trans w12, y4.trans w13⟩)
        rw [e21] at hR
        refine ⟨z2, τ2, e2, hFr.t hFr2, ?_⟩
        rcases hR with ⟨rfl, t, w1, w2, w3⟩ | ⟨rfl, Q, w1, w2, w3, w4, w5, w6⟩
        · refine Or.inl ⟨rfl, t, w1, w2, fun fx bf hfx => ?_⟩
          obtain ⟨fx, rfl⟩ : ∃ m, fx = m + 7 := ⟨fx - 7, by omega⟩
          obtain ⟨bf2, hx2⟩ := hx fx bf
          rw [hx2, show 7 + 6 * q = 1 + 6 * (q + 1) by omega]
          exact w3 (fx + 1) bf2 (by omega)
        · refine Or.inr ⟨rfl, Q, w1, w2, w3, w4, w5, fun fx bf hfx => ?_⟩
          obtain ⟨fx, rfl⟩ : ∃ m, fx = m + 7 := ⟨fx - 7, by omega⟩
          obtain ⟨bf2, hx2⟩ := hx fx bf
          rw [hx2, show 7 + 6 * q = 1 + 6 * (q + 1) by omega]
          exact w6 (fx + 1) bf2 (by omega)
    by_cases c2 : q < 2
    · rw [if_pos (show nI q < 2 from nI_lt (b := 2) c2 (by decide))]
      exact body (Or.inl c2)
    · rw [if_neg (show ¬ nI q < 2 from nI_nlt (b := 2) (by omega) (by omega))]
      rcases Nat.lt_or_ge (1 + 6 * q) b with hlt | hge
      · rw [if_neg (nI_ge hlt (by omega))]
        exact body (Or.inr hlt)
      · rw [if_pos (nI_le hge (by omega)), grd_t (by decide)]
        refine ⟨1, τ, rfl, FrP.r τ, Or.inr ⟨rfl, q, by omega, hq, by omega, h7, hPB, fun fx bf hfx => ?_⟩⟩
        obtain ⟨fx, rfl⟩ : ∃ m, fx = m + 1 := ⟨fx - 1, by omega⟩
        rw [xt_end (f := fx) (by omega) hb, kk_eq b (by omega), if_pos ⟨by omega, by omega⟩]
/-- the whole text: both find the same -/
theorem text_eq {F n0 a b fr : Nat} {σ τ : Mem} (hF0 : 50000 ≤ F) (hb : a + b ≤ 60) (hf : fr + b ≤ 240) (hcd : ∀ j, j < b → σ (n0 + 4) (a + j) = τ 21 (fr + j)) :
    ∃ z τ', X7_readsCounter F (nI fr) (nI b) τ = some (z, τ') ∧ FrP τ τ' ∧ ((z = 0 ∧ ∃ t, t ≤ b ∧ τ' 0 6 = nI t ∧ X6_firstFaultOfText F n0 (nI a) (nI b) σ = some (nI t)) ∨ (z = 1 ∧ ∃ Q, 2 ≤ Q ∧ Q ≤ 6 ∧ b = 1 + 6 * Q ∧ τ' 0 7 = nI Q ∧ (∀ p, p < Q → PB (fun j => τ 21 (fr + j)) p τ') ∧ X6_firstFaultOfText F n0 (nI a) (nI b) σ = some (-9))) := by
  have hX : X6_firstFaultOfText F n0 (nI a) (nI b) σ = X6_firstFaultOfText_L5 F n0 (nI a) (nI b) σ (kkX (nI b)) F 0 (nI 0) := rfl
  rw [hX]
  unfold X7_readsCounter
  simp only [bnd]
  have f0 : FrP τ (u2 (u2 τ 0 6 0) 0 7 0) := ⟨fun k h0 _ _ _ _ => by rw [u2_k _ _ _ h0, u2_k _ _ _ h0], fun j h1 h2 => by rw [u2_j _ _ _ h2, u2_j _ _ _ h1]⟩
  have a6 : u2 (u2 τ 0 6 0) 0 7 0 0 6 = nI 0 := by rw [u2_j _ _ _ (by decide), u2_s]; rfl
  have a7 : u2 (u2 τ 0 6 0) 0 7 0 0 7 = nI 0 := u2_s _ _ _ _
  have a21 : u2 (u2 τ 0 6 0) 0 7 0 21 = τ 21 := by rw [u2_k _ _ _ (by decide), u2_k _ _ _ (by decide)]
  generalize u2 (u2 τ 0 6 0) 0 7 0 = τ0 at f0 a6 a7 a21 ⊢
  obtain ⟨F1, rfl⟩ : ∃ m, F = m + 1 := ⟨F - 1, by omega⟩
  rw [a6]
  rcases Nat.lt_or_ge 0 b with h0 | h0
  rotate_left
  · rw [code_ge a6 h0 (by decide)]
    simp only [Option.bind_some, if_neg (show ¬ (-9 : Int32) = 107 by decide)]
    have e0 : u2 τ0 0 6 (nI 0 + 0) = τ0 := by rw [Int32.add_zero, ← a6, u2_self]
    rw [e0, X7_readsCounter_L45, if_pos rfl, grd_t (by decide)]
    refine ⟨0, τ0, rfl, f0, Or.inl ⟨rfl, 0, by omega, a6, ?_⟩⟩
    rw [xt_end (f := F1) (by omega) hb, kk_eq b (by omega), if_neg (by omega)]
    congr 2; omega
  rw [code_lt a6 h0 hf, a21, xt_step (f := F1) h0 hb]
  simp only [Option.bind_some, Nat.add_zero, Nat.zero_add]
  have hc := hcd 0 h0
  simp only [Nat.add_zero] at hc
  rw [hc]
  by_cases c : τ 21 fr = 107
  rotate_left
  · rw [if_neg c]
    have e0 : u2 τ0 0 6 (nI 0 + 0) = τ0 := by rw [Int32.add_zero, ← a6, u2_self]
    rw [e0, X7_readsCounter_L45, if_pos rfl, grd_t (by decide)]
    refine ⟨0, τ0, rfl, f0, Or.inl ⟨rfl, 0, by omega, a6, ?_⟩⟩
    unfold X6_textGoesOn
    rw [if_pos (show nI 0 = 0 from rfl), if_neg c, if_pos rfl]
  rw [if_pos c]
  have e1 : nI 0 + 1 = nI 1 := rfl
  rw [e1]
  have tg : X6_textGoesOn (nI 0) 0 (τ 21 fr) = 1 := by
    unfold X6_textGoesOn
    rw [if_pos (show nI 0 = 0 from rfl), if_pos c]
  rw [tg, if_neg n10]
  obtain ⟨z, τ', e, hFr, hR⟩ := counter_loop (F := F1 + 1) (n0 := n0) (σ := σ) hb hf (F1 + 1) 0 (u2 τ0 0 6 (nI 1)) (by omega) (by omega) (u2_s _ _ _ _) (by rw [at67]; exact a7) (by omega) (fun j hj => by rw [at21, a21]; exact hcd j hj) (fun p hp => absurd hp (by omega))
  rw [e]
  refine ⟨z, τ', rfl, f0.t ((FrP.at6 _ _).t hFr), ?_⟩
  rw [at21, a21] at hR
  rcases hR with ⟨rfl, t, w1, w2, w3⟩ | ⟨rfl, Q, w1, w2, w3, w4, w5, w6⟩
  · exact Or.inl ⟨rfl, t, w1, w2, w3 F1 _ (by omega)⟩
  · exact Or.inr ⟨rfl, Q, w1, w2, w3, w4, w5, w6 F1 _ (by omega)⟩
