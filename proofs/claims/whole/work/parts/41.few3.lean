-- fewest agrees
theorem l50 {F n most S f d : Nat} {la w : Nat → Int32} {s : ES} (hF0 : 50000 ≤ F) (hn : n ≤ 6) (hm : most ≤ 3) (hd : d < most) (hrec : SrchF F n la w S most f (d + 1)) (hW : WF n s) : ∀ (fa a : Nat) (σ : Mem), a ≤ n → n - a < fa → RX (36 + 8 * d) n la s σ → HW n w σ → (∀ d', d' < 6 * a + (a + 1) → d' < 36 → ∀ u', u' < 36 ^ (most - (d + 1)) → tst n la w S ((most - (d + 1)) + 1) s (d' * 36 ^ (most - (d + 1)) + u') = false) →
    ∃ z σ', X1_mends_L50 F (fun v1 v2 v3 σ0 => X1_mends F f v1 v2 v3 σ0) (nI d) (nI most) (nI S) (36 + 8 * d) (36 + 8 * (d + 1)) fa (nI a) σ = some (z, σ') ∧ FrD d σ σ' ∧ Fnd n la w S d ((most - (d + 1)) + 1) s z σ' := by
  intro fa
  induction fa with
  | zero => intro a σ h1 h2; omega
  | succ fa ih =>
    intro a σ h1 h2 hR hH hu
    rw [X1_mends_L50, hR.2.2.2]
    by_cases e : a = n
    · rw [if_pos (nI_le (by omega) (by omega))]
      refine ⟨0, σ, rfl, FrD.r d σ, Or.inr ⟨rfl, fun u h3 => ?_⟩⟩
      obtain ⟨q1, q2, q3⟩ := dec36 h3
      rw [q1]
      by_cases q4 : u / 36 ^ (most - (d + 1)) < 6 * a + (a + 1)
      · exact hu _ q4 q2 _ q3
      · exact tst_bad q2 (vld_f (by omega)) _ q3
    rw [if_neg (nI_ge (by omega) (by omega)), bnd_e, nI_1]
    rcases l66 (F := F) (a := a) (kk := fun σ_24 => X1_mends_L50 F (fun v1 v2 v3 σ0 => X1_mends F f v1 v2 v3 σ0) (nI d) (nI most) (nI S) (36 + 8 * d) (36 + 8 * (d + 1)) fa (nI (a + 1)) σ_24) hn hm hd hrec hW F (a + 1) σ (by omega) (by omega) (by omega) hR hH (fun d' h3 => hu d' (by omega) (by omega)) with ⟨σ1, e1, f1, g1⟩ | ⟨σ1, e1, f1, hR1, hH1, g1⟩
    · exact ⟨1, σ1, e1, f1, g1⟩
    · rw [e1]
      obtain ⟨z, σ2, e2, f2, g2⟩ := ih (a + 1) σ1 (by omega) (by omega) hR1 hH1 (fun d' h3 h36 u' h4 => by
        by_cases q : d' < 6 * a + n
        · exact g1 d' q u' h4
        · exact tst_bad h36 (vld_f (by omega)) u' h4)
      exact ⟨z, σ2, e2, f1.t f2, g2⟩
theorem x_mends {F n most S : Nat} {la w : Nat → Int32} (hF0 : 50000 ≤ F) (hn : n ≤ 6) (hm : most ≤ 3) (hS : S < 64) : ∀ (f d : Nat), f + d = 4 → d ≤ most → SrchF F n la w S most f d := by
  have h64 := two_le hn
  intro f
  induction f with
  | zero => intro d h1 h2; omega
  | succ f ih =>
    intro d h1 h2 s σ hR hW hH
    have hml := mkN_lt (mdI w s) n
    have hnl := nd_lt (M := mkN (mdI w s) n) hS
    obtain ⟨b1, b2⟩ := bc_eq _ hnl
    rw [X1_mends, grd_t (inb_nI (show d < 4 by omega) (by decide)), clN (show d < 2 ^ 31 by omega), x_mended hF0 hn hR hW hH, ob_e, mkN_eq _ n hn, nd_eq S hS _ (by omega), b1, pk_sub h2, m2_nI]
    by_cases c : pc (nd S (mkN (mdI w s) n)) ≤ 2 * (most - d)
    · rw [if_pos (nI_le c (by omega))]
      by_cases e : d < most
      · have es : most - d = (most - (d + 1)) + 1 := by omega
        rw [if_pos (nI_lt e (by omega)), nI_1, grd_t (inb_nI (show d + 1 < 4 by omega) (by decide)), clN (show d + 1 < 2 ^ 31 by omega)]
        obtain ⟨z, σ1, e1, f1, g1⟩ := l50 (F := F) hF0 hn hm e (ih (d + 1) (by omega) (by omega)) hW F 0 σ (Nat.zero_le _) (by omega) hR hH (fun d' h3 h36 u' h4 => tst_bad h36 (vld_f (by omega)) u' h4)
        rw [nI_0] at e1
        rw [es]
        exact ⟨z, σ1, e1, f1, g1⟩
      · have em : most - d = 0 := by omega
        rw [if_neg (fun q => e (by
          rw [i32_lt, t32 (by omega), t32 (by omega)] at q
          omega)), em]
        refine ⟨1, σ, rfl, FrD.r d σ, Or.inl ⟨rfl, 0, by decide, ?_, fun u' h => absurd h (by omega), fun i h => absurd h (by omega)⟩⟩
        rw [tst]
        have p0 : ∀ x, x < 64 → pc x = 0 → x = 0 := by decide +kernel
        exact decide_eq_true (p0 _ hnl (by omega))
    · rw [if_neg (nI_ge (by omega) (by omega))]
      refine ⟨0, σ, rfl, FrD.r d σ, Or.inr ⟨rfl, fun u h3 => ?_⟩⟩
      rw [← Bool.not_eq_true]
      intro q
      exact c (prune hn hS _ s u q)
theorem RX.wk {e n : Nat} {la : Nat → Int32} {s : ES} {σ : Mem} (h : RX e n la s σ) : RX e n la s σ := h
theorem x14 {F n S : Nat} {la w : Nat → Int32} {s : ES} (hF0 : 50000 ≤ F) (hn : n ≤ 6) (hS : S < 64) (hW : WF n s) : ∀ (f L : Nat) (σ : Mem), L ≤ 4 → 4 - L < f → RX 36 n la s σ → HW n w σ →
    (∃ σ', X1_find_L14 F (nI S) f (nI L) σ = some (-9, σ') ∧ FrD 0 σ σ' ∧ ∀ L', L ≤ L' → L' ≤ 3 → ∀ u', u' < 36 ^ L' → tst n la w S L' s u' = false) ∨
    (∃ σ' L0 u0, X1_find_L14 F (nI S) f (nI L) σ = some (nI L0, σ') ∧ FrD 0 σ σ' ∧ L ≤ L0 ∧ L0 ≤ 3 ∧ (∀ L', L ≤ L' → L' < L0 → ∀ u', u' < 36 ^ L' → tst n la w S L' s u' = false) ∧ u0 < 36 ^ L0 ∧ tst n la w S L0 s u0 = true ∧ (∀ u', u' < u0 → tst n la w S L0 s u' = false) ∧ ∀ i, i < L0 → σ' 9 i = c10 (u0 / 36 ^ (L0 - 1 - i) % 36)) := by
  intro f
  induction f with
  | zero => intro L σ h1 h2; omega
  | succ f ih =>
    intro L σ h1 h2 hR hH
    rw [X1_find_L14]
    by_cases e : L = 4
    · subst e
      rw [if_pos (show (3 : Int32) < nI 4 by decide)]
      exact Or.inl ⟨σ, rfl, FrD.r 0 σ, fun L' h3 h4 => absurd h4 (by omega)⟩
    have w3 : ∀ L, L < 4 → ¬ (3 : Int32) < nI L := by decide
    rw [if_neg (w3 L (by omega))]
    obtain ⟨z, σ1, e1, f1, g1⟩ := x_mends (F := F) (la := la) (w := w) hF0 hn (show L ≤ 3 by omega) hS 4 0 (by omega) (Nat.zero_le _) s σ hR hW hH
    rw [nI_0, Nat.sub_zero] at *
    rw [e1, ob_e, nI_1]
    rcases g1 with ⟨z1, u, g4, g5, g6, g7⟩ | ⟨z0, g4⟩
    · rw [z1, if_neg n10]
      refine Or.inr ⟨σ1, L, u, rfl, f1, Nat.le_refl _, by omega, fun L' h3 h4 => absurd h3 (by omega), g4, g5, g6, fun i hi => ?_⟩
      have := g7 i hi
      rw [Nat.zero_add] at this
      exact this
    · rw [z0, if_pos rfl]
      have comb : ∀ L', L ≤ L' → (L + 1 ≤ L' → ∀ u', u' < 36 ^ L' → tst n la w S L' s u' = false) → ∀ u', u' < 36 ^ L' → tst n la w S L' s u' = false := by
        intro L' h3 h4
        by_cases e2 : L' = L
        · subst e2; exact g4
        · exact h4 (by omega)
      rcases ih (L + 1) σ1 (by omega) (by omega) (hR.fr (fun k h4 h5 => f1.1 k (by omega) (by omega))) (hH.fr hn (fun k h4 h5 => f1.1 k (by omega) (by omega))) with ⟨σ2, e2, f2, g2⟩ | ⟨σ2, L0, u0, e2, f2, q1, q2, q3, q4⟩
      · exact Or.inl ⟨σ2, e2, f1.t f2, fun L' h3 h4 => comb L' h3 (fun h5 => g2 L' h5 h4)⟩
      · exact Or.inr ⟨σ2, L0, u0, e2, f1.t f2, by omega, q2, fun L' h3 h4 => comb L' h3 (fun h5 => q3 L' h5 h4), q4⟩
