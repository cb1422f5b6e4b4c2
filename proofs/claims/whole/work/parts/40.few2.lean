-- the class's search for the fewest
theorem cpy0 (f g : Nat → Int32) (N : Nat) {j : Nat} (h : j < N) : va_cpy f g 0 0 N j = f j := by
  rw [va_cpy, if_pos ⟨Nat.zero_le j, by omega⟩]
  congr 1
  omega
theorem x_become {e e' n : Nat} {la : Nat → Int32} {s : ES} {σ : Mem} (hn : n ≤ 6) (h : RX e n la s σ) (he : e' = e + 8) : ∃ σ', X0_becomeLike e' e σ = some σ' ∧ RX e' n la s σ' ∧ (∀ k, k < e' ∨ e' + 7 ≤ k → σ' k = σ k) := by
  subst he
  obtain ⟨h1, h2, h3, h4⟩ := h
  have h2t : isTwo 2 = true := rfl
  have c6 : cpOk 0 0 6 6 6 = true := by decide
  have c36 : cpOk 0 0 36 36 36 = true := by decide
  have z0 : (0 : Int32).toNatClampNeg = 0 := rfl
  have z6 : (6 : Int32).toNatClampNeg = 6 := by decide
  have z36 : (36 : Int32).toNatClampNeg = 36 := by decide
  unfold X0_becomeLike
  simp only [h3, grd_t h2t, grd_t c6, grd_t c36, bnd_e, z0, z6, z36]
  refine ⟨_, rfl, ⟨fun p hp => ?_, fun p hp => ?_, ?_, ?_⟩, fun k hk => ?_⟩
  · rw [u1_n _ _ (show e + 8 + 4 ≠ e + 8 + 6 by omega), u1_n _ _ (show e + 8 + 4 ≠ e + 8 + 5 by omega), u1_s, cpy0 _ _ _ (show p < 6 by omega), u1_n _ _ (show e + 4 ≠ e + 8 + 3 by omega), u1_n _ _ (show e + 4 ≠ e + 8 + 2 by omega), u1_n _ _ (show e + 4 ≠ e + 8 + 1 by omega), u2_k _ _ _ (show e + 4 ≠ e + 8 by omega), u2_k _ _ _ (show e + 4 ≠ e + 8 by omega)]
    exact h1 p hp
  · obtain ⟨g1, g2, g3, g4⟩ := h2 p hp
    refine ⟨?_, ?_, ?_, ?_⟩
    · rw [u1_n _ _ (show e + 8 + 1 ≠ e + 8 + 6 by omega), u1_n _ _ (show e + 8 + 1 ≠ e + 8 + 5 by omega), u1_n _ _ (show e + 8 + 1 ≠ e + 8 + 4 by omega), u1_n _ _ (show e + 8 + 1 ≠ e + 8 + 3 by omega), u1_n _ _ (show e + 8 + 1 ≠ e + 8 + 2 by omega), u1_s, cpy0 _ _ _ (show p < 6 by omega), u2_k _ _ _ (show e + 1 ≠ e + 8 by omega), u2_k _ _ _ (show e + 1 ≠ e + 8 by omega)]
      exact g1
    · rw [u1_n _ _ (show e + 8 + 2 ≠ e + 8 + 6 by omega), u1_n _ _ (show e + 8 + 2 ≠ e + 8 + 5 by omega), u1_n _ _ (show e + 8 + 2 ≠ e + 8 + 4 by omega), u1_n _ _ (show e + 8 + 2 ≠ e + 8 + 3 by omega), u1_s, cpy0 _ _ _ (show p < 6 by omega), u1_n _ _ (show e + 2 ≠ e + 8 + 1 by omega), u2_k _ _ _ (show e + 2 ≠ e + 8 by omega), u2_k _ _ _ (show e + 2 ≠ e + 8 by omega)]
      exact g2
    · rw [u1_n _ _ (show e + 8 + 3 ≠ e + 8 + 6 by omega), u1_n _ _ (show e + 8 + 3 ≠ e + 8 + 5 by omega), u1_n _ _ (show e + 8 + 3 ≠ e + 8 + 4 by omega), u1_s, cpy0 _ _ _ (show p < 6 by omega), u1_n _ _ (show e + 3 ≠ e + 8 + 2 by omega), u1_n _ _ (show e + 3 ≠ e + 8 + 1 by omega), u2_k _ _ _ (show e + 3 ≠ e + 8 by omega), u2_k _ _ _ (show e + 3 ≠ e + 8 by omega)]
      exact g3
    · rw [u1_n _ _ (show e + 8 + 5 ≠ e + 8 + 6 by omega), u1_s, cpy0 _ _ _ (show p < 6 by omega), u1_n _ _ (show e + 5 ≠ e + 8 + 4 by omega), u1_n _ _ (show e + 5 ≠ e + 8 + 3 by omega), u1_n _ _ (show e + 5 ≠ e + 8 + 2 by omega), u1_n _ _ (show e + 5 ≠ e + 8 + 1 by omega), u2_k _ _ _ (show e + 5 ≠ e + 8 by omega), u2_k _ _ _ (show e + 5 ≠ e + 8 by omega)]
      exact g4
  · rw [u1_n _ _ (show e + 8 ≠ e + 8 + 6 by omega), u1_n _ _ (show e + 8 ≠ e + 8 + 5 by omega), u1_n _ _ (show e + 8 ≠ e + 8 + 4 by omega), u1_n _ _ (show e + 8 ≠ e + 8 + 3 by omega), u1_n _ _ (show e + 8 ≠ e + 8 + 2 by omega), u1_n _ _ (show e + 8 ≠ e + 8 + 1 by omega), u2_j _ _ _ (by decide), u2_s]
  · rw [u1_n _ _ (show e + 8 ≠ e + 8 + 6 by omega), u1_n _ _ (show e + 8 ≠ e + 8 + 5 by omega), u1_n _ _ (show e + 8 ≠ e + 8 + 4 by omega), u1_n _ _ (show e + 8 ≠ e + 8 + 3 by omega), u1_n _ _ (show e + 8 ≠ e + 8 + 2 by omega), u1_n _ _ (show e + 8 ≠ e + 8 + 1 by omega), u2_s, u2_k _ _ _ (show e ≠ e + 8 by omega)]
    exact h4
  · rw [u1_n _ _ (show k ≠ e + 8 + 6 by omega), u1_n _ _ (show k ≠ e + 8 + 5 by omega), u1_n _ _ (show k ≠ e + 8 + 4 by omega), u1_n _ _ (show k ≠ e + 8 + 3 by omega), u1_n _ _ (show k ≠ e + 8 + 2 by omega), u1_n _ _ (show k ≠ e + 8 + 1 by omega), u2_k _ _ _ (show k ≠ e + 8 by omega), u2_k _ _ _ (show k ≠ e + 8 by omega)]
def HW (n : Nat) (w : Nat → Int32) (σ : Mem) : Prop := ∀ p, p < n → σ (22 + p) 2 = w p ∧ ∃ z, z ≤ 6 ∧ w p = nI z
def c10 (d : Nat) : Int32 := nI (10 * (d / 6) + d % 6)
/-- what the search may change from a depth on -/
def FrD (d : Nat) (σ0 σ : Mem) : Prop := (∀ k, k ≠ 9 → k < 36 + 8 * (d + 1) → σ k = σ0 k) ∧ ∀ j, j < d → σ 9 j = σ0 9 j
theorem FrD.r (d : Nat) (σ : Mem) : FrD d σ σ := ⟨fun _ _ _ => rfl, fun _ _ => rfl⟩
theorem FrD.t {d : Nat} {a b c : Mem} (h : FrD d a b) (g : FrD d b c) : FrD d a c := ⟨fun k h1 h2 => (g.1 k h1 h2).trans (h.1 k h1 h2), fun j h1 => (g.2 j h1).trans (h.2 j h1)⟩
theorem RX.fr {e n : Nat} {la : Nat → Int32} {s : ES} {σ σ' : Mem} (h : RX e n la s σ) (hF : ∀ k, e ≤ k → k < e + 6 → σ' k = σ k) : RX e n la s σ' := by
  obtain ⟨h1, h2, h3, h4⟩ := h
  refine ⟨fun p hp => ?_, fun p hp => ?_, ?_, ?_⟩
  · rw [hF (e + 4) (by omega) (by omega)]; exact h1 p hp
  · rw [hF (e + 1) (by omega) (by omega), hF (e + 2) (by omega) (by omega), hF (e + 3) (by omega) (by omega), hF (e + 5) (by omega) (by omega)]; exact h2 p hp
  · rw [hF e (by omega) (by omega)]; exact h3
  · rw [hF e (by omega) (by omega)]; exact h4
theorem HW.fr {n : Nat} {w : Nat → Int32} {σ σ' : Mem} (hn : n ≤ 6) (h : HW n w σ) (hF : ∀ k, 22 ≤ k → k < 28 → σ' k = σ k) : HW n w σ' := fun p hp => by
  rw [hF (22 + p) (by omega) (by omega)]; exact h p hp
/-- what the search from a depth on comes to -/
def Fnd (n : Nat) (la w : Nat → Int32) (S d r : Nat) (s : ES) (z : Int32) (σ' : Mem) : Prop :=
  (z = 1 ∧ ∃ u, u < 36 ^ r ∧ tst n la w S r s u = true ∧ (∀ u', u' < u → tst n la w S r s u' = false) ∧ ∀ i, i < r → σ' 9 (d + i) = c10 (u / 36 ^ (r - 1 - i) % 36)) ∨ (z = 0 ∧ ∀ u, u < 36 ^ r → tst n la w S r s u = false)
def SrchF (F n : Nat) (la w : Nat → Int32) (S most f d : Nat) : Prop :=
  ∀ (s : ES) (σ : Mem), RX (36 + 8 * d) n la s σ → WF n s → HW n w σ → ∃ z σ', X1_mends F f (nI d) (nI most) (nI S) σ = some (z, σ') ∧ FrD d σ σ' ∧ Fnd n la w S d (most - d) s z σ'
theorem l66 {F n most S f d a : Nat} {la w : Nat → Int32} {kk : Mem → Option (Int32 × Mem)} {s : ES} (hn : n ≤ 6) (hm : most ≤ 3) (hd : d < most) (hrec : SrchF F n la w S most f (d + 1)) (hW : WF n s) : ∀ (fb b : Nat) (σ : Mem), a < b → b ≤ n → n - b < fb → RX (36 + 8 * d) n la s σ → HW n w σ → (∀ d', d' < 6 * a + b → ∀ u', u' < 36 ^ (most - (d + 1)) → tst n la w S ((most - (d + 1)) + 1) s (d' * 36 ^ (most - (d + 1)) + u') = false) →
    (∃ σ', X1_mends_L66 F (fun v1 v2 v3 σ0 => X1_mends F f v1 v2 v3 σ0) (nI d) (nI most) (nI S) (36 + 8 * d) (36 + 8 * (d + 1)) (nI a) kk fb (nI b) σ = some (1, σ') ∧ FrD d σ σ' ∧ Fnd n la w S d ((most - (d + 1)) + 1) s 1 σ') ∨
    (∃ σ', X1_mends_L66 F (fun v1 v2 v3 σ0 => X1_mends F f v1 v2 v3 σ0) (nI d) (nI most) (nI S) (36 + 8 * d) (36 + 8 * (d + 1)) (nI a) kk fb (nI b) σ = kk σ' ∧ FrD d σ σ' ∧ RX (36 + 8 * d) n la s σ' ∧ HW n w σ' ∧ (∀ d', d' < 6 * a + n → ∀ u', u' < 36 ^ (most - (d + 1)) → tst n la w S ((most - (d + 1)) + 1) s (d' * 36 ^ (most - (d + 1)) + u') = false)) := by
  intro fb
  induction fb with
  | zero => intro b σ h1 h2 h3; omega
  | succ fb ih =>
    intro b σ h1 h2 h3 hR hH hu
    rw [X1_mends_L66, hR.2.2.2]
    by_cases e : b = n
    · subst e
      rw [if_pos (nI_le (Nat.le_refl _) (by omega))]
      exact Or.inr ⟨σ, rfl, FrD.r d σ, hR, hH, hu⟩
    have hdd : 6 * a + b < 36 := by omega
    have e6 : (6 * a + b) / 6 = a := by omega
    have e7 : (6 * a + b) % 6 = b := by omega
    rw [if_neg (nI_ge (by omega) (by omega)), x_can hn hR (show a < n by omega) (show b < n by omega), ob_e, nI_1]
    have next : ∀ (bad : ∀ u', u' < 36 ^ (most - (d + 1)) → tst n la w S ((most - (d + 1)) + 1) s ((6 * a + b) * 36 ^ (most - (d + 1)) + u') = false), ∀ d', d' < 6 * a + (b + 1) → ∀ u', u' < 36 ^ (most - (d + 1)) → tst n la w S ((most - (d + 1)) + 1) s (d' * 36 ^ (most - (d + 1)) + u') = false := by
      intro bad d' h4
      by_cases e2 : d' = 6 * a + b
      · subst e2; exact bad
      · exact hu d' (by omega)
    by_cases c : canI s a b = 0
    · rw [if_pos c]
      refine ih (b + 1) σ (by omega) (by omega) (by omega) hR hH (next (tst_bad hdd (vld_f ?_)))
      rw [e6, e7]
      exact fun q => q.2.2 c
    rw [if_neg c]
    obtain ⟨σ1, e1, hR1, f1⟩ := x_become (e' := 36 + 8 * (d + 1)) hn hR (by omega)
    obtain ⟨σ2, e2, hR2, f2, -⟩ := x_lend hn hR1 (show a < n by omega) (show b < n by omega)
    have hW2 := lend_WF hW la (show a < n by omega) (show b < n by omega)
    have hv : vld n s (6 * a + b) = true := vld_m (by rw [e6, e7]; exact ⟨h1, by omega, c⟩)
    rw [e1, ob_e, e2, ob_e, grd_t (inb_nI (show d < 3 by omega) (by decide)), bnd_e, clN (show d < 2 ^ 31 by omega), m10_nI, nI_add]
    have f12 : ∀ k, k ≠ 9 → k < 36 + 8 * (d + 1) → u2 σ2 9 d (nI (10 * a + b)) k = σ k := fun k k9 hk => by
      rw [u2_k _ _ _ k9, f2 k (by omega), f1 k (by omega)]
    obtain ⟨z, σ3, e3, f3, g3⟩ := hrec (lendF la s a b) (u2 σ2 9 d (nI (10 * a + b))) (hR2.fr (fun k h4 h5 => u2_k _ _ _ (by omega))) hW2 (hH.fr hn (fun k h4 h5 => f12 k (by omega) (by omega)))
    rw [nI_1, e3, ob_e]
    have hFr : FrD d σ σ3 := by
      refine ⟨fun k k9 hk => (f3.1 k k9 (by omega)).trans (f12 k k9 hk), fun j hj => ?_⟩
      rw [f3.2 j (by omega), u2_j _ _ _ (by omega), f2 9 (by omega), f1 9 (by omega)]
    have hstep : ∀ u', u' < 36 ^ (most - (d + 1)) → tst n la w S ((most - (d + 1)) + 1) s ((6 * a + b) * 36 ^ (most - (d + 1)) + u') = tst n la w S (most - (d + 1)) (lendF la s a b) u' := by
      intro u' h4
      rw [tst_step hdd h4, if_pos hv, e6, e7]
    rcases g3 with ⟨z1, u, g4, g5, g6, g7⟩ | ⟨z0, g4⟩
    · rw [z1, if_neg n10]
      have hlt : (6 * a + b) * 36 ^ (most - (d + 1)) + u < 36 ^ ((most - (d + 1)) + 1) := by
        rw [Nat.pow_succ, Nat.mul_comm (36 ^ (most - (d + 1))) 36]
        calc (6 * a + b) * 36 ^ (most - (d + 1)) + u < (6 * a + b) * 36 ^ (most - (d + 1)) + 36 ^ (most - (d + 1)) := by omega
          _ = (6 * a + b + 1) * 36 ^ (most - (d + 1)) := (Nat.succ_mul (6 * a + b) _).symm
          _ ≤ 36 * 36 ^ (most - (d + 1)) := Nat.mul_le_mul_right _ hdd
      have hN : 0 < 36 ^ (most - (d + 1)) := Nat.pow_pos (by decide)
      refine Or.inl ⟨σ3, rfl, hFr, Or.inl ⟨rfl, (6 * a + b) * 36 ^ (most - (d + 1)) + u, hlt, ?_, fun u' h4 => ?_, fun i hi => ?_⟩⟩
      · rw [hstep u g4]; exact g5
      · obtain ⟨q1, q2, q3⟩ := dec36 (u := u') (r := most - (d + 1)) (by omega)
        by_cases q4 : u' / 36 ^ (most - (d + 1)) < 6 * a + b
        · rw [q1]; exact hu _ q4 _ q3
        · have q5 : u' / 36 ^ (most - (d + 1)) = 6 * a + b := by
            by_cases q6 : 6 * a + b < u' / 36 ^ (most - (d + 1))
            · exfalso
              have m1 : (6 * a + b + 1) * 36 ^ (most - (d + 1)) ≤ u' / 36 ^ (most - (d + 1)) * 36 ^ (most - (d + 1)) := Nat.mul_le_mul_right _ q6
              rw [Nat.succ_mul] at m1
              generalize u' % 36 ^ (most - (d + 1)) = x at q1 q3
              generalize u' / 36 ^ (most - (d + 1)) = y at q1 q2 q4 q6 m1
              omega
            · omega
          rw [q5] at q1
          rw [q1, hstep _ q3]
          exact g6 _ (by omega)
      · by_cases i0 : i = 0
        · subst i0
          rw [Nat.add_zero, f3.2 d (by omega), u2_s, show most - (d + 1) + 1 - 1 - 0 = most - (d + 1) by omega, Nat.mul_comm (6 * a + b), Nat.mul_add_div hN, Nat.div_eq_of_lt g4, Nat.add_zero, Nat.mod_eq_of_lt hdd]
          unfold c10
          rw [e6, e7]
        · have q := g7 (i - 1) (by omega)
          rw [show d + 1 + (i - 1) = d + i by omega, show most - (d + 1) - 1 - (i - 1) = most - (d + 1) + 1 - 1 - i by omega] at q
          rw [q]
          have e8 : (6 * a + b) * 36 ^ (most - (d + 1)) = 36 ^ (most - (d + 1) + 1 - 1 - i) * (36 * (36 ^ (i - 1) * (6 * a + b))) := by
            have : 36 ^ (most - (d + 1)) = 36 ^ (most - (d + 1) + 1 - 1 - i) * (36 * 36 ^ (i - 1)) := by
              rw [← Nat.pow_succ', ← Nat.pow_add]
              congr 1
              omega
            rw [this, Nat.mul_comm (6 * a + b), Nat.mul_assoc, Nat.mul_assoc]
          rw [e8, Nat.mul_add_div (Nat.pow_pos (by decide)), Nat.mul_add_mod]
    · rw [z0, if_pos rfl]
      have bad : ∀ u', u' < 36 ^ (most - (d + 1)) → tst n la w S ((most - (d + 1)) + 1) s ((6 * a + b) * 36 ^ (most - (d + 1)) + u') = false := fun u' h4 => by rw [hstep u' h4]; exact g4 u' h4
      rcases ih (b + 1) σ3 (by omega) (by omega) (by omega) (hR.fr (fun k h4 h5 => hFr.1 k (by omega) (by omega))) (hH.fr hn (fun k h4 h5 => hFr.1 k (by omega) (by omega))) (next bad) with ⟨σ4, e4, f4, g5⟩ | ⟨σ4, e4, f4, g5⟩
      · exact Or.inl ⟨σ4, e4, hFr.t f4, g5⟩
      · exact Or.inr ⟨σ4, e4, hFr.t f4, g5⟩
