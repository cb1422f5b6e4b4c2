-- told, kinds, wears
def FrC (c p : Nat) (τ0 τ : Mem) : Prop := (∀ k, k ≠ 0 → k ≠ c → (k < 9 ∨ 14 ≤ k) → τ k = τ0 k) ∧ (∀ i, i ≠ p → τ c i = τ0 c i) ∧ (∀ i, i ≠ 17 → i ≠ 18 → τ 0 i = τ0 0 i)
def FrX (σ0 σ : Mem) : Prop := ∀ k, k < 28 ∨ 35 ≤ k → σ k = σ0 k
theorem lasts_gen {τ : Mem} {q k : Nat} (hq : q < 6) (hk : k ≤ 2) (h1 : τ 1 q = nI k) : X7_lastsOf (nI q) τ = some (X6_lastsOf (nI k) (τ 4 q)) := by
  unfold X7_lastsOf X6_lastsOf
  have i6 := inb_nI (k := q) (N := 6) hq (by decide)
  simp only [grd_t i6, bnd_e, clN (show q < 2 ^ 31 by omega), h1]
  rcases (show k = 0 ∨ k = 1 ∨ k = 2 by omega) with rfl | rfl | rfl
  · rw [if_pos (by decide), if_neg (by decide), if_neg (by decide)]
  · rw [if_neg (by decide), if_pos (by decide), if_pos (by decide)]
  · rw [if_neg (by decide), if_neg (by decide), if_neg (by decide), if_pos (by decide)]
theorem FrC.fin {n r c p : Nat} {σ0 τ0 σ τ : Mem} (h : RelN n r σ0 τ0) (hc : c = 1 ∨ c = 2 ∨ c = 4) (hX : FrX σ0 σ) (hC : FrC c p τ0 τ) : RelN n r σ (u2 τ c p (τ0 c p)) := by
  obtain ⟨h1, h2, h3⟩ := hC
  have e0 : (0 : Nat) ≠ c := by omega
  refine h.frame (fun k hk => hX k (by omega)) (fun k hk => ?_) ⟨?_, ?_, ?_, ?_⟩
  · by_cases hkc : k = c
    · subst hkc
      funext i
      by_cases hi : i = p
      · subst hi; rw [u2_s]
      · rw [u2_j _ _ _ hi]; exact h2 i hi
    · rw [u2_k _ _ _ hkc]; exact h1 k (by omega) hkc (by omega)
  all_goals (rw [u2_k _ _ _ e0]; exact h3 _ (by decide) (by decide))
theorem FrC.it {F n r m fr c p kd : Nat} {rw_ : Nat → Nat} {v l val : Int32} {σ0 τ0 τ : Mem} (hF0 : 50000 ≤ F) (h : RelN n r σ0 τ0) (hc : c = 1 ∨ c = 2 ∨ c = 4) (hp : p < n) (hm : m ≤ 20) (hfr : fr + 2 * m ≤ 240) (hrw : ∀ j, j < 2 * m → rw_ j < n ∧ τ0 21 (fr + j) = nI (rw_ j)) (hC : FrC c p τ0 τ) (hkd : kd ≤ 2) (hv : u2 τ c p val 2 p = v) (h1 : u2 τ c p val 1 p = nI kd) (hl : l = X6_lastsOf (nI kd) (u2 τ c p val 4 p)) :
    ∃ τ', X7_areSo F (nI fr) (nI m) (u2 τ c p val) = some (cdV n m r (va_up (laF σ0) p l) (wF σ0) (va_up (scF σ0) p v) rw_ τ0, τ') ∧ FrC c p τ0 τ' := by
  have hn := h.1.2.1
  obtain ⟨c1, c2, c3⟩ := hC
  have e0 : (0 : Nat) ≠ c := by omega
  have q0 : ∀ x, (x = 1 ∨ x = 2 ∨ x = 3 ∨ x = 4) → ∀ q, q ≠ p → u2 τ c p val x q = τ0 x q := by
    intro x hx q hq
    by_cases hxc : x = c
    · subst hxc; rw [u2_j _ _ _ hq]; exact c2 q hq
    · rw [u2_k _ _ _ hxc, c1 x (by omega) hxc (by omega)]
  obtain ⟨τ', e1, f1, f2⟩ := m_could (F := F) (fr := fr) (la := va_up (laF σ0) p l) (w := wF σ0) (sc := va_up (scF σ0) p v) (τ := u2 τ c p val) hF0 h hm hfr
    (by rw [u2_k _ _ _ e0, c3 1 (by decide) (by decide)]; exact h.1.2.2.2.2.1)
    (by rw [u2_k _ _ _ e0, c3 21 (by decide) (by decide)]; exact h.1.2.2.2.2.2.2.1)
    ⟨by rw [u2_k _ _ _ (show 16 ≠ c by omega), c1 16 (by decide) (by omega) (by decide)], by rw [u2_k _ _ _ (show 17 ≠ c by omega), c1 17 (by decide) (by omega) (by decide)], by rw [u2_k _ _ _ (show 18 ≠ c by omega), c1 18 (by decide) (by omega) (by decide)]⟩
    (fun q hq => by
      obtain ⟨b1, b2, b3, b4, ⟨k, hk, b5⟩, b6, b7, b8⟩ := h.2.1 q hq
      have e3 : u2 τ c p val 3 q = τ0 3 q := by rw [u2_k _ _ _ (show 3 ≠ c by omega), c1 3 (by decide) (by omega) (by decide)]
      by_cases hqp : q = p
      · subst hqp
        rw [vup_s, vup_s, e3, lasts_gen (by omega) hkd h1, ← hl]
        exact ⟨hv, b3.symm, rfl⟩
      · rw [vup_n _ _ hqp, vup_n _ _ hqp, e3, q0 2 (by omega) q hqp]
        refine ⟨b2.symm, b3.symm, ?_⟩
        rw [lasts_gen (τ := u2 τ c p val) (by omega) hk ((q0 1 (by omega) q hqp).trans b5), q0 4 (by omega) q hqp, ← lasts_gen (τ := τ0) (by omega) hk b5]
        exact lasts_eq h hq)
    (fun j hj => ⟨(hrw j hj).1, by rw [u2_k _ _ _ (show 21 ≠ c by omega), c1 21 (by decide) (by omega) (by decide)]; exact (hrw j hj).2⟩)
  refine ⟨τ', e1, fun k k0 kc hk => ?_, fun i hi => ?_, fun i i1 i2 => ?_⟩
  · rw [f1 k k0 hk, u2_k _ _ _ kc]; exact c1 k k0 kc hk
  · rw [f1 c (by omega) (by omega), u2_j _ _ _ hi]; exact c2 i hi
  · rw [f2 i i1 i2, u2_k _ _ _ e0]; exact c3 i i1 i2
def stpC (b : Nat → Int32) (j : Nat) (a : Int32 × Int32) : Int32 × Int32 := if b j = 0 then a else if 0 ≤ a.2 then (a.1 + 1, a.2) else (a.1 + 1, nI j)
def upC (b : Nat → Int32) : Nat → Nat → Int32 × Int32 → Int32 × Int32
  | 0, _, a => a
  | r + 1, j, a => upC b r (j + 1) (stpC b j a)
def downC (b : Nat → Int32) : Nat → Int32 × Int32 → Int32 × Int32
  | 0, a => a
  | j + 1, a => downC b j (if b j = 0 then a else (a.1 + 1, nI j))
theorem upC_snoc (b : Nat → Int32) : ∀ r j a, upC b (r + 1) j a = stpC b (j + r) (upC b r j a) := by
  intro r
  induction r with
  | zero => intro j a; rfl
  | succ r ih =>
    intro j a
    rw [upC, ih (j + 1), upC]
    congr 1
    omega
theorem down_up (b : Nat → Int32) : ∀ j, j < 2 ^ 31 → ∀ c l, downC b j (c, l) = ((upC b j 0 (0, -9)).1 + c, if 0 ≤ (upC b j 0 (0, -9)).2 then (upC b j 0 (0, -9)).2 else l) := by
  intro j
  induction j with
  | zero => intro _ c l; rw [downC, upC]; rw [Int32.zero_add, if_neg (show ¬ (0 : Int32) ≤ -9 by decide)]
  | succ j ih =>
    intro hj c l
    rw [downC, upC_snoc, Nat.zero_add]
    unfold stpC
    generalize hU : upC b j 0 (0, -9) = U at ih
    by_cases e : b j = 0
    · rw [if_pos e, if_pos e]
      exact ih (by omega) c l
    · rw [if_neg e, if_neg e, ih (by omega)]
      by_cases d : 0 ≤ U.2
      · rw [if_pos d, if_pos d, if_pos d, Int32.add_assoc, Int32.add_comm 1 c]
      · rw [if_neg d, if_neg d, if_pos (show (0 : Int32) ≤ nI j from nI_le (Nat.zero_le j) (by omega)), Int32.add_assoc, Int32.add_comm 1 c]
theorem upC_9 (b : Nat → Int32) : ∀ j, j < 2 ^ 31 → (upC b j 0 (0, -9)).2 = -9 ∨ 0 ≤ (upC b j 0 (0, -9)).2 := by
  intro j
  induction j with
  | zero => intro _; exact Or.inl rfl
  | succ j ih =>
    intro hj
    rw [upC_snoc, Nat.zero_add]
    unfold stpC
    by_cases e : b j = 0
    · rw [if_pos e]; exact ih (by omega)
    · rw [if_neg e]
      by_cases d : 0 ≤ (upC b j 0 (0, -9)).2
      · rw [if_pos d]; exact Or.inr d
      · rw [if_neg d]; exact Or.inr (nI_le (Nat.zero_le j) (by omega))
theorem down_up64 (b : Nat → Int32) : downC b 64 (0, -9) = upC b 64 0 (0, -9) := by
  rw [down_up b 64 (by decide), Int32.add_zero]
  rcases upC_9 b 64 (by decide) with e | e
  · rw [e, if_neg (by decide)]
    exact Prod.ext rfl e.symm
  · rw [if_pos e]
def dn : Nat → Int32
  | 0 => -1
  | j + 1 => nI j
theorem dn_s : ∀ j, dn (j + 1) + (-1) = dn j
  | 0 => by decide
  | j + 1 => nI_m1 j
