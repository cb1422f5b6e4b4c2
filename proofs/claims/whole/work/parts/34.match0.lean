-- the first maximum over rows is what the table and the greedy choice give
def fmax (f : Nat → Nat) : Nat → Nat × Nat
  | 0 => (0, 0)
  | u + 1 => if f u ≤ (fmax f u).1 then fmax f u else (f u, u)
def IsFM (f : Nat → Nat) (N b a : Nat) : Prop := (∀ u, u < N → f u ≤ b) ∧ ((b = 0 ∧ a = 0) ∨ (0 < b ∧ a < N ∧ f a = b ∧ ∀ u, u < a → f u < b))
theorem fmax_spec (f : Nat → Nat) : ∀ N, IsFM f N (fmax f N).1 (fmax f N).2 := by
  intro N
  induction N with
  | zero => exact ⟨fun u h => absurd h (by omega), Or.inl ⟨rfl, rfl⟩⟩
  | succ N ih =>
    obtain ⟨h1, h2⟩ := ih
    rw [fmax]
    by_cases c : f N ≤ (fmax f N).1
    · rw [if_pos c]
      refine ⟨fun u hu => ?_, ?_⟩
      · by_cases e : u = N
        · subst e; exact c
        · exact h1 u (by omega)
      · rcases h2 with h2 | ⟨a, b, d, e⟩
        · exact Or.inl h2
        · exact Or.inr ⟨a, by omega, d, e⟩
    · rw [if_neg c]
      refine ⟨fun u hu => ?_, Or.inr ⟨by dsimp only; omega, by dsimp only; omega, rfl, fun u hu => ?_⟩⟩
      · by_cases e : u = N
        · subst e; exact Nat.le_refl _
        · have := h1 u (by omega); dsimp only; omega
      · have := h1 u hu; dsimp only; omega
theorem IsFM.uniq {f : Nat → Nat} {N b a b' a' : Nat} (h : IsFM f N b a) (h' : IsFM f N b' a') : b = b' ∧ a = a' := by
  obtain ⟨h1, h2⟩ := h
  obtain ⟨g1, g2⟩ := h'
  rcases h2 with ⟨e1, e2⟩ | ⟨e1, e2, e3, e4⟩
  · rcases g2 with ⟨k1, k2⟩ | ⟨k1, k2, k3, k4⟩
    · omega
    · have := h1 a' k2; omega
  · rcases g2 with ⟨k1, k2⟩ | ⟨k1, k2, k3, k4⟩
    · have := g1 a e2; omega
    · have q1 := h1 a' k2
      have q2 := g1 a e2
      have eb : b = b' := by omega
      refine ⟨eb, ?_⟩
      by_cases l : a < a'
      · have := k4 a l; omega
      · by_cases l2 : a' < a
        · have := e4 a' l2; omega
        · omega
def pc (S : Nat) : Nat := S % 2 + S / 2 % 2 + S / 4 % 2 + S / 8 % 2 + S / 16 % 2 + S / 32 % 2
theorem pc_or : ∀ c, c < 6 → ∀ S, S < 64 → pc (S ||| 2 ^ c) = pc S + (if S.testBit c then 0 else 1) := by decide +kernel
theorem pc_all : ∀ n, n ≤ 6 → ∀ S, S < 2 ^ n → pc S ≤ n ∧ (pc S = n ↔ S = 2 ^ n - 1) := by decide +kernel
theorem ex_free : ∀ n, n ≤ 6 → ∀ S, S < 2 ^ n → ¬ S = 2 ^ n - 1 → ∃ c, c < n ∧ S.testBit c = false := by decide +kernel
theorem or_in : ∀ c, c < 6 → ∀ S, S < 64 → S.testBit c = true → S ||| 2 ^ c = S := by decide +kernel
theorem or_gt : ∀ c, c < 6 → ∀ S, S < 64 → S.testBit c = false → S < S ||| 2 ^ c := by decide +kernel
theorem two_le {n : Nat} (h : n ≤ 6) : 2 ^ n ≤ 64 := Nat.pow_le_pow_right (by decide) h
theorem or_lt {n c S : Nat} (hS : S < 2 ^ n) (hc : c < n) : S ||| 2 ^ c < 2 ^ n := Nat.or_lt_two_pow hS (Nat.pow_lt_pow_right (by decide) hc)
def gF (n : Nat) (mm : Nat → Nat → Nat) (r S : Nat) (D : Nat → Nat) (c : Nat) : Nat := if S.testBit c then 0 else mm (n - (r + 1)) c + D (S ||| 2 ^ c)
def DF (n : Nat) (mm : Nat → Nat → Nat) : Nat → Nat → Nat
  | 0, _ => 1
  | r + 1, S => (fmax (gF n mm r S (DF n mm r)) n).1
def CB (n : Nat) (mm : Nat → Nat → Nat) (r S : Nat) : Nat := (fmax (gF n mm r S (DF n mm r)) n).2
def AF (n : Nat) (mm : Nat → Nat → Nat) : Nat → Nat → Nat
  | 0, _ => 0
  | r + 1, S => CB n mm r S * n ^ r + AF n mm r (S ||| 2 ^ CB n mm r S)
def maskF (n : Nat) : Nat → Nat → Nat
  | 0, _ => 0
  | r + 1, u => maskF n r (u % n ^ r) ||| 2 ^ (u / n ^ r % n)
def cntF (n : Nat) (mm : Nat → Nat → Nat) : Nat → Nat → Nat
  | 0, _ => 0
  | r + 1, u => cntF n mm r (u % n ^ r) + mm (n - (r + 1)) (u / n ^ r % n)
def valF (n : Nat) (mm : Nat → Nat → Nat) (r S u : Nat) : Nat := if S ||| maskF n r u = 2 ^ n - 1 then cntF n mm r u + 1 else 0
theorem val_step {n : Nat} {mm : Nat → Nat → Nat} {r S c u : Nat} (hc : c < n) (hu : u < n ^ r) : valF n mm (r + 1) S (c * n ^ r + u) = if valF n mm r (S ||| 2 ^ c) u = 0 then 0 else valF n mm r (S ||| 2 ^ c) u + mm (n - (r + 1)) c := by
  have e1 : (c * n ^ r + u) % n ^ r = u := by rw [Nat.mul_comm, Nat.mul_add_mod, Nat.mod_eq_of_lt hu]
  have e2 : (c * n ^ r + u) / n ^ r = c := by
    rw [Nat.mul_comm, Nat.mul_add_div (by omega), Nat.div_eq_of_lt hu, Nat.add_zero]
  unfold valF
  rw [maskF, cntF, e1, e2, Nat.mod_eq_of_lt hc]
  have e3 : S ||| (maskF n r u ||| 2 ^ c) = S ||| 2 ^ c ||| maskF n r u := by rw [Nat.or_comm (maskF n r u), Nat.or_assoc]
  rw [e3]
  by_cases q : S ||| 2 ^ c ||| maskF n r u = 2 ^ n - 1
  · rw [if_pos q, if_pos q, if_neg (by omega)]
    omega
  · rw [if_neg q, if_neg q, if_pos rfl]
theorem pigeon {n : Nat} (hn : n ≤ 6) (hn0 : 0 < n) : ∀ r S u, S < 2 ^ n → pc S + r < n → ¬ S ||| maskF n r u = 2 ^ n - 1 := by
  intro r
  induction r with
  | zero =>
    intro S u hS h
    rw [maskF, Nat.or_zero]
    intro e
    have := ((pc_all n hn S hS).2).mpr e
    omega
  | succ r ih =>
    intro S u hS h
    have hc : u / n ^ r % n < n := Nat.mod_lt _ hn0
    rw [maskF, Nat.or_comm (maskF n r (u % n ^ r)), ← Nat.or_assoc]
    refine ih _ _ (or_lt hS hc) ?_
    have := pc_or (u / n ^ r % n) (by omega) S (by have := two_le hn; omega)
    have h2 : (if S.testBit (u / n ^ r % n) then 0 else 1) ≤ 1 := by split <;> omega
    omega
theorem val_fm {n : Nat} {mm : Nat → Nat → Nat} (hn : n ≤ 6) (hn0 : 0 < n) : ∀ r S, S < 2 ^ n → pc S + r = n → IsFM (valF n mm r S) (n ^ r) (DF n mm r S) (AF n mm r S) ∧ 0 < DF n mm r S ∧ AF n mm r S < n ^ r := by
  intro r
  induction r with
  | zero =>
    intro S hS h
    have e : S = 2 ^ n - 1 := ((pc_all n hn S hS).2).mp (by omega)
    have v : ∀ u, valF n mm 0 S u = 1 := fun u => by
      unfold valF
      rw [maskF, cntF, Nat.or_zero, if_pos e]
    refine ⟨⟨fun u _ => by rw [v]; exact Nat.le_refl _, Or.inr ⟨Nat.one_pos, by rw [Nat.pow_zero]; exact Nat.one_pos, v _, fun u hu => absurd hu (Nat.not_lt_zero u)⟩⟩, Nat.one_pos, by rw [Nat.pow_zero]; exact Nat.one_pos⟩
  | succ r ih =>
    intro S hS h
    have h64 := two_le hn
    have hN : 0 < n ^ r := Nat.pow_pos hn0
    have hp := pc_all n hn S hS
    have hne : ¬ S = 2 ^ n - 1 := fun e => by have := hp.2.mpr e; omega
    have hih : ∀ c, c < n → S.testBit c = false → IsFM (valF n mm r (S ||| 2 ^ c)) (n ^ r) (DF n mm r (S ||| 2 ^ c)) (AF n mm r (S ||| 2 ^ c)) ∧ 0 < DF n mm r (S ||| 2 ^ c) ∧ AF n mm r (S ||| 2 ^ c) < n ^ r := by
      intro c hc hb
      refine ih _ (or_lt hS hc) ?_
      have := pc_or c (by omega) S (by omega)
      rw [hb, if_neg (by decide)] at this
      omega
    obtain ⟨g1, g2⟩ := fmax_spec (gF n mm r S (DF n mm r)) n
    obtain ⟨c0, hc0, hb0⟩ := ex_free n hn S hS hne
    have hD : 0 < (fmax (gF n mm r S (DF n mm r)) n).1 := by
      have q := g1 c0 hc0
      have q2 := (hih c0 hc0 hb0).2.1
      unfold gF at q
      rw [hb0, if_neg (by decide)] at q
      exact Nat.lt_of_lt_of_le (by omega) q
    rcases g2 with ⟨e, -⟩ | ⟨k1, k2, k3, k4⟩
    · omega
    have hcb : S.testBit (fmax (gF n mm r S (DF n mm r)) n).2 = false := by
      rw [← Bool.not_eq_true]
      intro q
      have k3' : gF n mm r S (DF n mm r) (fmax (gF n mm r S (DF n mm r)) n).2 = 0 := by
        show (if S.testBit (fmax (gF n mm r S (DF n mm r)) n).2 = true then 0 else _) = _
        rw [if_pos q]
      exact absurd (k3'.symm.trans k3) (Nat.ne_of_lt hD)
    have up : ∀ c, c < n → ∀ u, u < n ^ r → valF n mm (r + 1) S (c * n ^ r + u) ≤ gF n mm r S (DF n mm r) c := by
      intro c hc u hu
      rw [val_step hc hu]
      by_cases hb : S.testBit c = true
      · have e := or_in c (by omega) S (by omega) hb
        rw [e]
        have : valF n mm r S u = 0 := by
          unfold valF
          rw [if_neg (pigeon hn hn0 r S u hS (by omega))]
        rw [if_pos this]
        exact Nat.zero_le _
      · have hb' : S.testBit c = false := Bool.not_eq_true _ ▸ (by simpa using hb)
        have q := (hih c hc hb').1.1 u hu
        show _ ≤ (if S.testBit c = true then 0 else mm (n - (r + 1)) c + DF n mm r (S ||| 2 ^ c))
        rw [if_neg hb]
        split
        · exact Nat.zero_le _
        · omega
    obtain ⟨i1, i2, i3⟩ := hih _ k2 hcb
    have eD : gF n mm r S (DF n mm r) (fmax (gF n mm r S (DF n mm r)) n).2 = mm (n - (r + 1)) (fmax (gF n mm r S (DF n mm r)) n).2 + DF n mm r (S ||| 2 ^ (fmax (gF n mm r S (DF n mm r)) n).2) := by
      show (if S.testBit (fmax (gF n mm r S (DF n mm r)) n).2 = true then 0 else _) = _
      rw [hcb, if_neg (by decide)]
    rw [DF, AF]
    have eCB : CB n mm r S = (fmax (gF n mm r S (DF n mm r)) n).2 := rfl
    rw [eCB]
    generalize (fmax (gF n mm r S (DF n mm r)) n).1 = D at hD g1 k1 k3 k4 ⊢
    generalize (fmax (gF n mm r S (DF n mm r)) n).2 = cb at hcb k2 k3 k4 i1 i2 i3 eD ⊢
    have hlt : cb * n ^ r + AF n mm r (S ||| 2 ^ cb) < n ^ (r + 1) := by
      rw [Nat.pow_succ, Nat.mul_comm (n ^ r) n]
      calc cb * n ^ r + AF n mm r (S ||| 2 ^ cb) < cb * n ^ r + n ^ r := by omega
        _ = (cb + 1) * n ^ r := by rw [Nat.add_mul, Nat.one_mul]
        _ ≤ n * n ^ r := Nat.mul_le_mul_right _ k2
    have dec : ∀ u, u < n ^ (r + 1) → u = u / n ^ r * n ^ r + u % n ^ r ∧ u / n ^ r < n ∧ u % n ^ r < n ^ r := by
      intro u hu
      refine ⟨?_, ?_, Nat.mod_lt _ hN⟩
      · rw [Nat.mul_comm]; exact (Nat.div_add_mod u (n ^ r)).symm
      · rw [Nat.div_lt_iff_lt_mul hN, Nat.mul_comm n, ← Nat.pow_succ]; exact hu
    refine ⟨⟨fun u hu => ?_, Or.inr ⟨hD, hlt, ?_, fun u hu => ?_⟩⟩, hD, hlt⟩
    · obtain ⟨d1, d2, d3⟩ := dec u hu
      rw [d1]
      exact Nat.le_trans (up _ d2 _ d3) (g1 _ d2)
    · rcases i1.2 with ⟨e, -⟩ | ⟨j1, j2, j3, j4⟩
      · omega
      · rw [val_step k2 j2, j3, if_neg (by omega)]
        omega
    · obtain ⟨d1, d2, d3⟩ := dec u (by omega)
      by_cases c1 : u / n ^ r < cb
      · rw [d1]
        exact Nat.lt_of_le_of_lt (up _ d2 _ d3) (k4 _ c1)
      · have c2 : u / n ^ r = cb := by
          by_cases c3 : cb < u / n ^ r
          · exfalso
            have m1 : (cb + 1) * n ^ r ≤ u / n ^ r * n ^ r := Nat.mul_le_mul_right _ c3
            rw [Nat.add_mul, Nat.one_mul] at m1
            generalize u % n ^ r = x at d1 d3
            generalize u / n ^ r = y at d1 d2 c1 c3 m1
            omega
          · omega
        rw [c2] at d1
        rcases i1.2 with ⟨e, -⟩ | ⟨j1, j2, j3, j4⟩
        · omega
        · have q := j4 (u % n ^ r) (by omega)
          rw [d1, val_step k2 d3]
          split
          · exact hD
          · omega
