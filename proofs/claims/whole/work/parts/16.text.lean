-- the text of a counter
theorem u2_self (σ : Mem) (k j : Nat) : u2 σ k j (σ k j) = σ := by
  funext a b
  rw [u2_at]
  split
  · rename_i h; rw [h.1, h.2]
  · rfl
theorem sub48 (c : Int32) : (c - 48).toInt = if c.toInt - 48 < -2147483648 then c.toInt - 48 + 4294967296 else c.toInt - 48 := by
  have h1 := Int32.toInt_lt c
  have h2 := Int32.le_toInt c
  have h48 : (48 : Int32).toInt = 48 := by decide
  rw [Int32.toInt_sub, h48]
  unfold Int.bmod
  simp only []
  split <;> split <;> omega
theorem code_lt {τ : Mem} {fr b t : Nat} (ht : τ 0 6 = nI t) (h : t < b) (hf : fr + b ≤ 240) : X7_codeAt (nI fr) (nI b) τ = some (τ 21 (fr + t)) := by
  unfold X7_codeAt
  rw [ht, if_neg (nI_ge h (by omega)), nI_add, grd_t (inb_nI (by omega) (by decide)), clN (by omega)]
theorem code_ge {τ : Mem} {fr b t : Nat} (ht : τ 0 6 = nI t) (h : b ≤ t) (hf : t < 300) : X7_codeAt (nI fr) (nI b) τ = some (-9) := by
  unfold X7_codeAt
  rw [ht, if_pos (nI_le h (by omega))]
theorem fig {τ : Mem} {fr b t : Nat} (lo hi : Int32) (l h : Nat) (hl : lo.toInt = l) (hh : hi.toInt = h) (h9 : h ≤ 9) (ht : τ 0 6 = nI t) (htb : t < 300) (hf : fr + b ≤ 240) :
    (t < b ∧ ∃ d, l ≤ d ∧ d ≤ h ∧ τ 21 (fr + t) = nI (48 + d) ∧ X7_figure (nI fr) (nI b) lo hi τ = some (nI d, u2 τ 0 6 (nI (t + 1)))) ∨ ((b ≤ t ∨ ¬ (48 + (l : Int) ≤ (τ 21 (fr + t)).toInt ∧ (τ 21 (fr + t)).toInt ≤ 48 + (h : Int))) ∧ X7_figure (nI fr) (nI b) lo hi τ = some (-9, τ)) := by
  unfold X7_figure
  have e0 : u2 τ 0 6 (nI t + 0) = τ := by rw [Int32.add_zero, ← ht, u2_self]
  by_cases c : t < b
  · rw [code_lt ht c hf]
    simp only [Option.bind_some, bnd, X7_in_iff, i64_of, hl, hh, ht]
    by_cases c2 : 48 + (l : Int) ≤ (τ 21 (fr + t)).toInt ∧ (τ 21 (fr + t)).toInt ≤ 48 + (h : Int)
    · obtain ⟨z, hz, hz2⟩ := nI_ex (v := τ 21 (fr + t)) (N := 58) (by omega) (by omega)
      have tz := t32 (k := z) (by omega)
      rw [hz2] at c2
      have e := sub48 (nI z)
      rw [tz] at e
      rw [if_neg (by omega)] at e
      have c3 : (l : Int) ≤ (nI z - 48).toInt ∧ (nI z - 48).toInt ≤ (h : Int) := by omega
      have e2 : nI z - 48 = nI (z - 48) := pk_sub (b := 48) (by omega)
      refine Or.inl ⟨c, z - 48, by omega, by omega, ?_, ?_⟩
      · rw [hz2]; congr 1; omega
      · rw [hz2]
        simp only [if_pos c3, if_neg n10]
        rw [e2, nI_1]
    · have e := sub48 (τ 21 (fr + t))
      have c3 : ¬ ((l : Int) ≤ (τ 21 (fr + t) - 48).toInt ∧ (τ 21 (fr + t) - 48).toInt ≤ (h : Int)) := by
        have hlo := Int32.le_toInt (τ 21 (fr + t))
        split at e <;> omega
      refine Or.inr ⟨Or.inr c2, ?_⟩
      simp only [if_neg c3, if_true, e0]
  · rw [code_ge ht (by omega) htb]
    have c3 : ¬ ((l : Int) ≤ ((-9 : Int32) - 48).toInt ∧ ((-9 : Int32) - 48).toInt ≤ (h : Int)) := by
      have : ((-9 : Int32) - 48).toInt = -57 := by decide
      omega
    simp only [Option.bind_some, bnd, X7_in_iff, i64_of, hl, hh, ht]
    refine Or.inr ⟨Or.inl (by omega), ?_⟩
    simp only [if_neg c3, if_true, e0]
theorem tg_rem : ∀ j, j < 37 → 1 ≤ j → (nI j - 1) - (nI j - 1) / 6 * 6 = nI ((j - 1) % 6) := by decide +kernel
theorem tg_eq {j : Nat} (h1 : 1 ≤ j) (h2 : j < 37) (bf c : Int32) : X6_textGoesOn (nI j) bf c = if nI ((j - 1) % 6) = 0 then (if c = 59 then 1 else 0) else if nI ((j - 1) % 6) = 1 then (if c = 99 then 1 else if c = 115 then 1 else if c = 116 then 1 else 0) else if nI ((j - 1) % 6) = 2 then (if c < 48 then 0 else if 54 < c then 0 else 1) else if nI ((j - 1) % 6) = 3 then (if c < 48 then 0 else if bf = 54 then (if 51 < c then 0 else 1) else (if 57 < c then 0 else 1)) else if nI ((j - 1) % 6) = 4 then (if c < 48 then 0 else if 54 < c then 0 else 1) else (if c < 49 then 0 else if 57 < c then 0 else 1) := by
  unfold X6_textGoesOn
  rw [tg_rem j h2 h1, if_neg (nI_ne0 (by omega) (by omega)), if_pos (show nI j ≤ 36 from nI_le (b := 36) (by omega) (by decide))]
theorem rng {c : Int32} (lo hi : Int32) (l h : Int) (hl : lo.toInt = l) (hh : hi.toInt = h) : (if c < lo then (0 : Int32) else if hi < c then 0 else 1) = if l ≤ c.toInt ∧ c.toInt ≤ h then 1 else 0 := by
  by_cases c1 : c < lo
  · rw [if_pos c1]
    rw [i32_lt, hl] at c1
    rw [if_neg (by omega)]
  · rw [if_neg c1]
    rw [i32_lt, hl] at c1
    by_cases c2 : hi < c
    · rw [if_pos c2]
      rw [i32_lt, hh] at c2
      rw [if_neg (by omega)]
    · rw [if_neg c2]
      rw [i32_lt, hh] at c2
      rw [if_pos (by omega)]
theorem t48 : (48 : Int32).toInt = 48 := by decide
theorem t49 : (49 : Int32).toInt = 49 := by decide
theorem t51 : (51 : Int32).toInt = 51 := by decide
theorem t54 : (54 : Int32).toInt = 54 := by decide
theorem t57 : (57 : Int32).toInt = 57 := by decide
section TG
variable {q : Nat} (hq : q < 6) (bf c : Int32)
theorem tg0 (hq : q < 6) (bf c : Int32) : X6_textGoesOn (nI (1 + 6 * q)) bf c = if c = 59 then 1 else 0 := by
  rw [tg_eq (by omega) (by omega), show (1 + 6 * q - 1) % 6 = 0 by omega, if_pos (by decide)]
theorem tg1 (hq : q < 6) (bf c : Int32) : X6_textGoesOn (nI (1 + 6 * q + 1)) bf c = if c = 99 then 1 else if c = 115 then 1 else if c = 116 then 1 else 0 := by
  rw [tg_eq (by omega) (by omega), show (1 + 6 * q + 1 - 1) % 6 = 1 by omega, if_neg (by decide), if_pos (by decide)]
theorem tg2 (hq : q < 6) (bf c : Int32) : X6_textGoesOn (nI (1 + 6 * q + 2)) bf c = if (48 : Int) ≤ c.toInt ∧ c.toInt ≤ 54 then 1 else 0 := by
  rw [tg_eq (by omega) (by omega), show (1 + 6 * q + 2 - 1) % 6 = 2 by omega, if_neg (by decide), if_neg (by decide), if_pos (by decide), rng 48 54 48 54 t48 t54]
theorem tg3 (hq : q < 6) (bf c : Int32) : X6_textGoesOn (nI (1 + 6 * q + 3)) bf c = if (48 : Int) ≤ c.toInt ∧ c.toInt ≤ (if bf = 54 then 51 else 57) then 1 else 0 := by
  rw [tg_eq (by omega) (by omega), show (1 + 6 * q + 3 - 1) % 6 = 3 by omega, if_neg (by decide), if_neg (by decide), if_neg (by decide), if_pos (by decide)]
  by_cases hb : bf = 54
  · rw [if_pos hb, if_pos hb, rng 48 51 48 51 t48 t51]
  · rw [if_neg hb, if_neg hb, rng 48 57 48 57 t48 t57]
theorem tg4 (hq : q < 6) (bf c : Int32) : X6_textGoesOn (nI (1 + 6 * q + 4)) bf c = if (48 : Int) ≤ c.toInt ∧ c.toInt ≤ 54 then 1 else 0 := by
  rw [tg_eq (by omega) (by omega), show (1 + 6 * q + 4 - 1) % 6 = 4 by omega, if_neg (by decide), if_neg (by decide), if_neg (by decide), if_neg (by decide), if_pos (by decide), rng 48 54 48 54 t48 t54]
theorem tg5 (hq : q < 6) (bf c : Int32) : X6_textGoesOn (nI (1 + 6 * q + 5)) bf c = if (49 : Int) ≤ c.toInt ∧ c.toInt ≤ 57 then 1 else 0 := by
  rw [tg_eq (by omega) (by omega), show (1 + 6 * q + 5 - 1) % 6 = 5 by omega, if_neg (by decide), if_neg (by decide), if_neg (by decide), if_neg (by decide), if_neg (by decide), rng 49 57 49 57 t49 t57]
end TG
/-- the class's reading of one code -/
theorem xt_step {F n0 a b : Nat} {σ : Mem} {kk : Option Int32} {f j : Nat} {bf : Int32} (hj : j < b) (hb : a + b ≤ 60) : X6_firstFaultOfText_L5 F n0 (nI a) (nI b) σ kk (f + 1) bf (nI j) = if X6_textGoesOn (nI j) bf (σ (n0 + 4) (a + j)) = 0 then some (nI j) else X6_firstFaultOfText_L5 F n0 (nI a) (nI b) σ kk f (σ (n0 + 4) (a + j)) (nI (j + 1)) := by
  rw [X6_firstFaultOfText_L5, if_neg (nI_ge hj (by omega)), nI_add, grd_t (inb_nI (by omega) (by decide)), bnd, clN (by omega), nI_1]
theorem xt_end {F n0 a b : Nat} {σ : Mem} {kk : Option Int32} {f j : Nat} {bf : Int32} (hj : j = b) (hb : a + b ≤ 60) : X6_firstFaultOfText_L5 F n0 (nI a) (nI b) σ kk (f + 1) bf (nI j) = kk := by
  subst hj
  rw [X6_firstFaultOfText_L5, if_pos (nI_le (Nat.le_refl _) (by omega))]
/-- the codes of a person, and what the reference read there -/
def PB (cd : Nat → Int32) (q : Nat) (τ : Mem) : Prop := ∃ l d2 d3 d4 d5, l ≤ 2 ∧ cd (1 + 6 * q + 1) = (if l = 0 then 99 else if l = 1 then 115 else 116) ∧ cd (1 + 6 * q + 2) = nI (48 + d2) ∧ cd (1 + 6 * q + 3) = nI (48 + d3) ∧ cd (1 + 6 * q + 4) = nI (48 + d4) ∧ cd (1 + 6 * q + 5) = nI (48 + d5) ∧ 10 * d2 + d3 < 64 ∧ d4 ≤ 6 ∧ d5 ≤ 9 ∧ τ 5 q = nI l ∧ τ 6 q = nI (10 * d2 + d3) ∧ τ 7 q = nI d4 ∧ τ 8 q = nI d5
/-- what a reading leaves alone -/
def FrP (τ τ' : Mem) : Prop := (∀ k, k ≠ 0 → k ≠ 5 → k ≠ 6 → k ≠ 7 → k ≠ 8 → τ' k = τ k) ∧ ∀ j, j ≠ 6 → j ≠ 7 → τ' 0 j = τ 0 j
theorem FrP.r (τ : Mem) : FrP τ τ := ⟨fun _ _ _ _ _ _ => rfl, fun _ _ _ => rfl⟩
theorem FrP.t {a b c : Mem} (h : FrP a b) (g : FrP b c) : FrP a c := ⟨fun k h0 h1 h2 h3 h4 => (g.1 k h0 h1 h2 h3 h4).trans (h.1 k h0 h1 h2 h3 h4), fun j h1 h2 => (g.2 j h1 h2).trans (h.2 j h1 h2)⟩
theorem FrP.at6 (τ : Mem) (v : Int32) : FrP τ (u2 τ 0 6 v) := ⟨fun k h0 _ _ _ _ => u2_k _ _ _ h0, fun j h1 _ => u2_j _ _ _ h1⟩
