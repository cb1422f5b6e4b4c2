-- numbers and memory, plain
theorem inb_nI {k N : Nat} (h : k < N) (hN : N < 2 ^ 31) : inb (nI k) N = true := by
  have h1 := vp_in_nI h hN
  unfold vp_in at h1
  unfold inb
  simp only [Bool.not_eq_true', Bool.or_eq_false_iff, decide_eq_false_iff_not]
  exact ⟨fun a => h1 (Or.inl a), fun a => h1 (Or.inr a)⟩
theorem grd_t {α : Type} {b : Bool} {x : Option α} (h : b = true) : grd b x = x := by simp [grd, h]
theorem u1_s (σ : Mem) (k : Nat) (f : Nat → Int32) : u1 σ k f k = f := by simp [u1]
theorem u1_n (σ : Mem) {k k2 : Nat} (f : Nat → Int32) (h : k2 ≠ k) : u1 σ k f k2 = σ k2 := by simp [u1, h]
theorem u2_s (σ : Mem) (k j : Nat) (v : Int32) : u2 σ k j v k j = v := by simp [u2, u1, upd]
theorem u2_k (σ : Mem) {k k2 : Nat} (j : Nat) (v : Int32) (h : k2 ≠ k) : u2 σ k j v k2 = σ k2 := by simp [u2, u1, h]
theorem u2_j (σ : Mem) (k : Nat) {j j2 : Nat} (v : Int32) (h : j2 ≠ j) : u2 σ k j v k j2 = σ k j2 := by simp [u2, u1, upd, h]
theorem u2_at (σ : Mem) (k j : Nat) (v : Int32) (k2 j2 : Nat) : u2 σ k j v k2 j2 = if k2 = k ∧ j2 = j then v else σ k2 j2 := by
  by_cases h : k2 = k
  · subst h
    by_cases h2 : j2 = j
    · subst h2; simp [u2_s]
    · simp [u2_j, h2]
  · simp [u2_k, h]
theorem i32_lt (a b : Int32) : a < b ↔ a.toInt < b.toInt := Int32.lt_iff_toInt_lt
theorem i32_le (a b : Int32) : a ≤ b ↔ a.toInt ≤ b.toInt := Int32.le_iff_toInt_le
theorem i32_eq (a b : Int32) : a = b ↔ a.toInt = b.toInt := Int32.toInt_inj.symm
theorem i64_of (a : Int32) : a.toInt64.toInt = a.toInt := by simp
theorem lgc_lt (x y : Int64) : lg_cmp x y < 0 ↔ x.toInt < y.toInt := by
  unfold lg_cmp
  simp only [gt_iff_lt, Int64.lt_iff_toInt_lt, ← Int64.toInt_inj]
  split
  · constructor
    · intro h; exact absurd h (by decide)
    · intro h; omega
  · split
    · constructor
      · intro h; exact absurd h (by decide)
      · intro h; omega
    · constructor
      · intro _; omega
      · intro _; decide
theorem lgc_gt (x y : Int64) : 0 < lg_cmp x y ↔ y.toInt < x.toInt := by
  unfold lg_cmp
  simp only [gt_iff_lt, Int64.lt_iff_toInt_lt, ← Int64.toInt_inj]
  split
  · constructor
    · intro h; assumption
    · intro h; decide
  · split
    · constructor
      · intro h; exact absurd h (by decide)
      · intro h; omega
    · constructor
      · intro h; exact absurd h (by decide)
      · intro h; omega
theorem lgc_le (x y : Int64) : lg_cmp x y ≤ 0 ↔ x.toInt ≤ y.toInt := by
  have h := lgc_gt x y
  rw [i32_lt] at h
  rw [i32_le]
  have h0 : (0 : Int32).toInt = 0 := by decide
  rw [h0] at h ⊢
  constructor
  · intro a; have := mt h.mpr; omega
  · intro a; have := mt h.mp; omega
theorem lgc_ge (x y : Int64) : 0 ≤ lg_cmp x y ↔ y.toInt ≤ x.toInt := by
  have h := lgc_lt x y
  rw [i32_lt] at h
  rw [i32_le]
  have h0 : (0 : Int32).toInt = 0 := by decide
  rw [h0] at h ⊢
  constructor
  · intro a; have := mt h.mpr; omega
  · intro a; have := mt h.mp; omega
theorem X7_in_iff (x y z : Int64) : X7_in x y z = if y.toInt ≤ x.toInt ∧ x.toInt ≤ z.toInt then 1 else 0 := by
  unfold X7_in
  by_cases h1 : lg_cmp x y < 0
  · rw [if_pos h1, if_neg (by rw [lgc_lt] at h1; omega)]
  · rw [if_neg h1]
    by_cases h2 : 0 < lg_cmp x z
    · rw [if_pos h2, if_neg (by rw [lgc_gt] at h2; omega)]
    · rw [if_neg h2, if_pos (by rw [lgc_lt] at h1; rw [lgc_gt] at h2; omega)]
/-- a number in a range, as nI -/
theorem nI_ex {v : Int32} {N : Nat} (h0 : 0 ≤ v.toInt) (h1 : v.toInt < N) : ∃ k, k < N ∧ v = nI k := by
  have hv : v.toInt < 2 ^ 31 := by have := Int32.toInt_lt v; omega
  refine ⟨v.toInt.toNat, by omega, ?_⟩
  rw [i32_eq, nI_toInt (by omega)]
  omega
theorem t32 {k : Nat} (h : k < 2 ^ 31) : (nI k).toInt = (k : Int) := nI_toInt h
theorem clN {k : Nat} (h : k < 2 ^ 31) : (nI k).toNatClampNeg = k := nI_clamp h
theorem nI_inj {a b : Nat} (ha : a < 2 ^ 31) (hb : b < 2 ^ 31) (h : nI a = nI b) : a = b := (nI_eq ha hb).mp h
theorem m2_nI (j : Nat) : (2 : Int32) * nI j = nI (2 * j) := pk_mul 2 j
theorem m6_nI (j : Nat) : (6 : Int32) * nI j = nI (6 * j) := pk_mul 6 j
theorem m60_nI (j : Nat) : (60 : Int32) * nI j = nI (60 * j) := pk_mul 60 j
theorem m10_nI (j : Nat) : (10 : Int32) * nI j = nI (10 * j) := pk_mul 10 j
