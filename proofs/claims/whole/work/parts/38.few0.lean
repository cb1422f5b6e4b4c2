-- rows of loans that mend: the pure side
def mkN (g : Nat → Int32) : Nat → Nat
  | 0 => 0
  | p + 1 => if g p = 0 then mkN g p else mkN g p ||| 2 ^ p
theorem mkN_lt (g : Nat → Int32) : ∀ n, mkN g n < 2 ^ n := by
  intro n
  induction n with
  | zero => exact Nat.one_pos
  | succ n ih =>
    have h : 2 ^ n < 2 ^ (n + 1) := Nat.pow_lt_pow_right (by decide) (by omega)
    rw [mkN]
    split
    · omega
    · exact Nat.or_lt_two_pow (by omega) h
theorem mkN_eq (g : Nat → Int32) : ∀ n, n ≤ 6 → mskF g n = nI (mkN g n) := by
  intro n
  induction n with
  | zero => intro _; rfl
  | succ n ih =>
    intro h
    have h1 := mkN_lt g n
    have h2 := two_le (show n ≤ 6 by omega)
    rw [mskF, mkN, ih (by omega)]
    by_cases c : g n = 0
    · rw [if_pos c, if_pos c]
    · rw [if_neg c, if_neg c, or_shl (by omega) (by omega)]
theorem mkN_bit (g : Nat → Int32) (c : Nat) : ∀ n, (mkN g n).testBit c = (decide (c < n) && !decide (g c = 0)) := by
  intro n
  induction n with
  | zero => rw [mkN, Nat.zero_testBit, decide_eq_false (Nat.not_lt_zero c), Bool.false_and]
  | succ n ih =>
    rw [mkN]
    by_cases e : c = n
    · subst e
      rw [decide_eq_false (Nat.lt_irrefl c), Bool.false_and] at ih
      rw [decide_eq_true (show c < c + 1 by omega), Bool.true_and]
      by_cases q : g c = 0
      · rw [if_pos q, ih, decide_eq_true q]; rfl
      · rw [if_neg q, Nat.testBit_or, ih, Nat.testBit_two_pow, decide_eq_true rfl, decide_eq_false q]; rfl
    · have e2 : decide (c < n + 1) = decide (c < n) := decide_eq_decide.mpr (by omega)
      rw [e2]
      by_cases q : g n = 0
      · rw [if_pos q, ih]
      · rw [if_neg q, Nat.testBit_or, ih, Nat.testBit_two_pow, decide_eq_false (show ¬ n = c by omega), Bool.or_false]
def nd (S M : Nat) : Nat := S &&& (63 - M)
theorem nd_eq : ∀ S, S < 64 → ∀ M, M < 64 → nI S &&& (nI M ^^^ (-1)) = nI (nd S M) := by decide +kernel
theorem nd_lt {S M : Nat} (hS : S < 64) : nd S M < 64 := Nat.lt_of_le_of_lt Nat.and_le_left hS
theorem c63_bit : ∀ c, c < 6 → ∀ M, M < 64 → (63 - M).testBit c = !M.testBit c := by decide +kernel
theorem nd_bit {S M c : Nat} (hS : S < 64) (hM : M < 64) : (nd S M).testBit c = (S.testBit c && !M.testBit c) := by
  by_cases h : c < 6
  · unfold nd
    rw [Nat.testBit_and, c63_bit c h M hM]
  · have h1 : S.testBit c = false := Nat.testBit_lt_two_pow (Nat.lt_of_lt_of_le hS (show 2 ^ 6 ≤ 2 ^ c from Nat.pow_le_pow_right (by decide) (by omega)))
    have h2 : (nd S M).testBit c = false := Nat.testBit_lt_two_pow (Nat.lt_of_lt_of_le (nd_lt hS) (show 2 ^ 6 ≤ 2 ^ c from Nat.pow_le_pow_right (by decide) (by omega)))
    rw [h1, h2, Bool.false_and]
theorem pc_two {x y a b : Nat} (hx : x < 64) (hy : y < 64) (ha : a < 6) (hb : b < 6) (h : ∀ c, c ≠ a → c ≠ b → x.testBit c = y.testBit c) : pc x ≤ pc y + 2 := by
  have e : x ||| 2 ^ a ||| 2 ^ b = y ||| 2 ^ a ||| 2 ^ b := by
    apply Nat.eq_of_testBit_eq
    intro c
    rw [Nat.testBit_or, Nat.testBit_or, Nat.testBit_or, Nat.testBit_or, Nat.testBit_two_pow, Nat.testBit_two_pow]
    by_cases c1 : c = a
    · rw [decide_eq_true c1.symm, Bool.or_true, Bool.or_true]
    · by_cases c2 : c = b
      · rw [decide_eq_true c2.symm, Bool.or_true, Bool.or_true]
      · rw [h c c1 c2]
  have l1 : x ||| 2 ^ a < 64 := Nat.or_lt_two_pow (n := 6) hx (Nat.pow_lt_pow_right (by decide) ha)
  have l2 : y ||| 2 ^ a < 64 := Nat.or_lt_two_pow (n := 6) hy (Nat.pow_lt_pow_right (by decide) ha)
  have q1 := pc_or a ha x hx
  have q2 := pc_or b hb _ l1
  have q3 := pc_or a ha y hy
  have q4 := pc_or b hb _ l2
  rw [e] at q2
  have t1 : ∀ z c : Nat, (if z.testBit c then 0 else 1) ≤ 1 := fun z c => by split <;> omega
  have := t1 y a
  have := t1 (y ||| 2 ^ a) b
  omega
def vld (n : Nat) (s : ES) (d : Nat) : Bool := decide (d / 6 < d % 6 ∧ d % 6 < n ∧ ¬ canI s (d / 6) (d % 6) = 0)
theorem vld_t {n : Nat} {s : ES} {d : Nat} (h : vld n s d = true) : d / 6 < d % 6 ∧ d % 6 < n ∧ ¬ canI s (d / 6) (d % 6) = 0 := of_decide_eq_true h
theorem vld_f {n : Nat} {s : ES} {d : Nat} (h : ¬ (d / 6 < d % 6 ∧ d % 6 < n ∧ ¬ canI s (d / 6) (d % 6) = 0)) : ¬ vld n s d = true := fun q => h (of_decide_eq_true q)
theorem vld_m {n : Nat} {s : ES} {d : Nat} (h : d / 6 < d % 6 ∧ d % 6 < n ∧ ¬ canI s (d / 6) (d % 6) = 0) : vld n s d = true := decide_eq_true h
def tst (n : Nat) (la w : Nat → Int32) (S : Nat) : Nat → ES → Nat → Bool
  | 0, s, _ => decide (nd S (mkN (mdI w s) n) = 0)
  | r + 1, s, u => if vld n s (u / 36 ^ r % 36) then tst n la w S r (lendF la s (u / 36 ^ r % 36 / 6) (u / 36 ^ r % 36 % 6)) (u % 36 ^ r) else false
theorem tst_step {n : Nat} {la w : Nat → Int32} {S r d u : Nat} {s : ES} (hd : d < 36) (hu : u < 36 ^ r) : tst n la w S (r + 1) s (d * 36 ^ r + u) = if vld n s d then tst n la w S r (lendF la s (d / 6) (d % 6)) u else false := by
  have e1 : (d * 36 ^ r + u) % 36 ^ r = u := by rw [Nat.mul_comm, Nat.mul_add_mod, Nat.mod_eq_of_lt hu]
  have e2 : (d * 36 ^ r + u) / 36 ^ r = d := by
    rw [Nat.mul_comm, Nat.mul_add_div (by omega), Nat.div_eq_of_lt hu, Nat.add_zero]
  rw [tst, e1, e2, Nat.mod_eq_of_lt hd]
theorem lend_kn (la : Nat → Int32) (s : ES) {a b p : Nat} (ha : p ≠ a) (hb : p ≠ b) : (lendF la s a b).2.2.2 p = s.2.2.2 p := by
  unfold lendF showF
  dsimp only
  rw [vup_n _ _ hb, vup_n _ _ ha]
  rfl
theorem prune {n : Nat} {la w : Nat → Int32} {S : Nat} (hn : n ≤ 6) (hS : S < 64) : ∀ r s u, tst n la w S r s u = true → pc (nd S (mkN (mdI w s) n)) ≤ 2 * r := by
  have h64 := two_le hn
  intro r
  induction r with
  | zero =>
    intro s u h
    rw [tst] at h
    rw [of_decide_eq_true h]
    decide
  | succ r ih =>
    intro s u h
    rw [tst] at h
    by_cases v : vld n s (u / 36 ^ r % 36) = true
    · rw [if_pos v] at h
      have q := ih _ _ h
      generalize u / 36 ^ r % 36 = d at v q
      obtain ⟨v1, v2, v3⟩ := vld_t v
      have l1 := mkN_lt (mdI w s) n
      have l2 := mkN_lt (mdI w (lendF la s (d / 6) (d % 6))) n
      have := pc_two (x := nd S (mkN (mdI w s) n)) (y := nd S (mkN (mdI w (lendF la s (d / 6) (d % 6))) n)) (a := d / 6) (b := d % 6) (nd_lt hS) (nd_lt hS) (by omega) (by omega) (fun c c1 c2 => by
        rw [nd_bit hS (by omega), nd_bit hS (by omega), mkN_bit, mkN_bit]
        have e : mdI w (lendF la s (d / 6) (d % 6)) c = mdI w s c := by
          unfold mdI
          rw [lend_kn la s c1 c2]
        rw [e])
      omega
    · rw [if_neg v] at h
      exact absurd h (by decide)
theorem tst_bad {n : Nat} {la w : Nat → Int32} {S r d : Nat} {s : ES} (hd : d < 36) (hv : ¬ vld n s d = true) : ∀ u, u < 36 ^ r → tst n la w S (r + 1) s (d * 36 ^ r + u) = false := by
  intro u hu
  rw [tst_step hd hu, if_neg hv]
theorem dec36 {u r : Nat} (hu : u < 36 ^ (r + 1)) : u = u / 36 ^ r * 36 ^ r + u % 36 ^ r ∧ u / 36 ^ r < 36 ∧ u % 36 ^ r < 36 ^ r := by
  have hN : 0 < 36 ^ r := Nat.pow_pos (by decide)
  refine ⟨?_, ?_, Nat.mod_lt _ hN⟩
  · rw [Nat.mul_comm]; exact (Nat.div_add_mod u (36 ^ r)).symm
  · rw [Nat.div_lt_iff_lt_mul hN, Nat.mul_comm 36, ← Nat.pow_succ]; exact hu
