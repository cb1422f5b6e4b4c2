-- odds: what each childhood showed
theorem upd_s (f : Nat → Int32) (k : Nat) (v : Int32) : upd f k v k = v := by simp [upd]
theorem upd_n (f : Nat → Int32) {k j : Nat} (v : Int32) (h : j ≠ k) : upd f k v j = f j := by simp [upd, h]
theorem isIn_bit : ∀ z, z ≤ 6 → ∀ x, x < 64 → X7_isIn (nI x) (nI z) = if x.testBit z then 1 else 0 := by decide +kernel
theorem or_nI {x y : Nat} (hx : x < 64) (hy : y < 64) : nI x ||| nI y = nI (x ||| y) := by
  have h2 : ∀ x, x < 64 → ∀ y, y < 64 → (nI x ||| nI y).toInt = ((x ||| y : Nat) : Int) := by
    intro x hx y hy
    obtain ⟨z, hz, e⟩ := or_small x hx y hy
    have h3 : ((nI x ||| nI y).toBitVec.toNat) = x ||| y := by
      show (BitVec.ofNat 32 x ||| BitVec.ofNat 32 y).toNat = x ||| y
      rw [BitVec.toNat_or, BitVec.toNat_ofNat, BitVec.toNat_ofNat, Nat.mod_eq_of_lt (by omega), Nat.mod_eq_of_lt (by omega)]
    have h4 : ((nI z).toBitVec.toNat) = z := by
      show (BitVec.ofNat 32 z).toNat = z
      rw [BitVec.toNat_ofNat, Nat.mod_eq_of_lt (by omega)]
    rw [e] at h3
    rw [h4] at h3
    rw [e, t32 (by omega), h3]
  rw [i32_eq, h2 x hx y hy, t32 (by have := Nat.or_lt_two_pow (n := 6) hx hy; omega)]
theorem one_shl : ∀ c, c < 6 → (1 : Int32) <<< (nI c &&& 31) = nI (2 ^ c) ∧ 2 ^ c < 64 := by decide +kernel
def INV (n : Nat) (w : Nat → Int32) (sh cb : Nat → Int32) : Prop := ∀ p, p < n → (∃ y, y < 64 ∧ cb p = nI y) ∧ ∀ c, c < n → (∃ x, x < 64 ∧ sh (6 * p + c) = nI x) ∧ X7_isIn (cb p) (nI c) = X7_isIn (sh (6 * p + c)) (w p)
theorem show_INV {n : Nat} {w sh cb : Nat → Int32} {s : ES} (hn : n ≤ 6) (hw : ∀ p, p < n → ∃ z, z ≤ 6 ∧ w p = nI z) (hW : WF n s) (hI : INV n w sh cb) {a : Nat} (ha : a < n) : INV n w (shF s sh a) (seesC w s cb a) := by
  intro p hp
  obtain ⟨⟨y, hy, ey⟩, hc⟩ := hI p hp
  obtain ⟨ha1, ⟨v, hv, ev⟩, -⟩ := hW a ha
  obtain ⟨-, ⟨v, hv, ev⟩, -⟩ := hW _ ha1
  obtain ⟨z, hz, ez⟩ := hw p hp
  unfold seesC shF
  by_cases hpa : p = a
  · subst hpa
    rw [vup_s]
    obtain ⟨e1, e2⟩ := one_shl (s.1 p) (by omega)
    have hb : ∃ y2, y2 < 64 ∧ (if X7_isIn (s.2.1 (s.1 p)) (w p) = 0 then 0 else (1 : Int32) <<< (nI (s.1 p) &&& 31)) = nI y2 ∧ ∀ c, c < n → y2.testBit c = (decide (c = s.1 p) && v.testBit z) := by
      rw [ev, ez, isIn_bit z hz v hv]
      by_cases b : v.testBit z = true
      · rw [if_pos b, if_neg n10, e1]
        refine ⟨_, e2, rfl, fun c hc => ?_⟩
        rw [Nat.testBit_two_pow, b, Bool.and_true]
        exact decide_eq_decide.mpr eq_comm
      · rw [if_neg b, if_pos rfl]
        refine ⟨0, by decide, rfl, fun c hc => ?_⟩
        rw [Nat.zero_testBit, eq_false_of_ne_true b, Bool.and_false]
    obtain ⟨y2, hy2, ey2, hb2⟩ := hb
    rw [ey2, ey, or_nI hy hy2]
    have l1 : y ||| y2 < 64 := Nat.or_lt_two_pow (n := 6) hy hy2
    refine ⟨⟨_, l1, rfl⟩, fun c hcn => ?_⟩
    obtain ⟨⟨x, hx, ex⟩, hi⟩ := hc c hcn
    rw [ey, ex, ez, isIn_bit c (by omega) y hy, isIn_bit z hz x hx] at hi
    have hyx : y.testBit c = x.testBit z := by
      by_cases b1 : y.testBit c = true <;> by_cases b2 : x.testBit z = true
      · rw [b1, b2]
      · rw [if_pos b1, if_neg b2] at hi; exact absurd hi n10
      · rw [if_neg b1, if_pos b2] at hi; exact absurd hi.symm n10
      · rw [Bool.not_eq_true] at b1 b2; rw [b1, b2]
    by_cases hcs : c = s.1 p
    · subst hcs
      rw [upd_s, ex, ev, or_nI hx hv]
      have l2 : x ||| v < 64 := Nat.or_lt_two_pow (n := 6) hx hv
      refine ⟨⟨_, l2, rfl⟩, ?_⟩
      rw [ez, isIn_bit _ (by omega) _ l1, isIn_bit z hz _ l2, Nat.testBit_or, Nat.testBit_or, hb2 _ hcn, hyx, decide_eq_true rfl, Bool.true_and]
    · rw [upd_n _ _ (show 6 * p + c ≠ 6 * p + s.1 p by omega), ex]
      refine ⟨⟨x, hx, rfl⟩, ?_⟩
      rw [ez, isIn_bit _ (by omega) _ l1, isIn_bit z hz _ hx, Nat.testBit_or, hb2 _ hcn, hyx, decide_eq_false hcs, Bool.false_and, Bool.or_false]
  · rw [vup_n _ _ hpa]
    refine ⟨⟨y, hy, ey⟩, fun c hcn => ?_⟩
    rw [upd_n _ _ (show 6 * p + c ≠ 6 * a + s.1 a by omega)]
    exact hc c hcn
theorem play_INV {n m : Nat} {la w : Nat → Int32} {were all : Int32} {rw_ : Nat → Nat} (hn : n ≤ 6) (hw : ∀ p, p < n → ∃ z, z ≤ 6 ∧ w p = nI z) (hrw : ∀ j, j < 2 * m → rw_ j < n) : ∀ (r j : Nat) (T : PS), j + r ≤ m → WF n T.1 → INV n w T.2.1 T.2.2.1 → INV n w (playF n la w were all rw_ r j T).2.2.1 (playF n la w were all rw_ r j T).2.2.2.1 := by
  intro r
  induction r with
  | zero => intro j T _ _ h; exact h
  | succ r ih =>
    intro j T hj h hI
    rw [playF]
    split
    · exact hI
    · have hW1 := lendW_WF h la (hrw (2 * j) (by omega)) (hrw (2 * j + 1) (by omega))
      exact ih (j + 1) _ (by omega) (lend_WF h la (hrw _ (by omega)) (hrw _ (by omega))) (show_INV hn hw hW1 (show_INV hn hw hW1 hI (hrw _ (by omega))) (hrw _ (by omega)))
theorem INV0 {n : Nat} {w sc sh : Nat → Int32} (hn : n ≤ 6) (hw : ∀ p, p < n → ∃ z, z ≤ 6 ∧ w p = nI z) (hs : ∀ p, p < n → ∃ k, k < 64 ∧ sc p = nI k) (hsh : ∀ p c, p < n → c < n → sh (6 * p + c) = if p = c then sc p else 0) : INV n w sh (cb0 sc w) := by
  intro p hp
  obtain ⟨z, hz, ez⟩ := hw p hp
  obtain ⟨v, hv, ev⟩ := hs p hp
  obtain ⟨e1, e2⟩ := one_shl p (by omega)
  unfold cb0
  have h0 : ∀ c, c < n → X7_isIn 0 (nI c) = 0 := fun c hc => by
    have := isIn_bit c (by omega) 0 (by decide)
    rw [Nat.zero_testBit] at this
    exact this
  have hz0 : X7_isIn 0 (nI z) = 0 := by
    have := isIn_bit z hz 0 (by decide)
    rw [Nat.zero_testBit] at this
    exact this
  rw [ev, ez, isIn_bit z hz v hv]
  by_cases b : v.testBit z = true
  · rw [if_pos b, if_neg n10, e1]
    refine ⟨⟨_, e2, rfl⟩, fun c hc => ?_⟩
    rw [hsh p c hp hc]
    by_cases hpc : p = c
    · subst hpc
      rw [if_pos rfl, ev]
      refine ⟨⟨v, hv, rfl⟩, ?_⟩
      rw [isIn_bit z hz v hv, isIn_bit p (by omega) _ e2, if_pos b, Nat.testBit_two_pow, decide_eq_true rfl]; rfl
    · rw [if_neg hpc]
      refine ⟨⟨0, by decide, rfl⟩, ?_⟩
      rw [isIn_bit c (by omega) _ e2, Nat.testBit_two_pow, decide_eq_false hpc, hz0]; rfl
  · rw [if_neg b, if_pos rfl]
    refine ⟨⟨0, by decide, rfl⟩, fun c hc => ?_⟩
    rw [hsh p c hp hc, h0 c hc]
    by_cases hpc : p = c
    · rw [if_pos hpc, ev]
      exact ⟨⟨v, hv, rfl⟩, by rw [isIn_bit z hz v hv, if_neg b]⟩
    · rw [if_neg hpc]
      exact ⟨⟨0, by decide, rfl⟩, hz0.symm⟩
