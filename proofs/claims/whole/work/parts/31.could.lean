-- whether it could be so
theorem play_sh {n : Nat} {la w : Nat → Int32} {were were' all : Int32} {rw_ : Nat → Nat} : ∀ (r j : Nat) (T T' : PS), T.1 = T'.1 → (playF n la w were all rw_ r j T).1 = (playF n la w were' all rw_ r j T').1 ∧ (playF n la w were all rw_ r j T).2.1 = (playF n la w were' all rw_ r j T').2.1 := by
  intro r
  induction r with
  | zero => intro j T T' h; exact ⟨rfl, h⟩
  | succ r ih =>
    intro j T T' h
    rw [playF, playF, h]
    by_cases c : canI T'.1 (rw_ (2 * j)) (rw_ (2 * j + 1)) = 0
    · rw [if_pos c, if_pos c]; exact ⟨rfl, h⟩
    · rw [if_neg c, if_neg c]
      refine ih (j + 1) _ _ ?_
      unfold lendP
      dsimp only
      rw [h]
def rdV (τ : Mem) (kn : Nat → Int32) : Nat → Nat → Int32
  | 0, _ => 1
  | t + 1, j => if X7_isIn (kn (τ 16 j).toNatClampNeg) (τ 17 j) = τ 18 j then rdV τ kn t (j + 1) else 0
def cdV (n m r : Nat) (la w sc : Nat → Int32) (rw_ : Nat → Nat) (τ : Mem) : Int32 :=
  if (goP n m la w sc rw_ (fun _ => 0)).1 = -9 then rdV τ (goP n m la w sc rw_ (fun _ => 0)).2.1.2.2.2 r 0 else 0
theorem rdV_01 (τ : Mem) (kn : Nat → Int32) : ∀ t j, rdV τ kn t j = 0 ∨ rdV τ kn t j = 1 := by
  intro t
  induction t with
  | zero => intro j; exact Or.inr rfl
  | succ t ih =>
    intro j
    rw [rdV]
    split
    · exact ih _
    · exact Or.inl rfl
theorem xr_loop {F n r : Nat} {kn : Nat → Int32} {σ0 τ0 σ : Mem} (h : RelN n r σ0 τ0) (hσ : ∀ k, k < 28 ∨ 35 ≤ k → σ k = σ0 k) (hk : ∀ p, p < n → σ 33 p = kn p) : ∀ (f j : Nat), j ≤ r → r - j < f → X4_areSoIn_L2 F 28 σ f (nI j) = some (rdV τ0 kn (r - j) j) := by
  have hn := h.1.2.1
  have hr8 := h.1.2.2.1
  intro f
  induction f with
  | zero => intro j h1 h2; omega
  | succ f ih =>
    intro j h1 h2
    have h33 : σ 3 3 = nI r := by rw [hσ 3 (by omega)]; exact h.1.2.2.2.2.2.1
    rw [X4_areSoIn_L2, h33]
    by_cases c : j = r
    · subst c
      rw [if_pos (nI_le (Nat.le_refl _) (by omega)), Nat.sub_self]; rfl
    obtain ⟨⟨q, hq, e4, e16⟩, ⟨z, hz, e5, e17⟩, e6, e01⟩ := h.2.2.1 j (by omega)
    have es : r - j = (r - (j + 1)) + 1 := by omega
    have i8 := inb_nI (k := j) (N := 8) (by omega) (by decide)
    rw [if_neg (nI_ge (by omega) (by omega)), grd_t i8, clN (show j < 2 ^ 31 by omega), hσ 4 (by omega), e4, grd_t (inb_p hq hn), grd_t i8, hσ 5 (by omega), e5, clN (show q < 2 ^ 31 by omega), hσ 6 (by omega), e6, show σ (28 + 5) q = kn q from hk q hq, nI_1, es, rdV, e16, e17, clN (show q < 2 ^ 31 by omega), ih (j + 1) (by omega) (by omega)]
    unfold X7_isIn
    by_cases c1 : ((kn q >>> (nI z &&& 31)) &&& 1) = 1
    · rw [if_pos c1, if_pos c1, grd_t i8]
      by_cases c2 : (1 : Int32) = τ0 18 j
      · rw [if_pos c2, if_pos c2]
      · rw [if_neg c2, if_neg c2]
    · rw [if_neg c1, if_neg c1, grd_t i8]
      by_cases c2 : (0 : Int32) = τ0 18 j
      · rw [if_pos c2, if_pos c2]
      · rw [if_neg c2, if_neg c2]
theorem x_could {F n r m p : Nat} {rw_ : Nat → Nat} {σ0 τ0 σ : Mem} (hF0 : 50000 ≤ F) (h : RelN n r σ0 τ0) (hσ : ∀ k, k < 28 ∨ 35 ≤ k → σ k = σ0 k) (hp : p < n) (hm : m ≤ 20) (hrw : ∀ j, j < 2 * m → rw_ j < n ∧ σ0 13 j = nI (rw_ j)) (v l : Int32) :
    ∃ σ', X6_couldBe F (nI p) v l (nI m) σ = some (cdV n m r (va_up (laF σ0) p l) (wF σ0) (va_up (scF σ0) p v) rw_ τ0, σ') ∧ ∀ k, k < 28 ∨ 35 ≤ k → σ' k = σ0 k := by
  have hn := h.1.2.1
  unfold X6_couldBe
  have h07 : σ 0 7 = nI n := by rw [hσ 0 (by omega)]; exact h.1.2.2.2.1
  obtain ⟨σ1, e1, hR1, f1, g1⟩ := x_begin (F := F) (e := 28) (σ := σ) hF0 hn (by decide)
  have hR1' : RX 28 n (laF σ0) (s0M (scF σ0)) σ1 := hR1.congr (fun q hq => by
    have e : σ (22 + q) = σ0 (22 + q) := hσ (22 + q) (by omega)
    unfold laF s0F s0M scF X3_lasts
    dsimp only
    rw [e]
    exact ⟨rfl, rfl, rfl, rfl, rfl⟩)
  obtain ⟨σ2, e2, hR2, f2, g2⟩ := x_place hn hR1' hp v l
  obtain ⟨σ3, e3, hR3, g3, f3⟩ := x_play (F := F) (e := 28) (la := va_up (laF σ0) p l) (w := wF σ0) (were := if mskF (mdI (wF σ0) (s0M (va_up (scF σ0) p v))) n = allI n then 1 else 0) (all := allI n) hn (by decide) hm (fun j hj => (hrw j hj).1) F 0 (s0M (va_up (scF σ0) p v), σ2 34, cb0 (va_up (scF σ0) p v) (wF σ0), -9) σ2 (by omega) (by omega) hR2 rfl (fun i hi => by rw [f2 13 (by omega), f1 13 (by omega), hσ 13 (by omega)]; exact (hrw i hi).2)
  rw [nI_0] at e3
  have f4 : ∀ k, k < 28 ∨ 35 ≤ k → σ3 k = σ0 k := fun k hk => (f3 k (by omega)).trans ((f2 k (by omega)).trans ((f1 k (by omega)).trans (hσ k hk)))
  obtain ⟨s1, s2⟩ := play_sh (n := n) (la := va_up (laF σ0) p l) (w := wF σ0) (were := if mskF (mdI (wF σ0) (s0M (va_up (scF σ0) p v))) n = allI n then 1 else 0) (were' := if mskF (mdI (wF σ0) (s0M (va_up (scF σ0) p v))) n = allI n then 1 else 0) (all := allI n) (rw_ := rw_) m 0 (s0M (va_up (scF σ0) p v), σ2 34, cb0 (va_up (scF σ0) p v) (wF σ0), -9) (s0M (va_up (scF σ0) p v), fun _ => 0, cb0 (va_up (scF σ0) p v) (wF σ0), -9) rfl
  rw [Nat.sub_zero, s1] at e3
  rw [Nat.sub_zero, s2] at hR3
  rw [h07, e1, ob_e, e2, ob_e]
  unfold X0_play
  rw [e3, ob_e]
  unfold cdV goP
  dsimp only
  generalize hP : playF n (va_up (laF σ0) p l) (wF σ0) (if mskF (mdI (wF σ0) (s0M (va_up (scF σ0) p v))) n = allI n then 1 else 0) (allI n) rw_ m 0 (s0M (va_up (scF σ0) p v), fun _ => 0, cb0 (va_up (scF σ0) p v) (wF σ0), -9) = P at hR3 ⊢
  by_cases c : P.1 = -9
  · rw [if_pos c, if_pos c]
    have e5 := xr_loop (F := F) (kn := P.2.1.2.2.2) h f4 (fun p hp => (hR3.2.1 p hp).2.2.2) F 0 (by omega) (by have := h.1.2.2.1; omega)
    rw [nI_0, Nat.sub_zero] at e5
    unfold X4_areSoIn
    rw [e5, ob_e]
    rcases rdV_01 τ0 P.2.1.2.2.2 r 0 with d | d
    · rw [d, if_pos rfl]; exact ⟨σ3, rfl, f4⟩
    · rw [d, if_neg n10]; exact ⟨σ3, rfl, f4⟩
  · rw [if_neg c, if_neg c]
    exact ⟨σ3, rfl, f4⟩
theorem mr_zero {F r : Nat} {τ : Mem} (hr : r ≤ 8) (h21 : τ 0 21 = nI r) : ∀ (f j : Nat), j ≤ r → r - j < f → X7_areSo_L22 F τ f 0 (nI j) = some (0, τ) := by
  intro f
  induction f with
  | zero => intro j h1 h2; omega
  | succ f ih =>
    intro j h1 h2
    rw [X7_areSo_L22, h21]
    by_cases c : j = r
    · subst c
      rw [if_pos (nI_le (Nat.le_refl _) (by omega)), grd_t (by decide)]
    · rw [if_neg (nI_ge (by omega) (by omega)), if_pos rfl, nI_1]
      exact ih (j + 1) (by omega) (by omega)
theorem mr_loop {F n r : Nat} {kn : Nat → Int32} {σ0 τ0 τ : Mem} (h : RelN n r σ0 τ0) (h21 : τ 0 21 = nI r) (h16 : τ 16 = τ0 16 ∧ τ 17 = τ0 17 ∧ τ 18 = τ0 18) (hk : ∀ p, p < n → τ 12 p = kn p) : ∀ (f j : Nat), j ≤ r → r - j < f → X7_areSo_L22 F τ f 1 (nI j) = some (rdV τ0 kn (r - j) j, τ) := by
  have hn := h.1.2.1
  have hr8 := h.1.2.2.1
  intro f
  induction f with
  | zero => intro j h1 h2; omega
  | succ f ih =>
    intro j h1 h2
    rw [X7_areSo_L22, h21]
    by_cases c : j = r
    · subst c
      rw [if_pos (nI_le (Nat.le_refl _) (by omega)), grd_t (by decide), Nat.sub_self]; rfl
    obtain ⟨⟨q, hq, e4, e16⟩, ⟨z, hz, e5, e17⟩, e6, e01⟩ := h.2.2.1 j (by omega)
    have es : r - j = (r - (j + 1)) + 1 := by omega
    have i8 := inb_nI (k := j) (N := 8) (by omega) (by decide)
    rw [if_neg (nI_ge (by omega) (by omega)), if_neg n10, grd_t i8, clN (show j < 2 ^ 31 by omega), h16.1, h16.2.1, h16.2.2, e16, grd_t (inb_p hq hn), grd_t i8, grd_t i8, clN (show q < 2 ^ 31 by omega), hk q hq, nI_1, es, rdV, e16, clN (show q < 2 ^ 31 by omega)]
    by_cases c1 : X7_isIn (kn q) (τ0 17 j) = τ0 18 j
    · rw [if_pos c1, if_pos c1]
      exact ih (j + 1) (by omega) (by omega)
    · rw [if_neg c1, if_neg c1]
      exact mr_zero hr8 h21 f (j + 1) (by omega) (by omega)
theorem m_could {F n r m fr : Nat} {la w sc : Nat → Int32} {rw_ : Nat → Nat} {σ0 τ0 τ : Mem} (hF0 : 50000 ≤ F) (h : RelN n r σ0 τ0) (hm : m ≤ 20) (hfr : fr + 2 * m ≤ 240) (h1 : τ 0 1 = nI n) (h21 : τ 0 21 = nI r) (h16 : τ 16 = τ0 16 ∧ τ 17 = τ0 17 ∧ τ 18 = τ0 18) (h2 : ∀ p, p < n → τ 2 p = sc p ∧ τ 3 p = w p ∧ X7_lastsOf (nI p) τ = some (la p)) (hrw : ∀ j, j < 2 * m → rw_ j < n ∧ τ 21 (fr + j) = nI (rw_ j)) :
    ∃ τ', X7_areSo F (nI fr) (nI m) τ = some (cdV n m r la w sc rw_ τ0, τ') ∧ (∀ k, k ≠ 0 → (k < 9 ∨ 14 ≤ k) → τ' k = τ k) ∧ (∀ i, i ≠ 17 → i ≠ 18 → τ' 0 i = τ 0 i) := by
  have hn := h.1.2.1
  have hr8 := h.1.2.2.1
  unfold X7_areSo cdV
  obtain ⟨τ1, e1, hR1, g17, g18, f1, f2⟩ := m_go (F := F) (fr := fr) (la := la) (w := w) (sc := sc) (τ := τ) (fun _ => 0) hF0 hn hm hfr (fun j hj => (hrw j hj).1) h1 h2 (fun i hi => (hrw i hi).2)
  have i21 : τ1 0 21 = nI r := by rw [f2 21 (by decide) (by decide)]; exact h21
  rw [e1, ob_e, g17]
  rcases play_res (n := n) (la := la) (w := w) (were := if mskF (mdI w (s0M sc)) n = allI n then 1 else 0) (all := allI n) (rw_ := rw_) m 0 (s0M sc, fun _ => 0, cb0 sc w, -9) with q | ⟨i, hi, q⟩
  · have q' : (goP n m la w sc rw_ (fun _ => 0)).1 = -9 := q
    rw [q', if_neg (by decide), if_pos rfl]
    have e5 := mr_loop (F := F) (kn := (goP n m la w sc rw_ (fun _ => 0)).2.1.2.2.2) (τ := τ1) h i21 ⟨by rw [f1 16 (by decide) (by omega)]; exact h16.1, by rw [f1 17 (by decide) (by omega)]; exact h16.2.1, by rw [f1 18 (by decide) (by omega)]; exact h16.2.2⟩ (fun p hp => (hR1.2.1 p hp).2.2.1) F 0 (by omega) (by omega)
    rw [nI_0, Nat.sub_zero] at e5
    exact ⟨τ1, e5, f1, f2⟩
  · have q' : (goP n m la w sc rw_ (fun _ => 0)).1 = nI i := q
    have hm1 := m100 i (by omega)
    rw [q', if_pos (show (0 : Int32) ≤ nI i from nI_le (Nat.zero_le i) (by omega)), if_neg hm1.1]
    have e5 := mr_zero (F := F) (τ := τ1) hr8 i21 F 0 (by omega) (by omega)
    rw [nI_0] at e5
    exact ⟨τ1, e5, f1, f2⟩
