-- the row of loans; the whole play from the beginning
theorem dbl64 : ∀ m, m ≤ 20 → ((2 : Int64) * (nI m).toInt64).toInt = (nI (2 * m)).toInt := by decide +kernel
theorem noPerson_f (v x : Int32) (τ : Mem) : X7_noPerson v (u2 τ 0 0 x) = X7_noPerson v τ := by
  unfold X7_noPerson
  rw [u2_j _ _ _ (show 1 ≠ 0 by decide)]
theorem RelN.x13 {n r : Nat} {σ τ : Mem} (h : RelN n r σ τ) (j : Nat) (v : Int32) : RelN n r (u2 σ 13 j v) τ :=
  h.frame (fun k hk => u2_k _ _ _ (by omega)) (fun _ _ => rfl) ⟨rfl, rfl, rfl, rfl⟩
theorem row_loop {F n r k a c m : Nat} {τ : Mem} {k57 k69 : Option (Int32 × Mem)} (hk : k < 4) (hm : m ≤ 20) (hac : a + 2 * m ≤ c) (hc : c ≤ 60) : ∀ (f j : Nat) (σ : Mem), j ≤ 2 * m → 2 * m - j < f → RelN n r σ (u2 τ 0 0 0) → (∀ x, x < c → σ (14 + k + 4) x = τ 21 (60 * k + x)) → (∀ i, i < j → σ 13 i = τ 21 (60 * k + a + i) ∧ ∃ p, p < n ∧ τ 21 (60 * k + a + i) = nI p) →
    (∃ σ', X6_takeRow_L32 F (nI k) (nI a) (nI m) f (nI j) σ = some (-1, σ') ∧ X7_pairsBarred_L27 F (nI k) (nI a) (nI m) τ k69 k57 f (nI j) = k57 ∧ RelN n r σ' (u2 τ 0 0 0)) ∨
    (∃ σ', X6_takeRow_L32 F (nI k) (nI a) (nI m) f (nI j) σ = some (0, σ') ∧ X7_pairsBarred_L27 F (nI k) (nI a) (nI m) τ k69 k57 f (nI j) = k69 ∧ RelN n r σ' (u2 τ 0 0 0) ∧ ∀ i, i < 2 * m → σ' 13 i = τ 21 (60 * k + a + i) ∧ ∃ p, p < n ∧ τ 21 (60 * k + a + i) = nI p) := by
  intro f
  induction f with
  | zero => intro j σ h1 h2; omega
  | succ f ih =>
    intro j σ h1 h2 hR hcl hold
    rw [X6_takeRow_L32, X7_pairsBarred_L27, m2_nI, m60_nI, nI_add, nI_add, nI_add, nI_1]
    by_cases e : j = 2 * m
    · subst e
      rw [if_pos (nI_le (Nat.le_refl _) (by omega)), if_pos (nI_le (Nat.le_refl _) (by omega))]
      exact Or.inr ⟨σ, rfl, rfl, hR, hold⟩
    have i1 := inb_nI (k := a + j) (N := 60) (by omega) (by decide)
    have i2 := inb_nI (k := 60 * k + a + j) (N := 240) (by omega) (by decide)
    have i3 := inb_nI (k := j) (N := 40) (by omega) (by decide)
    have hv : σ (14 + k + 4) (a + j) = τ 21 (60 * k + a + j) := by rw [hcl _ (by omega)]; congr 1; omega
    rw [if_neg (nI_ge (by omega) (by omega)), if_neg (nI_ge (by omega) (by omega)), grd_t (inb_k hk), grd_t i1, bnd_e, grd_t i2, clN (show k < 2 ^ 31 by omega), clN (show a + j < 2 ^ 31 by omega), clN (show 60 * k + a + j < 2 ^ 31 by omega), hv]
    rcases isPerson_cases hR (τ 21 (60 * k + a + j)) with ⟨x, y⟩ | ⟨p, hp, ep, x, y⟩
    · rw [noPerson_f] at y
      rw [x, y, if_pos rfl, if_neg n10]
      exact Or.inl ⟨σ, rfl, rfl, hR⟩
    · rw [noPerson_f] at y
      rw [x, y, if_neg n10, if_pos rfl, grd_t i3, bnd_e, clN (show j < 2 ^ 31 by omega)]
      refine ih (j + 1) _ (by omega) (by omega) (hR.x13 _ _) (fun x hx => ?_) (fun i hi => ?_)
      · rw [u2_k _ _ _ (show 14 + k + 4 ≠ 13 by omega)]; exact hcl x hx
      · by_cases hij : i = j
        · subst hij
          rw [u2_s]; exact ⟨rfl, p, hp, ep⟩
        · rw [u2_j _ _ _ hij]; exact hold i (by omega)
theorem u2_09 (σ : Mem) (v w : Int32) : u2 (u2 σ 0 9 v) 0 9 w = u2 σ 0 9 w := u2_u2 σ 0 9 v w
theorem row_eq {F n r k m : Nat} {σ τ : Mem} (hF0 : 50000 ≤ F) (hk : k < 4) (hm : m ≤ 20) (ln i : Int32) (h : RelN n r σ τ) :
    (∃ z σ' τ', X6_takeRow F (nI k) ln i (nI m) (u2 σ 0 9 0) = some (z, σ') ∧ X7_pairsBarred F (nI k) ln i (nI m) τ = some (z, τ') ∧ ¬ z = 0 ∧ ¬ 0 ≤ z ∧ RelN n r σ' τ') ∨
    (∃ σ' τ' fr, (60 : Int32) * nI k + i = nI fr ∧ fr + 2 * m ≤ 240 ∧ X6_takeRow F (nI k) ln i (nI m) (u2 σ 0 9 0) = some (0, σ') ∧ X7_pairsBarred F (nI k) ln i (nI m) τ = some (0, τ') ∧ RelN n r σ' τ' ∧ ∃ rw_ : Nat → Nat, ∀ j, j < 2 * m → rw_ j < n ∧ σ' 13 j = nI (rw_ j) ∧ τ' 21 (fr + j) = nI (rw_ j)) := by
  have hF := h.fault 0
  have hS : RShe k (u2 σ 0 9 0) τ := by
    have := h.2.2.2 k hk
    unfold RShe at this ⊢
    rw [u2_k _ _ _ (show 14 + k ≠ 0 by omega), u2_k _ _ _ (show 14 + k + 4 ≠ 0 by omega)]
    exact this
  unfold X6_takeRow X7_pairsBarred
  rw [grd_t (inb_k hk), bnd_e, clN (show k < 2 ^ 31 by omega), m2_nI]
  rcases cells_eq hk hS ln i (nI (2 * m)) ((2 : Int64) * (nI m).toInt64) (dbl64 m hm) with ⟨q1, q2, a, b, c, rfl, eb, hac, hc, q3, q4, q5⟩ | ⟨f, ⟨f1, f2⟩, q1, q2⟩
  · have eb2 : 2 * m = b := nI_inj (by omega) (by omega) eb
    subst eb2
    rw [q1, q2, if_pos rfl, ob_e, if_pos (show (0 : Int32) ≤ 0 by decide)]
    rcases row_loop (F := F) (n := n) (r := r) (τ := τ) (k57 := some ((X7_refused (-1 : Int32) τ).1, (X7_refused (-1 : Int32) τ).2)) (k69 := some ((X7_refused (0 : Int32) τ).1, (X7_refused (0 : Int32) τ).2)) hk hm hac hc F 0 (u2 σ 0 9 0) (by omega) (by omega) hF q5 (fun i hi => absurd hi (by omega)) with ⟨σ', e1, e2, hR⟩ | ⟨σ', e1, e2, hR, hrow⟩
    · rw [nI_0] at e1 e2
      refine Or.inl ⟨-1, σ', _, e1, e2, by decide, by decide, hR⟩
    · rw [nI_0] at e1 e2
      refine Or.inr ⟨σ', _, 60 * k + a, by rw [m60_nI, nI_add], by omega, e1, e2, hR, fun j => (σ' 13 j).toNatClampNeg, fun j hj => ?_⟩
      obtain ⟨w1, p, hp, w2⟩ := hrow j hj
      have hp6 : n ≤ 6 := h.1.2.1
      have e3 : σ' 13 j = nI p := w1.trans w2
      have e4 : (X7_refused (0 : Int32) τ).2 21 (60 * k + a + j) = nI p := by
        unfold X7_refused
        rw [bnd_e]
        dsimp only
        rw [u2_k _ _ _ (show 21 ≠ 0 by decide)]; exact w2
      have e5 : (σ' 13 j).toNatClampNeg = p := by rw [e3]; exact clN (by omega)
      refine ⟨?_, ?_, ?_⟩
      · show (σ' 13 j).toNatClampNeg < n
        rw [e5]; exact hp
      · show σ' 13 j = nI (σ' 13 j).toNatClampNeg
        rw [e5]; exact e3
      · show _ = nI (σ' 13 j).toNatClampNeg
        rw [e5]; exact e4
  · have hz : ¬ nI f = 0 := fun q => absurd (nI_inj (a := f) (b := 0) (by omega) (by omega) q) (by omega)
    rw [q1, q2, if_neg hz, ob_e]
    unfold X6_faultAnswer
    rw [bnd_e, bnd_e, u2_09]
    have hz2 : ∀ f, f ≤ 4 → ¬ (-10 : Int32) - nI f = 0 := by decide +kernel
    have g1 := neg10 f f2
    have g2 := hz2 f f2
    refine Or.inl ⟨(-10 : Int32) - nI f, _, _, rfl, ?_, g2, g1, h.fault (nI f)⟩
    generalize (-10 : Int32) - nI f = w at g1
    rw [if_neg (show ¬ (0 : Int32) ≤ (w, u2 τ 0 0 (nI f)).1 from g1)]
def allI (n : Nat) : Int32 := ((1 : Int32) <<< (nI n &&& 31)) - 1
def goP (n m : Nat) (la w sc : Nat → Int32) (rw_ : Nat → Nat) (sh : Nat → Int32) : Int32 × PS :=
  playF n la w (if mskF (mdI w (s0M sc)) n = allI n then 1 else 0) (allI n) rw_ m 0 (s0M sc, sh, cb0 sc w, -9)
theorem m_go {F n m fr : Nat} {la w sc : Nat → Int32} {rw_ : Nat → Nat} {τ : Mem} (sh : Nat → Int32) (hF0 : 50000 ≤ F) (hn : n ≤ 6) (hm : m ≤ 20) (hfr : fr + 2 * m ≤ 240) (hrw : ∀ j, j < 2 * m → rw_ j < n) (h1 : τ 0 1 = nI n) (h2 : ∀ p, p < n → τ 2 p = sc p ∧ τ 3 p = w p ∧ X7_lastsOf (nI p) τ = some (la p)) (h21 : ∀ i, i < 2 * m → τ 21 (fr + i) = nI (rw_ i)) :
    ∃ τ', X7_goLoans F (nI fr) (nI m) τ = some τ' ∧ RM n la w (goP n m la w sc rw_ sh).2.1 (goP n m la w sc rw_ sh).2.2.2.1 τ' ∧ τ' 0 17 = (goP n m la w sc rw_ sh).1 ∧ τ' 0 18 = (goP n m la w sc rw_ sh).2.2.2.2 ∧ (∀ k, k ≠ 0 → (k < 9 ∨ 14 ≤ k) → τ' k = τ k) ∧ (∀ i, i ≠ 17 → i ≠ 18 → τ' 0 i = τ 0 i) := by
  unfold X7_goLoans
  obtain ⟨τ1, e1, hR1, g17, g18, f1, f2⟩ := m_begin (F := F) (la := la) (w := w) (sc := sc) (τ := τ) hF0 hn h1 h2
  have hev : X7_everybody τ1 = allI n := by unfold X7_everybody; rw [hR1.2.2]; rfl
  rw [e1, ob_e, m_mended hF0 hn hR1, ob_e, hev]
  unfold goP
  have key : ∀ were, ∃ τ', X7_goLoans_L24 F (nI fr) (nI m) were F 0 τ1 = some τ' ∧ RM n la w (playF n la w were (allI n) rw_ m 0 (s0M sc, sh, cb0 sc w, -9)).2.1 (playF n la w were (allI n) rw_ m 0 (s0M sc, sh, cb0 sc w, -9)).2.2.2.1 τ' ∧ τ' 0 17 = (playF n la w were (allI n) rw_ m 0 (s0M sc, sh, cb0 sc w, -9)).1 ∧ τ' 0 18 = (playF n la w were (allI n) rw_ m 0 (s0M sc, sh, cb0 sc w, -9)).2.2.2.2 ∧ (∀ k, k ≠ 0 → (k < 9 ∨ 14 ≤ k) → τ' k = τ k) ∧ (∀ i, i ≠ 17 → i ≠ 18 → τ' 0 i = τ 0 i) := by
    intro were
    obtain ⟨τ2, e2, hR2, g2, g3, f3, f4⟩ := m_play (F := F) (la := la) (w := w) (were := were) hF0 hn hm hfr hrw F 0 (s0M sc, sh, cb0 sc w, -9) τ1 (by omega) (by omega) hR1 g17 g18 (fun i hi => by rw [f1 21 (by decide) (by omega)]; exact h21 i hi)
    rw [nI_0] at e2
    exact ⟨τ2, e2, hR2, g2, g3, fun k k1 k2 => (f3 k k1 k2).trans (f1 k k1 k2), fun i i1 i2 => (f4 i i1 i2).trans (f2 i i1 i2)⟩
  by_cases c : mskF (mdI w (s0M sc)) n = allI n
  · rw [if_pos c, if_pos c]; exact key 1
  · rw [if_neg c, if_neg c]; exact key 0
theorem play_fa {n : Nat} {la w : Nat → Int32} {were all : Int32} {rw_ : Nat → Nat} : ∀ (r j : Nat) (T : PS), (¬ were = 0 ∨ 0 ≤ T.2.2.2) → (playF n la w were all rw_ r j T).2.2.2.2 = T.2.2.2 := by
  intro r
  induction r with
  | zero => intro j T h; rfl
  | succ r ih =>
    intro j T h
    rw [playF]
    split
    · rfl
    · have e : (lendP n la w were all T (rw_ (2 * j)) (rw_ (2 * j + 1)) j).2.2.2 = T.2.2.2 := by
        unfold lendP
        dsimp only
        rcases h with h | h
        · rw [if_neg h]
        · split
          · first | rfl | rw [if_pos h]
          · rfl
      rw [ih (j + 1) _ (by rw [e]; exact h), e]
theorem play_WF {n m : Nat} {la w : Nat → Int32} {were all : Int32} {rw_ : Nat → Nat} (hrw : ∀ j, j < 2 * m → rw_ j < n) : ∀ (r j : Nat) (T : PS), j + r ≤ m → WF n T.1 → WF n (playF n la w were all rw_ r j T).2.1 := by
  intro r
  induction r with
  | zero => intro j T _ h; exact h
  | succ r ih =>
    intro j T hj h
    rw [playF]
    split
    · exact h
    · exact ih (j + 1) _ (by omega) (lend_WF h la (hrw _ (by omega)) (hrw _ (by omega)))
