-- loans
theorem RX.congr {e n : Nat} {la la' : Nat → Int32} {s s' : ES} {σ : Mem} (h : RX e n la s σ) (q : ∀ p, p < n → s'.1 p = s.1 p ∧ s'.2.1 p = s.2.1 p ∧ s'.2.2.1 p = s.2.2.1 p ∧ s'.2.2.2 p = s.2.2.2 p ∧ la' p = la p) : RX e n la' s' σ := by
  obtain ⟨h1, h2, h3⟩ := h
  refine ⟨fun p hp => ?_, fun p hp => ?_, h3⟩
  · rw [(q p hp).1]; exact h1 p hp
  · obtain ⟨e1, e2, e3, e4, e5⟩ := q p hp
    rw [e2, e3, e4, e5]; exact h2 p hp
theorem nI_m9 {j : Nat} (h : j < 2 ^ 31) : ¬ nI j = -9 := fun q => absurd (show (0 : Int32) ≤ -9 from q ▸ nI_le (Nat.zero_le j) h) (by decide)
theorem fa_loop {F e n m : Nat} {la w : Nat → Int32} {rw_ : Nat → Nat} (hF0 : 50000 ≤ F) (hn : n ≤ 6) (he : 28 ≤ e) (hm : m ≤ 20) (hrw : ∀ j, j < 2 * m → rw_ j < n) : ∀ (f j : Nat) (T : PS) (σ : Mem), j ≤ m → m - j < f → RX e n la T.1 σ → WF n T.1 → T.2.2.2 = -9 → (playF n la w 0 (allI n) rw_ (m - j) j T).1 = -9 → (∀ i, i < 2 * m → σ 13 i = nI (rw_ i)) → (∀ p, p < n → σ (22 + p) 2 = w p ∧ ∃ z, z ≤ 6 ∧ w p = nI z) →
    ∃ σ', X0_firstThatMendsAll_L23 F e (nI m) (allI n) f (nI j) σ = some ((playF n la w 0 (allI n) rw_ (m - j) j T).2.2.2.2, σ') ∧ (∀ k, k < e ∨ e + 7 ≤ k → σ' k = σ k) := by
  intro f
  induction f with
  | zero => intro j T σ h1 h2; omega
  | succ f ih =>
    intro j T σ h1 h2 hR hW h9 hP h13 hw
    rw [X0_firstThatMendsAll_L23]
    by_cases c : j = m
    · subst c
      rw [if_pos (nI_le (Nat.le_refl _) (by omega)), Nat.sub_self, playF, h9]
      exact ⟨σ, rfl, fun _ _ => rfl⟩
    have ha := hrw (2 * j) (by omega)
    have hb := hrw (2 * j + 1) (by omega)
    have i1 := inb_nI (k := 2 * j) (N := 40) (by omega) (by decide)
    have i2 := inb_nI (k := 2 * j + 1) (N := 40) (by omega) (by decide)
    have es : m - j = (m - (j + 1)) + 1 := by omega
    rw [es, playF] at hP
    by_cases c2 : canI T.1 (rw_ (2 * j)) (rw_ (2 * j + 1)) = 0
    · rw [if_pos c2] at hP
      exact absurd hP (nI_m9 (by omega))
    rw [if_neg c2] at hP
    rw [if_neg (nI_ge (by omega) (by omega)), m2_nI, nI_1, grd_t i1, grd_t i2, clN (show 2 * j < 2 ^ 31 by omega), clN (show 2 * j + 1 < 2 ^ 31 by omega), h13 _ (show 2 * j < 2 * m by omega), h13 _ (show 2 * j + 1 < 2 * m by omega), es, playF, if_neg c2]
    obtain ⟨σ1, e1, hR1, f1, g1⟩ := x_lend hn hR ha hb
    have hW1 := lend_WF hW la ha hb
    have hw1 : ∀ p, p < n → σ1 (22 + p) 2 = w p ∧ ∃ z, z ≤ 6 ∧ w p = nI z := fun p hp => by rw [f1 (22 + p) (by omega)]; exact hw p hp
    rw [e1, ob_e, x_mended hF0 hn hR1 hW1 hw1, ob_e, nI_1]
    by_cases c3 : mskF (mdI w (lendF la T.1 (rw_ (2 * j)) (rw_ (2 * j + 1)))) n = allI n
    · rw [if_pos c3, play_fa]
      · refine ⟨σ1, ?_, fun k hk => f1 k (by omega)⟩
        unfold lendP
        dsimp only
        rw [if_pos rfl, h9, if_neg (by decide), if_pos c3]
      · refine Or.inr ?_
        unfold lendP
        dsimp only
        rw [if_pos rfl, h9, if_neg (by decide), if_pos c3]
        exact nI_le (Nat.zero_le j) (by omega)
    · rw [if_neg c3]
      obtain ⟨σ2, e2, f2⟩ := ih (j + 1) (lendP n la w 0 (allI n) T (rw_ (2 * j)) (rw_ (2 * j + 1)) j) σ1 (by omega) (by omega) hR1 hW1 (by
        unfold lendP
        dsimp only
        rw [if_pos rfl, h9, if_neg (by decide), if_neg c3]) hP (fun i hi => by rw [f1 13 (by omega)]; exact h13 i hi) hw1
      exact ⟨σ2, e2, fun k hk => (f2 k hk).trans (f1 k (by omega))⟩
theorem x_firstAll {F e n m : Nat} {la w sc : Nat → Int32} {rw_ : Nat → Nat} {σ : Mem} (sh : Nat → Int32) (hF0 : 50000 ≤ F) (hn : n ≤ 6) (he : 28 ≤ e) (hm : m ≤ 20) (hrw : ∀ j, j < 2 * m → rw_ j < n) (hR : RX e n la (s0M sc) σ) (hW : WF n (s0M sc)) (hP : (goP n m la w sc rw_ sh).1 = -9) (h13 : ∀ i, i < 2 * m → σ 13 i = nI (rw_ i)) (hw : ∀ p, p < n → σ (22 + p) 2 = w p ∧ ∃ z, z ≤ 6 ∧ w p = nI z) :
    ∃ σ', X0_firstThatMendsAll F e (nI m) σ = some ((goP n m la w sc rw_ sh).2.2.2.2, σ') ∧ (∀ k, k < e ∨ e + 7 ≤ k → σ' k = σ k) := by
  unfold X0_firstThatMendsAll
  rw [bnd_e, x_mended hF0 hn hR hW hw, ob_e, hR.2.2.2]
  unfold goP at hP ⊢
  by_cases c : mskF (mdI w (s0M sc)) n = allI n
  · rw [if_pos (show mskF (mdI w (s0M sc)) n = ((1 : Int32) <<< (nI n &&& 31)) - 1 from c), if_pos c, play_fa _ _ _ (Or.inl (by decide))]
    exact ⟨σ, rfl, fun _ _ => rfl⟩
  · rw [if_neg c] at hP
    rw [if_neg (show ¬ mskF (mdI w (s0M sc)) n = ((1 : Int32) <<< (nI n &&& 31)) - 1 from c), if_neg c]
    obtain ⟨σ2, e2, f2⟩ := fa_loop hF0 hn he hm hrw F 0 (s0M sc, sh, cb0 sc w, -9) σ (by omega) (by omega) hR hW rfl hP h13 hw
    rw [nI_0] at e2
    exact ⟨σ2, e2, f2⟩
theorem q40 : ∀ k, k < 40 → (X6_isLoanQuestion (nI k) = if (k < 4 ∨ 10 ≤ k ∧ k % 10 < 6) then 1 else 0) ∧ X7_in (nI k).toInt64 0 3 = (if k < 4 then 1 else 0) ∧ X7_in (nI k).toInt64 10 15 = (if 10 ≤ k ∧ k < 16 then 1 else 0) ∧ X7_in (nI k).toInt64 20 25 = (if 20 ≤ k ∧ k < 26 then 1 else 0) ∧ X7_in (nI k).toInt64 30 35 = (if 30 ≤ k ∧ k < 36 then 1 else 0) := by decide +kernel
theorem q_cases {α : Type} (v : Int32) (g : Int32 → α) : (if X7_in v.toInt64 0 3 = 0 then (if X7_in v.toInt64 10 15 = 0 then (if X7_in v.toInt64 20 25 = 0 then (if X7_in v.toInt64 30 35 = 0 then g 0 else g 1) else g 1) else g 1) else g 1) = g (X6_isLoanQuestion v) ∧ (X6_isLoanQuestion v = 0 ∨ ∃ k, k < 40 ∧ v = nI k ∧ X6_isLoanQuestion v = 1 ∧ (k < 4 ∨ 10 ≤ k ∧ k % 10 < 6)) := by
  by_cases c : 0 ≤ v.toInt ∧ v.toInt < (40 : Nat)
  · obtain ⟨k, hk, rfl⟩ := nI_ex c.1 c.2
    obtain ⟨q0, q1, q2, q3, q4⟩ := q40 k hk
    rw [q0, q1, q2, q3, q4]
    by_cases d : k < 4 ∨ 10 ≤ k ∧ k % 10 < 6
    · rw [if_pos d]
      refine ⟨?_, Or.inr ⟨k, hk, rfl, rfl, d⟩⟩
      by_cases d1 : k < 4
      · rw [if_pos d1, if_neg n10]
      rw [if_neg d1, if_pos rfl]
      by_cases d2 : 10 ≤ k ∧ k < 16
      · rw [if_pos d2, if_neg n10]
      rw [if_neg d2, if_pos rfl]
      by_cases d3 : 20 ≤ k ∧ k < 26
      · rw [if_pos d3, if_neg n10]
      rw [if_neg d3, if_pos rfl, if_pos (show 30 ≤ k ∧ k < 36 by omega), if_neg n10]
    · rw [if_neg d]
      refine ⟨?_, Or.inl rfl⟩
      rw [if_neg (show ¬ k < 4 by omega), if_pos rfl, if_neg (show ¬ (10 ≤ k ∧ k < 16) by omega), if_pos rfl, if_neg (show ¬ (20 ≤ k ∧ k < 26) by omega), if_pos rfl, if_neg (show ¬ (30 ≤ k ∧ k < 36) by omega), if_pos rfl]
  · have h10 : (10 : Int64).toInt = 10 := by decide
    have h15 : (15 : Int64).toInt = 15 := by decide
    have h20 : (20 : Int64).toInt = 20 := by decide
    have h25 : (25 : Int64).toInt = 25 := by decide
    have h30 : (30 : Int64).toInt = 30 := by decide
    have h35 : (35 : Int64).toInt = 35 := by decide
    have hq : X6_isLoanQuestion v = 0 := by
      unfold X6_isLoanQuestion
      have a3 : (3 : Int32).toInt = 3 := by decide
      have a10 : (10 : Int32).toInt = 10 := by decide
      have a40 : (40 : Int32).toInt = 40 := by decide
      by_cases d : v < 0
      · rw [if_pos d, if_pos (show v < 10 by rw [i32_lt, t0_32] at d; rw [i32_lt, a10]; omega)]
      · have d2 : 40 ≤ v.toInt := by rw [i32_lt, t0_32] at d; omega
        rw [if_neg d, if_pos (show 3 < v by rw [i32_lt, a3]; omega), if_neg (show ¬ v < 10 by rw [i32_lt, a10]; omega), if_pos (show 40 ≤ v by rw [i32_le, a40]; omega)]
    rw [X7_in_iff, X7_in_iff, X7_in_iff, X7_in_iff, i64_of, t0_64, t3_64, h10, h15, h20, h25, h30, h35, if_neg (show ¬ ((0 : Int) ≤ v.toInt ∧ v.toInt ≤ 3) by omega), if_pos rfl, if_neg (show ¬ ((10 : Int) ≤ v.toInt ∧ v.toInt ≤ 15) by omega), if_pos rfl, if_neg (show ¬ ((20 : Int) ≤ v.toInt ∧ v.toInt ≤ 25) by omega), if_pos rfl, if_neg (show ¬ ((30 : Int) ≤ v.toInt ∧ v.toInt ≤ 35) by omega), if_pos rfl, hq]
    exact ⟨rfl, Or.inl rfl⟩
