-- loans played one behind another, on both sides
abbrev PS : Type := ES × (Nat → Int32) × (Nat → Int32) × Int32
def lendP (n : Nat) (la w : Nat → Int32) (were all : Int32) (T : PS) (a b j : Nat) : PS :=
  (lendF la T.1 a b, shF (lendW la T.1 a b) (shF (lendW la T.1 a b) T.2.1 a) b, seesC w (lendW la T.1 a b) (seesC w (lendW la T.1 a b) T.2.2.1 a) b,
    if were = 0 then (if 0 ≤ T.2.2.2 then T.2.2.2 else if mskF (mdI w (lendF la T.1 a b)) n = all then nI j else T.2.2.2) else T.2.2.2)
def playF (n : Nat) (la w : Nat → Int32) (were all : Int32) (rw : Nat → Nat) : Nat → Nat → PS → Int32 × PS
  | 0, _, T => (-9, T)
  | r + 1, j, T => if canI T.1 (rw (2 * j)) (rw (2 * j + 1)) = 0 then (nI j, T) else playF n la w were all rw r (j + 1) (lendP n la w were all T (rw (2 * j)) (rw (2 * j + 1)) j)
theorem x_play {F e n m : Nat} {la w : Nat → Int32} {were all : Int32} {rw_ : Nat → Nat} (hn : n ≤ 6) (he : 28 ≤ e) (hm : m ≤ 20) (hrw : ∀ j, j < 2 * m → rw_ j < n) : ∀ (f j : Nat) (T : PS) (σ : Mem), j ≤ m → m - j < f → RX e n la T.1 σ → σ (e + 6) = T.2.1 → (∀ i, i < 2 * m → σ 13 i = nI (rw_ i)) →
    ∃ σ', X0_play_L2 F e (nI m) f (nI j) σ = some ((playF n la w were all rw_ (m - j) j T).1, σ') ∧ RX e n la (playF n la w were all rw_ (m - j) j T).2.1 σ' ∧ σ' (e + 6) = (playF n la w were all rw_ (m - j) j T).2.2.1 ∧ (∀ k, k < e + 1 ∨ k = e + 2 ∨ e + 7 ≤ k → σ' k = σ k) := by
  intro f
  induction f with
  | zero => intro j T σ h1 h2; omega
  | succ f ih =>
    intro j T σ h1 h2 hR h6 h13
    rw [X0_play_L2]
    by_cases c : j = m
    · subst c
      rw [if_pos (nI_le (Nat.le_refl _) (by omega)), Nat.sub_self]
      exact ⟨σ, rfl, hR, h6, fun _ _ => rfl⟩
    have ha := hrw (2 * j) (by omega)
    have hb := hrw (2 * j + 1) (by omega)
    have i1 := inb_nI (k := 2 * j) (N := 40) (by omega) (by decide)
    have i2 := inb_nI (k := 2 * j + 1) (N := 40) (by omega) (by decide)
    have es : m - j = (m - (j + 1)) + 1 := by omega
    rw [if_neg (nI_ge (by omega) (by omega)), m2_nI, nI_1, grd_t i1, grd_t i2, clN (show 2 * j < 2 ^ 31 by omega), clN (show 2 * j + 1 < 2 ^ 31 by omega), h13 _ (show 2 * j < 2 * m by omega), h13 _ (show 2 * j + 1 < 2 * m by omega), x_can hn hR ha hb, ob_e, es, playF]
    by_cases c2 : canI T.1 (rw_ (2 * j)) (rw_ (2 * j + 1)) = 0
    · rw [if_pos c2, if_pos c2]
      exact ⟨σ, rfl, hR, h6, fun _ _ => rfl⟩
    rw [if_neg c2, if_neg c2, grd_t i1, grd_t i2]
    obtain ⟨σ1, e1, hR1, f1, g1⟩ := x_lend hn hR ha hb
    rw [e1, ob_e, nI_1]
    obtain ⟨σ2, e2, hR2, g2, f2⟩ := ih (j + 1) (lendP n la w were all T (rw_ (2 * j)) (rw_ (2 * j + 1)) j) σ1 (by omega) (by omega) hR1 (by rw [g1, h6]; rfl) (fun i hi => by rw [f1 13 (by omega)]; exact h13 i hi)
    exact ⟨σ2, e2, hR2, g2, fun k hk => (f2 k hk).trans (f1 k hk)⟩
theorem RM.k0 {n : Nat} {la w cb : Nat → Int32} {s : ES} {τ τ' : Mem} (h : RM n la w s cb τ) (hk : ∀ k, k ≠ 0 → τ' k = τ k) (h1 : τ' 0 1 = τ 0 1) : RM n la w s cb τ' := by
  obtain ⟨y1, y2, y3⟩ := h
  refine ⟨fun p hp => ?_, fun p hp => ?_, ?_⟩
  · rw [hk 9 (by decide)]; exact y1 p hp
  · rw [hk 10 (by decide), hk 11 (by decide), hk 12 (by decide), hk 13 (by decide), hk 3 (by decide), lastsOf_frame (hk 1 (by decide)) (hk 4 (by decide))]; exact y2 p hp
  · rw [h1]; exact y3
theorem m_play {F n m fr : Nat} {la w : Nat → Int32} {were : Int32} {rw_ : Nat → Nat} (hF0 : 50000 ≤ F) (hn : n ≤ 6) (hm : m ≤ 20) (hfr : fr + 2 * m ≤ 240) (hrw : ∀ j, j < 2 * m → rw_ j < n) : ∀ (f j : Nat) (T : PS) (τ : Mem), j ≤ m → m - j < f → RM n la w T.1 T.2.2.1 τ → τ 0 17 = -9 → τ 0 18 = T.2.2.2 → (∀ i, i < 2 * m → τ 21 (fr + i) = nI (rw_ i)) →
    ∃ τ', X7_goLoans_L24 F (nI fr) (nI m) were f (nI j) τ = some τ' ∧ RM n la w (playF n la w were (((1 : Int32) <<< (nI n &&& 31)) - 1) rw_ (m - j) j T).2.1 (playF n la w were (((1 : Int32) <<< (nI n &&& 31)) - 1) rw_ (m - j) j T).2.2.2.1 τ' ∧ τ' 0 17 = (playF n la w were (((1 : Int32) <<< (nI n &&& 31)) - 1) rw_ (m - j) j T).1 ∧ τ' 0 18 = (playF n la w were (((1 : Int32) <<< (nI n &&& 31)) - 1) rw_ (m - j) j T).2.2.2.2 ∧ (∀ k, k ≠ 0 → (k < 9 ∨ 14 ≤ k) → τ' k = τ k) ∧ (∀ i, i ≠ 17 → i ≠ 18 → τ' 0 i = τ 0 i) := by
  intro f
  induction f with
  | zero => intro j T τ h1 h2; omega
  | succ f ih =>
    intro j T τ h1 h2 hR h17 h18 h21
    rw [X7_goLoans_L24]
    by_cases c : j = m
    · subst c
      rw [if_pos (nI_le (Nat.le_refl _) (by omega)), Nat.sub_self]
      exact ⟨τ, rfl, hR, h17, h18, fun _ _ _ => rfl, fun _ _ _ => rfl⟩
    have ha := hrw (2 * j) (by omega)
    have hb := hrw (2 * j + 1) (by omega)
    have i1 := inb_nI (k := fr + 2 * j) (N := 240) (by omega) (by decide)
    have i2 := inb_nI (k := fr + 2 * j + 1) (N := 240) (by omega) (by decide)
    have es : m - j = (m - (j + 1)) + 1 := by omega
    have v2 : τ 21 (fr + 2 * j + 1) = nI (rw_ (2 * j + 1)) := h21 (2 * j + 1) (by omega)
    rw [if_neg (nI_ge (by omega) (by omega)), h17, if_neg (show ¬ (0 : Int32) ≤ -9 by decide), m2_nI, nI_add, nI_1, grd_t i1, bnd_e, grd_t i2, bnd_e, clN (show fr + 2 * j < 2 ^ 31 by omega), clN (show fr + 2 * j + 1 < 2 ^ 31 by omega), h21 _ (show 2 * j < 2 * m by omega), v2, m_can hn hR ha hb, ob_e, es, playF]
    by_cases c2 : canI T.1 (rw_ (2 * j)) (rw_ (2 * j + 1)) = 0
    · rw [if_pos c2, if_pos c2, bnd_e]
      have hR1 : RM n la w T.1 T.2.2.1 (u2 τ 0 17 (nI j)) := hR.k0 (fun k hk => u2_k _ _ _ hk) (u2_j _ _ _ (by decide))
      obtain ⟨f', rfl⟩ : ∃ f', f = f' + 1 := ⟨f - 1, by omega⟩
      rw [X7_goLoans_L24]
      have e0 : (if nI m ≤ nI j + 1 then some (u2 τ 0 17 (nI j)) else
        if 0 ≤ (u2 τ 0 17 (nI j)) 0 17 then some (u2 τ 0 17 (nI j)) else none) = some (u2 τ 0 17 (nI j)) := by
        rw [u2_s]
        by_cases c3 : nI m ≤ nI j + 1
        · rw [if_pos c3]
        · rw [if_neg c3, if_pos (show (0 : Int32) ≤ nI j from nI_le (Nat.zero_le j) (by omega))]
      have e1 : ∀ X, (if nI m ≤ nI j + 1 then some (u2 τ 0 17 (nI j)) else
        if 0 ≤ (u2 τ 0 17 (nI j)) 0 17 then some (u2 τ 0 17 (nI j)) else X) = some (u2 τ 0 17 (nI j)) := by
        intro X
        rw [u2_s]
        by_cases c3 : nI m ≤ nI j + 1
        · rw [if_pos c3]
        · rw [if_neg c3, if_pos (show (0 : Int32) ≤ nI j from nI_le (Nat.zero_le j) (by omega))]
      rw [e1]
      exact ⟨_, rfl, hR1, u2_s _ _ _ _, (u2_j _ _ _ (by decide)).trans h18, fun k k1 _ => u2_k _ _ _ k1, fun i h1 h2 => u2_j _ _ _ h1⟩
    rw [if_neg c2, if_neg c2]
    obtain ⟨τ1, e1, hR1, f1⟩ := m_lend hn hR ha hb
    rw [e1, ob_e, nI_1]
    have go : ∀ x, x = (lendP n la w were (((1 : Int32) <<< (nI n &&& 31)) - 1) T (rw_ (2 * j)) (rw_ (2 * j + 1)) j).2.2.2 → ∃ τ', X7_goLoans_L24 F (nI fr) (nI m) were f (nI (j + 1)) (u2 τ1 0 18 x) = some τ' ∧ RM n la w (playF n la w were (((1 : Int32) <<< (nI n &&& 31)) - 1) rw_ (m - (j + 1)) (j + 1) (lendP n la w were (((1 : Int32) <<< (nI n &&& 31)) - 1) T (rw_ (2 * j)) (rw_ (2 * j + 1)) j)).2.1 (playF n la w were (((1 : Int32) <<< (nI n &&& 31)) - 1) rw_ (m - (j + 1)) (j + 1) (lendP n la w were (((1 : Int32) <<< (nI n &&& 31)) - 1) T (rw_ (2 * j)) (rw_ (2 * j + 1)) j)).2.2.2.1 τ' ∧ τ' 0 17 = (playF n la w were (((1 : Int32) <<< (nI n &&& 31)) - 1) rw_ (m - (j + 1)) (j + 1) (lendP n la w were (((1 : Int32) <<< (nI n &&& 31)) - 1) T (rw_ (2 * j)) (rw_ (2 * j + 1)) j)).1 ∧ τ' 0 18 = (playF n la w were (((1 : Int32) <<< (nI n &&& 31)) - 1) rw_ (m - (j + 1)) (j + 1) (lendP n la w were (((1 : Int32) <<< (nI n &&& 31)) - 1) T (rw_ (2 * j)) (rw_ (2 * j + 1)) j)).2.2.2.2 ∧ (∀ k, k ≠ 0 → (k < 9 ∨ 14 ≤ k) → τ' k = τ k) ∧ (∀ i, i ≠ 17 → i ≠ 18 → τ' 0 i = τ 0 i) := by
      intro x hx
      obtain ⟨τ2, e2, hR2, g2, g3, f2, f3⟩ := ih (j + 1) (lendP n la w were (((1 : Int32) <<< (nI n &&& 31)) - 1) T (rw_ (2 * j)) (rw_ (2 * j + 1)) j) (u2 τ1 0 18 x) (by omega) (by omega) (hR1.k0 (fun k hk => u2_k _ _ _ hk) (u2_j _ _ _ (by decide))) (by rw [u2_j _ _ _ (by decide), f1 0 (by omega)]; exact h17) (by rw [u2_s]; exact hx) (fun i hi => by rw [u2_k _ _ _ (by decide), f1 21 (by omega)]; exact h21 i hi)
      exact ⟨τ2, e2, hR2, g2, g3, fun k k1 k2 => (f2 k k1 k2).trans ((u2_k _ _ _ k1).trans (f1 k k2)), fun i h1 h2 => (f3 i h1 h2).trans ((u2_j _ _ _ h2).trans (by rw [f1 0 (by omega)]))⟩
    have h18' : τ1 0 18 = T.2.2.2 := by rw [f1 0 (by omega)]; exact h18
    rw [h18', m_mended hF0 hn hR1, ob_e]
    have hev : X7_everybody τ1 = ((1 : Int32) <<< (nI n &&& 31)) - 1 := by unfold X7_everybody; rw [hR1.2.2]
    rw [hev]
    by_cases d1 : were = 0
    · rw [if_pos d1]
      by_cases d2 : (0 : Int32) ≤ T.2.2.2
      · rw [if_pos d2, bnd_e]
        exact go _ (by unfold lendP; dsimp only; rw [if_pos d1, if_pos d2])
      · rw [if_neg d2]
        by_cases d3 : mskF (mdI w (lendF la T.1 (rw_ (2 * j)) (rw_ (2 * j + 1)))) n = ((1 : Int32) <<< (nI n &&& 31)) - 1
        · rw [if_pos d3, bnd_e]
          exact go _ (by unfold lendP; dsimp only; rw [if_pos d1, if_neg d2, if_pos d3])
        · rw [if_neg d3, bnd_e]
          exact go _ (by unfold lendP; dsimp only; rw [if_pos d1, if_neg d2, if_neg d3])
    · rw [if_neg d1, bnd_e]
      exact go _ (by unfold lendP; dsimp only; rw [if_neg d1])
