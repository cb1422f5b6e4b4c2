-- the beginning of an exchange; the reference's exchange
theorem x_place {e n : Nat} {la : Nat → Int32} {s : ES} {σ : Mem} (hn : n ≤ 6) (h : RX e n la s σ) {p : Nat} (hp : p < n) (sc l : Int32) : ∃ σ', X0_place e (nI p) sc l σ = some σ' ∧ RX e n (va_up la p l) (s.1, va_up s.2.1 p sc, s.2.2.1, va_up s.2.2.2 p sc) σ' ∧ (∀ k, k < e + 1 ∨ e + 7 ≤ k → σ' k = σ k) ∧ σ' (e + 6) = upd (σ (e + 6)) (6 * p + p) sc := by
  obtain ⟨h1, h2, h3, h4⟩ := h
  have ip := inb_nI (k := p) (N := 6) (by omega) (by decide)
  have cp := clN (k := p) (by omega)
  have i36 := inb_nI (k := 6 * p + p) (N := 36) (by omega) (by decide)
  have c36 := clN (k := 6 * p + p) (by omega)
  unfold X0_place
  simp only [grd_t ip, bnd_e, cp, m6_nI, nI_add, grd_t i36, c36]
  refine ⟨_, rfl, ⟨fun q hq => ?_, fun q hq => ?_, ?_, ?_⟩, fun k hk => ?_, ?_⟩
  · rw [u2_k _ _ _ (show e + 4 ≠ e + 6 by omega), u2_k _ _ _ (show e + 4 ≠ e + 5 by omega), u2_k _ _ _ (show e + 4 ≠ e + 2 by omega), u2_k _ _ _ (show e + 4 ≠ e + 1 by omega)]; exact h1 q hq
  · obtain ⟨g1, g2, g3, g4⟩ := h2 q hq
    dsimp only
    rw [u2_k _ _ _ (show e + 1 ≠ e + 6 by omega), u2_k _ _ _ (show e + 1 ≠ e + 5 by omega), u2_k _ _ _ (show e + 1 ≠ e + 2 by omega), u2_k _ _ _ (show e + 2 ≠ e + 6 by omega), u2_k _ _ _ (show e + 2 ≠ e + 5 by omega), u2_k _ _ _ (show e + 3 ≠ e + 6 by omega), u2_k _ _ _ (show e + 3 ≠ e + 5 by omega), u2_k _ _ _ (show e + 3 ≠ e + 2 by omega), u2_k _ _ _ (show e + 3 ≠ e + 1 by omega), u2_k _ _ _ (show e + 5 ≠ e + 6 by omega)]
    by_cases hqp : q = p
    · subst hqp; rw [u2_s, u2_s, u2_s, vup_s, vup_s, vup_s]; exact ⟨rfl, rfl, g3, rfl⟩
    · rw [u2_j _ _ _ hqp, u2_j _ _ _ hqp, u2_j _ _ _ hqp, vup_n _ _ hqp, vup_n _ _ hqp, vup_n _ _ hqp, u2_k _ _ _ (show e + 2 ≠ e + 1 by omega), u2_k _ _ _ (show e + 5 ≠ e + 2 by omega), u2_k _ _ _ (show e + 5 ≠ e + 1 by omega)]; exact ⟨g1, g2, g3, g4⟩
  · rw [u2_k _ _ _ (show e ≠ e + 6 by omega), u2_k _ _ _ (show e ≠ e + 5 by omega), u2_k _ _ _ (show e ≠ e + 2 by omega), u2_k _ _ _ (show e ≠ e + 1 by omega)]; exact h3
  · rw [u2_k _ _ _ (show e ≠ e + 6 by omega), u2_k _ _ _ (show e ≠ e + 5 by omega), u2_k _ _ _ (show e ≠ e + 2 by omega), u2_k _ _ _ (show e ≠ e + 1 by omega)]; exact h4
  · rw [u2_k _ _ _ (show k ≠ e + 6 by omega), u2_k _ _ _ (show k ≠ e + 5 by omega), u2_k _ _ _ (show k ≠ e + 2 by omega), u2_k _ _ _ (show k ≠ e + 1 by omega)]
  · unfold u2
    rw [u1_s, u1_n _ _ (show e + 6 ≠ e + 5 by omega), u1_n _ _ (show e + 6 ≠ e + 2 by omega), u1_n _ _ (show e + 6 ≠ e + 1 by omega)]
theorem zero_loop (F e : Nat) (kk : Mem → Option Mem) : ∀ (f i : Nat) (σ : Mem), i ≤ 36 → 36 - i < f → ∃ σ', X0_begin_L22 F e kk f (nI i) σ = kk σ' ∧ (∀ k, k ≠ e + 6 → σ' k = σ k) ∧ (∀ j, j < i → σ' (e + 6) j = σ (e + 6) j) ∧ (∀ j, i ≤ j → j < 36 → σ' (e + 6) j = 0) := by
  intro f
  induction f with
  | zero => intro i σ h1 h2; omega
  | succ f ih =>
    intro i σ h1 h2
    rw [X0_begin_L22]
    by_cases c : i = 36
    · subst c
      rw [if_pos (show (36 : Int32) ≤ nI 36 by decide)]
      exact ⟨σ, rfl, fun _ _ => rfl, fun _ _ => rfl, fun j a b => absurd b (by omega)⟩
    · rw [if_neg (show ¬ (36 : Int32) ≤ nI i from nI_ge (b := 36) (by omega) (by decide)), grd_t (inb_nI (by omega) (by decide)), bnd_e, nI_1, clN (by omega)]
      obtain ⟨σ', e1, g1, g2, g3⟩ := ih (i + 1) (u2 σ (e + 6) i 0) (by omega) (by omega)
      refine ⟨σ', e1, fun k hk => (g1 k hk).trans (u2_k _ _ _ hk), fun j hj => (g2 j (by omega)).trans (u2_j _ _ _ (by omega)), fun j a b => ?_⟩
      by_cases hj : j = i
      · subst hj
        rw [g2 j (by omega), u2_s]
      · exact g3 j (by omega) b
theorem xb_loop {F e n : Nat} {σ0 : Mem} (hn : n ≤ 6) (he : 28 ≤ e) : ∀ (f p : Nat) (σ : Mem), p ≤ n → n - p < f → σ e 6 = 2 → σ e 7 = nI n → (∀ z, z < 28 → σ z = σ0 z) →
    ∃ σ', X0_begin_L46 F e f (nI p) σ = some σ' ∧ (∀ z, z < e + 1 ∨ e + 7 ≤ z → σ' z = σ z) ∧ (∀ q j, q < p → 1 ≤ j → j ≤ 5 → σ' (e + j) q = σ (e + j) q) ∧ (∀ q, p ≤ q → q < n → σ' (e + 4) q = nI q ∧ σ' (e + 1) q = σ0 (22 + q) 1 ∧ σ' (e + 2) q = X3_lasts (22 + q) σ0 ∧ σ' (e + 3) q = 0 ∧ σ' (e + 5) q = σ0 (22 + q) 1 ∧ σ' (e + 6) (6 * q + q) = σ0 (22 + q) 1) ∧ (∀ i, (∀ q, p ≤ q → q < n → i ≠ 6 * q + q) → σ' (e + 6) i = σ (e + 6) i) := by
  intro f
  induction f with
  | zero => intro p σ h1 h2; omega
  | succ f ih =>
    intro p σ h1 h2 h6 h7 h28
    rw [X0_begin_L46, h7]
    by_cases c : p = n
    · subst c
      rw [if_pos (nI_le (Nat.le_refl _) (by omega))]
      exact ⟨σ, rfl, fun _ _ => rfl, fun _ _ _ _ _ => rfl, fun q h1 h2 => absurd h2 (by omega), fun _ _ => rfl⟩
    have ip := inb_nI (k := p) (N := 6) (by omega) (by decide)
    have cp := clN (k := p) (by omega)
    have i36 := inb_nI (k := 6 * p + p) (N := 36) (by omega) (by decide)
    have c36 := clN (k := 6 * p + p) (by omega)
    have h2t : isTwo 2 = true := rfl
    have kL : X3_lasts (22 + p) (u2 (u2 σ (e + 3) p 0) (e + 4) p (nI p)) = X3_lasts (22 + p) σ0 := by
      unfold X3_lasts
      rw [u2_k _ _ _ (show 22 + p ≠ e + 4 by omega), u2_k _ _ _ (show 22 + p ≠ e + 3 by omega), h28 _ (by omega)]
    rw [if_neg (nI_ge (by omega) (by omega)), cp]
    unfold X0_place
    simp only [grd_t ip, bnd_e, cp, u2_k _ _ _ (show e ≠ e + 4 by omega), u2_k _ _ _ (show e ≠ e + 3 by omega), h6, grd_t h2t, u2_k _ _ _ (show 22 + p ≠ e + 4 by omega), u2_k _ _ _ (show 22 + p ≠ e + 3 by omega), h28 _ (show 22 + p < 28 by omega), kL, m6_nI, nI_add, grd_t i36, c36, ob_e, nI_1]
    generalize hσ : u2 (u2 (u2 (u2 (u2 (u2 σ (e + 3) p 0) (e + 4) p (nI p)) (e + 1) p (σ0 (22 + p) 1)) (e + 2) p (X3_lasts (22 + p) σ0)) (e + 5) p (σ0 (22 + p) 1)) (e + 6) (6 * p + p) (σ0 (22 + p) 1) = σ1
    have k0 : ∀ z, z < e + 1 ∨ e + 7 ≤ z → σ1 z = σ z := fun z hz => by
      rw [← hσ, u2_k _ _ _ (show z ≠ e + 6 by omega), u2_k _ _ _ (show z ≠ e + 5 by omega), u2_k _ _ _ (show z ≠ e + 2 by omega), u2_k _ _ _ (show z ≠ e + 1 by omega), u2_k _ _ _ (show z ≠ e + 4 by omega), u2_k _ _ _ (show z ≠ e + 3 by omega)]
    have k1 : ∀ q j, q ≠ p → 1 ≤ j → j ≤ 5 → σ1 (e + j) q = σ (e + j) q := fun q j hq hj hj5 => by
      rw [← hσ, u2_k _ _ _ (show e + j ≠ e + 6 by omega)]
      simp only [u2_at, hq, and_false, if_false]
    have k2 : σ1 (e + 4) p = nI p ∧ σ1 (e + 1) p = σ0 (22 + p) 1 ∧ σ1 (e + 2) p = X3_lasts (22 + p) σ0 ∧ σ1 (e + 3) p = 0 ∧ σ1 (e + 5) p = σ0 (22 + p) 1 ∧ σ1 (e + 6) (6 * p + p) = σ0 (22 + p) 1 := by
      rw [← hσ]
      refine ⟨?_, ?_, ?_, ?_, ?_, ?_⟩
      · rw [u2_k _ _ _ (show e + 4 ≠ e + 6 by omega), u2_k _ _ _ (show e + 4 ≠ e + 5 by omega), u2_k _ _ _ (show e + 4 ≠ e + 2 by omega), u2_k _ _ _ (show e + 4 ≠ e + 1 by omega), u2_s]
      · rw [u2_k _ _ _ (show e + 1 ≠ e + 6 by omega), u2_k _ _ _ (show e + 1 ≠ e + 5 by omega), u2_k _ _ _ (show e + 1 ≠ e + 2 by omega), u2_s]
      · rw [u2_k _ _ _ (show e + 2 ≠ e + 6 by omega), u2_k _ _ _ (show e + 2 ≠ e + 5 by omega), u2_s]
      · rw [u2_k _ _ _ (show e + 3 ≠ e + 6 by omega), u2_k _ _ _ (show e + 3 ≠ e + 5 by omega), u2_k _ _ _ (show e + 3 ≠ e + 2 by omega), u2_k _ _ _ (show e + 3 ≠ e + 1 by omega), u2_k _ _ _ (show e + 3 ≠ e + 4 by omega), u2_s]
      · rw [u2_k _ _ _ (show e + 5 ≠ e + 6 by omega), u2_s]
      · rw [u2_s]
    have k3 : ∀ i, i ≠ 6 * p + p → σ1 (e + 6) i = σ (e + 6) i := fun i hi => by
      rw [← hσ, u2_j _ _ _ hi, u2_k _ _ _ (show e + 6 ≠ e + 5 by omega), u2_k _ _ _ (show e + 6 ≠ e + 2 by omega), u2_k _ _ _ (show e + 6 ≠ e + 1 by omega), u2_k _ _ _ (show e + 6 ≠ e + 4 by omega), u2_k _ _ _ (show e + 6 ≠ e + 3 by omega)]
    obtain ⟨σ2, e2, q0, q1, q2, q3⟩ := ih (p + 1) σ1 (by omega) (by omega) (by rw [k0 e (by omega)]; exact h6) (by rw [k0 e (by omega)]; exact h7) (fun z hz => (k0 z (by omega)).trans (h28 z hz))
    refine ⟨σ2, e2, fun z hz => (q0 z hz).trans (k0 z hz), fun q j hq hj hj5 => (q1 q j (by omega) hj hj5).trans (k1 q j (by omega) hj hj5), fun q hq hqn => ?_, fun i hi => ?_⟩
    · by_cases hqp : q = p
      · subst hqp
        rw [q1 q 4 (by omega) (by decide) (by decide), q1 q 1 (by omega) (by decide) (by decide), q1 q 2 (by omega) (by decide) (by decide), q1 q 3 (by omega) (by decide) (by decide), q1 q 5 (by omega) (by decide) (by decide), q3 (6 * q + q) (fun r hr hr2 => by omega)]
        exact k2
      · exact q2 q (by omega) hqn
    · rw [q3 i (fun q hq hqn => hi q (by omega) hqn), k3 i (hi p (by omega) (by omega))]
def s0F (σ : Mem) : ES := (fun p => p, fun p => σ (22 + p) 1, fun _ => 0, fun p => σ (22 + p) 1)
def laF (σ : Mem) : Nat → Int32 := fun p => X3_lasts (22 + p) σ
theorem x_begin {F e n : Nat} {σ : Mem} (hF0 : 50000 ≤ F) (hn : n ≤ 6) (he : 28 ≤ e) : ∃ σ', X0_begin F e (nI n) σ = some σ' ∧ RX e n (laF σ) (s0F σ) σ' ∧ (∀ k, k < e ∨ e + 7 ≤ k → σ' k = σ k) ∧ ∀ p c, p < n → c < n → σ' (e + 6) (6 * p + c) = if p = c then σ (22 + p) 1 else 0 := by
  unfold X0_begin
  have e66 : (if (6 : Int32) < (6 : Int32) then (6 : Int32) else (6 : Int32)) = 6 := by decide
  have e6n : (if (6 : Int32) < nI n then (6 : Int32) else nI n) = nI n := if_neg (show ¬ (6 : Int32) < nI n from nI_nlt (a := 6) (by omega) (by decide))
  simp only [bnd_e, e66, e6n]
  obtain ⟨σ1, e1, g1, g2, g3⟩ := zero_loop F e (fun σ_9 => X0_begin_L46 F e F 0 σ_9) F 0 (u2 (u2 σ e 6 2) e 7 (nI n)) (by omega) (by omega)
  obtain ⟨σ2, e2, q0, q1, q2, q3⟩ := xb_loop (F := F) (σ0 := σ) hn he F 0 σ1 (by omega) (by omega) (by rw [g1 e (by omega), u2_j _ _ _ (by decide), u2_s]) (by rw [g1 e (by omega), u2_s]) (fun z hz => by rw [g1 z (by omega), u2_k _ _ _ (by omega), u2_k _ _ _ (by omega)])
  rw [nI_0] at e1 e2
  rw [e1, e2]
  refine ⟨σ2, rfl, ⟨fun p hp => ⟨(q2 p (by omega) hp).1, hp⟩, fun p hp => ?_, ?_, ?_⟩, fun k hk => ?_, fun p c hp hc => ?_⟩
  · obtain ⟨w1, w2, w3, w4, w5, w6⟩ := q2 p (by omega) hp
    exact ⟨w2, w3, w4, w5⟩
  · rw [q0 e (by omega), g1 e (by omega), u2_j _ _ _ (by decide), u2_s]
  · rw [q0 e (by omega), g1 e (by omega), u2_s]
  · rw [q0 k (by omega), g1 k (by omega), u2_k _ _ _ (by omega), u2_k _ _ _ (by omega)]
  · by_cases hpc : p = c
    · subst hpc
      rw [if_pos rfl]
      exact (q2 p (by omega) hp).2.2.2.2.2
    · rw [if_neg hpc, q3 _ (fun q hq hqn => by omega), g3 _ (by omega) (by omega)]
def seesC (w : Nat → Int32) (s : ES) (cb : Nat → Int32) (a : Nat) : Nat → Int32 := va_up cb a (cb a ||| (if X7_isIn (s.2.1 (s.1 a)) (w a) = 0 then 0 else (1 : Int32) <<< (nI (s.1 a) &&& 31)))
def RM (n : Nat) (la w : Nat → Int32) (s : ES) (cb : Nat → Int32) (τ : Mem) : Prop := (∀ p, p < n → τ 9 p = nI (s.1 p) ∧ s.1 p < n) ∧ (∀ p, p < n → τ 10 p = s.2.1 p ∧ τ 11 p = s.2.2.1 p ∧ τ 12 p = s.2.2.2 p ∧ τ 13 p = cb p ∧ τ 3 p = w p ∧ X7_lastsOf (nI p) τ = some (la p)) ∧ τ 0 1 = nI n
theorem lastsOf_frame {τ τ' : Mem} (h1 : τ' 1 = τ 1) (h4 : τ' 4 = τ 4) (v : Int32) : X7_lastsOf v τ' = X7_lastsOf v τ := by
  unfold X7_lastsOf
  rw [h1, h4]
theorem m_can {n : Nat} {la w cb : Nat → Int32} {s : ES} {τ : Mem} (hn : n ≤ 6) (h : RM n la w s cb τ) {a b : Nat} (ha : a < n) (hb : b < n) : X7_canLend (nI a) (nI b) τ = some (canI s a b) := by
  obtain ⟨h1, h2, h3⟩ := h
  obtain ⟨a1, a2⟩ := h1 a ha
  obtain ⟨b1, b2⟩ := h1 b hb
  unfold X7_canLend canI
  have ia := inb_nI (k := a) (N := 6) (by omega) (by decide)
  have ib := inb_nI (k := b) (N := 6) (by omega) (by decide)
  have iha := inb_nI (k := s.1 a) (N := 6) (by omega) (by decide)
  have ihb := inb_nI (k := s.1 b) (N := 6) (by omega) (by decide)
  have ca := clN (k := a) (by omega)
  have cb2 := clN (k := b) (by omega)
  have cha := clN (k := s.1 a) (by omega)
  have chb := clN (k := s.1 b) (by omega)
  have la1 := (h2 _ a2).1
  have lb1 := (h2 _ b2).1
  by_cases hab : a = b
  · subst hab
    rw [if_pos rfl, if_pos rfl]
  rw [if_neg (show ¬ nI a = nI b from fun q => hab (nI_inj (by omega) (by omega) q)), if_neg hab, grd_t ia, ca, a1, grd_t iha, cha, la1]
  by_cases c1 : s.2.1 (s.1 a) = 0
  · rw [if_pos c1, if_pos c1]
  rw [if_neg c1, if_neg c1, grd_t ib, cb2, b1, grd_t ihb, chb, lb1]
  by_cases c2 : s.2.1 (s.1 b) = 0
  · rw [if_pos c2, if_pos c2]
  · rw [if_neg c2, if_neg c2]
theorem m_wear {n : Nat} {la w cb : Nat → Int32} {s : ES} {τ : Mem} (hn : n ≤ 6) (h : RM n la w s cb τ) {c : Nat} (hc : c < n) : ∃ τ', X7_wearsOff (nI c) τ = some τ' ∧ RM n la w (wearF la s c) cb τ' ∧ ∀ k, k ≠ 10 → k ≠ 11 → τ' k = τ k := by
  obtain ⟨h1, h2, h3⟩ := h
  have ic := inb_nI (k := c) (N := 6) (by omega) (by decide)
  have cc := clN (k := c) (by omega)
  obtain ⟨q1, q2, q3, q4, q5, q6⟩ := h2 c hc
  unfold X7_wearsOff
  have hl : ∀ v z, X7_lastsOf z (u2 τ 11 c v) = X7_lastsOf z τ := fun v z => lastsOf_frame (u2_k _ _ _ (by decide)) (u2_k _ _ _ (by decide)) z
  simp only [grd_t ic, bnd_e, cc, u2_s, q1, q2, hl, q6, ob_e, u2_k _ _ _ (show 10 ≠ 11 by decide)]
  by_cases hle : s.2.2.1 c + 1 ≤ la c
  · rw [if_pos hle]
    refine ⟨_, rfl, ⟨fun p hp => ?_, fun p hp => ?_, ?_⟩, fun k k1 k2 => u2_k _ _ _ k2⟩
    · rw [u2_k _ _ _ (show 9 ≠ 11 by decide)]; exact h1 p hp
    · obtain ⟨g1, g2, g3, g4, g5, g6⟩ := h2 p hp
      unfold wearF
      simp only [if_pos hle]
      rw [hl, u2_k _ _ _ (show 10 ≠ 11 by decide), u2_k _ _ _ (show 12 ≠ 11 by decide), u2_k _ _ _ (show 13 ≠ 11 by decide), u2_k _ _ _ (show 3 ≠ 11 by decide)]
      refine ⟨g1, ?_, g3, g4, g5, g6⟩
      by_cases hpc : p = c
      · subst hpc; rw [u2_s, vup_s]
      · rw [u2_j _ _ _ hpc, vup_n _ _ hpc]; exact g2
    · rw [u2_k _ _ _ (show 0 ≠ 11 by decide)]; exact h3
  · rw [if_neg hle]
    have hl2 : ∀ v v2 z, X7_lastsOf z (u2 (u2 τ 11 c v) 10 c v2) = X7_lastsOf z τ := fun v v2 z => lastsOf_frame (by rw [u2_k _ _ _ (by decide), u2_k _ _ _ (by decide)]) (by rw [u2_k _ _ _ (by decide), u2_k _ _ _ (by decide)]) z
    refine ⟨_, rfl, ⟨fun p hp => ?_, fun p hp => ?_, ?_⟩, fun k k1 k2 => by rw [u2_k _ _ _ k1, u2_k _ _ _ k2]⟩
    · rw [u2_k _ _ _ (show 9 ≠ 10 by decide), u2_k _ _ _ (show 9 ≠ 11 by decide)]; exact h1 p hp
    · obtain ⟨g1, g2, g3, g4, g5, g6⟩ := h2 p hp
      unfold wearF
      simp only [if_neg hle]
      rw [hl2, u2_k _ _ _ (show 11 ≠ 10 by decide), u2_k _ _ _ (show 12 ≠ 10 by decide), u2_k _ _ _ (show 12 ≠ 11 by decide), u2_k _ _ _ (show 13 ≠ 10 by decide), u2_k _ _ _ (show 13 ≠ 11 by decide), u2_k _ _ _ (show 3 ≠ 10 by decide), u2_k _ _ _ (show 3 ≠ 11 by decide)]
      by_cases hpc : p = c
      · subst hpc; rw [u2_s, u2_s, vup_s, vup_s]; exact ⟨rfl, rfl, g3, g4, g5, g6⟩
      · rw [u2_j _ _ _ hpc, u2_j _ _ _ hpc, vup_n _ _ hpc, vup_n _ _ hpc, u2_k _ _ _ (show 10 ≠ 11 by decide)]; exact ⟨g1, g2, g3, g4, g5, g6⟩
    · rw [u2_k _ _ _ (show 0 ≠ 10 by decide), u2_k _ _ _ (show 0 ≠ 11 by decide)]; exact h3
theorem m_sees {n : Nat} {la w cb : Nat → Int32} {s : ES} {τ : Mem} (hn : n ≤ 6) (h : RM n la w s cb τ) {a : Nat} (ha : a < n) : ∃ τ', X7_sees (nI a) τ = some τ' ∧ RM n la w (showF s a) (seesC w s cb a) τ' ∧ ∀ k, k ≠ 12 → k ≠ 13 → τ' k = τ k := by
  obtain ⟨h1, h2, h3⟩ := h
  have ic := inb_nI (k := a) (N := 6) (by omega) (by decide)
  have cc := clN (k := a) (by omega)
  obtain ⟨a1, a2⟩ := h1 a ha
  have iha := inb_nI (k := s.1 a) (N := 6) (by omega) (by decide)
  have cha := clN (k := s.1 a) (by omega)
  obtain ⟨q1, q2, q3, q4, q5, q6⟩ := h2 _ a2
  obtain ⟨y1, y2, y3, y4, y5, y6⟩ := h2 a ha
  unfold X7_sees
  simp only [grd_t ic, bnd_e, cc, a1, grd_t iha, cha, q1, y3, y4, y5, u2_k _ _ _ (show 10 ≠ 12 by decide), u2_k _ _ _ (show 3 ≠ 12 by decide), u2_k _ _ _ (show 13 ≠ 12 by decide)]
  have hl2 : ∀ v v2 z, X7_lastsOf z (u2 (u2 τ 12 a v) 13 a v2) = X7_lastsOf z τ := fun v v2 z => lastsOf_frame (by rw [u2_k _ _ _ (by decide), u2_k _ _ _ (by decide)]) (by rw [u2_k _ _ _ (by decide), u2_k _ _ _ (by decide)]) z
  have key : ∀ x, x = (cb a ||| (if X7_isIn (s.2.1 (s.1 a)) (w a) = 0 then 0 else (1 : Int32) <<< (nI (s.1 a) &&& 31))) → RM n la w (showF s a) (seesC w s cb a) (u2 (u2 τ 12 a (s.2.2.2 a ||| s.2.1 (s.1 a))) 13 a x) := by
    intro x hx
    refine ⟨fun p hp => ?_, fun p hp => ?_, ?_⟩
    · rw [u2_k _ _ _ (show 9 ≠ 13 by decide), u2_k _ _ _ (show 9 ≠ 12 by decide)]; exact h1 p hp
    · obtain ⟨g1, g2, g3, g4, g5, g6⟩ := h2 p hp
      unfold showF seesC
      dsimp only
      rw [hl2, u2_k _ _ _ (show 10 ≠ 13 by decide), u2_k _ _ _ (show 10 ≠ 12 by decide), u2_k _ _ _ (show 11 ≠ 13 by decide), u2_k _ _ _ (show 11 ≠ 12 by decide), u2_k _ _ _ (show 12 ≠ 13 by decide), u2_k _ _ _ (show 3 ≠ 13 by decide), u2_k _ _ _ (show 3 ≠ 12 by decide)]
      by_cases hpa : p = a
      · subst hpa; rw [u2_s, u2_s, vup_s, vup_s]; exact ⟨g1, g2, rfl, hx, g5, g6⟩
      · rw [u2_j _ _ _ hpa, u2_j _ _ _ hpa, vup_n _ _ hpa, vup_n _ _ hpa, u2_k _ _ _ (show 13 ≠ 12 by decide)]; exact ⟨g1, g2, g3, g4, g5, g6⟩
    · rw [u2_k _ _ _ (show 0 ≠ 13 by decide), u2_k _ _ _ (show 0 ≠ 12 by decide)]; exact h3
  by_cases c : X7_isIn (s.2.1 (s.1 a)) (w a) = 0
  · rw [if_pos c]
    exact ⟨_, rfl, key _ (by rw [if_pos c]), fun k k1 k2 => by rw [u2_k _ _ _ k2, u2_k _ _ _ k1]⟩
  · rw [if_neg c]
    exact ⟨_, rfl, key _ (by rw [if_neg c]), fun k k1 k2 => by rw [u2_k _ _ _ k2, u2_k _ _ _ k1]⟩
