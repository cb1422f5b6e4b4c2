-- lends, beginnings, who is mended
theorem RM.congr {n : Nat} {la w cb cb' : Nat → Int32} {s s' : ES} {τ : Mem} (h : RM n la w s cb τ) (e : ∀ p, p < n → s'.1 p = s.1 p ∧ s'.2.1 p = s.2.1 p ∧ s'.2.2.1 p = s.2.2.1 p ∧ s'.2.2.2 p = s.2.2.2 p ∧ cb' p = cb p) : RM n la w s' cb' τ := by
  obtain ⟨h1, h2, h3⟩ := h
  refine ⟨fun p hp => ?_, fun p hp => ?_, h3⟩
  · rw [(e p hp).1]; exact h1 p hp
  · obtain ⟨e1, e2, e3, e4, e5⟩ := e p hp
    rw [e2, e3, e4, e5]; exact h2 p hp
theorem m_lend {n : Nat} {la w cb : Nat → Int32} {s : ES} {τ : Mem} (hn : n ≤ 6) (h : RM n la w s cb τ) {a b : Nat} (ha : a < n) (hb : b < n) : ∃ τ', X7_lend (nI a) (nI b) τ = some τ' ∧ RM n la w (lendF la s a b) (seesC w (lendW la s a b) (seesC w (lendW la s a b) cb a) b) τ' ∧ ∀ k, k < 9 ∨ 14 ≤ k → τ' k = τ k := by
  obtain ⟨h1, h2, h3⟩ := h
  have ia := inb_nI (k := a) (N := 6) (by omega) (by decide)
  have ib := inb_nI (k := b) (N := 6) (by omega) (by decide)
  have ca := clN (k := a) (by omega)
  have cb2 := clN (k := b) (by omega)
  obtain ⟨a1, a2⟩ := h1 a ha
  obtain ⟨b1, b2⟩ := h1 b hb
  unfold X7_lend
  simp only [grd_t ia, grd_t ib, bnd_e, ca, cb2, a1, b1]
  generalize hσ : u2 (u2 τ 9 a (nI (s.1 b))) 9 b (nI (s.1 a)) = τ1
  have k1 : ∀ k, k ≠ 9 → τ1 k = τ k := fun k hk => by rw [← hσ, u2_k _ _ _ hk, u2_k _ _ _ hk]
  have lt1 := swap_lt (s := s) (fun p hp => (h1 p hp).2) ha hb
  have hR1 : RM n la w (swapF s a b) cb τ1 := by
    refine ⟨fun p hp => ⟨?_, lt1 p hp⟩, fun p hp => ?_, ?_⟩
    · rw [← hσ]
      unfold swapF
      dsimp only
      by_cases hpb : p = b
      · subst hpb; rw [u2_s, vup_s]
      · rw [u2_j _ _ _ hpb, vup_n _ _ hpb]
        by_cases hpa : p = a
        · subst hpa; rw [u2_s, vup_s]
        · rw [u2_j _ _ _ hpa, vup_n _ _ hpa]; exact (h1 p hp).1
    · rw [k1 10 (by decide), k1 11 (by decide), k1 12 (by decide), k1 13 (by decide), k1 3 (by decide), lastsOf_frame (k1 1 (by decide)) (k1 4 (by decide))]
      exact h2 p hp
    · rw [k1 0 (by decide)]; exact h3
  rw [(hR1.1 a ha).1]
  obtain ⟨τ2, e2, hR2, f2⟩ := m_wear hn hR1 (lt1 a ha)
  rw [e2, ob_e]
  have hb2 : τ2 9 b = nI ((swapF s a b).1 b) := (hR2.1 b hb).1
  rw [hb2]
  obtain ⟨τ3, e3, hR3, f3⟩ := m_wear hn hR2 (lt1 b hb)
  rw [e3, ob_e]
  obtain ⟨τ4, e4, hR4, f4⟩ := m_sees hn hR3 ha
  rw [e4, ob_e]
  obtain ⟨τ5, e5, hR5, f5⟩ := m_sees hn hR4 hb
  rw [e5, ob_e]
  refine ⟨τ5, rfl, hR5, fun k hk => ?_⟩
  rw [f5 k (by omega) (by omega), f4 k (by omega) (by omega), f3 k (by omega) (by omega), f2 k (by omega) (by omega), k1 k (by omega)]
theorem mb_loop1 {F n : Nat} (kk : Mem → Option Mem) (hn : n ≤ 6) : ∀ (f p : Nat) (τ : Mem), p ≤ n → n - p < f → τ 0 1 = nI n →
    ∃ τ', X7_begin_L2 F kk f (nI p) τ = kk τ' ∧ (∀ z, z < 9 ∨ 14 ≤ z → τ' z = τ z) ∧ (∀ q z, q < p → τ' z q = τ z q) ∧ (∀ q, p ≤ q → q < n → τ' 9 q = nI q ∧ τ' 10 q = τ 2 q ∧ τ' 11 q = 0 ∧ τ' 12 q = 0 ∧ τ' 13 q = 0) := by
  intro f
  induction f with
  | zero => intro p τ h1 h2; omega
  | succ f ih =>
    intro p τ h1 h2 h7
    rw [X7_begin_L2, h7]
    by_cases c : p = n
    · subst c
      rw [if_pos (nI_le (Nat.le_refl _) (by omega))]
      exact ⟨τ, rfl, fun _ _ => rfl, fun _ _ _ => rfl, fun q h1 h2 => absurd h2 (by omega)⟩
    have ip := inb_nI (k := p) (N := 6) (by omega) (by decide)
    have cp := clN (k := p) (by omega)
    rw [if_neg (nI_ge (by omega) (by omega))]
    simp only [grd_t ip, bnd_e, cp, nI_1, u2_k _ _ _ (show 2 ≠ 9 by decide)]
    generalize hσ : u2 (u2 (u2 (u2 (u2 τ 9 p (nI p)) 10 p (τ 2 p)) 11 p 0) 12 p 0) 13 p 0 = τ1
    have k0 : ∀ z, z < 9 ∨ 14 ≤ z → τ1 z = τ z := fun z hz => by
      rw [← hσ, u2_k _ _ _ (show z ≠ 13 by omega), u2_k _ _ _ (show z ≠ 12 by omega), u2_k _ _ _ (show z ≠ 11 by omega), u2_k _ _ _ (show z ≠ 10 by omega), u2_k _ _ _ (show z ≠ 9 by omega)]
    have k1 : ∀ q z, q ≠ p → τ1 z q = τ z q := fun q z hq => by
      rw [← hσ]
      simp only [u2_at, hq, and_false, if_false]
    have k2 : τ1 9 p = nI p ∧ τ1 10 p = τ 2 p ∧ τ1 11 p = 0 ∧ τ1 12 p = 0 ∧ τ1 13 p = 0 := by
      rw [← hσ]
      refine ⟨?_, ?_, ?_, ?_, ?_⟩
      · rw [u2_k _ _ _ (by decide), u2_k _ _ _ (by decide), u2_k _ _ _ (by decide), u2_k _ _ _ (by decide), u2_s]
      · rw [u2_k _ _ _ (by decide), u2_k _ _ _ (by decide), u2_k _ _ _ (by decide), u2_s]
      · rw [u2_k _ _ _ (by decide), u2_k _ _ _ (by decide), u2_s]
      · rw [u2_k _ _ _ (by decide), u2_s]
      · rw [u2_s]
    obtain ⟨τ2, e2, q0, q1, q2⟩ := ih (p + 1) τ1 (by omega) (by omega) (by rw [k0 0 (by omega)]; exact h7)
    refine ⟨τ2, e2, fun z hz => (q0 z hz).trans (k0 z hz), fun q z hq => (q1 q z (by omega)).trans (k1 q z (by omega)), fun q hq hqn => ?_⟩
    by_cases hqp : q = p
    · subst hqp
      rw [q1 q 9 (by omega), q1 q 10 (by omega), q1 q 11 (by omega), q1 q 12 (by omega), q1 q 13 (by omega)]
      exact k2
    · have := q2 q (by omega) hqn
      rw [k0 2 (by omega)] at this
      exact this
theorem mb_loop2 {F n : Nat} {la w : Nat → Int32} (kk : Mem → Option Mem) (hn : n ≤ 6) : ∀ (f p : Nat) (s : ES) (cb : Nat → Int32) (τ : Mem), p ≤ n → n - p < f → RM n la w s cb τ → (∀ q, q < n → s.1 q = q) →
    ∃ s' cb' τ', X7_begin_L58 F kk f (nI p) τ = kk τ' ∧ RM n la w s' cb' τ' ∧ (∀ z, z < 9 ∨ 14 ≤ z → τ' z = τ z) ∧ s'.1 = s.1 ∧ s'.2.1 = s.2.1 ∧ s'.2.2.1 = s.2.2.1 ∧ (∀ q, q < p → s'.2.2.2 q = s.2.2.2 q ∧ cb' q = cb q) ∧ (∀ q, p ≤ q → q < n → s'.2.2.2 q = (s.2.2.2 q ||| s.2.1 q) ∧ cb' q = (cb q ||| (if X7_isIn (s.2.1 q) (w q) = 0 then 0 else (1 : Int32) <<< (nI q &&& 31)))) := by
  intro f
  induction f with
  | zero => intro p s cb τ h1 h2; omega
  | succ f ih =>
    intro p s cb τ h1 h2 hR hid
    rw [X7_begin_L58, hR.2.2]
    by_cases c : p = n
    · subst c
      rw [if_pos (nI_le (Nat.le_refl _) (by omega))]
      exact ⟨s, cb, τ, rfl, hR, fun _ _ => rfl, rfl, rfl, rfl, fun _ _ => ⟨rfl, rfl⟩, fun q h1 h2 => absurd h2 (by omega)⟩
    rw [if_neg (nI_ge (by omega) (by omega))]
    obtain ⟨τ1, e1, hR1, f1⟩ := m_sees hn hR (show p < n by omega)
    rw [e1, ob_e, nI_1]
    obtain ⟨s2, cb2, τ2, e2, hR2, f2, q1, q2, q3, q4, q5⟩ := ih (p + 1) (showF s p) (seesC w s cb p) τ1 (by omega) (by omega) hR1 hid
    have hidp := hid p (by omega)
    refine ⟨s2, cb2, τ2, e2, hR2, fun z hz => (f2 z hz).trans (f1 z (by omega) (by omega)), q1, q2, q3, fun q hq => ?_, fun q hq hqn => ?_⟩
    · obtain ⟨w1, w2⟩ := q4 q (by omega)
      rw [w1, w2]
      unfold showF seesC
      dsimp only
      rw [vup_n _ _ (show q ≠ p by omega), vup_n _ _ (show q ≠ p by omega)]
      exact ⟨rfl, rfl⟩
    · by_cases hqp : q = p
      · subst hqp
        obtain ⟨w1, w2⟩ := q4 q (by omega)
        rw [w1, w2]
        unfold showF seesC
        dsimp only
        rw [vup_s, vup_s, hidp]
        exact ⟨rfl, rfl⟩
      · obtain ⟨w1, w2⟩ := q5 q (by omega) hqn
        rw [w1, w2]
        unfold showF seesC
        dsimp only
        rw [vup_n _ _ hqp, vup_n _ _ hqp]
        exact ⟨rfl, rfl⟩
def s0M (sc : Nat → Int32) : ES := (fun p => p, sc, fun _ => 0, sc)
def cb0 (sc w : Nat → Int32) : Nat → Int32 := fun p => if X7_isIn (sc p) (w p) = 0 then 0 else (1 : Int32) <<< (nI p &&& 31)
theorem m_begin {F n : Nat} {la w sc : Nat → Int32} {τ : Mem} (hF0 : 50000 ≤ F) (hn : n ≤ 6) (h1 : τ 0 1 = nI n) (h2 : ∀ p, p < n → τ 2 p = sc p ∧ τ 3 p = w p ∧ X7_lastsOf (nI p) τ = some (la p)) :
    ∃ τ', X7_begin F τ = some τ' ∧ RM n la w (s0M sc) (cb0 sc w) τ' ∧ τ' 0 17 = -9 ∧ τ' 0 18 = -9 ∧ (∀ k, k ≠ 0 → (k < 9 ∨ 14 ≤ k) → τ' k = τ k) ∧ (∀ j, j ≠ 17 → j ≠ 18 → τ' 0 j = τ 0 j) := by
  unfold X7_begin
  simp only [bnd_e]
  obtain ⟨τ1, e1, g1, g2, g3⟩ := mb_loop1 (F := F) (fun σ_18 => X7_begin_L58 F (fun σ_22 => some (u2 (u2 σ_22 0 17 (-9)) 0 18 (-9))) F 0 σ_18) hn F 0 τ (by omega) (by omega) h1
  rw [nI_0] at e1
  rw [e1]
  have hR1 : RM n la w (fun p => p, sc, fun _ => 0, fun _ => 0) (fun _ => 0) τ1 := by
    refine ⟨fun p hp => ⟨(g3 p (by omega) hp).1, hp⟩, fun p hp => ?_, ?_⟩
    · obtain ⟨w1, w2, w3, w4, w5⟩ := g3 p (by omega) hp
      obtain ⟨y1, y2, y3⟩ := h2 p hp
      rw [lastsOf_frame (g1 1 (by omega)) (g1 4 (by omega)), g1 3 (by omega)]
      exact ⟨w2.trans y1, w3, w4, w5, y2, y3⟩
    · rw [g1 0 (by omega)]; exact h1
  obtain ⟨s2, cb2, τ2, e2, hR2, f2, q1, q2, q3, q4, q5⟩ := mb_loop2 (F := F) (la := la) (w := w) (fun σ_22 => some (u2 (u2 σ_22 0 17 (-9)) 0 18 (-9))) hn F 0 _ _ τ1 (by omega) (by omega) hR1 (fun q _ => rfl)
  rw [nI_0] at e2
  rw [e2]
  have hl : ∀ z, X7_lastsOf z (u2 (u2 τ2 0 17 (-9)) 0 18 (-9)) = X7_lastsOf z τ2 := fun z => lastsOf_frame (by rw [u2_k _ _ _ (by decide), u2_k _ _ _ (by decide)]) (by rw [u2_k _ _ _ (by decide), u2_k _ _ _ (by decide)]) z
  have hk : ∀ k, k ≠ 0 → u2 (u2 τ2 0 17 (-9)) 0 18 (-9) k = τ2 k := fun k hk => by rw [u2_k _ _ _ hk, u2_k _ _ _ hk]
  refine ⟨_, rfl, ?_, ?_, ?_, fun k k0 kk => ?_, fun j j1 j2 => ?_⟩
  · have hR3 : RM n la w (s0M sc) (cb0 sc w) τ2 := hR2.congr (fun p hp => by
      obtain ⟨w1, w2⟩ := q5 p (by omega) hp
      rw [q1, q2, q3, w1, w2, Int32.zero_or, Int32.zero_or]
      exact ⟨rfl, rfl, rfl, rfl, rfl⟩)
    obtain ⟨y1, y2, y3⟩ := hR3
    refine ⟨fun p hp => ?_, fun p hp => ?_, ?_⟩
    · rw [hk 9 (by decide)]; exact y1 p hp
    · rw [hl, hk 10 (by decide), hk 11 (by decide), hk 12 (by decide), hk 13 (by decide), hk 3 (by decide)]; exact y2 p hp
    · rw [u2_j _ _ _ (by decide), u2_j _ _ _ (by decide)]; exact y3
  · rw [u2_j _ _ _ (by decide), u2_s]
  · rw [u2_s]
  · rw [hk k k0, f2 k kk, g1 k kk]
  · rw [u2_j _ _ _ j2, u2_j _ _ _ j1, f2 0 (by omega), g1 0 (by omega)]
/-- sets are small -/
def WF (n : Nat) (s : ES) : Prop := ∀ p, p < n → s.1 p < n ∧ (∃ x, x < 64 ∧ s.2.1 p = nI x) ∧ (∃ x, x < 64 ∧ s.2.2.2 p = nI x)
theorem and_small : ∀ x, x < 64 → ∃ y, y < 64 ∧ nI x &&& (nI x - 1) = nI y := by
  have h : ∀ x, x < 64 → (nI x &&& (nI x - 1)).toNatClampNeg < 64 ∧ nI x &&& (nI x - 1) = nI (nI x &&& (nI x - 1)).toNatClampNeg := by decide +kernel
  exact fun x hx => ⟨_, h x hx⟩
theorem or_small : ∀ x, x < 64 → ∀ y, y < 64 → ∃ z, z < 64 ∧ nI x ||| nI y = nI z := by
  have h : ∀ x, x < 64 → ∀ y, y < 64 → nI x ||| nI y = nI (x ||| y) := by
    intro x hx y hy
    rw [i32_eq, t32 (by have := Nat.or_lt_two_pow (n := 6) hx hy; omega)]
    have h2 : ∀ x, x < 64 → ∀ y, y < 64 → (nI x ||| nI y).toInt = ((x ||| y : Nat) : Int) := by decide +kernel
    exact h2 x hx y hy
  exact fun x hx y hy => ⟨x ||| y, Nat.or_lt_two_pow (n := 6) hx hy, h x hx y hy⟩
theorem wear_WF {n : Nat} {s : ES} (h : WF n s) (la : Nat → Int32) {c : Nat} (hc : c < n) : WF n (wearF la s c) := by
  intro p hp
  obtain ⟨h1, h2, h3⟩ := h p hp
  refine ⟨h1, ?_, h3⟩
  unfold wearF
  dsimp only
  split
  · exact h2
  · by_cases hpc : p = c
    · subst hpc
      rw [vup_s]
      obtain ⟨x, hx, e⟩ := h2
      rw [e]
      exact and_small x hx
    · rw [vup_n _ _ hpc]; exact h2
theorem show_WF {n : Nat} {s : ES} (h : WF n s) {a : Nat} (ha : a < n) : WF n (showF s a) := by
  intro p hp
  obtain ⟨h1, h2, h3⟩ := h p hp
  refine ⟨h1, h2, ?_⟩
  unfold showF
  dsimp only
  by_cases hpa : p = a
  · subst hpa
    rw [vup_s]
    obtain ⟨x, hx, e⟩ := h3
    obtain ⟨y, hy, e2⟩ := (h _ h1).2.1
    rw [e, e2]
    exact or_small x hx y hy
  · rw [vup_n _ _ hpa]; exact h3
theorem lendW_WF {n : Nat} {s : ES} (h : WF n s) (la : Nat → Int32) {a b : Nat} (ha : a < n) (hb : b < n) : WF n (lendW la s a b) := by
  have lt1 := swap_lt (s := s) (fun p hp => (h p hp).1) ha hb
  have h1 : WF n (swapF s a b) := fun p hp => ⟨lt1 p hp, (h p hp).2⟩
  exact wear_WF (wear_WF h1 la (lt1 a ha)) la (lt1 b hb)
theorem lend_WF {n : Nat} {s : ES} (h : WF n s) (la : Nat → Int32) {a b : Nat} (ha : a < n) (hb : b < n) : WF n (lendF la s a b) := show_WF (show_WF (lendW_WF h la ha hb) ha) hb
def mdI (w : Nat → Int32) (s : ES) (p : Nat) : Int32 := if w p = 6 then 1 else if X7_isIn (s.2.2.2 p) (w p) = 0 then 0 else 1
def mskF (g : Nat → Int32) : Nat → Int32
  | 0 => 0
  | p + 1 => if g p = 0 then mskF g p else mskF g p ||| ((1 : Int32) <<< (nI p &&& 31))
theorem isMended_eq {n p : Nat} {la w cb : Nat → Int32} {s : ES} {τ : Mem} (hn : n ≤ 6) (h : RM n la w s cb τ) (hp : p < n) : X7_isMended (nI p) τ = some (mdI w s p) := by
  obtain ⟨q1, q2, q3, q4, q5, q6⟩ := h.2.1 p hp
  unfold X7_isMended mdI
  rw [grd_t (inb_nI (by omega) (by decide)), clN (by omega), q5, q3]
  by_cases c : w p = 6
  · rw [if_pos c, if_pos c]
  · rw [if_neg c, if_neg c, grd_t (inb_nI (by omega) (by decide)), grd_t (inb_nI (by omega) (by decide))]
    by_cases c2 : X7_isIn (s.2.2.2 p) (w p) = 0
    · rw [if_pos c2, if_pos c2]
    · rw [if_neg c2, if_neg c2]
theorem mm_loop {F n : Nat} {la w cb : Nat → Int32} {s : ES} {τ : Mem} (hn : n ≤ 6) (h : RM n la w s cb τ) : ∀ (f p : Nat), p ≤ n → n - p < f → X7_mendedNow_L4 F τ f (mskF (mdI w s) p) (nI p) = some (mskF (mdI w s) n) := by
  intro f
  induction f with
  | zero => intro p h1 h2; omega
  | succ f ih =>
    intro p h1 h2
    rw [X7_mendedNow_L4, h.2.2]
    by_cases c : p = n
    · subst c
      rw [if_pos (nI_le (Nat.le_refl _) (by omega))]
    rw [if_neg (nI_ge (by omega) (by omega)), isMended_eq hn h (show p < n by omega), ob_e]
    have := ih (p + 1) (by omega) (by omega)
    rw [mskF] at this
    by_cases c2 : mdI w s p = 0
    · rw [if_pos c2] at this
      rw [if_pos c2, bnd_e, nI_1, Int32.or_zero]; exact this
    · rw [if_neg c2] at this
      rw [if_neg c2, bnd_e, nI_1]; exact this
theorem m_mended {F n : Nat} {la w cb : Nat → Int32} {s : ES} {τ : Mem} (hF0 : 50000 ≤ F) (hn : n ≤ 6) (h : RM n la w s cb τ) : X7_mendedNow F τ = some (mskF (mdI w s) n) := by
  have := mm_loop (F := F) hn h F 0 (by omega) (by omega)
  rw [nI_0] at this
  exact this
theorem xmendedBy {p : Nat} {w : Nat → Int32} {s : ES} {σ : Mem} (hw : σ (22 + p) 2 = w p) (hw6 : ∃ z, z ≤ 6 ∧ w p = nI z) (hk : ∃ x, x < 64 ∧ s.2.2.2 p = nI x) : X3_isMendedBy (22 + p) (s.2.2.2 p) σ = mdI w s p := by
  unfold X3_isMendedBy X3_wantedSet mdI
  rw [hw]
  by_cases c : w p = 6
  · rw [if_pos c, if_pos c]
  · rw [if_neg c, if_neg c, if_neg c]
    obtain ⟨z, hz, e1⟩ := hw6
    obtain ⟨x, hx, e2⟩ := hk
    have hz6 : ¬ z = 6 := fun q => c (by rw [e1, q]; rfl)
    rw [e1, e2]
    rcases bit_eq z (by omega) x hx with ⟨b1, b2⟩ | ⟨b1, b2⟩
    · rw [if_pos b2, if_pos b1]
    · rw [if_neg b2, if_neg (by rw [b1]; decide)]
theorem xm_loop {F e n : Nat} {la w : Nat → Int32} {s : ES} {σ : Mem} (hn : n ≤ 6) (h : RX e n la s σ) (hW : WF n s) (hw : ∀ p, p < n → σ (22 + p) 2 = w p ∧ ∃ z, z ≤ 6 ∧ w p = nI z) : ∀ (f p : Nat), p ≤ n → n - p < f → X0_mended_L4 F e σ f (mskF (mdI w s) p) (nI p) = some (mskF (mdI w s) n) := by
  intro f
  induction f with
  | zero => intro p h1 h2; omega
  | succ f ih =>
    intro p h1 h2
    rw [X0_mended_L4, h.2.2.2]
    by_cases c : p = n
    · subst c
      rw [if_pos (nI_le (Nat.le_refl _) (by omega))]
    have ip := inb_nI (k := p) (N := 6) (by omega) (by decide)
    have cp := clN (k := p) (by omega)
    have h2t : isTwo 2 = true := rfl
    rw [if_neg (nI_ge (by omega) (by omega)), h.2.2.1, grd_t h2t, grd_t ip, grd_t ip, cp, (h.2.1 p (by omega)).2.2.2, xmendedBy (hw p (by omega)).1 (hw p (by omega)).2 (hW p (by omega)).2.2]
    have := ih (p + 1) (by omega) (by omega)
    rw [mskF] at this
    by_cases c2 : mdI w s p = 0
    · rw [if_pos c2] at this
      rw [if_pos c2, nI_1]; exact this
    · rw [if_neg c2] at this
      rw [if_neg c2, bnd_e, nI_1]; exact this
theorem x_mended {F e n : Nat} {la w : Nat → Int32} {s : ES} {σ : Mem} (hF0 : 50000 ≤ F) (hn : n ≤ 6) (h : RX e n la s σ) (hW : WF n s) (hw : ∀ p, p < n → σ (22 + p) 2 = w p ∧ ∃ z, z ≤ 6 ∧ w p = nI z) : X0_mended F e σ = some (mskF (mdI w s) n) := by
  have := xm_loop (F := F) hn h hW hw F 0 (by omega) (by omega)
  rw [nI_0] at this
  exact this
