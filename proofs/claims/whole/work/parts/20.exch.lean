-- exchanges as plain functions; the class's exchange is one
theorem ob_e {α β : Type} (a : α) (f : α → Option β) : Option.bind (some a) f = f a := Eq.trans (Option.bind_some a f) rfl
theorem bnd_e {α β : Type} (a : α) (f : α → β) : bnd a f = f a := Eq.trans (by unfold bnd; rfl) rfl
abbrev ES : Type := (Nat → Nat) × (Nat → Int32) × (Nat → Int32) × (Nat → Int32)
def wearF (la : Nat → Int32) (s : ES) (c : Nat) : ES := (s.1, (if s.2.2.1 c + 1 ≤ la c then s.2.1 else va_up s.2.1 c (s.2.1 c &&& (s.2.1 c - 1))), va_up s.2.2.1 c (s.2.2.1 c + 1), s.2.2.2)
def swapF (s : ES) (a b : Nat) : ES := (va_up (va_up s.1 a (s.1 b)) b (s.1 a), s.2.1, s.2.2.1, s.2.2.2)
def showF (s : ES) (p : Nat) : ES := (s.1, s.2.1, s.2.2.1, va_up s.2.2.2 p (s.2.2.2 p ||| s.2.1 (s.1 p)))
def lendW (la : Nat → Int32) (s : ES) (a b : Nat) : ES := wearF la (wearF la (swapF s a b) ((swapF s a b).1 a)) ((swapF s a b).1 b)
def lendF (la : Nat → Int32) (s : ES) (a b : Nat) : ES := showF (showF (lendW la s a b) a) b
def canI (s : ES) (a b : Nat) : Int32 := if a = b then 0 else if s.2.1 (s.1 a) = 0 then 0 else if s.2.1 (s.1 b) = 0 then 0 else 1
def shF (s : ES) (sh : Nat → Int32) (a : Nat) : Nat → Int32 := upd sh (6 * a + s.1 a) (sh (6 * a + s.1 a) ||| s.2.1 (s.1 a))
def RX (e n : Nat) (la : Nat → Int32) (s : ES) (σ : Mem) : Prop := (∀ p, p < n → σ (e + 4) p = nI (s.1 p) ∧ s.1 p < n) ∧ (∀ p, p < n → σ (e + 1) p = s.2.1 p ∧ σ (e + 2) p = la p ∧ σ (e + 3) p = s.2.2.1 p ∧ σ (e + 5) p = s.2.2.2 p) ∧ σ e 6 = 2 ∧ σ e 7 = nI n
theorem vup_s {α : Type} (f : Nat → α) (k : Nat) (v : α) : va_up f k v k = v := by simp [va_up]
theorem vup_n {α : Type} (f : Nat → α) {k j : Nat} (v : α) (h : j ≠ k) : va_up f k v j = f j := by simp [va_up, h]
theorem x_can {e n : Nat} {la : Nat → Int32} {s : ES} {σ : Mem} (hn : n ≤ 6) (h : RX e n la s σ) {a b : Nat} (ha : a < n) (hb : b < n) : X0_canLend e (nI a) (nI b) σ = some (canI s a b) := by
  obtain ⟨h1, h2, h3, h4⟩ := h
  obtain ⟨a1, a2⟩ := h1 a ha
  obtain ⟨b1, b2⟩ := h1 b hb
  unfold X0_canLend canI
  have ia := inb_nI (k := a) (N := 6) (by omega) (by decide)
  have ib := inb_nI (k := b) (N := 6) (by omega) (by decide)
  have iha := inb_nI (k := s.1 a) (N := 6) (by omega) (by decide)
  have ihb := inb_nI (k := s.1 b) (N := 6) (by omega) (by decide)
  have ca := clN (k := a) (by omega)
  have cb := clN (k := b) (by omega)
  have cha := clN (k := s.1 a) (by omega)
  have chb := clN (k := s.1 b) (by omega)
  have la1 := (h2 _ a2).1
  have lb1 := (h2 _ b2).1
  by_cases hab : a = b
  · subst hab
    rw [if_pos rfl, if_pos rfl]
  rw [if_neg (show ¬ nI a = nI b from fun q => hab (nI_inj (by omega) (by omega) q)), if_neg hab, grd_t ia, ca, a1, grd_t iha, cha, la1]
  by_cases c1 : s.2.1 (s.1 a) = 0
  · rw [if_pos c1, if_pos c1]
  rw [if_neg c1, if_neg c1, grd_t ib, cb, b1, grd_t ihb, chb, lb1]
  by_cases c2 : s.2.1 (s.1 b) = 0
  · rw [if_pos c2, if_pos c2]
  · rw [if_neg c2, if_neg c2]
theorem x_wear {e n : Nat} {la : Nat → Int32} {s : ES} {σ : Mem} (hn : n ≤ 6) (h : RX e n la s σ) {c : Nat} (hc : c < n) : ∃ σ', X0_wearOff e (nI c) σ = some σ' ∧ RX e n la (wearF la s c) σ' ∧ ∀ k, k ≠ e + 1 → k ≠ e + 3 → σ' k = σ k := by
  obtain ⟨h1, h2, h3, h4⟩ := h
  have ic := inb_nI (k := c) (N := 6) (by omega) (by decide)
  have cc := clN (k := c) (by omega)
  obtain ⟨q1, q2, q3, q4⟩ := h2 c hc
  unfold X0_wearOff
  simp only [grd_t ic, bnd_e, cc, u2_s, q1, q2, q3, u2_k _ _ _ (show e + 2 ≠ e + 3 by omega), u2_k _ _ _ (show e + 1 ≠ e + 3 by omega)]
  by_cases hle : s.2.2.1 c + 1 ≤ la c
  · rw [if_pos hle]
    refine ⟨_, rfl, ⟨fun p hp => ?_, fun p hp => ?_, ?_, ?_⟩, fun k k1 k2 => u2_k _ _ _ k2⟩
    · rw [u2_k _ _ _ (show e + 4 ≠ e + 3 by omega)]; exact h1 p hp
    · obtain ⟨g1, g2, g3, g4⟩ := h2 p hp
      unfold wearF
      simp only [if_pos hle]
      rw [u2_k _ _ _ (show e + 1 ≠ e + 3 by omega), u2_k _ _ _ (show e + 2 ≠ e + 3 by omega), u2_k _ _ _ (show e + 5 ≠ e + 3 by omega)]
      refine ⟨g1, g2, ?_, g4⟩
      by_cases hpc : p = c
      · subst hpc; rw [u2_s, vup_s]
      · rw [u2_j _ _ _ hpc, vup_n _ _ hpc]; exact g3
    · rw [u2_k _ _ _ (show e ≠ e + 3 by omega)]; exact h3
    · rw [u2_k _ _ _ (show e ≠ e + 3 by omega)]; exact h4
  · rw [if_neg hle]
    refine ⟨_, rfl, ⟨fun p hp => ?_, fun p hp => ?_, ?_, ?_⟩, fun k k1 k2 => by rw [u2_k _ _ _ k1, u2_k _ _ _ k2]⟩
    · rw [u2_k _ _ _ (show e + 4 ≠ e + 1 by omega), u2_k _ _ _ (show e + 4 ≠ e + 3 by omega)]; exact h1 p hp
    · obtain ⟨g1, g2, g3, g4⟩ := h2 p hp
      unfold wearF
      simp only [if_neg hle]
      rw [u2_k _ _ _ (show e + 2 ≠ e + 1 by omega), u2_k _ _ _ (show e + 2 ≠ e + 3 by omega), u2_k _ _ _ (show e + 5 ≠ e + 1 by omega), u2_k _ _ _ (show e + 5 ≠ e + 3 by omega), u2_k _ _ _ (show e + 3 ≠ e + 1 by omega)]
      by_cases hpc : p = c
      · subst hpc; rw [u2_s, u2_s, vup_s, vup_s]; exact ⟨rfl, g2, rfl, g4⟩
      · rw [u2_j _ _ _ hpc, u2_j _ _ _ hpc, vup_n _ _ hpc, vup_n _ _ hpc, u2_k _ _ _ (show e + 1 ≠ e + 3 by omega)]; exact ⟨g1, g2, g3, g4⟩
    · rw [u2_k _ _ _ (show e ≠ e + 1 by omega), u2_k _ _ _ (show e ≠ e + 3 by omega)]; exact h3
    · rw [u2_k _ _ _ (show e ≠ e + 1 by omega), u2_k _ _ _ (show e ≠ e + 3 by omega)]; exact h4
theorem x_show {e n : Nat} {la : Nat → Int32} {s : ES} {σ : Mem} (hn : n ≤ 6) (h : RX e n la s σ) {a : Nat} (ha : a < n) : ∃ σ', X0_show e (nI a) σ = some σ' ∧ RX e n la (showF s a) σ' ∧ (∀ k, k ≠ e + 5 → k ≠ e + 6 → σ' k = σ k) ∧ σ' (e + 6) = shF s (σ (e + 6)) a := by
  obtain ⟨h1, h2, h3, h4⟩ := h
  have ic := inb_nI (k := a) (N := 6) (by omega) (by decide)
  have cc := clN (k := a) (by omega)
  obtain ⟨a1, a2⟩ := h1 a ha
  have iha := inb_nI (k := s.1 a) (N := 6) (by omega) (by decide)
  have cha := clN (k := s.1 a) (by omega)
  obtain ⟨q1, q2, q3, q4⟩ := h2 _ a2
  obtain ⟨y1, y2, y3, y4⟩ := h2 a ha
  have i36 := inb_nI (k := 6 * a + s.1 a) (N := 36) (by omega) (by decide)
  have c36 := clN (k := 6 * a + s.1 a) (by omega)
  unfold X0_show
  simp only [grd_t ic, bnd_e, cc, a1, grd_t iha, cha, q1, y4, u2_k _ _ _ (show e + 4 ≠ e + 5 by omega), u2_k _ _ _ (show e + 6 ≠ e + 5 by omega), u2_k _ _ _ (show e + 1 ≠ e + 5 by omega), m6_nI, nI_add, grd_t i36, c36]
  refine ⟨_, rfl, ⟨fun p hp => ?_, fun p hp => ?_, ?_, ?_⟩, fun k k1 k2 => by rw [u2_k _ _ _ k2, u2_k _ _ _ k1], ?_⟩
  · rw [u2_k _ _ _ (show e + 4 ≠ e + 6 by omega), u2_k _ _ _ (show e + 4 ≠ e + 5 by omega)]; exact h1 p hp
  · obtain ⟨g1, g2, g3, g4⟩ := h2 p hp
    unfold showF
    dsimp only
    rw [u2_k _ _ _ (show e + 1 ≠ e + 6 by omega), u2_k _ _ _ (show e + 1 ≠ e + 5 by omega), u2_k _ _ _ (show e + 2 ≠ e + 6 by omega), u2_k _ _ _ (show e + 2 ≠ e + 5 by omega), u2_k _ _ _ (show e + 3 ≠ e + 6 by omega), u2_k _ _ _ (show e + 3 ≠ e + 5 by omega), u2_k _ _ _ (show e + 5 ≠ e + 6 by omega)]
    refine ⟨g1, g2, g3, ?_⟩
    by_cases hpa : p = a
    · subst hpa; rw [u2_s, vup_s]
    · rw [u2_j _ _ _ hpa, vup_n _ _ hpa]; exact g4
  · rw [u2_k _ _ _ (show e ≠ e + 6 by omega), u2_k _ _ _ (show e ≠ e + 5 by omega)]; exact h3
  · rw [u2_k _ _ _ (show e ≠ e + 6 by omega), u2_k _ _ _ (show e ≠ e + 5 by omega)]; exact h4
  · unfold shF u2
    rw [u1_s, u1_n _ _ (show e + 6 ≠ e + 5 by omega)]
theorem swap_lt {n : Nat} {s : ES} {a b : Nat} (h : ∀ p, p < n → s.1 p < n) (ha : a < n) (hb : b < n) : ∀ p, p < n → (swapF s a b).1 p < n := by
  intro p hp
  unfold swapF
  dsimp only
  by_cases h1 : p = b
  · subst h1
    rw [vup_s]; exact h a ha
  · rw [vup_n _ _ h1]
    by_cases h2 : p = a
    · subst h2
      rw [vup_s]; exact h b hb
    · rw [vup_n _ _ h2]; exact h p hp
theorem x_lend {e n : Nat} {la : Nat → Int32} {s : ES} {σ : Mem} (hn : n ≤ 6) (h : RX e n la s σ) {a b : Nat} (ha : a < n) (hb : b < n) : ∃ σ', X0_lend e (nI a) (nI b) σ = some σ' ∧ RX e n la (lendF la s a b) σ' ∧ (∀ k, k < e + 1 ∨ k = e + 2 ∨ e + 7 ≤ k → σ' k = σ k) ∧ σ' (e + 6) = shF (lendW la s a b) (shF (lendW la s a b) (σ (e + 6)) a) b := by
  obtain ⟨h1, h2, h3, h4⟩ := h
  have ia := inb_nI (k := a) (N := 6) (by omega) (by decide)
  have ib := inb_nI (k := b) (N := 6) (by omega) (by decide)
  have ca := clN (k := a) (by omega)
  have cb := clN (k := b) (by omega)
  obtain ⟨a1, a2⟩ := h1 a ha
  obtain ⟨b1, b2⟩ := h1 b hb
  unfold X0_lend
  simp only [grd_t ia, grd_t ib, bnd_e, ca, cb, a1, b1]
  generalize hσ : u2 (u2 σ (e + 4) a (nI (s.1 b))) (e + 4) b (nI (s.1 a)) = σ1
  have k1 : ∀ k, k ≠ e + 4 → σ1 k = σ k := fun k hk => by rw [← hσ, u2_k _ _ _ hk, u2_k _ _ _ hk]
  have lt1 := swap_lt (s := s) (fun p hp => (h1 p hp).2) ha hb
  have hR1 : RX e n la (swapF s a b) σ1 := by
    refine ⟨fun p hp => ⟨?_, lt1 p hp⟩, fun p hp => ?_, ?_, ?_⟩
    · rw [← hσ]
      unfold swapF
      dsimp only
      by_cases hpb : p = b
      · subst hpb; rw [u2_s, vup_s]
      · rw [u2_j _ _ _ hpb, vup_n _ _ hpb]
        by_cases hpa : p = a
        · subst hpa; rw [u2_s, vup_s]
        · rw [u2_j _ _ _ hpa, vup_n _ _ hpa]; exact (h1 p hp).1
    · rw [k1 _ (show e + 1 ≠ e + 4 by omega), k1 _ (show e + 2 ≠ e + 4 by omega), k1 _ (show e + 3 ≠ e + 4 by omega), k1 _ (show e + 5 ≠ e + 4 by omega)]
      exact h2 p hp
    · rw [k1 _ (show e ≠ e + 4 by omega)]; exact h3
    · rw [k1 _ (show e ≠ e + 4 by omega)]; exact h4
  rw [(hR1.1 a ha).1]
  obtain ⟨σ2, e2, hR2, f2⟩ := x_wear hn hR1 (lt1 a ha)
  rw [e2, ob_e]
  have hb2 : σ2 (e + 4) b = nI ((swapF s a b).1 b) := (hR2.1 b hb).1
  rw [hb2]
  obtain ⟨σ3, e3, hR3, f3⟩ := x_wear hn hR2 (lt1 b hb)
  rw [e3, ob_e]
  obtain ⟨σ4, e4, hR4, f4, g4⟩ := x_show hn hR3 ha
  rw [e4, ob_e]
  obtain ⟨σ5, e5, hR5, f5, g5⟩ := x_show hn hR4 hb
  rw [e5, ob_e]
  refine ⟨σ5, rfl, hR5, fun k hk => ?_, ?_⟩
  · rw [f5 k (by omega) (by omega), f4 k (by omega) (by omega), f3 k (by omega) (by omega), f2 k (by omega) (by omega), k1 k (by omega)]
  · rw [g5, g4, f3 _ (by omega) (by omega), f2 _ (by omega) (by omega), k1 _ (by omega)]
    rfl
