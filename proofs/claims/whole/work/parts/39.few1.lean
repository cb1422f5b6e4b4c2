-- the reference's rows of loans
def FrF (τ0 τ : Mem) : Prop := (∀ k, k ≠ 0 → (k < 9 ∨ 15 ≤ k) → τ k = τ0 k) ∧ (∀ i, i ≠ 17 → i ≠ 18 → τ 0 i = τ0 0 i)
theorem FrF.r (τ : Mem) : FrF τ τ := ⟨fun _ _ _ => rfl, fun _ _ _ => rfl⟩
theorem FrF.t {a b c : Mem} (h : FrF a b) (g : FrF b c) : FrF a c := ⟨fun k h1 h2 => (g.1 k h1 h2).trans (h.1 k h1 h2), fun i h1 h2 => (g.2 i h1 h2).trans (h.2 i h1 h2)⟩
def PF (n : Nat) (sc w la : Nat → Int32) (τ : Mem) : Prop := τ 0 1 = nI n ∧ ∀ p, p < n → τ 2 p = sc p ∧ τ 3 p = w p ∧ X7_lastsOf (nI p) τ = some (la p)
theorem PF.fr {n : Nat} {sc w la : Nat → Int32} {τ τ' : Mem} (h : PF n sc w la τ) (hF : FrF τ τ') : PF n sc w la τ' := by
  refine ⟨by rw [hF.2 1 (by decide) (by decide)]; exact h.1, fun p hp => ?_⟩
  rw [hF.1 2 (by decide) (by decide), hF.1 3 (by decide) (by decide), lastsOf_frame (hF.1 1 (by decide) (by decide)) (hF.1 4 (by decide) (by decide))]
  exact h.2 p hp
theorem RM.k14 {n : Nat} {la w cb : Nat → Int32} {s : ES} {τ : Mem} (h : RM n la w s cb τ) (i : Nat) (v : Int32) : RM n la w s cb (u2 τ 14 i v) := by
  obtain ⟨y1, y2, y3⟩ := h
  have hk : ∀ k, k ≠ 14 → u2 τ 14 i v k = τ k := fun k h => u2_k _ _ _ h
  refine ⟨fun p hp => ?_, fun p hp => ?_, ?_⟩
  · rw [hk 9 (by decide)]; exact y1 p hp
  · rw [hk 10 (by decide), hk 11 (by decide), hk 12 (by decide), hk 13 (by decide), hk 3 (by decide), lastsOf_frame (hk 1 (by decide)) (hk 4 (by decide))]; exact y2 p hp
  · rw [hk 0 (by decide)]; exact y3
theorem dgl {F n L v : Nat} {la w cb : Nat → Int32} {s : ES} {v3 v5 : Int32} {kk : Mem → Option (Int32 × Mem)} (hL : L ≤ 3) (hv : v < 2 ^ 31) : ∀ (f t : Nat) (τ : Mem), t ≤ L → L - t < f → RM n la w s cb τ → (∀ i, L ≤ i + t → i < L → τ 14 i = nI (v / 36 ^ (L - 1 - i) % 36)) →
    ∃ τ', X7_isRow_L15 F (nI L) v3 v5 kk f (nI (v / 36 ^ t)) (dn (L - t)) τ = kk τ' ∧ RM n la w s cb τ' ∧ (∀ i, i < L → τ' 14 i = nI (v / 36 ^ (L - 1 - i) % 36)) ∧ (∀ k, k ≠ 14 → τ' k = τ k) := by
  intro f
  induction f with
  | zero => intro t τ h1 h2; omega
  | succ f ih =>
    intro t τ h1 h2 hR hd
    rw [X7_isRow_L15]
    by_cases e : t = L
    · subst e
      rw [Nat.sub_self, if_pos (show dn 0 < 0 by decide)]
      exact ⟨τ, rfl, hR, fun i hi => hd i (by omega) hi, fun _ _ => rfl⟩
    obtain ⟨p, hp⟩ : ∃ p, L - t = p + 1 := ⟨L - t - 1, by omega⟩
    have hvt : v / 36 ^ t < 2 ^ 31 := Nat.lt_of_le_of_lt (Nat.div_le_self _ _) hv
    have hdiv : v / 36 ^ t / 36 = v / 36 ^ (t + 1) := by rw [Nat.div_div_eq_div_mul, Nat.pow_succ]
    have e36 : (36 : Int32) = nI 36 := rfl
    have r1 : nI (v / 36 ^ t) - nI (v / 36 ^ t) / 36 * 36 = nI (v / 36 ^ t % 36) := by rw [e36]; exact pk_rem hvt (by decide) (by decide)
    have r2 : nI (v / 36 ^ t) / 36 = nI (v / 36 ^ (t + 1)) := by rw [e36, pk_div hvt (by decide) (by decide), hdiv]
    have ed : nI p + (-1) = dn (L - (t + 1)) := by
      rw [show L - (t + 1) = p by omega]
      exact dn_s p
    rw [hp, if_neg (dn_ge (by omega)), show dn (p + 1) = nI p from rfl, grd_t (inb_nI (by omega) (by decide)), bnd_e, bnd_e, clN (by omega), r1, r2, ed]
    obtain ⟨τ', e1, g1, g2, g3⟩ := ih (t + 1) (u2 τ 14 p (nI (v / 36 ^ t % 36))) (by omega) (by omega) (hR.k14 _ _) (fun i h3 h4 => by
      by_cases e2 : i = p
      · rw [e2, u2_s, show L - 1 - p = t by omega]
      · rw [u2_j _ _ _ e2]; exact hd i (by omega) h4)
    exact ⟨τ', e1, g1, g2, fun k hk => (g3 k hk).trans (u2_k _ _ _ hk)⟩
theorem d6 : ∀ d, d < 36 → nI d / 6 = nI (d / 6) ∧ nI d - nI d / 6 * 6 = nI (d % 6) := by decide +kernel
theorem r48z {F i L : Nat} {v3 : Int32} {τ : Mem} {kk : Int32 → Mem → Option (Int32 × Mem)} (f : Nat) : X7_isRow_L48 F (nI L) v3 kk (f + 1) 0 (nI i) τ = kk 0 τ := by
  rw [X7_isRow_L48]
  by_cases c : nI L ≤ nI i
  · rw [if_pos c]
  · rw [if_neg c, if_pos rfl]
theorem r48 {F n L v S : Nat} {la w : Nat → Int32} {v3 : Int32} {kk : Int32 → Mem → Option (Int32 × Mem)} (hn : n ≤ 6) (hL : L ≤ 3) (hS : S < 64) : ∀ (f i : Nat) (s : ES) (cb : Nat → Int32) (τ : Mem), i ≤ L → L + 1 - i < f → RM n la w s cb τ → (∀ j, j < L → τ 14 j = nI (v / 36 ^ (L - 1 - j) % 36)) →
    ∃ τ', FrF τ τ' ∧ τ' 14 = τ 14 ∧ ((∃ s' cb', X7_isRow_L48 F (nI L) v3 kk f 1 (nI i) τ = kk 1 τ' ∧ RM n la w s' cb' τ' ∧ decide (nd S (mkN (mdI w s') n) = 0) = tst n la w S (L - i) s (v % 36 ^ (L - i))) ∨ (X7_isRow_L48 F (nI L) v3 kk f 1 (nI i) τ = kk 0 τ' ∧ tst n la w S (L - i) s (v % 36 ^ (L - i)) = false)) := by
  intro f
  induction f with
  | zero => intro i s cb τ h1 h2; omega
  | succ f ih =>
    intro i s cb τ h1 h2 hR hd
    rw [X7_isRow_L48]
    by_cases e : i = L
    · subst e
      rw [if_pos (nI_le (Nat.le_refl _) (by omega)), Nat.sub_self]
      exact ⟨τ, FrF.r τ, rfl, Or.inl ⟨s, cb, rfl, hR, rfl⟩⟩
    have hdl : v / 36 ^ (L - 1 - i) % 36 < 36 := Nat.mod_lt _ (by decide)
    have es : L - i = (L - (i + 1)) + 1 := by omega
    have es2 : L - 1 - i = L - (i + 1) := by omega
    have eu1 : v % 36 ^ (L - i) % 36 ^ (L - (i + 1)) = v % 36 ^ (L - (i + 1)) := by rw [es]; exact (dig_s (n := 36) (L - (i + 1)) v).1
    have eu2 : v % 36 ^ (L - i) / 36 ^ (L - (i + 1)) % 36 = v / 36 ^ (L - 1 - i) % 36 := by rw [es2, es]; exact (dig_s (n := 36) (L - (i + 1)) v).2
    have et : tst n la w S (L - i) s (v % 36 ^ (L - i)) = if vld n s (v / 36 ^ (L - 1 - i) % 36) = true then tst n la w S (L - (i + 1)) (lendF la s (v / 36 ^ (L - 1 - i) % 36 / 6) (v / 36 ^ (L - 1 - i) % 36 % 6)) (v % 36 ^ (L - (i + 1))) else false := by
      rw [← eu2, ← eu1]
      rw [show tst n la w S (L - i) s (v % 36 ^ (L - i)) = tst n la w S ((L - (i + 1)) + 1) s (v % 36 ^ (L - i)) by rw [← es], tst]
    rw [et]
    obtain ⟨q1, q2⟩ := d6 _ hdl
    rw [if_neg (nI_ge (by omega) (by omega)), if_neg n10, grd_t (inb_nI (by omega) (by decide)), bnd_e, grd_t (inb_nI (by omega) (by decide)), bnd_e, clN (show i < 2 ^ 31 by omega), hd i (by omega), q2, q1, hR.2.2, nI_1]
    generalize v / 36 ^ (L - 1 - i) % 36 = d at hdl
    obtain ⟨f', rfl⟩ : ∃ f', f = f' + 1 := ⟨f - 1, by omega⟩
    by_cases c1 : d / 6 < d % 6
    rotate_left
    · rw [if_pos (nI_le (by omega) (by omega)), r48z, if_neg (vld_f (by omega))]
      exact ⟨τ, FrF.r τ, rfl, Or.inr ⟨rfl, rfl⟩⟩
    rw [if_neg (nI_ge c1 (by omega))]
    by_cases c2 : d % 6 < n
    rotate_left
    · rw [if_pos (nI_le (by omega) (by omega)), r48z, if_neg (vld_f (by omega))]
      exact ⟨τ, FrF.r τ, rfl, Or.inr ⟨rfl, rfl⟩⟩
    rw [if_neg (nI_ge c2 (by omega)), m_can hn hR (show d / 6 < n by omega) c2, ob_e]
    by_cases c3 : canI s (d / 6) (d % 6) = 0
    · rw [if_pos c3, r48z, if_neg (vld_f (fun q => q.2.2 c3))]
      exact ⟨τ, FrF.r τ, rfl, Or.inr ⟨rfl, rfl⟩⟩
    rw [if_neg c3, if_pos (vld_m ⟨c1, c2, c3⟩)]
    obtain ⟨τ1, e1, hR1, f1⟩ := m_lend hn hR (show d / 6 < n by omega) c2
    rw [e1, ob_e]
    obtain ⟨τ2, g1, g2, g3⟩ := ih (i + 1) _ _ τ1 (by omega) (by omega) hR1 (fun j hj => by rw [f1 14 (by omega)]; exact hd j hj)
    have hF1 : FrF τ τ1 := ⟨fun k k0 hk => f1 k (by omega), fun i _ _ => by rw [f1 0 (by omega)]⟩
    exact ⟨τ2, hF1.t g1, g2.trans (f1 14 (by omega)), g3⟩
theorem m_row {F n L v S : Nat} {sc w la : Nat → Int32} {τ : Mem} (hF0 : 50000 ≤ F) (hn : n ≤ 6) (hL : L ≤ 3) (hS : S < 64) (hv : v < 36 ^ L) (hP : PF n sc w la τ) :
    ∃ τ', X7_isRow F (nI v) (nI L) (nI S) τ = some (if tst n la w S L (s0M sc) v = true then 1 else 0, τ') ∧ FrF τ τ' ∧ (∀ i, i < L → τ' 14 i = nI (v / 36 ^ (L - 1 - i) % 36)) := by
  have h64 := two_le hn
  have hv2 : v < 2 ^ 31 := by
    have : 36 ^ L ≤ 36 ^ 3 := Nat.pow_le_pow_right (by decide) hL
    omega
  unfold X7_isRow
  obtain ⟨τ1, e1, hR1, -, -, f1, f2⟩ := m_begin (F := F) (la := la) (w := w) (sc := sc) hF0 hn hP.1 hP.2
  have en : nI L - 1 = dn L := by
    have : ∀ L, L ≤ 3 → nI L - 1 = dn L := by decide
    exact this L hL
  obtain ⟨τ2, e2, hR2, d2, f3⟩ := dgl (F := F) (n := n) (v := v) (v3 := nI S) (v5 := 1) (kk := fun σ_11 => X7_isRow_L48 F (nI L) (nI S) (fun v5_31 σ_32 => if v5_31 = 0 then some (0, σ_32) else Option.bind (X7_mendedNow F σ_32) fun z_34 => if (nI S &&& (z_34 ^^^ (-1))) = 0 then some (1, σ_32) else some (0, σ_32)) F (1 : Int32) (0 : Int32) σ_11) hL hv2 F 0 τ1 (Nat.zero_le _) (by omega) hR1 (fun i h1 h2 => absurd h2 (by omega))
  rw [Nat.pow_zero, Nat.div_one, Nat.sub_zero] at e2
  obtain ⟨τ3, f4, g14, h3⟩ := r48 (F := F) (v := v) (S := S) (v3 := nI S) (kk := fun v5_31 σ_32 => if v5_31 = 0 then some (0, σ_32) else Option.bind (X7_mendedNow F σ_32) fun z_34 => if (nI S &&& (z_34 ^^^ (-1))) = 0 then some (1, σ_32) else some (0, σ_32)) hn hL hS F 0 _ _ τ2 (Nat.zero_le _) (by omega) hR2 d2
  rw [nI_0, Nat.sub_zero, Nat.mod_eq_of_lt hv] at h3
  rw [e1, ob_e, bnd_e, en, e2]
  have hF1 : FrF τ τ1 := ⟨fun k k0 hk => f1 k k0 (by omega), f2⟩
  have hF2 : FrF τ1 τ2 := ⟨fun k k0 hk => f3 k (by omega), fun i _ _ => by rw [f3 0 (by decide)]⟩
  refine ⟨τ3, ?_, (hF1.t hF2).t f4, fun i hi => by rw [g14]; exact d2 i hi⟩
  rcases h3 with ⟨s', cb', x1, x2, x3⟩ | ⟨x1, x3⟩
  · have hml := mkN_lt (mdI w s') n
    rw [x1, if_neg n10, m_mended hF0 hn x2, ob_e, mkN_eq _ n hn, nd_eq S hS _ (by omega), ← x3]
    by_cases c : nd S (mkN (mdI w s') n) = 0
    · rw [c, if_pos (show nI 0 = 0 from rfl), if_pos (decide_eq_true rfl)]
    · have := nd_lt (M := mkN (mdI w s') n) hS
      rw [if_neg (show ¬ nI (nd S (mkN (mdI w s') n)) = 0 from fun q => c (nI_inj (b := 0) (by omega) (by decide) q)), if_neg (by rw [decide_eq_false c]; decide)]
  · rw [x1, if_pos rfl, x3, if_neg (by decide)]
theorem f55 {F n L S : Nat} {sc w la : Nat → Int32} {v2 : Int32} {k1 k2 : Mem → Option (Int32 × Mem)} (hF0 : 50000 ≤ F) (hn : n ≤ 6) (hL : L ≤ 3) (hS : S < 64) : ∀ (f u : Nat) (τ : Mem), u ≤ 36 ^ L → 36 ^ L - u < f → PF n sc w la τ → (∀ u', u' < u → tst n la w S L (s0M sc) u' = false) →
    (∃ τ', X7_fewest_L55 F (nI S) v2 (nI (36 ^ L)) (nI L) k1 k2 f (nI u) τ = k1 τ' ∧ FrF τ τ' ∧ ∀ u', u' < 36 ^ L → tst n la w S L (s0M sc) u' = false) ∨
    (∃ τ' u0, X7_fewest_L55 F (nI S) v2 (nI (36 ^ L)) (nI L) k1 k2 f (nI u) τ = k2 τ' ∧ FrF τ τ' ∧ u0 < 36 ^ L ∧ tst n la w S L (s0M sc) u0 = true ∧ (∀ u', u' < u0 → tst n la w S L (s0M sc) u' = false) ∧ ∀ i, i < L → τ' 14 i = nI (u0 / 36 ^ (L - 1 - i) % 36)) := by
  have hN : 36 ^ L ≤ 36 ^ 3 := Nat.pow_le_pow_right (by decide) hL
  intro f
  induction f with
  | zero => intro u τ h1 h2; omega
  | succ f ih =>
    intro u τ h1 h2 hP hu
    rw [X7_fewest_L55]
    by_cases e : u = 36 ^ L
    · subst e
      rw [if_pos (nI_le (Nat.le_refl _) (by omega))]
      exact Or.inl ⟨τ, rfl, FrF.r τ, hu⟩
    obtain ⟨τ1, e1, f1, d1⟩ := m_row (F := F) hF0 hn hL hS (show u < 36 ^ L by omega) hP
    rw [if_neg (nI_ge (by omega) (by omega)), e1, ob_e, nI_1]
    dsimp only
    by_cases c : tst n la w S L (s0M sc) u = true
    · rw [if_pos c, if_neg n10]
      exact Or.inr ⟨τ1, u, rfl, f1, by omega, c, hu, d1⟩
    · rw [if_neg c, if_pos rfl]
      rcases ih (u + 1) τ1 (by omega) (by omega) (hP.fr f1) (fun u' h => by
        by_cases e2 : u' = u
        · rw [e2]; simpa using c
        · exact hu u' (by omega)) with ⟨τ2, e2, f2, g2⟩ | ⟨τ2, u0, e2, f2, g2⟩
      · exact Or.inl ⟨τ2, e2, f1.t f2, g2⟩
      · exact Or.inr ⟨τ2, u0, e2, f1.t f2, g2⟩
theorem f46 {F n S : Nat} {sc w la : Nat → Int32} {v2 : Int32} {k2 : Int32 → Mem → Option (Int32 × Mem)} (hF0 : 50000 ≤ F) (hn : n ≤ 6) (hS : S < 64) : ∀ (f L : Nat) (τ : Mem), L ≤ 4 → 4 - L < f → PF n sc w la τ →
    (∃ τ', X7_fewest_L46 F (nI S) v2 k2 f (nI (36 ^ L)) (nI L) τ = some (-9, τ') ∧ FrF τ τ' ∧ ∀ L', L ≤ L' → L' ≤ 3 → ∀ u', u' < 36 ^ L' → tst n la w S L' (s0M sc) u' = false) ∨
    (∃ τ' L0 u0, X7_fewest_L46 F (nI S) v2 k2 f (nI (36 ^ L)) (nI L) τ = k2 (nI L0) τ' ∧ FrF τ τ' ∧ L ≤ L0 ∧ L0 ≤ 3 ∧ (∀ L', L ≤ L' → L' < L0 → ∀ u', u' < 36 ^ L' → tst n la w S L' (s0M sc) u' = false) ∧ u0 < 36 ^ L0 ∧ tst n la w S L0 (s0M sc) u0 = true ∧ (∀ u', u' < u0 → tst n la w S L0 (s0M sc) u' = false) ∧ ∀ i, i < L0 → τ' 14 i = nI (u0 / 36 ^ (L0 - 1 - i) % 36)) := by
  intro f
  induction f with
  | zero => intro L τ h1 h2; omega
  | succ f ih =>
    intro L τ h1 h2 hP
    rw [X7_fewest_L46]
    by_cases e : L = 4
    · subst e
      rw [if_pos (show (4 : Int32) ≤ nI 4 by decide)]
      exact Or.inl ⟨τ, rfl, FrF.r τ, fun L' h3 h4 => absurd h4 (by omega)⟩
    rw [if_neg (show ¬ (4 : Int32) ≤ nI L from nI_ge (b := 4) (by omega) (by decide))]
    have hN : 36 ^ L ≤ 36 ^ 3 := Nat.pow_le_pow_right (by decide) (by omega)
    rcases f55 (F := F) (v2 := v2) (k1 := fun σ_9 => bnd (nI (36 ^ L) * 36) fun v3_10 => X7_fewest_L46 F (nI S) v2 k2 f v3_10 (nI L + 1) σ_9) (k2 := fun σ_12 => k2 (nI L) σ_12) hF0 hn (show L ≤ 3 by omega) hS F 0 τ (Nat.zero_le _) (by omega) hP (fun u' h => absurd h (by omega)) with ⟨τ1, e1, f1, g1⟩ | ⟨τ1, u0, e1, f1, g1, g2, g3, g4⟩
    · rw [nI_0] at e1
      rw [e1, bnd_e, show (36 : Int32) = nI 36 from rfl, pk_mul, ← Nat.pow_succ, nI_1]
      have comb : ∀ L', L ≤ L' → (L + 1 ≤ L' → ∀ u', u' < 36 ^ L' → tst n la w S L' (s0M sc) u' = false) → ∀ u', u' < 36 ^ L' → tst n la w S L' (s0M sc) u' = false := by
        intro L' h3 h4
        by_cases e2 : L' = L
        · subst e2; exact g1
        · exact h4 (by omega)
      rcases ih (L + 1) τ1 (by omega) (by omega) (hP.fr f1) with ⟨τ2, e2, f2, g2⟩ | ⟨τ2, L0, u0, e2, f2, q1, q2, q3, q4⟩
      · exact Or.inl ⟨τ2, e2, f1.t f2, fun L' h3 h4 => comb L' h3 (fun h5 => g2 L' h5 h4)⟩
      · exact Or.inr ⟨τ2, L0, u0, e2, f1.t f2, by omega, q2, fun L' h3 h4 => comb L' h3 (fun h5 => q3 L' h5 h4), q4⟩
    · rw [nI_0] at e1
      rw [e1]
      exact Or.inr ⟨τ1, L, u0, rfl, f1, Nat.le_refl _, by omega, fun L' h3 h4 => absurd h3 (by omega), g1, g2, g3, g4⟩
