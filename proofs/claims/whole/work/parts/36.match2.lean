-- the class's choice; the reference's rows
theorem x3_loop {F n S r : Nat} {sc w : Nat → Int32} {σ : Mem} (hn : n ≤ 6) (hS : S < 2 ^ n) (hr : pc S + (r + 1) = n) (hP : PX n sc w σ) (hT : TB n (mmF sc w) 0 σ) : ∀ (f c : Nat), c ≤ CB n (mmF sc w) r S → n - c < f → X2_firstBest_L3 F (nI n) (nI S) σ f (nI c) = some (nI (CB n (mmF sc w) r S)) := by
  have h64 := two_le hn
  have hm := mm_le sc w
  have hD := (val_fm (mm := mmF sc w) hn (by omega) (r + 1) S hS hr).2.1
  rw [DF] at hD
  have hfm := fmax_spec (gF n (mmF sc w) r S (DF n (mmF sc w) r)) n
  have hCB : CB n (mmF sc w) r S = (fmax (gF n (mmF sc w) r S (DF n (mmF sc w) r)) n).2 := rfl
  have h11 : σ 11 S = enc (fmax (gF n (mmF sc w) r S (DF n (mmF sc w) r)) n).1 := by
    rw [hT S (Nat.zero_le _) hS, show n - pc S = r + 1 by omega, DF]
  rw [hCB]
  have hDle := fm_le (gF_le (n := n) hm r S) n
  generalize hDv : (fmax (gF n (mmF sc w) r S (DF n (mmF sc w) r)) n).1 = D at hD hfm h11 hDle
  generalize hcv : (fmax (gF n (mmF sc w) r S (DF n (mmF sc w) r)) n).2 = cb at hfm
  obtain ⟨f1, f2⟩ := hfm
  rcases f2 with ⟨e, -⟩ | ⟨k1, k2, k3, k4⟩
  · omega
  have hg : ∀ c, c < n → S.testBit c = false → gF n (mmF sc w) r S (DF n (mmF sc w) r) c = mmF sc w (pc S) c + DF n (mmF sc w) r (S ||| 2 ^ c) ∧ X2_mendedFrom (nI S) (nI c) σ = some (enc (gF n (mmF sc w) r S (DF n (mmF sc w) r) c)) := by
    intro c hc hb
    have hpc := pc_or c (by omega) S (by omega)
    rw [hb, if_neg (by decide)] at hpc
    have eg : gF n (mmF sc w) r S (DF n (mmF sc w) r) c = mmF sc w (pc S) c + DF n (mmF sc w) r (S ||| 2 ^ c) := by
      show (if S.testBit c = true then 0 else _) = _
      rw [hb, if_neg (by decide), show n - (r + 1) = pc S by omega]
    refine ⟨eg, ?_⟩
    rw [eg]
    exact xmf hn hP hS (by omega) hc (by rw [hT _ (Nat.zero_le _) (or_lt hS hc), show n - pc (S ||| 2 ^ c) = r by omega])
  intro f
  induction f with
  | zero => intro c h1 h2; omega
  | succ f ih =>
    intro c h1 h2
    rw [X2_firstBest_L3, if_neg (nI_ge (by omega) (by omega)), nI_1]
    have gl := gF_le (n := n) hm r S c
    by_cases e : c = cb
    · subst e
      have hb : S.testBit c = false := by
        rw [← Bool.not_eq_true]
        intro q
        have : gF n (mmF sc w) r S (DF n (mmF sc w) r) c = 0 := by
          show (if S.testBit c = true then 0 else _) = _
          rw [if_pos q]
        omega
      rw [if_pos ((tb_eq c (by omega) S (by omega)).mpr hb), (hg c k2 hb).2, ob_e, grd_t (inb_nI (by omega) (by decide)), clN (by omega), h11, k3, if_pos rfl]
    · by_cases hb : S.testBit c = false
      · have l := k4 c (by omega)
        have ne : ¬ enc (gF n (mmF sc w) r S (DF n (mmF sc w) r) c) = enc D := fun q => by
          have := (enc_inj _ (by omega) _ (by omega)).mp q
          omega
        rw [if_pos ((tb_eq c (by omega) S (by omega)).mpr hb), (hg c (by omega) hb).2, ob_e, grd_t (inb_nI (by omega) (by decide)), clN (by omega), h11, if_neg ne]
        exact ih (c + 1) (by omega) (by omega)
      · rw [if_neg (fun x => hb ((tb_eq c (by omega) S (by omega)).mp x))]
        exact ih (c + 1) (by omega) (by omega)
theorem CB_lt {n : Nat} {mm : Nat → Nat → Nat} (hn : n ≤ 6) (hn0 : 0 < n) {r S : Nat} (hS : S < 2 ^ n) (hr : pc S + (r + 1) = n) : CB n mm r S < n ∧ S.testBit (CB n mm r S) = false := by
  have hD := (val_fm (mm := mm) hn hn0 (r + 1) S hS hr).2.1
  rw [DF] at hD
  rcases (fmax_spec (gF n mm r S (DF n mm r)) n).2 with ⟨e, -⟩ | ⟨k1, k2, k3, k4⟩
  · omega
  · refine ⟨k2, ?_⟩
    rw [← Bool.not_eq_true]
    intro q
    have : gF n mm r S (DF n mm r) (fmax (gF n mm r S (DF n mm r)) n).2 = 0 := by
      show (if S.testBit (CB n mm r S) = true then 0 else _) = _
      rw [if_pos q]
    omega
theorem x94 {F n : Nat} {sc w : Nat → Int32} (hF0 : 50000 ≤ F) (hn : n ≤ 6) (hn0 : 0 < n) : ∀ (r f S : Nat) (σ : Mem), S < 2 ^ n → pc S + r = n → r < f → PX n sc w σ → TB n (mmF sc w) 0 σ →
    ∃ σ', X2_make_L94 F (nI n) f (nI S) (nI (n - r)) σ = some σ' ∧ (∀ q, n - r ≤ q → q < n → σ' 12 q = nI (AF n (mmF sc w) r S / n ^ (n - 1 - q) % n)) ∧ (∀ q, q < n - r → σ' 12 q = σ 12 q) ∧ (∀ k, k ≠ 12 → σ' k = σ k) := by
  have h64 := two_le hn
  intro r
  induction r with
  | zero =>
    intro f S σ hS hr hf hP hT
    obtain ⟨f', rfl⟩ : ∃ f', f = f' + 1 := ⟨f - 1, by omega⟩
    rw [X2_make_L94, if_pos (nI_le (by omega) (by omega))]
    exact ⟨σ, rfl, fun q h1 h2 => absurd h2 (by omega), fun _ _ => rfl, fun _ _ => rfl⟩
  | succ r ih =>
    intro f S σ hS hr hf hP hT
    obtain ⟨f', rfl⟩ : ∃ f', f = f' + 1 := ⟨f - 1, by omega⟩
    obtain ⟨c1, c2⟩ := CB_lt (mm := mmF sc w) hn hn0 hS hr
    have hb := x3_loop (F := F) hn hS hr hP hT F 0 (Nat.zero_le _) (by omega)
    rw [nI_0] at hb
    rw [X2_make_L94, if_neg (nI_ge (by omega) (by omega))]
    unfold X2_firstBest
    rw [hb, ob_e, grd_t (inb_nI (by omega) (by decide)), bnd_e, grd_t (inb_nI (by omega) (by decide)), clN (show n - (r + 1) < 2 ^ 31 by omega), bnd_e, u2_s, AF]
    generalize hcv : CB n (mmF sc w) r S = cb at c1 c2
    have hpc := pc_or cb (by omega) S (by omega)
    rw [c2, if_neg (by decide)] at hpc
    rw [or_shl (by omega) (by omega), nI_1, show n - (r + 1) + 1 = n - r by omega]
    obtain ⟨σ', e1, g1, g2, g3⟩ := ih f' (S ||| 2 ^ cb) (u2 σ 12 (n - (r + 1)) (nI cb)) (or_lt hS c1) (by omega) (by omega) (fun q hq => by rw [u2_k _ _ _ (show 22 + q ≠ 12 by omega)]; exact hP q hq) (fun T h3 h4 => by rw [u2_k _ _ _ (by decide)]; exact hT T h3 h4)
    have hA := (val_fm (mm := mmF sc w) hn hn0 r (S ||| 2 ^ cb) (or_lt hS c1) (by omega)).2.2
    have hN : 0 < n ^ r := Nat.pow_pos hn0
    refine ⟨σ', e1, fun q h1 h2 => ?_, fun q hq => ?_, fun k hk => (g3 k hk).trans (u2_k _ _ _ hk)⟩
    · by_cases e : q = n - (r + 1)
      · rw [g2 q (by omega), e, u2_s, show n - 1 - (n - (r + 1)) = r by omega, Nat.mul_comm, Nat.mul_add_div hN, Nat.div_eq_of_lt hA, Nat.add_zero, Nat.mod_eq_of_lt c1]
      · rw [g1 q (by omega) h2]
        have e2 : cb * n ^ r = n ^ (n - 1 - q) * (n * (n ^ (r - 1 - (n - 1 - q)) * cb)) := by
          have : n ^ r = n ^ (n - 1 - q) * (n * n ^ (r - 1 - (n - 1 - q))) := by
            rw [← Nat.pow_succ', ← Nat.pow_add]
            congr 1
            omega
          rw [this, Nat.mul_comm cb, Nat.mul_assoc, Nat.mul_assoc]
        rw [e2, Nat.mul_add_div (Nat.pow_pos hn0), Nat.mul_add_mod]
    · rw [g2 q (by omega), u2_j _ _ _ (by omega)]
theorem all_n : ∀ n, n ≤ 6 → ((1 : Int32) <<< (nI n &&& 31)) - 1 = nI (2 ^ n - 1) ∧ (0 < n → nI (2 ^ n - 1) - 1 = dn (2 ^ n - 1)) := by decide +kernel
theorem x_make {F n : Nat} {sc w : Nat → Int32} {σ : Mem} (hF0 : 50000 ≤ F) (hn : n ≤ 6) (hn0 : 0 < n) (hP : PX n sc w σ) : ∃ σ', X2_make F (nI n) σ = some σ' ∧ σ' 11 0 = enc (DF n (mmF sc w) n 0) ∧ (∀ q, q < n → σ' 12 q = nI (AF n (mmF sc w) n 0 / n ^ (n - 1 - q) % n)) ∧ (∀ k, k ≠ 11 → k ≠ 12 → σ' k = σ k) := by
  have h64 := two_le hn
  obtain ⟨a1, a2⟩ := all_n n hn
  have h2 : 0 < 2 ^ n := Nat.pow_pos (by decide)
  unfold X2_make
  rw [bnd_e, a1, grd_t (inb_nI (by omega) (by decide)), bnd_e, bnd_e, clN (by omega), a2 hn0]
  obtain ⟨σ1, e1, g1, g2, g3⟩ := x18 (F := F) (sc := sc) (w := w) (kk := fun σ_21 => X2_make_L94 F (nI n) F 0 0 σ_21) hF0 hn F (2 ^ n - 1) (u2 σ 11 (2 ^ n - 1) 0) (by omega) (by omega) (fun q hq => by rw [u2_k _ _ _ (show 22 + q ≠ 11 by omega)]; exact hP q hq) (fun T h3 h4 => by
    have eT : T = 2 ^ n - 1 := by omega
    rw [eT, u2_s, ((pc_all n hn (2 ^ n - 1) (by omega)).2).mpr rfl, Nat.sub_self, DF]
    exact (enc_s 0).symm)
  obtain ⟨σ2, e2, q1, q2, q3⟩ := x94 (F := F) hF0 hn hn0 n F 0 σ1 h2 (by rw [show pc 0 = 0 from rfl]; omega) (by omega) g1 g2
  rw [Nat.sub_self, nI_0] at e2
  rw [e1, e2]
  refine ⟨σ2, rfl, ?_, fun q hq => q1 q (by omega) hq, fun k k1 k2 => (q3 k k2).trans ((g3 k k1).trans (u2_k _ _ _ k1))⟩
  rw [q3 11 (by decide), g2 0 (Nat.le_refl _) h2, show pc 0 = 0 from rfl, Nat.sub_zero]
