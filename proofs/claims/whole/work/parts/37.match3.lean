-- the reference's rows; match agrees
theorem mask_lt {n : Nat} (hn0 : 0 < n) : ∀ r u, maskF n r u < 2 ^ n := by
  intro r
  induction r with
  | zero => intro u; exact Nat.pow_pos (by decide)
  | succ r ih => intro u; exact or_lt (ih _) (Nat.mod_lt _ hn0)
theorem cnt_le {n : Nat} {mm : Nat → Nat → Nat} (hm : ∀ p c, mm p c ≤ 1) : ∀ r u, cntF n mm r u ≤ r := by
  intro r
  induction r with
  | zero => intro u; exact Nat.le_refl _
  | succ r ih =>
    intro u
    rw [cntF]
    have := ih (u % n ^ r)
    have := hm (n - (r + 1)) (u / n ^ r % n)
    omega
theorem dig_s {n : Nat} (t v : Nat) : v % n ^ (t + 1) % n ^ t = v % n ^ t ∧ v % n ^ (t + 1) / n ^ t % n = v / n ^ t % n := by
  refine ⟨Nat.mod_mod_of_dvd _ (Nat.pow_dvd_pow n (by omega)), ?_⟩
  rw [Nat.pow_succ, Nat.mod_mul_right_div_self, Nat.mod_mod]
def PM (n : Nat) (sc w : Nat → Int32) (τ : Mem) : Prop := τ 0 1 = nI n ∧ ∀ q, q < n → τ 2 q = sc q ∧ τ 3 q = w q
theorem m15 {F n v : Nat} {sc w : Nat → Int32} {kk : Int32 → Int32 → Mem → Option (Int32 × Mem)} (hn : n ≤ 6) (hn0 : 0 < n) (hv : v < 2 ^ 31) : ∀ (f t : Nat) (τ : Mem), t ≤ n → n - t < f → PM n sc w τ →
    ∃ τ', X7_matchBy_L15 F kk f (nI (v / n ^ t)) (nI (maskF n t (v % n ^ t))) (nI (cntF n (mmF sc w) t (v % n ^ t))) (dn (n - t)) τ = kk (nI (maskF n n (v % n ^ n))) (nI (cntF n (mmF sc w) n (v % n ^ n))) τ' ∧ (∀ q, q + t < n → τ' 15 q = nI (v / n ^ (n - 1 - q) % n)) ∧ (∀ q, n ≤ q + t → τ' 15 q = τ 15 q) ∧ (∀ k, k ≠ 15 → τ' k = τ k) := by
  have h64 := two_le hn
  intro f
  induction f with
  | zero => intro t τ h1 h2; omega
  | succ f ih =>
    intro t τ h1 h2 hP
    rw [X7_matchBy_L15]
    by_cases e : t = n
    · subst e
      rw [Nat.sub_self, if_pos (show dn 0 < 0 by decide)]
      exact ⟨τ, rfl, fun q hq => absurd hq (by omega), fun _ _ => rfl, fun _ _ => rfl⟩
    obtain ⟨p, hp⟩ : ∃ p, n - t = p + 1 := ⟨n - t - 1, by omega⟩
    have hc : v / n ^ t % n < n := Nat.mod_lt _ hn0
    have hvt : v / n ^ t < 2 ^ 31 := Nat.lt_of_le_of_lt (Nat.div_le_self _ _) hv
    have hnz : nz (nI n) = true := by
      have : ∀ n, n ≤ 6 → 0 < n → nz (nI n) = true := by decide
      exact this n hn hn0
    have hml := mask_lt hn0 t (v % n ^ t)
    obtain ⟨d1, d2⟩ := dig_s (n := n) t v
    have hdiv : v / n ^ t / n = v / n ^ (t + 1) := by rw [Nat.div_div_eq_div_mul, Nat.pow_succ]
    rw [hp, if_neg (dn_ge (by omega)), hP.1, grd_t hnz, bnd_e, grd_t hnz, bnd_e, pk_rem hvt hn0 (by omega), pk_div hvt hn0 (by omega), show dn (p + 1) = nI p from rfl, grd_t (inb_nI (by omega) (by decide)), clN (show p < 2 ^ 31 by omega), (hP.2 p (by omega)).1, (hP.2 p (by omega)).2, grd_t (inb_nI (by omega) (by decide)), grd_t (inb_nI (by omega) (by decide)), grd_t (inb_nI (by omega) (by decide)), clN (show v / n ^ t % n < 2 ^ 31 by omega), (hP.2 _ hc).1, hdiv]
    have em : nI (maskF n t (v % n ^ t)) ||| ((1 : Int32) <<< (nI (v / n ^ t % n) &&& 31)) = nI (maskF n (t + 1) (v % n ^ (t + 1))) := by
      rw [or_shl (by omega) (by omega), maskF, d1, d2]
    have ec : cntF n (mmF sc w) (t + 1) (v % n ^ (t + 1)) = cntF n (mmF sc w) t (v % n ^ t) + mmF sc w p (v / n ^ t % n) := by
      rw [cntF, d1, d2, show n - (t + 1) = p by omega]
    have ed : nI p + (-1) = dn (n - (t + 1)) := by
      rw [show n - (t + 1) = p by omega]
      exact dn_s p
    obtain ⟨τ', e1, g1, g2, g3⟩ := ih (t + 1) (u2 τ 15 p (nI (v / n ^ t % n))) (by omega) (by omega) ⟨by rw [u2_k _ _ _ (by decide)]; exact hP.1, fun q hq => by rw [u2_k _ _ _ (by decide), u2_k _ _ _ (by decide)]; exact hP.2 q hq⟩
    have fin : ∃ τ', X7_matchBy_L15 F kk f (nI (v / n ^ (t + 1))) (nI (maskF n (t + 1) (v % n ^ (t + 1)))) (nI (cntF n (mmF sc w) (t + 1) (v % n ^ (t + 1)))) (dn (n - (t + 1))) (u2 τ 15 p (nI (v / n ^ t % n))) = kk (nI (maskF n n (v % n ^ n))) (nI (cntF n (mmF sc w) n (v % n ^ n))) τ' ∧ (∀ q, q + t < n → τ' 15 q = nI (v / n ^ (n - 1 - q) % n)) ∧ (∀ q, n ≤ q + t → τ' 15 q = τ 15 q) ∧ (∀ k, k ≠ 15 → τ' k = τ k) := by
      refine ⟨τ', e1, fun q hq => ?_, fun q hq => ?_, fun k hk => (g3 k hk).trans (u2_k _ _ _ hk)⟩
      · by_cases e2 : q = p
        · rw [g2 q (by omega), e2, u2_s, show n - 1 - p = t by omega]
        · exact g1 q (by omega)
      · rw [g2 q (by omega), u2_j _ _ _ (by omega)]
    unfold X7_matchBy_J80
    rw [if_neg n10, if_pos rfl]
    simp only [bnd_e]
    rw [grd_t (inb_nI (k := p) (by omega) (by decide)), clN (show p < 2 ^ 31 by omega), em, ed, grd_t (inb_nI (k := p) (by omega) (by decide))]
    by_cases a : w p = 6
    · rw [if_pos a]
      have : nI (cntF n (mmF sc w) t (v % n ^ t)) + 1 = nI (cntF n (mmF sc w) (t + 1) (v % n ^ (t + 1))) := by
        rw [ec, nI_1]; unfold mmF; rw [if_pos a]
      rw [this]; exact fin
    · rw [if_neg a]
      by_cases b : X7_isIn (sc p ||| sc (v / n ^ t % n)) (w p) = 0
      · rw [if_pos b]
        have : nI (cntF n (mmF sc w) t (v % n ^ t)) + 0 = nI (cntF n (mmF sc w) (t + 1) (v % n ^ (t + 1))) := by
          rw [ec, Int32.add_zero]; unfold mmF; rw [if_neg a, if_pos b, Nat.add_zero]
        rw [this]; exact fin
      · rw [if_neg b]
        have : nI (cntF n (mmF sc w) t (v % n ^ t)) + 1 = nI (cntF n (mmF sc w) (t + 1) (v % n ^ (t + 1))) := by
          rw [ec, nI_1]; unfold mmF; rw [if_neg a, if_neg b]
        rw [this]; exact fin
def rs : Nat → Int32
  | 0 => -9
  | k + 1 => nI k
theorem rs_le : ∀ a, a < 9 → ∀ b, b < 9 → (rs a ≤ enc b ↔ a ≤ b) := by decide +kernel
theorem m_by {F n v : Nat} {sc w : Nat → Int32} {τ : Mem} (hF0 : 50000 ≤ F) (hn : n ≤ 6) (hn0 : 0 < n) (hvn : v < n ^ n) (hv : v < 2 ^ 31) (hP : PM n sc w τ) : ∃ τ', X7_matchBy F (nI v) τ = some (rs (valF n (mmF sc w) n 0 v), τ') ∧ (∀ q, q < n → τ' 15 q = nI (v / n ^ (n - 1 - q) % n)) ∧ (∀ k, k ≠ 15 → τ' k = τ k) := by
  have h64 := two_le hn
  unfold X7_matchBy
  obtain ⟨τ1, e1, g1, g2, g3⟩ := m15 (F := F) (v := v) (sc := sc) (w := w) (kk := fun v3_31 v4_32 σ_33 => if v3_31 = (X7_everybody σ_33) then some (v4_32, σ_33) else some (-9, σ_33)) hn hn0 hv F 0 τ (Nat.zero_le _) (by omega) hP
  have en : nI n - 1 = dn n := by
    have : ∀ n, n ≤ 6 → 0 < n → nI n - 1 = dn n := by decide
    exact this n hn hn0
  rw [Nat.pow_zero, Nat.div_one, Nat.mod_one, Nat.sub_zero, show nI (maskF n 0 0) = 0 from rfl, show nI (cntF n (mmF sc w) 0 0) = 0 from rfl, Nat.mod_eq_of_lt hvn] at e1
  have hev : X7_everybody τ1 = nI (2 ^ n - 1) := by
    unfold X7_everybody
    rw [g3 0 (by decide), hP.1]
    exact (all_n n hn).1
  rw [hP.1, bnd_e, en, e1, hev]
  have hml := mask_lt hn0 n v
  refine ⟨τ1, ?_, fun q hq => g1 q (by omega), g3⟩
  unfold valF
  rw [Nat.zero_or]
  by_cases c : maskF n n v = 2 ^ n - 1
  · rw [c, if_pos rfl, if_pos rfl]; rfl
  · rw [if_neg (fun q => c (nI_inj (by omega) (by omega) q)), if_neg c]; rfl
theorem rs_enc : ∀ a, a < 9 → ∀ b, b < 9 → ¬ a ≤ b → rs a = enc a := by decide +kernel
theorem m50 {F n : Nat} {v1 : Int32} {sc w : Nat → Int32} {kk : Int32 → Int32 → Mem → Option (Int32 × Mem)} (hF0 : 50000 ≤ F) (hn : n ≤ 6) (hn0 : 0 < n) (hN : n ^ n ≤ 46656) : ∀ (f u : Nat) (τ : Mem), u ≤ n ^ n → n ^ n - u < f → PM n sc w τ →
    ∃ τ', X7_match_L50 F v1 (nI (n ^ n)) kk f (nI (fmax (valF n (mmF sc w) n 0) u).2) (enc (fmax (valF n (mmF sc w) n 0) u).1) (nI u) τ = kk (nI (fmax (valF n (mmF sc w) n 0) (n ^ n)).2) (enc (fmax (valF n (mmF sc w) n 0) (n ^ n)).1) τ' ∧ (∀ k, k ≠ 15 → τ' k = τ k) := by
  have hm := mm_le sc w
  have hvl : ∀ u, valF n (mmF sc w) n 0 u ≤ 7 := by
    intro u
    unfold valF
    split
    · have := cnt_le (n := n) hm n u; omega
    · omega
  intro f
  induction f with
  | zero => intro u τ h1 h2; omega
  | succ f ih =>
    intro u τ h1 h2 hP
    rw [X7_match_L50]
    by_cases e : u = n ^ n
    · subst e
      rw [if_pos (nI_le (Nat.le_refl _) (by omega))]
      exact ⟨τ, rfl, fun _ _ => rfl⟩
    obtain ⟨τ1, e1, g1, g2⟩ := m_by (F := F) hF0 hn hn0 (show u < n ^ n by omega) (by omega) hP
    have hP1 : PM n sc w τ1 := ⟨by rw [g2 0 (by decide)]; exact hP.1, fun q hq => by rw [g2 2 (by decide), g2 3 (by decide)]; exact hP.2 q hq⟩
    have l1 := hvl u
    have l2 := fm_le hvl u
    have cmp := rs_le (valF n (mmF sc w) n 0 u) (by omega) (fmax (valF n (mmF sc w) n 0) u).1 (by omega)
    obtain ⟨τ2, e2, f2⟩ := ih (u + 1) τ1 (by omega) (by omega) hP1
    rw [if_neg (nI_ge (by omega) (by omega)), e1, ob_e, nI_1]
    dsimp only
    rw [fmax] at e2
    by_cases c : valF n (mmF sc w) n 0 u ≤ (fmax (valF n (mmF sc w) n 0) u).1
    · rw [if_pos c] at e2
      rw [if_pos (cmp.mpr c), if_pos (cmp.mpr c)]
      exact ⟨τ2, e2, fun k hk => (f2 k hk).trans (g2 k hk)⟩
    · rw [if_neg c] at e2
      rw [if_neg (fun q => c (cmp.mp q)), if_neg (fun q => c (cmp.mp q)), rs_enc _ (by omega) _ (by omega) c]
      exact ⟨τ2, e2, fun k hk => (f2 k hk).trans (g2 k hk)⟩
theorem m21 {F n : Nat} {v1 : Int32} {τ : Mem} {kk : Int32 → Option (Int32 × Mem)} (hn : n ≤ 6) (h1' : τ 0 1 = nI n) : ∀ (f j : Nat), j ≤ n → n - j < f → X7_match_L21 F v1 τ kk f (nI (n ^ j)) (nI j) = kk (nI (n ^ n)) := by
  intro f
  induction f with
  | zero => intro j h1 h2; omega
  | succ f ih =>
    intro j h1 h2
    rw [X7_match_L21, h1']
    by_cases e : j = n
    · subst e
      rw [if_pos (nI_le (Nat.le_refl _) (by omega))]
    · rw [if_neg (nI_ge (by omega) (by omega)), bnd_e, pk_mul, ← Nat.pow_succ, nI_1]
      exact ih (j + 1) (by omega) (by omega)
theorem nn_le : ∀ n, n ≤ 6 → n ^ n ≤ 46656 ∧ 0 < n ^ n := by decide +kernel
theorem neg1_ge {v : Int32} (h : -1 ≤ v) : v = -1 ∨ (0 ≤ v ∧ ¬ v = -1) := by
  have a : (-1 : Int32).toInt = -1 := by decide
  rw [i32_le, a] at h
  rw [i32_eq, i32_le, a, t0_32]
  omega
theorem r_match {F : Nat} (hF0 : 50000 ≤ F) (v1 : Int32) : Agree (X6_match F v1) (X7_match F v1) := by
  rintro σ τ ⟨n, r, h⟩
  have hn := h.1.2.1
  unfold X6_match X7_match
  by_cases c : (-1 : Int32) ≤ v1
  rotate_left
  · rw [if_neg c, if_neg c]
    exact ⟨_, _, _, rfl, rfl, n, r, h⟩
  rw [if_pos c, if_pos c, h.1.2.2.2.1, h.1.2.2.2.2.1]
  by_cases c0 : nI n = 0
  · rw [if_pos c0, if_pos c0]
    exact ⟨_, _, _, rfl, rfl, n, r, h⟩
  have hn0 : 0 < n := by
    have : ¬ n = 0 := fun q => c0 (by rw [q]; rfl)
    omega
  obtain ⟨hN, hN0⟩ := nn_le n hn
  have hPX : PX n (scF σ) (wF σ) σ := fun q hq => by
    obtain ⟨b1, b2, b3, b4, b5, ⟨k, hk, b6⟩, ⟨z, hz, b7⟩, b8⟩ := h.2.1 q hq
    exact ⟨rfl, rfl, ⟨k, hk, b2.trans b6⟩, ⟨z, hz, b3.trans b7⟩⟩
  have hPM : PM n (scF σ) (wF σ) τ := ⟨h.1.2.2.2.2.1, fun q hq => by
    obtain ⟨b1, b2, b3, b4, b5⟩ := h.2.1 q hq
    exact ⟨b2.symm, b3.symm⟩⟩
  obtain ⟨σ1, e1, g1, g2, g3⟩ := x_make (F := F) hF0 hn hn0 hPX
  have hfm := val_fm (mm := mmF (scF σ) (wF σ)) hn hn0 n 0 (Nat.pow_pos (by decide)) (by rw [show pc 0 = 0 from rfl]; omega)
  obtain ⟨u1, u2'⟩ := IsFM.uniq (fmax_spec (valF n (mmF (scF σ) (wF σ)) n 0) (n ^ n)) hfm.1
  have e3 := m21 (F := F) (v1 := v1) (kk := fun v2_6 => X7_match_L50 F v1 v2_6 (fun v3_13 v4_14 σ_15 => Option.bind (X7_matchBy F v3_13 σ_15) fun z_16 => if 0 ≤ v1 then (if (X7_noPerson v1 z_16.2) = 0 then grd (inb v1 6) (some (z_16.2 15 v1.toNatClampNeg, z_16.2)) else some (-9, z_16.2)) else some (v4_14, z_16.2)) F (0 : Int32) (-1 : Int32) (0 : Int32) τ) hn h.1.2.2.2.2.1 F 0 (Nat.zero_le _) (by omega)
  obtain ⟨τ1, e4, f1⟩ := m50 (F := F) (v1 := v1) (sc := scF σ) (w := wF σ) (kk := fun v3_13 v4_14 σ_15 => Option.bind (X7_matchBy F v3_13 σ_15) fun z_16 => if 0 ≤ v1 then (if (X7_noPerson v1 z_16.2) = 0 then grd (inb v1 6) (some (z_16.2 15 v1.toNatClampNeg, z_16.2)) else some (-9, z_16.2)) else some (v4_14, z_16.2)) hF0 hn hn0 hN F 0 τ (Nat.zero_le _) (by omega) hPM
  rw [Nat.pow_zero, nI_0, show nI 1 = 1 from rfl] at e3
  rw [u1, u2', fmax, nI_0] at e4
  have e0 : enc 0 = -1 := enc0
  dsimp only at e4
  rw [e0] at e4
  have hPM1 : PM n (scF σ) (wF σ) τ1 := ⟨by rw [f1 0 (by decide)]; exact hPM.1, fun q hq => by rw [f1 2 (by decide), f1 3 (by decide)]; exact hPM.2 q hq⟩
  obtain ⟨τ2, e5, q1, q2⟩ := m_by (F := F) hF0 hn hn0 hfm.2.2 (by have := hfm.2.2; omega) hPM1
  have hR2 : RelN n r σ1 τ2 := h.frame (fun k hk => g3 k (by omega) (by omega)) (fun k hk => (q2 k (by omega)).trans (f1 k (by omega))) ⟨by rw [q2 0 (by decide), f1 0 (by decide)], by rw [q2 0 (by decide), f1 0 (by decide)], by rw [q2 0 (by decide), f1 0 (by decide)], by rw [q2 0 (by decide), f1 0 (by decide)]⟩
  rw [if_neg c0, if_neg c0, e1, ob_e, e3, e4, e5, ob_e]
  dsimp only
  rcases neg1_ge c with rfl | ⟨c1, c2⟩
  · unfold X2_mostMended
    rw [if_pos rfl, if_neg (by decide), grd_t (by decide), ob_e, show (0 : Int32).toNatClampNeg = 0 from rfl, g1]
    exact ⟨_, _, _, rfl, rfl, n, r, hR2⟩
  · rw [if_neg c2, if_pos c1]
    rcases isPerson_cases hR2 v1 with ⟨a, b⟩ | ⟨p, hp, rfl, a, b⟩
    · rw [a, b, if_pos rfl, if_neg n10]
      exact ⟨_, _, _, rfl, rfl, n, r, hR2⟩
    · rw [a, b, if_neg n10, if_pos rfl, grd_t (inb_p hp hn), grd_t (inb_p hp hn), clN (show p < 2 ^ 31 by omega), g2 p hp, q1 p hp]
      exact ⟨_, _, _, rfl, rfl, n, r, hR2⟩
