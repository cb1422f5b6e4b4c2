-- the class's table and choice
def enc (w : Nat) : Int32 := nI w + (-1)
theorem enc_s (w : Nat) : enc (w + 1) = nI w := nI_m1 w
theorem enc0 : enc 0 = -1 := by decide
theorem enc_lt : ∀ a, a < 9 → ∀ b, b < 9 → (enc a < enc b ↔ a < b) := by decide +kernel
theorem enc_inj : ∀ a, a < 9 → ∀ b, b < 9 → (enc a = enc b ↔ a = b) := by decide +kernel
theorem bc_eq : ∀ S, S < 64 → J6_bitCount_0f7a4 (nI S) = nI (pc S) ∧ pc S ≤ 6 := by decide +kernel
theorem tb_eq : ∀ c, c < 6 → ∀ S, S < 64 → (((nI S >>> (nI c &&& 31)) &&& 1) = 0 ↔ S.testBit c = false) := by decide +kernel
theorem or_shl {S c : Nat} (hS : S < 64) (hc : c < 6) : nI S ||| ((1 : Int32) <<< (nI c &&& 31)) = nI (S ||| 2 ^ c) := by
  obtain ⟨e1, e2⟩ := one_shl c hc
  rw [e1, or_nI hS e2]
def mmF (sc w : Nat → Int32) (p c : Nat) : Nat := if w p = 6 then 1 else if X7_isIn (sc p ||| sc c) (w p) = 0 then 0 else 1
theorem mm_le (sc w : Nat → Int32) (p c : Nat) : mmF sc w p c ≤ 1 := by
  unfold mmF
  split
  · exact Nat.le_refl _
  · split
    · exact Nat.zero_le _
    · exact Nat.le_refl _
def PX (n : Nat) (sc w : Nat → Int32) (σ : Mem) : Prop := ∀ q, q < n → σ (22 + q) 1 = sc q ∧ σ (22 + q) 2 = w q ∧ (∃ k, k < 64 ∧ sc q = nI k) ∧ ∃ z, z ≤ 6 ∧ w q = nI z
theorem xmf {n S c d : Nat} {sc w : Nat → Int32} {σ : Mem} (hn : n ≤ 6) (hP : PX n sc w σ) (hS : S < 2 ^ n) (hne : pc S < n) (hc : c < n) (h11 : σ 11 (S ||| 2 ^ c) = enc d) : X2_mendedFrom (nI S) (nI c) σ = some (enc (mmF sc w (pc S) c + d)) := by
  have h64 := two_le hn
  obtain ⟨b1, b2⟩ := bc_eq S (by omega)
  have ol := or_lt hS hc
  obtain ⟨p1, p2, ⟨k, hk, p3⟩, p4⟩ := hP (pc S) hne
  obtain ⟨c1, c2, ⟨k2, hk2, c3⟩, c4⟩ := hP c hc
  have ho : ∃ x, x < 64 ∧ sc (pc S) ||| sc c = nI x := by rw [p3, c3]; exact or_small k hk k2 hk2
  unfold X2_mendedFrom
  rw [b1, grd_t (inb_nI (by omega) (by decide)), grd_t (inb_nI (by omega) (by decide)), clN (show pc S < 2 ^ 31 by omega), clN (show c < 2 ^ 31 by omega), p1, c1, or_shl (by omega) (by omega), grd_t (inb_nI (by omega) (by decide)), grd_t (inb_nI (by omega) (by decide)), clN (show S ||| 2 ^ c < 2 ^ 31 by omega), h11]
  rw [show X3_isMendedBy (22 + pc S) (sc (pc S) ||| sc c) σ = mdI w ((fun _ => 0, sc, sc, fun _ => sc (pc S) ||| sc c) : ES) (pc S) from xmendedBy (s := ((fun _ => 0, sc, sc, fun _ => sc (pc S) ||| sc c) : ES)) p2 p4 ho]
  unfold mdI mmF
  dsimp only
  have e1 : (1 : Int32) + enc d = enc (1 + d) := by
    unfold enc
    rw [← Int32.add_assoc, show (1 : Int32) = nI 1 from rfl, nI_add]
  by_cases a : w (pc S) = 6
  · rw [if_pos a, if_neg n10, if_pos a, e1]
  · rw [if_neg a, if_neg a]
    by_cases b : X7_isIn (sc (pc S) ||| sc c) (w (pc S)) = 0
    · rw [if_pos b, if_pos rfl, if_pos b, Int32.zero_add, Nat.zero_add]
    · rw [if_neg b, if_neg n10, if_neg b, e1]
theorem DF_le {n : Nat} {mm : Nat → Nat → Nat} (hm : ∀ p c, mm p c ≤ 1) : ∀ r S, DF n mm r S ≤ r + 1 := by
  intro r
  induction r with
  | zero => intro S; exact Nat.le_refl _
  | succ r ih =>
    intro S
    rw [DF]
    rcases (fmax_spec (gF n mm r S (DF n mm r)) n).2 with ⟨e, -⟩ | ⟨e1, e2, e3, e4⟩
    · omega
    · rw [← e3]
      unfold gF
      split
      · omega
      · have := ih (S ||| 2 ^ (fmax (fun c => if S.testBit c = true then 0 else mm (n - (r + 1)) c + DF n mm r (S ||| 2 ^ c)) n).2)
        have := hm (n - (r + 1)) (fmax (fun c => if S.testBit c = true then 0 else mm (n - (r + 1)) c + DF n mm r (S ||| 2 ^ c)) n).2
        omega
theorem gF_le {n : Nat} {mm : Nat → Nat → Nat} (hm : ∀ p c, mm p c ≤ 1) (r S c : Nat) : gF n mm r S (DF n mm r) c ≤ r + 2 := by
  unfold gF
  split
  · omega
  · have := DF_le (n := n) hm r (S ||| 2 ^ c)
    have := hm (n - (r + 1)) c
    omega
theorem fm_le {f : Nat → Nat} {b : Nat} (h : ∀ u, f u ≤ b) : ∀ N, (fmax f N).1 ≤ b := by
  intro N
  induction N with
  | zero => exact Nat.zero_le _
  | succ N ih =>
    rw [fmax]
    split
    · exact ih
    · exact h N
/-- what the table holds from a set on -/
def TB (n : Nat) (mm : Nat → Nat → Nat) (j : Nat) (σ : Mem) : Prop := ∀ T, j ≤ T → T < 2 ^ n → σ 11 T = enc (DF n mm (n - pc T) T)
theorem x34 {F n S r : Nat} {sc w : Nat → Int32} {kk : Mem → Option Mem} (hn : n ≤ 6) (hS : S < 2 ^ n) (hr : pc S + (r + 1) = n) : ∀ (f c : Nat) (σ : Mem), c ≤ n → n - c < f → PX n sc w σ → TB n (mmF sc w) (S + 1) σ → σ 11 S = enc (fmax (gF n (mmF sc w) r S (DF n (mmF sc w) r)) c).1 →
    ∃ σ', X2_make_L34 F (nI n) (nI S) kk f (nI c) σ = kk σ' ∧ PX n sc w σ' ∧ TB n (mmF sc w) S σ' ∧ (∀ k, k ≠ 11 → σ' k = σ k) := by
  have h64 := two_le hn
  intro f
  induction f with
  | zero => intro c σ h1 h2; omega
  | succ f ih =>
    intro c σ h1 h2 hP hT h11
    rw [X2_make_L34]
    by_cases e : c = n
    · subst e
      rw [if_pos (nI_le (Nat.le_refl _) (by omega))]
      refine ⟨σ, rfl, hP, fun T h3 h4 => ?_, fun _ _ => rfl⟩
      by_cases eT : T = S
      · subst eT
        rw [h11, show c - pc T = r + 1 by omega, DF]
      · exact hT T (by omega) h4
    rw [if_neg (nI_ge (by omega) (by omega)), nI_1]
    by_cases b : S.testBit c = false
    · have og := or_gt c (by omega) S (by omega) b
      have ol := or_lt hS (show c < n by omega)
      have hpc := pc_or c (by omega) S (by omega)
      rw [b, if_neg (by decide)] at hpc
      have e11 : σ 11 (S ||| 2 ^ c) = enc (DF n (mmF sc w) r (S ||| 2 ^ c)) := by
        rw [hT _ og ol, show n - pc (S ||| 2 ^ c) = r by omega]
      have hm := mm_le sc w
      have q1 := DF_le (n := n) hm r (S ||| 2 ^ c)
      have q2 := hm (pc S) c
      have q3 := fm_le (gF_le (n := n) hm r S) c
      rw [if_pos ((tb_eq c (by omega) S (by omega)).mpr b), grd_t (inb_nI (by omega) (by decide)), xmf hn hP hS (by omega) (by omega) e11, ob_e, grd_t (inb_nI (by omega) (by decide)), bnd_e, clN (by omega), h11]
      have eg : gF n (mmF sc w) r S (DF n (mmF sc w) r) c = mmF sc w (pc S) c + DF n (mmF sc w) r (S ||| 2 ^ c) := by
        show (if S.testBit c = true then 0 else _) = _
        rw [b, if_neg (by decide), show n - (r + 1) = pc S by omega]
      have ev : (if enc (fmax (gF n (mmF sc w) r S (DF n (mmF sc w) r)) c).1 < enc (mmF sc w (pc S) c + DF n (mmF sc w) r (S ||| 2 ^ c)) then enc (mmF sc w (pc S) c + DF n (mmF sc w) r (S ||| 2 ^ c)) else enc (fmax (gF n (mmF sc w) r S (DF n (mmF sc w) r)) c).1) = enc (fmax (gF n (mmF sc w) r S (DF n (mmF sc w) r)) (c + 1)).1 := by
        rw [fmax, eg]
        have l := enc_lt (fmax (gF n (mmF sc w) r S (DF n (mmF sc w) r)) c).1 (by omega) (mmF sc w (pc S) c + DF n (mmF sc w) r (S ||| 2 ^ c)) (by omega)
        by_cases g : mmF sc w (pc S) c + DF n (mmF sc w) r (S ||| 2 ^ c) ≤ (fmax (gF n (mmF sc w) r S (DF n (mmF sc w) r)) c).1
        · rw [if_neg (fun x => absurd (l.mp x) (by omega)), if_pos g]
        · rw [if_pos (l.mpr (by omega)), if_neg g]
      rw [ev]
      obtain ⟨σ', e1, g1, g2, g3⟩ := ih (c + 1) (u2 σ 11 S (enc (fmax (gF n (mmF sc w) r S (DF n (mmF sc w) r)) (c + 1)).1)) (by omega) (by omega)
        (fun q hq => by rw [u2_k _ _ _ (show 22 + q ≠ 11 by omega)]; exact hP q hq) (fun T h3 h4 => by rw [u2_j _ _ _ (by omega)]; exact hT T h3 h4) (u2_s _ _ _ _)
      exact ⟨σ', e1, g1, g2, fun k hk => (g3 k hk).trans (u2_k _ _ _ hk)⟩
    · have b' : S.testBit c = true := by simpa using b
      rw [if_neg (fun x => b ((tb_eq c (by omega) S (by omega)).mp x))]
      refine ih (c + 1) σ (by omega) (by omega) hP hT ?_
      rw [h11, fmax]
      have eg : gF n (mmF sc w) r S (DF n (mmF sc w) r) c = 0 := by
        show (if S.testBit c = true then 0 else _) = _
        rw [if_pos b']
      rw [eg, if_pos (Nat.zero_le _)]
theorem x18 {F n : Nat} {sc w : Nat → Int32} {kk : Mem → Option Mem} (hF0 : 50000 ≤ F) (hn : n ≤ 6) : ∀ (f j : Nat) (σ : Mem), j < 2 ^ n → j < f → PX n sc w σ → TB n (mmF sc w) j σ →
    ∃ σ', X2_make_L18 F (nI n) kk f (dn j) σ = kk σ' ∧ PX n sc w σ' ∧ TB n (mmF sc w) 0 σ' ∧ (∀ k, k ≠ 11 → σ' k = σ k) := by
  have h64 := two_le hn
  intro f
  induction f with
  | zero => intro j σ h1 h2; omega
  | succ f ih =>
    intro j σ h1 h2 hP hT
    rw [X2_make_L18]
    cases j with
    | zero =>
      rw [if_pos (show dn 0 < 0 by decide)]
      exact ⟨σ, rfl, hP, hT, fun _ _ => rfl⟩
    | succ S =>
      have hp := pc_all n hn S (by omega)
      have hne : pc S < n := by
        have : ¬ pc S = n := fun q => by have := hp.2.mp q; omega
        omega
      rw [if_neg (dn_ge (by omega)), dn_s, show dn (S + 1) = nI S from rfl, grd_t (inb_nI (by omega) (by decide)), bnd_e, clN (by omega)]
      obtain ⟨σ1, e1, g1, g2, g3⟩ := x34 (F := F) (sc := sc) (w := w) (kk := fun σ_20 => X2_make_L18 F (nI n) kk f (dn S) σ_20) hn (show S < 2 ^ n by omega) (show pc S + ((n - pc S - 1) + 1) = n by omega) F 0 (u2 σ 11 S (-1)) (by omega) (by omega) (fun q hq => by rw [u2_k _ _ _ (show 22 + q ≠ 11 by omega)]; exact hP q hq) (fun T h3 h4 => by rw [u2_j _ _ _ (by omega)]; exact hT T h3 h4) (by rw [u2_s, fmax]; exact enc0.symm)
      rw [nI_0] at e1
      rw [e1]
      obtain ⟨σ2, e2, q1, q2, q3⟩ := ih S σ1 (by omega) (by omega) g1 g2
      exact ⟨σ2, e2, q1, q2, fun k hk => (q3 k hk).trans ((g3 k hk).trans (u2_k _ _ _ hk))⟩
