-- rings: the way home
def ringX (h : Nat → Nat) : Nat → Int32 → Nat → Int32
  | 0, met, _ => met
  | r + 1, met, q => ringX h r (met ||| ((1 : Int32) <<< (nI q &&& 31))) (h q)
def homeX (h : Nat → Nat) (n : Nat) : Nat → Int32 → Int32 → Int32
  | 0, rings, _ => nI n - rings
  | r + 1, rings, met => homeX h n r (if ((met >>> (nI (n - (r + 1)) &&& 31)) &&& 1) = 0 then rings + 1 else rings) (ringX h n met (n - (r + 1)))
def ringM (h : Nat → Nat) : Nat → Int32 → Nat → Option Int32
  | 0, _, _ => none
  | r + 1, met, q => if X7_isIn met (nI q) = 0 then ringM h r (met ||| ((1 : Int32) <<< (nI q &&& 31))) (h q) else some met
def homeM (h : Nat → Nat) (n : Nat) : Nat → Int32 → Int32 → Option Int32
  | 0, rings, _ => some (nI n - rings)
  | r + 1, rings, met => (ringM h 8 met (n - (r + 1))).bind fun met' => homeM h n r (if X7_isIn met (nI (n - (r + 1))) = 0 then rings + 1 else rings) met'
theorem ringX_eq {F e n p : Nat} {v1 : Int32} {h : Nat → Nat} {σ : Mem} {kk : Int32 → Option Int32} (hn : n ≤ 6) (h7 : σ e 7 = nI n) (hh : ∀ p, p < n → σ (e + 4) p = nI (h p) ∧ h p < n) : ∀ (f st : Nat) (met : Int32) (q : Nat), st ≤ n → n - st < f → q < n → X0_loansHome_L31 F e v1 (nI p) σ kk f met (nI q) (nI st) = kk (ringX h (n - st) met q) := by
  intro f
  induction f with
  | zero => intro st met q h1 h2; omega
  | succ f ih =>
    intro st met q h1 h2 hq
    rw [X0_loansHome_L31, h7]
    by_cases c : st = n
    · subst c
      rw [if_pos (nI_le (Nat.le_refl _) (by omega)), Nat.sub_self]
      rfl
    have es : n - st = (n - (st + 1)) + 1 := by omega
    rw [if_neg (nI_ge (by omega) (by omega)), bnd_e, grd_t (inb_nI (by omega) (by decide)), bnd_e, clN (by omega), (hh q hq).1, nI_1, ih (st + 1) _ _ (by omega) (by omega) (hh q hq).2, es, ringX]
theorem homeX_eq {F e n : Nat} {h : Nat → Nat} {σ : Mem} (hF0 : 50000 ≤ F) (hn : n ≤ 6) (h7 : σ e 7 = nI n) (hh : ∀ p, p < n → σ (e + 4) p = nI (h p) ∧ h p < n) : ∀ (f p : Nat) (rings met : Int32), p ≤ n → n - p < f → X0_loansHome_L6 F e σ f rings met (nI p) = some (homeX h n (n - p) rings met) := by
  intro f
  induction f with
  | zero => intro p rings met h1 h2; omega
  | succ f ih =>
    intro p rings met h1 h2
    rw [X0_loansHome_L6, h7]
    by_cases c : p = n
    · subst c
      rw [if_pos (nI_le (Nat.le_refl _) (by omega)), Nat.sub_self]
      rfl
    have es : n - p = (n - (p + 1)) + 1 := by omega
    have ep : n - ((n - (p + 1)) + 1) = p := by omega
    rw [if_neg (nI_ge (by omega) (by omega)), es, homeX, ep, nI_1]
    have k1 := fun v1 kk => ringX_eq (F := F) (p := p) (v1 := v1) (kk := kk) hn h7 hh F 0 met p (by omega) (by omega) (by omega)
    rw [nI_0, Nat.sub_zero] at k1
    by_cases c2 : ((met >>> (nI p &&& 31)) &&& 1) = 0
    · rw [if_pos c2, if_pos c2, k1]
      exact ih (p + 1) _ _ (by omega) (by omega)
    · rw [if_neg c2, if_neg c2, k1]
      exact ih (p + 1) _ _ (by omega) (by omega)
theorem ringM_eq {F n : Nat} {v2 v3 : Int32} {h : Nat → Nat} {τ : Mem} {kk : Int32 → Option Int32} (hn : n ≤ 6) (hh : ∀ p, p < n → τ 9 p = nI (h p) ∧ h p < n) : ∀ (r f : Nat) (met x : Int32) (q : Nat), r ≤ f → q < n → ringM h r met q = some x → X7_homeBy_L33 F v2 v3 τ kk f met (nI q) = kk x := by
  intro r
  induction r with
  | zero => intro f met x q h1 h2 h3; exact absurd h3 (by simp [ringM])
  | succ r ih =>
    intro f met x q h1 hq h3
    obtain ⟨f', rfl⟩ : ∃ f', f = f' + 1 := ⟨f - 1, by omega⟩
    rw [X7_homeBy_L33]
    rw [ringM] at h3
    by_cases c : X7_isIn met (nI q) = 0
    · rw [if_pos c] at h3
      rw [if_pos c, bnd_e, grd_t (inb_nI (by omega) (by decide)), bnd_e, clN (by omega), (hh q hq).1]
      exact ih f' _ x _ (by omega) (hh q hq).2 h3
    · rw [if_neg c] at h3
      rw [if_neg c, Option.some.inj h3]
theorem homeM_eq {F n : Nat} {h : Nat → Nat} {τ : Mem} (hF0 : 50000 ≤ F) (hn : n ≤ 6) (h7 : τ 0 1 = nI n) (hh : ∀ p, p < n → τ 9 p = nI (h p) ∧ h p < n) : ∀ (f p : Nat) (rings met x : Int32), p ≤ n → n - p < f → homeM h n (n - p) rings met = some x → X7_homeBy_L6 F τ f met rings (nI p) = some x := by
  intro f
  induction f with
  | zero => intro p rings met x h1 h2; omega
  | succ f ih =>
    intro p rings met x h1 h2 h3
    rw [X7_homeBy_L6, h7]
    by_cases c : p = n
    · subst c
      rw [Nat.sub_self] at h3
      rw [if_pos (nI_le (Nat.le_refl _) (by omega))]
      exact h3
    have es : n - p = (n - (p + 1)) + 1 := by omega
    have ep : n - ((n - (p + 1)) + 1) = p := by omega
    rw [es, homeM, ep] at h3
    obtain ⟨m2, e1, e2⟩ := ob_s h3
    rw [if_neg (nI_ge (by omega) (by omega)), nI_1]
    by_cases c2 : X7_isIn met (nI p) = 0
    · rw [if_pos c2] at e2
      rw [if_pos c2, bnd_e, ringM_eq hn hh 8 F met m2 p (by omega) (by omega) e1]
      exact ih (p + 1) _ _ x (by omega) (by omega) e2
    · rw [if_neg c2] at e2
      rw [if_neg c2, bnd_e, ringM_eq hn hh 8 F met m2 p (by omega) (by omega) e1, Int32.add_zero]
      exact ih (p + 1) _ _ x (by omega) (by omega) e2
def allP (n : Nat) (P : List Nat → Bool) : Nat → List Nat → Bool
  | 0, l => P l
  | r + 1, l => (List.range n).all fun x => l.contains x || allP n P r (l ++ [x])
theorem allP_s {n : Nat} {P : List Nat → Bool} {h : Nat → Nat} (hl : ∀ p, p < n → h p < n) (hi : ∀ p q, p < n → q < n → h p = h q → p = q) : ∀ (r j : Nat), j + r = n → allP n P r ((List.range j).map h) = true → P ((List.range n).map h) = true := by
  intro r
  induction r with
  | zero => intro j e a; rw [show n = j by omega]; exact a
  | succ r ih =>
    intro j e a
    rw [allP, List.all_eq_true] at a
    have b := a (h j) (List.mem_range.mpr (hl j (by omega)))
    have c : ((List.range j).map h).contains (h j) = false := by
      rw [← Bool.not_eq_true, List.contains_iff_mem, List.mem_map]
      rintro ⟨q, hq, e2⟩
      rw [List.mem_range] at hq
      exact absurd (hi q j (by omega) (by omega) e2) (by omega)
    rw [c, Bool.false_or] at b
    have d : (List.range j).map h ++ [h j] = (List.range (j + 1)).map h := by rw [List.range_succ, List.map_append]; rfl
    rw [d] at b
    exact ih (j + 1) (by omega) b
def homeP (n : Nat) (l : List Nat) : Bool := decide (homeM (fun p => l.getD p 0) n n 0 0 = some (homeX (fun p => l.getD p 0) n n 0 0))
theorem home_all : ∀ n, n < 6 → allP n (homeP n) n [] = true := by decide +kernel
theorem home_six : allP 6 (homeP 6) 6 [] = true := by decide +kernel
