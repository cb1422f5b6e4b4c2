-- the way home, the same on both sides
/-- both count the same way home -/
theorem home_eq {F n e : Nat} {h : Nat → Nat} {σ τ : Mem} (hF0 : 50000 ≤ F) (hn : n ≤ 6) (h7 : σ e 7 = nI n) (h1 : τ 0 1 = nI n) (hs : ∀ p, p < n → σ (e + 4) p = nI (h p)) (ht : ∀ p, p < n → τ 9 p = nI (h p)) (hl : ∀ p, p < n → h p < n) (hi : ∀ p q, p < n → q < n → h p = h q → p = q) :
    ∃ z, X0_loansHome F e σ = some z ∧ X7_homeBy F τ = some z := by
  have hg : ∀ p, p < n → ((List.range n).map h).getD p 0 = h p := by
    intro p hp
    rw [List.getD_eq_getElem?_getD, List.getElem?_map, List.getElem?_range hp]
    rfl
  have hc : homeP n ((List.range n).map h) = true := by
    refine allP_s hl hi n 0 (by omega) ?_
    by_cases c : n = 6
    · subst c; exact home_six
    · exact home_all n (by omega)
  have hc2 := of_decide_eq_true hc
  refine ⟨homeX (fun p => ((List.range n).map h).getD p 0) n n 0 0, ?_, ?_⟩
  · have := homeX_eq (F := F) (e := e) (h := fun p => ((List.range n).map h).getD p 0) (σ := σ) hF0 hn h7 (fun p hp => by
      show σ (e + 4) p = nI (((List.range n).map h).getD p 0) ∧ ((List.range n).map h).getD p 0 < n
      rw [hg p hp]; exact ⟨hs p hp, hl p hp⟩) F 0 0 0 (by omega) (by omega)
    rw [nI_0, Nat.sub_zero] at this
    exact this
  · have := homeM_eq (F := F) (h := fun p => ((List.range n).map h).getD p 0) (τ := τ) hF0 hn h1 (fun p hp => by
      show τ 9 p = nI (((List.range n).map h).getD p 0) ∧ ((List.range n).map h).getD p 0 < n
      rw [hg p hp]; exact ⟨ht p hp, hl p hp⟩) F 0 0 0 _ (by omega) (by omega) (by rw [Nat.sub_zero]; exact hc2)
    rw [nI_0] at this
    exact this
theorem swap_inj {n : Nat} {s : ES} (hi : ∀ p q, p < n → q < n → s.1 p = s.1 q → p = q) {a b : Nat} (ha : a < n) (hb : b < n) : ∀ p q, p < n → q < n → (swapF s a b).1 p = (swapF s a b).1 q → p = q := by
  intro p q hp hq
  unfold swapF
  dsimp only
  have v : ∀ x, va_up (va_up s.1 a (s.1 b)) b (s.1 a) x = s.1 (if x = b then a else if x = a then b else x) := by
    intro x
    by_cases h1 : x = b
    · subst h1; rw [vup_s, if_pos rfl]
    · rw [vup_n _ _ h1, if_neg h1]
      by_cases h2 : x = a
      · subst h2; rw [vup_s, if_pos rfl]
      · rw [vup_n _ _ h2, if_neg h2]
  rw [v, v]
  intro e
  have l : ∀ x, x < n → (if x = b then a else if x = a then b else x) < n := by
    intro x hx
    by_cases h1 : x = b
    · rw [if_pos h1]; exact ha
    · rw [if_neg h1]
      by_cases h2 : x = a
      · rw [if_pos h2]; exact hb
      · rw [if_neg h2]; exact hx
  have e2 := hi _ _ (l p hp) (l q hq) e
  by_cases p1 : p = b
  · rw [if_pos p1] at e2
    by_cases q1 : q = b
    · rw [p1, q1]
    · rw [if_neg q1] at e2
      by_cases q2 : q = a
      · rw [if_pos q2] at e2; rw [p1, q2, ← e2]
      · rw [if_neg q2] at e2; exact absurd e2.symm q2
  · rw [if_neg p1] at e2
    by_cases p2 : p = a
    · rw [if_pos p2] at e2
      by_cases q1 : q = b
      · rw [if_pos q1] at e2; rw [p2, q1, ← e2]
      · rw [if_neg q1] at e2
        by_cases q2 : q = a
        · rw [p2, q2]
        · rw [if_neg q2] at e2; exact absurd e2.symm q1
    · rw [if_neg p2] at e2
      by_cases q1 : q = b
      · rw [if_pos q1] at e2; exact absurd e2 p2
      · rw [if_neg q1] at e2
        by_cases q2 : q = a
        · rw [if_pos q2] at e2; exact absurd e2 p1
        · rw [if_neg q2] at e2; exact e2
theorem play_inj {n m : Nat} {la w : Nat → Int32} {were all : Int32} {rw_ : Nat → Nat} (hrw : ∀ j, j < 2 * m → rw_ j < n) : ∀ (r j : Nat) (T : PS), j + r ≤ m → (∀ p q, p < n → q < n → T.1.1 p = T.1.1 q → p = q) → ∀ p q, p < n → q < n → (playF n la w were all rw_ r j T).2.1.1 p = (playF n la w were all rw_ r j T).2.1.1 q → p = q := by
  intro r
  induction r with
  | zero => intro j T _ h; exact h
  | succ r ih =>
    intro j T hj h
    rw [playF]
    split
    · exact h
    · exact ih (j + 1) _ (by omega) (swap_inj h (hrw _ (by omega)) (hrw _ (by omega)))
