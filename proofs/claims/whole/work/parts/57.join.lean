-- one world behind another
theorem app_at {α : Type} {w1 w2 : List α} {k : Nat} {q : α} (h : w2[k]? = some q) : (w1 ++ w2)[w1.length + k]? = some q := by
  rw [List.getElem?_append_right (by omega), show w1.length + k - w1.length = k by omega]; exact h
theorem app_at1 {α : Type} {w1 w2 : List α} {k : Nat} {q : α} (h : w1[k]? = some q) : (w1 ++ w2)[k]? = some q := by
  rw [List.getElem?_append_left (List.getElem?_eq_some_iff.mp h).1]; exact h
theorem free2 {A0 : Nat → Prop} {wr wc : va_W} {H0 H : Heap} {locs : List Loc} (hD : va_D A0 (wr ++ wc)) (hS : va_S A0 H0 H locs) (hA : ∀ q, H0.size ≤ q → A0 q) : ∀ q, va_A wc H.size q → A0 q := by
  intro q h
  rcases h with ⟨k, e, h⟩ | h
  · exact hD.2 _ (q, e) (app_at h)
  · exact hA q (Nat.le_trans hS.1 h)
theorem join2 {A0 : Nat → Prop} {D : va_G} {cl : List vw_C} {wr wc w1 : va_W} {H H1 : Heap} (hP : va_P D cl (wr ++ wc) H) (hD : va_D A0 (wr ++ wc))
    (hk : ∀ q : Nat, q < H.size → ¬ va_A wc H.size q → H1[q]? = H[q]?) (hF : ∀ q, va_A wc H.size q → A0 q) (hP1 : va_P D cl w1 H1) (hD1 : va_D (va_A wc H.size) w1) : va_P D cl (wr ++ w1) H1 ∧ va_D A0 (wr ++ w1) := by
  have apart : ∀ (k : Nat) (q : Nat × va_E), wr[k]? = some q → q.1 < H.size ∧ ¬ va_A wc H.size q.1 := by
    intro k q hq
    have hl := (hP k q (app_at1 hq)).lt
    refine ⟨hl, fun h => ?_⟩
    rcases h with ⟨k2, e, h⟩ | h
    · have := hD.1 k (wr.length + k2) q (q.1, e) (app_at1 hq) (app_at h) rfl
      have := (List.getElem?_eq_some_iff.mp hq).1
      omega
    · omega
  refine ⟨va_P.app (fun k q hq => ?_) hP1, va_D.app ⟨fun i j p q hi hj e => hD.1 i j p q (app_at1 hi) (app_at1 hj) e, fun k q hq => hD.2 k q (app_at1 hq)⟩ (hD1.weaken (fun k q _ h => hF q.1 h)) (fun i j x y hx hy hxy => ?_)⟩
  · obtain ⟨g1, g2⟩ := apart k q hq
    exact (hP k q (app_at1 hq)).kept (hk q.1 g1 g2)
  · exact (apart i x hx).2 (by rw [hxy]; exact hD1.2 j y hy)
set_option maxHeartbeats 4000000 in
set_option maxRecDepth 100000 in
theorem dX_born {dC : Nat → ClassId} {dI : Nat → Nat → Nat} {A : Nat → Prop} {h0 : Nat} {u : NU} {t : State} (h : n_at_X6 dC dI A h0 u t) (E : Nat → (Nat → Int32) → va_E) (σ : Mem) : va_D A (wmap 68 (adX h0 u) E σ) := by
  obtain ⟨-, -, hD⟩ := h
  have key : ∀ k, k < 68 → pX.getD k 0 < 68 ∧ ∀ j, j < 68 → pX.getD k 0 = pX.getD j 0 → k = j := by decide +kernel
  have el : ∀ (ws : va_W), ws.map Prod.fst = (h0 :: (List.range 67).map u.1) → va_D A ws → va_D A (wmap 68 (adX h0 u) E σ) := by
    intro ws hf hD
    have at' : ∀ i q, (wmap 68 (adX h0 u) E σ)[i]? = some q → i < 68 ∧ q.1 = adX h0 u i := by
      intro i q hq
      have hlt : i < 68 := by have := (List.getElem?_eq_some_iff.mp hq).1; simpa [wmap] using this
      unfold wmap at hq
      rw [List.getElem?_map, List.getElem?_range hlt] at hq
      cases hq
      exact ⟨hlt, rfl⟩
    have ws' : ∀ k, k < 68 → ∃ q, ws[k]? = some q ∧ q.1 = (if k = 0 then h0 else u.1 (k - 1)) := by
      intro k hk
      have h1 : (ws.map Prod.fst)[k]? = some (if k = 0 then h0 else u.1 (k - 1)) := by
        rw [hf]
        cases k with
        | zero => rfl
        | succ k =>
          rw [List.getElem?_cons_succ, List.getElem?_map, List.getElem?_range (by omega), if_neg (by omega)]
          rfl
      rw [List.getElem?_map] at h1
      cases hw : ws[k]? with
      | none => rw [hw] at h1; cases h1
      | some q => rw [hw] at h1; exact ⟨q, rfl, Option.some.inj h1⟩
    have z0 : ∀ k, k < 68 → (pX.getD k 0 = 0 ↔ k = 0) := by decide +kernel
    have adp : ∀ k, k < 68 → adX h0 u k = (if pX.getD k 0 = 0 then h0 else u.1 (pX.getD k 0 - 1)) := by
      intro k hk
      unfold adX
      by_cases c : k = 0
      · rw [if_pos c, if_pos ((z0 k hk).mpr c)]
      · rw [if_neg c, if_neg (fun q => c ((z0 k hk).mp q))]
    refine ⟨fun i j p q hi hj e => ?_, fun k q hq => ?_⟩
    · obtain ⟨a1, a2⟩ := at' i p hi
      obtain ⟨b1, b2⟩ := at' j q hj
      obtain ⟨p', c1, c2⟩ := ws' _ (key i a1).1
      obtain ⟨q', d1, d2⟩ := ws' _ (key j b1).1
      have := hD.1 _ _ p' q' c1 d1 (by rw [c2, d2, ← adp i a1, ← adp j b1, ← a2, ← b2]; exact e)
      exact (key i a1).2 j b1 this
    · obtain ⟨a1, a2⟩ := at' k q hq
      obtain ⟨p', c1, c2⟩ := ws' _ (key k a1).1
      have := hD.2 _ p' c1
      rw [a2, adp k a1, ← c2]
      exact this
  exact el _ rfl hD
set_option maxHeartbeats 4000000 in
set_option maxRecDepth 100000 in
theorem dM_born {dC : Nat → ClassId} {dI : Nat → Nat → Nat} {A : Nat → Prop} {h0 : Nat} {u : NU} {t : State} (h : n_at_X7 dC dI A h0 u t) (E : Nat → (Nat → Int32) → va_E) (σ : Mem) : va_D A (wmap 23 (adM h0 u) E σ) := by
  obtain ⟨-, -, hD⟩ := h
  exact va_D_fst hD rfl
