-- back, bodies, help
theorem r_back (v1 : Int32) {σ τ : Mem} (h : Rel σ τ) : (X6_back v1 σ).1 = (X7_back v1 τ).1 ∧ Rel (X6_back v1 σ).2 (X7_back v1 τ).2 := by
  obtain ⟨n, r, h⟩ := h
  unfold X6_back X7_back
  obtain ⟨⟨a1, a2, a3, a4, a5, a6, a7, a8, a9⟩, hpe, hr, hk⟩ := id h
  rw [a6, a7, X7_in_iff, i64_of, t0_64, i64_of, t32 (show r < 2 ^ 31 by omega)]
  simp only [bnd]
  by_cases c : 0 ≤ v1.toInt ∧ v1.toInt ≤ (r : Int)
  rotate_left
  · rw [if_neg c, if_pos rfl]
    by_cases c0 : v1 < 0
    · rw [if_pos c0]; exact ⟨rfl, n, r, h⟩
    · rw [if_neg c0, if_neg (by rw [i32_lt, t0_32] at c0; rw [i32_le, t32 (show r < 2 ^ 31 by omega)]; omega)]
      exact ⟨rfl, n, r, h⟩
  rw [if_neg (by rw [i32_lt, t0_32]; omega), if_pos (by rw [i32_le, t32 (show r < 2 ^ 31 by omega)]; omega), if_pos c, if_neg n10]
  obtain ⟨z, hz, rfl⟩ := nI_ex (v := v1) (N := r + 1) c.1 (by omega)
  rw [pk_sub (show z ≤ r by omega)]
  refine ⟨by rw [u2_s, u2_s], n, r - z, ?_⟩
  show RelN n (r - z) (u2 σ 3 3 (nI (r - z))) (u2 τ 0 21 (nI (r - z)))
  refine ⟨⟨a1, a2, by omega, ?_, ?_, ?_, ?_, ?_, ?_⟩, fun q hq => ?_, fun q hq => ?_, fun q hq => ?_⟩
  · rw [u2_k _ _ _ (by decide)]; exact a4
  · rw [u2_j _ _ _ (by decide)]; exact a5
  · rw [u2_s]
  · rw [u2_s]
  · rw [u2_k _ _ _ (by decide), u2_j _ _ _ (by decide)]; exact a8
  · rw [u2_k _ _ _ (by decide), u2_j _ _ _ (by decide)]; exact a9
  · have := hpe q hq
    unfold RPer at this ⊢
    rw [u2_k _ _ _ (show 22 + q ≠ 3 by omega), u2_k _ _ _ (show 1 ≠ 0 by decide), u2_k _ _ _ (show 2 ≠ 0 by decide), u2_k _ _ _ (show 3 ≠ 0 by decide), u2_k _ _ _ (show 4 ≠ 0 by decide)]
    exact this
  · have := hr q (by omega)
    unfold RRea at this ⊢
    rw [u2_k _ _ _ (show 4 ≠ 3 by decide), u2_k _ _ _ (show 5 ≠ 3 by decide), u2_k _ _ _ (show 6 ≠ 3 by decide), u2_k _ _ _ (show 16 ≠ 0 by decide), u2_k _ _ _ (show 17 ≠ 0 by decide), u2_k _ _ _ (show 18 ≠ 0 by decide)]
    exact this
  · have := hk q hq
    unfold RShe at this ⊢
    rw [u2_k _ _ _ (show 14 + q ≠ 3 by omega), u2_k _ _ _ (show 14 + q + 4 ≠ 3 by omega), u2_k _ _ _ (show 19 ≠ 0 by decide), u2_k _ _ _ (show 20 ≠ 0 by decide), u2_k _ _ _ (show 21 ≠ 0 by decide)]
    exact this
theorem RelN.trc {n r : Nat} {σ τ : Mem} (h : RelN n r σ τ) (v : Int32) : RelN n r (u2 σ 0 8 v) (u2 τ 0 29 v) := by
  obtain ⟨⟨a1, a2, a3, a4, a5, a6, a7, a8, a9⟩, hp, hr, hk⟩ := h
  refine ⟨⟨a1, a2, a3, ?_, ?_, ?_, ?_, ?_, ?_⟩, fun p q => ?_, fun k q => ?_, fun k q => ?_⟩
  · rw [u2_j _ _ _ (by decide)]; exact a4
  · rw [u2_j _ _ _ (by decide)]; exact a5
  · rw [u2_k _ _ _ (by decide)]; exact a6
  · rw [u2_j _ _ _ (by decide)]; exact a7
  · rw [u2_s, u2_s]
  · rw [u2_j _ _ _ (by decide), u2_j _ _ _ (by decide)]; exact a9
  · have := hp p q
    unfold RPer at this ⊢
    rw [u2_k _ _ _ (show 22 + p ≠ 0 by omega), u2_k _ _ _ (show 1 ≠ 0 by omega), u2_k _ _ _ (show 2 ≠ 0 by omega), u2_k _ _ _ (show 3 ≠ 0 by omega), u2_k _ _ _ (show 4 ≠ 0 by omega)]
    exact this
  · have := hr k q
    unfold RRea at this ⊢
    rw [u2_k _ _ _ (show 4 ≠ 0 by omega), u2_k _ _ _ (show 5 ≠ 0 by omega), u2_k _ _ _ (show 6 ≠ 0 by omega), u2_k _ _ _ (show 16 ≠ 0 by omega), u2_k _ _ _ (show 17 ≠ 0 by omega), u2_k _ _ _ (show 18 ≠ 0 by omega)]
    exact this
  · have := hk k q
    unfold RShe at this ⊢
    rw [u2_k _ _ _ (show 14 + k ≠ 0 by omega), u2_k _ _ _ (show 14 + k + 4 ≠ 0 by omega), u2_k _ _ _ (show 19 ≠ 0 by omega), u2_k _ _ _ (show 20 ≠ 0 by omega), u2_k _ _ _ (show 21 ≠ 0 by omega)]
    exact this
theorem r_leave {n r : Nat} {σ τ : Mem} (h : RelN n r σ τ) (v : Int32) : RelN n r (X6_leaveInTrace v σ) (X7_traced v τ) := by
  unfold X6_leaveInTrace X7_traced
  simp only [bnd]
  rw [h.1.2.2.2.2.2.2.2.1]
  exact h.trc _
theorem lv_k (v : Int32) (σ : Mem) {k : Nat} (hk : k ≠ 0) : X6_leaveInTrace v σ k = σ k := by
  unfold X6_leaveInTrace
  simp only [bnd]
  rw [u2_k _ _ _ hk]
theorem tr_k (v : Int32) (σ : Mem) {k : Nat} (hk : k ≠ 0) : X7_traced v σ k = σ k := by
  unfold X7_traced
  simp only [bnd]
  rw [u2_k _ _ _ hk]
theorem r_tell (v1 : Int32) : Agree (X6_tell v1) (X7_tell v1) := by
  rintro σ τ ⟨n, r, h⟩
  unfold X6_tell X7_tell X7_tell_J27 X7_tell_J36 X7_tell_J51 X6_tellingOfTwin X6_tellingOfSad X6_tellingOfChildhood
  rcases isPerson_cases h v1 with ⟨a, b⟩ | ⟨p, hp, rfl, a, b⟩
  · rw [a, b, if_pos rfl, if_neg n10]
    exact ⟨_, _, _, rfl, rfl, n, r, h⟩
  rw [a, b, if_neg n10, if_pos rfl]
  obtain ⟨⟨a1, a2, a3, a4, a5, a6, a7, a8, a9⟩, hpe, hr, hk⟩ := id h
  obtain ⟨b1, b2, b3, b4, ⟨k, hk2, b5⟩, b6, b7, b8⟩ := hpe p hp
  simp only [bnd, grd_t (inb_p hp a2), clN (show p < 2 ^ 31 by omega), b1, b5, lv_k _ _ (show 22 + p ≠ 0 by omega), tr_k _ _ (show 4 ≠ 0 by decide), b4]
  rcases (show k = 0 ∨ k = 1 ∨ k = 2 by omega) with rfl | rfl | rfl
  · simp only [if_neg (show ¬ nI 0 = 1 by decide), if_neg (show ¬ nI 0 = 2 by decide), if_pos (show nI 0 ≤ 0 by decide), if_pos (show nI 0 = 0 by decide)]
    exact ⟨_, _, _, rfl, rfl, n, r, r_leave h 1⟩
  · simp only [if_pos (show nI 1 = 1 by decide), if_neg (show ¬ nI 1 = 2 by decide), if_neg (show ¬ nI 1 ≤ 0 by decide), if_neg (show ¬ nI 1 = 0 by decide)]
    exact ⟨_, _, _, rfl, rfl, n, r, r_leave (r_leave h 2) 1⟩
  · simp only [if_neg (show ¬ nI 2 = 1 by decide), if_pos (show nI 2 = 2 by decide), if_neg (show ¬ nI 2 ≤ 0 by decide), if_neg (show ¬ nI 2 = 0 by decide)]
    have e : ∀ x : Int32, x + 100 + x = (2 : Int32) * x + 100 := fun x => by
      have h2 : (2 : Int32) = 1 + 1 := by decide
      rw [h2, Int32.add_mul, Int32.one_mul, Int32.add_assoc, Int32.add_comm 100 x, ← Int32.add_assoc]
    rw [e]
    exact ⟨_, _, _, rfl, rfl, n, r, r_leave (r_leave (r_leave (r_leave h 3) 2) 1) 1⟩
theorem r_hand (v1 : Int32) : Agree (X6_hand v1) (X7_hand v1) := by
  rintro σ τ ⟨n, r, h⟩
  unfold X6_hand X7_hand
  rcases isPerson_cases h v1 with ⟨a, b⟩ | ⟨p, hp, rfl, a, b⟩
  · rw [a, b, if_pos rfl, if_neg n10]
    exact ⟨_, _, _, rfl, rfl, n, r, h⟩
  rw [a, b, if_neg n10, if_pos rfl]
  obtain ⟨⟨a1, a2, a3, a4, a5, a6, a7, a8, a9⟩, hpe, hr, hk⟩ := id h
  obtain ⟨b1, b2, b3, b4, b5, b6, b7, b8⟩ := hpe p hp
  simp only [bnd, grd_t (inb_p hp a2), clN (show p < 2 ^ 31 by omega), b1, tr_k _ _ (show 1 ≠ 0 by decide)]
  by_cases c : τ 1 p = 2
  · simp only [if_pos c]
    exact ⟨_, _, _, rfl, rfl, n, r, r_leave h 5⟩
  · simp only [if_neg c]
    exact ⟨_, _, _, rfl, rfl, n, r, r_leave h 4⟩
theorem r_as (v1 v2 : Int32) : Agree (X6_as v1 v2) (X7_as v1 v2) := by
  rintro σ τ ⟨n, r, h⟩
  have hF := h.fault 0
  unfold X6_as X7_as X7_refused X7_failed X6_faultAnswer
  simp only [bnd]
  have eP : X7_noPerson v1 (u2 τ 0 0 0) = X7_noPerson v1 τ := by
    unfold X7_noPerson
    rw [u2_j _ _ _ (by decide)]
  rcases isPerson_cases hF v1 with ⟨a, b⟩ | ⟨p, hp, rfl, a, b⟩
  · rw [eP] at b
    rw [a, b, if_pos rfl, if_neg n10]
    exact ⟨_, _, _, rfl, rfl, n, r, hF⟩
  rw [eP] at b
  have h3 : (3 : Int32).toInt = 3 := by decide
  rw [a, b, if_neg n10, if_pos rfl, X7_in_iff, i64_of, t0_64, t2_64]
  by_cases c : 0 ≤ v2.toInt ∧ v2.toInt ≤ 2
  rotate_left
  · rw [if_neg c, if_pos rfl]
    by_cases c0 : v2 < 0
    · rw [if_pos c0]; exact ⟨_, _, _, rfl, rfl, n, r, hF⟩
    · rw [if_neg c0, if_neg (by rw [i32_lt, t0_32] at c0; rw [i32_lt, h3]; omega)]
      exact ⟨_, _, _, rfl, rfl, n, r, hF⟩
  rw [if_neg (by rw [i32_lt, t0_32]; omega), if_pos (by rw [i32_lt, h3]; omega), if_pos c, if_neg n10]
  obtain ⟨⟨a1, a2, a3, a4, a5, a6, a7, a8, a9⟩, hpe, hr, hk⟩ := id h
  obtain ⟨b1, b2, b3, b4, b5, b6, b7, b8⟩ := hpe p hp
  simp only [grd_t (inb_p hp a2), clN (show p < 2 ^ 31 by omega), u2_k σ 9 0 (show 22 + p ≠ 0 by omega), b1, u2_u2]
  by_cases c2 : τ 1 p < v2
  · simp only [if_pos c2]
    exact ⟨_, _, _, rfl, rfl, n, r, h.fault 2⟩
  · simp only [if_neg c2]
    exact ⟨_, _, _, rfl, rfl, n, r, hF⟩
/-- bits of small sets -/
theorem bit_eq : ∀ w, w < 6 → ∀ x, x < 64 → ((X7_isIn (nI x) (nI w) = 0 ∧ ((nI x) &&& ((1 : Int32) <<< (nI w &&& 31))) = 0) ∨ (X7_isIn (nI x) (nI w) = 1 ∧ ¬ ((nI x) &&& ((1 : Int32) <<< (nI w &&& 31))) = 0)) := by decide +kernel
theorem help_bit : ∀ w, w < 6 → ∀ x, x < 64 → ∀ y, y < 64 → ((((1 : Int32) <<< (nI w &&& 31)) &&& nI x) &&& ((nI y) ^^^ (-1)) = 0 ↔ (X7_isIn (nI x) (nI w) = 0 ∨ ¬ X7_isIn (nI y) (nI w) = 0)) := by decide +kernel
theorem help_loop {n r : Nat} {σ τ : Mem} (h : RelN n r σ τ) {p : Nat} (hp : p < n) (F : Nat) : ∀ (f i : Nat) (v : Int32), i ≤ n → n - i < f → ∃ z, X6_help_L14 F (nI p) σ f v (nI i) = some z ∧ X7_help_L14 F (nI p) τ f v (nI i) = some z := by
  obtain ⟨⟨a1, a2, a3, a4, a5, a6, a7, a8, a9⟩, hpe, hr, hk⟩ := id h
  intro f
  induction f with
  | zero => intro i v h1 h2; omega
  | succ f ih =>
    intro i v h1 h2
    rw [X6_help_L14, X7_help_L14, a4, a5]
    by_cases c : i = n
    · subst c
      rw [if_pos (nI_le (Nat.le_refl _) (by omega)), if_pos (nI_le (Nat.le_refl _) (by omega))]
      exact ⟨v, rfl, rfl⟩
    rw [if_neg (nI_ge (by omega) (by omega)), if_neg (nI_ge (by omega) (by omega))]
    obtain ⟨b1, b2, b3, b4, b5, ⟨x, hx, b6⟩, ⟨w, hw, b7⟩, b8⟩ := hpe i (by omega)
    obtain ⟨c1, c2, c3, c4, c5, ⟨y, hy, c6⟩, c7, c8⟩ := hpe p hp
    unfold X3_wantedSet
    simp only [bnd, grd_t (inb_p hp a2), grd_t (inb_p (show i < n by omega) a2), clN (show p < 2 ^ 31 by omega), clN (show i < 2 ^ 31 by omega), b2, b3, b6, b7, c2, c6, nI_1]
    by_cases hw6 : w = 6
    · subst hw6
      simp only [if_pos (show nI 6 = 6 from rfl), if_pos (show (6 : Int32) ≤ nI 6 by decide), Int32.zero_and, if_true, Int32.add_zero]
      exact ih (i + 1) v (by omega) (by omega)
    · have hb := help_bit w (by omega) y hy x hx
      simp only [if_neg (show ¬ nI w = 6 from fun q => hw6 (nI_inj (b := 6) (by omega) (by decide) q)), if_neg (show ¬ (6 : Int32) ≤ nI w from nI_ge (b := 6) (by omega) (by decide)), Int32.add_zero]
      by_cases c9 : X7_isIn (nI y) (nI w) = 0
      · simp only [if_pos (hb.mpr (Or.inl c9)), if_pos c9]
        exact ih (i + 1) v (by omega) (by omega)
      · by_cases c10 : X7_isIn (nI x) (nI w) = 0
        · have hne : ¬ (((1 : Int32) <<< (nI w &&& 31)) &&& nI y) &&& ((nI x) ^^^ (-1)) = 0 := fun q => (hb.mp q).elim c9 (fun z => z c10)
          simp only [if_neg hne, if_neg c9, if_pos c10]
          exact ih (i + 1) (v + 1) (by omega) (by omega)
        · simp only [if_pos (hb.mpr (Or.inr c10)), if_neg c9, if_neg c10]
          exact ih (i + 1) v (by omega) (by omega)
theorem r_help {F : Nat} (hF0 : 50000 ≤ F) (v1 : Int32) {σ τ : Mem} (h : Rel σ τ) : ∃ r, X6_help F v1 σ = some r ∧ X7_help F v1 τ = some r := by
  obtain ⟨n, r, h⟩ := h
  unfold X6_help X7_help
  rcases isPerson_cases h v1 with ⟨a, b⟩ | ⟨p, hp, rfl, a, b⟩
  · rw [a, b, if_pos rfl, if_neg n10]
    exact ⟨_, rfl, rfl⟩
  · rw [a, b, if_neg n10, if_pos rfl]
    have h6 := h.1.2.1
    obtain ⟨z, e1, e2⟩ := help_loop h hp F F 0 0 (by omega) (by omega)
    rw [nI_0] at e1 e2
    exact ⟨z, e1, e2⟩
