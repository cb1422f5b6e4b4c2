-- the law's two worlds in one heap
theorem arrV_congr {cA : ClassId} {N : Nat} {f g : Nat → Value} (h : ∀ j, j < N → f j = g j) : arrV cA N f = arrV cA N g := by
  unfold arrV
  congr 2
  funext j
  exact h j.val j.isLt
theorem va_P_fun {D : va_G} {cl : List vw_C} {ws : va_W} {H : Heap} (hP : va_P D cl ws H) {q0 a n : Nat} {cA : ClassId} {f g : Nat → Option Nat} (h : ws[q0]? = some (a, .inl (cA, n, .inr (.inr (.inr (.inr f)))))) (e : ∀ j, j < n → f j = g j) : va_P D cl (ws.set q0 (a, .inl (cA, n, .inr (.inr (.inr (.inr g)))))) H := by
  intro k q hk
  by_cases e2 : q0 = k
  · subst e2
    have hlt : q0 < ws.length := (List.getElem?_eq_some_iff.mp h).1
    rw [List.getElem?_set_self hlt] at hk
    cases hk
    have h1 : H[a]? = some (vp_cell cA (n, .inr (.inr (.inr (.inr f))))) := hP q0 _ h
    show H[a]? = some (vp_cell cA (n, .inr (.inr (.inr (.inr g)))))
    rw [h1, vp_cell_q, vp_cell_q, arrV_congr (g := fun j => va_rf (g j)) (fun j hj => by rw [e j hj])]
  · rw [List.getElem?_set_ne e2] at hk
    exact hP k q hk
theorem va_D_fst {A : Nat → Prop} {ws ws' : va_W} (h : va_D A ws) (e : ws'.map Prod.fst = ws.map Prod.fst) : va_D A ws' := by
  have key : ∀ (i : Nat) (p : Nat × va_E), ws'[i]? = some p → ∃ p', ws[i]? = some p' ∧ p'.1 = p.1 := by
    intro i p hp
    have h1 : (ws'.map Prod.fst)[i]? = some p.1 := by rw [List.getElem?_map, hp]; rfl
    rw [e, List.getElem?_map] at h1
    cases hw : ws[i]? with
    | none => rw [hw] at h1; cases h1
    | some p' => rw [hw] at h1; exact ⟨p', rfl, Option.some.inj h1⟩
  refine ⟨fun i j p q hp hq hpq => ?_, fun k q hq => ?_⟩
  · obtain ⟨p', h1, h2⟩ := key i p hp
    obtain ⟨q', h3, h4⟩ := key j q hq
    exact h.1 i j p' q' h1 h3 (by rw [h2, h4]; exact hpq)
  · obtain ⟨q', h1, h2⟩ := key k q hq
    rw [← h2]
    exact h.2 k q' h1
theorem map_set {α : Type} {N k : Nat} (hk : k < N) (f g : Nat → α) (h : ∀ i, i ≠ k → g i = f i) : ((List.range N).map f).set k (g k) = (List.range N).map g := by
  apply List.ext_getElem?
  intro i
  by_cases e : k = i
  · subst e
    rw [List.getElem?_set_self (by simpa using hk), List.getElem?_map, List.getElem?_range hk]
    rfl
  · rw [List.getElem?_set_ne e, List.getElem?_map, List.getElem?_map]
    by_cases hi : i < N
    · rw [List.getElem?_range hi]
      show some (f i) = some (g i)
      rw [h i (fun q => e q.symm)]
    · rw [List.getElem?_eq_none (by simpa using hi)]
      rfl
def wmap (N : Nat) (ad : Nat → Nat) (E : Nat → (Nat → Int32) → va_E) (σ : Mem) : va_W := (List.range N).map fun k => (ad k, E k (σ k))
def mkT (D : va_G) (ad : Nat → Nat) (cls : Nat → ClassId) (base : Nat) (N : Nat) (E : Nat → (Nat → Int32) → va_E) (R : va_W) : TH := (D, ad, cls, fun σ => wmap N ad E σ ++ R, base)
theorem mk_ok {D : va_G} {ad : Nat → Nat} {cls : Nat → ClassId} {base N : Nat} {E : Nat → (Nat → Int32) → va_E} {R : va_W} {σ0 : Mem} (hD : va_D (fun q => base ≤ q) (wmap N ad E σ0 ++ R)) : okT (mkT D ad cls base N E R) E N := by
  refine ⟨fun σ k hk => ⟨k, ?_, fun f => ?_⟩, fun σ => ?_⟩
  · show (wmap N ad E σ ++ R)[k]? = some (ad k, E k (σ k))
    unfold wmap
    rw [List.getElem?_append_left (by simpa using hk), List.getElem?_map, List.getElem?_range hk]
    rfl
  · show (wmap N ad E σ ++ R).set k (ad k, E k f) = wmap N ad E (u1 σ k f) ++ R
    unfold wmap
    rw [List.set_append_left _ _ (by simpa using hk)]
    congr 1
    have := map_set hk (fun i => (ad i, E i (σ i))) (fun i => (ad i, E i (u1 σ k f i))) (fun i hi => by rw [u1_n _ _ hi])
    rw [← this]
    congr 1
    show (ad k, E k f) = (ad k, E k (u1 σ k f k))
    rw [u1_s]
  · refine va_D_fst hD ?_
    show (wmap N ad E σ ++ R).map Prod.fst = (wmap N ad E σ0 ++ R).map Prod.fst
    unfold wmap
    rw [List.map_append, List.map_append, List.map_map, List.map_map]
    rfl
theorem va_P_swap {D : va_G} {cl : List vw_C} {w1 w2 : va_W} {H : Heap} (h : va_P D cl (w1 ++ w2) H) : va_P D cl (w2 ++ w1) H := by
  refine va_P.app (fun k q hk => ?_) (fun k q hk => ?_)
  · exact h (w1.length + k) q (by rw [List.getElem?_append_right (by omega), show w1.length + k - w1.length = k by omega]; exact hk)
  · have hlt : k < w1.length := (List.getElem?_eq_some_iff.mp hk).1
    exact h k q (by rw [List.getElem?_append_left hlt]; exact hk)
theorem va_D_swap {A : Nat → Prop} {w1 w2 : va_W} (h : va_D A (w1 ++ w2)) : va_D A (w2 ++ w1) := by
  have l1 : ∀ k q, w2[k]? = some q → (w1 ++ w2)[w1.length + k]? = some q := fun k q hk => by rw [List.getElem?_append_right (by omega), show w1.length + k - w1.length = k by omega]; exact hk
  have l2 : ∀ k q, w1[k]? = some q → (w1 ++ w2)[k]? = some q := fun k q hk => by rw [List.getElem?_append_left (List.getElem?_eq_some_iff.mp hk).1]; exact hk
  refine va_D.app ⟨fun i j p q hi hj e => ?_, fun k q hk => h.2 _ q (l1 k q hk)⟩ ⟨fun i j p q hi hj e => h.1 i j p q (l2 i p hi) (l2 j q hj) e, fun k q hk => h.2 _ q (l2 k q hk)⟩ (fun i j p q hi hj e => ?_)
  · have := h.1 _ _ p q (l1 i p hi) (l1 j q hj) e
    omega
  · have := h.1 _ _ p q (l1 i p hi) (l2 j q hj) e
    have := (List.getElem?_eq_some_iff.mp hj).1
    omega
