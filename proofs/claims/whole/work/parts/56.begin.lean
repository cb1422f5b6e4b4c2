-- the worlds that the constructors leave, by cell numbers (printed by gen4.py)
def pX : List Nat := [0, 1, 2, 3, 4, 5, 6, 15, 16, 17, 50, 51, 52, 53, 54, 56, 58, 60, 55, 57, 59, 61, 62, 63, 64, 65, 66, 67, 7, 8, 9, 10, 11, 12, 13, 14, 18, 19, 20, 21, 22, 23, 24, 25, 26, 27, 28, 29, 30, 31, 32, 33, 34, 35, 36, 37, 38, 39, 40, 41, 42, 43, 44, 45, 46, 47, 48, 49]
def adX (h0 : Nat) (u : NU) (k : Nat) : Nat := if k = 0 then h0 else u.1 (pX.getD k 0 - 1)
def adM (h0 : Nat) (u : NU) (k : Nat) : Nat := if k = 0 then h0 else u.1 (k - 1)
def sX : Mem := fun k => if k = 28 then (fun j => if j = 6 then 35 else 0) else if k = 36 then (fun j => if j = 6 then 43 else 0) else if k = 44 then (fun j => if j = 6 then 51 else 0) else if k = 52 then (fun j => if j = 6 then 59 else 0) else if k = 60 then (fun j => if j = 6 then 67 else 0) else if 22 ≤ k then (if k < 28 then (fun j => if j = 2 then 6 else if j = 3 then 1 else 0) else fun _ => 0) else fun _ => 0
def sM : Mem := fun k => if k = 19 then (va_up (va_up (va_up (va_up (fun _ => 0) 0 (-1)) 1 (-1)) 2 (-1)) 3 (-1)) else fun _ => 0
set_option maxHeartbeats 4000000 in
set_option maxRecDepth 100000 in
theorem wX_born {dC : Nat → ClassId} {dI : Nat → Nat → Nat} {A : Nat → Prop} {h0 base : Nat} {u : NU} {t : State} {R : va_W} (h : n_at_X6 dC dI A h0 u t) : va_P (dC, dI) vwCl (wmap 68 (adX h0 u) (eX (mkT (dC, dI) (adX h0 u) u.2 base 0 (fun _ _ => .inr (0, [])) R)) sX) t.heap := by
  obtain ⟨hP, -, -⟩ := h
  generalize hΘ : mkT (dC, dI) (adX h0 u) u.2 base 0 (fun _ _ => .inr (0, [])) R = Θ
  have ha : ta Θ = adX h0 u := by rw [← hΘ]; rfl
  have hc : tc Θ = u.2 := by rw [← hΘ]; rfl
  have hP := va_P_fun hP (q0 := 1) (g := fun j => some (adX h0 u (14 + j))) rfl (fun j hj => by rcases (show j = 0 ∨ j = 1 ∨ j = 2 ∨ j = 3 by omega) with rfl | rfl | rfl | rfl <;> rfl)
  have hP := va_P_fun hP (q0 := 2) (g := fun j => some (adX h0 u (22 + j))) rfl (fun j hj => by rcases (show j = 0 ∨ j = 1 ∨ j = 2 ∨ j = 3 ∨ j = 4 ∨ j = 5 by omega) with rfl | rfl | rfl | rfl | rfl | rfl <;> rfl)
  have hP := va_P_fun hP (q0 := 16) (g := fun j => some (adX h0 u (36 + 8 * j))) rfl (fun j hj => by rcases (show j = 0 ∨ j = 1 ∨ j = 2 ∨ j = 3 by omega) with rfl | rfl | rfl | rfl <;> rfl)
  have g_0 : va_at (dC, dI) vwCl (adX h0 u 0, eX Θ 0 (sX 0)) t.heap := by
    subst hΘ
    exact hP 0 _ rfl
  have g_1 : va_at (dC, dI) vwCl (adX h0 u 1, eX Θ 1 (sX 1)) t.heap := by
    subst hΘ
    exact hP 1 _ rfl
  have g_2 : va_at (dC, dI) vwCl (adX h0 u 2, eX Θ 2 (sX 2)) t.heap := by
    subst hΘ
    exact hP 2 _ rfl
  have g_3 : va_at (dC, dI) vwCl (adX h0 u 3, eX Θ 3 (sX 3)) t.heap := by
    subst hΘ
    exact hP 3 _ rfl
  have g_4 : va_at (dC, dI) vwCl (adX h0 u 4, eX Θ 4 (sX 4)) t.heap := by
    subst hΘ
    exact hP 4 _ rfl
  have g_5 : va_at (dC, dI) vwCl (adX h0 u 5, eX Θ 5 (sX 5)) t.heap := by
    subst hΘ
    exact hP 5 _ rfl
  have g_6 : va_at (dC, dI) vwCl (adX h0 u 6, eX Θ 6 (sX 6)) t.heap := by
    subst hΘ
    exact hP 6 _ rfl
  have g_7 : va_at (dC, dI) vwCl (adX h0 u 7, eX Θ 7 (sX 7)) t.heap := by
    subst hΘ
    exact hP 15 _ rfl
  have g_8 : va_at (dC, dI) vwCl (adX h0 u 8, eX Θ 8 (sX 8)) t.heap := by
    subst hΘ
    exact hP 16 _ rfl
  have g_9 : va_at (dC, dI) vwCl (adX h0 u 9, eX Θ 9 (sX 9)) t.heap := by
    subst hΘ
    exact hP 17 _ rfl
  have g_10 : va_at (dC, dI) vwCl (adX h0 u 10, eX Θ 10 (sX 10)) t.heap := by
    subst hΘ
    exact hP 50 _ rfl
  have g_11 : va_at (dC, dI) vwCl (adX h0 u 11, eX Θ 11 (sX 11)) t.heap := by
    subst hΘ
    exact hP 51 _ rfl
  have g_12 : va_at (dC, dI) vwCl (adX h0 u 12, eX Θ 12 (sX 12)) t.heap := by
    subst hΘ
    exact hP 52 _ rfl
  have g_13 : va_at (dC, dI) vwCl (adX h0 u 13, eX Θ 13 (sX 13)) t.heap := by
    subst hΘ
    exact hP 53 _ rfl
  have g_14 : va_at (dC, dI) vwCl (adX h0 u 14, eX Θ 14 (sX 14)) t.heap := by
    subst hΘ
    exact hP 54 _ rfl
  have g_15 : va_at (dC, dI) vwCl (adX h0 u 15, eX Θ 15 (sX 15)) t.heap := by
    subst hΘ
    exact hP 56 _ rfl
  have g_16 : va_at (dC, dI) vwCl (adX h0 u 16, eX Θ 16 (sX 16)) t.heap := by
    subst hΘ
    exact hP 58 _ rfl
  have g_17 : va_at (dC, dI) vwCl (adX h0 u 17, eX Θ 17 (sX 17)) t.heap := by
    subst hΘ
    exact hP 60 _ rfl
  have g_18 : va_at (dC, dI) vwCl (adX h0 u 18, eX Θ 18 (sX 18)) t.heap := by
    subst hΘ
    exact hP 55 _ rfl
  have g_19 : va_at (dC, dI) vwCl (adX h0 u 19, eX Θ 19 (sX 19)) t.heap := by
    subst hΘ
    exact hP 57 _ rfl
  have g_20 : va_at (dC, dI) vwCl (adX h0 u 20, eX Θ 20 (sX 20)) t.heap := by
    subst hΘ
    exact hP 59 _ rfl
  have g_21 : va_at (dC, dI) vwCl (adX h0 u 21, eX Θ 21 (sX 21)) t.heap := by
    subst hΘ
    exact hP 61 _ rfl
  have g_22 : va_at (dC, dI) vwCl (adX h0 u 22, eX Θ 22 (sX 22)) t.heap := by
    subst hΘ
    exact hP 62 _ rfl
  have g_23 : va_at (dC, dI) vwCl (adX h0 u 23, eX Θ 23 (sX 23)) t.heap := by
    subst hΘ
    exact hP 63 _ rfl
  have g_24 : va_at (dC, dI) vwCl (adX h0 u 24, eX Θ 24 (sX 24)) t.heap := by
    subst hΘ
    exact hP 64 _ rfl
  have g_25 : va_at (dC, dI) vwCl (adX h0 u 25, eX Θ 25 (sX 25)) t.heap := by
    subst hΘ
    exact hP 65 _ rfl
  have g_26 : va_at (dC, dI) vwCl (adX h0 u 26, eX Θ 26 (sX 26)) t.heap := by
    subst hΘ
    exact hP 66 _ rfl
  have g_27 : va_at (dC, dI) vwCl (adX h0 u 27, eX Θ 27 (sX 27)) t.heap := by
    subst hΘ
    exact hP 67 _ rfl
  have g_28 : va_at (dC, dI) vwCl (adX h0 u 28, eX Θ 28 (sX 28)) t.heap := by
    have e : (sX 28 6).toNatClampNeg = 35 := by decide
    rw [e_X0 (by unfold isEx; omega), e, ha]
    exact hP 7 _ rfl
  have g_29 : va_at (dC, dI) vwCl (adX h0 u 29, eX Θ 29 (sX 29)) t.heap := by
    subst hΘ
    exact hP 8 _ rfl
  have g_30 : va_at (dC, dI) vwCl (adX h0 u 30, eX Θ 30 (sX 30)) t.heap := by
    subst hΘ
    exact hP 9 _ rfl
  have g_31 : va_at (dC, dI) vwCl (adX h0 u 31, eX Θ 31 (sX 31)) t.heap := by
    subst hΘ
    exact hP 10 _ rfl
  have g_32 : va_at (dC, dI) vwCl (adX h0 u 32, eX Θ 32 (sX 32)) t.heap := by
    subst hΘ
    exact hP 11 _ rfl
  have g_33 : va_at (dC, dI) vwCl (adX h0 u 33, eX Θ 33 (sX 33)) t.heap := by
    subst hΘ
    exact hP 12 _ rfl
  have g_34 : va_at (dC, dI) vwCl (adX h0 u 34, eX Θ 34 (sX 34)) t.heap := by
    subst hΘ
    exact hP 13 _ rfl
  have g_35 : va_at (dC, dI) vwCl (adX h0 u 35, eX Θ 35 (sX 35)) t.heap := by
    subst hΘ
    exact hP 14 _ rfl
  have g_36 : va_at (dC, dI) vwCl (adX h0 u 36, eX Θ 36 (sX 36)) t.heap := by
    have e : (sX 36 6).toNatClampNeg = 43 := by decide
    rw [e_X0 (by unfold isEx; omega), e, ha]
    exact hP 18 _ rfl
  have g_37 : va_at (dC, dI) vwCl (adX h0 u 37, eX Θ 37 (sX 37)) t.heap := by
    subst hΘ
    exact hP 19 _ rfl
  have g_38 : va_at (dC, dI) vwCl (adX h0 u 38, eX Θ 38 (sX 38)) t.heap := by
    subst hΘ
    exact hP 20 _ rfl
  have g_39 : va_at (dC, dI) vwCl (adX h0 u 39, eX Θ 39 (sX 39)) t.heap := by
    subst hΘ
    exact hP 21 _ rfl
  have g_40 : va_at (dC, dI) vwCl (adX h0 u 40, eX Θ 40 (sX 40)) t.heap := by
    subst hΘ
    exact hP 22 _ rfl
  have g_41 : va_at (dC, dI) vwCl (adX h0 u 41, eX Θ 41 (sX 41)) t.heap := by
    subst hΘ
    exact hP 23 _ rfl
  have g_42 : va_at (dC, dI) vwCl (adX h0 u 42, eX Θ 42 (sX 42)) t.heap := by
    subst hΘ
    exact hP 24 _ rfl
  have g_43 : va_at (dC, dI) vwCl (adX h0 u 43, eX Θ 43 (sX 43)) t.heap := by
    subst hΘ
    exact hP 25 _ rfl
  have g_44 : va_at (dC, dI) vwCl (adX h0 u 44, eX Θ 44 (sX 44)) t.heap := by
    have e : (sX 44 6).toNatClampNeg = 51 := by decide
    rw [e_X0 (by unfold isEx; omega), e, ha]
    exact hP 26 _ rfl
  have g_45 : va_at (dC, dI) vwCl (adX h0 u 45, eX Θ 45 (sX 45)) t.heap := by
    subst hΘ
    exact hP 27 _ rfl
  have g_46 : va_at (dC, dI) vwCl (adX h0 u 46, eX Θ 46 (sX 46)) t.heap := by
    subst hΘ
    exact hP 28 _ rfl
  have g_47 : va_at (dC, dI) vwCl (adX h0 u 47, eX Θ 47 (sX 47)) t.heap := by
    subst hΘ
    exact hP 29 _ rfl
  have g_48 : va_at (dC, dI) vwCl (adX h0 u 48, eX Θ 48 (sX 48)) t.heap := by
    subst hΘ
    exact hP 30 _ rfl
  have g_49 : va_at (dC, dI) vwCl (adX h0 u 49, eX Θ 49 (sX 49)) t.heap := by
    subst hΘ
    exact hP 31 _ rfl
  have g_50 : va_at (dC, dI) vwCl (adX h0 u 50, eX Θ 50 (sX 50)) t.heap := by
    subst hΘ
    exact hP 32 _ rfl
  have g_51 : va_at (dC, dI) vwCl (adX h0 u 51, eX Θ 51 (sX 51)) t.heap := by
    subst hΘ
    exact hP 33 _ rfl
  have g_52 : va_at (dC, dI) vwCl (adX h0 u 52, eX Θ 52 (sX 52)) t.heap := by
    have e : (sX 52 6).toNatClampNeg = 59 := by decide
    rw [e_X0 (by unfold isEx; omega), e, ha]
    exact hP 34 _ rfl
  have g_53 : va_at (dC, dI) vwCl (adX h0 u 53, eX Θ 53 (sX 53)) t.heap := by
    subst hΘ
    exact hP 35 _ rfl
  have g_54 : va_at (dC, dI) vwCl (adX h0 u 54, eX Θ 54 (sX 54)) t.heap := by
    subst hΘ
    exact hP 36 _ rfl
  have g_55 : va_at (dC, dI) vwCl (adX h0 u 55, eX Θ 55 (sX 55)) t.heap := by
    subst hΘ
    exact hP 37 _ rfl
  have g_56 : va_at (dC, dI) vwCl (adX h0 u 56, eX Θ 56 (sX 56)) t.heap := by
    subst hΘ
    exact hP 38 _ rfl
  have g_57 : va_at (dC, dI) vwCl (adX h0 u 57, eX Θ 57 (sX 57)) t.heap := by
    subst hΘ
    exact hP 39 _ rfl
  have g_58 : va_at (dC, dI) vwCl (adX h0 u 58, eX Θ 58 (sX 58)) t.heap := by
    subst hΘ
    exact hP 40 _ rfl
  have g_59 : va_at (dC, dI) vwCl (adX h0 u 59, eX Θ 59 (sX 59)) t.heap := by
    subst hΘ
    exact hP 41 _ rfl
  have g_60 : va_at (dC, dI) vwCl (adX h0 u 60, eX Θ 60 (sX 60)) t.heap := by
    have e : (sX 60 6).toNatClampNeg = 67 := by decide
    rw [e_X0 (by unfold isEx; omega), e, ha]
    exact hP 42 _ rfl
  have g_61 : va_at (dC, dI) vwCl (adX h0 u 61, eX Θ 61 (sX 61)) t.heap := by
    subst hΘ
    exact hP 43 _ rfl
  have g_62 : va_at (dC, dI) vwCl (adX h0 u 62, eX Θ 62 (sX 62)) t.heap := by
    subst hΘ
    exact hP 44 _ rfl
  have g_63 : va_at (dC, dI) vwCl (adX h0 u 63, eX Θ 63 (sX 63)) t.heap := by
    subst hΘ
    exact hP 45 _ rfl
  have g_64 : va_at (dC, dI) vwCl (adX h0 u 64, eX Θ 64 (sX 64)) t.heap := by
    subst hΘ
    exact hP 46 _ rfl
  have g_65 : va_at (dC, dI) vwCl (adX h0 u 65, eX Θ 65 (sX 65)) t.heap := by
    subst hΘ
    exact hP 47 _ rfl
  have g_66 : va_at (dC, dI) vwCl (adX h0 u 66, eX Θ 66 (sX 66)) t.heap := by
    subst hΘ
    exact hP 48 _ rfl
  have g_67 : va_at (dC, dI) vwCl (adX h0 u 67, eX Θ 67 (sX 67)) t.heap := by
    subst hΘ
    exact hP 49 _ rfl
  intro k q hk
  have hlt : k < 68 := by have := (List.getElem?_eq_some_iff.mp hk).1; simpa [wmap] using this
  unfold wmap at hk
  rw [List.getElem?_map, List.getElem?_range hlt] at hk
  cases hk
  match k, hlt with
  | 0, _ => exact g_0
  | 1, _ => exact g_1
  | 2, _ => exact g_2
  | 3, _ => exact g_3
  | 4, _ => exact g_4
  | 5, _ => exact g_5
  | 6, _ => exact g_6
  | 7, _ => exact g_7
  | 8, _ => exact g_8
  | 9, _ => exact g_9
  | 10, _ => exact g_10
  | 11, _ => exact g_11
  | 12, _ => exact g_12
  | 13, _ => exact g_13
  | 14, _ => exact g_14
  | 15, _ => exact g_15
  | 16, _ => exact g_16
  | 17, _ => exact g_17
  | 18, _ => exact g_18
  | 19, _ => exact g_19
  | 20, _ => exact g_20
  | 21, _ => exact g_21
  | 22, _ => exact g_22
  | 23, _ => exact g_23
  | 24, _ => exact g_24
  | 25, _ => exact g_25
  | 26, _ => exact g_26
  | 27, _ => exact g_27
  | 28, _ => exact g_28
  | 29, _ => exact g_29
  | 30, _ => exact g_30
  | 31, _ => exact g_31
  | 32, _ => exact g_32
  | 33, _ => exact g_33
  | 34, _ => exact g_34
  | 35, _ => exact g_35
  | 36, _ => exact g_36
  | 37, _ => exact g_37
  | 38, _ => exact g_38
  | 39, _ => exact g_39
  | 40, _ => exact g_40
  | 41, _ => exact g_41
  | 42, _ => exact g_42
  | 43, _ => exact g_43
  | 44, _ => exact g_44
  | 45, _ => exact g_45
  | 46, _ => exact g_46
  | 47, _ => exact g_47
  | 48, _ => exact g_48
  | 49, _ => exact g_49
  | 50, _ => exact g_50
  | 51, _ => exact g_51
  | 52, _ => exact g_52
  | 53, _ => exact g_53
  | 54, _ => exact g_54
  | 55, _ => exact g_55
  | 56, _ => exact g_56
  | 57, _ => exact g_57
  | 58, _ => exact g_58
  | 59, _ => exact g_59
  | 60, _ => exact g_60
  | 61, _ => exact g_61
  | 62, _ => exact g_62
  | 63, _ => exact g_63
  | 64, _ => exact g_64
  | 65, _ => exact g_65
  | 66, _ => exact g_66
  | 67, _ => exact g_67
  | k + 68, h => exact absurd h (by omega)
set_option maxHeartbeats 4000000 in
set_option maxRecDepth 100000 in
theorem wM_born {dC : Nat → ClassId} {dI : Nat → Nat → Nat} {A : Nat → Prop} {h0 base : Nat} {u : NU} {cls : Nat → ClassId} {t : State} {R : va_W} (h : n_at_X7 dC dI A h0 u t) (c0 : u.2 0 = cls 0) (c1 : u.2 1 = cls 1) : va_P (dC, dI) vwCl (wmap 23 (adM h0 u) (eM (mkT (dC, dI) (adM h0 u) cls base 0 (fun _ _ => .inr (0, [])) R)) sM) t.heap := by
  obtain ⟨hP, -, -⟩ := h
  rw [c0, c1] at hP
  have g_0 : va_at (dC, dI) vwCl (adM h0 u 0, eM (mkT (dC, dI) (adM h0 u) cls base 0 (fun _ _ => .inr (0, [])) R) 0 (sM 0)) t.heap := hP 0 _ rfl
  have g_1 : va_at (dC, dI) vwCl (adM h0 u 1, eM (mkT (dC, dI) (adM h0 u) cls base 0 (fun _ _ => .inr (0, [])) R) 1 (sM 1)) t.heap := hP 1 _ rfl
  have g_2 : va_at (dC, dI) vwCl (adM h0 u 2, eM (mkT (dC, dI) (adM h0 u) cls base 0 (fun _ _ => .inr (0, [])) R) 2 (sM 2)) t.heap := hP 2 _ rfl
  have g_3 : va_at (dC, dI) vwCl (adM h0 u 3, eM (mkT (dC, dI) (adM h0 u) cls base 0 (fun _ _ => .inr (0, [])) R) 3 (sM 3)) t.heap := hP 3 _ rfl
  have g_4 : va_at (dC, dI) vwCl (adM h0 u 4, eM (mkT (dC, dI) (adM h0 u) cls base 0 (fun _ _ => .inr (0, [])) R) 4 (sM 4)) t.heap := hP 4 _ rfl
  have g_5 : va_at (dC, dI) vwCl (adM h0 u 5, eM (mkT (dC, dI) (adM h0 u) cls base 0 (fun _ _ => .inr (0, [])) R) 5 (sM 5)) t.heap := hP 5 _ rfl
  have g_6 : va_at (dC, dI) vwCl (adM h0 u 6, eM (mkT (dC, dI) (adM h0 u) cls base 0 (fun _ _ => .inr (0, [])) R) 6 (sM 6)) t.heap := hP 6 _ rfl
  have g_7 : va_at (dC, dI) vwCl (adM h0 u 7, eM (mkT (dC, dI) (adM h0 u) cls base 0 (fun _ _ => .inr (0, [])) R) 7 (sM 7)) t.heap := hP 7 _ rfl
  have g_8 : va_at (dC, dI) vwCl (adM h0 u 8, eM (mkT (dC, dI) (adM h0 u) cls base 0 (fun _ _ => .inr (0, [])) R) 8 (sM 8)) t.heap := hP 8 _ rfl
  have g_9 : va_at (dC, dI) vwCl (adM h0 u 9, eM (mkT (dC, dI) (adM h0 u) cls base 0 (fun _ _ => .inr (0, [])) R) 9 (sM 9)) t.heap := hP 9 _ rfl
  have g_10 : va_at (dC, dI) vwCl (adM h0 u 10, eM (mkT (dC, dI) (adM h0 u) cls base 0 (fun _ _ => .inr (0, [])) R) 10 (sM 10)) t.heap := hP 10 _ rfl
  have g_11 : va_at (dC, dI) vwCl (adM h0 u 11, eM (mkT (dC, dI) (adM h0 u) cls base 0 (fun _ _ => .inr (0, [])) R) 11 (sM 11)) t.heap := hP 11 _ rfl
  have g_12 : va_at (dC, dI) vwCl (adM h0 u 12, eM (mkT (dC, dI) (adM h0 u) cls base 0 (fun _ _ => .inr (0, [])) R) 12 (sM 12)) t.heap := hP 12 _ rfl
  have g_13 : va_at (dC, dI) vwCl (adM h0 u 13, eM (mkT (dC, dI) (adM h0 u) cls base 0 (fun _ _ => .inr (0, [])) R) 13 (sM 13)) t.heap := hP 13 _ rfl
  have g_14 : va_at (dC, dI) vwCl (adM h0 u 14, eM (mkT (dC, dI) (adM h0 u) cls base 0 (fun _ _ => .inr (0, [])) R) 14 (sM 14)) t.heap := hP 14 _ rfl
  have g_15 : va_at (dC, dI) vwCl (adM h0 u 15, eM (mkT (dC, dI) (adM h0 u) cls base 0 (fun _ _ => .inr (0, [])) R) 15 (sM 15)) t.heap := hP 15 _ rfl
  have g_16 : va_at (dC, dI) vwCl (adM h0 u 16, eM (mkT (dC, dI) (adM h0 u) cls base 0 (fun _ _ => .inr (0, [])) R) 16 (sM 16)) t.heap := hP 16 _ rfl
  have g_17 : va_at (dC, dI) vwCl (adM h0 u 17, eM (mkT (dC, dI) (adM h0 u) cls base 0 (fun _ _ => .inr (0, [])) R) 17 (sM 17)) t.heap := hP 17 _ rfl
  have g_18 : va_at (dC, dI) vwCl (adM h0 u 18, eM (mkT (dC, dI) (adM h0 u) cls base 0 (fun _ _ => .inr (0, [])) R) 18 (sM 18)) t.heap := hP 18 _ rfl
  have g_19 : va_at (dC, dI) vwCl (adM h0 u 19, eM (mkT (dC, dI) (adM h0 u) cls base 0 (fun _ _ => .inr (0, [])) R) 19 (sM 19)) t.heap := hP 19 _ rfl
  have g_20 : va_at (dC, dI) vwCl (adM h0 u 20, eM (mkT (dC, dI) (adM h0 u) cls base 0 (fun _ _ => .inr (0, [])) R) 20 (sM 20)) t.heap := hP 20 _ rfl
  have g_21 : va_at (dC, dI) vwCl (adM h0 u 21, eM (mkT (dC, dI) (adM h0 u) cls base 0 (fun _ _ => .inr (0, [])) R) 21 (sM 21)) t.heap := hP 21 _ rfl
  have g_22 : va_at (dC, dI) vwCl (adM h0 u 22, eM (mkT (dC, dI) (adM h0 u) cls base 0 (fun _ _ => .inr (0, [])) R) 22 (sM 22)) t.heap := hP 22 _ rfl
  intro k q hk
  have hlt : k < 23 := by have := (List.getElem?_eq_some_iff.mp hk).1; simpa [wmap] using this
  unfold wmap at hk
  rw [List.getElem?_map, List.getElem?_range hlt] at hk
  cases hk
  match k, hlt with
  | 0, _ => exact g_0
  | 1, _ => exact g_1
  | 2, _ => exact g_2
  | 3, _ => exact g_3
  | 4, _ => exact g_4
  | 5, _ => exact g_5
  | 6, _ => exact g_6
  | 7, _ => exact g_7
  | 8, _ => exact g_8
  | 9, _ => exact g_9
  | 10, _ => exact g_10
  | 11, _ => exact g_11
  | 12, _ => exact g_12
  | 13, _ => exact g_13
  | 14, _ => exact g_14
  | 15, _ => exact g_15
  | 16, _ => exact g_16
  | 17, _ => exact g_17
  | 18, _ => exact g_18
  | 19, _ => exact g_19
  | 20, _ => exact g_20
  | 21, _ => exact g_21
  | 22, _ => exact g_22
  | k + 23, h => exact absurd h (by omega)
theorem rel_born : Rel sX sM := by
  refine ⟨0, 0, ⟨Or.inl rfl, by decide, by decide, by decide, by decide, by decide, by decide, by decide, by decide⟩, fun p hp => absurd hp (by omega), fun k hk => absurd hk (by omega), fun k hk => Or.inl ?_⟩
  rcases (show k = 0 ∨ k = 1 ∨ k = 2 ∨ k = 3 by omega) with rfl | rfl | rfl | rfl <;> exact ⟨by decide, by decide⟩
