-- the law: what holds at the head of its loop
abbrev Tx (D : va_G) (ad : Nat → Nat) (cls : Nat → ClassId) : TH := mkT D ad cls 0 0 (fun _ _ => .inr (0, [])) []
abbrev WXx (D : va_G) (ad : Nat → Nat) (cls : Nat → ClassId) (σ : Mem) : va_W := wmap 68 ad (eX (Tx D ad cls)) σ
abbrev WMm (D : va_G) (ad : Nat → Nat) (cls : Nat → ClassId) (τ : Mem) : va_W := wmap 23 ad (eM (Tx D ad cls)) τ
abbrev Thx (D : va_G) (ax am : Nat → Nat) (cls : Nat → ClassId) (base : Nat) (τ : Mem) : TH := mkT D ax cls base 68 (eX (Tx D ax cls)) (WMm D am cls τ)
abbrev Thm (D : va_G) (ax am : Nat → Nat) (cls : Nat → ClassId) (base : Nat) (σ : Mem) : TH := mkT D am cls base 23 (eM (Tx D am cls)) (WXx D ax cls σ)
theorem okx {D : va_G} {ax am : Nat → Nat} {cls : Nat → ClassId} {base : Nat} {σ τ : Mem} (hD : va_D (fun q => base ≤ q) (WXx D ax cls σ ++ WMm D am cls τ)) : okT (Thx D ax am cls base τ) (eX (Thx D ax am cls base τ)) 68 := mk_ok (σ0 := σ) hD
theorem okm {D : va_G} {ax am : Nat → Nat} {cls : Nat → ClassId} {base : Nat} {σ τ : Mem} (hD : va_D (fun q => base ≤ q) (WXx D ax cls σ ++ WMm D am cls τ)) : okT (Thm D ax am cls base σ) (eM (Thm D ax am cls base σ)) 23 := mk_ok (σ0 := τ) (va_D_swap hD)
theorem LD_any {D : va_G} {ax am : Nat → Nat} {cls : Nat → ClassId} {A : Nat → Prop} {σ τ σ' τ' : Mem} (hD : va_D A (WXx D ax cls σ ++ WMm D am cls τ)) : va_D A (WXx D ax cls σ' ++ WMm D am cls τ') := va_D_fst hD (by
  unfold WXx WMm wmap
  rw [List.map_append, List.map_append, List.map_map, List.map_map, List.map_map, List.map_map]
  rfl)
/-- where the script's ints lie -/
theorem sx_in {j k L : Nat} (h : 7 * j + 7 ≤ L) (hk : k < 7) (hL : L ≤ 448) : vp_in (nI (7 * j + k)) L := vp_in_nI (by omega) (by omega)
theorem law_go {j L : Nat} (hL : L ≤ 448) (hj : j ≤ 70) : (Int32.ofNat L - 7 < nI (7 * j)) ↔ ¬ 7 * j + 7 ≤ L := by
  rw [i32_lt, show (7 : Int32) = nI 7 from rfl, show Int32.ofNat L = nI L from rfl, pk_sub_toInt (by omega) (by omega), t32 (by omega)]
  omega
