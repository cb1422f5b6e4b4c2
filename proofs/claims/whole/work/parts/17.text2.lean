-- a person of a text: the class and the reference
theorem u2_06 (τ : Mem) (v w : Int32) : u2 (u2 τ 0 6 v) 0 6 w = u2 τ 0 6 w := u2_u2 τ 0 6 v w
theorem at67 (τ : Mem) (v : Int32) : u2 τ 0 6 v 0 7 = τ 0 7 := u2_j _ _ _ (by decide)
theorem at21 (τ : Mem) (v : Int32) : u2 τ 0 6 v 21 = τ 21 := u2_k _ _ _ (by decide)
/-- the reference's arrays get a person -/
theorem j190 {τ : Mem} {q : Nat} (hq : q < 6) (h7 : τ 0 7 = nI q) (d2 d3 d4 d5 l : Nat) : ∃ τ', X7_readsPerson_J190 (nI d2) (nI d3) (nI d4) (nI d5) (nI q) (nI l) τ = some (1, τ') ∧ τ' 0 6 = τ 0 6 ∧ τ' 0 7 = nI (q + 1) ∧ FrP τ τ' ∧ (∀ p, p ≠ q → τ' 5 p = τ 5 p ∧ τ' 6 p = τ 6 p ∧ τ' 7 p = τ 7 p ∧ τ' 8 p = τ 8 p) ∧ τ' 5 q = nI l ∧ τ' 6 q = nI (10 * d2 + d3) ∧ τ' 7 q = nI d4 ∧ τ' 8 q = nI d5 := by
  have hi := inb_nI (k := q) (N := 6) hq (by decide)
  have m1 : ∀ v, u2 τ 5 q v 0 = τ 0 := fun v => u2_k _ _ _ (by decide)
  have m2 : ∀ v w, u2 (u2 τ 5 q v) 6 q w 0 = τ 0 := fun v w => by rw [u2_k _ _ _ (by decide), m1]
  have m3 : ∀ v w y, u2 (u2 (u2 τ 5 q v) 6 q w) 7 q y 0 = τ 0 := fun v w y => by rw [u2_k _ _ _ (by decide), m2]
  have m4 : ∀ v w y z, u2 (u2 (u2 (u2 τ 5 q v) 6 q w) 7 q y) 8 q z 0 = τ 0 := fun v w y z => by rw [u2_k _ _ _ (by decide), m3]
  unfold X7_readsPerson_J190
  simp only [grd_t hi, bnd, clN (show q < 2 ^ 31 by omega), m1, m2, m3, m4, h7, m10_nI, nI_add, nI_1]
  refine ⟨_, rfl, ?_, ?_, ⟨fun k h0 h5 h6 h7 h8 => ?_, fun j h6 h7 => ?_⟩, fun p hp => ⟨?_, ?_, ?_, ?_⟩, ?_, ?_, ?_, ?_⟩
  · rw [u2_j _ _ _ (by decide), m4]
  · rw [u2_s]
  · rw [u2_k _ _ _ h0, u2_k _ _ _ h8, u2_k _ _ _ h7, u2_k _ _ _ h6, u2_k _ _ _ h5]
  · rw [u2_j _ _ _ h7, m4]
  · rw [u2_k _ _ _ (by decide), u2_k _ _ _ (by decide), u2_k _ _ _ (by decide), u2_k _ _ _ (by decide), u2_j _ _ _ hp]
  · rw [u2_k _ _ _ (by decide), u2_k _ _ _ (by decide), u2_k _ _ _ (by decide), u2_j _ _ _ hp, u2_k _ _ _ (by decide)]
  · rw [u2_k _ _ _ (by decide), u2_k _ _ _ (by decide), u2_j _ _ _ hp, u2_k _ _ _ (by decide), u2_k _ _ _ (by decide)]
  · rw [u2_k _ _ _ (by decide), u2_j _ _ _ hp, u2_k _ _ _ (by decide), u2_k _ _ _ (by decide), u2_k _ _ _ (by decide)]
  · rw [u2_k _ _ _ (by decide), u2_k _ _ _ (by decide), u2_k _ _ _ (by decide), u2_k _ _ _ (by decide), u2_s]
  · rw [u2_k _ _ _ (by decide), u2_k _ _ _ (by decide), u2_k _ _ _ (by decide), u2_s]
  · rw [u2_k _ _ _ (by decide), u2_k _ _ _ (by decide), u2_s]
  · rw [u2_k _ _ _ (by decide), u2_s]
/-- what a person's reading ends with: failed at a place, or read -/
def PStep (F n0 a b fr q : Nat) (σ : Mem) (kk : Option Int32) (τ : Mem) (z : Int32) (τ' : Mem) : Prop :=
  FrP τ τ' ∧ (∀ p, p < q → τ' 5 p = τ 5 p ∧ τ' 6 p = τ 6 p ∧ τ' 7 p = τ 7 p ∧ τ' 8 p = τ 8 p) ∧
  ((z = 0 ∧ ∃ t, τ' 0 6 = nI t ∧ t ≤ b ∧ ((∀ f bf, X6_firstFaultOfText_L5 F n0 (nI a) (nI b) σ kk (f + 7) bf (nI (1 + 6 * q)) = some (nI t)) ∨ (t = b ∧ (b = 1 + 6 * q ∨ (b - 1) % 6 ≠ 0) ∧ ∀ f bf, X6_firstFaultOfText_L5 F n0 (nI a) (nI b) σ kk (f + 7) bf (nI (1 + 6 * q)) = kk))) ∨
   (z = 1 ∧ q < 6 ∧ 7 + 6 * q ≤ b ∧ τ' 0 6 = nI (7 + 6 * q) ∧ τ' 0 7 = nI (q + 1) ∧ PB (fun j => τ 21 (fr + j)) q τ' ∧ ∀ f bf, ∃ bf2, X6_firstFaultOfText_L5 F n0 (nI a) (nI b) σ kk (f + 7) bf (nI (1 + 6 * q)) = X6_firstFaultOfText_L5 F n0 (nI a) (nI b) σ kk (f + 1) bf2 (nI (7 + 6 * q))))
theorem n01 : ¬ (0 : Int32) = 1 := by decide
theorem n9 : ¬ (0 : Int32) ≤ -9 := by decide
theorem person_tail {F n0 a b fr q : Nat} {σ τ τ0 : Mem} {kk : Option Int32} {v3 : Int32} {l : Nat} (hb : a + b ≤ 60) (hf : fr + b ≤ 240) (hcd : ∀ j, j < b → σ (n0 + 4) (a + j) = τ 21 (fr + j)) (hq : q < 6) (h21 : τ0 21 = τ 21) (hFr : FrP τ τ0) (hold : ∀ p, p < q → τ0 5 p = τ 5 p ∧ τ0 6 p = τ 6 p ∧ τ0 7 p = τ 7 p ∧ τ0 8 p = τ 8 p) (h6 : τ0 0 6 = nI (2 + 6 * q)) (h7 : τ0 0 7 = nI q) (htb : 2 + 6 * q ≤ b) (ht2 : 2 + 6 * q < b) (hl : l ≤ 2) (hc0 : τ 21 (fr + (1 + 6 * q)) = 59) (hc1 : τ 21 (fr + (1 + 6 * q + 1)) = (if l = 0 then 99 else if l = 1 then 115 else 116)) (hv3 : v3 = (if l = 0 then 99 else if l = 1 then 115 else 116)) :
    ∃ z τ', X7_readsPerson_J59 (nI fr) (nI b) v3 τ0 = some (z, τ') ∧ PStep F n0 a b fr q σ kk τ z τ' := by
  -- the class's first two codes
  have x0 : ∀ f bf, X6_firstFaultOfText_L5 F n0 (nI a) (nI b) σ kk (f + 7) bf (nI (1 + 6 * q)) = X6_firstFaultOfText_L5 F n0 (nI a) (nI b) σ kk (f + 5) (τ 21 (fr + (1 + 6 * q + 1))) (nI (1 + 6 * q + 2)) := by
    intro f bf
    rw [xt_step (f := f + 6) (by omega) hb, tg0 hq, hcd _ (by omega), if_pos hc0, if_neg n10, xt_step (f := f + 5) (by omega) hb, tg1 hq, hcd _ (by omega), hc1]
    rcases (show l = 0 ∨ l = 1 ∨ l = 2 by omega) with rfl | rfl | rfl
    · rfl
    · rfl
    · rfl
  have g6 : nI (2 + 6 * q) + 1 = nI (3 + 6 * q) := by rw [nI_1]; congr 1; omega
  unfold X7_readsPerson_J59
  simp only [bnd, h6, g6]
  -- the third code
  have mk : ∀ {t : Nat} {τ1 : Mem}, τ1 = u2 τ0 0 6 (nI t) → FrP τ τ1 ∧ (∀ p, p < q → τ1 5 p = τ 5 p ∧ τ1 6 p = τ 6 p ∧ τ1 7 p = τ 7 p ∧ τ1 8 p = τ 8 p) ∧ τ1 0 6 = nI t ∧ τ1 0 7 = nI q ∧ τ1 21 = τ 21 := by
    intro t τ1 e
    subst e
    refine ⟨hFr.t (FrP.at6 _ _), fun p hp => ?_, u2_s _ _ _ _, by rw [at67]; exact h7, by rw [at21]; exact h21⟩
    rw [u2_k _ _ _ (show 5 ≠ 0 by decide), u2_k _ _ _ (show 6 ≠ 0 by decide), u2_k _ _ _ (show 7 ≠ 0 by decide), u2_k _ _ _ (show 8 ≠ 0 by decide)]
    exact hold p hp
  obtain ⟨A1, A2, A3, A4, A5⟩ := mk (t := 3 + 6 * q) rfl
  rcases fig (fr := fr) (b := b) 0 6 0 6 (by decide) (by decide) (by decide) A3 (by omega) hf with ⟨hlt, d2, -, hd2, hc2, e2⟩ | ⟨hbad, e2⟩
  rotate_left
  · rw [e2]
    simp only [Option.bind_some, if_neg n9]
    refine ⟨0, _, rfl, A1, A2, Or.inl ⟨rfl, 3 + 6 * q, A3, by omega, ?_⟩⟩
    rcases Nat.lt_or_ge (3 + 6 * q) b with hlt | hge
    · refine Or.inl fun f bf => ?_
      have hbad2 : ¬ ((48 : Int) ≤ (τ 21 (fr + (1 + 6 * q + 2))).toInt ∧ (τ 21 (fr + (1 + 6 * q + 2))).toInt ≤ 54) := by
        rcases hbad with hb2 | hb2
        · omega
        · rw [A5, show fr + (3 + 6 * q) = fr + (1 + 6 * q + 2) by omega] at hb2
          exact fun q => hb2 ⟨by omega, by omega⟩
      rw [x0, xt_step (f := f + 4) (by omega) hb, tg2 hq, hcd _ (by omega), if_neg hbad2, if_pos rfl]
      congr 2; omega
    · refine Or.inr ⟨by omega, Or.inr (by omega), fun f bf => ?_⟩
      rw [x0, xt_end (f := f + 4) (by omega) hb]
  rw [A5, show fr + (3 + 6 * q) = fr + (1 + 6 * q + 2) by omega] at hc2
  have td2 := t32 (k := 48 + d2) (by omega)
  have x2 : ∀ f bf, X6_firstFaultOfText_L5 F n0 (nI a) (nI b) σ kk (f + 7) bf (nI (1 + 6 * q)) = X6_firstFaultOfText_L5 F n0 (nI a) (nI b) σ kk (f + 4) (nI (48 + d2)) (nI (1 + 6 * q + 3)) := by
    intro f bf
    have ok : (48 : Int) ≤ (nI (48 + d2)).toInt ∧ (nI (48 + d2)).toInt ≤ 54 := by omega
    rw [x0, xt_step (f := f + 4) (by omega) hb, tg2 hq, hcd _ (by omega), hc2, if_pos ok, if_neg n10]
  rw [e2]
  simp only [Option.bind_some, u2_06, if_pos (show (0 : Int32) ≤ nI d2 from nI_pos' (by omega))]
  obtain ⟨B1, B2, B3, B4, B5⟩ := mk (t := 3 + 6 * q + 1) rfl
  -- the fourth code, under its bound h3
  have rest : ∀ (hi : Int32) (h3 : Nat), hi.toInt = h3 → h3 ≤ 9 → (h3 = if d2 = 6 then 3 else 9) → ∃ z τ', (Option.bind (X7_figure (nI fr) (nI b) 0 hi (u2 τ0 0 6 (nI (3 + 6 * q + 1)))) fun z_44 => if 0 ≤ z_44.1 then Option.bind (X7_figure (nI fr) (nI b) 0 6 z_44.2) fun z_47 => if 0 ≤ z_47.1 then Option.bind (X7_figure (nI fr) (nI b) 1 9 z_47.2) fun z_50 => if 0 ≤ z_50.1 then if v3 = 99 then X7_readsPerson_J190 (nI d2) z_44.1 z_47.1 z_50.1 (z_50.2 0 7) 0 z_50.2 else if v3 = 115 then X7_readsPerson_J190 (nI d2) z_44.1 z_47.1 z_50.1 (z_50.2 0 7) 1 z_50.2 else X7_readsPerson_J190 (nI d2) z_44.1 z_47.1 z_50.1 (z_50.2 0 7) 2 z_50.2 else some (0, z_50.2) else some (0, z_47.2) else some (0, z_44.2)) = some (z, τ') ∧ PStep F n0 a b fr q σ kk τ z τ' := by
    intro hi h3 hhi h39 hh3
    have hbf : (if nI (48 + d2) = 54 then (51 : Int) else 57) = 48 + (h3 : Int) := by
      by_cases c6 : d2 = 6
      · subst c6
        rw [if_pos rfl] at hh3
        rw [if_pos (by decide)]; omega
      · rw [if_neg c6] at hh3
        rw [if_neg (fun q => c6 (by have := nI_inj (a := 48 + d2) (b := 54) (by omega) (by decide) q; omega))]; omega
    rcases fig (fr := fr) (b := b) 0 hi 0 h3 (by decide) hhi h39 B3 (by omega) hf with ⟨hlt3, d3, -, hd3, hc3, e3⟩ | ⟨hbad, e3⟩
    rotate_left
    · rw [e3]
      simp only [Option.bind_some, if_neg n9]
      refine ⟨0, _, rfl, B1, B2, Or.inl ⟨rfl, 3 + 6 * q + 1, B3, by omega, ?_⟩⟩
      rcases Nat.lt_or_ge (3 + 6 * q + 1) b with hlt | hge
      · refine Or.inl fun f bf => ?_
        have hbad2 : ¬ ((48 : Int) ≤ (τ 21 (fr + (1 + 6 * q + 3))).toInt ∧ (τ 21 (fr + (1 + 6 * q + 3))).toInt ≤ 48 + (h3 : Int)) := by
          rcases hbad with hb2 | hb2
          · omega
          · rw [B5, show fr + (3 + 6 * q + 1) = fr + (1 + 6 * q + 3) by omega] at hb2
            exact fun q => hb2 ⟨by omega, by omega⟩
        rw [x2, xt_step (f := f + 3) (by omega) hb, tg3 hq, hcd _ (by omega), hbf, if_neg hbad2, if_pos rfl]
        congr 2; omega
      · refine Or.inr ⟨by omega, Or.inr (by omega), fun f bf => ?_⟩
        rw [x2, xt_end (f := f + 3) (by omega) hb]
    rw [B5, show fr + (3 + 6 * q + 1) = fr + (1 + 6 * q + 3) by omega] at hc3
    have td3 := t32 (k := 48 + d3) (by omega)
    have x3 : ∀ f bf, X6_firstFaultOfText_L5 F n0 (nI a) (nI b) σ kk (f + 7) bf (nI (1 + 6 * q)) = X6_firstFaultOfText_L5 F n0 (nI a) (nI b) σ kk (f + 3) (nI (48 + d3)) (nI (1 + 6 * q + 4)) := by
      intro f bf
      have ok : (48 : Int) ≤ (nI (48 + d3)).toInt ∧ (nI (48 + d3)).toInt ≤ 48 + (h3 : Int) := by omega
      rw [x2, xt_step (f := f + 3) (by omega) hb, tg3 hq, hcd _ (by omega), hbf, hc3, if_pos ok, if_neg n10]
    rw [e3]
    simp only [Option.bind_some, u2_06, if_pos (show (0 : Int32) ≤ nI d3 from nI_pos' (by omega))]
    obtain ⟨C1, C2, C3, C4, C5⟩ := mk (t := 3 + 6 * q + 1 + 1) rfl
    rcases fig (fr := fr) (b := b) 0 6 0 6 (by decide) (by decide) (by decide) C3 (by omega) hf with ⟨hlt4, d4, -, hd4, hc4, e4⟩ | ⟨hbad, e4⟩
    rotate_left
    · rw [e4]
      simp only [Option.bind_some, if_neg n9]
      refine ⟨0, _, rfl, C1, C2, Or.inl ⟨rfl, 3 + 6 * q + 1 + 1, C3, by omega, ?_⟩⟩
      rcases Nat.lt_or_ge (3 + 6 * q + 1 + 1) b with hlt | hge
      · refine Or.inl fun f bf => ?_
        have hbad2 : ¬ ((48 : Int) ≤ (τ 21 (fr + (1 + 6 * q + 4))).toInt ∧ (τ 21 (fr + (1 + 6 * q + 4))).toInt ≤ 54) := by
          rcases hbad with hb2 | hb2
          · omega
          · rw [C5, show fr + (3 + 6 * q + 1 + 1) = fr + (1 + 6 * q + 4) by omega] at hb2
            exact fun q => hb2 ⟨by omega, by omega⟩
        rw [x3, xt_step (f := f + 2) (by omega) hb, tg4 hq, hcd _ (by omega), if_neg hbad2, if_pos rfl]
        congr 2; omega
      · refine Or.inr ⟨by omega, Or.inr (by omega), fun f bf => ?_⟩
        rw [x3, xt_end (f := f + 2) (by omega) hb]
    rw [C5, show fr + (3 + 6 * q + 1 + 1) = fr + (1 + 6 * q + 4) by omega] at hc4
    have td4 := t32 (k := 48 + d4) (by omega)
    have x4 : ∀ f bf, X6_firstFaultOfText_L5 F n0 (nI a) (nI b) σ kk (f + 7) bf (nI (1 + 6 * q)) = X6_firstFaultOfText_L5 F n0 (nI a) (nI b) σ kk (f + 2) (nI (48 + d4)) (nI (1 + 6 * q + 5)) := by
      intro f bf
      have ok : (48 : Int) ≤ (nI (48 + d4)).toInt ∧ (nI (48 + d4)).toInt ≤ 54 := by omega
      rw [x3, xt_step (f := f + 2) (by omega) hb, tg4 hq, hcd _ (by omega), hc4, if_pos ok, if_neg n10]
    rw [e4]
    simp only [Option.bind_some, u2_06, if_pos (show (0 : Int32) ≤ nI d4 from nI_pos' (by omega))]
    obtain ⟨D1, D2, D3, D4, D5⟩ := mk (t := 3 + 6 * q + 1 + 1 + 1) rfl
    rcases fig (fr := fr) (b := b) 1 9 1 9 (by decide) (by decide) (by decide) D3 (by omega) hf with ⟨hlt5, d5, hd5a, hd5, hc5, e5⟩ | ⟨hbad, e5⟩
    rotate_left
    · rw [e5]
      simp only [Option.bind_some, if_neg n9]
      refine ⟨0, _, rfl, D1, D2, Or.inl ⟨rfl, 3 + 6 * q + 1 + 1 + 1, D3, by omega, ?_⟩⟩
      rcases Nat.lt_or_ge (3 + 6 * q + 1 + 1 + 1) b with hlt | hge
      · refine Or.inl fun f bf => ?_
        have hbad2 : ¬ ((49 : Int) ≤ (τ 21 (fr + (1 + 6 * q + 5))).toInt ∧ (τ 21 (fr + (1 + 6 * q + 5))).toInt ≤ 57) := by
          rcases hbad with hb2 | hb2
          · omega
          · rw [D5, show fr + (3 + 6 * q + 1 + 1 + 1) = fr + (1 + 6 * q + 5) by omega] at hb2
            exact fun q => hb2 ⟨by omega, by omega⟩
        rw [x4, xt_step (f := f + 1) (by omega) hb, tg5 hq, hcd _ (by omega), if_neg hbad2, if_pos rfl]
        congr 2; omega
      · refine Or.inr ⟨by omega, Or.inr (by omega), fun f bf => ?_⟩
        rw [x4, xt_end (f := f + 1) (by omega) hb]
    rw [D5, show fr + (3 + 6 * q + 1 + 1 + 1) = fr + (1 + 6 * q + 5) by omega] at hc5
    have td5 := t32 (k := 48 + d5) (by omega)
    have x5 : ∀ f bf, X6_firstFaultOfText_L5 F n0 (nI a) (nI b) σ kk (f + 7) bf (nI (1 + 6 * q)) = X6_firstFaultOfText_L5 F n0 (nI a) (nI b) σ kk (f + 1) (nI (48 + d5)) (nI (1 + 6 * q + 6)) := by
      intro f bf
      have ok : (49 : Int) ≤ (nI (48 + d5)).toInt ∧ (nI (48 + d5)).toInt ≤ 57 := by omega
      rw [x4, xt_step (f := f + 1) (by omega) hb, tg5 hq, hcd _ (by omega), hc5, if_pos ok, if_neg n10]
    rw [e5]
    obtain ⟨E1, E2, E3, E4, E5⟩ := mk (t := 3 + 6 * q + 1 + 1 + 1 + 1) rfl
    simp only [Option.bind_some, u2_06, if_pos (show (0 : Int32) ≤ nI d5 from nI_pos' (by omega)), E4]
    obtain ⟨τ', j1, j2, j3, j4, j5, j6, j7, j8, j9⟩ := j190 hq E4 d2 d3 d4 d5 l
    have hJ : (if v3 = 99 then X7_readsPerson_J190 (nI d2) (nI d3) (nI d4) (nI d5) (nI q) 0 (u2 τ0 0 6 (nI (3 + 6 * q + 1 + 1 + 1 + 1))) else if v3 = 115 then X7_readsPerson_J190 (nI d2) (nI d3) (nI d4) (nI d5) (nI q) 1 (u2 τ0 0 6 (nI (3 + 6 * q + 1 + 1 + 1 + 1))) else X7_readsPerson_J190 (nI d2) (nI d3) (nI d4) (nI d5) (nI q) 2 (u2 τ0 0 6 (nI (3 + 6 * q + 1 + 1 + 1 + 1)))) = some (1, τ') := by
      rw [hv3]
      rcases (show l = 0 ∨ l = 1 ∨ l = 2 by omega) with rfl | rfl | rfl
      · exact j1
      · exact j1
      · exact j1
    rw [hJ]
    refine ⟨1, τ', rfl, E1.t j4, fun p hp => ?_, Or.inr ⟨rfl, hq, by omega, ?_, j3, ⟨l, d2, d3, d4, d5, hl, hc1, hc2, hc3, hc4, hc5, ?_, hd4, hd5, j6, j7, j8, j9⟩, fun f bf => ⟨nI (48 + d5), ?_⟩⟩⟩
    · obtain ⟨q1, q2, q3, q4⟩ := j5 p (by omega)
      obtain ⟨w1, w2, w3, w4⟩ := E2 p hp
      exact ⟨q1.trans w1, q2.trans w2, q3.trans w3, q4.trans w4⟩
    · rw [j2, E3]; congr 1; omega
    · by_cases c6 : d2 = 6
      · rw [if_pos c6] at hh3; omega
      · rw [if_neg c6] at hh3; omega
    · rw [x5, show 1 + 6 * q + 6 = 7 + 6 * q by omega]
  by_cases c6 : d2 = 6
  · simp only [if_pos (show nI d2 = 6 by rw [c6]; rfl)]
    exact rest 3 3 (by decide) (by decide) (by rw [if_pos c6])
  · simp only [if_neg (show ¬ nI d2 = 6 from fun q => c6 (nI_inj (b := 6) (by omega) (by decide) q))]
    exact rest 9 9 (by decide) (by decide) (by rw [if_neg c6])
