-- the class's cells by numbers: memory, worlds, rows over them
abbrev Mem : Type := Nat → Nat → Int32
def u1 (σ : Mem) (k : Nat) (f : Nat → Int32) : Mem := fun a => if a = k then f else σ a
def u2 (σ : Mem) (k j : Nat) (v : Int32) : Mem := u1 σ k (upd (σ k) j v)
def inb (i : Int32) (n : Nat) : Bool := !(decide (i < 0) || decide (n ≤ i.toNatClampNeg))
theorem inb_vp {i : Int32} {n : Nat} (h : inb i n = true) : vp_in i n := by
  intro q
  rcases q with q | q <;> simp [inb, q] at h
def bnd {α β : Type} (x : α) (f : α → β) : β := f x
def grd {α : Type} (b : Bool) (x : Option α) : Option α := if b = true then x else none
theorem bnd_s {α β : Type} {x : α} {f : α → β} {y : β} (h : bnd x f = y) : ∃ z, z = x ∧ f z = y := ⟨x, rfl, h⟩
theorem grd_s {α : Type} {b : Bool} {x : Option α} {y : α} (h : grd b x = some y) : b = true ∧ x = some y := by
  unfold grd at h
  split at h
  · exact ⟨by assumption, h⟩
  · cases h
theorem ob_s {α β : Type} {x : Option α} {f : α → Option β} {y : β} (h : Option.bind x f = some y) : ∃ z, x = some z ∧ f z = some y := by
  cases x with
  | none => cases h
  | some z => exact ⟨z, rfl, h⟩
theorem ite_t {α : Type} {c : Prop} {d : Decidable c} {a b y : α} (hc : c) (h : @ite α c d a b = y) : a = y := (if_pos hc).symm.trans h
theorem ite_f {α : Type} {c : Prop} {d : Decidable c} {a b y : α} (hc : ¬ c) (h : @ite α c d a b = y) : b = y := (if_neg hc).symm.trans h
theorem some_i {α : Type} {a y : α} (h : some a = some y) : a = y := Option.some.inj h
abbrev TH : Type := va_G × (Nat → Nat) × (Nat → ClassId) × (Mem → va_W) × Nat
abbrev tD (Θ : TH) : va_G := Θ.1
abbrev ta (Θ : TH) (k : Nat) : Nat := Θ.2.1 k
abbrev tc (Θ : TH) (k : Nat) : ClassId := Θ.2.2.1 k
abbrev tw (Θ : TH) : Mem → va_W := Θ.2.2.2.1
abbrev tb (Θ : TH) : Nat := Θ.2.2.2.2
abbrev tA (Θ : TH) : Nat → Prop := fun q => tb Θ ≤ q
abbrev tT (Θ : TH) : List (ClassId × FieldType) := [(tc Θ 0, .int), (tc Θ 1, .boolean), (tc Θ 2, .object "LentYouths$Sheet"), (tc Θ 3, .object "LentYouths$Person"), (tc Θ 4, .object "LentYouths$Exchange")]
abbrev wNest : Cond := .methodLinkNest RX3 30 yX6_lastsOf "LentYouths"
def tS (Θ : TH) (σ : Mem) (U : State) : Prop := va_P (tD Θ) vwCl (tw Θ σ) U.heap ∧ va_K (tD Θ) vwCl (tT Θ) U ∧ tb Θ ≤ U.heap.size ∧ va_Nw wNest U
def CX (Θ : TH) (p : Program) (s : State) (m : MethodId) (args : Array Value) (c : Code) (own : String) (cc : ByteArray) (nL : Nat) : Prop :=
  p.tables.exec = Jvm.exec ∧ c.code = cc ∧ c.maxLocals = nL ∧ s.vm.findClass own = some m.cls ∧ (∀ w ∈ wAll, w.before args s = true) ∧ va_K (tD Θ) vwCl (tT Θ) s ∧ tb Θ ≤ s.heap.size ∧ va_Nw wNest s
def okT (Θ : TH) (E : Nat → (Nat → Int32) → va_E) (N : Nat) : Prop :=
  (∀ (σ : Mem) (k : Nat), k < N → ∃ q : Nat, (tw Θ σ)[q]? = some (ta Θ k, E k (σ k)) ∧ ∀ f : Nat → Int32, (tw Θ σ).set q (ta Θ k, E k f) = tw Θ (u1 σ k f)) ∧ ∀ σ : Mem, va_D (tA Θ) (tw Θ σ)
abbrev qI (Θ : TH) (r0 : Int32) (σ0 : Mem) : Array Value → State → Outcome → State → Prop := va_Qi (S := Mem) (fun r u => r = r0 ∧ u = σ0) (fun u t => tS Θ u t) (tA Θ)
abbrev qL (Θ : TH) (r0 : Int64) (σ0 : Mem) : Array Value → State → Outcome → State → Prop := va_Ql (S := Mem) (fun r u => r = r0 ∧ u = σ0) (fun u t => tS Θ u t) (tA Θ)
abbrev qV (Θ : TH) (σ0 : Mem) : Array Value → State → Outcome → State → Prop := va_Qv (S := Mem) (fun u => u = σ0) (fun u t => tS Θ u t) (tA Θ)
section XR
variable {Θ : TH} {p : Program} {l : Launch} {e : Env} {R : Room} {s : State} {m : MethodId} {args : Array Value} {below : List Frame} {meth : Method} {c : Code} {H : Heap} {locs : List Loc} {cells slots : Nat} {Q : State → Prop} {own : String} {cc : ByteArray} {nL : Nat} {E : Nat → (Nat → Int32) → va_E} {N : Nat} {σ σ' : Mem} {pc : Nat} {ls : Array Slot} {rest : List Value}
theorem CX.x (X : CX Θ p s m args c own cc nL) : p.tables.exec = Jvm.exec := X.1
theorem CX.b (X : CX Θ p s m args c own cc nL) : c.code = cc := X.2.1
theorem x_get (X : CX Θ p s m args c own cc nL) (O : okT Θ E N) (hP : va_P (tD Θ) vwCl (tw Θ σ) H) {k ci n j index : Nat} {C : String} {T : u_T} {fs : List Value} {v : Value} {nm de : String} (hk : k < N) (he : E k (σ k) = .inr (ci, fs)) (hc : vwCl[ci]? = some (C, T, n)) (hU : ∀ w ∈ u_ws C T n, w ∈ wAll) (hj : j < n)
    (hl : Cond.fieldLink own index C nm de ∈ wAll) (e1 : (T j).2.1 = nm) (e2 : (T j).2.2.1 = de) (e3 : (T j).1 = C) (hv : fs[j]? = some v) (hdg : decode cc pc = .ok (.getfield index, 3))
    (kk : W p l e R s m args below meth c H locs cells slots Q (F0 m (pc + 3) ls (v :: rest))) : W p l e R s m args below meth c H locs cells slots Q (F0 m pc ls (.ref (ta Θ k) :: rest)) := by
  obtain ⟨q, hq, -⟩ := O.1 σ k hk
  rw [he] at hq
  subst e1 e2
  obtain ⟨h1, h2, h3, h4, h5, h6, h7, h8⟩ := X
  exact va_get h1 h2 h5 hU h4 h6 hP q hq hc j hj (h5 _ hl) (fun x hx => by rw [e3] at hx; exact hx) hv hdg kk
theorem x_put (X : CX Θ p s m args c own cc nL) (O : okT Θ E N) (hP : va_P (tD Θ) vwCl (tw Θ σ) H) (hS : va_S (tA Θ) s.heap H locs) {k ci n j index : Nat} {C : String} {T : u_T} {fs : List Value} {v : Value} {x : Int32} {nm de : String} {ty : FieldType} (ty0 : Nat → FieldType) (hty : ∀ k, k < n → parseFieldDescriptor (T k).2.2.1 = some (ty0 k)) (hnm : ∀ a, a < n → ∀ b, b < n → a ≠ b → (T a).2.1 ≠ (T b).2.1)
    (hk : k < N) (he : E k (σ k) = .inr (ci, fs)) (he2 : E k (upd (σ k) j x) = .inr (ci, fs.set j v)) (hc : vwCl[ci]? = some (C, T, n)) (hU : ∀ w ∈ u_ws C T n, w ∈ wAll) (hj : j < n) (hl : Cond.fieldLink own index C nm de ∈ wAll) (e1 : (T j).2.1 = nm) (e2 : (T j).2.2.1 = de) (e3 : (T j).1 = C) (hfin : (T j).2.2.2 = false)
    (hd : parseFieldDescriptor de = some ty) (hn : narrow ty v = v) (hfit : fits ty v = true) (hlen : j < fs.length) (hdg : decode cc pc = .ok (.putfield index, 3)) (eσ : σ' = u2 σ k j x)
    (kk : ∀ (H1 : Heap) (locs1 : List Loc), va_P (tD Θ) vwCl (tw Θ σ') H1 → va_S (tA Θ) s.heap H1 locs1 → W p l e R s m args below meth c H1 locs1 cells slots Q (F0 m (pc + 3) ls rest)) : W p l e R s m args below meth c H locs cells slots Q (F0 m pc ls (v :: .ref (ta Θ k) :: rest)) := by
  obtain ⟨q, hq, hset⟩ := O.1 σ k hk
  rw [he] at hq
  subst e1 e2
  obtain ⟨h1, h2, h3, h4, h5, h6, h7, h8⟩ := X
  refine va_put h1 h2 h5 hU ty0 hty hnm h4 h6 hP (O.2 σ) hS q hq hc j hj (h5 _ hl) (fun x hx => by rw [e3] at hx; exact hx) hfin hd hn hfit hlen hdg (fun H1 locs1 g1 g2 g3 => ?_)
  refine kk H1 locs1 ?_ g3
  rw [eσ]
  rw [← he2, hset] at g1
  exact g1
def isI (Θ : TH) (E : Nat → (Nat → Int32) → va_E) (N k n : Nat) : Prop := k < N ∧ ∀ v : Nat → Int32, E k v = .inl (tc Θ 0, n, .inl v)
def isZ (Θ : TH) (E : Nat → (Nat → Int32) → va_E) (N k n : Nat) : Prop := k < N ∧ ∀ v : Nat → Int32, E k v = .inl (tc Θ 1, n, .inl v)
theorem x_iald (X : CX Θ p s m args c own cc nL) (O : okT Θ E N) (hP : va_P (tD Θ) vwCl (tw Θ σ) H) {k n : Nat} {i : Int32} (hi : isI Θ E N k n) (hin : inb i n = true) (hdg : decode cc pc = .ok (.iaload, 1))
    (kk : W p l e R s m args below meth c H locs cells slots Q (F0 m (pc + 1) ls (.int (σ k i.toNatClampNeg) :: rest))) : W p l e R s m args below meth c H locs cells slots Q (F0 m pc ls (.int i :: .ref (ta Θ k) :: rest)) := by
  obtain ⟨q, hq, -⟩ := O.1 σ k hi.1
  rw [hi.2] at hq
  obtain ⟨h1, h2, h3, h4, h5, h6, h7, h8⟩ := X
  exact va_iald h1 h2 h6 hP q 0 hq rfl (inb_vp hin) hdg kk
theorem x_zald (X : CX Θ p s m args c own cc nL) (O : okT Θ E N) (hP : va_P (tD Θ) vwCl (tw Θ σ) H) {k n : Nat} {i : Int32} (hi : isZ Θ E N k n) (hin : inb i n = true) (hdg : decode cc pc = .ok (.baload, 1))
    (kk : W p l e R s m args below meth c H locs cells slots Q (F0 m (pc + 1) ls (.int (σ k i.toNatClampNeg) :: rest))) : W p l e R s m args below meth c H locs cells slots Q (F0 m pc ls (.int i :: .ref (ta Θ k) :: rest)) := by
  obtain ⟨q, hq, -⟩ := O.1 σ k hi.1
  rw [hi.2] at hq
  obtain ⟨h1, h2, h3, h4, h5, h6, h7, h8⟩ := X
  exact va_zald h1 h2 h6 hP q 1 hq rfl (inb_vp hin) hdg kk
theorem x_iast (X : CX Θ p s m args c own cc nL) (O : okT Θ E N) (hP : va_P (tD Θ) vwCl (tw Θ σ) H) (hS : va_S (tA Θ) s.heap H locs) {k n : Nat} {i x : Int32} (hi : isI Θ E N k n) (hin : inb i n = true) (hdg : decode cc pc = .ok (.iastore, 1)) (eσ : σ' = u2 σ k i.toNatClampNeg x)
    (kk : ∀ (H1 : Heap) (locs1 : List Loc), va_P (tD Θ) vwCl (tw Θ σ') H1 → va_S (tA Θ) s.heap H1 locs1 → W p l e R s m args below meth c H1 locs1 cells slots Q (F0 m (pc + 1) ls rest)) : W p l e R s m args below meth c H locs cells slots Q (F0 m pc ls (.int x :: .int i :: .ref (ta Θ k) :: rest)) := by
  obtain ⟨q, hq, hset⟩ := O.1 σ k hi.1
  rw [hi.2] at hq
  obtain ⟨h1, h2, h3, h4, h5, h6, h7, h8⟩ := X
  refine va_iast h1 h2 h6 hP (O.2 σ) hS q 0 hq rfl (inb_vp hin) hdg (fun H1 locs1 g1 g2 g3 => kk H1 locs1 ?_ g3)
  rw [eσ]
  rw [← hi.2, hset] at g1
  exact g1
theorem x_zast (X : CX Θ p s m args c own cc nL) (O : okT Θ E N) (hP : va_P (tD Θ) vwCl (tw Θ σ) H) (hS : va_S (tA Θ) s.heap H locs) {k n : Nat} {i x : Int32} (hi : isZ Θ E N k n) (hin : inb i n = true) (hdg : decode cc pc = .ok (.bastore, 1)) (eσ : σ' = u2 σ k i.toNatClampNeg (vp_nar .boolean x))
    (kk : ∀ (H1 : Heap) (locs1 : List Loc), va_P (tD Θ) vwCl (tw Θ σ') H1 → va_S (tA Θ) s.heap H1 locs1 → W p l e R s m args below meth c H1 locs1 cells slots Q (F0 m (pc + 1) ls rest)) : W p l e R s m args below meth c H locs cells slots Q (F0 m pc ls (.int x :: .int i :: .ref (ta Θ k) :: rest)) := by
  obtain ⟨q, hq, hset⟩ := O.1 σ k hi.1
  rw [hi.2] at hq
  obtain ⟨h1, h2, h3, h4, h5, h6, h7, h8⟩ := X
  refine va_zast h1 h2 h6 hP (O.2 σ) hS q 1 hq rfl (inb_vp hin) hdg (fun H1 locs1 g1 g2 g3 => kk H1 locs1 ?_ g3)
  rw [eσ]
  rw [← hi.2, hset] at g1
  exact g1
theorem x_aald (X : CX Θ p s m args c own cc nL) (O : okT Θ E N) (hP : va_P (tD Θ) vwCl (tw Θ σ) H) {k n t0 : Nat} {i : Int32} {C : String} {g : Nat → Nat} (hk : k < N) (he : E k (σ k) = .inl (tc Θ t0, n, .inr (.inr (.inr (.inr (fun j => some (ta Θ (g j)))))))) (ht : (tT Θ)[t0]? = some (tc Θ t0, .object C)) (hin : inb i n = true) (hdg : decode cc pc = .ok (.aaload, 1))
    (kk : W p l e R s m args below meth c H locs cells slots Q (F0 m (pc + 1) ls (.ref (ta Θ (g i.toNatClampNeg)) :: rest))) : W p l e R s m args below meth c H locs cells slots Q (F0 m pc ls (.int i :: .ref (ta Θ k) :: rest)) := by
  obtain ⟨q, hq, -⟩ := O.1 σ k hk
  rw [he] at hq
  obtain ⟨h1, h2, h3, h4, h5, h6, h7, h8⟩ := X
  exact va_aldq h1 h2 h6 hP q t0 hq ht (inb_vp hin) hdg kk
theorem x_alen (X : CX Θ p s m args c own cc nL) (O : okT Θ E N) (hP : va_P (tD Θ) vwCl (tw Θ σ) H) {k n t0 : Nat} {g : (Nat → Int32) ⊕ (Nat → Int64) ⊕ (Nat → UInt32) ⊕ (Nat → UInt64) ⊕ (Nat → Option Nat)} {ty : FieldType} {v : Int32} (hk : k < N) (he : E k (σ k) = .inl (tc Θ t0, n, g)) (ht : (tT Θ)[t0]? = some (tc Θ t0, ty)) (hv : Int32.ofNat n = v) (hdg : decode cc pc = .ok (.arraylength, 1))
    (kk : W p l e R s m args below meth c H locs cells slots Q (F0 m (pc + 1) ls (.int v :: rest))) : W p l e R s m args below meth c H locs cells slots Q (F0 m pc ls (.ref (ta Θ k) :: rest)) := by
  obtain ⟨q, hq, -⟩ := O.1 σ k hk
  rw [he] at hq
  obtain ⟨h1, h2, h3, h4, h5, h6, h7, h8⟩ := X
  exact va_alen h1 h2 h6 hP q t0 hq ht hv hdg kk
theorem x_copy (X : CX Θ p s m args c own cc nL) (O : okT Θ E N) (hP : va_P (tD Θ) vwCl (tw Θ σ) H) (hS : va_S (tA Θ) s.heap H locs) (hls : ls.size = nL) {k k2 n n2 index : Nat} {sp dp z : Int32} (hi : isI Θ E N k n) (hi2 : isI Θ E N k2 n2) (hl : Cond.methodLink own index arraycopyName ∈ wAll)
    (g1 : ¬ sp < 0) (g2 : ¬ dp < 0) (g3 : ¬ z < 0) (g4 : sp.toNatClampNeg + z.toNatClampNeg ≤ n) (g5 : dp.toNatClampNeg + z.toNatClampNeg ≤ n2) (hR : 1 ≤ R.frames ∧ (rest.map fun v => v.category).sum + (nativeFrameWords "java/lang/System" "arraycopy" 5 + 11) ≤ R.locals) (hdg : decode cc pc = .ok (.invokestatic index, 3))
    (eσ : σ' = u1 σ k2 (va_cpy (σ k) (σ k2) sp.toNatClampNeg dp.toNatClampNeg z.toNatClampNeg))
    (kk : ∀ (H1 : Heap) (locs1 : List Loc), va_P (tD Θ) vwCl (tw Θ σ') H1 → va_S (tA Θ) s.heap H1 locs1 → W p l e R s m args below meth c H1 locs1 cells slots Q (F0 m (pc + 3) ls rest)) : W p l e R s m args below meth c H locs cells slots Q (F0 m pc ls (.int z :: .int dp :: .ref (ta Θ k2) :: .int sp :: .ref (ta Θ k) :: rest)) := by
  obtain ⟨q, hq, -⟩ := O.1 σ k hi.1
  obtain ⟨q2, hq2, hset⟩ := O.1 σ k2 hi2.1
  rw [hi.2] at hq
  rw [hi2.2] at hq2
  obtain ⟨h1, h2, h3, h4, h5, h6, h7, h8⟩ := X
  refine va_copyi h1 h2 (h3.trans hls.symm) h4 (h5 _ hl) (h5 _ wV_arraycopyName) (h5 _ wT_arraycopyName) (h5 _ wN_J10) h6 hP (O.2 σ) hS q q2 0 0 hq hq2 rfl rfl rfl g1 g2 g3 g4 g5 (fun i hi => rfl) hR.1 hR.2 hdg (fun H1 locs1 y1 y2 y3 => kk H1 locs1 ?_ y3)
  rw [eσ]
  rw [← hi2.2, hset] at y1
  exact y1
end XR
section XC
variable {Θ : TH} {p : Program} {l : Launch} {e : Env} {R : Room} {s : State} {m : MethodId} {args : Array Value} {below : List Frame} {meth : Method} {c : Code} {H : Heap} {locs : List Loc} {cells slots : Nat} {Q : State → Prop} {own : String} {cc : ByteArray} {nL : Nat} {E : Nat → (Nat → Int32) → va_E} {N : Nat} {σ σ' : Mem} {pc : Nat} {ls : Array Slot} {rest st : List Value}
variable {y : MethodName} {bytes : ByteArray} {maxL index : Nat} {ret : Option FieldType} {rm : Room} {Qc : Array Value → State → Outcome → State → Prop} {As : List Value} {nA : Nat}
theorem tS_pre (X : CX Θ p s m args c own cc nL) (hP : va_P (tD Θ) vwCl (tw Θ σ) H) (hS : va_S (tA Θ) s.heap H locs) (Av : List Value) : FrameBlind (va_Pc Av (tS Θ σ)) ∧ ∀ U : State, U.heap = H → s.WarmedH U.vm → va_Pc Av (tS Θ σ) Av.toArray U := by
  obtain ⟨h1, h2, h3, h4, h5, h6, h7, h8⟩ := X
  refine ⟨fun a U g mk q => ?_, fun U hU hW => ⟨rfl, ?_, va_K.moved hW.alike h6, ?_, h8.warmM hW⟩⟩
  · obtain ⟨q0, q1, q2, q3, q4⟩ := q
    exact ⟨q0, q1, va_K.moved (u := U) (U := U.calling g mk a) (Vm.Alike.refl U.vm) q2, q3, q4.same rfl rfl⟩
  · rw [hU]; exact hP
  · rw [hU]; exact Nat.le_trans h7 hS.1
theorem x_runV (X : CX Θ p s m args c own cc nL) (O : okT Θ E N) (hP : va_P (tD Θ) vwCl (tw Θ σ) H) (hS : va_S (tA Θ) s.heap H locs) (hls : ls.size = nL) {k ci n : Nat} {fs : List Value} {T : u_T} (hM : Met l y (.code y bytes maxL ret :: wAll) rm (va_Pc (.ref (ta Θ k) :: As) (tS Θ σ)) Qc 0 0 (tA Θ)) (hk : k < N) (he : E k (σ k) = .inr (ci, fs)) (hc : vwCl[ci]? = some (y.cls, T, n))
    (wM : Cond.methodLink own index y ∈ wAll) (wI : Cond.instanceMethod y ∈ wAll) (wS : Cond.selects y.cls y y ∈ wAll) (wN : Cond.initialized y.cls ∈ wAll) (wC : Cond.code y bytes maxL ret ∈ wAll)
    (hd : y.cls ≠ "java/lang/invoke/MethodHandle" ∧ y.cls ≠ "java/lang/invoke/VarHandle" ∧ (parseMethodDescriptor y.desc).map (fun d => d.parameters.length) = some nA) (hA : As.length = nA) (hrm : rm.cells = 0 ∧ rm.slots = 0) (hR : rm.frames + 1 ≤ R.frames ∧ 8 + (maxL + 11) + rm.locals ≤ R.locals) (hcs : cells ≤ R.cells ∧ slots ≤ R.slots)
    (hst : st = As.reverse ++ .ref (ta Θ k) :: rest) (hrest : (rest.map fun v => v.category).sum ≤ 8) (hdg : decode cc pc = .ok (.invokevirtual index, 3)) : va_Run p l e R s m args below meth c H locs cells slots 0 0 (F0 m pc ls st) rest (Qc (Value.ref (ta Θ k) :: As).toArray) (tA Θ) := by
  obtain ⟨q, hq, -⟩ := O.1 σ k hk
  rw [he] at hq
  obtain ⟨b1, b2⟩ := tS_pre X hP hS (.ref (ta Θ k) :: As)
  obtain ⟨h1, h2, h3, h4, h5, h6, h7, h8⟩ := X
  exact va_runV ⟨h1, h2, h3, h4, h5⟩ hM ⟨callB_of nA h5 (gAll wC) rfl hrm.1 hrm.2 (h5 _ wN) (h5 _ wM) hd hR, h5 _ wI, h5 _ wS⟩ ⟨b1, va_recv h6 hP hc hq, b2⟩ rfl hA hls hst (lv_room hrest) hdg ⟨hcs.1, hcs.2⟩
theorem x_runS (X : CX Θ p s m args c own cc nL) (hP : va_P (tD Θ) vwCl (tw Θ σ) H) (hS : va_S (tA Θ) s.heap H locs) (hls : ls.size = nL) (hM : Met l y (.code y bytes maxL ret :: wAll) rm (va_Pc As (tS Θ σ)) Qc 0 0 (tA Θ))
    (wM : Cond.methodLink own index y ∈ wAll) (wT : Cond.static y ∈ wAll) (wN : Cond.initialized y.cls ∈ wAll) (wC : Cond.code y bytes maxL ret ∈ wAll)
    (hd : y.cls ≠ "java/lang/invoke/MethodHandle" ∧ y.cls ≠ "java/lang/invoke/VarHandle" ∧ (parseMethodDescriptor y.desc).map (fun d => d.parameters.length) = some nA) (hA : As.length = nA) (hrm : rm.cells = 0 ∧ rm.slots = 0) (hR : rm.frames + 1 ≤ R.frames ∧ 8 + (maxL + 11) + rm.locals ≤ R.locals) (hcs : cells ≤ R.cells ∧ slots ≤ R.slots)
    (hst : st = As.reverse ++ rest) (hrest : (rest.map fun v => v.category).sum ≤ 8) (hdg : decode cc pc = .ok (.invokestatic index, 3)) : va_Run p l e R s m args below meth c H locs cells slots 0 0 (F0 m pc ls st) rest (Qc As.toArray) (tA Θ) := by
  obtain ⟨b1, b2⟩ := tS_pre X hP hS As
  obtain ⟨h1, h2, h3, h4, h5, h6, h7, h8⟩ := X
  exact va_runS ⟨h1, h2, h3, h4, h5⟩ hM ⟨callB_of nA h5 (gAll wC) rfl hrm.1 hrm.2 (h5 _ wN) (h5 _ wM) hd hR, h5 _ wT⟩ ⟨b1, b2⟩ rfl hA hls hst (lv_room hrest) hdg ⟨hcs.1, hcs.2⟩
theorem x_runSN (X : CX Θ p s m args c RX3 cc nL) (hP : va_P (tD Θ) vwCl (tw Θ σ) H) (hS : va_S (tA Θ) s.heap H locs) (hls : ls.size = nL) (hM : Met l yX6_lastsOf (.code yX6_lastsOf bytes maxL ret :: wAll) rm (va_Pc As (tS Θ σ)) Qc 0 0 (tA Θ))
    (wT : Cond.static yX6_lastsOf ∈ wAll) (wN : Cond.initialized yX6_lastsOf.cls ∈ wAll) (wC : Cond.code yX6_lastsOf bytes maxL ret ∈ wAll)
    (hd : yX6_lastsOf.cls ≠ "java/lang/invoke/MethodHandle" ∧ yX6_lastsOf.cls ≠ "java/lang/invoke/VarHandle" ∧ (parseMethodDescriptor yX6_lastsOf.desc).map (fun d => d.parameters.length) = some nA) (hA : As.length = nA) (hrm : rm.cells = 0 ∧ rm.slots = 0) (hR : rm.frames + 1 ≤ R.frames ∧ 8 + (maxL + 11) + rm.locals ≤ R.locals) (hcs : cells ≤ R.cells ∧ slots ≤ R.slots)
    (hst : st = As.reverse ++ rest) (hrest : (rest.map fun v => v.category).sum ≤ 8) (hdg : decode cc pc = .ok (.invokestatic 30, 3)) : va_Run p l e R s m args below meth c H locs cells slots 0 0 (F0 m pc ls st) rest (Qc As.toArray) (tA Θ) := by
  obtain ⟨b1, b2⟩ := tS_pre X hP hS As
  obtain ⟨h1, h2, h3, h4, h5, h6, h7, h8⟩ := X
  exact va_runSN ⟨h1, h2, h3, h4, h5⟩ hM ⟨va_cnB nA h5 (gAll wC) rfl hrm.1 hrm.2 h8 (h5 _ wN) hd hR, h5 _ wT, trivial⟩ ⟨b1, b2⟩ rfl hA hls hst (lv_room hrest) hdg ⟨hcs.1, hcs.2⟩
variable {av : Array Value}
theorem x_calli {r0 : Int32} {σ0 : Mem} (hr : va_Run p l e R s m args below meth c H locs cells slots 0 0 (F0 m pc ls st) rest (qI Θ r0 σ0 av) (tA Θ)) (hS : va_S (tA Θ) s.heap H locs)
    (kk : ∀ (H1 : Heap) (locs1 : List Loc), va_P (tD Θ) vwCl (tw Θ σ0) H1 → va_S (tA Θ) s.heap H1 locs1 → W p l e R s m args below meth c H1 locs1 cells slots Q (F0 m (pc + 3) ls (.int r0 :: rest))) : W p l e R s m args below meth c H locs cells slots Q (F0 m pc ls st) := by
  refine va_calli hr hS (fun _ _ h => h) (fun _ h => h) (fun r u t H1 locs1 ht hvm hp hB hz hk hS1 => ?_)
  obtain ⟨rfl, rfl⟩ := hp
  exact kk H1 locs1 (by rw [← ht]; exact hB.1) hS1
theorem x_calll {r0 : Int64} {σ0 : Mem} (hr : va_Run p l e R s m args below meth c H locs cells slots 0 0 (F0 m pc ls st) rest (qL Θ r0 σ0 av) (tA Θ)) (hS : va_S (tA Θ) s.heap H locs)
    (kk : ∀ (H1 : Heap) (locs1 : List Loc), va_P (tD Θ) vwCl (tw Θ σ0) H1 → va_S (tA Θ) s.heap H1 locs1 → W p l e R s m args below meth c H1 locs1 cells slots Q (F0 m (pc + 3) ls (.long r0 :: rest))) : W p l e R s m args below meth c H locs cells slots Q (F0 m pc ls st) := by
  refine va_calll hr hS (fun _ _ h => h) (fun _ h => h) (fun r u t H1 locs1 ht hvm hp hB hz hk hS1 => ?_)
  obtain ⟨rfl, rfl⟩ := hp
  exact kk H1 locs1 (by rw [← ht]; exact hB.1) hS1
theorem x_callv {σ0 : Mem} (hr : va_Run p l e R s m args below meth c H locs cells slots 0 0 (F0 m pc ls st) rest (qV Θ σ0 av) (tA Θ)) (hS : va_S (tA Θ) s.heap H locs)
    (kk : ∀ (H1 : Heap) (locs1 : List Loc), va_P (tD Θ) vwCl (tw Θ σ0) H1 → va_S (tA Θ) s.heap H1 locs1 → W p l e R s m args below meth c H1 locs1 cells slots Q (F0 m (pc + 3) ls rest)) : W p l e R s m args below meth c H locs cells slots Q (F0 m pc ls st) := by
  refine va_callv hr hS (fun _ _ h => h) (fun _ h => h) (fun u t H1 locs1 ht hvm hp hB hz hk hS1 => ?_)
  subst hp
  exact kk H1 locs1 (by rw [← ht]; exact hB.1) hS1
/-- a method's end: its world as it is -/
theorem tS_end (X : CX Θ p s m args c own cc nL) (hP : va_P (tD Θ) vwCl (tw Θ σ) H) (hS : va_S (tA Θ) s.heap H locs) {t : State} (ht : t.heap = H) (hW : s.WarmedH t.vm) : tS Θ σ t := by
  obtain ⟨h1, h2, h3, h4, h5, h6, h7, h8⟩ := X
  exact ⟨by rw [ht]; exact hP, va_K.moved hW.alike h6, by rw [ht]; exact Nat.le_trans h7 hS.1, h8.warmM hW⟩
theorem x_reti (X : CX Θ p s m args c own cc nL) (hP : va_P (tD Θ) vwCl (tw Θ σ) H) (hS : va_S (tA Θ) s.heap H locs) (hr : meth.sig.returnType = some .int) (hlk : meth.locks = false) {v r0 : Int32} {σ0 : Mem} (er : v = r0) (eσ : σ = σ0) (hdg : decode cc pc = .ok (.ireturn, 1)) : W p l e R s m args below meth c H locs cells slots (MQ below (qI Θ r0 σ0) args s cells slots (tA Θ)) (F0 m pc ls [.int v]) :=
  W.iret X.1 X.2.1 hr (fun t ht hW => ⟨⟨v, σ, rfl, ⟨er, eσ⟩, tS_end X hP hS ht hW⟩, hS.F ht⟩) hS.2.2 hdg hlk
theorem x_retz (X : CX Θ p s m args c own cc nL) (hP : va_P (tD Θ) vwCl (tw Θ σ) H) (hS : va_S (tA Θ) s.heap H locs) (hr : meth.sig.returnType = some .boolean) (hlk : meth.locks = false) {v r0 : Int32} {σ0 : Mem} (hz : v = 0 ∨ v = 1) (er : v = r0) (eσ : σ = σ0) (hdg : decode cc pc = .ok (.ireturn, 1)) : W p l e R s m args below meth c H locs cells slots (MQ below (qI Θ r0 σ0) args s cells slots (tA Θ)) (F0 m pc ls [.int v]) :=
  W.zret X.1 X.2.1 hr (by rcases hz with rfl | rfl <;> rfl) (fun t ht hW => ⟨⟨v, σ, rfl, ⟨er, eσ⟩, tS_end X hP hS ht hW⟩, hS.F ht⟩) hS.2.2 hdg hlk
theorem x_retl (X : CX Θ p s m args c own cc nL) (hP : va_P (tD Θ) vwCl (tw Θ σ) H) (hS : va_S (tA Θ) s.heap H locs) (hr : meth.sig.returnType = some .long) (hlk : meth.locks = false) {v r0 : Int64} {σ0 : Mem} (er : v = r0) (eσ : σ = σ0) (hdg : decode cc pc = .ok (.lreturn, 1)) : W p l e R s m args below meth c H locs cells slots (MQ below (qL Θ r0 σ0) args s cells slots (tA Θ)) (F0 m pc ls [.long v]) :=
  W.lret X.1 X.2.1 hr (fun t ht hW => ⟨⟨v, σ, rfl, ⟨er, eσ⟩, tS_end X hP hS ht hW⟩, hS.F ht⟩) hS.2.2 hdg hlk
theorem x_retv (X : CX Θ p s m args c own cc nL) (hP : va_P (tD Θ) vwCl (tw Θ σ) H) (hS : va_S (tA Θ) s.heap H locs) (hr : meth.sig.returnType = none) (hlk : meth.locks = false) {σ0 : Mem} (eσ : σ = σ0) (hdg : decode cc pc = .ok (.return_, 1)) : W p l e R s m args below meth c H locs cells slots (MQ below (qV Θ σ0) args s cells slots (tA Θ)) (F0 m pc ls []) :=
  W.vret X.1 X.2.1 hr (fun t ht hW => ⟨⟨σ, rfl, eσ, tS_end X hP hS ht hW⟩, hS.F ht⟩) hS.2.2 hdg hlk
theorem lv_nam {x y : Int32} (h : y = x) (k : W p l e R s m args below meth c H locs cells slots Q (F0 m pc ls (.int y :: rest))) : W p l e R s m args below meth c H locs cells slots Q (F0 m pc ls (.int x :: rest)) := h ▸ k
theorem lv_namL {x y : Int64} (h : y = x) (k : W p l e R s m args below meth c H locs cells slots Q (F0 m pc ls (.long y :: rest))) : W p l e R s m args below meth c H locs cells slots Q (F0 m pc ls (.long x :: rest)) := h ▸ k
/-- a method from its entry -/
theorem x_ent {y : MethodName} {cc : ByteArray} {maxL : Nat} {ret : Option FieldType} {rm : Room} (hy : plainName y.cls = true) (hn : (lg_sl As).length ≤ maxL)
    (body : ∀ (p : Program) (e : Env) (s : State) (m : MethodId) (below : List Frame) (meth : Method) (c : Code), CX Θ p s m As.toArray c y.cls cc maxL → meth.sig.returnType = ret → meth.locks = false → va_P (tD Θ) vwCl (tw Θ σ) s.heap → ∀ ls : Array Slot, lv_has ls maxL (lv_args 0 As) → W p l e rm s m As.toArray below meth c s.heap [] 0 0 (MQ below Qc As.toArray s 0 0 (tA Θ)) (F0 m 0 ls [])) :
    Met l y (.code y cc maxL ret :: wAll) rm (va_Pc As (tS Θ σ)) Qc 0 0 (tA Θ) := by
  refine Met.ofW (cc := cc) (maxL := maxL) (ret := ret) hy rfl ?_
  intro p e s m args below meth c s₁ B hml hv
  obtain ⟨rfl, hP, hK, hbs, hNw⟩ := hv
  have hl := lv_entry As (n := maxL) hn
  rw [lg_entry_eq]
  exact body p e s m below meth c ⟨B.exec, B.bytes, hml, findClass_of_methodNamed B.named, fun w hw => atoms_spec (ws := .code y cc maxL ret :: wAll) B.pre w (List.mem_cons_of_mem _ hw), hK, hbs, hNw⟩ B.returns B.notSynchronized hP _ hl
end XC
