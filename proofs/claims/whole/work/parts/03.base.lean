/-! a picture of a heap as a memory: cells have numbers, a number has a kind; ints and longs are two functions of cell and slot; references are a rule of numbers (but three fields, which hold a number) -/
def Tg : List Cond := lw_tbl.filter goodWord
abbrev Mem : Type := (Nat → Nat → Int32) × (Nat → Nat → Int64)
abbrev Kn : Type := Nat → Nat × Nat
abbrev Sx : Type := va_G × (Nat → ClassId) × (Nat → Nat) × Kn × Nat
abbrev Cx : Type := Program × Launch × Env × Room × State × MethodId × Array Value × List Frame × Method × Code
def pI (σ : Mem) (k j : Nat) (v : Int32) : Mem := (fun a i => if a = k ∧ i = j then v else σ.1 a i, σ.2)
def pL (σ : Mem) (k j : Nat) (v : Int64) : Mem := (σ.1, fun a i => if a = k ∧ i = j then v else σ.2 a i)
abbrev classes : List vw_C := [(RX0, TX0, 11), (RX1, TX1, 8), (RX2, TX2, 7), (RX3, TX3, 2), (RX4, TX4, 5), (RX5, TX5, 6), (RX6, TX6, 12), (RX7, TX7, 3), (RX8, TX8, 4), (RX9, TX9, 8), (RX10, TX10, 3), (RX11, TX11, 10), (RX12, TX12, 35)]
def fkT : List (List Nat) := [[0, 0, 0, 1, 1, 1, 1, 1, 1, 1, 1], [1, 0, 0, 0, 0, 0, 0, 1], [1, 1, 1, 1, 0, 0, 0], [1, 1], [0, 1, 1, 1, 1], [1, 1, 1, 0, 0, 0], [1, 1, 1, 0, 0, 2, 0, 0, 0, 0, 0, 1], [1, 1, 0], [0, 1, 1, 1], [1, 0, 0, 0, 1, 1, 1, 1], [1, 2, 2], [1, 1, 1, 1, 1, 1, 1, 1, 1, 1], [1, 1, 0, 0, 0, 0, 0, 0, 0, 0, 1, 0, 0, 0, 0, 0, 0, 1, 1, 1, 1, 0, 0, 0, 0, 0, 0, 1, 1, 1, 1, 1, 1, 0, 0]]
def fk (c j : Nat) : Nat := (fkT.getD c []).getD j 0
def roT : List (List Nat) := [[0, 0, 0, 1, 2, 3, 4, 5, 6, 7, 8], [1, 0, 0, 0, 0, 0, 0, 14], [1, 10, 11, 12, 0, 0, 0], [1, 2], [0, 1, 2, 3, 4], [1, 2, 3, 0, 0, 0], [1, 10, 14, 0, 0, 0, 0, 0, 0, 0, 0, 20], [1, 2, 0], [0, 1, 2, 3], [1, 0, 0, 0, 2, 3, 4, 5], [1, 0, 0], [1, 43, 170, 171, 192, 205, 220, 236, 251, 266], [1, 2, 0, 0, 0, 0, 0, 0, 0, 0, 3, 0, 0, 0, 0, 0, 0, 4, 5, 6, 7, 0, 0, 0, 0, 0, 0, 8, 9, 10, 11, 12, 13, 0, 0]]
def ro (c j : Nat) : Nat := (roT.getD c []).getD j 0
def nf (c : Nat) : Nat := ([11, 8, 7, 2, 5, 6, 12, 3, 4, 8, 3, 10, 35] : List Nat).getD c 0
/-- the cell that a row of references holds -/
def raE (c k j : Nat) : Nat := if c = 60 then k + 3 + 9 * j else if c = 61 then k + 20 + 4 * j else if c = 62 then k + 27 + 5 * j else k + 1 + 42 * j
def fv (kd : Kn) (ad : Nat → Nat) (σ : Mem) (k j : Nat) : Value := if fk (kd k).1 j = 0 then .int (σ.1 k j) else if fk (kd k).1 j = 1 then .ref (ad (k + ro (kd k).1 j)) else .ref (ad (σ.1 k j).toNatClampNeg)
def ent (kd : Kn) (cA : Nat → ClassId) (ad : Nat → Nat) (σ : Mem) (k : Nat) : va_E :=
  if (kd k).1 < 50 then .inr ((kd k).1, (List.range (nf (kd k).1)).map (fv kd ad σ k))
  else if (kd k).1 = 53 then .inl (cA 53, (kd k).2, .inr (.inl (σ.2 k)))
  else if (kd k).1 < 53 then .inl (cA (kd k).1, (kd k).2, .inl (σ.1 k))
  else .inl (cA (kd k).1, (kd k).2, .inr (.inr (.inr (.inr (fun j => some (ad (raE (kd k).1 k j)))))))
def mws (z : Sx) (σ : Mem) : va_W := (List.range z.2.2.2.2).map (fun k => (z.2.2.1 k, ent z.2.2.2.1 z.2.1 z.2.2.1 σ k))
def mty (z : Sx) : List (ClassId × FieldType) := [(z.2.1 50, .int), (z.2.1 51, .boolean), (z.2.1 52, .byte), (z.2.1 53, .long), (z.2.1 60, .object RX0), (z.2.1 61, .object RX8), (z.2.1 62, .object RX4), (z.2.1 63, .object RX9)]
def zA (z : Sx) : Nat → Prop := fun q => ∃ k, k < z.2.2.2.2 ∧ z.2.2.1 k = q
/-- the picture is sound: addresses are apart, a kind is only a cell's -/
def ZOk (z : Sx) : Prop := (∀ i j, i < z.2.2.2.2 → j < z.2.2.2.2 → z.2.2.1 i = z.2.2.1 j → i = j) ∧ (∀ k, (z.2.2.2.1 k).1 < 99 → k < z.2.2.2.2) ∧ z.2.2.2.2 < 100000
theorem mws_at {z : Sx} {σ : Mem} {k : Nat} (h : k < z.2.2.2.2) : (mws z σ)[k]? = some (z.2.2.1 k, ent z.2.2.2.1 z.2.1 z.2.2.1 σ k) := by
  unfold mws
  rw [List.getElem?_map, List.getElem?_range h]; rfl
theorem mws_D {z : Sx} (hz : ZOk z) (σ : Mem) : va_D (zA z) (mws z σ) := by
  refine ⟨fun i j p q hi hj e => ?_, fun k q hk => ?_⟩
  · have h1 : i < z.2.2.2.2 := by have := (List.getElem?_eq_some_iff.mp hi).1; simpa [mws] using this
    have h2 : j < z.2.2.2.2 := by have := (List.getElem?_eq_some_iff.mp hj).1; simpa [mws] using this
    rw [mws_at h1] at hi; rw [mws_at h2] at hj
    cases hi; cases hj
    exact hz.1 i j h1 h2 e
  · have h1 : k < z.2.2.2.2 := by have := (List.getElem?_eq_some_iff.mp hk).1; simpa [mws] using this
    rw [mws_at h1] at hk
    cases hk
    exact ⟨k, h1, rfl⟩
theorem mws_set {z : Sx} {σ σ' : Mem} {k : Nat} {e : va_E} (h : ent z.2.2.2.1 z.2.1 z.2.2.1 σ' k = e) (ho : ∀ i, i ≠ k → ent z.2.2.2.1 z.2.1 z.2.2.1 σ' i = ent z.2.2.2.1 z.2.1 z.2.2.1 σ i) : (mws z σ).set k (z.2.2.1 k, e) = mws z σ' := by
  apply List.ext_getElem?
  intro i
  rw [List.getElem?_set]
  by_cases hi : i < z.2.2.2.2
  · rw [mws_at hi, mws_at hi]
    by_cases hk : k = i
    · subst hk
      rw [if_pos rfl, if_pos (by simpa [mws] using hi), h]
    · rw [if_neg hk, ho i (fun q => hk q.symm)]
  · have e1 : (mws z σ)[i]? = none := List.getElem?_eq_none (by simpa [mws] using hi)
    have e2 : (mws z σ')[i]? = none := List.getElem?_eq_none (by simpa [mws] using hi)
    rw [e1, e2]
    by_cases hk : k = i
    · subst hk
      rw [if_pos rfl, if_neg (by simpa [mws] using hi)]
    · rw [if_neg hk]
theorem pI_ne {σ : Mem} {k j i : Nat} {v : Int32} (h : i ≠ k) : (pI σ k j v).1 i = σ.1 i := by funext a; simp [pI, h]
theorem pL_ne {σ : Mem} {k j i : Nat} {v : Int64} (h : i ≠ k) : (pL σ k j v).2 i = σ.2 i := by funext a; simp [pL, h]
theorem pI_up {σ : Mem} {k j : Nat} {v : Int32} : (pI σ k j v).1 k = upd (σ.1 k) j v := by funext a; simp [pI, upd]
theorem pI_2 {σ : Mem} {k j : Nat} {v : Int32} : (pI σ k j v).2 = σ.2 := rfl
theorem pL_1 {σ : Mem} {k j : Nat} {v : Int64} : (pL σ k j v).1 = σ.1 := rfl
theorem fv_ne {kd : Kn} {ad : Nat → Nat} {σ : Mem} {k j i a : Nat} {v : Int32} (h : i ≠ k) : fv kd ad (pI σ k j v) i a = fv kd ad σ i a := by unfold fv; rw [pI_ne h]
theorem ent_ne {kd : Kn} {cA : Nat → ClassId} {ad : Nat → Nat} {σ : Mem} {k j i : Nat} {v : Int32} (h : i ≠ k) : ent kd cA ad (pI σ k j v) i = ent kd cA ad σ i := by
  have e : fv kd ad (pI σ k j v) i = fv kd ad σ i := by funext a; exact fv_ne h
  unfold ent; rw [pI_ne h, pI_2, e]
theorem ent_neL {kd : Kn} {cA : Nat → ClassId} {ad : Nat → Nat} {σ : Mem} {k j i : Nat} {v : Int64} (h : i ≠ k) : ent kd cA ad (pL σ k j v) i = ent kd cA ad σ i := by
  have e : fv kd ad (pL σ k j v) i = fv kd ad σ i := rfl
  unfold ent; rw [pL_ne h, pL_1, e]
theorem ent_obj {kd : Kn} {cA : Nat → ClassId} {ad : Nat → Nat} {σ : Mem} {k c : Nat} (h : kd k = (c, 0)) (hc : c < 50) : ent kd cA ad σ k = .inr (c, (List.range (nf c)).map (fv kd ad σ k)) := by
  unfold ent; rw [h]; exact if_pos hc
theorem ent_int {kd : Kn} {cA : Nat → ClassId} {ad : Nat → Nat} {σ : Mem} {k c n : Nat} (h : kd k = (c, n)) (h1 : 50 ≤ c) (h2 : c < 53) : ent kd cA ad σ k = .inl (cA c, n, .inl (σ.1 k)) := by
  unfold ent; rw [h]; dsimp only
  rw [if_neg (by omega), if_neg (by omega), if_pos h2]
theorem ent_lng {kd : Kn} {cA : Nat → ClassId} {ad : Nat → Nat} {σ : Mem} {k n : Nat} (h : kd k = (53, n)) : ent kd cA ad σ k = .inl (cA 53, n, .inr (.inl (σ.2 k))) := by
  unfold ent; rw [h]; dsimp only
  rw [if_neg (by omega), if_pos rfl]
theorem ent_ref {kd : Kn} {cA : Nat → ClassId} {ad : Nat → Nat} {σ : Mem} {k c n : Nat} (h : kd k = (c, n)) (h1 : 60 ≤ c) : ent kd cA ad σ k = .inl (cA c, n, .inr (.inr (.inr (.inr (fun j => some (ad (raE c k j))))))) := by
  unfold ent; rw [h]; dsimp only
  rw [if_neg (by omega), if_neg (by omega), if_neg (by omega)]
theorem fv_at {kd : Kn} {ad : Nat → Nat} {σ : Mem} {k c j : Nat} (hj : j < nf c) : ((List.range (nf c)).map (fv kd ad σ k))[j]? = some (fv kd ad σ k j) := by
  rw [List.getElem?_map, List.getElem?_range hj]; rfl
theorem fv_int {kd : Kn} {ad : Nat → Nat} {σ : Mem} {k c j : Nat} (h : kd k = (c, 0)) (hf : fk c j = 0) : fv kd ad σ k j = .int (σ.1 k j) := by unfold fv; rw [h]; exact if_pos hf
theorem fv_ref {kd : Kn} {ad : Nat → Nat} {σ : Mem} {k c j : Nat} (h : kd k = (c, 0)) (hf : fk c j = 1) : fv kd ad σ k j = .ref (ad (k + ro c j)) := by
  unfold fv; rw [h]; dsimp only; rw [if_neg (by omega), if_pos hf]
theorem fv_mut {kd : Kn} {ad : Nat → Nat} {σ : Mem} {k c j : Nat} (h : kd k = (c, 0)) (hf : fk c j = 2) : fv kd ad σ k j = .ref (ad (σ.1 k j).toNatClampNeg) := by
  unfold fv; rw [h]; dsimp only; rw [if_neg (by omega), if_neg (by omega)]
theorem fv_set {kd : Kn} {ad : Nat → Nat} {σ : Mem} {k c j : Nat} {v : Int32} {u : Value} (h : kd k = (c, 0)) (hj : j < nf c) (hu : fv kd ad (pI σ k j v) k j = u) : ((List.range (nf c)).map (fv kd ad σ k)).set j u = (List.range (nf c)).map (fv kd ad (pI σ k j v) k) := by
  apply List.ext_getElem?
  intro i
  rw [List.getElem?_set]
  by_cases hi : i < nf c
  · rw [fv_at hi, fv_at hi]
    by_cases hk : j = i
    · subst hk
      rw [if_pos rfl, if_pos (by simpa using hj), hu]
    · rw [if_neg hk]
      congr 1
      unfold fv
      have : (pI σ k j v).1 k i = σ.1 k i := by simp [pI]; intro q; exact absurd q.symm hk
      rw [this]
  · rw [List.getElem?_eq_none (by simpa using hi), List.getElem?_eq_none (by simpa using hi)]
    by_cases hk : j = i
    · subst hk; exact absurd hj hi
    · rw [if_neg hk]
/-- what is known of a method's frame x over a picture z -/
def XG (x : Cx) (z : Sx) (own : String) (cc : ByteArray) (nL fr lo : Nat) : Prop := match x with
  | (p, _, _, R, s, m, args, _, meth, c) => p.tables.exec = Jvm.exec ∧ c.code = cc ∧ c.maxLocals = nL ∧ s.vm.findClass own = some m.cls ∧ (∀ w ∈ Tg, w.before args s = true) ∧ va_K z.1 classes (mty z) s ∧ ZOk z ∧ fr ≤ R.frames ∧ lo ≤ R.locals ∧ meth.locks = false
def XW (x : Cx) (H : Heap) (locs : List Loc) (Q : State → Prop) (pc : Nat) (ls : Array Slot) (st : List Value) : Prop := match x with
  | (p, l, e, R, s, m, args, below, meth, c) => W p l e R s m args below meth c H locs 0 0 Q (F0 m pc ls st)
/-- from pc, with these locals, this stack and this memory, the machine ends as the program κ says -/
def VK {ρ : Type} (x : Cx) (z : Sx) (nL : Nat) (Q : ρ → Mem → State → Prop) (pc : Nat) (L : List (Nat × Value)) (st : List Value) (σ : Mem) (κ : Option (ρ × Mem)) : Prop :=
  ∀ (r : ρ) (σ' : Mem), κ = some (r, σ') → ∀ (H : Heap) (locs : List Loc) (ls : Array Slot), va_P z.1 classes (mws z σ) H → va_S (zA z) x.2.2.2.2.1.heap H locs → lv_has ls nL L → XW x H locs (Q r σ') pc ls st
def inb (i : Int32) (n : Nat) : Bool := !(decide (i < 0)) && decide (i.toNatClampNeg < n)
def gd {α : Type} (b : Bool) (κ : Option α) : Option α := if b = true then κ else none
def bd {α β : Type} (κ : Option (α × Mem)) (f : α → Mem → Option β) : Option β := match κ with
  | none => none
  | some (r, σ) => f r σ
def lt_ {α β : Type} (a : α) (f : α → β) : β := f a
theorem gd_some {α : Type} {b : Bool} {κ : Option α} {v : α} (h : gd b κ = some v) : b = true ∧ κ = some v := by
  cases b
  · cases h
  · exact ⟨rfl, h⟩
theorem inb_in {i : Int32} {n : Nat} (h : inb i n = true) : vp_in i n := by
  simp only [inb, Bool.and_eq_true, Bool.not_eq_true', decide_eq_false_iff_not, decide_eq_true_eq] at h
  intro q
  rcases q with q | q
  · exact h.1 q
  · omega
/-- a class's tables -/
def CO (ci : Nat) (C : String) (T : u_T) (N : Nat) (ty : Nat → FieldType) : Prop := classes[ci]? = some (C, T, N) ∧ nf ci = N ∧ ci < 50 ∧ (∀ w ∈ u_ws C T N, w ∈ Tg) ∧ (∀ k, k < N → parseFieldDescriptor (T k).2.2.1 = some (ty k)) ∧ (∀ a, a < N → ∀ b, b < N → a ≠ b → (T a).2.1 ≠ (T b).2.1)
section VKR
variable {ρ : Type} {x : Cx} {z : Sx} {own : String} {cc : ByteArray} {nL fr lo : Nat} {Q : ρ → Mem → State → Prop} {pc : Nat} {L : List (Nat × Value)} {st : List Value} {σ : Mem} {κ κ1 κ2 : Option (ρ × Mem)}
theorem V_eq {κ' : Option (ρ × Mem)} (h : κ = κ') (k : VK x z nL Q pc L st σ κ') : VK x z nL Q pc L st σ κ := h ▸ k
theorem V_sub {L' : List (Nat × Value)} (ks : List Nat) (h : lv_pick L ks = L') (k : VK x z nL Q pc L' st σ κ) : VK x z nL Q pc L st σ κ :=
  fun r σ' e H locs ls hP hS hl => k r σ' e H locs ls hP hS (lv_sub hl ks h)
theorem V_none : VK x z nL Q pc L st σ none := fun r σ' e => by cases e
theorem V_lt {α : Type} {a : α} {f : α → Option (ρ × Mem)} (k : VK x z nL Q pc L st σ (f a)) : VK x z nL Q pc L st σ (lt_ a f) := k
theorem V_iconst {n : Int} {v : Int32} (X : XG x z own cc nL fr lo) (hd : decode cc pc = .ok (.iconst n, 1)) (hv : Int32.ofInt n = v) (k : VK x z nL Q (pc + 1) L (.int v :: st) σ κ) : VK x z nL Q pc L (st) σ κ := by
  obtain ⟨p, l, e, R, s, m, args, below, meth, c⟩ := x
  obtain ⟨hx, hb, hml, hown, hts, hK, hz, hfr, hlo, hlk⟩ := X
  intro r σ' h H locs ls hP hS hl
  exact lv_iconst hx hb hd hv (k r σ' h H locs ls hP hS hl)
theorem V_bipush {n : Int} {v : Int32} (X : XG x z own cc nL fr lo) (hd : decode cc pc = .ok (.bipush n, 2)) (hv : (Int8.ofInt n).toInt32 = v) (k : VK x z nL Q (pc + 2) L (.int v :: st) σ κ) : VK x z nL Q pc L (st) σ κ := by
  obtain ⟨p, l, e, R, s, m, args, below, meth, c⟩ := x
  obtain ⟨hx, hb, hml, hown, hts, hK, hz, hfr, hlo, hlk⟩ := X
  intro r σ' h H locs ls hP hS hl
  exact lv_bipush hx hb hd hv (k r σ' h H locs ls hP hS hl)
theorem V_sipush {n : Int} {v : Int32} (X : XG x z own cc nL fr lo) (hd : decode cc pc = .ok (.sipush n, 3)) (hv : (Int16.ofInt n).toInt32 = v) (k : VK x z nL Q (pc + 3) L (.int v :: st) σ κ) : VK x z nL Q pc L (st) σ κ := by
  obtain ⟨p, l, e, R, s, m, args, below, meth, c⟩ := x
  obtain ⟨hx, hb, hml, hown, hts, hK, hz, hfr, hlo, hlk⟩ := X
  intro r σ' h H locs ls hP hS hl
  exact lv_sipush hx hb hd hv (k r σ' h H locs ls hP hS hl)
theorem V_lconst {n : Fin 2} {v : Int64} (X : XG x z own cc nL fr lo) (hd : decode cc pc = .ok (.lconst n, 1)) (hv : Int64.ofNat (n : Nat) = v) (k : VK x z nL Q (pc + 1) L (.long v :: st) σ κ) : VK x z nL Q pc L (st) σ κ := by
  obtain ⟨p, l, e, R, s, m, args, below, meth, c⟩ := x
  obtain ⟨hx, hb, hml, hown, hts, hK, hz, hfr, hlo, hlk⟩ := X
  intro r σ' h H locs ls hP hS hl
  exact lv_lconst hx hb hd hv (k r σ' h H locs ls hP hS hl)
theorem V_ldc {index : Nat} {v : Int32} (X : XG x z own cc nL fr lo) (hd : decode cc pc = .ok (.ldc index, 2)) (hc : Cond.constant own index v ∈ Tg) (k : VK x z nL Q (pc + 2) L (.int v :: st) σ κ) : VK x z nL Q pc L (st) σ κ := by
  obtain ⟨p, l, e, R, s, m, args, below, meth, c⟩ := x
  obtain ⟨hx, hb, hml, hown, hts, hK, hz, hfr, hlo, hlk⟩ := X
  intro r σ' h H locs ls hP hS hl
  exact lv_ldc hx hb hown (hts _ hc) hd (k r σ' h H locs ls hP hS hl)
theorem V_ldc2 {index : Nat} {v : Int64} (X : XG x z own cc nL fr lo) (hd : decode cc pc = .ok (.ldc2_w index, 3)) (hc : Cond.constantLong own index v ∈ Tg) (k : VK x z nL Q (pc + 3) L (.long v :: st) σ κ) : VK x z nL Q pc L (st) σ κ := by
  obtain ⟨p, l, e, R, s, m, args, below, meth, c⟩ := x
  obtain ⟨hx, hb, hml, hown, hts, hK, hz, hfr, hlo, hlk⟩ := X
  intro r σ' h H locs ls hP hS hl
  exact lv_ldc2 hx hb hown (hts _ hc) hd (k r σ' h H locs ls hP hS hl)
theorem V_iload_n {v : Int32} {j : Fin 4} {i : Nat} (q : Nat) (X : XG x z own cc nL fr lo) (hd : decode cc pc = .ok (.iload_n j, 1)) (hi : (j : Nat) = i) (hL : L[q]? = some (i, .int v)) (k : VK x z nL Q (pc + 1) L (.int v :: st) σ κ) : VK x z nL Q pc L (st) σ κ := by
  obtain ⟨p, l, e, R, s, m, args, below, meth, c⟩ := x
  obtain ⟨hx, hb, hml, hown, hts, hK, hz, hfr, hlo, hlk⟩ := X
  intro r σ' h H locs ls hP hS hl
  exact lv_iload_n hx hb hd hi (lv_at hl q hL) (k r σ' h H locs ls hP hS hl)
theorem V_iload {v : Int32} {i : Nat} (q : Nat) (X : XG x z own cc nL fr lo) (hd : decode cc pc = .ok (.iload i, 2)) (hL : L[q]? = some (i, .int v)) (k : VK x z nL Q (pc + 2) L (.int v :: st) σ κ) : VK x z nL Q pc L (st) σ κ := by
  obtain ⟨p, l, e, R, s, m, args, below, meth, c⟩ := x
  obtain ⟨hx, hb, hml, hown, hts, hK, hz, hfr, hlo, hlk⟩ := X
  intro r σ' h H locs ls hP hS hl
  exact lv_iload hx hb hd (lv_at hl q hL) (k r σ' h H locs ls hP hS hl)
theorem V_lload_n {v : Int64} {j : Fin 4} {i : Nat} (q : Nat) (X : XG x z own cc nL fr lo) (hd : decode cc pc = .ok (.lload_n j, 1)) (hi : (j : Nat) = i) (hL : L[q]? = some (i, .long v)) (k : VK x z nL Q (pc + 1) L (.long v :: st) σ κ) : VK x z nL Q pc L (st) σ κ := by
  obtain ⟨p, l, e, R, s, m, args, below, meth, c⟩ := x
  obtain ⟨hx, hb, hml, hown, hts, hK, hz, hfr, hlo, hlk⟩ := X
  intro r σ' h H locs ls hP hS hl
  exact lv_lload_n hx hb hd hi (lv_at hl q hL) (k r σ' h H locs ls hP hS hl)
theorem V_lload {v : Int64} {i : Nat} (q : Nat) (X : XG x z own cc nL fr lo) (hd : decode cc pc = .ok (.lload i, 2)) (hL : L[q]? = some (i, .long v)) (k : VK x z nL Q (pc + 2) L (.long v :: st) σ κ) : VK x z nL Q pc L (st) σ κ := by
  obtain ⟨p, l, e, R, s, m, args, below, meth, c⟩ := x
  obtain ⟨hx, hb, hml, hown, hts, hK, hz, hfr, hlo, hlk⟩ := X
  intro r σ' h H locs ls hP hS hl
  exact lv_lload hx hb hd (lv_at hl q hL) (k r σ' h H locs ls hP hS hl)
theorem V_aload_n {v : Nat} {j : Fin 4} {i : Nat} (q : Nat) (X : XG x z own cc nL fr lo) (hd : decode cc pc = .ok (.aload_n j, 1)) (hi : (j : Nat) = i) (hL : L[q]? = some (i, .ref v)) (k : VK x z nL Q (pc + 1) L (.ref v :: st) σ κ) : VK x z nL Q pc L (st) σ κ := by
  obtain ⟨p, l, e, R, s, m, args, below, meth, c⟩ := x
  obtain ⟨hx, hb, hml, hown, hts, hK, hz, hfr, hlo, hlk⟩ := X
  intro r σ' h H locs ls hP hS hl
  exact lv_aload_n hx hb hd hi (lv_at hl q hL) (k r σ' h H locs ls hP hS hl)
theorem V_aload {v : Nat} {i : Nat} (q : Nat) (X : XG x z own cc nL fr lo) (hd : decode cc pc = .ok (.aload i, 2)) (hL : L[q]? = some (i, .ref v)) (k : VK x z nL Q (pc + 2) L (.ref v :: st) σ κ) : VK x z nL Q pc L (st) σ κ := by
  obtain ⟨p, l, e, R, s, m, args, below, meth, c⟩ := x
  obtain ⟨hx, hb, hml, hown, hts, hK, hz, hfr, hlo, hlk⟩ := X
  intro r σ' h H locs ls hP hS hl
  exact lv_aload hx hb hd (lv_at hl q hL) (k r σ' h H locs ls hP hS hl)
theorem V_aload_nN {j : Fin 4} {i : Nat} (q : Nat) (X : XG x z own cc nL fr lo) (hd : decode cc pc = .ok (.aload_n j, 1)) (hi : (j : Nat) = i) (hL : L[q]? = some (i, .null)) (k : VK x z nL Q (pc + 1) L (.null :: st) σ κ) : VK x z nL Q pc L (st) σ κ := by
  obtain ⟨p, l, e, R, s, m, args, below, meth, c⟩ := x
  obtain ⟨hx, hb, hml, hown, hts, hK, hz, hfr, hlo, hlk⟩ := X
  intro r σ' h H locs ls hP hS hl
  exact lv_aload_nN hx hb hd hi (lv_at hl q hL) (k r σ' h H locs ls hP hS hl)
theorem V_aloadN {i : Nat} (q : Nat) (X : XG x z own cc nL fr lo) (hd : decode cc pc = .ok (.aload i, 2)) (hL : L[q]? = some (i, .null)) (k : VK x z nL Q (pc + 2) L (.null :: st) σ κ) : VK x z nL Q pc L (st) σ κ := by
  obtain ⟨p, l, e, R, s, m, args, below, meth, c⟩ := x
  obtain ⟨hx, hb, hml, hown, hts, hK, hz, hfr, hlo, hlk⟩ := X
  intro r σ' h H locs ls hP hS hl
  exact lv_aloadN hx hb hd (lv_at hl q hL) (k r σ' h H locs ls hP hS hl)
theorem V_istore_n {v : Int32} {j : Fin 4} {i : Nat} {L' : List (Nat × Value)} (X : XG x z own cc nL fr lo) (hd : decode cc pc = .ok (.istore_n j, 1)) (hi : (j : Nat) = i) (hn : i < nL) (hl' : (i, Value.int v) :: L.filter (fun q => !(q.1 == i) && !(q.1 + 1 == i && q.2.category == 2)) = L') (k : VK x z nL Q (pc + 1) L' st σ κ) : VK x z nL Q pc L (Value.int v :: st) σ κ := by
  obtain ⟨p, l, e, R, s, m, args, below, meth, c⟩ := x
  obtain ⟨hx, hb, hml, hown, hts, hK, hz, hfr, hlo, hlk⟩ := X
  intro r σ' h H locs ls hP hS hl
  exact lv_istore_n hx hb hd hi hl hn hl' (fun ls hl => k r σ' h H locs ls hP hS hl)
theorem V_istore {v : Int32} {i : Nat} {L' : List (Nat × Value)} (X : XG x z own cc nL fr lo) (hd : decode cc pc = .ok (.istore i, 2)) (hn : i < nL) (hl' : (i, Value.int v) :: L.filter (fun q => !(q.1 == i) && !(q.1 + 1 == i && q.2.category == 2)) = L') (k : VK x z nL Q (pc + 2) L' st σ κ) : VK x z nL Q pc L (Value.int v :: st) σ κ := by
  obtain ⟨p, l, e, R, s, m, args, below, meth, c⟩ := x
  obtain ⟨hx, hb, hml, hown, hts, hK, hz, hfr, hlo, hlk⟩ := X
  intro r σ' h H locs ls hP hS hl
  exact lv_istore hx hb hd hl hn hl' (fun ls hl => k r σ' h H locs ls hP hS hl)
theorem V_lstore_n {v : Int64} {j : Fin 4} {i : Nat} {L' : List (Nat × Value)} (X : XG x z own cc nL fr lo) (hd : decode cc pc = .ok (.lstore_n j, 1)) (hi : (j : Nat) = i) (hn : i + 1 < nL) (hl' : (i, Value.long v) :: L.filter (fun q => !(q.1 == i) && (!(q.1 == i + 1) && !(q.1 + 1 == i && q.2.category == 2))) = L') (k : VK x z nL Q (pc + 1) L' st σ κ) : VK x z nL Q pc L (Value.long v :: st) σ κ := by
  obtain ⟨p, l, e, R, s, m, args, below, meth, c⟩ := x
  obtain ⟨hx, hb, hml, hown, hts, hK, hz, hfr, hlo, hlk⟩ := X
  intro r σ' h H locs ls hP hS hl
  exact lv_lstore_n hx hb hd hi hl hn hl' (fun ls hl => k r σ' h H locs ls hP hS hl)
theorem V_lstore {v : Int64} {i : Nat} {L' : List (Nat × Value)} (X : XG x z own cc nL fr lo) (hd : decode cc pc = .ok (.lstore i, 2)) (hn : i + 1 < nL) (hl' : (i, Value.long v) :: L.filter (fun q => !(q.1 == i) && (!(q.1 == i + 1) && !(q.1 + 1 == i && q.2.category == 2))) = L') (k : VK x z nL Q (pc + 2) L' st σ κ) : VK x z nL Q pc L (Value.long v :: st) σ κ := by
  obtain ⟨p, l, e, R, s, m, args, below, meth, c⟩ := x
  obtain ⟨hx, hb, hml, hown, hts, hK, hz, hfr, hlo, hlk⟩ := X
  intro r σ' h H locs ls hP hS hl
  exact lv_lstore hx hb hd hl hn hl' (fun ls hl => k r σ' h H locs ls hP hS hl)
theorem V_astore_n {v : Nat} {j : Fin 4} {i : Nat} {L' : List (Nat × Value)} (X : XG x z own cc nL fr lo) (hd : decode cc pc = .ok (.astore_n j, 1)) (hi : (j : Nat) = i) (hn : i < nL) (hl' : (i, Value.ref v) :: L.filter (fun q => !(q.1 == i) && !(q.1 + 1 == i && q.2.category == 2)) = L') (k : VK x z nL Q (pc + 1) L' st σ κ) : VK x z nL Q pc L (Value.ref v :: st) σ κ := by
  obtain ⟨p, l, e, R, s, m, args, below, meth, c⟩ := x
  obtain ⟨hx, hb, hml, hown, hts, hK, hz, hfr, hlo, hlk⟩ := X
  intro r σ' h H locs ls hP hS hl
  exact lv_astore_n hx hb hd hi hl hn hl' (fun ls hl => k r σ' h H locs ls hP hS hl)
theorem V_astore {v : Nat} {i : Nat} {L' : List (Nat × Value)} (X : XG x z own cc nL fr lo) (hd : decode cc pc = .ok (.astore i, 2)) (hn : i < nL) (hl' : (i, Value.ref v) :: L.filter (fun q => !(q.1 == i) && !(q.1 + 1 == i && q.2.category == 2)) = L') (k : VK x z nL Q (pc + 2) L' st σ κ) : VK x z nL Q pc L (Value.ref v :: st) σ κ := by
  obtain ⟨p, l, e, R, s, m, args, below, meth, c⟩ := x
  obtain ⟨hx, hb, hml, hown, hts, hK, hz, hfr, hlo, hlk⟩ := X
  intro r σ' h H locs ls hP hS hl
  exact lv_astore hx hb hd hl hn hl' (fun ls hl => k r σ' h H locs ls hP hS hl)
theorem V_astore_nN {j : Fin 4} {i : Nat} {L' : List (Nat × Value)} (X : XG x z own cc nL fr lo) (hd : decode cc pc = .ok (.astore_n j, 1)) (hi : (j : Nat) = i) (hn : i < nL) (hl' : (i, Value.null) :: L.filter (fun q => !(q.1 == i) && !(q.1 + 1 == i && q.2.category == 2)) = L') (k : VK x z nL Q (pc + 1) L' st σ κ) : VK x z nL Q pc L (Value.null :: st) σ κ := by
  obtain ⟨p, l, e, R, s, m, args, below, meth, c⟩ := x
  obtain ⟨hx, hb, hml, hown, hts, hK, hz, hfr, hlo, hlk⟩ := X
  intro r σ' h H locs ls hP hS hl
  exact lv_astore_nN hx hb hd hi hl hn hl' (fun ls hl => k r σ' h H locs ls hP hS hl)
theorem V_astoreN {i : Nat} {L' : List (Nat × Value)} (X : XG x z own cc nL fr lo) (hd : decode cc pc = .ok (.astore i, 2)) (hn : i < nL) (hl' : (i, Value.null) :: L.filter (fun q => !(q.1 == i) && !(q.1 + 1 == i && q.2.category == 2)) = L') (k : VK x z nL Q (pc + 2) L' st σ κ) : VK x z nL Q pc L (Value.null :: st) σ κ := by
  obtain ⟨p, l, e, R, s, m, args, below, meth, c⟩ := x
  obtain ⟨hx, hb, hml, hown, hts, hK, hz, hfr, hlo, hlk⟩ := X
  intro r σ' h H locs ls hP hS hl
  exact lv_astoreN hx hb hd hl hn hl' (fun ls hl => k r σ' h H locs ls hP hS hl)
theorem V_iinc {i : Nat} {n : Int} {a v : Int32} {L' : List (Nat × Value)} (q : Nat) (X : XG x z own cc nL fr lo) (hd : decode cc pc = .ok (.iinc i n, 3)) (hL : L[q]? = some (i, .int a)) (hv : a + Int32.ofInt n = v) (hn : i < nL) (hl' : (i, Value.int v) :: L.filter (fun q => !(q.1 == i) && !(q.1 + 1 == i && q.2.category == 2)) = L') (k : VK x z nL Q (pc + 3) L' st σ κ) : VK x z nL Q pc L st σ κ := by
  obtain ⟨p, l, e, R, s, m, args, below, meth, c⟩ := x
  obtain ⟨hx, hb, hml, hown, hts, hK, hz, hfr, hlo, hlk⟩ := X
  intro r σ' h H locs ls hP hS hl
  exact lv_iinc hx hb hd hl hL hv hn hl' (fun ls hl => k r σ' h H locs ls hP hS hl)
theorem V_iadd {a b : Int32} (X : XG x z own cc nL fr lo) (hd : decode cc pc = .ok (.iadd, 1)) (k : VK x z nL Q (pc + 1) L (.int (a + b) :: st) σ κ) : VK x z nL Q pc L (.int b :: .int a :: st) σ κ := by
  obtain ⟨p, l, e, R, s, m, args, below, meth, c⟩ := x
  obtain ⟨hx, hb, hml, hown, hts, hK, hz, hfr, hlo, hlk⟩ := X
  intro r σ' h H locs ls hP hS hl
  exact lv_iadd hx hb hd (k r σ' h H locs ls hP hS hl)
theorem V_isub {a b : Int32} (X : XG x z own cc nL fr lo) (hd : decode cc pc = .ok (.isub, 1)) (k : VK x z nL Q (pc + 1) L (.int (a - b) :: st) σ κ) : VK x z nL Q pc L (.int b :: .int a :: st) σ κ := by
  obtain ⟨p, l, e, R, s, m, args, below, meth, c⟩ := x
  obtain ⟨hx, hb, hml, hown, hts, hK, hz, hfr, hlo, hlk⟩ := X
  intro r σ' h H locs ls hP hS hl
  exact lv_isub hx hb hd (k r σ' h H locs ls hP hS hl)
theorem V_imul {a b : Int32} (X : XG x z own cc nL fr lo) (hd : decode cc pc = .ok (.imul, 1)) (k : VK x z nL Q (pc + 1) L (.int (a * b) :: st) σ κ) : VK x z nL Q pc L (.int b :: .int a :: st) σ κ := by
  obtain ⟨p, l, e, R, s, m, args, below, meth, c⟩ := x
  obtain ⟨hx, hb, hml, hown, hts, hK, hz, hfr, hlo, hlk⟩ := X
  intro r σ' h H locs ls hP hS hl
  exact lv_imul hx hb hd (k r σ' h H locs ls hP hS hl)
theorem V_iand {a b : Int32} (X : XG x z own cc nL fr lo) (hd : decode cc pc = .ok (.iand, 1)) (k : VK x z nL Q (pc + 1) L (.int (a &&& b) :: st) σ κ) : VK x z nL Q pc L (.int b :: .int a :: st) σ κ := by
  obtain ⟨p, l, e, R, s, m, args, below, meth, c⟩ := x
  obtain ⟨hx, hb, hml, hown, hts, hK, hz, hfr, hlo, hlk⟩ := X
  intro r σ' h H locs ls hP hS hl
  exact lv_iand hx hb hd (k r σ' h H locs ls hP hS hl)
theorem V_ior {a b : Int32} (X : XG x z own cc nL fr lo) (hd : decode cc pc = .ok (.ior, 1)) (k : VK x z nL Q (pc + 1) L (.int (a ||| b) :: st) σ κ) : VK x z nL Q pc L (.int b :: .int a :: st) σ κ := by
  obtain ⟨p, l, e, R, s, m, args, below, meth, c⟩ := x
  obtain ⟨hx, hb, hml, hown, hts, hK, hz, hfr, hlo, hlk⟩ := X
  intro r σ' h H locs ls hP hS hl
  exact lv_ior hx hb hd (k r σ' h H locs ls hP hS hl)
theorem V_ixor {a b : Int32} (X : XG x z own cc nL fr lo) (hd : decode cc pc = .ok (.ixor, 1)) (k : VK x z nL Q (pc + 1) L (.int (a ^^^ b) :: st) σ κ) : VK x z nL Q pc L (.int b :: .int a :: st) σ κ := by
  obtain ⟨p, l, e, R, s, m, args, below, meth, c⟩ := x
  obtain ⟨hx, hb, hml, hown, hts, hK, hz, hfr, hlo, hlk⟩ := X
  intro r σ' h H locs ls hP hS hl
  exact lv_ixor hx hb hd (k r σ' h H locs ls hP hS hl)
theorem V_ishl {a b : Int32} (X : XG x z own cc nL fr lo) (hd : decode cc pc = .ok (.ishl, 1)) (k : VK x z nL Q (pc + 1) L (.int (a <<< (b &&& 31)) :: st) σ κ) : VK x z nL Q pc L (.int b :: .int a :: st) σ κ := by
  obtain ⟨p, l, e, R, s, m, args, below, meth, c⟩ := x
  obtain ⟨hx, hb, hml, hown, hts, hK, hz, hfr, hlo, hlk⟩ := X
  intro r σ' h H locs ls hP hS hl
  exact lv_ishl hx hb hd (k r σ' h H locs ls hP hS hl)
theorem V_ishr {a b : Int32} (X : XG x z own cc nL fr lo) (hd : decode cc pc = .ok (.ishr, 1)) (k : VK x z nL Q (pc + 1) L (.int (a >>> (b &&& 31)) :: st) σ κ) : VK x z nL Q pc L (.int b :: .int a :: st) σ κ := by
  obtain ⟨p, l, e, R, s, m, args, below, meth, c⟩ := x
  obtain ⟨hx, hb, hml, hown, hts, hK, hz, hfr, hlo, hlk⟩ := X
  intro r σ' h H locs ls hP hS hl
  exact lv_ishr hx hb hd (k r σ' h H locs ls hP hS hl)
theorem V_iushr {a b : Int32} (X : XG x z own cc nL fr lo) (hd : decode cc pc = .ok (.iushr, 1)) (k : VK x z nL Q (pc + 1) L (.int (a.toUInt32 >>> (b.toUInt32 &&& Int32.toUInt32 31)).toInt32 :: st) σ κ) : VK x z nL Q pc L (.int b :: .int a :: st) σ κ := by
  obtain ⟨p, l, e, R, s, m, args, below, meth, c⟩ := x
  obtain ⟨hx, hb, hml, hown, hts, hK, hz, hfr, hlo, hlk⟩ := X
  intro r σ' h H locs ls hP hS hl
  exact lv_iushr hx hb hd rfl (k r σ' h H locs ls hP hS hl)
theorem V_ineg {a : Int32} (X : XG x z own cc nL fr lo) (hd : decode cc pc = .ok (.ineg, 1)) (k : VK x z nL Q (pc + 1) L (.int (-a) :: st) σ κ) : VK x z nL Q pc L (.int a :: st) σ κ := by
  obtain ⟨p, l, e, R, s, m, args, below, meth, c⟩ := x
  obtain ⟨hx, hb, hml, hown, hts, hK, hz, hfr, hlo, hlk⟩ := X
  intro r σ' h H locs ls hP hS hl
  exact lv_ineg hx hb hd (k r σ' h H locs ls hP hS hl)
theorem V_ladd {a b : Int64} (X : XG x z own cc nL fr lo) (hd : decode cc pc = .ok (.ladd, 1)) (k : VK x z nL Q (pc + 1) L (.long (a + b) :: st) σ κ) : VK x z nL Q pc L (.long b :: .long a :: st) σ κ := by
  obtain ⟨p, l, e, R, s, m, args, below, meth, c⟩ := x
  obtain ⟨hx, hb, hml, hown, hts, hK, hz, hfr, hlo, hlk⟩ := X
  intro r σ' h H locs ls hP hS hl
  exact lv_ladd hx hb hd (k r σ' h H locs ls hP hS hl)
theorem V_lsub {a b : Int64} (X : XG x z own cc nL fr lo) (hd : decode cc pc = .ok (.lsub, 1)) (k : VK x z nL Q (pc + 1) L (.long (a - b) :: st) σ κ) : VK x z nL Q pc L (.long b :: .long a :: st) σ κ := by
  obtain ⟨p, l, e, R, s, m, args, below, meth, c⟩ := x
  obtain ⟨hx, hb, hml, hown, hts, hK, hz, hfr, hlo, hlk⟩ := X
  intro r σ' h H locs ls hP hS hl
  exact lv_lsub hx hb hd (k r σ' h H locs ls hP hS hl)
theorem V_lmul {a b : Int64} (X : XG x z own cc nL fr lo) (hd : decode cc pc = .ok (.lmul, 1)) (k : VK x z nL Q (pc + 1) L (.long (a * b) :: st) σ κ) : VK x z nL Q pc L (.long b :: .long a :: st) σ κ := by
  obtain ⟨p, l, e, R, s, m, args, below, meth, c⟩ := x
  obtain ⟨hx, hb, hml, hown, hts, hK, hz, hfr, hlo, hlk⟩ := X
  intro r σ' h H locs ls hP hS hl
  exact lv_lmul hx hb hd (k r σ' h H locs ls hP hS hl)
theorem V_land {a b : Int64} (X : XG x z own cc nL fr lo) (hd : decode cc pc = .ok (.land, 1)) (k : VK x z nL Q (pc + 1) L (.long (a &&& b) :: st) σ κ) : VK x z nL Q pc L (.long b :: .long a :: st) σ κ := by
  obtain ⟨p, l, e, R, s, m, args, below, meth, c⟩ := x
  obtain ⟨hx, hb, hml, hown, hts, hK, hz, hfr, hlo, hlk⟩ := X
  intro r σ' h H locs ls hP hS hl
  exact lv_land hx hb hd (k r σ' h H locs ls hP hS hl)
theorem V_lor {a b : Int64} (X : XG x z own cc nL fr lo) (hd : decode cc pc = .ok (.lor, 1)) (k : VK x z nL Q (pc + 1) L (.long (a ||| b) :: st) σ κ) : VK x z nL Q pc L (.long b :: .long a :: st) σ κ := by
  obtain ⟨p, l, e, R, s, m, args, below, meth, c⟩ := x
  obtain ⟨hx, hb, hml, hown, hts, hK, hz, hfr, hlo, hlk⟩ := X
  intro r σ' h H locs ls hP hS hl
  exact lv_lor hx hb hd (k r σ' h H locs ls hP hS hl)
theorem V_lshl {a : Int64} {b : Int32} (X : XG x z own cc nL fr lo) (hd : decode cc pc = .ok (.lshl, 1)) (k : VK x z nL Q (pc + 1) L (.long (a <<< (b.toInt64 &&& 63)) :: st) σ κ) : VK x z nL Q pc L (.int b :: .long a :: st) σ κ := by
  obtain ⟨p, l, e, R, s, m, args, below, meth, c⟩ := x
  obtain ⟨hx, hb, hml, hown, hts, hK, hz, hfr, hlo, hlk⟩ := X
  intro r σ' h H locs ls hP hS hl
  exact lv_lshl hx hb hd rfl (k r σ' h H locs ls hP hS hl)
theorem V_lushr {a : Int64} {b : Int32} (X : XG x z own cc nL fr lo) (hd : decode cc pc = .ok (.lushr, 1)) (k : VK x z nL Q (pc + 1) L (.long (a.toUInt64 >>> (b.toInt64.toUInt64 &&& Int64.toUInt64 63)).toInt64 :: st) σ κ) : VK x z nL Q pc L (.int b :: .long a :: st) σ κ := by
  obtain ⟨p, l, e, R, s, m, args, below, meth, c⟩ := x
  obtain ⟨hx, hb, hml, hown, hts, hK, hz, hfr, hlo, hlk⟩ := X
  intro r σ' h H locs ls hP hS hl
  exact lv_lushr hx hb hd rfl (k r σ' h H locs ls hP hS hl)
theorem V_i2l {a : Int32} (X : XG x z own cc nL fr lo) (hd : decode cc pc = .ok (.i2l, 1)) (k : VK x z nL Q (pc + 1) L (.long a.toInt64 :: st) σ κ) : VK x z nL Q pc L (.int a :: st) σ κ := by
  obtain ⟨p, l, e, R, s, m, args, below, meth, c⟩ := x
  obtain ⟨hx, hb, hml, hown, hts, hK, hz, hfr, hlo, hlk⟩ := X
  intro r σ' h H locs ls hP hS hl
  exact lv_i2l hx hb hd rfl (k r σ' h H locs ls hP hS hl)
theorem V_l2i {a : Int64} (X : XG x z own cc nL fr lo) (hd : decode cc pc = .ok (.l2i, 1)) (k : VK x z nL Q (pc + 1) L (.int a.toInt32 :: st) σ κ) : VK x z nL Q pc L (.long a :: st) σ κ := by
  obtain ⟨p, l, e, R, s, m, args, below, meth, c⟩ := x
  obtain ⟨hx, hb, hml, hown, hts, hK, hz, hfr, hlo, hlk⟩ := X
  intro r σ' h H locs ls hP hS hl
  exact lv_l2i hx hb hd rfl (k r σ' h H locs ls hP hS hl)
theorem V_i2b {a : Int32} (X : XG x z own cc nL fr lo) (hd : decode cc pc = .ok (.i2b, 1)) (k : VK x z nL Q (pc + 1) L (.int a.toInt8.toInt32 :: st) σ κ) : VK x z nL Q pc L (.int a :: st) σ κ := by
  obtain ⟨p, l, e, R, s, m, args, below, meth, c⟩ := x
  obtain ⟨hx, hb, hml, hown, hts, hK, hz, hfr, hlo, hlk⟩ := X
  intro r σ' h H locs ls hP hS hl
  exact lv_i2b hx hb hd rfl (k r σ' h H locs ls hP hS hl)
theorem V_dup {v : Value} (X : XG x z own cc nL fr lo) (hd : decode cc pc = .ok (.dup, 1)) (hv : v.category = 1) (k : VK x z nL Q (pc + 1) L (v :: v :: st) σ κ) : VK x z nL Q pc L (v :: st) σ κ := by
  obtain ⟨p, l, e, R, s, m, args, below, meth, c⟩ := x
  obtain ⟨hx, hb, hml, hown, hts, hK, hz, hfr, hlo, hlk⟩ := X
  intro r σ' h H locs ls hP hS hl
  exact lv_dup hx hb hd hv (k r σ' h H locs ls hP hS hl)
theorem V_dup2 {v u : Value} (X : XG x z own cc nL fr lo) (hd : decode cc pc = .ok (.dup2, 1)) (hv : v.category = 1) (hu : u.category = 1) (k : VK x z nL Q (pc + 1) L (v :: u :: v :: u :: st) σ κ) : VK x z nL Q pc L (v :: u :: st) σ κ := by
  obtain ⟨p, l, e, R, s, m, args, below, meth, c⟩ := x
  obtain ⟨hx, hb, hml, hown, hts, hK, hz, hfr, hlo, hlk⟩ := X
  intro r σ' h H locs ls hP hS hl
  exact lv_dup2_11 hx hb hd hv hu (k r σ' h H locs ls hP hS hl)
theorem V_pop {v : Value} (X : XG x z own cc nL fr lo) (hd : decode cc pc = .ok (.pop, 1)) (hv : v.category = 1) (k : VK x z nL Q (pc + 1) L (st) σ κ) : VK x z nL Q pc L (v :: st) σ κ := by
  obtain ⟨p, l, e, R, s, m, args, below, meth, c⟩ := x
  obtain ⟨hx, hb, hml, hown, hts, hK, hz, hfr, hlo, hlk⟩ := X
  intro r σ' h H locs ls hP hS hl
  exact lv_pop hx hb hd hv (k r σ' h H locs ls hP hS hl)
theorem V_null (X : XG x z own cc nL fr lo) (hd : decode cc pc = .ok (.aconst_null, 1)) (k : VK x z nL Q (pc + 1) L (.null :: st) σ κ) : VK x z nL Q pc L (st) σ κ := by
  obtain ⟨p, l, e, R, s, m, args, below, meth, c⟩ := x
  obtain ⟨hx, hb, hml, hown, hts, hK, hz, hfr, hlo, hlk⟩ := X
  intro r σ' h H locs ls hP hS hl
  exact lv_null hx hb hd (k r σ' h H locs ls hP hS hl)
theorem V_idivK {a b : Int32} (X : XG x z own cc nL fr lo) (hd : decode cc pc = .ok (.idiv, 1)) (hne : ¬ b = 0) (k : VK x z nL Q (pc + 1) L (.int (a / b) :: st) σ κ) : VK x z nL Q pc L (.int b :: .int a :: st) σ κ := by
  obtain ⟨p, l, e, R, s, m, args, below, meth, c⟩ := x
  obtain ⟨hx, hb, hml, hown, hts, hK, hz, hfr, hlo, hlk⟩ := X
  intro r σ' h H locs ls hP hS hl
  exact lv_idiv hx hb hd hne (k r σ' h H locs ls hP hS hl)
theorem V_idiv {a b : Int32} (X : XG x z own cc nL fr lo) (hd : decode cc pc = .ok (.idiv, 1)) (k : VK x z nL Q (pc + 1) L (.int (a / b) :: st) σ κ) : VK x z nL Q pc L (.int b :: .int a :: st) σ (gd (!(decide (b = 0))) κ) := by
  obtain ⟨p, l, e, R, s, m, args, below, meth, c⟩ := x
  obtain ⟨hx, hb, hml, hown, hts, hK, hz, hfr, hlo, hlk⟩ := X
  intro r σ' h H locs ls hP hS hl
  obtain ⟨h1, h⟩ := gd_some h
  exact lv_idiv hx hb hd (by simpa using h1) (k r σ' h H locs ls hP hS hl)
theorem V_iremK {a b : Int32} (X : XG x z own cc nL fr lo) (hd : decode cc pc = .ok (.irem, 1)) (hne : ¬ b = 0) (k : VK x z nL Q (pc + 1) L (.int (a - a / b * b) :: st) σ κ) : VK x z nL Q pc L (.int b :: .int a :: st) σ κ := by
  obtain ⟨p, l, e, R, s, m, args, below, meth, c⟩ := x
  obtain ⟨hx, hb, hml, hown, hts, hK, hz, hfr, hlo, hlk⟩ := X
  intro r σ' h H locs ls hP hS hl
  exact lv_irem hx hb hd hne (k r σ' h H locs ls hP hS hl)
theorem V_irem {a b : Int32} (X : XG x z own cc nL fr lo) (hd : decode cc pc = .ok (.irem, 1)) (k : VK x z nL Q (pc + 1) L (.int (a - a / b * b) :: st) σ κ) : VK x z nL Q pc L (.int b :: .int a :: st) σ (gd (!(decide (b = 0))) κ) := by
  obtain ⟨p, l, e, R, s, m, args, below, meth, c⟩ := x
  obtain ⟨hx, hb, hml, hown, hts, hK, hz, hfr, hlo, hlk⟩ := X
  intro r σ' h H locs ls hP hS hl
  obtain ⟨h1, h⟩ := gd_some h
  exact lv_irem hx hb hd (by simpa using h1) (k r σ' h H locs ls hP hS hl)
theorem V_ldivK {a b : Int64} (X : XG x z own cc nL fr lo) (hd : decode cc pc = .ok (.ldiv, 1)) (hne : ¬ b = 0) (k : VK x z nL Q (pc + 1) L (.long (a / b) :: st) σ κ) : VK x z nL Q pc L (.long b :: .long a :: st) σ κ := by
  obtain ⟨p, l, e, R, s, m, args, below, meth, c⟩ := x
  obtain ⟨hx, hb, hml, hown, hts, hK, hz, hfr, hlo, hlk⟩ := X
  intro r σ' h H locs ls hP hS hl
  exact lv_ldiv hx hb hd hne (k r σ' h H locs ls hP hS hl)
theorem V_ldiv {a b : Int64} (X : XG x z own cc nL fr lo) (hd : decode cc pc = .ok (.ldiv, 1)) (k : VK x z nL Q (pc + 1) L (.long (a / b) :: st) σ κ) : VK x z nL Q pc L (.long b :: .long a :: st) σ (gd (!(decide (b = 0))) κ) := by
  obtain ⟨p, l, e, R, s, m, args, below, meth, c⟩ := x
  obtain ⟨hx, hb, hml, hown, hts, hK, hz, hfr, hlo, hlk⟩ := X
  intro r σ' h H locs ls hP hS hl
  obtain ⟨h1, h⟩ := gd_some h
  exact lv_ldiv hx hb hd (by simpa using h1) (k r σ' h H locs ls hP hS hl)
theorem V_lremK {a b : Int64} (X : XG x z own cc nL fr lo) (hd : decode cc pc = .ok (.lrem, 1)) (hne : ¬ b = 0) (k : VK x z nL Q (pc + 1) L (.long (a - a / b * b) :: st) σ κ) : VK x z nL Q pc L (.long b :: .long a :: st) σ κ := by
  obtain ⟨p, l, e, R, s, m, args, below, meth, c⟩ := x
  obtain ⟨hx, hb, hml, hown, hts, hK, hz, hfr, hlo, hlk⟩ := X
  intro r σ' h H locs ls hP hS hl
  exact lv_lrem hx hb hd hne (k r σ' h H locs ls hP hS hl)
theorem V_lrem {a b : Int64} (X : XG x z own cc nL fr lo) (hd : decode cc pc = .ok (.lrem, 1)) (k : VK x z nL Q (pc + 1) L (.long (a - a / b * b) :: st) σ κ) : VK x z nL Q pc L (.long b :: .long a :: st) σ (gd (!(decide (b = 0))) κ) := by
  obtain ⟨p, l, e, R, s, m, args, below, meth, c⟩ := x
  obtain ⟨hx, hb, hml, hown, hts, hK, hz, hfr, hlo, hlk⟩ := X
  intro r σ' h H locs ls hP hS hl
  obtain ⟨h1, h⟩ := gd_some h
  exact lv_lrem hx hb hd (by simpa using h1) (k r σ' h H locs ls hP hS hl)
theorem V_icmp_eq {a b : Int32} {off : Int} {tgt : Nat} (X : XG x z own cc nL fr lo) (hd : decode cc pc = .ok (.if_icmp .eq off, 3)) (ht : (pc : Int) + off = (tgt : Int)) (k1 : VK x z nL Q tgt L st σ κ1) (k2 : VK x z nL Q (pc + 3) L st σ κ2) : VK x z nL Q pc L (.int b :: .int a :: st) σ (if a = b then κ1 else κ2) := by
  obtain ⟨p, l, e, R, s, m, args, below, meth, c⟩ := x
  obtain ⟨hx, hb, hml, hown, hts, hK, hz, hfr, hlo, hlk⟩ := X
  intro r σ' h H locs ls hP hS hl
  exact lv_icmp_eq hx hb hd ht (fun q => k1 r σ' (by rw [if_pos q] at h; exact h) H locs ls hP hS hl) (fun q => k2 r σ' (by rw [if_neg q] at h; exact h) H locs ls hP hS hl)
theorem V_icmp_ne {a b : Int32} {off : Int} {tgt : Nat} (X : XG x z own cc nL fr lo) (hd : decode cc pc = .ok (.if_icmp .ne off, 3)) (ht : (pc : Int) + off = (tgt : Int)) (k1 : VK x z nL Q tgt L st σ κ1) (k2 : VK x z nL Q (pc + 3) L st σ κ2) : VK x z nL Q pc L (.int b :: .int a :: st) σ (if a = b then κ2 else κ1) := by
  obtain ⟨p, l, e, R, s, m, args, below, meth, c⟩ := x
  obtain ⟨hx, hb, hml, hown, hts, hK, hz, hfr, hlo, hlk⟩ := X
  intro r σ' h H locs ls hP hS hl
  exact lv_icmp_ne hx hb hd ht (fun q => k1 r σ' (by rw [if_neg q] at h; exact h) H locs ls hP hS hl) (fun q => k2 r σ' (by rw [if_pos q] at h; exact h) H locs ls hP hS hl)
theorem V_icmp_lt {a b : Int32} {off : Int} {tgt : Nat} (X : XG x z own cc nL fr lo) (hd : decode cc pc = .ok (.if_icmp .lt off, 3)) (ht : (pc : Int) + off = (tgt : Int)) (k1 : VK x z nL Q tgt L st σ κ1) (k2 : VK x z nL Q (pc + 3) L st σ κ2) : VK x z nL Q pc L (.int b :: .int a :: st) σ (if a < b then κ1 else κ2) := by
  obtain ⟨p, l, e, R, s, m, args, below, meth, c⟩ := x
  obtain ⟨hx, hb, hml, hown, hts, hK, hz, hfr, hlo, hlk⟩ := X
  intro r σ' h H locs ls hP hS hl
  exact lv_icmp_lt hx hb hd ht (fun q => k1 r σ' (by rw [if_pos q] at h; exact h) H locs ls hP hS hl) (fun q => k2 r σ' (by rw [if_neg q] at h; exact h) H locs ls hP hS hl)
theorem V_icmp_ge {a b : Int32} {off : Int} {tgt : Nat} (X : XG x z own cc nL fr lo) (hd : decode cc pc = .ok (.if_icmp .ge off, 3)) (ht : (pc : Int) + off = (tgt : Int)) (k1 : VK x z nL Q tgt L st σ κ1) (k2 : VK x z nL Q (pc + 3) L st σ κ2) : VK x z nL Q pc L (.int b :: .int a :: st) σ (if b ≤ a then κ1 else κ2) := by
  obtain ⟨p, l, e, R, s, m, args, below, meth, c⟩ := x
  obtain ⟨hx, hb, hml, hown, hts, hK, hz, hfr, hlo, hlk⟩ := X
  intro r σ' h H locs ls hP hS hl
  exact lv_icmp_ge hx hb hd ht (fun q => k1 r σ' (by rw [if_pos q] at h; exact h) H locs ls hP hS hl) (fun q => k2 r σ' (by rw [if_neg q] at h; exact h) H locs ls hP hS hl)
theorem V_icmp_gt {a b : Int32} {off : Int} {tgt : Nat} (X : XG x z own cc nL fr lo) (hd : decode cc pc = .ok (.if_icmp .gt off, 3)) (ht : (pc : Int) + off = (tgt : Int)) (k1 : VK x z nL Q tgt L st σ κ1) (k2 : VK x z nL Q (pc + 3) L st σ κ2) : VK x z nL Q pc L (.int b :: .int a :: st) σ (if b < a then κ1 else κ2) := by
  obtain ⟨p, l, e, R, s, m, args, below, meth, c⟩ := x
  obtain ⟨hx, hb, hml, hown, hts, hK, hz, hfr, hlo, hlk⟩ := X
  intro r σ' h H locs ls hP hS hl
  exact lv_icmp_gt hx hb hd ht (fun q => k1 r σ' (by rw [if_pos q] at h; exact h) H locs ls hP hS hl) (fun q => k2 r σ' (by rw [if_neg q] at h; exact h) H locs ls hP hS hl)
theorem V_icmp_le {a b : Int32} {off : Int} {tgt : Nat} (X : XG x z own cc nL fr lo) (hd : decode cc pc = .ok (.if_icmp .le off, 3)) (ht : (pc : Int) + off = (tgt : Int)) (k1 : VK x z nL Q tgt L st σ κ1) (k2 : VK x z nL Q (pc + 3) L st σ κ2) : VK x z nL Q pc L (.int b :: .int a :: st) σ (if a ≤ b then κ1 else κ2) := by
  obtain ⟨p, l, e, R, s, m, args, below, meth, c⟩ := x
  obtain ⟨hx, hb, hml, hown, hts, hK, hz, hfr, hlo, hlk⟩ := X
  intro r σ' h H locs ls hP hS hl
  exact lv_icmp_le hx hb hd ht (fun q => k1 r σ' (by rw [if_pos q] at h; exact h) H locs ls hP hS hl) (fun q => k2 r σ' (by rw [if_neg q] at h; exact h) H locs ls hP hS hl)
theorem V_if_eq {a : Int32} {off : Int} {tgt : Nat} (X : XG x z own cc nL fr lo) (hd : decode cc pc = .ok (.ifCond .eq off, 3)) (ht : (pc : Int) + off = (tgt : Int)) (k1 : VK x z nL Q tgt L st σ κ1) (k2 : VK x z nL Q (pc + 3) L st σ κ2) : VK x z nL Q pc L (.int a :: st) σ (if a = 0 then κ1 else κ2) := by
  obtain ⟨p, l, e, R, s, m, args, below, meth, c⟩ := x
  obtain ⟨hx, hb, hml, hown, hts, hK, hz, hfr, hlo, hlk⟩ := X
  intro r σ' h H locs ls hP hS hl
  exact lv_if_eq hx hb hd ht (fun q => k1 r σ' (by rw [if_pos q] at h; exact h) H locs ls hP hS hl) (fun q => k2 r σ' (by rw [if_neg q] at h; exact h) H locs ls hP hS hl)
theorem V_if_ne {a : Int32} {off : Int} {tgt : Nat} (X : XG x z own cc nL fr lo) (hd : decode cc pc = .ok (.ifCond .ne off, 3)) (ht : (pc : Int) + off = (tgt : Int)) (k1 : VK x z nL Q tgt L st σ κ1) (k2 : VK x z nL Q (pc + 3) L st σ κ2) : VK x z nL Q pc L (.int a :: st) σ (if a = 0 then κ2 else κ1) := by
  obtain ⟨p, l, e, R, s, m, args, below, meth, c⟩ := x
  obtain ⟨hx, hb, hml, hown, hts, hK, hz, hfr, hlo, hlk⟩ := X
  intro r σ' h H locs ls hP hS hl
  exact lv_if_ne hx hb hd ht (fun q => k1 r σ' (by rw [if_neg q] at h; exact h) H locs ls hP hS hl) (fun q => k2 r σ' (by rw [if_pos q] at h; exact h) H locs ls hP hS hl)
theorem V_if_lt {a : Int32} {off : Int} {tgt : Nat} (X : XG x z own cc nL fr lo) (hd : decode cc pc = .ok (.ifCond .lt off, 3)) (ht : (pc : Int) + off = (tgt : Int)) (k1 : VK x z nL Q tgt L st σ κ1) (k2 : VK x z nL Q (pc + 3) L st σ κ2) : VK x z nL Q pc L (.int a :: st) σ (if a < 0 then κ1 else κ2) := by
  obtain ⟨p, l, e, R, s, m, args, below, meth, c⟩ := x
  obtain ⟨hx, hb, hml, hown, hts, hK, hz, hfr, hlo, hlk⟩ := X
  intro r σ' h H locs ls hP hS hl
  exact lv_if_lt hx hb hd ht (fun q => k1 r σ' (by rw [if_pos q] at h; exact h) H locs ls hP hS hl) (fun q => k2 r σ' (by rw [if_neg q] at h; exact h) H locs ls hP hS hl)
theorem V_if_ge {a : Int32} {off : Int} {tgt : Nat} (X : XG x z own cc nL fr lo) (hd : decode cc pc = .ok (.ifCond .ge off, 3)) (ht : (pc : Int) + off = (tgt : Int)) (k1 : VK x z nL Q tgt L st σ κ1) (k2 : VK x z nL Q (pc + 3) L st σ κ2) : VK x z nL Q pc L (.int a :: st) σ (if 0 ≤ a then κ1 else κ2) := by
  obtain ⟨p, l, e, R, s, m, args, below, meth, c⟩ := x
  obtain ⟨hx, hb, hml, hown, hts, hK, hz, hfr, hlo, hlk⟩ := X
  intro r σ' h H locs ls hP hS hl
  exact lv_if_ge hx hb hd ht (fun q => k1 r σ' (by rw [if_pos q] at h; exact h) H locs ls hP hS hl) (fun q => k2 r σ' (by rw [if_neg q] at h; exact h) H locs ls hP hS hl)
theorem V_if_gt {a : Int32} {off : Int} {tgt : Nat} (X : XG x z own cc nL fr lo) (hd : decode cc pc = .ok (.ifCond .gt off, 3)) (ht : (pc : Int) + off = (tgt : Int)) (k1 : VK x z nL Q tgt L st σ κ1) (k2 : VK x z nL Q (pc + 3) L st σ κ2) : VK x z nL Q pc L (.int a :: st) σ (if 0 < a then κ1 else κ2) := by
  obtain ⟨p, l, e, R, s, m, args, below, meth, c⟩ := x
  obtain ⟨hx, hb, hml, hown, hts, hK, hz, hfr, hlo, hlk⟩ := X
  intro r σ' h H locs ls hP hS hl
  exact lv_if_gt hx hb hd ht (fun q => k1 r σ' (by rw [if_pos q] at h; exact h) H locs ls hP hS hl) (fun q => k2 r σ' (by rw [if_neg q] at h; exact h) H locs ls hP hS hl)
theorem V_if_le {a : Int32} {off : Int} {tgt : Nat} (X : XG x z own cc nL fr lo) (hd : decode cc pc = .ok (.ifCond .le off, 3)) (ht : (pc : Int) + off = (tgt : Int)) (k1 : VK x z nL Q tgt L st σ κ1) (k2 : VK x z nL Q (pc + 3) L st σ κ2) : VK x z nL Q pc L (.int a :: st) σ (if a ≤ 0 then κ1 else κ2) := by
  obtain ⟨p, l, e, R, s, m, args, below, meth, c⟩ := x
  obtain ⟨hx, hb, hml, hown, hts, hK, hz, hfr, hlo, hlk⟩ := X
  intro r σ' h H locs ls hP hS hl
  exact lv_if_le hx hb hd ht (fun q => k1 r σ' (by rw [if_pos q] at h; exact h) H locs ls hP hS hl) (fun q => k2 r σ' (by rw [if_neg q] at h; exact h) H locs ls hP hS hl)
theorem V_goto {off : Int} {tgt : Nat} (X : XG x z own cc nL fr lo) (hd : decode cc pc = .ok (.goto off, 3)) (ht : (pc : Int) + off = (tgt : Int)) (k : VK x z nL Q tgt L st σ κ) : VK x z nL Q pc L st σ κ := by
  obtain ⟨p, l, e, R, s, m, args, below, meth, c⟩ := x
  obtain ⟨hx, hb, hml, hown, hts, hK, hz, hfr, hlo, hlk⟩ := X
  intro r σ' h H locs ls hP hS hl
  exact lv_goto hx hb hd ht (k r σ' h H locs ls hP hS hl)
theorem V_ifnull {v : Nat} {off : Int} (X : XG x z own cc nL fr lo) (hd : decode cc pc = .ok (.ifnull off, 3)) (k : VK x z nL Q (pc + 3) L st σ κ) : VK x z nL Q pc L (.ref v :: st) σ κ := by
  obtain ⟨p, l, e, R, s, m, args, below, meth, c⟩ := x
  obtain ⟨hx, hb, hml, hown, hts, hK, hz, hfr, hlo, hlk⟩ := X
  intro r σ' h H locs ls hP hS hl
  exact lv_ifnull hx hb hd (k r σ' h H locs ls hP hS hl)
theorem V_ifnonnull {v : Nat} {off : Int} {tgt : Nat} (X : XG x z own cc nL fr lo) (hd : decode cc pc = .ok (.ifnonnull off, 3)) (ht : (pc : Int) + off = (tgt : Int)) (k : VK x z nL Q tgt L st σ κ) : VK x z nL Q pc L (.ref v :: st) σ κ := by
  obtain ⟨p, l, e, R, s, m, args, below, meth, c⟩ := x
  obtain ⟨hx, hb, hml, hown, hts, hK, hz, hfr, hlo, hlk⟩ := X
  intro r σ' h H locs ls hP hS hl
  exact lv_ifnonnull hx hb hd ht (k r σ' h H locs ls hP hS hl)
theorem V_ifnullN {off : Int} {tgt : Nat} (X : XG x z own cc nL fr lo) (hd : decode cc pc = .ok (.ifnull off, 3)) (ht : (pc : Int) + off = (tgt : Int)) (k : VK x z nL Q tgt L st σ κ) : VK x z nL Q pc L (.null :: st) σ κ := by
  obtain ⟨p, l, e, R, s, m, args, below, meth, c⟩ := x
  obtain ⟨hx, hb, hml, hown, hts, hK, hz, hfr, hlo, hlk⟩ := X
  intro r σ' h H locs ls hP hS hl
  exact lv_ifnullN hx hb hd ht (k r σ' h H locs ls hP hS hl)
theorem V_ifnonnullN {off : Int} (X : XG x z own cc nL fr lo) (hd : decode cc pc = .ok (.ifnonnull off, 3)) (k : VK x z nL Q (pc + 3) L st σ κ) : VK x z nL Q pc L (.null :: st) σ κ := by
  obtain ⟨p, l, e, R, s, m, args, below, meth, c⟩ := x
  obtain ⟨hx, hb, hml, hown, hts, hK, hz, hfr, hlo, hlk⟩ := X
  intro r σ' h H locs ls hP hS hl
  exact lv_ifnonnullN hx hb hd (k r σ' h H locs ls hP hS hl)
theorem V_getI {C : String} {T : u_T} {N ci index k0 : Nat} {ty : Nat → FieldType} (j : Nat) (X : XG x z own cc nL fr lo) (hd : decode cc pc = .ok (.getfield index, 3)) (hC : CO ci C T N ty) (hk : z.2.2.2.1 k0 = (ci, 0)) (hj : j < N) (hf : fk ci j = 0) (hw : Cond.fieldLink own index (T j).1 (T j).2.1 (T j).2.2.1 ∈ Tg) (k : VK x z nL Q (pc + 3) L (.int (σ.1 k0 j) :: st) σ κ) : VK x z nL Q pc L (.ref (z.2.2.1 k0) :: st) σ κ := by
  obtain ⟨p, l, e, R, s, m, args, below, meth, c⟩ := x
  obtain ⟨hx, hb, hml, hown, hts, hK, hz, hfr, hlo, hlk⟩ := X
  intro r σ' h H locs ls hP hS hl
  obtain ⟨c1, c2, c3, c4, c5, c6⟩ := hC
  have hlt : k0 < z.2.2.2.2 := hz.2.1 k0 (by rw [hk]; show ci < 99; omega)
  exact va_get (D := z.1) (ci := ci) (v := .int (σ.1 k0 j)) (C := C) (T := T) (N := N) hx hb hts c4 hown hK hP k0 (by rw [mws_at hlt, ent_obj hk c3]) c1 j hj (hts _ hw) (fun _ h9 => h9) (by rw [fv_at (by omega), fv_int hk hf]) hd (k r σ' h H locs ls hP hS hl)
theorem V_getR {C : String} {T : u_T} {N ci index k0 k1 : Nat} {ty : Nat → FieldType} (j : Nat) (X : XG x z own cc nL fr lo) (hd : decode cc pc = .ok (.getfield index, 3)) (hC : CO ci C T N ty) (hk : z.2.2.2.1 k0 = (ci, 0)) (hj : j < N) (hf : fk ci j = 1) (he : k0 + ro ci j = k1) (hw : Cond.fieldLink own index (T j).1 (T j).2.1 (T j).2.2.1 ∈ Tg) (k : VK x z nL Q (pc + 3) L (.ref (z.2.2.1 k1) :: st) σ κ) : VK x z nL Q pc L (.ref (z.2.2.1 k0) :: st) σ κ := by
  obtain ⟨p, l, e, R, s, m, args, below, meth, c⟩ := x
  obtain ⟨hx, hb, hml, hown, hts, hK, hz, hfr, hlo, hlk⟩ := X
  intro r σ' h H locs ls hP hS hl
  obtain ⟨c1, c2, c3, c4, c5, c6⟩ := hC
  subst he
  have hlt : k0 < z.2.2.2.2 := hz.2.1 k0 (by rw [hk]; show ci < 99; omega)
  exact va_get (D := z.1) (ci := ci) (v := .ref (z.2.2.1 (k0 + ro ci j))) (C := C) (T := T) (N := N) hx hb hts c4 hown hK hP k0 (by rw [mws_at hlt, ent_obj hk c3]) c1 j hj (hts _ hw) (fun _ h9 => h9) (by rw [fv_at (by omega), fv_ref hk hf]) hd (k r σ' h H locs ls hP hS hl)
theorem V_getQ {C : String} {T : u_T} {N ci index k0 : Nat} {ty : Nat → FieldType} {K : Nat × Nat} (j : Nat) (X : XG x z own cc nL fr lo) (hd : decode cc pc = .ok (.getfield index, 3)) (hC : CO ci C T N ty) (hk : z.2.2.2.1 k0 = (ci, 0)) (hj : j < N) (hf : fk ci j = 2) (hw : Cond.fieldLink own index (T j).1 (T j).2.1 (T j).2.2.1 ∈ Tg) (k : z.2.2.2.1 (σ.1 k0 j).toNatClampNeg = K → VK x z nL Q (pc + 3) L (.ref (z.2.2.1 (σ.1 k0 j).toNatClampNeg) :: st) σ κ) : VK x z nL Q pc L (.ref (z.2.2.1 k0) :: st) σ (gd (decide (z.2.2.2.1 (σ.1 k0 j).toNatClampNeg = K)) κ) := by
  obtain ⟨p, l, e, R, s, m, args, below, meth, c⟩ := x
  obtain ⟨hx, hb, hml, hown, hts, hK, hz, hfr, hlo, hlk⟩ := X
  intro r σ' h H locs ls hP hS hl
  obtain ⟨c1, c2, c3, c4, c5, c6⟩ := hC
  obtain ⟨h1, h⟩ := gd_some h
  have hlt : k0 < z.2.2.2.2 := hz.2.1 k0 (by rw [hk]; show ci < 99; omega)
  exact va_get (D := z.1) (ci := ci) (v := .ref (z.2.2.1 (σ.1 k0 j).toNatClampNeg)) (C := C) (T := T) (N := N) hx hb hts c4 hown hK hP k0 (by rw [mws_at hlt, ent_obj hk c3]) c1 j hj (hts _ hw) (fun _ h9 => h9) (by rw [fv_at (by omega), fv_mut hk hf]) hd (k (of_decide_eq_true h1) r σ' h H locs ls hP hS hl)
theorem V_putI {C : String} {T : u_T} {N ci index k0 : Nat} {ty : Nat → FieldType} {v : Int32} (j : Nat) (X : XG x z own cc nL fr lo) (hd : decode cc pc = .ok (.putfield index, 3)) (hC : CO ci C T N ty) (hk : z.2.2.2.1 k0 = (ci, 0)) (hj : j < N) (hf : fk ci j = 0) (hw : Cond.fieldLink own index (T j).1 (T j).2.1 (T j).2.2.1 ∈ Tg) (hfin : (T j).2.2.2 = false) (hn : narrow (ty j) (.int v) = .int v) (hft : fits (ty j) (.int v) = true) (k : VK x z nL Q (pc + 3) L st (pI σ k0 j v) κ) : VK x z nL Q pc L (.int v :: .ref (z.2.2.1 k0) :: st) σ κ := by
  obtain ⟨p, l, e, R, s, m, args, below, meth, c⟩ := x
  obtain ⟨hx, hb, hml, hown, hts, hK, hz, hfr, hlo, hlk⟩ := X
  intro r σ' h H locs ls hP hS hl
  obtain ⟨c1, c2, c3, c4, c5, c6⟩ := hC
  have hlt : k0 < z.2.2.2.2 := hz.2.1 k0 (by rw [hk]; show ci < 99; omega)
  refine va_put (D := z.1) (ci := ci) (v := .int v) (ty := ty j) (C := C) (T := T) (N := N) hx hb hts c4 ty c5 c6 hown hK hP (mws_D hz σ) hS k0 (by rw [mws_at hlt, ent_obj hk c3]) c1 j hj (hts _ hw) (fun _ h9 => h9) hfin (c5 j hj) hn hft (by simp; omega) hd (fun H1 locs1 hP hD hS => ?_)
  rw [fv_set (v := v) hk (by omega) (fv_int hk hf |>.trans (by simp [pI])), mws_set (σ' := pI σ k0 j v) (ent_obj hk c3) (fun i hi => ent_ne hi)] at hP
  exact k r σ' h H1 locs1 ls hP hS hl
theorem V_putQ {C : String} {T : u_T} {N ci index k0 k1 : Nat} {ty : Nat → FieldType} (j : Nat) (X : XG x z own cc nL fr lo) (hd : decode cc pc = .ok (.putfield index, 3)) (hC : CO ci C T N ty) (hk : z.2.2.2.1 k0 = (ci, 0)) (hk1 : k1 < z.2.2.2.2) (hj : j < N) (hf : fk ci j = 2) (hw : Cond.fieldLink own index (T j).1 (T j).2.1 (T j).2.2.1 ∈ Tg) (hfin : (T j).2.2.2 = false) (hn : ∀ a, narrow (ty j) (.ref a) = .ref a) (hft : ∀ a, fits (ty j) (.ref a) = true) (k : VK x z nL Q (pc + 3) L st (pI σ k0 j (Int32.ofNat k1)) κ) : VK x z nL Q pc L (.ref (z.2.2.1 k1) :: .ref (z.2.2.1 k0) :: st) σ κ := by
  obtain ⟨p, l, e, R, s, m, args, below, meth, c⟩ := x
  obtain ⟨hx, hb, hml, hown, hts, hK, hz, hfr, hlo, hlk⟩ := X
  intro r σ' h H locs ls hP hS hl
  obtain ⟨c1, c2, c3, c4, c5, c6⟩ := hC
  have hlt : k0 < z.2.2.2.2 := hz.2.1 k0 (by rw [hk]; show ci < 99; omega)
  have hcl : (Int32.ofNat k1).toNatClampNeg = k1 := nI_clamp (by have := hz.2.2; omega)
  refine va_put (D := z.1) (ci := ci) (v := .ref (z.2.2.1 k1)) (ty := ty j) (C := C) (T := T) (N := N) hx hb hts c4 ty c5 c6 hown hK hP (mws_D hz σ) hS k0 (by rw [mws_at hlt, ent_obj hk c3]) c1 j hj (hts _ hw) (fun _ h9 => h9) hfin (c5 j hj) (hn _) (hft _) (by simp; omega) hd (fun H1 locs1 hP hD hS => ?_)
  rw [fv_set (v := Int32.ofNat k1) hk (by omega) (fv_mut hk hf |>.trans (by simp only [pI, and_self, if_true]; rw [hcl])), mws_set (σ' := pI σ k0 j (Int32.ofNat k1)) (ent_obj hk c3) (fun i hi => ent_ne hi)] at hP
  exact k r σ' h H1 locs1 ls hP hS hl
theorem V_iald {k0 n : Nat} {i : Int32} (X : XG x z own cc nL fr lo) (hd : decode cc pc = .ok (.iaload, 1)) (hk : z.2.2.2.1 k0 = (50, n)) (k : VK x z nL Q (pc + 1) L (.int (σ.1 k0 i.toNatClampNeg) :: st) σ κ) : VK x z nL Q pc L (.int i :: .ref (z.2.2.1 k0) :: st) σ (gd (inb i n) κ) := by
  obtain ⟨p, l, e, R, s, m, args, below, meth, c⟩ := x
  obtain ⟨hx, hb, hml, hown, hts, hK, hz, hfr, hlo, hlk⟩ := X
  intro r σ' h H locs ls hP hS hl
  obtain ⟨h1, h⟩ := gd_some h
  have hlt : k0 < z.2.2.2.2 := hz.2.1 k0 (by rw [hk]; show 50 < 99; omega)
  exact va_iald hx hb hK hP k0 0 (by rw [mws_at hlt, ent_int hk (by omega) (by omega)]) rfl (inb_in h1) hd (k r σ' h H locs ls hP hS hl)
theorem V_zald {k0 n : Nat} {i : Int32} (X : XG x z own cc nL fr lo) (hd : decode cc pc = .ok (.baload, 1)) (hk : z.2.2.2.1 k0 = (51, n)) (k : VK x z nL Q (pc + 1) L (.int (σ.1 k0 i.toNatClampNeg) :: st) σ κ) : VK x z nL Q pc L (.int i :: .ref (z.2.2.1 k0) :: st) σ (gd (inb i n) κ) := by
  obtain ⟨p, l, e, R, s, m, args, below, meth, c⟩ := x
  obtain ⟨hx, hb, hml, hown, hts, hK, hz, hfr, hlo, hlk⟩ := X
  intro r σ' h H locs ls hP hS hl
  obtain ⟨h1, h⟩ := gd_some h
  have hlt : k0 < z.2.2.2.2 := hz.2.1 k0 (by rw [hk]; show 51 < 99; omega)
  exact va_zald hx hb hK hP k0 1 (by rw [mws_at hlt, ent_int hk (by omega) (by omega)]) rfl (inb_in h1) hd (k r σ' h H locs ls hP hS hl)
theorem V_bald {k0 n : Nat} {i : Int32} (X : XG x z own cc nL fr lo) (hd : decode cc pc = .ok (.baload, 1)) (hk : z.2.2.2.1 k0 = (52, n)) (k : VK x z nL Q (pc + 1) L (.int (σ.1 k0 i.toNatClampNeg) :: st) σ κ) : VK x z nL Q pc L (.int i :: .ref (z.2.2.1 k0) :: st) σ (gd (inb i n) κ) := by
  obtain ⟨p, l, e, R, s, m, args, below, meth, c⟩ := x
  obtain ⟨hx, hb, hml, hown, hts, hK, hz, hfr, hlo, hlk⟩ := X
  intro r σ' h H locs ls hP hS hl
  obtain ⟨h1, h⟩ := gd_some h
  have hlt : k0 < z.2.2.2.2 := hz.2.1 k0 (by rw [hk]; show 52 < 99; omega)
  exact va_bald hx hb hK hP k0 2 (by rw [mws_at hlt, ent_int hk (by omega) (by omega)]) rfl (inb_in h1) hd (k r σ' h H locs ls hP hS hl)
theorem V_lald {k0 n : Nat} {i : Int32} (X : XG x z own cc nL fr lo) (hd : decode cc pc = .ok (.laload, 1)) (hk : z.2.2.2.1 k0 = (53, n)) (k : VK x z nL Q (pc + 1) L (.long (σ.2 k0 i.toNatClampNeg) :: st) σ κ) : VK x z nL Q pc L (.int i :: .ref (z.2.2.1 k0) :: st) σ (gd (inb i n) κ) := by
  obtain ⟨p, l, e, R, s, m, args, below, meth, c⟩ := x
  obtain ⟨hx, hb, hml, hown, hts, hK, hz, hfr, hlo, hlk⟩ := X
  intro r σ' h H locs ls hP hS hl
  obtain ⟨h1, h⟩ := gd_some h
  have hlt : k0 < z.2.2.2.2 := hz.2.1 k0 (by rw [hk]; show 53 < 99; omega)
  exact va_lald hx hb hK hP k0 3 (by rw [mws_at hlt, ent_lng hk]) rfl (inb_in h1) hd (k r σ' h H locs ls hP hS hl)
theorem V_aald60 {k0 n : Nat} {i : Int32} (X : XG x z own cc nL fr lo) (hd : decode cc pc = .ok (.aaload, 1)) (hk : z.2.2.2.1 k0 = (60, n)) (k : inb i n = true → VK x z nL Q (pc + 1) L (.ref (z.2.2.1 (raE 60 k0 i.toNatClampNeg)) :: st) σ κ) : VK x z nL Q pc L (.int i :: .ref (z.2.2.1 k0) :: st) σ (gd (inb i n) κ) := by
  obtain ⟨p, l, e, R, s, m, args, below, meth, c⟩ := x
  obtain ⟨hx, hb, hml, hown, hts, hK, hz, hfr, hlo, hlk⟩ := X
  intro r σ' h H locs ls hP hS hl
  obtain ⟨h1, h⟩ := gd_some h
  have hlt : k0 < z.2.2.2.2 := hz.2.1 k0 (by rw [hk]; show 60 < 99; omega)
  exact va_aldq (f := fun j => some (z.2.2.1 (raE 60 k0 j))) hx hb hK hP k0 4 (by rw [mws_at hlt, ent_ref hk (by omega)]) rfl (inb_in h1) hd (k h1 r σ' h H locs ls hP hS hl)
theorem V_aald61 {k0 n : Nat} {i : Int32} (X : XG x z own cc nL fr lo) (hd : decode cc pc = .ok (.aaload, 1)) (hk : z.2.2.2.1 k0 = (61, n)) (k : inb i n = true → VK x z nL Q (pc + 1) L (.ref (z.2.2.1 (raE 61 k0 i.toNatClampNeg)) :: st) σ κ) : VK x z nL Q pc L (.int i :: .ref (z.2.2.1 k0) :: st) σ (gd (inb i n) κ) := by
  obtain ⟨p, l, e, R, s, m, args, below, meth, c⟩ := x
  obtain ⟨hx, hb, hml, hown, hts, hK, hz, hfr, hlo, hlk⟩ := X
  intro r σ' h H locs ls hP hS hl
  obtain ⟨h1, h⟩ := gd_some h
  have hlt : k0 < z.2.2.2.2 := hz.2.1 k0 (by rw [hk]; show 61 < 99; omega)
  exact va_aldq (f := fun j => some (z.2.2.1 (raE 61 k0 j))) hx hb hK hP k0 5 (by rw [mws_at hlt, ent_ref hk (by omega)]) rfl (inb_in h1) hd (k h1 r σ' h H locs ls hP hS hl)
theorem V_aald62 {k0 n : Nat} {i : Int32} (X : XG x z own cc nL fr lo) (hd : decode cc pc = .ok (.aaload, 1)) (hk : z.2.2.2.1 k0 = (62, n)) (k : inb i n = true → VK x z nL Q (pc + 1) L (.ref (z.2.2.1 (raE 62 k0 i.toNatClampNeg)) :: st) σ κ) : VK x z nL Q pc L (.int i :: .ref (z.2.2.1 k0) :: st) σ (gd (inb i n) κ) := by
  obtain ⟨p, l, e, R, s, m, args, below, meth, c⟩ := x
  obtain ⟨hx, hb, hml, hown, hts, hK, hz, hfr, hlo, hlk⟩ := X
  intro r σ' h H locs ls hP hS hl
  obtain ⟨h1, h⟩ := gd_some h
  have hlt : k0 < z.2.2.2.2 := hz.2.1 k0 (by rw [hk]; show 62 < 99; omega)
  exact va_aldq (f := fun j => some (z.2.2.1 (raE 62 k0 j))) hx hb hK hP k0 6 (by rw [mws_at hlt, ent_ref hk (by omega)]) rfl (inb_in h1) hd (k h1 r σ' h H locs ls hP hS hl)
theorem V_aald63 {k0 n : Nat} {i : Int32} (X : XG x z own cc nL fr lo) (hd : decode cc pc = .ok (.aaload, 1)) (hk : z.2.2.2.1 k0 = (63, n)) (k : inb i n = true → VK x z nL Q (pc + 1) L (.ref (z.2.2.1 (raE 63 k0 i.toNatClampNeg)) :: st) σ κ) : VK x z nL Q pc L (.int i :: .ref (z.2.2.1 k0) :: st) σ (gd (inb i n) κ) := by
  obtain ⟨p, l, e, R, s, m, args, below, meth, c⟩ := x
  obtain ⟨hx, hb, hml, hown, hts, hK, hz, hfr, hlo, hlk⟩ := X
  intro r σ' h H locs ls hP hS hl
  obtain ⟨h1, h⟩ := gd_some h
  have hlt : k0 < z.2.2.2.2 := hz.2.1 k0 (by rw [hk]; show 63 < 99; omega)
  exact va_aldq (f := fun j => some (z.2.2.1 (raE 63 k0 j))) hx hb hK hP k0 7 (by rw [mws_at hlt, ent_ref hk (by omega)]) rfl (inb_in h1) hd (k h1 r σ' h H locs ls hP hS hl)
theorem V_iast {k0 n : Nat} {i v : Int32} (X : XG x z own cc nL fr lo) (hd : decode cc pc = .ok (.iastore, 1)) (hk : z.2.2.2.1 k0 = (50, n)) (k : VK x z nL Q (pc + 1) L st (pI σ k0 i.toNatClampNeg (v)) κ) : VK x z nL Q pc L (.int v :: .int i :: .ref (z.2.2.1 k0) :: st) σ (gd (inb i n) κ) := by
  obtain ⟨p, l, e, R, s, m, args, below, meth, c⟩ := x
  obtain ⟨hx, hb, hml, hown, hts, hK, hz, hfr, hlo, hlk⟩ := X
  intro r σ' h H locs ls hP hS hl
  obtain ⟨h1, h⟩ := gd_some h
  have hlt : k0 < z.2.2.2.2 := hz.2.1 k0 (by rw [hk]; show 50 < 99; omega)
  refine va_iast hx hb hK hP (mws_D hz σ) hS k0 0 (by rw [mws_at hlt, ent_int hk (by omega) (by omega)]) rfl (inb_in h1) hd (fun H1 locs1 hP hD hS => ?_)
  rw [mws_set (σ' := pI σ k0 i.toNatClampNeg (v)) (by rw [ent_int hk (by omega) (by omega), pI_up]) (fun i hi => ent_ne hi)] at hP
  exact k r σ' h H1 locs1 ls hP hS hl
theorem V_zast {k0 n : Nat} {i v : Int32} (X : XG x z own cc nL fr lo) (hd : decode cc pc = .ok (.bastore, 1)) (hk : z.2.2.2.1 k0 = (51, n)) (k : VK x z nL Q (pc + 1) L st (pI σ k0 i.toNatClampNeg (vp_nar .boolean v)) κ) : VK x z nL Q pc L (.int v :: .int i :: .ref (z.2.2.1 k0) :: st) σ (gd (inb i n) κ) := by
  obtain ⟨p, l, e, R, s, m, args, below, meth, c⟩ := x
  obtain ⟨hx, hb, hml, hown, hts, hK, hz, hfr, hlo, hlk⟩ := X
  intro r σ' h H locs ls hP hS hl
  obtain ⟨h1, h⟩ := gd_some h
  have hlt : k0 < z.2.2.2.2 := hz.2.1 k0 (by rw [hk]; show 51 < 99; omega)
  refine va_zast hx hb hK hP (mws_D hz σ) hS k0 1 (by rw [mws_at hlt, ent_int hk (by omega) (by omega)]) rfl (inb_in h1) hd (fun H1 locs1 hP hD hS => ?_)
  rw [mws_set (σ' := pI σ k0 i.toNatClampNeg (vp_nar .boolean v)) (by rw [ent_int hk (by omega) (by omega), pI_up]) (fun i hi => ent_ne hi)] at hP
  exact k r σ' h H1 locs1 ls hP hS hl
theorem V_bast {k0 n : Nat} {i v : Int32} (X : XG x z own cc nL fr lo) (hd : decode cc pc = .ok (.bastore, 1)) (hk : z.2.2.2.1 k0 = (52, n)) (k : VK x z nL Q (pc + 1) L st (pI σ k0 i.toNatClampNeg (vp_nar .byte v)) κ) : VK x z nL Q pc L (.int v :: .int i :: .ref (z.2.2.1 k0) :: st) σ (gd (inb i n) κ) := by
  obtain ⟨p, l, e, R, s, m, args, below, meth, c⟩ := x
  obtain ⟨hx, hb, hml, hown, hts, hK, hz, hfr, hlo, hlk⟩ := X
  intro r σ' h H locs ls hP hS hl
  obtain ⟨h1, h⟩ := gd_some h
  have hlt : k0 < z.2.2.2.2 := hz.2.1 k0 (by rw [hk]; show 52 < 99; omega)
  refine va_bast hx hb hK hP (mws_D hz σ) hS k0 2 (by rw [mws_at hlt, ent_int hk (by omega) (by omega)]) rfl (inb_in h1) hd (fun H1 locs1 hP hD hS => ?_)
  rw [mws_set (σ' := pI σ k0 i.toNatClampNeg (vp_nar .byte v)) (by rw [ent_int hk (by omega) (by omega), pI_up]) (fun i hi => ent_ne hi)] at hP
  exact k r σ' h H1 locs1 ls hP hS hl
theorem V_last {k0 n : Nat} {i : Int32} {v : Int64} (X : XG x z own cc nL fr lo) (hd : decode cc pc = .ok (.lastore, 1)) (hk : z.2.2.2.1 k0 = (53, n)) (k : VK x z nL Q (pc + 1) L st (pL σ k0 i.toNatClampNeg v) κ) : VK x z nL Q pc L (.long v :: .int i :: .ref (z.2.2.1 k0) :: st) σ (gd (inb i n) κ) := by
  obtain ⟨p, l, e, R, s, m, args, below, meth, c⟩ := x
  obtain ⟨hx, hb, hml, hown, hts, hK, hz, hfr, hlo, hlk⟩ := X
  intro r σ' h H locs ls hP hS hl
  obtain ⟨h1, h⟩ := gd_some h
  have hlt : k0 < z.2.2.2.2 := hz.2.1 k0 (by rw [hk]; show 53 < 99; omega)
  refine va_last hx hb hK hP (mws_D hz σ) hS k0 3 (by rw [mws_at hlt, ent_lng hk]) rfl (inb_in h1) hd (fun H1 locs1 hP hD hS => ?_)
  rw [mws_set (σ' := pL σ k0 i.toNatClampNeg v) (by rw [ent_lng hk]; congr 5; funext a; simp [pL, vp_updL]) (fun i hi => ent_neL hi)] at hP
  exact k r σ' h H1 locs1 ls hP hS hl
theorem V_alen50 {k0 n : Nat} {v : Int32} (X : XG x z own cc nL fr lo) (hd : decode cc pc = .ok (.arraylength, 1)) (hk : z.2.2.2.1 k0 = (50, n)) (hv : Int32.ofNat n = v) (k : VK x z nL Q (pc + 1) L (.int v :: st) σ κ) : VK x z nL Q pc L (.ref (z.2.2.1 k0) :: st) σ κ := by
  obtain ⟨p, l, e, R, s, m, args, below, meth, c⟩ := x
  obtain ⟨hx, hb, hml, hown, hts, hK, hz, hfr, hlo, hlk⟩ := X
  intro r σ' h H locs ls hP hS hl
  have hlt : k0 < z.2.2.2.2 := hz.2.1 k0 (by rw [hk]; show 50 < 99; omega)
  exact va_alen hx hb hK hP k0 0 (by rw [mws_at hlt, ent_int hk (by omega) (by omega)]) rfl hv hd (k r σ' h H locs ls hP hS hl)
theorem V_alen52 {k0 n : Nat} {v : Int32} (X : XG x z own cc nL fr lo) (hd : decode cc pc = .ok (.arraylength, 1)) (hk : z.2.2.2.1 k0 = (52, n)) (hv : Int32.ofNat n = v) (k : VK x z nL Q (pc + 1) L (.int v :: st) σ κ) : VK x z nL Q pc L (.ref (z.2.2.1 k0) :: st) σ κ := by
  obtain ⟨p, l, e, R, s, m, args, below, meth, c⟩ := x
  obtain ⟨hx, hb, hml, hown, hts, hK, hz, hfr, hlo, hlk⟩ := X
  intro r σ' h H locs ls hP hS hl
  have hlt : k0 < z.2.2.2.2 := hz.2.1 k0 (by rw [hk]; show 52 < 99; omega)
  exact va_alen hx hb hK hP k0 2 (by rw [mws_at hlt, ent_int hk (by omega) (by omega)]) rfl hv hd (k r σ' h H locs ls hP hS hl)
end VKR
