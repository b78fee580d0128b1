/-! A calculus over the pure programs: Ho κ Q: κ gives an answer and a memory with Q. -/
def Ho {α : Type} (κ : Option (α × Mem)) (Q : α → Mem → Prop) : Prop := match κ with
  | none => False
  | some (r, σ) => Q r σ
theorem ho_some {α : Type} {r : α} {σ : Mem} {Q : α → Mem → Prop} : Ho (some (r, σ)) Q ↔ Q r σ := Iff.rfl
theorem ho_bd {α β : Type} {κ : Option (α × Mem)} {f : α → Mem → Option (β × Mem)} {Q : β → Mem → Prop} : Ho (bd κ f) Q ↔ Ho κ (fun r s => Ho (f r s) Q) := by
  cases κ with
  | none => exact Iff.rfl
  | some a => cases a; exact Iff.rfl
theorem ho_gd {α : Type} {b : Bool} {κ : Option (α × Mem)} {Q : α → Mem → Prop} : Ho (gd b κ) Q ↔ b = true ∧ Ho κ Q := by
  unfold gd
  cases b
  · constructor
    · intro h; exact h.elim
    · intro h; cases h.1
  · constructor
    · intro h; exact ⟨rfl, h⟩
    · intro h; exact h.2
theorem ho_lt {α β : Type} {a : α} {f : α → Option (β × Mem)} {Q : β → Mem → Prop} : Ho (lt_ a f) Q ↔ Ho (f a) Q := Iff.rfl
theorem ho_ite {α : Type} {c : Prop} [Decidable c] {a b : Option (α × Mem)} {Q : α → Mem → Prop} : Ho (if c then a else b) Q ↔ (c → Ho a Q) ∧ (¬ c → Ho b Q) := by
  by_cases h : c
  · rw [if_pos h]; exact ⟨fun q => ⟨fun _ => q, fun n => absurd h n⟩, fun q => q.1 h⟩
  · rw [if_neg h]; exact ⟨fun q => ⟨fun n => absurd n h, fun _ => q⟩, fun q => q.2 h⟩
theorem ho_mono {α : Type} {κ : Option (α × Mem)} {Q Q' : α → Mem → Prop} (h : Ho κ Q) (hq : ∀ r σ, Q r σ → Q' r σ) : Ho κ Q' := by
  cases κ with
  | none => exact h.elim
  | some a => cases a; exact hq _ _ h
theorem ho_ex {α : Type} {κ : Option (α × Mem)} {Q : α → Mem → Prop} (h : Ho κ Q) : ∃ r σ, κ = some (r, σ) ∧ Q r σ := by
  cases κ with
  | none => exact h.elim
  | some a => cases a; exact ⟨_, _, rfl, h⟩
theorem ho_of {α : Type} {κ : Option (α × Mem)} {r : α} {σ : Mem} {Q : α → Mem → Prop} (h : κ = some (r, σ)) (q : Q r σ) : Ho κ Q := by rw [h]; exact q
theorem ho_bds {α β : Type} {r : α} {σ : Mem} {f : α → Mem → Option β} : bd (some (r, σ)) f = f r σ := rfl
theorem ho_gdt {α : Type} {κ : Option α} : gd true κ = κ := rfl
theorem ho_lte {α β : Type} {a : α} {f : α → β} : lt_ a f = f a := rfl
/-- a loop by fuel, with what it carries as one β -/
theorem ho_loop {α β : Type} {F : Nat → β → Mem → Option (α × Mem)} {Q : α → Mem → Prop} (I : Nat → β → Mem → Prop) (top : Nat)
    (hstep : ∀ n i b σ, i < top → I i b σ → (∀ b' σ', I (i + 1) b' σ' → Ho (F n b' σ') Q) → Ho (F (n + 1) b σ) Q)
    (hend : ∀ n b σ, I top b σ → Ho (F (n + 1) b σ) Q) :
    ∀ (d n i : Nat) (b : β) (σ : Mem), i + d = top → d < n → I i b σ → Ho (F n b σ) Q := by
  intro d
  induction d with
  | zero =>
    intro n i b σ hi hn h
    cases n with
    | zero => exact absurd hn (Nat.lt_irrefl 0)
    | succ n => exact hend n b σ (by have : i = top := hi; rw [← this]; exact h)
  | succ d ih =>
    intro n i b σ hi hn h
    cases n with
    | zero => exact absurd hn (Nat.not_lt_zero _)
    | succ n => exact hstep n i b σ (by omega) h (fun b' σ' h' => ih n (i + 1) b' σ' (by omega) (by omega) h')
/-! numbers -/
theorem nz_toInt {n : Nat} (h : n < 2147483648) : (Int32.ofNat n).toInt = n := by
  exact Int32.toInt_ofNat_of_lt h
theorem nz_le {a b : Nat} (ha : a < 2147483648) (hb : b < 2147483648) : Int32.ofNat a ≤ Int32.ofNat b ↔ a ≤ b := by
  rw [Int32.le_iff_toInt_le, nz_toInt ha, nz_toInt hb]; omega
theorem nz_lt {a b : Nat} (ha : a < 2147483648) (hb : b < 2147483648) : Int32.ofNat a < Int32.ofNat b ↔ a < b := by
  rw [Int32.lt_iff_toInt_lt, nz_toInt ha, nz_toInt hb]; omega
theorem nz_inj {a b : Nat} (ha : a < 2147483648) (hb : b < 2147483648) : Int32.ofNat a = Int32.ofNat b ↔ a = b := by
  rw [← Int32.toInt_inj, nz_toInt ha, nz_toInt hb]; omega
theorem nz_add {a b : Nat} : Int32.ofNat a + Int32.ofNat b = Int32.ofNat (a + b) := (Int32.ofNat_add a b).symm
theorem nz_mul {a b : Nat} : Int32.ofNat a * Int32.ofNat b = Int32.ofNat (a * b) := (Int32.ofNat_mul a b).symm
theorem nz_succ {a : Nat} : Int32.ofNat a + 1 = Int32.ofNat (a + 1) := (Int32.ofNat_add a 1).symm
theorem nz_nat {a : Nat} (h : a < 2147483648) : (Int32.ofNat a).toNatClampNeg = a := by
  have := nz_toInt h
  unfold Int32.toNatClampNeg; omega
theorem nz_inb {a n : Nat} (h : a < 2147483648) : inb (Int32.ofNat a) n = decide (a < n) := by
  unfold inb
  rw [nz_nat h]
  have : ¬ Int32.ofNat a < 0 := by
    rw [show (0 : Int32) = Int32.ofNat 0 from rfl, nz_lt h (by decide)]; omega
  simp [this]
