/-! Two programs beside each other. -/
def H2 {α β : Type} (κ1 : Option (α × Mem)) (κ2 : Option (β × Mem)) (Q : α → Mem → β → Mem → Prop) : Prop := Ho κ1 (fun r1 s1 => Ho κ2 (fun r2 s2 => Q r1 s1 r2 s2))
theorem h2_some {α β : Type} {r1 : α} {r2 : β} {s1 s2 : Mem} {Q : α → Mem → β → Mem → Prop} : H2 (some (r1, s1)) (some (r2, s2)) Q ↔ Q r1 s1 r2 s2 := Iff.rfl
theorem h2_swap {α β : Type} {κ1 : Option (α × Mem)} {κ2 : Option (β × Mem)} {Q : α → Mem → β → Mem → Prop} : H2 κ1 κ2 Q ↔ Ho κ2 (fun r2 s2 => Ho κ1 (fun r1 s1 => Q r1 s1 r2 s2)) := by
  unfold H2
  cases κ1 with
  | none =>
    cases κ2 with
    | none => exact Iff.rfl
    | some b => obtain ⟨r, s⟩ := b; exact Iff.rfl
  | some a =>
    obtain ⟨r, s⟩ := a
    cases κ2 with
    | none => exact Iff.rfl
    | some b => obtain ⟨r', s'⟩ := b; exact Iff.rfl
theorem h2_l {α β γ : Type} {κ : Option (γ × Mem)} {f : γ → Mem → Option (α × Mem)} {κ2 : Option (β × Mem)} {Q : α → Mem → β → Mem → Prop} (h : Ho κ (fun r s => H2 (f r s) κ2 Q)) : H2 (bd κ f) κ2 Q := ho_bd.mpr h
theorem h2_r {α β γ : Type} {κ : Option (γ × Mem)} {f : γ → Mem → Option (β × Mem)} {κ1 : Option (α × Mem)} {Q : α → Mem → β → Mem → Prop} (h : Ho κ (fun r s => H2 κ1 (f r s) Q)) : H2 κ1 (bd κ f) Q :=
  h2_swap.mpr (ho_bd.mpr (ho_mono h (fun _ _ q => h2_swap.mp q)))
theorem h2_lr {α β γ δ : Type} {κ : Option (γ × Mem)} {f : γ → Mem → Option (α × Mem)} {κ' : Option (δ × Mem)} {g : δ → Mem → Option (β × Mem)} {Q : α → Mem → β → Mem → Prop} (h : H2 κ κ' (fun r1 s1 r2 s2 => H2 (f r1 s1) (g r2 s2) Q)) : H2 (bd κ f) (bd κ' g) Q :=
  h2_l (ho_mono h (fun _ _ q => h2_r q))
theorem h2_mono {α β : Type} {κ1 : Option (α × Mem)} {κ2 : Option (β × Mem)} {Q Q' : α → Mem → β → Mem → Prop} (h : H2 κ1 κ2 Q) (hq : ∀ r1 s1 r2 s2, Q r1 s1 r2 s2 → Q' r1 s1 r2 s2) : H2 κ1 κ2 Q' := ho_mono h (fun _ _ q => ho_mono q (fun _ _ q' => hq _ _ _ _ q'))
theorem h2_of {α β : Type} {κ1 : Option (α × Mem)} {κ2 : Option (β × Mem)} {Q : α → Mem → β → Mem → Prop} (h : Ho κ1 (fun r1 s1 => Ho κ2 (fun r2 s2 => Q r1 s1 r2 s2))) : H2 κ1 κ2 Q := h
theorem h2_both {α β : Type} {κ1 : Option (α × Mem)} {κ2 : Option (β × Mem)} {Q1 : α → Mem → Prop} {Q2 : β → Mem → Prop} (h1 : Ho κ1 Q1) (h2 : Ho κ2 Q2) : H2 κ1 κ2 (fun r1 s1 r2 s2 => Q1 r1 s1 ∧ Q2 r2 s2) := ho_mono h1 (fun _ _ q => ho_mono h2 (fun _ _ q' => ⟨q, q'⟩))
theorem h2_loop {α1 α2 β1 β2 : Type} {F1 : Nat → β1 → Mem → Option (α1 × Mem)} {F2 : Nat → β2 → Mem → Option (α2 × Mem)} {Q : α1 → Mem → α2 → Mem → Prop} (I : Nat → β1 → Mem → β2 → Mem → Prop) (top : Nat)
    (hstep : ∀ n1 n2 i b1 s1 b2 s2, i < top → I i b1 s1 b2 s2 → (∀ b1' s1' b2' s2', I (i + 1) b1' s1' b2' s2' → H2 (F1 n1 b1' s1') (F2 n2 b2' s2') Q) → H2 (F1 (n1 + 1) b1 s1) (F2 (n2 + 1) b2 s2) Q)
    (hend : ∀ n1 n2 b1 s1 b2 s2, I top b1 s1 b2 s2 → H2 (F1 (n1 + 1) b1 s1) (F2 (n2 + 1) b2 s2) Q) :
    ∀ (d n1 n2 i : Nat) (b1 : β1) (s1 : Mem) (b2 : β2) (s2 : Mem), i + d = top → d < n1 → d < n2 → I i b1 s1 b2 s2 → H2 (F1 n1 b1 s1) (F2 n2 b2 s2) Q := by
  intro d
  induction d with
  | zero =>
    intro n1 n2 i b1 s1 b2 s2 hi hn1 hn2 h
    cases n1 with
    | zero => exact absurd hn1 (Nat.lt_irrefl 0)
    | succ n1 =>
      cases n2 with
      | zero => exact absurd hn2 (Nat.lt_irrefl 0)
      | succ n2 => exact hend n1 n2 b1 s1 b2 s2 (by have : i = top := hi; rw [← this]; exact h)
  | succ d ih =>
    intro n1 n2 i b1 s1 b2 s2 hi hn1 hn2 h
    cases n1 with
    | zero => exact absurd hn1 (Nat.not_lt_zero _)
    | succ n1 =>
      cases n2 with
      | zero => exact absurd hn2 (Nat.not_lt_zero _)
      | succ n2 => exact hstep n1 n2 i b1 s1 b2 s2 (by omega) h (fun b1' s1' b2' s2' h' => ih n1 n2 (i + 1) b1' s1' b2' s2' (by omega) (by omega) (by omega) h')
theorem ho_eq {α : Type} {κ : Option (α × Mem)} {x : α} {σ : Mem} (h : Ho κ (fun r s => r = x ∧ s = σ)) : κ = some (x, σ) := by
  obtain ⟨r, s, h1, h2, h3⟩ := ho_ex h
  rw [h1, h2, h3]
/-! literals -/
theorem z_le {n i : Nat} (hn : (OfNat.ofNat n : Nat) < 2147483648) (hi : i < 2147483648) : (OfNat.ofNat n : Int32) ≤ Int32.ofNat i ↔ (OfNat.ofNat n : Nat) ≤ i := nz_le hn hi
theorem z_ge {n i : Nat} (hn : (OfNat.ofNat n : Nat) < 2147483648) (hi : i < 2147483648) : Int32.ofNat i ≤ (OfNat.ofNat n : Int32) ↔ i ≤ (OfNat.ofNat n : Nat) := nz_le hi hn
theorem z_lt {n i : Nat} (hn : (OfNat.ofNat n : Nat) < 2147483648) (hi : i < 2147483648) : (OfNat.ofNat n : Int32) < Int32.ofNat i ↔ (OfNat.ofNat n : Nat) < i := nz_lt hn hi
theorem z_gt {n i : Nat} (hn : (OfNat.ofNat n : Nat) < 2147483648) (hi : i < 2147483648) : Int32.ofNat i < (OfNat.ofNat n : Int32) ↔ i < (OfNat.ofNat n : Nat) := nz_lt hi hn
theorem z_eq {n i : Nat} (hn : (OfNat.ofNat n : Nat) < 2147483648) (hi : i < 2147483648) : Int32.ofNat i = (OfNat.ofNat n : Int32) ↔ i = (OfNat.ofNat n : Nat) := nz_inj hi hn
theorem z_neg {i : Nat} (hi : i < 2147483648) : ¬ Int32.ofNat i < 0 := by
  rw [show (0 : Int32) = Int32.ofNat 0 from rfl, nz_lt hi (by decide)]; omega
theorem z_m1 {i : Nat} (hi : i < 2147483648) : ¬ Int32.ofNat i = -1 := by
  rw [← Int32.toInt_inj, nz_toInt hi, show (-1 : Int32).toInt = -1 from rfl]; omega
theorem z_sub1 {i : Nat} : Int32.ofNat (i + 1) - 1 = Int32.ofNat i := by rw [← nz_succ, Int32.add_sub_cancel]
/-- in a range from 0 -/
theorem isIn_M {N n : Nat} {σ : Mem} (v : Int32) (hn : n ≤ 100000) : fX12_isIn N v 0 (Int32.ofNat n - 1) σ = some (if inb v n = true then 1 else 0, σ) := by
  unfold fX12_isIn inb
  by_cases h1 : v < 0
  · rw [if_pos h1]; simp [h1]
  · rw [if_neg h1]
    have h2 : 0 ≤ v.toInt := by
      have : ¬ v.toInt < (0 : Int32).toInt := by rw [← Int32.lt_iff_toInt_lt]; exact h1
      simpa using this
    have h5 : (Int32.ofNat n - 1).toInt = (n : Int) - 1 := by
      rw [Int32.toInt_sub, nz_toInt (by omega)]
      apply Int.bmod_eq_of_le <;> simp <;> omega
    have h3 : Int32.ofNat n - 1 < v ↔ n ≤ v.toNatClampNeg := by
      rw [Int32.lt_iff_toInt_lt, h5]
      unfold Int32.toNatClampNeg; omega
    by_cases h4 : n ≤ v.toNatClampNeg
    · rw [if_pos (h3.mpr h4)]; simp [h1]; omega
    · rw [if_neg (fun q => h4 (h3.mp q))]; simp [h1]; omega
theorem isPiece_M {N np : Nat} {σ : Mem} (v : Int32) (h : σ.1 0 12 = Int32.ofNat np) (hn : np ≤ 8) : fX12_isPiece N v σ = some (if inb v np = true then 1 else 0, σ) := by
  unfold fX12_isPiece
  rw [h, isIn_M v (by omega), ho_bds]
  cases inb v np <;> rfl
theorem isPerson_M {N nw : Nat} {σ : Mem} (v : Int32) (h : σ.1 0 13 = Int32.ofNat nw) (hn : nw ≤ 8) : fX12_isPerson N v σ = some (if inb v nw = true then 1 else 0, σ) := by
  unfold fX12_isPerson
  rw [h, isIn_M v (by omega), ho_bds]
  cases inb v nw <;> rfl
theorem isMotion_M {N : Nat} {σ : Mem} (v : Int32) : fX12_isMotion N v σ = some (if inb v 64 = true then 1 else 0, σ) := by
  unfold fX12_isMotion
  rw [show (63 : Int32) = Int32.ofNat 64 - 1 from rfl, isIn_M v (by omega), ho_bds]
  cases inb v 64 <;> rfl
theorem isMotion_C {N : Nat} {σ : Mem} (v : Int32) : fX11_isMotion N v σ = some (if inb v 64 = true then 1 else 0, σ) := by
  have h := has_eq (N := N) (k := 0) (np := 64) (σ := (fun _ _ => Int32.ofNat 64, fun _ _ => 0))
  unfold fX11_isMotion inb
  by_cases h1 : v < 0
  · simp [h1]
  · rw [if_neg h1]
    have h2 : 0 ≤ v.toInt := by
      have : ¬ v.toInt < (0 : Int32).toInt := by rw [← Int32.lt_iff_toInt_lt]; exact h1
      simpa using this
    have h3 : (64 : Int32) ≤ v ↔ 64 ≤ v.toNatClampNeg := by
      rw [Int32.le_iff_toInt_le, show (64 : Int32).toInt = 64 from rfl]
      unfold Int32.toNatClampNeg; omega
    by_cases h4 : 64 ≤ v.toNatClampNeg
    · rw [if_pos (h3.mpr h4)]; simp [h1]; omega
    · rw [if_neg (fun q => h4 (h3.mp q))]; simp [h1]; omega
/-! The reference's chamber and hall. -/
def ChM (σ : Mem) (c : Nat) (C : Vw) (np nw : Nat) : Prop :=
  σ.1 1 c = C 1 0 ∧ σ.1 1 (c + 1) = C 1 1 ∧ σ.1 1 (c + 2) = C 1 2 ∧
  (∀ p, p < np → ∀ j, j < 6 → σ.1 1 (c + 3 + 6 * p + j) = C (2 + j) p) ∧
  (∀ w, w < nw → ∀ j, j < 2 → σ.1 1 (c + 51 + 2 * w + j) = C (8 + j) w)
def HcM (σ : Mem) (c : Nat) (C : Vw) (np nw : Nat) : Prop :=
  (c ≤ 3000 ∧ np ≤ 8 ∧ nw ≤ 6) ∧ (σ.1 0 11 = Int32.ofNat c ∧ σ.1 0 12 = Int32.ofNat np ∧ σ.1 0 13 = Int32.ofNat nw) ∧ ChM σ c C np nw
def bitM (v : Int32) (p : Nat) : Bool := decide ((v >>> (Int32.ofNat p &&& 31)) &&& 1 = 1)
def HaM (σ : Mem) (c : Nat) (C S : Vw) (np nw : Nat) : Prop :=
  HcM σ c C np nw ∧ (σ.1 0 14 = S 1 2 ∧ σ.1 0 15 = S 0 4) ∧
  (∀ p, p < np → σ.1 4 p = S 4 p ∧ σ.1 5 p = S 10 p ∧ S 2 p = C 2 p ∧ S 3 p = (if bitM (σ.1 0 16) p = true then 0 else C 3 p) ∧ S 5 p = C 5 p ∧ S 6 p = C 6 p ∧ S 7 p = C 7 p) ∧
  (∀ w, w < nw → σ.1 6 w = S 9 w ∧ S 8 w = C 8 w)
/-- what a hall of the reference rests on is as it was -/
def AgM (σ σ' : Mem) : Prop := σ'.1 1 = σ.1 1 ∧ σ'.1 4 = σ.1 4 ∧ σ'.1 5 = σ.1 5 ∧ σ'.1 6 = σ.1 6 ∧ ∀ j, 11 ≤ j → j ≤ 16 → σ'.1 0 j = σ.1 0 j
theorem AgM.refl (σ : Mem) : AgM σ σ := ⟨rfl, rfl, rfl, rfl, fun _ _ _ => rfl⟩
theorem HcM.ag {σ σ' : Mem} {c np nw : Nat} {C : Vw} (H : HcM σ c C np nw) (h1 : σ'.1 1 = σ.1 1) (h0 : ∀ j, 11 ≤ j → j ≤ 13 → σ'.1 0 j = σ.1 0 j) : HcM σ' c C np nw := by
  unfold HcM ChM at *
  rw [h1, h0 11 (by omega) (by omega), h0 12 (by omega) (by omega), h0 13 (by omega) (by omega)]
  exact H
theorem HaM.ag {σ σ' : Mem} {c np nw : Nat} {C S : Vw} (H : HaM σ c C S np nw) (A : AgM σ σ') : HaM σ' c C S np nw := by
  obtain ⟨a1, a4, a5, a6, a0⟩ := A
  refine ⟨H.1.ag a1 (fun j h1 h2 => a0 j h1 (by omega)), ?_, ?_, ?_⟩
  · rw [a0 14 (by omega) (by omega), a0 15 (by omega) (by omega)]; exact H.2.1
  · rw [a4, a5, a0 16 (by omega) (by omega)]; exact H.2.2.1
  · rw [a6]; exact H.2.2.2
theorem pI_cell {σ : Mem} {k j a : Nat} {v : Int32} (h : a ≠ k) : (pI σ k j v).1 a = σ.1 a := pI_ne h
theorem of_M {σ : Mem} {N c np nw p j : Nat} {C : Vw} {v : Int32} (H : HcM σ c C np nw) (hp : p < np) (hj : j < 6) (hv : v = Int32.ofNat j) : fX12_of N (Int32.ofNat p) v σ = some (C (2 + j) p, σ) := by
  subst hv
  obtain ⟨⟨c1, c2, c3⟩, ⟨d1, d2, d3⟩, e1, e2, e3, e4, e5⟩ := H
  unfold fX12_of
  rw [d1, show (3 : Int32) = Int32.ofNat 3 from rfl, show (6 : Int32) = Int32.ofNat 6 from rfl]
  simp only [nz_add, nz_mul]
  rw [nz_inb (by omega), nz_nat (by omega), e4 p hp j hj]
  simp only [show c + 3 + 6 * p + j < 4176 by omega, decide_true, ho_gdt]
theorem ofP_M {σ : Mem} {N c np nw w j : Nat} {C : Vw} {v : Int32} (H : HcM σ c C np nw) (hw : w < nw) (hj : j < 2) (hv : v = Int32.ofNat j) : fX12_ofPerson N (Int32.ofNat w) v σ = some (C (8 + j) w, σ) := by
  subst hv
  obtain ⟨⟨c1, c2, c3⟩, ⟨d1, d2, d3⟩, e1, e2, e3, e4, e5⟩ := H
  unfold fX12_ofPerson
  rw [d1, show (51 : Int32) = Int32.ofNat 51 from rfl, show (2 : Int32) = Int32.ofNat 2 from rfl]
  simp only [nz_add, nz_mul]
  rw [nz_inb (by omega), nz_nat (by omega), e5 w hw j hj]
  simp only [show c + 51 + 2 * w + j < 4176 by omega, decide_true, ho_gdt]
theorem of_M0 {σ : Mem} {N c np nw p : Nat} {C : Vw} (H : HcM σ c C np nw) (hp : p < np) : fX12_of N (Int32.ofNat p) 0 σ = some (C 2 p, σ) := of_M H hp (show 0 < 6 by omega) rfl
theorem of_M1 {σ : Mem} {N c np nw p : Nat} {C : Vw} (H : HcM σ c C np nw) (hp : p < np) : fX12_of N (Int32.ofNat p) 1 σ = some (C 3 p, σ) := of_M H hp (show 1 < 6 by omega) rfl
theorem of_M2 {σ : Mem} {N c np nw p : Nat} {C : Vw} (H : HcM σ c C np nw) (hp : p < np) : fX12_of N (Int32.ofNat p) 2 σ = some (C 4 p, σ) := of_M H hp (show 2 < 6 by omega) rfl
theorem of_M3 {σ : Mem} {N c np nw p : Nat} {C : Vw} (H : HcM σ c C np nw) (hp : p < np) : fX12_of N (Int32.ofNat p) 3 σ = some (C 5 p, σ) := of_M H hp (show 3 < 6 by omega) rfl
theorem of_M4 {σ : Mem} {N c np nw p : Nat} {C : Vw} (H : HcM σ c C np nw) (hp : p < np) : fX12_of N (Int32.ofNat p) 4 σ = some (C 6 p, σ) := of_M H hp (show 4 < 6 by omega) rfl
theorem of_M5 {σ : Mem} {N c np nw p : Nat} {C : Vw} (H : HcM σ c C np nw) (hp : p < np) : fX12_of N (Int32.ofNat p) 5 σ = some (C 7 p, σ) := of_M H hp (show 5 < 6 by omega) rfl
theorem ofP_M0 {σ : Mem} {N c np nw w : Nat} {C : Vw} (H : HcM σ c C np nw) (hw : w < nw) : fX12_ofPerson N (Int32.ofNat w) 0 σ = some (C 8 w, σ) := ofP_M H hw (show 0 < 2 by omega) rfl
theorem ofP_M1 {σ : Mem} {N c np nw w : Nat} {C : Vw} (H : HcM σ c C np nw) (hw : w < nw) : fX12_ofPerson N (Int32.ofNat w) 1 σ = some (C 9 w, σ) := ofP_M H hw (show 1 < 2 by omega) rfl
theorem holds_M {N p : Nat} {v : Int32} {σ : Mem} : fX12_holds N v (Int32.ofNat p) σ = some (if bitM v p = true then 1 else 0, σ) := by
  unfold fX12_holds bitM
  by_cases h : (v >>> (Int32.ofNat p &&& 31)) &&& 1 = 1
  · rw [if_pos h]; simp [h]
  · rw [if_neg h]; simp [h]
theorem bits_M {N : Nat} (hN : 10000 ≤ N) {v : Int32} {σ : Mem} : fX12_bitsOf N v σ = some (bitsV v, σ) := by
  apply ho_eq
  unfold fX12_bitsOf
  simp only [ho_lt]
  refine ho_loop (F := fun n (b : Int32 × Int32) s => fX12_bitsOf_l4 N n v b.1 b.2 s) (fun i b s => b.1 = btV v i ∧ b.2 = Int32.ofNat i ∧ s = σ) 8 ?_ ?_ 8 N 0 (0, 0) σ (by omega) (by omega) ⟨rfl, rfl, rfl⟩
  · intro n i b s hi ⟨h1, h2, h3⟩ rec
    show Ho (fX12_bitsOf_b4 N (fX12_bitsOf_l4 N n) v b.1 b.2 s) _
    unfold fX12_bitsOf_b4
    rw [h2, if_neg (by rw [z_le (by omega) (by omega)]; omega)]
    simp only [ho_lt, nz_succ]
    exact rec (_, _) _ ⟨by rw [h1]; rfl, rfl, h3⟩
  · intro n b s ⟨h1, h2, h3⟩
    show Ho (fX12_bitsOf_b4 N (fX12_bitsOf_l4 N n) v b.1 b.2 s) _
    unfold fX12_bitsOf_b4
    rw [h2, if_pos (by decide), ho_some]
    exact ⟨h1, h3⟩
theorem load_M {σ : Mem} {N c np nw p : Nat} {C S : Vw} (hN : 10000 ≤ N) (H : HaM σ c C S np nw) : fX12_loadOf N (Int32.ofNat p) σ = some (loadV S nw p, σ) := by
  have hw6 := H.1.1.2.2
  apply ho_eq
  unfold fX12_loadOf
  simp only [ho_lt]
  refine ho_loop (F := fun n (b : Int32 × Int32) s => fX12_loadOf_l4 N n (Int32.ofNat p) b.1 b.2 s) (fun i b s => b.1 = ldV S p i ∧ b.2 = Int32.ofNat i ∧ s = σ) nw ?_ ?_ nw N 0 (0, 0) σ (by omega) (by omega) ⟨rfl, rfl, rfl⟩
  · intro n i b s hi ⟨h1, h2, h3⟩ rec
    subst h3
    show Ho (fX12_loadOf_b4 N (fX12_loadOf_l4 N n) (Int32.ofNat p) b.1 b.2 s) _
    unfold fX12_loadOf_b4 fX12_loadOf_b33
    rw [h2, H.1.2.1.2.2, if_neg (by rw [nz_le (by omega) (by omega)]; omega)]
    simp only [nz_inb (show i < 2147483648 by omega), show i < 6 by omega, decide_true, ho_gdt, nz_nat (show i < 2147483648 by omega), nz_succ, ofP_M0 H.1 hi, ho_bds, ho_lte, (H.2.2.2 i hi).1]
    by_cases q : S 9 i = Int32.ofNat p
    · rw [if_pos q]
      refine rec (_, _) _ ⟨?_, rfl, rfl⟩
      simp only [ldV]; rw [if_pos q, h1, (H.2.2.2 i hi).2]
    · rw [if_neg q]
      refine rec (_, _) _ ⟨?_, rfl, rfl⟩
      simp only [ldV]; rw [if_neg q, h1]
  · intro n b s ⟨h1, h2, h3⟩
    subst h3
    show Ho (fX12_loadOf_b4 N (fX12_loadOf_l4 N n) (Int32.ofNat p) b.1 b.2 s) _
    unfold fX12_loadOf_b4
    rw [h2, H.1.2.1.2.2, if_pos (Int32.le_refl _), ho_some]
    exact ⟨h1, rfl⟩
theorem mx0 (v : Int32) : (if v ≤ 0 then (0 : Int32) else v) = mxI 0 v := by
  unfold mxI
  by_cases h : v ≤ 0
  · rw [if_pos h, if_neg (by rw [Int32.not_lt]; exact h)]
  · rw [if_neg h, if_pos (by rw [← Int32.not_le]; exact h)]
theorem loud_M {σ : Mem} {N c np nw p : Nat} {m : Int32} {C S : Vw} (hN : 10000 ≤ N) (H : HaM σ c C S np nw) (hp : p < np) : fX12_loudOf N (Int32.ofNat p) m σ = some (loudV S nw m p, σ) := by
  have hn8 := H.1.1.2.1
  obtain ⟨q1, q2, q3, q4, q5, q6, q7⟩ := H.2.2.1 p hp
  unfold fX12_loudOf fX12_loudOf_b38
  simp only [load_M hN H, ho_bds, nz_inb (show p < 2147483648 by omega), show p < 8 by omega, decide_true, ho_gdt, nz_nat (show p < 2147483648 by omega), holds_M, of_M1 H.1 hp, of_M4 H.1 hp, bits_M hN, ho_lte, q1, q2, H.2.1.1]
  have key : ∀ x : Int32, x = sumV S nw m p → (if x ≤ 0 then some ((0 : Int32), σ) else some (x, σ)) = some (loudV S nw m p, σ) := by
    intro x hx
    subst hx
    unfold loudV
    rw [← mx0]
    split <;> rfl
  cases hb : bitM (σ.1 0 16) p with
  | false =>
    rw [hb] at q4
    rw [if_pos (by decide)]
    apply key
    unfold sumV
    rw [q4, q6]; rfl
  | true =>
    rw [hb] at q4
    rw [if_neg (by decide)]
    apply key
    unfold sumV
    rw [q4, q6]
    simp
theorem says_M {σ : Mem} {N c np nw p : Nat} {m : Int32} {C S : Vw} (hN : 10000 ≤ N) (W : WfV S np nw) (H : HaM σ c C S np nw) (hp : p < np) : fX12_saysOf N (Int32.ofNat p) m σ = some (sayV S nw m p (σ.1 0 21) (σ.1 0 22), σ) := by
  obtain ⟨q1, q2, q3, q4, q5, q6, q7⟩ := H.2.2.1 p hp
  have hov : bitM (S 0 4) p = overV S p := by
    unfold bitM overV
    rcases nz_and1 (S 0 4 >>> (Int32.ofNat p &&& 31)) with h | h <;> rw [h] <;> rfl
  unfold fX12_saysOf fX12_saysOf_b33 sayV
  simp only [holds_M, ho_bds, H.2.1.2, hov, loud_M hN H hp, of_M3 H.1 hp, of_M0 H.1 hp, load_M hN H, ho_lte]
  cases ho : overV S p with
  | true => rfl
  | false =>
    rw [if_pos (by decide), if_neg (show ¬ (false = true) by decide)]
    unfold wordV
    rw [← q5, ← q3]
    have hk := W.2.2.2.2.1 p hp
    generalize loadV S nw p = ld
    generalize loudV S nw m p = lo
    generalize S 5 p = li
    generalize σ.1 0 21 = xa
    generalize σ.1 0 22 = xb
    generalize S 2 p = kk at hk
    clear q1 q2 q3 q4 q5 q6 q7 hov ho H W
    rcases hk with k | k | k | k <;> subst k <;> by_cases h1 : lo < li <;> by_cases h2 : ld = 0 <;> by_cases h3 : xa ≤ xb <;> by_cases h4 : xb ≤ xa <;> simp [h1, h2, h3, h4]
def FrM (σ σ' : Mem) : Prop := (∀ k j, ¬ (k = 0 ∧ (j = 21 ∨ j = 22)) → k ≠ 7 → σ'.1 k j = σ.1 k j) ∧ σ'.2 = σ.2
theorem FrM.ag {σ σ' : Mem} (F : FrM σ σ') : AgM σ σ' := ⟨by funext j; exact F.1 1 j (by omega) (by omega), by funext j; exact F.1 4 j (by omega) (by omega), by funext j; exact F.1 5 j (by omega) (by omega), by funext j; exact F.1 6 j (by omega) (by omega), fun j h1 h2 => F.1 0 j (by omega) (by omega)⟩
/-- what a vote of the reference leaves -/
def VoM (S : Vw) (np nw : Nat) (m : Int32) (σ σ' : Mem) : Prop :=
  FrM σ σ' ∧ σ'.1 0 21 = ayV S np nw m ∧ σ'.1 0 22 = noV S np nw m ∧ ∀ q, q < np → σ'.1 7 q = saidV S nw m q
theorem answers_M {σ : Mem} {N c np nw : Nat} {m : Int32} {C S : Vw} (hN : 10000 ≤ N) (W : WfV S np nw) (H : HaM σ c C S np nw) : Ho (fX12_answers N m σ) (fun r σ' => r = (if carV S np nw m = true then 1 else 0) ∧ VoM S np nw m σ σ') := by
  have hn := W.1
  unfold fX12_answers
  simp only [ho_lt]
  refine ho_loop (F := fun n (v : Int32) s => fX12_answers_l12 N n m v s) (fun i v s => v = Int32.ofNat i ∧ FrM σ s ∧ s.1 0 21 = (vtV S nw m i).1 ∧ s.1 0 22 = (vtV S nw m i).2 ∧ ∀ q, q < i → s.1 7 q = saidV S nw m q) np ?_ ?_ np N 0 _ _ (by omega) (by omega) ⟨rfl, ⟨fun k j h1 h2 => ?_, rfl⟩, ?_, ?_, fun q hq => absurd hq (Nat.not_lt_zero q)⟩
  · intro n i v s hi ⟨hv, F, ha, hb, hs⟩ rec
    subst hv
    show Ho (fX12_answers_b12 N (fX12_answers_l12 N n) m (Int32.ofNat i) s) _
    have H' := H.ag F.ag
    have i8 : i < 8 := by omega
    obtain ⟨q1, q2, q3, q4, q5, q6, q7⟩ := H.2.2.1 i hi
    unfold fX12_answers_b12
    rw [if_neg (by rw [H'.1.2.1.2.1, nz_le (by omega) (by omega)]; omega)]
    simp only [says_M hN W H' hi, ho_bds, nz_inb (show i < 2147483648 by omega), i8, decide_true, ho_gdt, ho_lte, nz_nat (show i < 2147483648 by omega), pI_eq]
    rw [ha, hb]
    have hsd : sayV S nw m i (vtV S nw m i).1 (vtV S nw m i).2 = saidV S nw m i := rfl
    rw [hsd]
    generalize hs1 : pI s 7 i (saidV S nw m i) = s1
    have F1 : FrM σ s1 := ⟨fun k j h1 h2 => by rw [← hs1, pI_nq (by omega)]; exact F.1 k j h1 h2, by rw [← hs1]; exact F.2⟩
    have H1 := H.ag F1.ag
    have a1 : s1.1 0 21 = (vtV S nw m i).1 := by rw [← hs1, pI_nq (by omega)]; exact ha
    have b1 : s1.1 0 22 = (vtV S nw m i).2 := by rw [← hs1, pI_nq (by omega)]; exact hb
    have w1 : ∀ q, q < i + 1 → s1.1 7 q = saidV S nw m q := by
      intro q hq
      by_cases hqi : q = i
      · subst hqi; rw [← hs1]; exact pI_eq
      · rw [← hs1, pI_nq (by omega)]; exact hs q (by omega)
    have hv : vtV S nw m (i + 1) = ((vtV S nw m i).1 + (if saidV S nw m i = 1 then S 7 i else 0), (vtV S nw m i).2 + (if saidV S nw m i = 2 then S 7 i else 0)) := rfl
    have last : ∀ (x y : Int32) (s2 : Mem), FrM σ s2 → (∀ q, q < i + 1 → s2.1 7 q = saidV S nw m q) → s2.1 0 21 = (vtV S nw m (i + 1)).1 → y + x = (vtV S nw m (i + 1)).2 → Ho (fX12_answers_b86 N (fX12_answers_l12 N n) m (Int32.ofNat i) x y s2) (fun r σ' => r = (if carV S np nw m = true then 1 else 0) ∧ VoM S np nw m σ σ') := by
      intro x y s2 F2 w2 a2 b2
      unfold fX12_answers_b86
      simp only [ho_lte, nz_succ]
      refine rec _ _ ⟨rfl, ⟨fun k j h1 h2 => ?_, F2.2⟩, ?_, ?_, fun q hq => ?_⟩
      · rw [pI_nq (by omega)]; exact F2.1 k j h1 h2
      · rw [pI_nq (by omega)]; exact a2
      · rw [pI_eq]; exact b2
      · rw [pI_nq (by omega)]; exact w2 q hq
    have mid : ∀ (x : Int32), (vtV S nw m i).1 + x = (vtV S nw m (i + 1)).1 → Ho (fX12_answers_b57 N (fX12_answers_l12 N n) m (Int32.ofNat i) x (vtV S nw m i).1 s1) (fun r σ' => r = (if carV S np nw m = true then 1 else 0) ∧ VoM S np nw m σ σ') := by
      intro x hx
      unfold fX12_answers_b57
      simp only [ho_lte, nz_inb (show i < 2147483648 by omega), i8, decide_true, ho_gdt, nz_nat (show i < 2147483648 by omega)]
      generalize hs2 : pI s1 0 21 ((vtV S nw m i).1 + x) = s2
      have F2 : FrM σ s2 := ⟨fun k j h1 h2 => by rw [← hs2, pI_nq (by omega)]; exact F1.1 k j h1 h2, by rw [← hs2]; exact F1.2⟩
      have H2' := H.ag F2.ag
      have w2 : ∀ q, q < i + 1 → s2.1 7 q = saidV S nw m q := fun q hq => by rw [← hs2, pI_nq (by omega)]; exact w1 q hq
      have a2 : s2.1 0 21 = (vtV S nw m (i + 1)).1 := by rw [← hs2, pI_eq]; exact hx
      have b2 : s2.1 0 22 = (vtV S nw m i).2 := by rw [← hs2, pI_nq (by omega)]; exact b1
      rw [w2 i (Nat.lt_succ_self i), b2]
      simp only [of_M5 H2'.1 hi, ho_bds]
      by_cases c2 : saidV S nw m i = 2
      · rw [if_pos c2]; refine last _ _ _ F2 w2 a2 ?_
        rw [hv, if_pos c2, q7]
      · rw [if_neg c2]; refine last _ _ _ F2 w2 a2 ?_
        rw [hv, if_neg c2]
    rw [a1]
    simp only [of_M5 H1.1 hi, ho_bds]
    by_cases c1 : saidV S nw m i = 1
    · rw [if_pos c1]; refine mid _ ?_
      rw [hv, if_pos c1, q7]
    · rw [if_neg c1]; refine mid _ ?_
      rw [hv, if_neg c1]
  · intro n v s ⟨hv, F, ha, hb, hs⟩
    subst hv
    show Ho (fX12_answers_b12 N (fX12_answers_l12 N n) m (Int32.ofNat np) s) _
    have H' := H.ag F.ag
    unfold fX12_answers_b12
    rw [if_pos (by rw [H'.1.2.1.2.1]; exact Int32.le_refl _), ha, hb]
    have e : carV S np nw m = decide ((vtV S nw m np).2 < (vtV S nw m np).1) := rfl
    by_cases c1 : (vtV S nw m np).1 ≤ (vtV S nw m np).2
    · rw [if_pos c1, ho_some, e, decide_eq_false (by rw [Int32.not_lt]; exact c1)]
      exact ⟨rfl, F, ha, hb, hs⟩
    · rw [if_neg c1, ho_some, e, decide_eq_true (by rw [← Int32.not_le]; exact c1)]
      exact ⟨rfl, F, ha, hb, hs⟩
  · rw [pI_nq (by omega), pI_nq (by omega)]
  · rw [pI_nq (by omega), pI_eq]; rfl
  · rw [pI_eq]; rfl
