theorem cpM_nq {s : Mem} {a b n k i : Nat} (h : ¬ (k = b ∧ i < n)) : (cpM s a b n).1 k i = s.1 k i := if_neg h
theorem cpM_eq {s : Mem} {a b n i : Nat} (h : i < n) : (cpM s a b n).1 b i = s.1 a i := if_pos ⟨rfl, h⟩
/-- a chamber as told, at cell k of the class's memory -/
def ChC (σ : Mem) (k : Nat) (C : Vw) (np nw : Nat) : Prop :=
  σ.1 k 0 = C 1 0 ∧ σ.1 k 1 = C 1 1 ∧ σ.1 k 2 = C 1 2 ∧
  (∀ p, p < np → σ.1 (k + 1) p = C 2 p ∧ σ.1 (k + 2) p = C 3 p ∧ σ.1 (k + 3) p = C 4 p ∧ σ.1 (k + 4) p = C 5 p ∧ σ.1 (k + 5) p = C 6 p ∧ σ.1 (k + 6) p = C 7 p) ∧
  (∀ w, w < nw → σ.1 (k + 7) w = C 8 w ∧ σ.1 (k + 8) w = C 9 w)
/-- a hall as it is at first -/
def asT (C : Vw) : Vw := fun i j => if i = 0 ∨ i = 10 then 0 else C i j
theorem asT_at {C : Vw} {i j : Nat} (h : i ≠ 0 ∧ i ≠ 10) : asT C i j = C i j := by unfold asT; rw [if_neg (by omega)]
theorem asT_wf {C : Vw} {np nw : Nat} (W : WfV C np nw) : WfV (asT C) np nw := by
  obtain ⟨h1, h2, h3, h4, h5, h6, h7, h8⟩ := W
  refine ⟨h1, h2, ?_, ?_, ?_, ?_, ?_, ?_⟩
  · rw [asT_at (by omega)]; exact h3
  · rw [asT_at (by omega)]; exact h4
  · intro p hp; rw [asT_at (by omega)]; exact h5 p hp
  · intro p hp; rw [asT_at (by omega)]; exact h6 p hp
  · intro p hp; rw [asT_at (by omega)]; exact h7 p hp
  · intro p hp; rw [asT_at (by omega)]; exact h8 p hp
/-- all but the cells from a to below b is as it was -/
def FrC (a b : Nat) (σ σ' : Mem) : Prop := (∀ k, k < a ∨ b ≤ k → σ'.1 k = σ.1 k) ∧ σ'.2 = σ.2
theorem FrC.refl (a b : Nat) (σ : Mem) : FrC a b σ σ := ⟨fun _ _ => rfl, rfl⟩
theorem FrC.trans {a b : Nat} {σ σ' σ'' : Mem} (x : FrC a b σ σ') (y : FrC a b σ' σ'') : FrC a b σ σ'' := ⟨fun k h => by rw [y.1 k h, x.1 k h], by rw [y.2, x.2]⟩
theorem FrC.wide {a b a' b' : Nat} {σ σ' : Mem} (x : FrC a b σ σ') (h1 : a' ≤ a) (h2 : b ≤ b') : FrC a' b' σ σ' := ⟨fun k h => x.1 k (by omega), x.2⟩
theorem FrV.toC {h : Nat} {σ σ' : Mem} (F : FrV h σ σ') : FrC h (h + 13) σ σ' := ⟨fun k hk => by funext j; exact F.1 k j (by omega) (by omega), F.2⟩
theorem FrC.pI {a b k j : Nat} {v : Int32} {σ σ' : Mem} (x : FrC a b σ σ') (h : a ≤ k ∧ k < b) : FrC a b σ (pI σ' k j v) := ⟨fun i hi => by funext q; rw [pI_nq (by omega), x.1 i hi], x.2⟩
theorem fill_C {σ : Mem} {N c : Nat} (hN : 10000 ≤ N) : Ho (fJ7_fill_53178 N c 0 σ) (fun _ σ' => (∀ j, j < 8 → σ'.1 c j = 0) ∧ FrC c (c + 1) σ σ') := by
  unfold fJ7_fill_53178
  simp only [ho_lt]
  refine ho_loop (F := fun n (v : Int32) s => fJ7_fill_53178_l5 N n c 0 v 8 s) (fun i v s => v = Int32.ofNat i ∧ (∀ j, j < i → s.1 c j = 0) ∧ FrC c (c + 1) σ s) 8 ?_ ?_ 8 N 0 _ _ (by omega) (by omega) ⟨rfl, fun j hj => absurd hj (Nat.not_lt_zero j), FrC.refl _ _ _⟩
  · intro n i v s hi ⟨hv, h1, F⟩ rec
    subst hv
    show Ho (fJ7_fill_53178_b5 N (fJ7_fill_53178_l5 N n) c 0 (Int32.ofNat i) 8 s) _
    unfold fJ7_fill_53178_b5
    rw [if_neg (by rw [show (8 : Int32) = Int32.ofNat 8 from rfl, nz_le (by omega) (by omega)]; omega)]
    simp only [ho_lte, nz_inb (show i < 2147483648 by omega), hi, decide_true, ho_gdt, nz_nat (show i < 2147483648 by omega), nz_succ]
    refine rec _ _ ⟨rfl, fun j hj => ?_, F.pI (by omega)⟩
    by_cases q : j = i
    · subst q; exact pI_eq
    · rw [pI_nq (by omega)]; exact h1 j (by omega)
  · intro n v s ⟨hv, h1, F⟩
    subst hv
    show Ho (fJ7_fill_53178_b5 N (fJ7_fill_53178_l5 N n) c 0 (Int32.ofNat 8) 8 s) _
    unfold fJ7_fill_53178_b5
    rw [if_pos (by decide), ho_some]
    exact ⟨h1, F⟩
theorem copy_C {σ : Mem} {N h v : Nat} (hd : v + 8 < h) : Ho (fX0_copyFrom N h v σ) (fun _ σ' => (σ'.1 h 0 = σ.1 v 0 ∧ σ'.1 h 1 = σ.1 v 1 ∧ σ'.1 h 2 = σ.1 v 2) ∧ (∀ p, p < 8 → σ'.1 (h + 1) p = σ.1 (v + 1) p ∧ σ'.1 (h + 2) p = σ.1 (v + 2) p ∧ σ'.1 (h + 3) p = σ.1 (v + 3) p ∧ σ'.1 (h + 4) p = σ.1 (v + 4) p ∧ σ'.1 (h + 5) p = σ.1 (v + 5) p ∧ σ'.1 (h + 6) p = σ.1 (v + 6) p) ∧ (∀ w, w < 6 → σ'.1 (h + 7) w = σ.1 (v + 7) w ∧ σ'.1 (h + 8) w = σ.1 (v + 8) w) ∧ FrC h (h + 9) σ σ') := by
  unfold fX0_copyFrom
  simp only [ho_lt, ho_some, show (8 : Int32).toNatClampNeg = 8 from rfl, show (6 : Int32).toNatClampNeg = 6 from rfl]
  refine ⟨?_, fun p hp => ?_, fun w hw => ?_, fun k hk => ?_, rfl⟩
  · simp (disch := omega) only [pI_nq, pI_eq, cpM_nq, cpM_eq]
    exact ⟨trivial, trivial, trivial⟩
  · simp (disch := omega) only [pI_nq, pI_eq, cpM_nq, cpM_eq]
    exact ⟨trivial, trivial, trivial, trivial, trivial, trivial⟩
  · simp (disch := omega) only [pI_nq, pI_eq, cpM_nq, cpM_eq]
    exact ⟨trivial, trivial⟩
  · funext j
    simp (disch := omega) only [pI_nq, pI_eq, cpM_nq, cpM_eq]
