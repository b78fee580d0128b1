/-! The class's hall at cell h holds the view S. -/
def HaC (σ : Mem) (h : Nat) (S : Vw) (np nw : Nat) : Prop :=
  σ.1 h 4 = S 0 4 ∧ σ.1 (h + 1) 0 = S 1 0 ∧ σ.1 (h + 1) 1 = S 1 1 ∧ σ.1 (h + 1) 2 = S 1 2 ∧
  (∀ p, p < np → σ.1 (h + 1 + 1) p = S 2 p ∧ σ.1 (h + 1 + 2) p = S 3 p ∧ σ.1 (h + 1 + 3) p = S 4 p ∧ σ.1 (h + 1 + 4) p = S 5 p ∧ σ.1 (h + 1 + 5) p = S 6 p ∧ σ.1 (h + 1 + 6) p = S 7 p ∧ σ.1 (h + 10) p = S 10 p ∧ σ.1 (h + 11) p = loadV S nw p) ∧
  (∀ w, w < nw → σ.1 (h + 1 + 7) w = S 8 w ∧ σ.1 (h + 1 + 8) w = S 9 w)
/-- what a vote may change -/
def FrV (h : Nat) (σ σ' : Mem) : Prop := (∀ k j, ¬ (k = h ∧ (j = 5 ∨ j = 6)) → k ≠ h + 12 → σ'.1 k j = σ.1 k j) ∧ σ'.2 = σ.2
theorem FrV.refl (h : Nat) (σ : Mem) : FrV h σ σ := ⟨fun _ _ _ _ => rfl, rfl⟩
theorem FrV.trans {h : Nat} {σ σ' σ'' : Mem} (a : FrV h σ σ') (b : FrV h σ' σ'') : FrV h σ σ'' := ⟨fun k j h1 h2 => by rw [b.1 k j h1 h2, a.1 k j h1 h2], by rw [b.2, a.2]⟩
theorem HaC.frv {σ σ' : Mem} {h np nw : Nat} {S : Vw} (H : HaC σ h S np nw) (F : FrV h σ σ') : HaC σ' h S np nw := by
  obtain ⟨h1, h2, h3, h4, h5, h6⟩ := H
  refine ⟨?_, ?_, ?_, ?_, fun p hp => ?_, fun w hw => ?_⟩
  · rw [F.1 _ _ (by omega) (by omega)]; exact h1
  · rw [F.1 _ _ (by omega) (by omega)]; exact h2
  · rw [F.1 _ _ (by omega) (by omega)]; exact h3
  · rw [F.1 _ _ (by omega) (by omega)]; exact h4
  · have q := h5 p hp
    rw [F.1 _ _ (by omega) (by omega), F.1 _ _ (by omega) (by omega), F.1 _ _ (by omega) (by omega), F.1 _ _ (by omega) (by omega), F.1 _ _ (by omega) (by omega), F.1 _ _ (by omega) (by omega), F.1 _ _ (by omega) (by omega), F.1 _ _ (by omega) (by omega)]; exact q
  · have q := h6 w hw
    rw [F.1 _ _ (by omega) (by omega), F.1 _ _ (by omega) (by omega)]; exact q
theorem has_in {N k np p : Nat} {σ : Mem} (h : σ.1 k 0 = Int32.ofNat np) (hn : np ≤ 8) (hp : p < np) : fX0_hasPiece N k (Int32.ofNat p) σ = some (1, σ) := by
  unfold fX0_hasPiece
  rw [h, if_neg, if_neg]
  · rw [nz_le (by omega) (by omega)]; omega
  · rw [show (0 : Int32) = Int32.ofNat 0 from rfl, nz_lt (by omega) (by omega)]; omega
theorem has_eq {N k np : Nat} {σ : Mem} (v : Int32) (h : σ.1 k 0 = Int32.ofNat np) (hn : np ≤ 8) : fX0_hasPiece N k v σ = some (if inb v np = true then 1 else 0, σ) := by
  unfold fX0_hasPiece inb
  rw [h]
  by_cases h1 : v < 0
  · simp [h1]
  · rw [if_neg h1]
    have h2 : 0 ≤ v.toInt := by
      have : ¬ v.toInt < (0 : Int32).toInt := by rw [← Int32.lt_iff_toInt_lt]; exact h1
      simpa using this
    have h3 : Int32.ofNat np ≤ v ↔ np ≤ v.toNatClampNeg := by
      rw [Int32.le_iff_toInt_le, nz_toInt (by omega)]
      unfold Int32.toNatClampNeg; omega
    by_cases h4 : np ≤ v.toNatClampNeg
    · rw [if_pos (h3.mpr h4)]; simp [h1]; omega
    · rw [if_neg (fun q => h4 (h3.mp q))]; simp [h1]; omega
theorem hasw_eq {N k np : Nat} {σ : Mem} (v : Int32) (h : σ.1 k 1 = Int32.ofNat np) (hn : np ≤ 8) : fX0_hasPerson N k v σ = some (if inb v np = true then 1 else 0, σ) := by
  unfold fX0_hasPerson inb
  rw [h]
  by_cases h1 : v < 0
  · simp [h1]
  · rw [if_neg h1]
    have h2 : 0 ≤ v.toInt := by
      have : ¬ v.toInt < (0 : Int32).toInt := by rw [← Int32.lt_iff_toInt_lt]; exact h1
      simpa using this
    have h3 : Int32.ofNat np ≤ v ↔ np ≤ v.toNatClampNeg := by
      rw [Int32.le_iff_toInt_le, nz_toInt (by omega)]
      unfold Int32.toNatClampNeg; omega
    by_cases h4 : np ≤ v.toNatClampNeg
    · rw [if_pos (h3.mpr h4)]; simp [h1]; omega
    · rw [if_neg (fun q => h4 (h3.mp q))]; simp [h1]; omega
/-- a number in its row is a Nat below -/
theorem inb_nat {v : Int32} {n : Nat} (h : inb v n = true) : ∃ p, p < n ∧ v = Int32.ofNat p ∧ v.toNatClampNeg = p := by
  unfold inb at h
  simp only [Bool.and_eq_true, Bool.not_eq_true', decide_eq_false_iff_not, decide_eq_true_eq] at h
  refine ⟨v.toNatClampNeg, h.2, ?_, rfl⟩
  have h2 : 0 ≤ v.toInt := by
    have : ¬ v.toInt < (0 : Int32).toInt := by rw [← Int32.lt_iff_toInt_lt]; exact h.1
    simpa using this
  have h3 := v.toNatClampNeg_lt
  rw [← Int32.toInt_inj, nz_toInt (by omega)]
  unfold Int32.toNatClampNeg; omega
theorem loud_C {σ : Mem} {h np nw : Nat} {S : Vw} (W : WfV S np nw) (H : HaC σ h S np nw) {p mm N : Nat} (hp : p < np) (hm : mm < 64) : fX2_loud N h (Int32.ofNat p) (Int32.ofNat mm) σ = some (loudV S nw (Int32.ofNat mm) p, σ) := by
  have hb : p < 8 := by have := W.1; omega
  have hc : p < 2147483648 := by omega
  obtain ⟨q1, q2, q3, q4, q5, q6, q7, q8⟩ := H.2.2.2.2.1 p hp
  obtain ⟨e, he, he2⟩ := W.2.2.2.2.2.1 p hp
  unfold fX2_loud
  rw [has_in (by rw [H.2.1, W.2.2.1]) W.1 hp]
  simp only [ho_bds, ho_lte, nz_inb hc, hb, decide_true, ho_gdt, nz_nat hc, bc_J6, q2, q3, q5, q7, q8, H.2.2.2.1]
  rw [if_neg (by decide), he2, bits_and mm hm e he, bc_bits _ (Nat.lt_trans (nat_and64 hm) (by decide)), Nat.and_comm]
  unfold loudV sumV
  rw [he2, bits_and e he mm hm]
theorem isOver_C {σ : Mem} {h np nw : Nat} {S : Vw} (H : HaC σ h S np nw) (p N : Nat) : fX2_isOver N h (Int32.ofNat p) σ = some (if overV S p = true then 1 else 0, σ) := by
  unfold fX2_isOver overV
  rw [H.1]
  by_cases q : (S 0 4 >>> (Int32.ofNat p &&& 31)) &&& 1 = 0
  · rw [if_pos q]; simp [q]
  · rw [if_neg q]; simp [q]
theorem says_C {σ : Mem} {h np nw : Nat} {S : Vw} (W : WfV S np nw) (H : HaC σ h S np nw) {p mm N : Nat} (hp : p < np) (hm : mm < 64) : fX2_says N h (Int32.ofNat p) (Int32.ofNat mm) σ = some (wordV S nw (Int32.ofNat mm) p (σ.1 h 5) (σ.1 h 6), σ) := by
  have hb : p < 8 := by have := W.1; omega
  have hc : p < 2147483648 := by omega
  obtain ⟨q1, q2, q3, q4, q5, q6, q7, q8⟩ := H.2.2.2.2.1 p hp
  unfold fX2_says fX2_says_b67 wordV
  simp only [ho_bds, ho_lte, nz_inb hc, hb, decide_true, ho_gdt, nz_nat hc, loud_C W H hp hm, q1, q4, q8]
  rcases W.2.2.2.2.1 p hp with k | k | k | k <;> simp only [k] <;> (repeat' split) <;> simp_all
