/-! Adding a line: the class's and the reference's writes. -/
theorem bd_unit {κ : Option (Unit × Mem)} : bd κ (fun _ s => some ((), s)) = κ := by
  cases κ with
  | none => rfl
  | some a => cases a; rfl
theorem nz_0 : (0 : Int32) = Int32.ofNat 0 := rfl
theorem nz_1 : (1 : Int32) = Int32.ofNat 1 := rfl
theorem nz_2 : (2 : Int32) = Int32.ofNat 2 := rfl
theorem nz_3 : (3 : Int32) = Int32.ofNat 3 := rfl
theorem nz_4 : (4 : Int32) = Int32.ofNat 4 := rfl
theorem nz_5 : (5 : Int32) = Int32.ofNat 5 := rfl
theorem nz_6 : (6 : Int32) = Int32.ofNat 6 := rfl
theorem nz_51 : (51 : Int32) = Int32.ofNat 51 := rfl
theorem inb_k {a n : Nat} (h : a < n) (hn : n < 10000) : inb (Int32.ofNat a) n = true := by rw [nz_inb (by omega)]; exact decide_eq_true h
section ADDS
variable {N : Nat} {σ : Mem}
theorem addPiece_C {h q np : Nat} {a b : Int32} (hn : np < 8) (h0 : σ.1 h 0 = Int32.ofNat np) (hq : q < h ∨ h + 9 ≤ q) : Ho (fX0_addPiece N h a b q σ) (fun _ t => t.1 h 0 = Int32.ofNat (np + 1) ∧ (t.1 (h + 1) np = a ∧ t.1 (h + 2) np = b ∧ t.1 (h + 3) np = σ.1 q 0 ∧ t.1 (h + 4) np = σ.1 q 1 ∧ t.1 (h + 5) np = σ.1 q 2 ∧ t.1 (h + 6) np = σ.1 q 3) ∧ ∀ k j, ¬ (k = h ∧ j = 0) → ¬ (h < k ∧ k < h + 7 ∧ j = np) → t.1 k j = σ.1 k j) := by
  have i8 : inb (Int32.ofNat np) 8 = true := inb_k hn (by omega)
  have c0 : inb 0 4 = true := by decide
  have c1 : inb 1 4 = true := by decide
  have c2 : inb 2 4 = true := by decide
  have c3 : inb 3 4 = true := by decide
  have n0 : (0 : Int32).toNatClampNeg = 0 := rfl
  have n1 : (1 : Int32).toNatClampNeg = 1 := rfl
  have n2 : (2 : Int32).toNatClampNeg = 2 := rfl
  have n3 : (3 : Int32).toNatClampNeg = 3 := rfl
  have nn : (Int32.ofNat np).toNatClampNeg = np := nz_nat (by omega)
  unfold fX0_addPiece
  rw [if_neg (show ¬ (8 : Int32) ≤ σ.1 h 0 by rw [h0, z_le (by omega) (by omega)]; omega), if_pos (by decide)]
  simp (disch := omega) only [ho_lte, c0, c1, c2, c3, n0, n1, n2, n3, ho_gdt, pI_nq, h0, i8, nn]
  refine ⟨by rw [pI_eq, nz_succ], ⟨?_, ?_, ?_, ?_, ?_, ?_⟩, fun k j h1 h2 => ?_⟩
  all_goals simp (disch := omega) only [pI_nq, pI_eq]
theorem addPiece_n {h q np : Nat} {a b : Int32} (hn : 8 ≤ np) (hn2 : np < 100) (h0 : σ.1 h 0 = Int32.ofNat np) : fX0_addPiece N h a b q σ = some ((), σ) := by
  unfold fX0_addPiece
  rw [if_pos (show (8 : Int32) ≤ σ.1 h 0 by rw [h0, z_le (by omega) (by omega)]; omega)]
theorem addPerson_C {h nw : Nat} {a b : Int32} (hn : nw < 6) (h1 : σ.1 h 1 = Int32.ofNat nw) : Ho (fX0_addPerson N h a b σ) (fun _ t => t.1 h 1 = Int32.ofNat (nw + 1) ∧ (t.1 (h + 7) nw = a ∧ t.1 (h + 8) nw = b) ∧ ∀ k j, ¬ (k = h ∧ j = 1) → ¬ (h + 7 ≤ k ∧ k ≤ h + 8 ∧ j = nw) → t.1 k j = σ.1 k j) := by
  have i6 : inb (Int32.ofNat nw) 6 = true := inb_k hn (by omega)
  have nn : (Int32.ofNat nw).toNatClampNeg = nw := nz_nat (by omega)
  unfold fX0_addPerson
  rw [if_pos (show σ.1 h 1 < 6 by rw [h1, z_gt (by omega) (by omega)]; omega)]
  simp (disch := omega) only [ho_lte, ho_gdt, pI_nq, h1, i6, nn]
  refine ⟨by rw [pI_eq, nz_succ], ⟨?_, ?_⟩, fun k j h1 h2 => ?_⟩
  all_goals simp (disch := omega) only [pI_nq, pI_eq]
theorem addPerson_n {h nw : Nat} {a b : Int32} (hn : 6 ≤ nw) (hn2 : nw < 100) (h1 : σ.1 h 1 = Int32.ofNat nw) : fX0_addPerson N h a b σ = some ((), σ) := by
  unfold fX0_addPerson
  rw [if_neg (show ¬ σ.1 h 1 < 6 by rw [h1, z_gt (by omega) (by omega)]; omega)]
theorem addDeed_C {h k : Nat} {a b c : Int32} (hn : k < 40) (h0 : σ.1 h 0 = Int32.ofNat k) : Ho (fX8_add N h a b c σ) (fun _ t => t.1 h 0 = Int32.ofNat (k + 1) ∧ (t.1 (h + 1) k = a ∧ t.1 (h + 2) k = b ∧ t.1 (h + 3) k = c) ∧ ∀ q j, ¬ (q = h ∧ j = 0) → ¬ (h < q ∧ q < h + 4 ∧ j = k) → t.1 q j = σ.1 q j) := by
  have i6 : inb (Int32.ofNat k) 40 = true := inb_k hn (by omega)
  have nn : (Int32.ofNat k).toNatClampNeg = k := nz_nat (by omega)
  unfold fX8_add
  rw [if_pos (show σ.1 h 0 < 40 by rw [h0, z_gt (by omega) (by omega)]; omega)]
  simp (disch := omega) only [ho_lte, ho_gdt, pI_nq, h0, i6, nn]
  refine ⟨by rw [pI_eq, nz_succ], ⟨?_, ?_, ?_⟩, fun k j h1 h2 => ?_⟩
  all_goals simp (disch := omega) only [pI_nq, pI_eq]
theorem addDeed_n {h k : Nat} {a b c : Int32} (hn : 40 ≤ k) (hn2 : k < 100) (h0 : σ.1 h 0 = Int32.ofNat k) : fX8_add N h a b c σ = some ((), σ) := by
  unfold fX8_add
  rw [if_neg (show ¬ σ.1 h 0 < 40 by rw [h0, z_gt (by omega) (by omega)]; omega)]
theorem addFact_C {h k : Nat} {a b c d : Int32} (hn : k < 8) (h0 : σ.1 h 0 = Int32.ofNat k) : Ho (fX4_add N h a b c d σ) (fun _ t => t.1 h 0 = Int32.ofNat (k + 1) ∧ (t.1 (h + 1) k = a ∧ t.1 (h + 2) k = b ∧ t.1 (h + 3) k = c ∧ t.1 (h + 4) k = d) ∧ ∀ q j, ¬ (q = h ∧ j = 0) → ¬ (h < q ∧ q < h + 5 ∧ j = k) → t.1 q j = σ.1 q j) := by
  have i6 : inb (Int32.ofNat k) 8 = true := inb_k hn (by omega)
  have nn : (Int32.ofNat k).toNatClampNeg = k := nz_nat (by omega)
  unfold fX4_add
  rw [if_pos (show σ.1 h 0 < 8 by rw [h0, z_gt (by omega) (by omega)]; omega)]
  simp (disch := omega) only [ho_lte, ho_gdt, pI_nq, h0, i6, nn]
  refine ⟨by rw [pI_eq, nz_succ], ⟨?_, ?_, ?_, ?_⟩, fun k j h1 h2 => ?_⟩
  all_goals simp (disch := omega) only [pI_nq, pI_eq]
theorem addFact_n {h k : Nat} {a b c d : Int32} (hn : 8 ≤ k) (hn2 : k < 100) (h0 : σ.1 h 0 = Int32.ofNat k) : fX4_add N h a b c d σ = some ((), σ) := by
  unfold fX4_add
  rw [if_neg (show ¬ σ.1 h 0 < 8 by rw [h0, z_gt (by omega) (by omega)]; omega)]
/-- the reference's writes of a piece -/
def pcT (v2 v3 v4 v5 v6 v7 v8 : Int32) (s17 : Mem) : Option (Unit × Mem) := if v4 = 0 then some ((), s17) else gd (inb 0 121) (lt_ (3 + (6 * (s17.1 3 (0 : Int32).toNatClampNeg))) (fun v9_19 => gd (inb v9_19 121) (lt_ (pI s17 3 v9_19.toNatClampNeg v2) (fun s20 => gd (inb (v9_19 + 1) 121) (lt_ (pI s20 3 (v9_19 + 1).toNatClampNeg v3) (fun s21 => gd (inb (v9_19 + 2) 121) (lt_ (pI s21 3 (v9_19 + 2).toNatClampNeg v5) (fun s22 => gd (inb (v9_19 + 3) 121) (lt_ (pI s22 3 (v9_19 + 3).toNatClampNeg v6) (fun s23 => gd (inb (v9_19 + 4) 121) (lt_ (pI s23 3 (v9_19 + 4).toNatClampNeg v7) (fun s24 => gd (inb (v9_19 + 5) 121) (lt_ (pI s24 3 (v9_19 + 5).toNatClampNeg v8) (fun s25 => gd (inb 0 121) (gd (inb 0 121) (lt_ (pI s25 3 (0 : Int32).toNatClampNeg ((s25.1 3 (0 : Int32).toNatClampNeg) + 1)) (fun s26 => some ((), s26))))))))))))))))))
theorem b48_eq {v2 v3 v4 : Int32} : fX12_pieceLine_b48 N v2 v3 v4 σ = bd (fX12_numbered N 0 50 σ) (fun r7 s8 => bd (fX12_numbered N 1 99 s8) (fun r10 s11 => bd (fX12_numbered N 0 63 s11) (fun r13 s14 => bd (fX12_numbered N 1 9 s14) (fun r16 s17 => pcT v2 v3 v4 r7 r10 r13 r16 s17)))) := rfl
theorem pcT_0 {v2 v3 v5 v6 v7 v8 : Int32} : pcT v2 v3 0 v5 v6 v7 v8 σ = some ((), σ) := rfl
theorem pcT_M {np : Nat} {v2 v3 v5 v6 v7 v8 : Int32} (hn : np < 8) (h0 : σ.1 3 0 = Int32.ofNat np) : Ho (pcT v2 v3 1 v5 v6 v7 v8 σ) (fun _ t => t.1 3 0 = Int32.ofNat (np + 1) ∧ (t.1 3 (3 + 6 * np) = v2 ∧ t.1 3 (3 + 6 * np + 1) = v3 ∧ t.1 3 (3 + 6 * np + 2) = v5 ∧ t.1 3 (3 + 6 * np + 3) = v6 ∧ t.1 3 (3 + 6 * np + 4) = v7 ∧ t.1 3 (3 + 6 * np + 5) = v8) ∧ ∀ k j, ¬ (k = 3 ∧ (j = 0 ∨ (3 + 6 * np ≤ j ∧ j < 3 + 6 * np + 6))) → t.1 k j = σ.1 k j) := by
  have c0 : inb 0 121 = true := by decide
  have n0 : (0 : Int32).toNatClampNeg = 0 := rfl
  have v9 : 3 + 6 * Int32.ofNat np = Int32.ofNat (3 + 6 * np) := by rw [nz_3, nz_6, nz_mul, nz_add]
  have p1 : Int32.ofNat (3 + 6 * np) + 1 = Int32.ofNat (3 + 6 * np + 1) := nz_add
  have p2 : Int32.ofNat (3 + 6 * np) + 2 = Int32.ofNat (3 + 6 * np + 2) := nz_add
  have p3 : Int32.ofNat (3 + 6 * np) + 3 = Int32.ofNat (3 + 6 * np + 3) := nz_add
  have p4 : Int32.ofNat (3 + 6 * np) + 4 = Int32.ofNat (3 + 6 * np + 4) := nz_add
  have p5 : Int32.ofNat (3 + 6 * np) + 5 = Int32.ofNat (3 + 6 * np + 5) := nz_add
  unfold pcT
  rw [if_neg (show ¬ (1 : Int32) = 0 by decide)]
  simp only [ho_lte]
  rw [gdT c0, n0, h0, v9, p1, p2, p3, p4, p5]
  rw [gdT (inb_k (show 3 + 6 * np < 121 by omega) (by omega)), gdT (inb_k (show 3 + 6 * np + 1 < 121 by omega) (by omega)), gdT (inb_k (show 3 + 6 * np + 2 < 121 by omega) (by omega)), gdT (inb_k (show 3 + 6 * np + 3 < 121 by omega) (by omega)), gdT (inb_k (show 3 + 6 * np + 4 < 121 by omega) (by omega)), gdT (inb_k (show 3 + 6 * np + 5 < 121 by omega) (by omega))]
  rw [nz_nat (show 3 + 6 * np < 2147483648 by omega), nz_nat (show 3 + 6 * np + 1 < 2147483648 by omega), nz_nat (show 3 + 6 * np + 2 < 2147483648 by omega), nz_nat (show 3 + 6 * np + 3 < 2147483648 by omega), nz_nat (show 3 + 6 * np + 4 < 2147483648 by omega), nz_nat (show 3 + 6 * np + 5 < 2147483648 by omega)]
  rw [gdT c0, gdT c0, pI_nq (by omega), pI_nq (by omega), pI_nq (by omega), pI_nq (by omega), pI_nq (by omega), pI_nq (by omega), h0]
  refine ⟨by rw [pI_eq, nz_succ], ⟨?_, ?_, ?_, ?_, ?_, ?_⟩, fun k j h1 => ?_⟩
  all_goals simp (disch := omega) only [pI_nq, pI_eq]
theorem b77_0 {v4 v5 t0 : Int32} : fX12_personLine_b77 N 0 v4 v5 t0 σ = some ((), pI σ 0 9 t0) := rfl
theorem b77_M {nw : Nat} {v4 v5 t0 : Int32} (hn : nw < 6) (h1 : σ.1 3 1 = Int32.ofNat nw) : Ho (fX12_personLine_b77 N 1 v4 v5 t0 σ) (fun _ t => t.1 3 1 = Int32.ofNat (nw + 1) ∧ (t.1 3 (51 + 2 * nw) = v4 ∧ t.1 3 (51 + 2 * nw + 1) = v5 ∧ t.1 0 9 = t0) ∧ ∀ k j, ¬ (k = 0 ∧ j = 9) → ¬ (k = 3 ∧ (j = 1 ∨ (51 + 2 * nw ≤ j ∧ j < 51 + 2 * nw + 2))) → t.1 k j = σ.1 k j) := by
  have c0 : inb 1 121 = true := by decide
  have n0 : (1 : Int32).toNatClampNeg = 1 := rfl
  have v9 : 51 + 2 * Int32.ofNat nw = Int32.ofNat (51 + 2 * nw) := by rw [nz_51, nz_2, nz_mul, nz_add]
  have p1 : Int32.ofNat (51 + 2 * nw) + 1 = Int32.ofNat (51 + 2 * nw + 1) := nz_add
  unfold fX12_personLine_b77
  simp only [ho_lte]
  have e1 : (pI σ 0 9 t0).1 3 1 = Int32.ofNat nw := by rw [pI_nq (by omega)]; exact h1
  rw [if_neg (show ¬ (1 : Int32) = 0 by decide), gdT c0, n0, e1, v9, gdT (inb_k (show 51 + 2 * nw < 121 by omega) (by omega)), nz_nat (show 51 + 2 * nw < 2147483648 by omega)]
  have e2 : (pI (pI σ 0 9 t0) 3 (51 + 2 * nw) v4).1 3 1 = Int32.ofNat nw := by rw [pI_nq (by omega)]; exact e1
  rw [gdT c0, e2, v9, p1, gdT (inb_k (show 51 + 2 * nw + 1 < 121 by omega) (by omega)), nz_nat (show 51 + 2 * nw + 1 < 2147483648 by omega), gdT c0, gdT c0, pI_nq (by omega), e2]
  refine ⟨by rw [pI_eq, nz_succ], ⟨?_, ?_, ?_⟩, fun k j h1 h2 => ?_⟩
  all_goals simp (disch := omega) only [pI_nq, pI_eq]
/-- the reference's writes of a deed -/
def seT (v2 v3 v4 : Int32) (σ : Mem) : Option (Unit × Mem) := gd (inb 0 121) (if 40 ≤ (σ.1 3 (0 : Int32).toNatClampNeg) then some ((), σ) else gd (inb 0 121) (lt_ (1 + (3 * (σ.1 3 (0 : Int32).toNatClampNeg))) (fun v5_13 => gd (inb v5_13 121) (lt_ (pI σ 3 v5_13.toNatClampNeg v2) (fun s14 => gd (inb (v5_13 + 1) 121) (lt_ (pI s14 3 (v5_13 + 1).toNatClampNeg v3) (fun s15 => gd (inb (v5_13 + 2) 121) (lt_ (pI s15 3 (v5_13 + 2).toNatClampNeg v4) (fun s16 => gd (inb 0 121) (gd (inb 0 121) (lt_ (pI s16 3 (0 : Int32).toNatClampNeg ((s16.1 3 (0 : Int32).toNatClampNeg) + 1)) (fun s17 => some ((), s17)))))))))))))
theorem bd_gd {α β : Type} {b : Bool} {κ : Option (α × Mem)} {f : α → Mem → Option (β × Mem)} : bd (gd b κ) f = gd b (bd κ f) := by cases b <;> rfl
theorem bd_ite {α β : Type} {c : Prop} [Decidable c] {x y : Option (α × Mem)} {f : α → Mem → Option (β × Mem)} : bd (if c then x else y) f = if c then bd x f else bd y f := by
  by_cases h : c
  · rw [if_pos h, if_pos h]
  · rw [if_neg h, if_neg h]
theorem b97_eq {v2 v3 v4 : Int32} : fX12_sessionLine_b97 N v2 v3 v4 σ = bd (seT v2 v3 v4 σ) (fun _ s => fX12_endsLine N s) := by
  unfold fX12_sessionLine_b97 seT fX12_sessionLine_b161
  simp only [ho_lte, bd_gd, bd_ite, ho_bds, bd_unit]
theorem seT_M {k : Nat} {v2 v3 v4 : Int32} (hn : k < 40) (h0 : σ.1 3 0 = Int32.ofNat k) : Ho (seT v2 v3 v4 σ) (fun _ t => t.1 3 0 = Int32.ofNat (k + 1) ∧ (t.1 3 (1 + 3 * k) = v2 ∧ t.1 3 (1 + 3 * k + 1) = v3 ∧ t.1 3 (1 + 3 * k + 2) = v4) ∧ ∀ q j, ¬ (q = 3 ∧ (j = 0 ∨ (1 + 3 * k ≤ j ∧ j < 1 + 3 * k + 3))) → t.1 q j = σ.1 q j) := by
  have c0 : inb 0 121 = true := by decide
  have n0 : (0 : Int32).toNatClampNeg = 0 := rfl
  have v9 : 1 + 3 * Int32.ofNat k = Int32.ofNat (1 + 3 * k) := by rw [nz_3, nz_1, nz_mul, nz_add]
  have p1 : Int32.ofNat (1 + 3 * k) + 1 = Int32.ofNat (1 + 3 * k + 1) := nz_add
  have p2 : Int32.ofNat (1 + 3 * k) + 2 = Int32.ofNat (1 + 3 * k + 2) := nz_add
  unfold seT
  rw [gdT c0, n0, h0, if_neg (show ¬ (40 : Int32) ≤ Int32.ofNat k by rw [z_le (by omega) (by omega)]; omega)]
  simp only [ho_lte]
  rw [gdT c0, v9, p1, p2]
  rw [gdT (inb_k (show 1 + 3 * k < 121 by omega) (by omega)), gdT (inb_k (show 1 + 3 * k + 1 < 121 by omega) (by omega)), gdT (inb_k (show 1 + 3 * k + 2 < 121 by omega) (by omega))]
  rw [nz_nat (show 1 + 3 * k < 2147483648 by omega), nz_nat (show 1 + 3 * k + 1 < 2147483648 by omega), nz_nat (show 1 + 3 * k + 2 < 2147483648 by omega)]
  rw [gdT c0, gdT c0, pI_nq (by omega), pI_nq (by omega), pI_nq (by omega), h0]
  refine ⟨by rw [pI_eq, nz_succ], ⟨?_, ?_, ?_⟩, fun k j h1 => ?_⟩
  all_goals simp (disch := omega) only [pI_nq, pI_eq]
theorem seT_n {k : Nat} {v2 v3 v4 : Int32} (hn : 40 ≤ k) (hn2 : k < 100) (h0 : σ.1 3 0 = Int32.ofNat k) : seT v2 v3 v4 σ = some ((), σ) := by
  unfold seT
  rw [gdT (by decide), show (0 : Int32).toNatClampNeg = 0 from rfl, h0, if_pos (show (40 : Int32) ≤ Int32.ofNat k by rw [z_le (by omega) (by omega)]; omega)]
/-- the reference's writes of a fact -/
def loT (v2 v3 v4 v5 : Int32) (σ : Mem) : Option (Unit × Mem) := gd (inb 0 121) (if 8 ≤ (σ.1 3 (0 : Int32).toNatClampNeg) then some ((), σ) else gd (inb 0 121) (lt_ (1 + (4 * (σ.1 3 (0 : Int32).toNatClampNeg))) (fun v6_16 => gd (inb v6_16 121) (lt_ (pI σ 3 v6_16.toNatClampNeg v2) (fun s17 => gd (inb (v6_16 + 1) 121) (lt_ (pI s17 3 (v6_16 + 1).toNatClampNeg v3) (fun s18 => gd (inb (v6_16 + 2) 121) (lt_ (pI s18 3 (v6_16 + 2).toNatClampNeg v4) (fun s19 => gd (inb (v6_16 + 3) 121) (lt_ (pI s19 3 (v6_16 + 3).toNatClampNeg v5) (fun s20 => gd (inb 0 121) (gd (inb 0 121) (lt_ (pI s20 3 (0 : Int32).toNatClampNeg ((s20.1 3 (0 : Int32).toNatClampNeg) + 1)) (fun s21 => some ((), s21)))))))))))))))
theorem b41_eq {v2 : Int32} : fX12_logLine_b41 N v2 σ = bd (fX12_numbered N 0 60 σ) (fun r7 s8 => bd (fX12_numbered N 0 9 s8) (fun r10 s11 => bd (fX12_numbered N 0 6 s11) (fun r13 s14 => bd (loT v2 r7 r10 r13 s14) (fun _ s => fX12_endsLine N s)))) := by
  unfold fX12_logLine_b41 loT fX12_logLine_b140
  simp only [ho_lte, bd_gd, bd_ite, ho_bds, bd_unit]
theorem loT_M {k : Nat} {v2 v3 v4 v5 : Int32} (hn : k < 8) (h0 : σ.1 3 0 = Int32.ofNat k) : Ho (loT v2 v3 v4 v5 σ) (fun _ t => t.1 3 0 = Int32.ofNat (k + 1) ∧ (t.1 3 (1 + 4 * k) = v2 ∧ t.1 3 (1 + 4 * k + 1) = v3 ∧ t.1 3 (1 + 4 * k + 2) = v4 ∧ t.1 3 (1 + 4 * k + 3) = v5) ∧ ∀ q j, ¬ (q = 3 ∧ (j = 0 ∨ (1 + 4 * k ≤ j ∧ j < 1 + 4 * k + 4))) → t.1 q j = σ.1 q j) := by
  have c0 : inb 0 121 = true := by decide
  have n0 : (0 : Int32).toNatClampNeg = 0 := rfl
  have v9 : 1 + 4 * Int32.ofNat k = Int32.ofNat (1 + 4 * k) := by rw [nz_4, nz_1, nz_mul, nz_add]
  have p1 : Int32.ofNat (1 + 4 * k) + 1 = Int32.ofNat (1 + 4 * k + 1) := nz_add
  have p2 : Int32.ofNat (1 + 4 * k) + 2 = Int32.ofNat (1 + 4 * k + 2) := nz_add
  have p3 : Int32.ofNat (1 + 4 * k) + 3 = Int32.ofNat (1 + 4 * k + 3) := nz_add
  unfold loT
  rw [gdT c0, n0, h0, if_neg (show ¬ (8 : Int32) ≤ Int32.ofNat k by rw [z_le (by omega) (by omega)]; omega)]
  simp only [ho_lte]
  rw [gdT c0, v9, p1, p2, p3]
  rw [gdT (inb_k (show 1 + 4 * k < 121 by omega) (by omega)), gdT (inb_k (show 1 + 4 * k + 1 < 121 by omega) (by omega)), gdT (inb_k (show 1 + 4 * k + 2 < 121 by omega) (by omega)), gdT (inb_k (show 1 + 4 * k + 3 < 121 by omega) (by omega))]
  rw [nz_nat (show 1 + 4 * k < 2147483648 by omega), nz_nat (show 1 + 4 * k + 1 < 2147483648 by omega), nz_nat (show 1 + 4 * k + 2 < 2147483648 by omega), nz_nat (show 1 + 4 * k + 3 < 2147483648 by omega)]
  rw [gdT c0, gdT c0, pI_nq (by omega), pI_nq (by omega), pI_nq (by omega), pI_nq (by omega), h0]
  refine ⟨by rw [pI_eq, nz_succ], ⟨?_, ?_, ?_, ?_⟩, fun k j h1 => ?_⟩
  all_goals simp (disch := omega) only [pI_nq, pI_eq]
theorem loT_n {k : Nat} {v2 v3 v4 v5 : Int32} (hn : 8 ≤ k) (hn2 : k < 100) (h0 : σ.1 3 0 = Int32.ofNat k) : loT v2 v3 v4 v5 σ = some ((), σ) := by
  unfold loT
  rw [gdT (by decide), show (0 : Int32).toNatClampNeg = 0 from rfl, h0, if_pos (show (8 : Int32) ≤ Int32.ofNat k by rw [z_le (by omega) (by omega)]; omega)]
end ADDS
