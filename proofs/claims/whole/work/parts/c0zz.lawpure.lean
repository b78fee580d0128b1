/-! The law, purely. -/
theorem h2_go {α : Type} {κ1 κ2 : Option (α × Mem)} (h : H2 κ1 κ2 QR) : ∃ r s1 s2, κ1 = some (r, s1) ∧ κ2 = some (r, s2) ∧ RR s1 s2 := by
  obtain ⟨r1, s1, e1, h1⟩ := ho_ex h
  obtain ⟨r2, s2, e2, h2, h3⟩ := ho_ex h1
  subst h2
  exact ⟨r1, s1, s2, e1, e2, h3⟩
theorem lgc_self {r : Int64} : lg_cmp r r = 0 := (lg_cmp_eq (x := r) (y := r)).mpr rfl
theorem lp_c0 {N Ln : Nat} {xs : Nat → Int32} {rc : Int32 → Mem → Mem → Option Int32} {v3 : Int32} {σ1 σ2 : Mem} (hN : 10000 ≤ N) (R : RR σ1 σ2) (i1 : inb (v3 + 1) Ln = true) (i2 : inb (v3 + 2) Ln = true) (i3 : inb (v3 + 3) Ln = true) (i4 : inb (v3 + 4) Ln = true) (i5 : inb (v3 + 5) Ln = true) (hrc : ∀ s1 s2, RR s1 s2 → rc v3 s1 s2 = some 1) : lw_c0 N xs Ln rc v3 σ1 σ2 = some 1 := by
  obtain ⟨r, s1, s2, e1, e2, R2⟩ := h2_go (t_feed (N := N) hN R (xs (v3 + 1).toNatClampNeg) (xs (v3 + 2).toNatClampNeg) (xs (v3 + 3).toNatClampNeg) (xs (v3 + 4).toNatClampNeg) (xs (v3 + 5).toNatClampNeg))
  unfold lw_c0
  simp only [gdT i1, gdT i2, gdT i3, gdT i4, gdT i5, e1, e2, ho_bds, lgc_self, if_true]
  exact hrc _ _ R2
theorem lp_c1 {N Ln : Nat} {xs : Nat → Int32} {rc : Int32 → Mem → Mem → Option Int32} {v3 : Int32} {σ1 σ2 : Mem} (hN : 10000 ≤ N) (R : RR σ1 σ2) (i1 : inb (v3 + 1) Ln = true) (i2 : inb (v3 + 2) Ln = true) (i3 : inb (v3 + 3) Ln = true) (i4 : inb (v3 + 4) Ln = true) (i5 : inb (v3 + 5) Ln = true) (hrc : ∀ s1 s2, RR s1 s2 → rc v3 s1 s2 = some 1) : lw_c1 N xs Ln rc v3 σ1 σ2 = some 1 := by
  obtain ⟨r, s1, s2, e1, e2, R2⟩ := h2_go (t_end (N := N) R (xs (v3 + 1).toNatClampNeg))
  unfold lw_c1
  simp only [gdT i1, e1, e2, ho_bds, lgc_self, if_true]
  exact hrc _ _ R2
theorem lp_c2 {N Ln : Nat} {xs : Nat → Int32} {rc : Int32 → Mem → Mem → Option Int32} {v3 : Int32} {σ1 σ2 : Mem} (hN : 10000 ≤ N) (R : RR σ1 σ2) (i1 : inb (v3 + 1) Ln = true) (i2 : inb (v3 + 2) Ln = true) (i3 : inb (v3 + 3) Ln = true) (i4 : inb (v3 + 4) Ln = true) (i5 : inb (v3 + 5) Ln = true) (hrc : ∀ s1 s2, RR s1 s2 → rc v3 s1 s2 = some 1) : lw_c2 N xs Ln rc v3 σ1 σ2 = some 1 := by
  obtain ⟨r, s1, s2, e1, e2, R2⟩ := h2_go (t_text (N := N) hN R (xs (v3 + 1).toNatClampNeg) (xs (v3 + 2).toNatClampNeg))
  unfold lw_c2
  simp only [gdT i1, gdT i2, e1, e2, ho_bds, lgc_self, if_true]
  exact hrc _ _ R2
theorem lp_c3 {N Ln : Nat} {xs : Nat → Int32} {rc : Int32 → Mem → Mem → Option Int32} {v3 : Int32} {σ1 σ2 : Mem} (hN : 10000 ≤ N) (R : RR σ1 σ2) (i1 : inb (v3 + 1) Ln = true) (i2 : inb (v3 + 2) Ln = true) (i3 : inb (v3 + 3) Ln = true) (i4 : inb (v3 + 4) Ln = true) (i5 : inb (v3 + 5) Ln = true) (hrc : ∀ s1 s2, RR s1 s2 → rc v3 s1 s2 = some 1) : lw_c3 N xs Ln rc v3 σ1 σ2 = some 1 := by
  obtain ⟨r, s1, s2, e1, e2, R2⟩ := h2_go (QU.qr R (t_fault (N := N) R (xs (v3 + 1).toNatClampNeg)))
  unfold lw_c3
  simp only [gdT i1, e1, e2, ho_bds, lgc_self, if_true]
  exact hrc _ _ R2
theorem lp_c4 {N Ln : Nat} {xs : Nat → Int32} {rc : Int32 → Mem → Mem → Option Int32} {v3 : Int32} {σ1 σ2 : Mem} (hN : 10000 ≤ N) (R : RR σ1 σ2) (i1 : inb (v3 + 1) Ln = true) (i2 : inb (v3 + 2) Ln = true) (i3 : inb (v3 + 3) Ln = true) (i4 : inb (v3 + 4) Ln = true) (i5 : inb (v3 + 5) Ln = true) (hrc : ∀ s1 s2, RR s1 s2 → rc v3 s1 s2 = some 1) : lw_c4 N xs Ln rc v3 σ1 σ2 = some 1 := by
  obtain ⟨r, s1, s2, e1, e2, R2⟩ := h2_go (QU.qr R (t_chamber (N := N) hN R (xs (v3 + 1).toNatClampNeg) (xs (v3 + 2).toNatClampNeg)))
  unfold lw_c4
  simp only [gdT i1, gdT i2, e1, e2, ho_bds, lgc_self, if_true]
  exact hrc _ _ R2
theorem lp_c5 {N Ln : Nat} {xs : Nat → Int32} {rc : Int32 → Mem → Mem → Option Int32} {v3 : Int32} {σ1 σ2 : Mem} (hN : 10000 ≤ N) (R : RR σ1 σ2) (i1 : inb (v3 + 1) Ln = true) (i2 : inb (v3 + 2) Ln = true) (i3 : inb (v3 + 3) Ln = true) (i4 : inb (v3 + 4) Ln = true) (i5 : inb (v3 + 5) Ln = true) (hrc : ∀ s1 s2, RR s1 s2 → rc v3 s1 s2 = some 1) : lw_c5 N xs Ln rc v3 σ1 σ2 = some 1 := by
  obtain ⟨r, s1, s2, e1, e2, R2⟩ := h2_go (QU.qr R (t_answer (N := N) hN R (xs (v3 + 1).toNatClampNeg) (xs (v3 + 2).toNatClampNeg) (xs (v3 + 3).toNatClampNeg)))
  unfold lw_c5
  simp only [gdT i1, gdT i2, gdT i3, e1, e2, ho_bds, lgc_self, if_true]
  exact hrc _ _ R2
theorem lp_c6 {N Ln : Nat} {xs : Nat → Int32} {rc : Int32 → Mem → Mem → Option Int32} {v3 : Int32} {σ1 σ2 : Mem} (hN : 10000 ≤ N) (R : RR σ1 σ2) (i1 : inb (v3 + 1) Ln = true) (i2 : inb (v3 + 2) Ln = true) (i3 : inb (v3 + 3) Ln = true) (i4 : inb (v3 + 4) Ln = true) (i5 : inb (v3 + 5) Ln = true) (hrc : ∀ s1 s2, RR s1 s2 → rc v3 s1 s2 = some 1) : lw_c6 N xs Ln rc v3 σ1 σ2 = some 1 := by
  obtain ⟨r, s1, s2, e1, e2, R2⟩ := h2_go (QU.qr R (t_deed (N := N) hN R (xs (v3 + 1).toNatClampNeg) (xs (v3 + 2).toNatClampNeg) (xs (v3 + 3).toNatClampNeg)))
  unfold lw_c6
  simp only [gdT i1, gdT i2, gdT i3, e1, e2, ho_bds, lgc_self, if_true]
  exact hrc _ _ R2
theorem lp_c7 {N Ln : Nat} {xs : Nat → Int32} {rc : Int32 → Mem → Mem → Option Int32} {v3 : Int32} {σ1 σ2 : Mem} (hN : 10000 ≤ N) (R : RR σ1 σ2) (i1 : inb (v3 + 1) Ln = true) (i2 : inb (v3 + 2) Ln = true) (i3 : inb (v3 + 3) Ln = true) (i4 : inb (v3 + 4) Ln = true) (i5 : inb (v3 + 5) Ln = true) (hrc : ∀ s1 s2, RR s1 s2 → rc v3 s1 s2 = some 1) : lw_c7 N xs Ln rc v3 σ1 σ2 = some 1 := by
  obtain ⟨r, s1, s2, e1, e2, R2⟩ := h2_go (QU.qr R (t_stop (N := N) hN R (xs (v3 + 1).toNatClampNeg) (xs (v3 + 2).toNatClampNeg)))
  unfold lw_c7
  simp only [gdT i1, gdT i2, e1, e2, ho_bds, lgc_self, if_true]
  exact hrc _ _ R2
theorem lp_c8 {N Ln : Nat} {xs : Nat → Int32} {rc : Int32 → Mem → Mem → Option Int32} {v3 : Int32} {σ1 σ2 : Mem} (hN : 10000 ≤ N) (R : RR σ1 σ2) (i1 : inb (v3 + 1) Ln = true) (i2 : inb (v3 + 2) Ln = true) (i3 : inb (v3 + 3) Ln = true) (i4 : inb (v3 + 4) Ln = true) (i5 : inb (v3 + 5) Ln = true) (hrc : ∀ s1 s2, RR s1 s2 → rc v3 s1 s2 = some 1) : lw_c8 N xs Ln rc v3 σ1 σ2 = some 1 := by
  obtain ⟨r, s1, s2, e1, e2, R2⟩ := h2_go (QU.qr R (t_state (N := N) hN R (xs (v3 + 1).toNatClampNeg) (xs (v3 + 2).toNatClampNeg) (xs (v3 + 3).toNatClampNeg) (xs (v3 + 4).toNatClampNeg)))
  unfold lw_c8
  simp only [gdT i1, gdT i2, gdT i3, gdT i4, e1, e2, ho_bds, lgc_self, if_true]
  exact hrc _ _ R2
theorem lp_c9 {N Ln : Nat} {xs : Nat → Int32} {rc : Int32 → Mem → Mem → Option Int32} {v3 : Int32} {σ1 σ2 : Mem} (hN : 10000 ≤ N) (R : RR σ1 σ2) (i1 : inb (v3 + 1) Ln = true) (i2 : inb (v3 + 2) Ln = true) (i3 : inb (v3 + 3) Ln = true) (i4 : inb (v3 + 4) Ln = true) (i5 : inb (v3 + 5) Ln = true) (hrc : ∀ s1 s2, RR s1 s2 → rc v3 s1 s2 = some 1) : lw_c9 N xs Ln rc v3 σ1 σ2 = some 1 := by
  obtain ⟨r, s1, s2, e1, e2, R2⟩ := h2_go (QU.qr R (t_carried (N := N) hN R (xs (v3 + 1).toNatClampNeg) (xs (v3 + 2).toNatClampNeg)))
  unfold lw_c9
  simp only [gdT i1, gdT i2, e1, e2, ho_bds, lgc_self, if_true]
  exact hrc _ _ R2
theorem lp_c10 {N Ln : Nat} {xs : Nat → Int32} {rc : Int32 → Mem → Mem → Option Int32} {v3 : Int32} {σ1 σ2 : Mem} (hN : 10000 ≤ N) (R : RR σ1 σ2) (i1 : inb (v3 + 1) Ln = true) (i2 : inb (v3 + 2) Ln = true) (i3 : inb (v3 + 3) Ln = true) (i4 : inb (v3 + 4) Ln = true) (i5 : inb (v3 + 5) Ln = true) (hrc : ∀ s1 s2, RR s1 s2 → rc v3 s1 s2 = some 1) : lw_c10 N xs Ln rc v3 σ1 σ2 = some 1 := by
  obtain ⟨r, s1, s2, e1, e2, R2⟩ := h2_go (QU.qr R (t_moves (N := N) hN R (xs (v3 + 1).toNatClampNeg) (xs (v3 + 2).toNatClampNeg) (xs (v3 + 3).toNatClampNeg)))
  unfold lw_c10
  simp only [gdT i1, gdT i2, gdT i3, e1, e2, ho_bds, lgc_self, if_true]
  exact hrc _ _ R2
theorem lp_c11 {N Ln : Nat} {xs : Nat → Int32} {rc : Int32 → Mem → Mem → Option Int32} {v3 : Int32} {σ1 σ2 : Mem} (hN : 10000 ≤ N) (R : RR σ1 σ2) (i1 : inb (v3 + 1) Ln = true) (i2 : inb (v3 + 2) Ln = true) (i3 : inb (v3 + 3) Ln = true) (i4 : inb (v3 + 4) Ln = true) (i5 : inb (v3 + 5) Ln = true) (hrc : ∀ s1 s2, RR s1 s2 → rc v3 s1 s2 = some 1) : lw_c11 N xs Ln rc v3 σ1 σ2 = some 1 := by
  by_cases hb : xs (v3 + 3).toNatClampNeg = 0
  · skip
    obtain ⟨r, s1, s2, e1, e2, R2⟩ := h2_go (QU.qr R (t_waxed (N := N) hN R (xs (v3 + 1).toNatClampNeg) (xs (v3 + 2).toNatClampNeg) 0 (xs (v3 + 4).toNatClampNeg)))
    unfold lw_c11
    simp only [gdT i1, gdT i2, gdT i3, gdT i4, if_pos hb, e1, e2, ho_bds, lgc_self, if_true]
    exact hrc _ _ R2
  · skip
    obtain ⟨r, s1, s2, e1, e2, R2⟩ := h2_go (QU.qr R (t_waxed (N := N) hN R (xs (v3 + 1).toNatClampNeg) (xs (v3 + 2).toNatClampNeg) 1 (xs (v3 + 4).toNatClampNeg)))
    unfold lw_c11
    simp only [gdT i1, gdT i2, gdT i3, gdT i4, if_neg hb, e1, e2, ho_bds, lgc_self, if_true]
    exact hrc _ _ R2
theorem lp_c12 {N Ln : Nat} {xs : Nat → Int32} {rc : Int32 → Mem → Mem → Option Int32} {v3 : Int32} {σ1 σ2 : Mem} (hN : 10000 ≤ N) (R : RR σ1 σ2) (i1 : inb (v3 + 1) Ln = true) (i2 : inb (v3 + 2) Ln = true) (i3 : inb (v3 + 3) Ln = true) (i4 : inb (v3 + 4) Ln = true) (i5 : inb (v3 + 5) Ln = true) (hrc : ∀ s1 s2, RR s1 s2 → rc v3 s1 s2 = some 1) : lw_c12 N xs Ln rc v3 σ1 σ2 = some 1 := by
  obtain ⟨r, s1, s2, e1, e2, R2⟩ := h2_go (QU.qr R (t_turn (N := N) hN R (xs (v3 + 1).toNatClampNeg) (xs (v3 + 2).toNatClampNeg)))
  unfold lw_c12
  simp only [gdT i1, gdT i2, e1, e2, ho_bds, lgc_self, if_true]
  exact hrc _ _ R2
theorem lp_c13 {N Ln : Nat} {xs : Nat → Int32} {rc : Int32 → Mem → Mem → Option Int32} {v3 : Int32} {σ1 σ2 : Mem} (hN : 10000 ≤ N) (R : RR σ1 σ2) (i1 : inb (v3 + 1) Ln = true) (i2 : inb (v3 + 2) Ln = true) (i3 : inb (v3 + 3) Ln = true) (i4 : inb (v3 + 4) Ln = true) (i5 : inb (v3 + 5) Ln = true) (hrc : ∀ s1 s2, RR s1 s2 → rc v3 s1 s2 = some 1) : lw_c13 N xs Ln rc v3 σ1 σ2 = some 1 := by
  obtain ⟨r, s1, s2, e1, e2, R2⟩ := h2_go (QU.qr R (t_nearest (N := N) hN R (xs (v3 + 1).toNatClampNeg) (xs (v3 + 2).toNatClampNeg)))
  unfold lw_c13
  simp only [gdT i1, gdT i2, e1, e2, ho_bds, lgc_self, if_true]
  exact hrc _ _ R2
theorem lp_c14 {N Ln : Nat} {xs : Nat → Int32} {rc : Int32 → Mem → Mem → Option Int32} {v3 : Int32} {σ1 σ2 : Mem} (hN : 10000 ≤ N) (R : RR σ1 σ2) (i1 : inb (v3 + 1) Ln = true) (i2 : inb (v3 + 2) Ln = true) (i3 : inb (v3 + 3) Ln = true) (i4 : inb (v3 + 4) Ln = true) (i5 : inb (v3 + 5) Ln = true) (hrc : ∀ s1 s2, RR s1 s2 → rc v3 s1 s2 = some 1) : lw_c14 N xs Ln rc v3 σ1 σ2 = some 1 := by
  by_cases hb : xs (v3 + 4).toNatClampNeg = 0
  · skip
    obtain ⟨r, s1, s2, e1, e2, R2⟩ := h2_go (QU.qr R (t_lobby (N := N) hN R (xs (v3 + 1).toNatClampNeg) (xs (v3 + 2).toNatClampNeg) (xs (v3 + 3).toNatClampNeg) 0))
    unfold lw_c14
    simp only [gdT i1, gdT i2, gdT i3, gdT i4, if_pos hb, e1, e2, ho_bds, lgc_self, if_true]
    exact hrc _ _ R2
  · skip
    obtain ⟨r, s1, s2, e1, e2, R2⟩ := h2_go (QU.qr R (t_lobby (N := N) hN R (xs (v3 + 1).toNatClampNeg) (xs (v3 + 2).toNatClampNeg) (xs (v3 + 3).toNatClampNeg) 1))
    unfold lw_c14
    simp only [gdT i1, gdT i2, gdT i3, gdT i4, if_neg hb, e1, e2, ho_bds, lgc_self, if_true]
    exact hrc _ _ R2
theorem lp_c15 {N Ln : Nat} {xs : Nat → Int32} {rc : Int32 → Mem → Mem → Option Int32} {v3 : Int32} {σ1 σ2 : Mem} (hN : 10000 ≤ N) (R : RR σ1 σ2) (i1 : inb (v3 + 1) Ln = true) (i2 : inb (v3 + 2) Ln = true) (i3 : inb (v3 + 3) Ln = true) (i4 : inb (v3 + 4) Ln = true) (i5 : inb (v3 + 5) Ln = true) (hrc : ∀ s1 s2, RR s1 s2 → rc v3 s1 s2 = some 1) : lw_c15 N xs Ln rc v3 σ1 σ2 = some 1 := by
  obtain ⟨r, s1, s2, e1, e2, R2⟩ := h2_go (QU.qr R (t_power (N := N) hN R (xs (v3 + 1).toNatClampNeg) (xs (v3 + 2).toNatClampNeg)))
  unfold lw_c15
  simp only [gdT i1, gdT i2, e1, e2, ho_bds, lgc_self, if_true]
  exact hrc _ _ R2
theorem lp_c16 {N Ln : Nat} {xs : Nat → Int32} {rc : Int32 → Mem → Mem → Option Int32} {v3 : Int32} {σ1 σ2 : Mem} (hN : 10000 ≤ N) (R : RR σ1 σ2) (i1 : inb (v3 + 1) Ln = true) (i2 : inb (v3 + 2) Ln = true) (i3 : inb (v3 + 3) Ln = true) (i4 : inb (v3 + 4) Ln = true) (i5 : inb (v3 + 5) Ln = true) (hrc : ∀ s1 s2, RR s1 s2 → rc v3 s1 s2 = some 1) : lw_c16 N xs Ln rc v3 σ1 σ2 = some 1 := by
  by_cases hb : xs (v3 + 5).toNatClampNeg = 0
  · skip
    obtain ⟨r, s1, s2, e1, e2, R2⟩ := h2_go (QU.qr R (t_weather (N := N) hN R (xs (v3 + 1).toNatClampNeg) (xs (v3 + 2).toNatClampNeg) (xs (v3 + 3).toNatClampNeg) (xs (v3 + 4).toNatClampNeg) 0))
    unfold lw_c16
    simp only [gdT i1, gdT i2, gdT i3, gdT i4, gdT i5, if_pos hb, e1, e2, ho_bds, lgc_self, if_true]
    exact hrc _ _ R2
  · skip
    obtain ⟨r, s1, s2, e1, e2, R2⟩ := h2_go (QU.qr R (t_weather (N := N) hN R (xs (v3 + 1).toNatClampNeg) (xs (v3 + 2).toNatClampNeg) (xs (v3 + 3).toNatClampNeg) (xs (v3 + 4).toNatClampNeg) 1))
    unfold lw_c16
    simp only [gdT i1, gdT i2, gdT i3, gdT i4, gdT i5, if_neg hb, e1, e2, ho_bds, lgc_self, if_true]
    exact hrc _ _ R2
theorem lp_c17 {N Ln : Nat} {xs : Nat → Int32} {rc : Int32 → Mem → Mem → Option Int32} {v3 : Int32} {σ1 σ2 : Mem} (hN : 10000 ≤ N) (R : RR σ1 σ2) (i1 : inb (v3 + 1) Ln = true) (i2 : inb (v3 + 2) Ln = true) (i3 : inb (v3 + 3) Ln = true) (i4 : inb (v3 + 4) Ln = true) (i5 : inb (v3 + 5) Ln = true) (hrc : ∀ s1 s2, RR s1 s2 → rc v3 s1 s2 = some 1) : lw_c17 N xs Ln rc v3 σ1 σ2 = some 1 := by
  obtain ⟨r, s1, s2, e1, e2, R2⟩ := h2_go (QU.qr R (t_fact (N := N) hN R (xs (v3 + 1).toNatClampNeg) (xs (v3 + 2).toNatClampNeg) (xs (v3 + 3).toNatClampNeg)))
  unfold lw_c17
  simp only [gdT i1, gdT i2, gdT i3, e1, e2, ho_bds, lgc_self, if_true]
  exact hrc _ _ R2
theorem lp_c18 {N Ln : Nat} {xs : Nat → Int32} {rc : Int32 → Mem → Mem → Option Int32} {v3 : Int32} {σ1 σ2 : Mem} (hN : 10000 ≤ N) (R : RR σ1 σ2) (i1 : inb (v3 + 1) Ln = true) (i2 : inb (v3 + 2) Ln = true) (i3 : inb (v3 + 3) Ln = true) (i4 : inb (v3 + 4) Ln = true) (i5 : inb (v3 + 5) Ln = true) (hrc : ∀ s1 s2, RR s1 s2 → rc v3 s1 s2 = some 1) : lw_c18 N xs Ln rc v3 σ1 σ2 = some 1 := by
  obtain ⟨r, s1, s2, e1, e2, R2⟩ := h2_go (QU.qr R (t_fits (N := N) hN R (xs (v3 + 1).toNatClampNeg) (xs (v3 + 2).toNatClampNeg)))
  unfold lw_c18
  simp only [gdT i1, gdT i2, e1, e2, ho_bds, lgc_self, if_true]
  exact hrc _ _ R2
theorem lp_c19 {N Ln : Nat} {xs : Nat → Int32} {rc : Int32 → Mem → Mem → Option Int32} {v3 : Int32} {σ1 σ2 : Mem} (hN : 10000 ≤ N) (R : RR σ1 σ2) (i1 : inb (v3 + 1) Ln = true) (i2 : inb (v3 + 2) Ln = true) (i3 : inb (v3 + 3) Ln = true) (i4 : inb (v3 + 4) Ln = true) (i5 : inb (v3 + 5) Ln = true) (hrc : ∀ s1 s2, RR s1 s2 → rc v3 s1 s2 = some 1) : lw_c19 N xs Ln rc v3 σ1 σ2 = some 1 := by
  obtain ⟨r, s1, s2, e1, e2, R2⟩ := h2_go (QU.qr R (t_ask (N := N) hN R (xs (v3 + 1).toNatClampNeg) (xs (v3 + 2).toNatClampNeg)))
  unfold lw_c19
  simp only [gdT i1, gdT i2, e1, e2, ho_bds, lgc_self, if_true]
  exact hrc _ _ R2
theorem lp_c20 {N Ln : Nat} {xs : Nat → Int32} {rc : Int32 → Mem → Mem → Option Int32} {v3 : Int32} {σ1 σ2 : Mem} (hN : 10000 ≤ N) (R : RR σ1 σ2) (i1 : inb (v3 + 1) Ln = true) (i2 : inb (v3 + 2) Ln = true) (i3 : inb (v3 + 3) Ln = true) (i4 : inb (v3 + 4) Ln = true) (i5 : inb (v3 + 5) Ln = true) (hrc : ∀ s1 s2, RR s1 s2 → rc v3 s1 s2 = some 1) : lw_c20 N xs Ln rc v3 σ1 σ2 = some 1 := by
  obtain ⟨r, s1, s2, e1, e2, R2⟩ := h2_go (QU.qr R (t_drawn (N := N) hN R (xs (v3 + 1).toNatClampNeg) (xs (v3 + 2).toNatClampNeg) (xs (v3 + 3).toNatClampNeg) (xs (v3 + 4).toNatClampNeg)))
  unfold lw_c20
  simp only [gdT i1, gdT i2, gdT i3, gdT i4, e1, e2, ho_bds, lgc_self, if_true]
  exact hrc _ _ R2
theorem lp_c21 {N Ln : Nat} {xs : Nat → Int32} {rc : Int32 → Mem → Mem → Option Int32} {v3 : Int32} {σ1 σ2 : Mem} (hN : 10000 ≤ N) (R : RR σ1 σ2) (i1 : inb (v3 + 1) Ln = true) (i2 : inb (v3 + 2) Ln = true) (i3 : inb (v3 + 3) Ln = true) (i4 : inb (v3 + 4) Ln = true) (i5 : inb (v3 + 5) Ln = true) (hrc : ∀ s1 s2, RR s1 s2 → rc v3 s1 s2 = some 1) : lw_c21 N xs Ln rc v3 σ1 σ2 = some 1 := by
  obtain ⟨r, s1, s2, e1, e2, R2⟩ := h2_go (QU.qr R (t_hush (N := N) hN R (xs (v3 + 1).toNatClampNeg) (xs (v3 + 2).toNatClampNeg) (xs (v3 + 3).toNatClampNeg)))
  unfold lw_c21
  simp only [gdT i1, gdT i2, gdT i3, e1, e2, ho_bds, lgc_self, if_true]
  exact hrc _ _ R2
theorem lp_c22 {N Ln : Nat} {xs : Nat → Int32} {rc : Int32 → Mem → Mem → Option Int32} {v3 : Int32} {σ1 σ2 : Mem} (hN : 10000 ≤ N) (R : RR σ1 σ2) (i1 : inb (v3 + 1) Ln = true) (i2 : inb (v3 + 2) Ln = true) (i3 : inb (v3 + 3) Ln = true) (i4 : inb (v3 + 4) Ln = true) (i5 : inb (v3 + 5) Ln = true) (hrc : ∀ s1 s2, RR s1 s2 → rc v3 s1 s2 = some 1) : lw_c22 N xs Ln rc v3 σ1 σ2 = some 1 := by
  obtain ⟨r, s1, s2, e1, e2, R2⟩ := h2_go (QU.qr R (t_wake (N := N) hN R (xs (v3 + 1).toNatClampNeg) (xs (v3 + 2).toNatClampNeg) (xs (v3 + 3).toNatClampNeg)))
  unfold lw_c22
  simp only [gdT i1, gdT i2, gdT i3, e1, e2, ho_bds, lgc_self, if_true]
  exact hrc _ _ R2
theorem lp_c23 {N Ln : Nat} {xs : Nat → Int32} {rc : Int32 → Mem → Mem → Option Int32} {v3 : Int32} {σ1 σ2 : Mem} (hN : 10000 ≤ N) (R : RR σ1 σ2) (i1 : inb (v3 + 1) Ln = true) (i2 : inb (v3 + 2) Ln = true) (i3 : inb (v3 + 3) Ln = true) (i4 : inb (v3 + 4) Ln = true) (i5 : inb (v3 + 5) Ln = true) (hrc : ∀ s1 s2, RR s1 s2 → rc v3 s1 s2 = some 1) : lw_c23 N xs Ln rc v3 σ1 σ2 = some 1 := by
  obtain ⟨r, s1, s2, e1, e2, R2⟩ := h2_go (QU.qr R (t_damps (N := N) hN R (xs (v3 + 1).toNatClampNeg) (xs (v3 + 2).toNatClampNeg)))
  unfold lw_c23
  simp only [gdT i1, gdT i2, e1, e2, ho_bds, lgc_self, if_true]
  exact hrc _ _ R2
theorem lp_c24 {N Ln : Nat} {xs : Nat → Int32} {rc : Int32 → Mem → Mem → Option Int32} {v3 : Int32} {σ1 σ2 : Mem} (hN : 10000 ≤ N) (R : RR σ1 σ2) (i1 : inb (v3 + 1) Ln = true) (i2 : inb (v3 + 2) Ln = true) (i3 : inb (v3 + 3) Ln = true) (i4 : inb (v3 + 4) Ln = true) (i5 : inb (v3 + 5) Ln = true) (hrc : ∀ s1 s2, RR s1 s2 → rc v3 s1 s2 = some 1) : lw_c24 N xs Ln rc v3 σ1 σ2 = some 1 := by
  obtain ⟨r, s1, s2, e1, e2, R2⟩ := h2_go (QU.qr R (t_tips (N := N) hN R (xs (v3 + 1).toNatClampNeg) (xs (v3 + 2).toNatClampNeg) (xs (v3 + 3).toNatClampNeg)))
  unfold lw_c24
  simp only [gdT i1, gdT i2, gdT i3, e1, e2, ho_bds, lgc_self, if_true]
  exact hrc _ _ R2
theorem lp_c25 {N Ln : Nat} {xs : Nat → Int32} {rc : Int32 → Mem → Mem → Option Int32} {v3 : Int32} {σ1 σ2 : Mem} (hN : 10000 ≤ N) (R : RR σ1 σ2) (i1 : inb (v3 + 1) Ln = true) (i2 : inb (v3 + 2) Ln = true) (i3 : inb (v3 + 3) Ln = true) (i4 : inb (v3 + 4) Ln = true) (i5 : inb (v3 + 5) Ln = true) (hrc : ∀ s1 s2, RR s1 s2 → rc v3 s1 s2 = some 1) : lw_c25 N xs Ln rc v3 σ1 σ2 = some 1 := by
  obtain ⟨r, s1, s2, e1, e2, R2⟩ := h2_go (QU.qr R (t_weighty (N := N) hN R (xs (v3 + 1).toNatClampNeg) (xs (v3 + 2).toNatClampNeg)))
  unfold lw_c25
  simp only [gdT i1, gdT i2, e1, e2, ho_bds, lgc_self, if_true]
  exact hrc _ _ R2
theorem lp_c26 {N Ln : Nat} {xs : Nat → Int32} {rc : Int32 → Mem → Mem → Option Int32} {v3 : Int32} {σ1 σ2 : Mem} (hN : 10000 ≤ N) (R : RR σ1 σ2) (i1 : inb (v3 + 1) Ln = true) (i2 : inb (v3 + 2) Ln = true) (i3 : inb (v3 + 3) Ln = true) (i4 : inb (v3 + 4) Ln = true) (i5 : inb (v3 + 5) Ln = true) (hrc : ∀ s1 s2, RR s1 s2 → rc v3 s1 s2 = some 1) : lw_c26 N xs Ln rc v3 σ1 σ2 = some 1 := by
  obtain ⟨r, s1, s2, e1, e2, R2⟩ := h2_go (QU.qr R (t_worded (N := N) hN R (xs (v3 + 1).toNatClampNeg) (xs (v3 + 2).toNatClampNeg)))
  unfold lw_c26
  simp only [gdT i1, gdT i2, e1, e2, ho_bds, lgc_self, if_true]
  exact hrc _ _ R2
theorem lp_c27 {N Ln : Nat} {xs : Nat → Int32} {rc : Int32 → Mem → Mem → Option Int32} {v3 : Int32} {σ1 σ2 : Mem} (hN : 10000 ≤ N) (R : RR σ1 σ2) (i1 : inb (v3 + 1) Ln = true) (i2 : inb (v3 + 2) Ln = true) (i3 : inb (v3 + 3) Ln = true) (i4 : inb (v3 + 4) Ln = true) (i5 : inb (v3 + 5) Ln = true) (hrc : ∀ s1 s2, RR s1 s2 → rc v3 s1 s2 = some 1) : lw_c27 N xs Ln rc v3 σ1 σ2 = some 1 := by
  obtain ⟨r, s1, s2, e1, e2, R2⟩ := h2_go (QU.qr R (t_clear (N := N) hN R (xs (v3 + 1).toNatClampNeg) (xs (v3 + 2).toNatClampNeg)))
  unfold lw_c27
  simp only [gdT i1, gdT i2, e1, e2, ho_bds, lgc_self, if_true]
  exact hrc _ _ R2
theorem lp_c28 {N Ln : Nat} {xs : Nat → Int32} {rc : Int32 → Mem → Mem → Option Int32} {v3 : Int32} {σ1 σ2 : Mem} (hN : 10000 ≤ N) (R : RR σ1 σ2) (i1 : inb (v3 + 1) Ln = true) (i2 : inb (v3 + 2) Ln = true) (i3 : inb (v3 + 3) Ln = true) (i4 : inb (v3 + 4) Ln = true) (i5 : inb (v3 + 5) Ln = true) (hrc : ∀ s1 s2, RR s1 s2 → rc v3 s1 s2 = some 1) : lw_c28 N xs Ln rc v3 σ1 σ2 = some 1 := by
  obtain ⟨r, s1, s2, e1, e2, R2⟩ := h2_go (QU.qr R (t_greedy (N := N) hN R (xs (v3 + 1).toNatClampNeg) (xs (v3 + 2).toNatClampNeg) (xs (v3 + 3).toNatClampNeg)))
  unfold lw_c28
  simp only [gdT i1, gdT i2, gdT i3, e1, e2, ho_bds, lgc_self, if_true]
  exact hrc _ _ R2
theorem lp_c29 {N Ln : Nat} {xs : Nat → Int32} {rc : Int32 → Mem → Mem → Option Int32} {v3 : Int32} {σ1 σ2 : Mem} (hN : 10000 ≤ N) (R : RR σ1 σ2) (i1 : inb (v3 + 1) Ln = true) (i2 : inb (v3 + 2) Ln = true) (i3 : inb (v3 + 3) Ln = true) (i4 : inb (v3 + 4) Ln = true) (i5 : inb (v3 + 5) Ln = true) (hrc : ∀ s1 s2, RR s1 s2 → rc v3 s1 s2 = some 1) : lw_c29 N xs Ln rc v3 σ1 σ2 = some 1 := by
  by_cases hb : xs (v3 + 5).toNatClampNeg = 0
  · skip
    obtain ⟨r, s1, s2, e1, e2, R2⟩ := h2_go (QU.qr R (t_agenda (N := N) hN R (xs (v3 + 1).toNatClampNeg) (xs (v3 + 2).toNatClampNeg) (xs (v3 + 3).toNatClampNeg) (xs (v3 + 4).toNatClampNeg) 0))
    unfold lw_c29
    simp only [gdT i1, gdT i2, gdT i3, gdT i4, gdT i5, if_pos hb, e1, e2, ho_bds, lgc_self, if_true]
    exact hrc _ _ R2
  · skip
    obtain ⟨r, s1, s2, e1, e2, R2⟩ := h2_go (QU.qr R (t_agenda (N := N) hN R (xs (v3 + 1).toNatClampNeg) (xs (v3 + 2).toNatClampNeg) (xs (v3 + 3).toNatClampNeg) (xs (v3 + 4).toNatClampNeg) 1))
    unfold lw_c29
    simp only [gdT i1, gdT i2, gdT i3, gdT i4, gdT i5, if_neg hb, e1, e2, ho_bds, lgc_self, if_true]
    exact hrc _ _ R2
theorem lp_c30 {N Ln : Nat} {xs : Nat → Int32} {rc : Int32 → Mem → Mem → Option Int32} {v3 : Int32} {σ1 σ2 : Mem} (hN : 10000 ≤ N) (R : RR σ1 σ2) (i1 : inb (v3 + 1) Ln = true) (i2 : inb (v3 + 2) Ln = true) (i3 : inb (v3 + 3) Ln = true) (i4 : inb (v3 + 4) Ln = true) (i5 : inb (v3 + 5) Ln = true) (hrc : ∀ s1 s2, RR s1 s2 → rc v3 s1 s2 = some 1) : lw_c30 N xs Ln rc v3 σ1 σ2 = some 1 := by
  by_cases hb : xs (v3 + 3).toNatClampNeg = 0
  · skip
    obtain ⟨r, s1, s2, e1, e2, R2⟩ := h2_go (QU.qr R (t_odds (N := N) hN R (xs (v3 + 1).toNatClampNeg) (xs (v3 + 2).toNatClampNeg) 0))
    unfold lw_c30
    simp only [gdT i1, gdT i2, gdT i3, if_pos hb, e1, e2, ho_bds, lgc_self, if_true]
    exact hrc _ _ R2
  · skip
    obtain ⟨r, s1, s2, e1, e2, R2⟩ := h2_go (QU.qr R (t_odds (N := N) hN R (xs (v3 + 1).toNatClampNeg) (xs (v3 + 2).toNatClampNeg) 1))
    unfold lw_c30
    simp only [gdT i1, gdT i2, gdT i3, if_neg hb, e1, e2, ho_bds, lgc_self, if_true]
    exact hrc _ _ R2
theorem lp_c31 {N Ln : Nat} {xs : Nat → Int32} {rc : Int32 → Mem → Mem → Option Int32} {v3 : Int32} {σ1 σ2 : Mem} (hN : 10000 ≤ N) (R : RR σ1 σ2) (i1 : inb (v3 + 1) Ln = true) (i2 : inb (v3 + 2) Ln = true) (i3 : inb (v3 + 3) Ln = true) (i4 : inb (v3 + 4) Ln = true) (i5 : inb (v3 + 5) Ln = true) (hrc : ∀ s1 s2, RR s1 s2 → rc v3 s1 s2 = some 1) : lw_c31 N xs Ln rc v3 σ1 σ2 = some 1 := by
  obtain ⟨r, s1, s2, e1, e2, R2⟩ := h2_go (QU.qr R (t_weigh (N := N) hN R (xs (v3 + 1).toNatClampNeg) (xs (v3 + 2).toNatClampNeg)))
  unfold lw_c31
  simp only [gdT i1, gdT i2, e1, e2, ho_bds, lgc_self, if_true]
  exact hrc _ _ R2
theorem lp_c32 {N Ln : Nat} {xs : Nat → Int32} {rc : Int32 → Mem → Mem → Option Int32} {v3 : Int32} {σ1 σ2 : Mem} (hN : 10000 ≤ N) (R : RR σ1 σ2) (i1 : inb (v3 + 1) Ln = true) (i2 : inb (v3 + 2) Ln = true) (i3 : inb (v3 + 3) Ln = true) (i4 : inb (v3 + 4) Ln = true) (i5 : inb (v3 + 5) Ln = true) (hrc : ∀ s1 s2, RR s1 s2 → rc v3 s1 s2 = some 1) : lw_c32 N xs Ln rc v3 σ1 σ2 = some 1 := by
  obtain ⟨r, s1, s2, e1, e2, R2⟩ := h2_go (QU.qr R (t_after (N := N) hN R (xs (v3 + 1).toNatClampNeg) (xs (v3 + 2).toNatClampNeg) (xs (v3 + 3).toNatClampNeg)))
  unfold lw_c32
  simp only [gdT i1, gdT i2, gdT i3, e1, e2, ho_bds, lgc_self, if_true]
  exact hrc _ _ R2
theorem lp_c33 {N Ln : Nat} {xs : Nat → Int32} {rc : Int32 → Mem → Mem → Option Int32} {v3 : Int32} {σ1 σ2 : Mem} (hN : 10000 ≤ N) (R : RR σ1 σ2) (i1 : inb (v3 + 1) Ln = true) (i2 : inb (v3 + 2) Ln = true) (i3 : inb (v3 + 3) Ln = true) (i4 : inb (v3 + 4) Ln = true) (i5 : inb (v3 + 5) Ln = true) (hrc : ∀ s1 s2, RR s1 s2 → rc v3 s1 s2 = some 1) : lw_c33 N xs Ln rc v3 σ1 σ2 = some 1 := by
  by_cases hb : xs (v3 + 3).toNatClampNeg = 0
  · skip
    obtain ⟨r, s1, s2, e1, e2, R2⟩ := h2_go (QU.qr R (t_bears (N := N) hN R (xs (v3 + 1).toNatClampNeg) (xs (v3 + 2).toNatClampNeg) 0))
    unfold lw_c33
    simp only [gdT i1, gdT i2, gdT i3, if_pos hb, e1, e2, ho_bds, lgc_self, if_true]
    exact hrc _ _ R2
  · skip
    obtain ⟨r, s1, s2, e1, e2, R2⟩ := h2_go (QU.qr R (t_bears (N := N) hN R (xs (v3 + 1).toNatClampNeg) (xs (v3 + 2).toNatClampNeg) 1))
    unfold lw_c33
    simp only [gdT i1, gdT i2, gdT i3, if_neg hb, e1, e2, ho_bds, lgc_self, if_true]
    exact hrc _ _ R2
theorem lp_c34 {N Ln : Nat} {xs : Nat → Int32} {rc : Int32 → Mem → Mem → Option Int32} {v3 : Int32} {σ1 σ2 : Mem} (hN : 10000 ≤ N) (R : RR σ1 σ2) (i1 : inb (v3 + 1) Ln = true) (i2 : inb (v3 + 2) Ln = true) (i3 : inb (v3 + 3) Ln = true) (i4 : inb (v3 + 4) Ln = true) (i5 : inb (v3 + 5) Ln = true) (hrc : ∀ s1 s2, RR s1 s2 → rc v3 s1 s2 = some 1) : lw_c34 N xs Ln rc v3 σ1 σ2 = some 1 := by
  obtain ⟨r, s1, s2, e1, e2, R2⟩ := h2_go (QU.qr R (t_kin (N := N) hN R (xs (v3 + 1).toNatClampNeg) (xs (v3 + 2).toNatClampNeg) (xs (v3 + 3).toNatClampNeg)))
  unfold lw_c34
  simp only [gdT i1, gdT i2, gdT i3, e1, e2, ho_bds, lgc_self, if_true]
  exact hrc _ _ R2
theorem lp_c35 {N Ln : Nat} {xs : Nat → Int32} {rc : Int32 → Mem → Mem → Option Int32} {v3 : Int32} {σ1 σ2 : Mem} (hN : 10000 ≤ N) (R : RR σ1 σ2) (i1 : inb (v3 + 1) Ln = true) (i2 : inb (v3 + 2) Ln = true) (i3 : inb (v3 + 3) Ln = true) (i4 : inb (v3 + 4) Ln = true) (i5 : inb (v3 + 5) Ln = true) (hrc : ∀ s1 s2, RR s1 s2 → rc v3 s1 s2 = some 1) : lw_c35 N xs Ln rc v3 σ1 σ2 = some 1 := by
  obtain ⟨r, s1, s2, e1, e2, R2⟩ := h2_go (QU.qr R (t_trade (N := N) hN R (xs (v3 + 1).toNatClampNeg) (xs (v3 + 2).toNatClampNeg)))
  unfold lw_c35
  simp only [gdT i1, gdT i2, e1, e2, ho_bds, lgc_self, if_true]
  exact hrc _ _ R2
theorem lp_c36 {N Ln : Nat} {xs : Nat → Int32} {rc : Int32 → Mem → Mem → Option Int32} {v3 : Int32} {σ1 σ2 : Mem} (hN : 10000 ≤ N) (R : RR σ1 σ2) (i1 : inb (v3 + 1) Ln = true) (i2 : inb (v3 + 2) Ln = true) (i3 : inb (v3 + 3) Ln = true) (i4 : inb (v3 + 4) Ln = true) (i5 : inb (v3 + 5) Ln = true) (hrc : ∀ s1 s2, RR s1 s2 → rc v3 s1 s2 = some 1) : lw_c36 N xs Ln rc v3 σ1 σ2 = some 1 := by
  obtain ⟨r, s1, s2, e1, e2, R2⟩ := h2_go (QU.qr R (t_oaken (N := N) hN R (xs (v3 + 1).toNatClampNeg) (xs (v3 + 2).toNatClampNeg)))
  unfold lw_c36
  simp only [gdT i1, gdT i2, e1, e2, ho_bds, lgc_self, if_true]
  exact hrc _ _ R2
theorem lp_c37 {N Ln : Nat} {xs : Nat → Int32} {rc : Int32 → Mem → Mem → Option Int32} {v3 : Int32} {σ1 σ2 : Mem} (hN : 10000 ≤ N) (R : RR σ1 σ2) (i1 : inb (v3 + 1) Ln = true) (i2 : inb (v3 + 2) Ln = true) (i3 : inb (v3 + 3) Ln = true) (i4 : inb (v3 + 4) Ln = true) (i5 : inb (v3 + 5) Ln = true) (hrc : ∀ s1 s2, RR s1 s2 → rc v3 s1 s2 = some 1) : lw_c37 N xs Ln rc v3 σ1 σ2 = some 1 := by
  obtain ⟨r, s1, s2, e1, e2, R2⟩ := h2_go (QU.qr R (t_walk (N := N) hN R (xs (v3 + 1).toNatClampNeg) (xs (v3 + 2).toNatClampNeg) (xs (v3 + 3).toNatClampNeg)))
  unfold lw_c37
  simp only [gdT i1, gdT i2, gdT i3, e1, e2, ho_bds, lgc_self, if_true]
  exact hrc _ _ R2
theorem lp_c38 {N Ln : Nat} {xs : Nat → Int32} {rc : Int32 → Mem → Mem → Option Int32} {v3 : Int32} {σ1 σ2 : Mem} (hN : 10000 ≤ N) (R : RR σ1 σ2) (i1 : inb (v3 + 1) Ln = true) (i2 : inb (v3 + 2) Ln = true) (i3 : inb (v3 + 3) Ln = true) (i4 : inb (v3 + 4) Ln = true) (i5 : inb (v3 + 5) Ln = true) (hrc : ∀ s1 s2, RR s1 s2 → rc v3 s1 s2 = some 1) : lw_c38 N xs Ln rc v3 σ1 σ2 = some 1 := by
  by_cases hb : xs (v3 + 4).toNatClampNeg = 0
  · skip
    obtain ⟨r, s1, s2, e1, e2, R2⟩ := h2_go (QU.qr R (t_place (N := N) hN R (xs (v3 + 1).toNatClampNeg) (xs (v3 + 2).toNatClampNeg) (xs (v3 + 3).toNatClampNeg) 0))
    unfold lw_c38
    simp only [gdT i1, gdT i2, gdT i3, gdT i4, if_pos hb, e1, e2, ho_bds, lgc_self, if_true]
    exact hrc _ _ R2
  · skip
    obtain ⟨r, s1, s2, e1, e2, R2⟩ := h2_go (QU.qr R (t_place (N := N) hN R (xs (v3 + 1).toNatClampNeg) (xs (v3 + 2).toNatClampNeg) (xs (v3 + 3).toNatClampNeg) 1))
    unfold lw_c38
    simp only [gdT i1, gdT i2, gdT i3, gdT i4, if_neg hb, e1, e2, ho_bds, lgc_self, if_true]
    exact hrc _ _ R2
theorem lp_c39 {N Ln : Nat} {xs : Nat → Int32} {rc : Int32 → Mem → Mem → Option Int32} {v3 : Int32} {σ1 σ2 : Mem} (hN : 10000 ≤ N) (R : RR σ1 σ2) (i1 : inb (v3 + 1) Ln = true) (i2 : inb (v3 + 2) Ln = true) (i3 : inb (v3 + 3) Ln = true) (i4 : inb (v3 + 4) Ln = true) (i5 : inb (v3 + 5) Ln = true) (hrc : ∀ s1 s2, RR s1 s2 → rc v3 s1 s2 = some 1) : lw_c39 N xs Ln rc v3 σ1 σ2 = some 1 := by
  by_cases hb : xs (v3 + 3).toNatClampNeg = 0
  · skip
    obtain ⟨r, s1, s2, e1, e2, R2⟩ := h2_go (QU.qr R (t_hinge (N := N) hN R (xs (v3 + 1).toNatClampNeg) (xs (v3 + 2).toNatClampNeg) 0))
    unfold lw_c39
    simp only [gdT i1, gdT i2, gdT i3, if_pos hb, e1, e2, ho_bds, lgc_self, if_true]
    exact hrc _ _ R2
  · skip
    obtain ⟨r, s1, s2, e1, e2, R2⟩ := h2_go (QU.qr R (t_hinge (N := N) hN R (xs (v3 + 1).toNatClampNeg) (xs (v3 + 2).toNatClampNeg) 1))
    unfold lw_c39
    simp only [gdT i1, gdT i2, gdT i3, if_neg hb, e1, e2, ho_bds, lgc_self, if_true]
    exact hrc _ _ R2
theorem lp_c40 {N Ln : Nat} {xs : Nat → Int32} {rc : Int32 → Mem → Mem → Option Int32} {v3 : Int32} {σ1 σ2 : Mem} (hN : 10000 ≤ N) (R : RR σ1 σ2) (i1 : inb (v3 + 1) Ln = true) (i2 : inb (v3 + 2) Ln = true) (i3 : inb (v3 + 3) Ln = true) (i4 : inb (v3 + 4) Ln = true) (i5 : inb (v3 + 5) Ln = true) (hrc : ∀ s1 s2, RR s1 s2 → rc v3 s1 s2 = some 1) : lw_c40 N xs Ln rc v3 σ1 σ2 = some 1 := by
  obtain ⟨r, s1, s2, e1, e2, R2⟩ := h2_go (QU.qr R (t_count (N := N) R (xs (v3 + 1).toNatClampNeg)))
  unfold lw_c40
  simp only [gdT i1, e1, e2, ho_bds, lgc_self, if_true]
  exact hrc _ _ R2
theorem lp_c41 {N Ln : Nat} {xs : Nat → Int32} {rc : Int32 → Mem → Mem → Option Int32} {v3 : Int32} {σ1 σ2 : Mem} (hN : 10000 ≤ N) (R : RR σ1 σ2) (i1 : inb (v3 + 1) Ln = true) (i2 : inb (v3 + 2) Ln = true) (i3 : inb (v3 + 3) Ln = true) (i4 : inb (v3 + 4) Ln = true) (i5 : inb (v3 + 5) Ln = true) (hrc : ∀ s1 s2, RR s1 s2 → rc v3 s1 s2 = some 1) : lw_c41 N xs Ln rc v3 σ1 σ2 = some 1 := by
  obtain ⟨r, s1, s2, e1, e2, R2⟩ := h2_go (t_image (N := N) hN R (xs (v3 + 1).toNatClampNeg))
  unfold lw_c41
  simp only [gdT i1, e1, e2, ho_bds, lgc_self, if_true]
  exact hrc _ _ R2
theorem lp_c42 {N Ln : Nat} {xs : Nat → Int32} {rc : Int32 → Mem → Mem → Option Int32} {v3 : Int32} {σ1 σ2 : Mem} (hN : 10000 ≤ N) (R : RR σ1 σ2) (i1 : inb (v3 + 1) Ln = true) (i2 : inb (v3 + 2) Ln = true) (i3 : inb (v3 + 3) Ln = true) (i4 : inb (v3 + 4) Ln = true) (i5 : inb (v3 + 5) Ln = true) (hrc : ∀ s1 s2, RR s1 s2 → rc v3 s1 s2 = some 1) : lw_c42 N xs Ln rc v3 σ1 σ2 = some 1 := by
  obtain ⟨r, s1, s2, e1, e2, R2⟩ := h2_go (t_again (N := N) hN R (xs (v3 + 1).toNatClampNeg))
  unfold lw_c42
  simp only [gdT i1, e1, e2, ho_bds, lgc_self, if_true]
  exact hrc _ _ R2
def lawS (N : Nat) (xs : Nat → Int32) (Ln : Nat) (rc : Int32 → Mem → Mem → Option Int32) (a v3 : Int32) (σ1 σ2 : Mem) : Option Int32 :=
  if a = 0 then lw_c0 N xs Ln rc v3 σ1 σ2 else if a = 1 then lw_c1 N xs Ln rc v3 σ1 σ2 else if a = 2 then lw_c2 N xs Ln rc v3 σ1 σ2 else if a = 3 then lw_c3 N xs Ln rc v3 σ1 σ2 else if a = 4 then lw_c4 N xs Ln rc v3 σ1 σ2 else if a = 5 then lw_c5 N xs Ln rc v3 σ1 σ2 else if a = 6 then lw_c6 N xs Ln rc v3 σ1 σ2 else if a = 7 then lw_c7 N xs Ln rc v3 σ1 σ2 else if a = 8 then lw_c8 N xs Ln rc v3 σ1 σ2 else if a = 9 then lw_c9 N xs Ln rc v3 σ1 σ2 else if a = 10 then lw_c10 N xs Ln rc v3 σ1 σ2 else if a = 11 then lw_c11 N xs Ln rc v3 σ1 σ2 else if a = 12 then lw_c12 N xs Ln rc v3 σ1 σ2 else if a = 13 then lw_c13 N xs Ln rc v3 σ1 σ2 else if a = 14 then lw_c14 N xs Ln rc v3 σ1 σ2 else if a = 15 then lw_c15 N xs Ln rc v3 σ1 σ2 else if a = 16 then lw_c16 N xs Ln rc v3 σ1 σ2 else if a = 17 then lw_c17 N xs Ln rc v3 σ1 σ2 else if a = 18 then lw_c18 N xs Ln rc v3 σ1 σ2 else if a = 19 then lw_c19 N xs Ln rc v3 σ1 σ2 else if a = 20 then lw_c20 N xs Ln rc v3 σ1 σ2 else if a = 21 then lw_c21 N xs Ln rc v3 σ1 σ2 else if a = 22 then lw_c22 N xs Ln rc v3 σ1 σ2 else if a = 23 then lw_c23 N xs Ln rc v3 σ1 σ2 else if a = 24 then lw_c24 N xs Ln rc v3 σ1 σ2 else if a = 25 then lw_c25 N xs Ln rc v3 σ1 σ2 else if a = 26 then lw_c26 N xs Ln rc v3 σ1 σ2 else if a = 27 then lw_c27 N xs Ln rc v3 σ1 σ2 else if a = 28 then lw_c28 N xs Ln rc v3 σ1 σ2 else if a = 29 then lw_c29 N xs Ln rc v3 σ1 σ2 else if a = 30 then lw_c30 N xs Ln rc v3 σ1 σ2 else if a = 31 then lw_c31 N xs Ln rc v3 σ1 σ2 else if a = 32 then lw_c32 N xs Ln rc v3 σ1 σ2 else if a = 33 then lw_c33 N xs Ln rc v3 σ1 σ2 else if a = 34 then lw_c34 N xs Ln rc v3 σ1 σ2 else if a = 35 then lw_c35 N xs Ln rc v3 σ1 σ2 else if a = 36 then lw_c36 N xs Ln rc v3 σ1 σ2 else if a = 37 then lw_c37 N xs Ln rc v3 σ1 σ2 else if a = 38 then lw_c38 N xs Ln rc v3 σ1 σ2 else if a = 39 then lw_c39 N xs Ln rc v3 σ1 σ2 else if a = 40 then lw_c40 N xs Ln rc v3 σ1 σ2 else if a = 41 then lw_c41 N xs Ln rc v3 σ1 σ2 else if a = 42 then lw_c42 N xs Ln rc v3 σ1 σ2 else rc v3 σ1 σ2
def lawF (N : Nat) (xs : Nat → Int32) (Ln : Nat) : Nat → Int32 → Mem → Mem → Option Int32
  | 0 => fun _ _ _ => none
  | n + 1 => fun v3 σ1 σ2 => if Int32.ofNat Ln - 6 < v3 then some 1 else gd (inb v3 Ln) (lawS N xs Ln (fun w s1 s2 => lawF N xs Ln n (w + 6) s1 s2) (xs v3.toNatClampNeg &&& 63) v3 σ1 σ2)
theorem lawS_ok {N Ln : Nat} {xs : Nat → Int32} {rc : Int32 → Mem → Mem → Option Int32} {a v3 : Int32} {σ1 σ2 : Mem} (hN : 10000 ≤ N) (R : RR σ1 σ2) (i1 : inb (v3 + 1) Ln = true) (i2 : inb (v3 + 2) Ln = true) (i3 : inb (v3 + 3) Ln = true) (i4 : inb (v3 + 4) Ln = true) (i5 : inb (v3 + 5) Ln = true) (hrc : ∀ s1 s2, RR s1 s2 → rc v3 s1 s2 = some 1) : lawS N xs Ln rc a v3 σ1 σ2 = some 1 := by
  unfold lawS
  by_cases c0 : a = 0
  · rw [if_pos c0]; exact lp_c0 hN R i1 i2 i3 i4 i5 hrc
  rw [if_neg c0]
  by_cases c1 : a = 1
  · rw [if_pos c1]; exact lp_c1 hN R i1 i2 i3 i4 i5 hrc
  rw [if_neg c1]
  by_cases c2 : a = 2
  · rw [if_pos c2]; exact lp_c2 hN R i1 i2 i3 i4 i5 hrc
  rw [if_neg c2]
  by_cases c3 : a = 3
  · rw [if_pos c3]; exact lp_c3 hN R i1 i2 i3 i4 i5 hrc
  rw [if_neg c3]
  by_cases c4 : a = 4
  · rw [if_pos c4]; exact lp_c4 hN R i1 i2 i3 i4 i5 hrc
  rw [if_neg c4]
  by_cases c5 : a = 5
  · rw [if_pos c5]; exact lp_c5 hN R i1 i2 i3 i4 i5 hrc
  rw [if_neg c5]
  by_cases c6 : a = 6
  · rw [if_pos c6]; exact lp_c6 hN R i1 i2 i3 i4 i5 hrc
  rw [if_neg c6]
  by_cases c7 : a = 7
  · rw [if_pos c7]; exact lp_c7 hN R i1 i2 i3 i4 i5 hrc
  rw [if_neg c7]
  by_cases c8 : a = 8
  · rw [if_pos c8]; exact lp_c8 hN R i1 i2 i3 i4 i5 hrc
  rw [if_neg c8]
  by_cases c9 : a = 9
  · rw [if_pos c9]; exact lp_c9 hN R i1 i2 i3 i4 i5 hrc
  rw [if_neg c9]
  by_cases c10 : a = 10
  · rw [if_pos c10]; exact lp_c10 hN R i1 i2 i3 i4 i5 hrc
  rw [if_neg c10]
  by_cases c11 : a = 11
  · rw [if_pos c11]; exact lp_c11 hN R i1 i2 i3 i4 i5 hrc
  rw [if_neg c11]
  by_cases c12 : a = 12
  · rw [if_pos c12]; exact lp_c12 hN R i1 i2 i3 i4 i5 hrc
  rw [if_neg c12]
  by_cases c13 : a = 13
  · rw [if_pos c13]; exact lp_c13 hN R i1 i2 i3 i4 i5 hrc
  rw [if_neg c13]
  by_cases c14 : a = 14
  · rw [if_pos c14]; exact lp_c14 hN R i1 i2 i3 i4 i5 hrc
  rw [if_neg c14]
  by_cases c15 : a = 15
  · rw [if_pos c15]; exact lp_c15 hN R i1 i2 i3 i4 i5 hrc
  rw [if_neg c15]
  by_cases c16 : a = 16
  · rw [if_pos c16]; exact lp_c16 hN R i1 i2 i3 i4 i5 hrc
  rw [if_neg c16]
  by_cases c17 : a = 17
  · rw [if_pos c17]; exact lp_c17 hN R i1 i2 i3 i4 i5 hrc
  rw [if_neg c17]
  by_cases c18 : a = 18
  · rw [if_pos c18]; exact lp_c18 hN R i1 i2 i3 i4 i5 hrc
  rw [if_neg c18]
  by_cases c19 : a = 19
  · rw [if_pos c19]; exact lp_c19 hN R i1 i2 i3 i4 i5 hrc
  rw [if_neg c19]
  by_cases c20 : a = 20
  · rw [if_pos c20]; exact lp_c20 hN R i1 i2 i3 i4 i5 hrc
  rw [if_neg c20]
  by_cases c21 : a = 21
  · rw [if_pos c21]; exact lp_c21 hN R i1 i2 i3 i4 i5 hrc
  rw [if_neg c21]
  by_cases c22 : a = 22
  · rw [if_pos c22]; exact lp_c22 hN R i1 i2 i3 i4 i5 hrc
  rw [if_neg c22]
  by_cases c23 : a = 23
  · rw [if_pos c23]; exact lp_c23 hN R i1 i2 i3 i4 i5 hrc
  rw [if_neg c23]
  by_cases c24 : a = 24
  · rw [if_pos c24]; exact lp_c24 hN R i1 i2 i3 i4 i5 hrc
  rw [if_neg c24]
  by_cases c25 : a = 25
  · rw [if_pos c25]; exact lp_c25 hN R i1 i2 i3 i4 i5 hrc
  rw [if_neg c25]
  by_cases c26 : a = 26
  · rw [if_pos c26]; exact lp_c26 hN R i1 i2 i3 i4 i5 hrc
  rw [if_neg c26]
  by_cases c27 : a = 27
  · rw [if_pos c27]; exact lp_c27 hN R i1 i2 i3 i4 i5 hrc
  rw [if_neg c27]
  by_cases c28 : a = 28
  · rw [if_pos c28]; exact lp_c28 hN R i1 i2 i3 i4 i5 hrc
  rw [if_neg c28]
  by_cases c29 : a = 29
  · rw [if_pos c29]; exact lp_c29 hN R i1 i2 i3 i4 i5 hrc
  rw [if_neg c29]
  by_cases c30 : a = 30
  · rw [if_pos c30]; exact lp_c30 hN R i1 i2 i3 i4 i5 hrc
  rw [if_neg c30]
  by_cases c31 : a = 31
  · rw [if_pos c31]; exact lp_c31 hN R i1 i2 i3 i4 i5 hrc
  rw [if_neg c31]
  by_cases c32 : a = 32
  · rw [if_pos c32]; exact lp_c32 hN R i1 i2 i3 i4 i5 hrc
  rw [if_neg c32]
  by_cases c33 : a = 33
  · rw [if_pos c33]; exact lp_c33 hN R i1 i2 i3 i4 i5 hrc
  rw [if_neg c33]
  by_cases c34 : a = 34
  · rw [if_pos c34]; exact lp_c34 hN R i1 i2 i3 i4 i5 hrc
  rw [if_neg c34]
  by_cases c35 : a = 35
  · rw [if_pos c35]; exact lp_c35 hN R i1 i2 i3 i4 i5 hrc
  rw [if_neg c35]
  by_cases c36 : a = 36
  · rw [if_pos c36]; exact lp_c36 hN R i1 i2 i3 i4 i5 hrc
  rw [if_neg c36]
  by_cases c37 : a = 37
  · rw [if_pos c37]; exact lp_c37 hN R i1 i2 i3 i4 i5 hrc
  rw [if_neg c37]
  by_cases c38 : a = 38
  · rw [if_pos c38]; exact lp_c38 hN R i1 i2 i3 i4 i5 hrc
  rw [if_neg c38]
  by_cases c39 : a = 39
  · rw [if_pos c39]; exact lp_c39 hN R i1 i2 i3 i4 i5 hrc
  rw [if_neg c39]
  by_cases c40 : a = 40
  · rw [if_pos c40]; exact lp_c40 hN R i1 i2 i3 i4 i5 hrc
  rw [if_neg c40]
  by_cases c41 : a = 41
  · rw [if_pos c41]; exact lp_c41 hN R i1 i2 i3 i4 i5 hrc
  rw [if_neg c41]
  by_cases c42 : a = 42
  · rw [if_pos c42]; exact lp_c42 hN R i1 i2 i3 i4 i5 hrc
  rw [if_neg c42]
  exact hrc _ _ R
theorem lawF_ok {N Ln : Nat} {xs : Nat → Int32} (hN : 10000 ≤ N) (hL : Ln ≤ 3072) : ∀ (n i : Nat) (σ1 σ2 : Mem), 6 * i ≤ Ln + 5 → Ln < 6 * (i + n) → RR σ1 σ2 → lawF N xs Ln (n + 1) (Int32.ofNat (6 * i)) σ1 σ2 = some 1
  | n, i, σ1, σ2, h1, h2, R => by
    simp only [lawF]
    have i6 : (Int32.ofNat Ln - 6).toInt = (Ln : Int) - 6 := by
      rw [Int32.toInt_sub, nz_toInt (by omega), show (6 : Int32).toInt = 6 from rfl]
      apply Int.bmod_eq_of_le <;> omega
    by_cases c : Ln < 6 * i + 6
    · rw [if_pos (show Int32.ofNat Ln - 6 < Int32.ofNat (6 * i) by rw [i32_lt, i6, nz_toInt (by omega)]; omega)]
    · rw [if_neg (show ¬ Int32.ofNat Ln - 6 < Int32.ofNat (6 * i) by rw [i32_lt, i6, nz_toInt (by omega)]; omega), gdT (inb_k (show 6 * i < Ln by omega) (by omega))]
      have ii : ∀ j, j < 6 → inb (Int32.ofNat (6 * i) + Int32.ofNat j) Ln = true := fun j hj => by rw [nz_add]; exact inb_k (by omega) (by omega)
      refine lawS_ok hN R (ii 1 (by omega)) (ii 2 (by omega)) (ii 3 (by omega)) (ii 4 (by omega)) (ii 5 (by omega)) (fun s1 s2 R2 => ?_)
      match n, h2 with
      | 0, h2 => omega
      | n + 1, h2 =>
        have e : Int32.ofNat (6 * i) + 6 = Int32.ofNat (6 * (i + 1)) := by rw [show (6 : Int32) = Int32.ofNat 6 from rfl, nz_add]; congr 1
        show lawF N xs Ln (n + 1) (Int32.ofNat (6 * i) + 6) s1 s2 = some 1
        rw [e]
        exact lawF_ok hN hL n (i + 1) s1 s2 (by omega) (by omega) R2
