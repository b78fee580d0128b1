/-- a seat as it can be: a piece that is there, or none -/
def Seat (np : Nat) (v : Int32) : Prop := v = 8 ∨ ∃ p, p < np ∧ v = Int32.ofNat p
theorem Seat.ne {np : Nat} {v : Int32} (h : Seat np v) (hn : np ≤ 8) (hi : ¬ inb v np = true) : v = 8 := by
  rcases h with h | ⟨p, hp, rfl⟩
  · exact h
  · rw [nz_inb (by omega)] at hi; simp [hp] at hi
theorem eight_ne {p : Nat} (h : p < 8) : ¬ (8 : Int32) = Int32.ofNat p := by
  rw [show (8 : Int32) = Int32.ofNat 8 from rfl, nz_inj (by omega) (by omega)]; omega
theorem putLoad_C {σ : Mem} {N h np : Nat} {v x : Int32} (hn : np ≤ 8) (h0 : σ.1 (h + 1) 0 = Int32.ofNat np) (hv : Seat np v) : Ho (fX2_putLoad N h v x σ) (fun _ σ' => (∀ p, p < np → σ'.1 (h + 11) p = σ.1 (h + 11) p + (if v = Int32.ofNat p then x else 0)) ∧ FrC (h + 11) (h + 12) σ σ') := by
  unfold fX2_putLoad
  rw [has_eq v h0 hn, ho_bds]
  rcases hv with rfl | ⟨p, hp, rfl⟩
  · rw [show inb (8 : Int32) np = decide (8 < np) from nz_inb (by decide)]
    have : ¬ 8 < np := by omega
    simp only [this, decide_false, Bool.false_eq_true, if_false, if_true, ho_some]
    refine ⟨fun p hp => ?_, FrC.refl _ _ _⟩
    rw [if_neg (eight_ne (by omega)), Int32.add_zero]
  · have hp8 : p < 8 := by omega
    rw [nz_inb (by omega)]
    simp only [hp, decide_true, if_true]
    rw [if_neg (by decide)]
    simp only [ho_lte, nz_inb (show p < 2147483648 by omega), hp8, decide_true, ho_gdt, nz_nat (show p < 2147483648 by omega), ho_some]
    refine ⟨fun q hq => ?_, (FrC.refl _ _ _).pI (by omega)⟩
    by_cases e : q = p
    · subst e; rw [pI_eq, if_pos rfl]
    · rw [pI_nq (by omega), if_neg (by rw [nz_inj (by omega) (by omega)]; omega), Int32.add_zero]
theorem HaC.cell {σ σ' : Mem} {h a np nw : Nat} {S : Vw} (H : HaC σ h S np nw) (F : FrC a (a + 1) σ σ') (ha : a < h ∨ h + 12 ≤ a) : HaC σ' h S np nw := by
  obtain ⟨h1, h2, h3, h4, h5, h6⟩ := H
  unfold HaC
  rw [F.1 h (by omega), F.1 (h + 1) (by omega), F.1 (h + 1 + 1) (by omega), F.1 (h + 1 + 2) (by omega), F.1 (h + 1 + 3) (by omega), F.1 (h + 1 + 4) (by omega), F.1 (h + 1 + 5) (by omega), F.1 (h + 1 + 6) (by omega), F.1 (h + 1 + 7) (by omega), F.1 (h + 1 + 8) (by omega), F.1 (h + 10) (by omega), F.1 (h + 11) (by omega)]
  exact ⟨h1, h2, h3, h4, h5, h6⟩
theorem HaC.fr {σ σ' : Mem} {h a b np nw : Nat} {S : Vw} (H : HaC σ h S np nw) (F : FrC a b σ σ') (ha : b ≤ h ∨ h + 12 ≤ a) : HaC σ' h S np nw := by
  obtain ⟨h1, h2, h3, h4, h5, h6⟩ := H
  unfold HaC
  rw [F.1 h (by omega), F.1 (h + 1) (by omega), F.1 (h + 1 + 1) (by omega), F.1 (h + 1 + 2) (by omega), F.1 (h + 1 + 3) (by omega), F.1 (h + 1 + 4) (by omega), F.1 (h + 1 + 5) (by omega), F.1 (h + 1 + 6) (by omega), F.1 (h + 1 + 7) (by omega), F.1 (h + 1 + 8) (by omega), F.1 (h + 10) (by omega), F.1 (h + 11) (by omega)]
  exact ⟨h1, h2, h3, h4, h5, h6⟩
theorem ChC.fr {σ σ' : Mem} {k a b np nw : Nat} {C : Vw} (H : ChC σ k C np nw) (F : FrC a b σ σ') (ha : b ≤ k ∨ k + 9 ≤ a) : ChC σ' k C np nw := by
  obtain ⟨h1, h2, h3, h4, h5⟩ := H
  unfold ChC
  rw [F.1 k (by omega), F.1 (k + 1) (by omega), F.1 (k + 2) (by omega), F.1 (k + 3) (by omega), F.1 (k + 4) (by omega), F.1 (k + 5) (by omega), F.1 (k + 6) (by omega), F.1 (k + 7) (by omega), F.1 (k + 8) (by omega)]
  exact ⟨h1, h2, h3, h4, h5⟩
/-- a hall is entered: all is as told -/
theorem enter_C {σ : Mem} {N h k np nw : Nat} {C : Vw} (hN : 10000 ≤ N) (W : WfV C np nw) (H : ChC σ k C np nw) (hd : k + 9 ≤ h) : Ho (fX2_enter N h k σ) (fun _ σ' => HaC σ' h (asT C) np nw ∧ σ'.1 h 5 = 0 ∧ σ'.1 h 6 = 0 ∧ FrC h (h + 12) σ σ') := by
  have hn := W.1
  have hw6 := W.2.1
  unfold fX2_enter
  rw [ho_bd]
  refine ho_mono (copy_C (N := N) (h := h + 1) (v := k) (by omega)) (fun _ s1 ⟨⟨a1, a2, a3⟩, a4, a5, F1⟩ => ?_)
  rw [ho_bd]
  refine ho_mono (fill_C hN) (fun _ s2 ⟨b1, F2⟩ => ?_)
  rw [ho_bd]
  refine ho_mono (fill_C hN) (fun _ s3 ⟨c1, F3⟩ => ?_)
  simp only [ho_lt]
  have F123 : FrC h (h + 12) σ s3 := (F1.wide (by omega) (by omega)).trans ((F2.wide (by omega) (by omega)).trans (F3.wide (by omega) (by omega)))
  generalize hs4 : pI (pI (pI s3 h 4 0) h 5 0) h 6 0 = s4
  have F4 : FrC h (h + 1) s3 s4 := by rw [← hs4]; exact (((FrC.refl _ _ _).pI (by omega)).pI (by omega)).pI (by omega)
  have o1 : s4.1 h 4 = 0 ∧ s4.1 h 5 = 0 ∧ s4.1 h 6 = 0 := by
    rw [← hs4]; simp (disch := omega) only [pI_nq, pI_eq]; exact ⟨trivial, trivial, trivial⟩
  have r0 : ∀ i, i < 9 → s4.1 (h + 1 + i) = s1.1 (h + 1 + i) := fun i hi => by rw [F4.1 _ (by omega), F3.1 _ (by omega), F2.1 _ (by omega)]
  have r1 : s4.1 (h + 1) = s1.1 (h + 1) := r0 0 (by omega)
  refine ho_loop (F := fun n (v : Int32) s => fX2_enter_l41 N h n v s) (fun i v s => v = Int32.ofNat i ∧ (∀ p, p < np → s.1 (h + 11) p = ldV (asT C) p i) ∧ FrC (h + 11) (h + 12) s4 s) nw ?_ ?_ nw N 0 _ _ (by omega) (by omega) ⟨rfl, fun p hp => ?_, FrC.refl _ _ _⟩
  · intro n i v s hi ⟨hv, h1, F⟩ rec
    subst hv
    show Ho (fX2_enter_b41 N h (fX2_enter_l41 N h n) (Int32.ofNat i) s) _
    unfold fX2_enter_b41
    have e1 : s.1 (h + 1) 1 = Int32.ofNat nw := by rw [F.1 _ (by omega), r1, a2, H.2.1, W.2.2.2.1]
    have e0 : s.1 (h + 1) 0 = Int32.ofNat np := by rw [F.1 _ (by omega), r1, a1, H.1, W.2.2.1]
    have e8 : s.1 (h + 1 + 8) i = asT C 9 i := by rw [F.1 _ (by omega), r0 8 (by omega), (a5 i (by omega)).2, (H.2.2.2.2 i hi).2, asT_at (by omega)]
    have e7 : s.1 (h + 1 + 7) i = asT C 8 i := by rw [F.1 _ (by omega), r0 7 (by omega), (a5 i (by omega)).1, (H.2.2.2.2 i hi).1, asT_at (by omega)]
    have i6 : i < 6 := by omega
    rw [if_neg (by rw [e1, nz_le (by omega) (by omega)]; omega)]
    simp only [nz_inb (show i < 2147483648 by omega), i6, decide_true, ho_gdt, nz_nat (show i < 2147483648 by omega), nz_succ, e7, e8]
    rw [ho_bd]
    refine ho_mono (putLoad_C hn e0 ((asT_wf W).2.2.2.2.2.2.2 i hi)) (fun _ s' ⟨h2, F'⟩ => ?_)
    simp only [ho_lte]
    refine rec _ _ ⟨rfl, fun p hp => ?_, F.trans F'⟩
    rw [h2 p hp, h1 p hp]; rfl
  · intro n v s ⟨hv, h1, F⟩
    subst hv
    show Ho (fX2_enter_b41 N h (fX2_enter_l41 N h n) (Int32.ofNat nw) s) _
    unfold fX2_enter_b41
    have e1 : s.1 (h + 1) 1 = Int32.ofNat nw := by rw [F.1 _ (by omega), r1, a2, H.2.1, W.2.2.2.1]
    rw [if_pos (by rw [e1]; exact Int32.le_refl _), ho_some]
    have rr : ∀ i, i < 9 → s.1 (h + 1 + i) = s1.1 (h + 1 + i) := fun i hi => by rw [F.1 _ (by omega), r0 i hi]
    have rz : s.1 (h + 1) = s1.1 (h + 1) := rr 0 (by omega)
    refine ⟨⟨?_, ?_, ?_, ?_, fun p hp => ?_, fun w hw => ?_⟩, ?_, ?_, F123.trans ((F4.wide (by omega) (by omega)).trans (F.wide (by omega) (by omega)))⟩
    · rw [F.1 _ (by omega), o1.1]; rfl
    · rw [rz, a1, H.1, asT_at (by omega)]
    · rw [rz, a2, H.2.1, asT_at (by omega)]
    · rw [rz, a3, H.2.2.1, asT_at (by omega)]
    · have q := a4 p (by omega)
      have q' := H.2.2.2.1 p hp
      refine ⟨?_, ?_, ?_, ?_, ?_, ?_, ?_, ?_⟩
      · rw [rr 1 (by omega), q.1, q'.1, asT_at (by omega)]
      · rw [rr 2 (by omega), q.2.1, q'.2.1, asT_at (by omega)]
      · rw [rr 3 (by omega), q.2.2.1, q'.2.2.1, asT_at (by omega)]
      · rw [rr 4 (by omega), q.2.2.2.1, q'.2.2.2.1, asT_at (by omega)]
      · rw [rr 5 (by omega), q.2.2.2.2.1, q'.2.2.2.2.1, asT_at (by omega)]
      · rw [rr 6 (by omega), q.2.2.2.2.2, q'.2.2.2.2.2, asT_at (by omega)]
      · rw [F.1 _ (by omega), F4.1 _ (by omega), F3.1 _ (by omega), b1 p (by omega)]; rfl
      · exact h1 p hp
    · have q := a5 w (by omega)
      have q' := H.2.2.2.2 w hw
      refine ⟨?_, ?_⟩
      · rw [rr 7 (by omega), q.1, q'.1, asT_at (by omega)]
      · rw [rr 8 (by omega), q.2, q'.2, asT_at (by omega)]
    · rw [F.1 _ (by omega), o1.2.1]
    · rw [F.1 _ (by omega), o1.2.2]
  · rw [F4.1 _ (by omega), c1 p (by omega)]; rfl
