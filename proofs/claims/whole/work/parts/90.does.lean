theorem bit_over {S : Vw} {p : Nat} : bitM (S 0 4) p = overV S p := by
  unfold bitM overV
  rcases nz_and1 (S 0 4 >>> (Int32.ofNat p &&& 31)) with h | h <;> rw [h] <;> rfl
/-- nothing but the hall has changed -/
def NoP (h : Nat) (σ1 σ2 s1 s2 : Mem) : Prop := s1.1 h = σ1.1 h ∧ s1.1 (h + 14) = σ1.1 (h + 14) ∧ FrS σ2 s2
section DOES
variable {N h c k np nw mm : Nat} {C S : Vw} {a1 a2 σ1 σ2 : Mem}
theorem CJ.up (P : CJ h c C np nw a1 a2 S σ1 σ2) {S' : Vw} {s1 s2 : Mem} (W : WfV S' np nw) (X : WxV S' np) (O : ∀ p, p < np → S' 3 p = C 3 p) (H1 : HaC s1 (h + 1) S' np nw) (H3 : HaM s2 c C S' np nw) (f1 : s1.1 h = σ1.1 h) (f2 : s1.1 (h + 1) 5 = σ1.1 (h + 1) 5 ∧ s1.1 (h + 1) 6 = σ1.1 (h + 1) 6) (F : FrC h (h + 15) σ1 s1) (G : ∀ j, 21 ≤ j → s2.1 0 j = σ2.1 0 j) (K : KM σ2 s2) : CJ h c C np nw a1 a2 S' s1 s2 := by
  obtain ⟨_, _, _, _, _, ⟨p1, p2, p3, p4⟩, F1, K2⟩ := P
  refine ⟨W, X, O, H1, H3, ⟨?_, ?_, ?_, ?_⟩, F1.trans F, K2.trans K⟩
  · rw [f1, G 24 (by omega)]; exact p1
  · rw [f1, G 25 (by omega)]; exact p2
  · rw [f2.1, G 21 (by omega)]; exact p3
  · rw [f2.2, G 22 (by omega)]; exact p4
/-- what a deed but a motion leaves -/
abbrev DeQ (h c : Nat) (C : Vw) (np nw : Nat) (a1 a2 σ1 σ2 : Mem) : Int32 → Mem → Int32 → Mem → Prop := fun r1 s1 r2 s2 => r1 = r2 ∧ (r1 = 0 ∨ r1 = 1) ∧ (∃ S', CJ h c C np nw a1 a2 S' s1 s2) ∧ NoP h σ1 σ2 s1 s2
theorem de_no (P : CJ h c C np nw a1 a2 S σ1 σ2) : DeQ h c C np nw a1 a2 σ1 σ2 0 σ1 0 σ2 := ⟨rfl, Or.inl rfl, ⟨S, P⟩, rfl, rfl, FrS.refl _⟩
theorem CJ.c0 (P : CJ h c C np nw a1 a2 S σ1 σ2) : σ1.1 (h + 1 + 1) 0 = Int32.ofNat np ∧ σ1.1 (h + 1 + 1) 1 = Int32.ofNat nw ∧ σ2.1 0 12 = Int32.ofNat np ∧ σ2.1 0 13 = Int32.ofNat nw := ⟨by rw [P.2.2.2.1.2.1]; exact P.1.2.2.1, by rw [P.2.2.2.1.2.2.1]; exact P.1.2.2.2.1, P.2.2.2.2.1.1.2.1.2.1, P.2.2.2.2.1.1.2.1.2.2⟩
theorem seat_2 (P : CJ h c C np nw a1 a2 S σ1 σ2) {w : Nat} {v : Int32} (hw : w < nw) (hs : Seat np v) : H2 (bd (fX2_seatPerson N (h + 1) (Int32.ofNat w) v σ1) (fun _ s => some ((1 : Int32), s))) (some ((1 : Int32), pI σ2 6 w v)) (DeQ h c C np nw a1 a2 σ1 σ2) := by
  apply h2_l
  obtain ⟨W, X, hO, H1, H3, q, F1, K2⟩ := P
  have P : CJ h c C np nw a1 a2 S σ1 σ2 := ⟨W, X, hO, H1, H3, q, F1, K2⟩
  refine ho_mono (seat_C W H1 hw hs) (fun _ s1 ⟨b1, b2⟩ => ?_)
  refine ⟨rfl, Or.inr rfl, ⟨upV S 9 w v, P.up (upV_wf9 W hs) (wx_up X (by omega)) (fun p hp => by rw [upV_ne _ _ (by omega)]; exact hO p hp) b1 H3.seat (b2.1 _ (by omega)) ⟨by rw [b2.1 _ (by omega)], by rw [b2.1 _ (by omega)]⟩ (b2.wide (by omega) (by omega)) (fun j _ => pI_nq (by omega)) ((FrS.refl _).pI (by omega)).km⟩, b2.1 _ (by omega), b2.1 _ (by omega), (FrS.refl _).pI (by omega)⟩
theorem stand_2 (P : CJ h c C np nw a1 a2 S σ1 σ2) (v : Int32) : H2 (fX1_standsUp N h v σ1) (fX12_stands N v σ2) (DeQ h c C np nw a1 a2 σ1 σ2) := by
  have hw6 := P.1.2.1
  unfold fX1_standsUp fX12_stands
  rw [hasw_eq (np := nw) v P.c0.2.1 (by omega), isPerson_M (nw := nw) v P.c0.2.2.2 (by omega), ho_bds, ho_bds]
  by_cases q : inb v nw = true
  · obtain ⟨w, w1, w2, w3⟩ := inb_nat q
    subst w2
    rw [if_pos q, if_neg (show ¬ (1 : Int32) = 0 by decide), if_neg (show ¬ (1 : Int32) = 0 by decide)]
    simp only [nz_inb (show w < 2147483648 by omega), show w < 6 by omega, decide_true, ho_gdt, nz_nat (show w < 2147483648 by omega), ho_lte]
    rw [(P.2.2.2.1.2.2.2.2.2 w w1).2, (P.2.2.2.2.1.2.2.2 w w1).1]
    by_cases z : S 9 w = 8
    · rw [if_pos z, if_pos z]; exact de_no P
    · rw [if_neg z, if_neg z]; exact seat_2 P w1 (Or.inl rfl)
  · rw [if_neg q, if_pos rfl, if_pos rfl]; exact de_no P
theorem sit_2 (P : CJ h c C np nw a1 a2 S σ1 σ2) (v u : Int32) : H2 (fX1_sitsDown N h v u σ1) (fX12_sits N v u σ2) (DeQ h c C np nw a1 a2 σ1 σ2) := by
  have hw6 := P.1.2.1
  have hn := P.1.1
  unfold fX1_sitsDown fX12_sits
  rw [hasw_eq (np := nw) v P.c0.2.1 (by omega), isPerson_M (nw := nw) v P.c0.2.2.2 (by omega), ho_bds, ho_bds]
  by_cases q : inb v nw = true
  · obtain ⟨w, w1, w2, w3⟩ := inb_nat q
    subst w2
    rw [if_pos q, if_neg (by decide), if_neg (by decide), has_eq (np := np) u P.c0.1 hn, isPiece_M (np := np) u P.c0.2.2.1 hn, ho_bds, ho_bds]
    by_cases q2 : inb u np = true
    · obtain ⟨p, p1, p2, p3⟩ := inb_nat q2
      subst p2
      rw [if_pos q2, if_neg (by decide), if_neg (by decide), isOver_C P.2.2.2.1, holds_M, ho_bds, ho_bds, P.2.2.2.2.1.2.1.2, bit_over]
      simp only [nz_inb (show w < 2147483648 by omega), show w < 6 by omega, decide_true, ho_gdt, nz_nat (show w < 2147483648 by omega), ho_lte, ite10]
      by_cases o : overV S p = true
      · rw [if_neg (fun z => z o), if_neg (fun z => z o)]; exact de_no P
      · rw [if_pos o, if_pos o, (P.2.2.2.1.2.2.2.2.2 w w1).2, (P.2.2.2.2.1.2.2.2 w w1).1]
        by_cases z : S 9 w = Int32.ofNat p
        · rw [if_pos z, if_pos z]; exact de_no P
        · rw [if_neg z, if_neg z]; exact seat_2 P w1 (Or.inr ⟨p, p1, rfl⟩)
    · rw [if_neg q2, if_pos rfl, if_pos rfl]; exact de_no P
  · rw [if_neg q, if_pos rfl, if_pos rfl]; exact de_no P
theorem wax_2 (P : CJ h c C np nw a1 a2 S σ1 σ2) (v : Int32) : H2 (fX1_takesWax N h v σ1) (fX12_waxes N v σ2) (DeQ h c C np nw a1 a2 σ1 σ2) := by
  have hn := P.1.1
  unfold fX1_takesWax fX12_waxes
  rw [has_eq (np := np) v P.c0.1 hn, isPiece_M (np := np) v P.c0.2.2.1 hn, ho_bds, ho_bds]
  by_cases q : inb v np = true
  · obtain ⟨p, p1, p2, p3⟩ := inb_nat q
    subst p2
    obtain ⟨x, x1, x2⟩ := P.2.1 p p1
    rw [if_pos q, if_neg (show ¬ (1 : Int32) = 0 by decide), if_neg (show ¬ (1 : Int32) = 0 by decide)]
    simp only [nz_inb (show p < 2147483648 by omega), show p < 8 by omega, decide_true, ho_gdt, nz_nat (show p < 2147483648 by omega), ho_lte]
    rw [(P.2.2.2.1.2.2.2.2.1 p p1).2.2.2.2.2.2.1, (P.2.2.2.2.1.2.2.1 p p1).2.1, x2, nz_succ]
    by_cases z : x = 9
    · subst z
      rw [if_neg (show ¬ Int32.ofNat 9 < 9 by decide), if_pos (show Int32.ofNat 9 = 9 from rfl)]; exact de_no P
    · rw [if_pos (show Int32.ofNat x < 9 by rw [z_gt (by omega) (by omega)]; omega), if_neg (show ¬ Int32.ofNat x = 9 by rw [z_eq (by omega) (by omega)]; exact z)]
      obtain ⟨W, X, hO, H1, H3, q', F1, K2⟩ := P
      have P : CJ h c C np nw a1 a2 S σ1 σ2 := ⟨W, X, hO, H1, H3, q', F1, K2⟩
      refine ⟨rfl, Or.inr rfl, ⟨_, P.up (upV_wf W (by omega)) (wx_up10 X (x := x + 1) (by omega)) (fun p hp => by rw [upV_ne _ _ (by omega)]; exact hO p hp) H1.wax H3.wax (pI_ne (by omega)) ⟨pI_nq (by omega), pI_nq (by omega)⟩ ((FrC.refl _ _ _).pI (by omega)) (fun j _ => pI_nq (by omega)) ((FrS.refl _).pI (by omega)).km⟩, pI_ne (by omega), pI_ne (by omega), (FrS.refl _).pI (by omega)⟩
  · rw [if_neg q, if_pos rfl, if_pos rfl]; exact de_no P
theorem set_2 (P : CJ h c C np nw a1 a2 S σ1 σ2) (v : Int32) : H2 (fX1_isSetUp N h v σ1) (fX12_sets N v σ2) (DeQ h c C np nw a1 a2 σ1 σ2) := by
  have hn := P.1.1
  unfold fX1_isSetUp fX12_sets
  rw [has_eq (np := np) v P.c0.1 hn, isPiece_M (np := np) v P.c0.2.2.1 hn, ho_bds, ho_bds]
  by_cases q : inb v np = true
  · obtain ⟨p, p1, p2, p3⟩ := inb_nat q
    subst p2
    rw [if_pos q, if_neg (by decide), if_neg (by decide), isOver_C P.2.2.2.1, holds_M, ho_bds, ho_bds, P.2.2.2.2.1.2.1.2, bit_over]
    simp only [ho_lte, ite10]
    by_cases o : overV S p = true
    · rw [if_neg (fun z => z o), if_neg (fun z => z o), P.2.2.2.1.1]
      obtain ⟨W, X, hO, H1, H3, q', F1, K2⟩ := P
      have P : CJ h c C np nw a1 a2 S σ1 σ2 := ⟨W, X, hO, H1, H3, q', F1, K2⟩
      refine ⟨rfl, Or.inr rfl, ⟨_, P.up (upV_wf W (by omega)) (wx_up X (by omega)) (fun p hp => by rw [upV_ne _ _ (by omega)]; exact hO p hp) H1.over H3.over (pI_ne (by omega)) ⟨pI_nq (by omega), pI_nq (by omega)⟩ ((FrC.refl _ _ _).pI (by omega)) (fun j _ => pI_nq (by omega)) ((FrS.refl _).pI (by omega)).km⟩, pI_ne (by omega), pI_ne (by omega), (FrS.refl _).pI (by omega)⟩
    · rw [if_pos o, if_pos o]; exact de_no P
  · rw [if_neg q, if_pos rfl, if_pos rfl]; exact de_no P
theorem damp_2 (P : CJ h c C np nw a1 a2 S σ1 σ2) (v : Int32) : H2 (fX1_changesDamp N h v σ1) (fX12_dampens N v σ2) (DeQ h c C np nw a1 a2 σ1 σ2) := by
  unfold fX1_changesDamp fX12_dampens
  rw [isIn_Z, ho_bds, P.2.2.2.1.2.2.2.1, P.2.2.2.2.1.2.1.1]
  simp only [ho_lte, ite10, i32_lt, i32_le, Int32.reduceToInt]
  by_cases q : 0 ≤ (S 1 2 + v).toInt ∧ (S 1 2 + v).toInt ≤ 9
  · rw [if_neg (show ¬ (S 1 2 + v).toInt < 0 by omega), if_pos q.2, if_neg (fun z => z q)]
    obtain ⟨W, X, hO, H1, H3, q', F1, K2⟩ := P
    have P : CJ h c C np nw a1 a2 S σ1 σ2 := ⟨W, X, hO, H1, H3, q', F1, K2⟩
    refine ⟨rfl, Or.inr rfl, ⟨_, P.up (upV_wf W (by omega)) (wx_up X (by omega)) (fun p hp => by rw [upV_ne _ _ (by omega)]; exact hO p hp) H1.damp H3.damp (pI_ne (by omega)) ⟨pI_nq (by omega), pI_nq (by omega)⟩ ((FrC.refl _ _ _).pI (by omega)) (fun j _ => pI_nq (by omega)) ((FrS.refl _).pI (by omega)).km⟩, pI_ne (by omega), pI_ne (by omega), (FrS.refl _).pI (by omega)⟩
  · rw [if_pos q]
    by_cases z : (S 1 2 + v).toInt < 0
    · rw [if_pos z]; exact de_no P
    · rw [if_neg z, if_neg (by omega)]; exact de_no P
theorem night_2 (hN : 10000 ≤ N) (P : CJ h c C np nw a1 a2 S σ1 σ2) : H2 (bd (fX2_passNight N (h + 1) σ1) (fun _ s => some ((1 : Int32), s))) (bd (fX12_sleeps N σ2) (fun _ s => some ((1 : Int32), s))) (DeQ h c C np nw a1 a2 σ1 σ2) := by
  obtain ⟨W, X, hO, H1, H3, q', F1, K2⟩ := P
  have P : CJ h c C np nw a1 a2 S σ1 σ2 := ⟨W, X, hO, H1, H3, q', F1, K2⟩
  apply h2_l
  refine ho_mono (night_C hN W H1) (fun _ s1 ⟨b1, b2⟩ => ?_)
  apply h2_r
  refine ho_mono (sleeps_M hN X hO H3) (fun _ s2 ⟨d1, d2, d3⟩ => ?_)
  exact ⟨rfl, Or.inr rfl, ⟨_, P.up (nightV_wf W) (wx_night X) (fun p hp => by rw [nightV_ne (by omega)]; exact hO p hp) b1 d1 (b2.1 _ (by omega)) ⟨by rw [b2.1 _ (by omega)], by rw [b2.1 _ (by omega)]⟩ (b2.wide (by omega) (by omega)) (fun j _ => d3 j) d2.km⟩, b2.1 _ (by omega), b2.1 _ (by omega), d2.toS⟩
/-- a deed -/
def DoP (h np : Nat) (t : Nat) (σ1 σ2 s1 s2 : Mem) (r : Int32) : Prop := (t ≠ 0 ∧ NoP h σ1 σ2 s1 s2) ∨ (t = 0 ∧ r = 1 ∧ ∃ b, PuP h np σ1 σ2 s1 s2 b)
theorem gd01 {α : Type} {r : Int32} {κ : Option α} (h : r = 0 ∨ r = 1) : gd (decide (r = 0 ∨ r = 1)) κ = κ := by rw [decide_eq_true h]; rfl
theorem does_2 (hN : 10000 ≤ N) (P : CJ h c C np nw a1 a2 S σ1 σ2) {t : Nat} {a b u : Int32} (hu : u = Int32.ofNat t) (ht : t ≤ 7) (ha : t = 0 → ∃ m, m < 64 ∧ a = Int32.ofNat m) : H2 (fX1_does N h u a b σ1) (fX12_does N u a b σ2) (fun r1 s1 r2 s2 => r1 = r2 ∧ (r1 = 0 ∨ r1 = 1) ∧ (∃ S', CJ h c C np nw a1 a2 S' s1 s2) ∧ DoP h np t σ1 σ2 s1 s2 r1) := by
  subst hu
  unfold fX1_does fX12_does
  have wrap : ∀ {κ1 κ2 : Option (Int32 × Mem)}, t ≠ 0 → H2 κ1 κ2 (DeQ h c C np nw a1 a2 σ1 σ2) → H2 (bd κ1 (fun r s => gd (decide (r = 0 ∨ r = 1)) (some (r, s)))) (bd κ2 (fun r s => gd (decide (r = 0 ∨ r = 1)) (some (r, s)))) (fun r1 s1 r2 s2 => r1 = r2 ∧ (r1 = 0 ∨ r1 = 1) ∧ (∃ S', CJ h c C np nw a1 a2 S' s1 s2) ∧ DoP h np t σ1 σ2 s1 s2 r1) := by
    intro κ1 κ2 h0 hh
    apply h2_lr
    refine h2_mono hh (fun r1 s1 r2 s2 ⟨e1, e2, e3, e4⟩ => ?_)
    rw [← e1, gd01 e2, gd01 e2]
    exact ⟨rfl, e2, e3, Or.inl ⟨h0, e4⟩⟩
  have cs : t = 0 ∨ t = 1 ∨ t = 2 ∨ t = 3 ∨ t = 4 ∨ t = 5 ∨ t = 6 ∨ t = 7 := by omega
  rcases cs with e | e | e | e | e | e | e | e
  · obtain ⟨m, m1, m2⟩ := ha e
    subst e m2
    rw [if_pos (show Int32.ofNat 0 = 0 from rfl), if_pos (show Int32.ofNat 0 = 0 from rfl)]
    apply h2_lr
    refine h2_mono (put_2 hN P m1) (fun _ s1 _ s2 ⟨S', b, e1, e2⟩ => ?_)
    exact ⟨rfl, Or.inr rfl, ⟨S', e1⟩, Or.inr ⟨rfl, rfl, b, e2⟩⟩
  · subst e
    rw [if_neg (show ¬ Int32.ofNat 1 = 0 by decide), if_neg (show ¬ Int32.ofNat 1 = 0 by decide), if_pos (show Int32.ofNat 1 = 1 from rfl), if_pos (show Int32.ofNat 1 = 1 from rfl)]
    exact wrap (by omega) (stand_2 P a)
  · subst e
    rw [if_neg (show ¬ Int32.ofNat 2 = 0 by decide), if_neg (show ¬ Int32.ofNat 2 = 0 by decide), if_neg (show ¬ Int32.ofNat 2 = 1 by decide), if_neg (show ¬ Int32.ofNat 2 = 1 by decide), if_pos (show Int32.ofNat 2 = 2 from rfl), if_pos (show Int32.ofNat 2 = 2 from rfl)]
    exact wrap (by omega) (wax_2 P a)
  · subst e
    rw [if_neg (show ¬ Int32.ofNat 3 = 0 by decide), if_neg (show ¬ Int32.ofNat 3 = 0 by decide), if_neg (show ¬ Int32.ofNat 3 = 1 by decide), if_neg (show ¬ Int32.ofNat 3 = 1 by decide), if_neg (show ¬ Int32.ofNat 3 = 2 by decide), if_neg (show ¬ Int32.ofNat 3 = 2 by decide), if_pos (show Int32.ofNat 3 = 3 from rfl), if_pos (show Int32.ofNat 3 = 3 from rfl)]
    exact wrap (by omega) (set_2 P a)
  · subst e
    rw [if_neg (show ¬ Int32.ofNat 4 = 0 by decide), if_neg (show ¬ Int32.ofNat 4 = 0 by decide), if_neg (show ¬ Int32.ofNat 4 = 1 by decide), if_neg (show ¬ Int32.ofNat 4 = 1 by decide), if_neg (show ¬ Int32.ofNat 4 = 2 by decide), if_neg (show ¬ Int32.ofNat 4 = 2 by decide), if_neg (show ¬ Int32.ofNat 4 = 3 by decide), if_neg (show ¬ Int32.ofNat 4 = 3 by decide), if_pos (show Int32.ofNat 4 = 4 from rfl), if_pos (show Int32.ofNat 4 = 4 from rfl)]
    exact wrap (by omega) (sit_2 P a b)
  · subst e
    rw [if_neg (show ¬ Int32.ofNat 5 = 0 by decide), if_neg (show ¬ Int32.ofNat 5 = 0 by decide), if_neg (show ¬ Int32.ofNat 5 = 1 by decide), if_neg (show ¬ Int32.ofNat 5 = 1 by decide), if_neg (show ¬ Int32.ofNat 5 = 2 by decide), if_neg (show ¬ Int32.ofNat 5 = 2 by decide), if_neg (show ¬ Int32.ofNat 5 = 3 by decide), if_neg (show ¬ Int32.ofNat 5 = 3 by decide), if_neg (show ¬ Int32.ofNat 5 = 4 by decide), if_neg (show ¬ Int32.ofNat 5 = 4 by decide), if_pos (show Int32.ofNat 5 = 5 from rfl), if_pos (show Int32.ofNat 5 = 5 from rfl)]
    exact wrap (by omega) (damp_2 P 1)
  · subst e
    rw [if_neg (show ¬ Int32.ofNat 6 = 0 by decide), if_neg (show ¬ Int32.ofNat 6 = 0 by decide), if_neg (show ¬ Int32.ofNat 6 = 1 by decide), if_neg (show ¬ Int32.ofNat 6 = 1 by decide), if_neg (show ¬ Int32.ofNat 6 = 2 by decide), if_neg (show ¬ Int32.ofNat 6 = 2 by decide), if_neg (show ¬ Int32.ofNat 6 = 3 by decide), if_neg (show ¬ Int32.ofNat 6 = 3 by decide), if_neg (show ¬ Int32.ofNat 6 = 4 by decide), if_neg (show ¬ Int32.ofNat 6 = 4 by decide), if_neg (show ¬ Int32.ofNat 6 = 5 by decide), if_neg (show ¬ Int32.ofNat 6 = 5 by decide), if_pos (show Int32.ofNat 6 = 6 from rfl), if_pos (show Int32.ofNat 6 = 6 from rfl)]
    generalize (-1 : Int32) = d6
    exact wrap (by omega) (damp_2 P d6)
  · subst e
    rw [if_neg (show ¬ Int32.ofNat 7 = 0 by decide), if_neg (show ¬ Int32.ofNat 7 = 0 by decide), if_neg (show ¬ Int32.ofNat 7 = 1 by decide), if_neg (show ¬ Int32.ofNat 7 = 1 by decide), if_neg (show ¬ Int32.ofNat 7 = 2 by decide), if_neg (show ¬ Int32.ofNat 7 = 2 by decide), if_neg (show ¬ Int32.ofNat 7 = 3 by decide), if_neg (show ¬ Int32.ofNat 7 = 3 by decide), if_neg (show ¬ Int32.ofNat 7 = 4 by decide), if_neg (show ¬ Int32.ofNat 7 = 4 by decide), if_neg (show ¬ Int32.ofNat 7 = 5 by decide), if_neg (show ¬ Int32.ofNat 7 = 5 by decide), if_neg (show ¬ Int32.ofNat 7 = 6 by decide), if_neg (show ¬ Int32.ofNat 7 = 6 by decide), if_pos (show Int32.ofNat 7 = 7 from rfl)]
    refine h2_mono (night_2 hN P) (fun r1 s1 r2 s2 ⟨e1, e2, e3, e4⟩ => ⟨e1, e2, e3, Or.inl ⟨by omega, e4⟩⟩)
/-- what begins leaves beside -/
def FrB (σ σ' : Mem) : Prop := (∀ k j, ¬ (k = 0 ∧ 14 ≤ j ∧ j ≤ 26 ∧ j ≠ 23) → ¬ (4 ≤ k ∧ k ≤ 7) → σ'.1 k j = σ.1 k j) ∧ σ'.2 = σ.2
theorem FrB.km {σ s : Mem} (x : FrB σ s) : KM σ s := ⟨by funext j; exact x.1 1 j (by omega) (by omega), by funext j; exact x.1 2 j (by omega) (by omega)⟩
theorem begin_2 (hN : 10000 ≤ N) (W : ChW C np nw) (HC : ChC a1 k C np nw) (hd : k + 9 ≤ h) (HM : HcM a2 c C np nw) : H2 (fX1_begin N h k a1) (fX12_begins N a2) (fun _ s1 _ s2 => CJ h c C np nw a1 a2 (asT C) s1 s2 ∧ FrB a2 s2 ∧ (s1.1 h 1 = 0 ∧ s1.1 h 2 = 0 ∧ s1.1 h 3 = 0 ∧ s1.1 h 4 = 0 ∧ s1.1 h 5 = -1 ∧ s1.1 h 6 = a1.1 h 6) ∧ s2.1 0 26 = 0 ∧ ∀ p, p < 8 → s1.1 (h + 14) p = 0) := by
  unfold fX1_begin fX12_begins
  refine pj_enter hN W HC (by omega) HM (fun r1 r2 t1 t2 P z5 z6 _ _ => ?_)
  simp only [ho_lte]
  generalize hw : pI (pI (pI (pI (pI t1 h 1 0) h 2 0) h 3 0) h 4 0) h 5 (-1) = w1
  generalize hw2 : pI (pI (pI (pI (pI t2 0 24 0) 0 25 0) 0 21 0) 0 22 0) 0 26 0 = w2
  have Fw : FrC h (h + 1) t1 w1 := ⟨fun a ha => by funext b; rw [← hw, pI_nq (by omega), pI_nq (by omega), pI_nq (by omega), pI_nq (by omega), pI_nq (by omega)], by rw [← hw]; rfl⟩
  have ow : w1.1 h 1 = 0 ∧ w1.1 h 2 = 0 ∧ w1.1 h 3 = 0 ∧ w1.1 h 4 = 0 ∧ w1.1 h 5 = -1 ∧ w1.1 h 6 = a1.1 h 6 := by
    have : t1.1 h 6 = a1.1 h 6 := by rw [P.2.2.2.1.1 h (by omega)]
    rw [← hw]; simp (disch := omega) only [pI_nq, pI_eq]; exact ⟨trivial, trivial, trivial, trivial, trivial, this⟩
  have ow2 : w2.1 0 24 = 0 ∧ w2.1 0 25 = 0 ∧ w2.1 0 21 = 0 ∧ w2.1 0 22 = 0 ∧ w2.1 0 26 = 0 := by
    rw [← hw2]; simp (disch := omega) only [pI_nq, pI_eq]; exact ⟨trivial, trivial, trivial, trivial, trivial⟩
  have A2 : ∀ a b, ¬ (a = 0 ∧ 21 ≤ b ∧ b ≤ 26 ∧ b ≠ 23) → w2.1 a b = t2.1 a b := fun a b hh => by
    rw [← hw2]; rw [pI_nq (by omega), pI_nq (by omega), pI_nq (by omega), pI_nq (by omega), pI_nq (by omega)]
  have B2 : FrB a2 w2 := ⟨fun a b h1 h2 => by rw [A2 a b (by omega)]; exact P.2.2.2.2.1 a b (by omega) h2, by rw [← hw2]; exact P.2.2.2.2.2⟩
  apply h2_l
  refine ho_mono (fill_C (c := h + 14) hN) (fun _ s1 ⟨f1, f2⟩ => ?_)
  have G1 : HaC s1 (h + 1) (asT C) np nw := (P.2.1.fr Fw (by omega)).fr f2 (by omega)
  have G2 : HaM w2 c C (asT C) np nw := P.2.2.1.ag ⟨by funext j; exact A2 _ _ (by omega), by funext j; exact A2 _ _ (by omega), by funext j; exact A2 _ _ (by omega), by funext j; exact A2 _ _ (by omega), fun j _ _ => A2 _ _ (by omega)⟩
  refine ⟨⟨P.1, wx_asT, fun p _ => asT_at (by omega), G1, G2, ⟨?_, ?_, ?_, ?_⟩, ?_, B2.km⟩, B2, ?_, ow2.2.2.2.2, f1⟩
  · rw [f2.1 h (by omega), ow.1, ow2.1]
  · rw [f2.1 h (by omega), ow.2.1, ow2.2.1]
  · rw [f2.1 _ (by omega), Fw.1 _ (by omega), z5, ow2.2.2.1]
  · rw [f2.1 _ (by omega), Fw.1 _ (by omega), z6, ow2.2.2.2.1]
  · exact ((P.2.2.2.1.wide (by omega) (by omega)).trans (Fw.wide (by omega) (by omega))).trans (f2.wide (by omega) (by omega))
  · rw [f2.1 h (by omega)]; exact ow
end DOES
