/-- a hall's scratch of the reference alone may change -/
def FrH (σ σ' : Mem) : Prop := (∀ k j, ¬ (k = 0 ∧ 14 ≤ j ∧ j ≤ 22) → ¬ (4 ≤ k ∧ k ≤ 7) → σ'.1 k j = σ.1 k j) ∧ σ'.2 = σ.2
theorem FrH.refl (σ : Mem) : FrH σ σ := ⟨fun _ _ _ _ => rfl, rfl⟩
theorem FrH.trans {σ σ' σ'' : Mem} (x : FrH σ σ') (y : FrH σ' σ'') : FrH σ σ'' := ⟨fun k j h1 h2 => by rw [y.1 k j h1 h2, x.1 k j h1 h2], by rw [y.2, x.2]⟩
theorem FrM.toH {σ σ' : Mem} (x : FrM σ σ') : FrH σ σ' := ⟨fun k j h1 h2 => x.1 k j (by omega) (by omega), x.2⟩
theorem FrH.pI {σ σ' : Mem} {k j : Nat} {v : Int32} (x : FrH σ σ') (h : (k = 0 ∧ 14 ≤ j ∧ j ≤ 22) ∨ (4 ≤ k ∧ k ≤ 7)) : FrH σ (pI σ' k j v) := ⟨fun a b h1 h2 => by rw [pI_nq (by omega)]; exact x.1 a b h1 h2, x.2⟩
theorem FrH.cell {σ σ' : Mem} (x : FrH σ σ') {k : Nat} (h : k ≠ 0 ∧ ¬ (4 ≤ k ∧ k ≤ 7)) : σ'.1 k = σ.1 k := by funext j; exact x.1 k j (by omega) (by omega)
theorem HcM.frh {σ σ' : Mem} {c np nw : Nat} {C : Vw} (H : HcM σ c C np nw) (F : FrH σ σ') : HcM σ' c C np nw := H.ag (F.cell (by omega)) (fun j h1 h2 => F.1 0 j (by omega) (by omega))
theorem asTold_M {σ : Mem} {N c np nw : Nat} {C : Vw} (hN : 10000 ≤ N) (H : HcM σ c C np nw) : Ho (fX12_asTold N σ) (fun _ σ' => HaM σ' c C (asT C) np nw ∧ FrH σ σ' ∧ σ'.1 0 21 = σ.1 0 21 ∧ σ'.1 0 22 = σ.1 0 22) := by
  obtain ⟨⟨c1, c2, c3⟩, ⟨d1, d2, d3⟩, e1, e2, e3, e4, e5⟩ := H
  have H : HcM σ c C np nw := ⟨⟨c1, c2, c3⟩, ⟨d1, d2, d3⟩, e1, e2, e3, e4, e5⟩
  unfold fX12_asTold
  rw [d1, show (2 : Int32) = Int32.ofNat 2 from rfl]
  simp only [nz_add, ho_lt, nz_inb (show c + 2 < 2147483648 by omega), show c + 2 < 4176 by omega, decide_true, ho_gdt, nz_nat (show c + 2 < 2147483648 by omega), e3]
  generalize hs3 : pI (pI (pI σ 0 14 (C 1 2)) 0 15 0) 0 16 0 = s3
  have F3 : FrH σ s3 := by rw [← hs3]; exact (((FrH.refl σ).pI (by omega)).pI (by omega)).pI (by omega)
  have o3 : s3.1 0 14 = C 1 2 ∧ s3.1 0 15 = 0 ∧ s3.1 0 16 = 0 := by
    rw [← hs3]; simp (disch := omega) only [pI_nq, pI_eq]; exact ⟨trivial, trivial, trivial⟩
  have o4 : s3.1 0 21 = σ.1 0 21 ∧ s3.1 0 22 = σ.1 0 22 := by
    rw [← hs3]; simp (disch := omega) only [pI_nq]; exact ⟨trivial, trivial⟩
  refine ho_loop (F := fun n (v : Int32) s => fX12_asTold_l27 N n v s) (fun i v s => v = Int32.ofNat i ∧ (∀ k j, k ≠ 4 → k ≠ 5 → s.1 k j = s3.1 k j) ∧ s.2 = s3.2 ∧ ∀ p, p < i → s.1 4 p = C 4 p ∧ s.1 5 p = 0) np ?_ ?_ np N 0 _ _ (by omega) (by omega) ⟨rfl, fun _ _ _ _ => rfl, rfl, fun p hp => absurd hp (Nat.not_lt_zero p)⟩
  · intro n i v s hi ⟨hv, F, F2, h1⟩ rec
    subst hv
    show Ho (fX12_asTold_b27 N (fX12_asTold_l27 N n) (Int32.ofNat i) s) _
    have Hs : HcM s c C np nw := (H.frh F3).ag (by funext j; exact F 1 j (by omega) (by omega)) (fun j _ _ => F 0 j (by omega) (by omega))
    unfold fX12_asTold_b27
    rw [if_neg (by rw [Hs.2.1.2.1, nz_le (by omega) (by omega)]; omega)]
    simp only [of_M2 Hs hi, ho_bds, nz_inb (show i < 2147483648 by omega), show i < 8 by omega, decide_true, ho_gdt, ho_lte, nz_nat (show i < 2147483648 by omega), nz_succ]
    refine rec _ _ ⟨rfl, fun k j k4 k5 => ?_, F2, fun p hp => ?_⟩
    · rw [pI_nq (by omega), pI_nq (by omega)]; exact F k j k4 k5
    · by_cases q : p = i
      · subst q; rw [pI_nq (by omega), pI_eq, pI_eq]; exact ⟨rfl, rfl⟩
      · rw [pI_nq (by omega), pI_nq (by omega), pI_nq (by omega), pI_nq (by omega)]; exact h1 p (by omega)
  · intro n v s ⟨hv, F, F2, h1⟩
    subst hv
    show Ho (fX12_asTold_b27 N (fX12_asTold_l27 N n) (Int32.ofNat np) s) _
    have Hs : HcM s c C np nw := (H.frh F3).ag (by funext j; exact F 1 j (by omega) (by omega)) (fun j _ _ => F 0 j (by omega) (by omega))
    unfold fX12_asTold_b27
    rw [if_pos (by rw [Hs.2.1.2.1]; exact Int32.le_refl _)]
    simp only [ho_lte]
    refine ho_loop (F := fun n (v : Int32) t => fX12_asTold_l62 N n v t) (fun i v t => v = Int32.ofNat i ∧ (∀ k j, k ≠ 6 → t.1 k j = s.1 k j) ∧ t.2 = s.2 ∧ ∀ w, w < i → t.1 6 w = C 9 w) nw ?_ ?_ nw N 0 _ _ (by omega) (by omega) ⟨rfl, fun _ _ _ => rfl, rfl, fun p hp => absurd hp (Nat.not_lt_zero p)⟩
    · intro n i v t hi ⟨hv, G, G2, g1⟩ rec
      subst hv
      show Ho (fX12_asTold_b62 N (fX12_asTold_l62 N n) (Int32.ofNat i) t) _
      have Ht : HcM t c C np nw := Hs.ag (by funext j; exact G 1 j (by omega)) (fun j _ _ => G 0 j (by omega))
      unfold fX12_asTold_b62
      rw [if_neg (by rw [Ht.2.1.2.2, nz_le (by omega) (by omega)]; omega)]
      simp only [ofP_M1 Ht hi, ho_bds, nz_inb (show i < 2147483648 by omega), show i < 6 by omega, decide_true, ho_gdt, ho_lte, nz_nat (show i < 2147483648 by omega), nz_succ]
      refine rec _ _ ⟨rfl, fun k j k6 => ?_, G2, fun w hw => ?_⟩
      · rw [pI_nq (by omega)]; exact G k j k6
      · by_cases q : w = i
        · subst q; exact pI_eq
        · rw [pI_nq (by omega)]; exact g1 w (by omega)
    · intro n v t ⟨hv, G, G2, g1⟩
      subst hv
      show Ho (fX12_asTold_b62 N (fX12_asTold_l62 N n) (Int32.ofNat nw) t) _
      have Ht : HcM t c C np nw := Hs.ag (by funext j; exact G 1 j (by omega)) (fun j _ _ => G 0 j (by omega))
      unfold fX12_asTold_b62
      rw [if_pos (by rw [Ht.2.1.2.2]; exact Int32.le_refl _), ho_some]
      refine ⟨⟨Ht, ⟨?_, ?_⟩, fun p hp => ⟨?_, ?_, ?_, ?_, ?_, ?_, ?_⟩, fun w hw => ⟨?_, ?_⟩⟩, ⟨fun k j k1 k2 => ?_, ?_⟩, ?_, ?_⟩
      · rw [G _ _ (by omega), F _ _ (by omega) (by omega), o3.1, asT_at (by omega)]
      · rw [G _ _ (by omega), F _ _ (by omega) (by omega), o3.2.1]; rfl
      · rw [G _ _ (by omega), (h1 p hp).1, asT_at (by omega)]
      · rw [G _ _ (by omega), (h1 p hp).2]; rfl
      · rw [asT_at (by omega)]
      · rw [asT_at (by omega), G _ _ (by omega), F _ _ (by omega) (by omega), o3.2.2]
        have : bitM 0 p = false := by unfold bitM; simp
        rw [this]; rfl
      · rw [asT_at (by omega)]
      · rw [asT_at (by omega)]
      · rw [asT_at (by omega)]
      · rw [g1 w hw, asT_at (by omega)]
      · rw [asT_at (by omega)]
      · rw [G _ _ (by omega), F _ _ (by omega) (by omega)]; exact F3.1 k j k1 k2
      · rw [G2, F2]; exact F3.2
      · rw [G _ _ (by omega), F _ _ (by omega) (by omega)]; exact o4.1
      · rw [G _ _ (by omega), F _ _ (by omega) (by omega)]; exact o4.2
/-- waxes are 0 .. 9 -/
def WxV (S : Vw) (np : Nat) : Prop := ∀ p, p < np → ∃ x, x ≤ 9 ∧ S 10 p = Int32.ofNat x
theorem wx_asT {C : Vw} {np : Nat} : WxV (asT C) np := fun p _ => ⟨0, by omega, rfl⟩
theorem wx_night {S : Vw} {np : Nat} (h : WxV S np) : WxV (nightV S np) np := by
  intro p hp
  obtain ⟨x, h1, h2⟩ := h p hp
  refine ⟨x - 1, by omega, ?_⟩
  unfold nightV
  rw [if_neg (by omega), if_pos ⟨rfl, hp⟩, h2]
  have key : ∀ x, x < 10 → mxI 0 (Int32.ofNat x - 1) = Int32.ofNat (x - 1) := by decide
  exact key x (by omega)
theorem wx_up {S : Vw} {np i j : Nat} {v : Int32} (h : WxV S np) (hi : i ≠ 10) : WxV (upV S i j v) np := by
  intro p hp
  rw [upV_ne S v (by omega)]; exact h p hp
theorem wx_up10 {S : Vw} {np j x : Nat} (h : WxV S np) (hx : x ≤ 9) : WxV (upV S 10 j (Int32.ofNat x)) np := by
  intro p hp
  by_cases q : p = j
  · subst q; rw [upV_eq]; exact ⟨x, hx, rfl⟩
  · rw [upV_ne S _ (by omega)]; exact h p hp
theorem wx_key : ∀ x, x < 10 → (if Int32.ofNat x ≤ 0 then Int32.ofNat x - 0 else Int32.ofNat x - 1) = mxI 0 (Int32.ofNat x - 1) := by decide
theorem sleeps_M {σ : Mem} {N c np nw : Nat} {C S : Vw} (hN : 10000 ≤ N) (X : WxV S np) (hO : ∀ p, p < np → S 3 p = C 3 p) (H : HaM σ c C S np nw) : Ho (fX12_sleeps N σ) (fun _ σ' => HaM σ' c C (nightV S np) np nw ∧ FrH σ σ' ∧ ∀ j, σ'.1 0 j = σ.1 0 j) := by
  have hn := H.1.1.2.1
  unfold fX12_sleeps
  simp only [ho_lt]
  refine ho_loop (F := fun n (v : Int32) s => fX12_sleeps_l2 N n v s) (fun i v s => v = Int32.ofNat i ∧ (∀ k j, ¬ (k = 4 ∧ j < i) → ¬ (k = 5 ∧ j < i) → s.1 k j = σ.1 k j) ∧ s.2 = σ.2 ∧ ∀ p, p < i → s.1 4 p = nightV S np 4 p ∧ s.1 5 p = nightV S np 10 p) np ?_ ?_ np N 0 _ _ (by omega) (by omega) ⟨rfl, fun _ _ _ _ => rfl, rfl, fun p hp => absurd hp (Nat.not_lt_zero p)⟩
  · intro n i v s hi ⟨hv, F, F2, h1⟩ rec
    subst hv
    show Ho (fX12_sleeps_b2 N (fX12_sleeps_l2 N n) (Int32.ofNat i) s) _
    have Hs : HcM s c C np nw := H.1.ag (by funext j; exact F 1 j (by omega) (by omega)) (fun j _ _ => F 0 j (by omega) (by omega))
    obtain ⟨x, hx, hx2⟩ := X i hi
    have q := H.2.2.1 i hi
    have r4 : s.1 4 i = S 4 i := by rw [F _ _ (by omega) (by omega)]; exact q.1
    have r5 : s.1 5 i = Int32.ofNat x := by rw [F _ _ (by omega) (by omega), q.2.1]; exact hx2
    unfold fX12_sleeps_b2 fX12_sleeps_b31 fX12_sleeps_b50 fX12_sleeps_b72
    rw [if_neg (by rw [Hs.2.1.2.1, nz_le (by omega) (by omega)]; omega)]
    simp (disch := omega) only [of_M1 Hs hi, ho_bds, nz_inb (show i < 2147483648 by omega), show i < 8 by omega, decide_true, ho_gdt, ho_lte, nz_nat (show i < 2147483648 by omega), nz_succ, pI_nq, r4, r5]
    have fin : ∀ (y z : Int32), y = nightV S np 4 i → z = nightV S np 10 i → Ho (fX12_sleeps_l2 N n (Int32.ofNat (i + 1)) (pI (pI s 4 i y) 5 i z)) (fun _ σ' => HaM σ' c C (nightV S np) np nw ∧ FrH σ σ' ∧ ∀ j, σ'.1 0 j = σ.1 0 j) := by
      intro y z hy hz
      refine rec _ _ ⟨rfl, fun k j k4 k5 => ?_, F2, fun p hp => ?_⟩
      · rw [pI_nq (by omega), pI_nq (by omega)]; exact F k j (by omega) (by omega)
      · by_cases e : p = i
        · subst e; rw [pI_nq (by omega), pI_eq, pI_eq]; exact ⟨hy, hz⟩
        · rw [pI_nq (by omega), pI_nq (by omega), pI_nq (by omega), pI_nq (by omega)]; exact h1 p (by omega)
    have e10 : nightV S np 10 i = mxI 0 (Int32.ofNat x - 1) := by unfold nightV; rw [if_neg (by omega), if_pos ⟨rfl, hi⟩, hx2]
    have e4 : ∀ o : Int32, (if S 3 i = 2 then (2 : Int32) else 1) = o → (if 99 ≤ S 4 i + o then (99 : Int32) else S 4 i + o) = nightV S np 4 i := by
      intro o ho
      have e : nightV S np 4 i = mnI 99 (S 4 i + o) := by unfold nightV; rw [if_pos ⟨rfl, hi⟩, ho]
      rw [e]
      unfold mnI
      by_cases b : 99 ≤ S 4 i + o
      · rw [if_pos b, if_neg (by rw [Int32.not_lt]; exact b)]
      · rw [if_neg b, if_pos (by rw [← Int32.not_le]; exact b)]
    have key : ∀ o : Int32, (if S 3 i = 2 then (2 : Int32) else 1) = o → Ho (if 99 ≤ S 4 i + o then (if Int32.ofNat x ≤ 0 then fX12_sleeps_l2 N n (Int32.ofNat (i + 1)) (pI (pI s 4 i 99) 5 i (Int32.ofNat x - 0)) else fX12_sleeps_l2 N n (Int32.ofNat (i + 1)) (pI (pI s 4 i 99) 5 i (Int32.ofNat x - 1))) else (if Int32.ofNat x ≤ 0 then fX12_sleeps_l2 N n (Int32.ofNat (i + 1)) (pI (pI s 4 i (S 4 i + o)) 5 i (Int32.ofNat x - 0)) else fX12_sleeps_l2 N n (Int32.ofNat (i + 1)) (pI (pI s 4 i (S 4 i + o)) 5 i (Int32.ofNat x - 1)))) (fun _ σ' => HaM σ' c C (nightV S np) np nw ∧ FrH σ σ' ∧ ∀ j, σ'.1 0 j = σ.1 0 j) := by
      intro o ho
      have w := wx_key x (by omega)
      have a := e4 o ho
      by_cases b1 : 99 ≤ S 4 i + o
      · rw [if_pos b1] at a ⊢
        by_cases b2 : Int32.ofNat x ≤ 0
        · rw [if_pos b2] at w ⊢; exact fin _ _ a (by rw [e10]; exact w)
        · rw [if_neg b2] at w ⊢; exact fin _ _ a (by rw [e10]; exact w)
      · rw [if_neg b1] at a ⊢
        by_cases b2 : Int32.ofNat x ≤ 0
        · rw [if_pos b2] at w ⊢; exact fin _ _ a (by rw [e10]; exact w)
        · rw [if_neg b2] at w ⊢; exact fin _ _ a (by rw [e10]; exact w)
    rw [← hO i hi]
    by_cases c0 : S 3 i = 2
    · rw [if_pos c0]; exact key 2 (if_pos c0)
    · rw [if_neg c0]; exact key 1 (if_neg c0)
  · intro n v s ⟨hv, F, F2, h1⟩
    subst hv
    show Ho (fX12_sleeps_b2 N (fX12_sleeps_l2 N n) (Int32.ofNat np) s) _
    have Hs : HcM s c C np nw := H.1.ag (by funext j; exact F 1 j (by omega) (by omega)) (fun j _ _ => F 0 j (by omega) (by omega))
    unfold fX12_sleeps_b2
    rw [if_pos (by rw [Hs.2.1.2.1]; exact Int32.le_refl _), ho_some]
    refine ⟨⟨Hs, ⟨?_, ?_⟩, fun p hp => ?_, fun w hw => ?_⟩, ⟨fun k j k1 k2 => F k j (by omega) (by omega), F2⟩, fun j => F 0 j (by omega) (by omega)⟩
    · rw [F _ _ (by omega) (by omega), nightV_ne (by omega)]; exact H.2.1.1
    · rw [F _ _ (by omega) (by omega), nightV_ne (by omega)]; exact H.2.1.2
    · have q := H.2.2.1 p hp
      refine ⟨(h1 p hp).1, (h1 p hp).2, ?_, ?_, ?_, ?_, ?_⟩
      · rw [nightV_ne (by omega)]; exact q.2.2.1
      · rw [nightV_ne (by omega), F _ _ (by omega) (by omega)]; exact q.2.2.2.1
      · rw [nightV_ne (by omega)]; exact q.2.2.2.2.1
      · rw [nightV_ne (by omega)]; exact q.2.2.2.2.2.1
      · rw [nightV_ne (by omega)]; exact q.2.2.2.2.2.2
    · have q := H.2.2.2 w hw
      refine ⟨?_, ?_⟩
      · rw [F _ _ (by omega) (by omega), nightV_ne (by omega)]; exact q.1
      · rw [nightV_ne (by omega)]; exact q.2
/-! one entry of a hall is written -/
theorem HaM.seat {σ : Mem} {c np nw w : Nat} {C S : Vw} {v : Int32} (H : HaM σ c C S np nw) : HaM (pI σ 6 w v) c C (upV S 9 w v) np nw := by
  refine ⟨H.1.ag (pI_ne (by omega)) (fun j _ _ => pI_nq (by omega)), ⟨?_, ?_⟩, fun p hp => ?_, fun u hu => ?_⟩
  · rw [pI_nq (by omega), upV_ne S v (by omega)]; exact H.2.1.1
  · rw [pI_nq (by omega), upV_ne S v (by omega)]; exact H.2.1.2
  · have q := H.2.2.1 p hp
    simp (disch := omega) only [pI_nq, upV_ne]; exact q
  · have q := H.2.2.2 u hu
    refine ⟨?_, ?_⟩
    · by_cases e : u = w
      · subst e; rw [pI_eq, upV_eq]
      · rw [pI_nq (by omega), upV_ne S v (by omega)]; exact q.1
    · rw [upV_ne S v (by omega)]; exact q.2
theorem HaM.wax {σ : Mem} {c np nw w : Nat} {C S : Vw} {v : Int32} (H : HaM σ c C S np nw) : HaM (pI σ 5 w v) c C (upV S 10 w v) np nw := by
  refine ⟨H.1.ag (pI_ne (by omega)) (fun j _ _ => pI_nq (by omega)), ⟨?_, ?_⟩, fun p hp => ?_, fun u hu => ?_⟩
  · rw [pI_nq (by omega), upV_ne S v (by omega)]; exact H.2.1.1
  · rw [pI_nq (by omega), upV_ne S v (by omega)]; exact H.2.1.2
  · have q := H.2.2.1 p hp
    by_cases e : p = w
    · subst e
      simp (disch := omega) only [pI_nq, upV_ne, pI_eq, upV_eq]; exact ⟨q.1, trivial, q.2.2⟩
    · simp (disch := omega) only [pI_nq, upV_ne]; exact q
  · have q := H.2.2.2 u hu
    simp (disch := omega) only [pI_nq, upV_ne]; exact q
theorem HaM.damp {σ : Mem} {c np nw : Nat} {C S : Vw} {v : Int32} (H : HaM σ c C S np nw) : HaM (pI σ 0 14 v) c C (upV S 1 2 v) np nw := by
  refine ⟨H.1.ag (pI_ne (by omega)) (fun j _ _ => pI_nq (by omega)), ⟨?_, ?_⟩, fun p hp => ?_, fun u hu => ?_⟩
  · rw [pI_eq, upV_eq]
  · rw [pI_nq (by omega), upV_ne S v (by omega)]; exact H.2.1.2
  · have q := H.2.2.1 p hp
    simp (disch := omega) only [pI_nq, upV_ne]; exact q
  · have q := H.2.2.2 u hu
    simp (disch := omega) only [pI_nq, upV_ne]; exact q
theorem HaM.over {σ : Mem} {c np nw : Nat} {C S : Vw} {v : Int32} (H : HaM σ c C S np nw) : HaM (pI σ 0 15 v) c C (upV S 0 4 v) np nw := by
  refine ⟨H.1.ag (pI_ne (by omega)) (fun j _ _ => pI_nq (by omega)), ⟨?_, ?_⟩, fun p hp => ?_, fun u hu => ?_⟩
  · rw [pI_nq (by omega), upV_ne S v (by omega)]; exact H.2.1.1
  · rw [pI_eq, upV_eq]
  · have q := H.2.2.1 p hp
    simp (disch := omega) only [pI_nq, upV_ne]; exact q
  · have q := H.2.2.2 u hu
    simp (disch := omega) only [pI_nq, upV_ne]; exact q
theorem HaC.damp {σ : Mem} {h np nw : Nat} {S : Vw} {v : Int32} (H : HaC σ h S np nw) : HaC (pI σ (h + 1) 2 v) h (upV S 1 2 v) np nw := by
  obtain ⟨h1, h2, h3, h4, h5, h6⟩ := H
  refine ⟨?_, ?_, ?_, ?_, fun p hp => ?_, fun w hw => ?_⟩
  · rw [pI_nq (by omega), upV_ne S v (by omega)]; exact h1
  · rw [pI_nq (by omega), upV_ne S v (by omega)]; exact h2
  · rw [pI_nq (by omega), upV_ne S v (by omega)]; exact h3
  · rw [pI_eq, upV_eq]
  · have q := h5 p hp
    unfold loadV
    simp (disch := omega) only [pI_nq, upV_ne, ldV_ne]; exact q
  · have q := h6 w hw
    simp (disch := omega) only [pI_nq, upV_ne]; exact q
theorem HaC.over {σ : Mem} {h np nw : Nat} {S : Vw} {v : Int32} (H : HaC σ h S np nw) : HaC (pI σ h 4 v) h (upV S 0 4 v) np nw := by
  obtain ⟨h1, h2, h3, h4, h5, h6⟩ := H
  refine ⟨?_, ?_, ?_, ?_, fun p hp => ?_, fun w hw => ?_⟩
  · rw [pI_eq, upV_eq]
  · rw [pI_nq (by omega), upV_ne S v (by omega)]; exact h2
  · rw [pI_nq (by omega), upV_ne S v (by omega)]; exact h3
  · rw [pI_nq (by omega), upV_ne S v (by omega)]; exact h4
  · have q := h5 p hp
    unfold loadV
    simp (disch := omega) only [pI_nq, upV_ne, ldV_ne]; exact q
  · have q := h6 w hw
    simp (disch := omega) only [pI_nq, upV_ne]; exact q
theorem HaC.wax {σ : Mem} {h np nw j : Nat} {S : Vw} {v : Int32} (H : HaC σ h S np nw) : HaC (pI σ (h + 10) j v) h (upV S 10 j v) np nw := by
  obtain ⟨h1, h2, h3, h4, h5, h6⟩ := H
  refine ⟨?_, ?_, ?_, ?_, fun p hp => ?_, fun w hw => ?_⟩
  · rw [pI_nq (by omega), upV_ne S v (by omega)]; exact h1
  · rw [pI_nq (by omega), upV_ne S v (by omega)]; exact h2
  · rw [pI_nq (by omega), upV_ne S v (by omega)]; exact h3
  · rw [pI_nq (by omega), upV_ne S v (by omega)]; exact h4
  · have q := h5 p hp
    unfold loadV
    by_cases e : p = j
    · subst e
      simp (disch := omega) only [pI_nq, pI_eq, upV_eq, upV_ne, ldV_ne]
      exact ⟨q.1, q.2.1, q.2.2.1, q.2.2.2.1, q.2.2.2.2.1, q.2.2.2.2.2.1, trivial, q.2.2.2.2.2.2.2⟩
    · simp (disch := omega) only [pI_nq, upV_ne, ldV_ne]; exact q
  · have q := h6 w hw
    simp (disch := omega) only [pI_nq, upV_ne]; exact q
