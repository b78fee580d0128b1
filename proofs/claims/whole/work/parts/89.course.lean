/-! Sessions: a course of the class beside the reference's. -/
def FrS (σ σ' : Mem) : Prop := (∀ k j, ¬ (k = 0 ∧ 14 ≤ j ∧ j ≤ 25 ∧ j ≠ 23) → ¬ (4 ≤ k ∧ k ≤ 7) → σ'.1 k j = σ.1 k j) ∧ σ'.2 = σ.2
theorem FrS.refl (σ : Mem) : FrS σ σ := ⟨fun _ _ _ _ => rfl, rfl⟩
theorem FrS.trans {σ σ' σ'' : Mem} (x : FrS σ σ') (y : FrS σ' σ'') : FrS σ σ'' := ⟨fun k j h1 h2 => by rw [y.1 k j h1 h2, x.1 k j h1 h2], by rw [y.2, x.2]⟩
theorem FrH.toS {σ σ' : Mem} (x : FrH σ σ') : FrS σ σ' := ⟨fun k j h1 h2 => x.1 k j (by omega) h2, x.2⟩
theorem FrS.pI {σ σ' : Mem} {k j : Nat} {v : Int32} (x : FrS σ σ') (h : (k = 0 ∧ 14 ≤ j ∧ j ≤ 25 ∧ j ≠ 23) ∨ (4 ≤ k ∧ k ≤ 7)) : FrS σ (pI σ' k j v) := ⟨fun a b h1 h2 => by rw [pI_nq (by omega)]; exact x.1 a b h1 h2, x.2⟩
theorem FrS.km {σ s : Mem} (x : FrS σ s) : KM σ s := ⟨by funext j; exact x.1 1 j (by omega) (by omega), by funext j; exact x.1 2 j (by omega) (by omega)⟩
/-- a stool goes over: its bit, and the first i people stand, if they sat there -/
def goW (S : Vw) (p : Nat) : Nat → Vw
  | 0 => upV S 0 4 (S 0 4 ||| ((1 : Int32) <<< (Int32.ofNat p &&& 31)))
  | i + 1 => if S 9 i = Int32.ofNat p then upV (goW S p i) 9 i 8 else goW S p i
theorem goW_ge {S : Vw} {p : Nat} : ∀ i j, i ≤ j → goW S p i 9 j = S 9 j
  | 0, j, _ => upV_ne _ _ (by omega)
  | i + 1, j, h => by
    unfold goW
    split
    · rw [upV_ne _ _ (by omega)]; exact goW_ge i j (by omega)
    · exact goW_ge i j (by omega)
theorem goW_ne {S : Vw} {p a b : Nat} (h : a ≠ 9 ∧ a ≠ 0) : ∀ i, goW S p i a b = S a b
  | 0 => upV_ne _ _ (by omega)
  | i + 1 => by
    unfold goW
    split
    · rw [upV_ne _ _ (by omega)]; exact goW_ne h i
    · exact goW_ne h i
theorem goW_wf {S : Vw} {np nw p : Nat} (W : WfV S np nw) : ∀ i, WfV (goW S p i) np nw
  | 0 => upV_wf W (by omega)
  | i + 1 => by
    unfold goW
    split
    · exact upV_wf9 (goW_wf W i) (Or.inl rfl)
    · exact goW_wf W i
theorem goW_wx {S : Vw} {np p : Nat} (X : WxV S np) (i : Nat) : WxV (goW S p i) np := fun q hq => by
  rw [goW_ne (by omega)]; exact X q hq
section GO
variable {N g c np nw p : Nat} {C S : Vw} {σ : Mem}
theorem go_C (hN : 10000 ≤ N) (W : WfV S np nw) (H : HaC σ g S np nw) : Ho (fX2_goOver N g (Int32.ofNat p) σ) (fun _ s => HaC s g (goW S p nw) np nw ∧ (∀ k j, ¬ (k = g ∧ j = 4) → ¬ (g + 9 ≤ k ∧ k < g + 12) → s.1 k j = σ.1 k j) ∧ s.2 = σ.2) := by
  have hw6 := W.2.1
  unfold fX2_goOver
  simp only [ho_lte]
  refine ho_loop (F := fun n (v : Int32) s => fX2_goOver_l14 N g n (Int32.ofNat p) v s) (fun i v s => v = Int32.ofNat i ∧ HaC s g (goW S p i) np nw ∧ (∀ k j, ¬ (k = g ∧ j = 4) → ¬ (g + 9 ≤ k ∧ k < g + 12) → s.1 k j = σ.1 k j) ∧ s.2 = σ.2) nw ?_ ?_ nw N 0 _ _ (by omega) (by omega) ⟨rfl, by rw [H.1]; exact H.over, fun k j h1 h2 => pI_nq (by omega), rfl⟩
  · rintro n i v s hi ⟨e1, Hs, F, F2⟩ rec
    subst e1
    have Wi := goW_wf (p := p) W i
    simp only [fX2_goOver_l14, fX2_goOver_b14, fX2_goOver_b45, nz_inb (show i < 2147483648 by omega), show i < 6 by omega, decide_true, ho_gdt, nz_nat (show i < 2147483648 by omega), ho_lte, nz_succ]
    rw [Hs.2.2.1, Wi.2.2.2.1, if_neg (show ¬ Int32.ofNat nw ≤ Int32.ofNat i by rw [nz_le (by omega) (by omega)]; omega), (Hs.2.2.2.2.2 i hi).2, goW_ge i i (Nat.le_refl i)]
    by_cases q : S 9 i = Int32.ofNat p
    · rw [if_pos q, ho_bd]
      refine ho_mono (seat_C Wi Hs hi (Or.inl rfl)) (fun _ s1 ⟨b1, b2⟩ => ?_)
      refine rec _ _ ⟨rfl, ?_, fun k j h1 h2 => ?_, ?_⟩
      · simp only [goW]; rw [if_pos q]; exact b1
      · rw [b2.1 k (by omega)]; exact F k j h1 h2
      · rw [b2.2]; exact F2
    · rw [if_neg q]
      refine rec _ _ ⟨rfl, ?_, F, F2⟩
      simp only [goW]; rw [if_neg q]; exact Hs
  · rintro n v s ⟨e1, Hs, F, F2⟩
    subst e1
    simp only [fX2_goOver_l14, fX2_goOver_b14]
    rw [Hs.2.2.1, (goW_wf W nw).2.2.2.1, if_pos (Int32.le_refl _), ho_some]
    exact ⟨Hs, F, F2⟩
theorem go_M (hN : 10000 ≤ N) (W : WfV S np nw) {s0 : Mem} (H : HaM s0 c C (goW S p 0) np nw) {rc34 : Int32 → Mem → Option (Unit × Mem)} {Q : Unit → Mem → Prop}
    (go : ∀ s', HaM s' c C (goW S p nw) np nw → (∀ k j, k ≠ 6 → s'.1 k j = s0.1 k j) → s'.2 = s0.2 → Ho (rc34 (Int32.ofNat (p + 1)) s') Q) : Ho (fX12_puts_l79 N rc34 N (Int32.ofNat p) 0 s0) Q := by
  have hw6 := W.2.1
  refine ho_loop (F := fun n (v : Int32) s => fX12_puts_l79 N rc34 n (Int32.ofNat p) v s) (fun i v s => v = Int32.ofNat i ∧ HaM s c C (goW S p i) np nw ∧ (∀ k j, k ≠ 6 → s.1 k j = s0.1 k j) ∧ s.2 = s0.2) nw ?_ ?_ nw N 0 _ _ (by omega) (by omega) ⟨rfl, H, fun _ _ _ => rfl, rfl⟩
  · rintro n i v s hi ⟨e1, Hs, F, F2⟩ rec
    subst e1
    simp only [fX12_puts_l79, fX12_puts_b79, fX12_puts_b113, nz_inb (show i < 2147483648 by omega), show i < 6 by omega, decide_true, ho_gdt, nz_nat (show i < 2147483648 by omega), ho_lte, nz_succ]
    rw [Hs.1.2.1.2.2, if_neg (show ¬ Int32.ofNat nw ≤ Int32.ofNat i by rw [nz_le (by omega) (by omega)]; omega), (Hs.2.2.2 i hi).1, goW_ge i i (Nat.le_refl i)]
    by_cases q : S 9 i = Int32.ofNat p
    · rw [if_pos q]
      refine rec _ _ ⟨rfl, ?_, fun k j h1 => ?_, F2⟩
      · simp only [goW]; rw [if_pos q]; exact Hs.seat
      · rw [pI_nq (by omega)]; exact F k j h1
    · rw [if_neg q]
      refine rec _ _ ⟨rfl, ?_, fun k j h1 => ?_, F2⟩
      · simp only [goW]; rw [if_neg q]
        have := Hs.seat (w := i) (v := goW S p i 9 i)
        rw [upV_self] at this
        rw [← goW_ge (S := S) (p := p) i i (Nat.le_refl i)]; exact this
      · rw [pI_nq (by omega)]; exact F k j h1
  · rintro n v s ⟨e1, Hs, F, F2⟩
    subst e1
    simp only [fX12_puts_l79, fX12_puts_b79, fX12_puts_b120, ho_lte, nz_succ]
    rw [Hs.1.2.1.2.2, if_pos (Int32.le_refl _)]
    exact go s Hs F F2
end GO
/-- a course beside the reference's -/
def CJ (h c : Nat) (C : Vw) (np nw : Nat) (a1 a2 : Mem) (S : Vw) (σ1 σ2 : Mem) : Prop :=
  WfV S np nw ∧ WxV S np ∧ (∀ p, p < np → S 3 p = C 3 p) ∧ HaC σ1 (h + 1) S np nw ∧ HaM σ2 c C S np nw ∧
  (σ1.1 h 1 = σ2.1 0 24 ∧ σ1.1 h 2 = σ2.1 0 25 ∧ σ1.1 (h + 1) 5 = σ2.1 0 21 ∧ σ1.1 (h + 1) 6 = σ2.1 0 22) ∧ FrC h (h + 15) a1 σ1 ∧ KM a2 σ2
/-- what a motion put leaves -/
def PuP (h np : Nat) (σ1 σ2 s1 s2 : Mem) (b : Bool) : Prop :=
  (s1.1 h 5 = σ1.1 h 5 ∧ s1.1 h 6 = σ1.1 h 6) ∧ FrS σ2 s2 ∧ s1.1 h 2 = σ1.1 h 2 + (if b = true then 1 else 0) ∧
  s1.1 h 3 = (if b = true then σ1.1 h 3 + 1 else 0) ∧ s1.1 h 4 = (if b = true then mxI (σ1.1 h 4) (σ1.1 h 3 + 1) else σ1.1 h 4) ∧
  ∀ p, p < np → s1.1 (h + 14) p = σ1.1 (h + 14) p + (if s2.1 7 p = 2 then 1 else 0)
section COURSE
variable {N h c k np nw mm : Nat} {C S : Vw} {a1 a2 σ1 σ2 : Mem}
theorem put_loop (hN : 10000 ≤ N) (W : WfV S np nw) (X : WxV S np) (hO : ∀ p, p < np → S 3 p = C 3 p) (H1 : HaC σ1 (h + 1) S np nw) (H3 : HaM σ2 c C S np nw) (sd : Nat → Int32) (hs1 : ∀ q, q < np → σ1.1 (h + 1 + 12) q = sd q) (hs2 : ∀ q, q < np → σ2.1 7 q = sd q) :
    H2 (fX1_putMotion_l66 N h N 0 σ1) (fX12_puts_l34 N N 0 σ2) (fun _ s1 _ s2 => ∃ S', WfV S' np nw ∧ WxV S' np ∧ (∀ p, p < np → S' 3 p = C 3 p) ∧ HaC s1 (h + 1) S' np nw ∧ HaM s2 c C S' np nw ∧ (∀ j, s1.1 h j = σ1.1 h j) ∧ (∀ j, j ≠ 4 → s1.1 (h + 1) j = σ1.1 (h + 1) j) ∧ FrC h (h + 15) σ1 s1 ∧ FrH σ2 s2 ∧ (∀ j, s2.1 7 j = σ2.1 7 j) ∧ s2.1 0 21 = σ2.1 0 21 ∧ s2.1 0 22 = σ2.1 0 22 ∧ ∀ p, p < np → s1.1 (h + 14) p = σ1.1 (h + 14) p + (if sd p = 2 then 1 else 0)) := by
  have hn := W.1
  refine h2_loop (F1 := fun n (v : Int32) s => fX1_putMotion_l66 N h n v s) (F2 := fun n (v : Int32) s => fX12_puts_l34 N n v s) (fun i v s1 v' s2 => v = Int32.ofNat i ∧ v' = Int32.ofNat i ∧ ∃ S', WfV S' np nw ∧ WxV S' np ∧ (∀ p, p < np → S' 3 p = C 3 p) ∧ HaC s1 (h + 1) S' np nw ∧ HaM s2 c C S' np nw ∧ (∀ j, s1.1 h j = σ1.1 h j) ∧ (∀ j, j ≠ 4 → s1.1 (h + 1) j = σ1.1 (h + 1) j) ∧ FrC h (h + 15) σ1 s1 ∧ FrH σ2 s2 ∧ (∀ j, s2.1 7 j = σ2.1 7 j) ∧ (s2.1 0 21 = σ2.1 0 21 ∧ s2.1 0 22 = σ2.1 0 22) ∧ (∀ q, q < np → s1.1 (h + 1 + 12) q = sd q) ∧ ∀ p, p < np → s1.1 (h + 14) p = σ1.1 (h + 14) p + (if p < i ∧ sd p = 2 then 1 else 0)) np ?_ ?_ np N N 0 0 σ1 0 σ2 (by omega) (by omega) (by omega) ⟨rfl, rfl, S, W, X, hO, H1, H3, fun _ => rfl, fun _ _ => rfl, FrC.refl _ _ _, FrH.refl _, fun _ => rfl, ⟨rfl, rfl⟩, hs1, fun p _ => by rw [if_neg (by omega), Int32.add_zero]⟩
  · rintro n1 n2 i v s1 v' s2 hi ⟨e1, e2, S', W', X', O', G1, G3, f1, f2, F1, F2, f3, ⟨f4, f5⟩, sd1, ny⟩ rec
    subst e1 e2
    have hk : s1.1 (h + 1 + 1 + 1) i = C 2 i := by rw [(G1.2.2.2.2.1 i hi).1]; exact (G3.2.2.1 i hi).2.2.1
    simp only [fX1_putMotion_l66, fX12_puts_l34, fX1_putMotion_b66, fX12_puts_b34, fX1_putMotion_b127, fX12_puts_b120, nz_inb (show i < 2147483648 by omega), show i < 8 by omega, decide_true, ho_gdt, nz_nat (show i < 2147483648 by omega), ho_lte, nz_succ]
    rw [G1.2.1, W'.2.2.1, G3.1.2.1.2.1, if_neg (show ¬ Int32.ofNat np ≤ Int32.ofNat i by rw [nz_le (by omega) (by omega)]; omega), if_neg (show ¬ Int32.ofNat np ≤ Int32.ofNat i by rw [nz_le (by omega) (by omega)]; omega), sd1 i hi, f3 i, hs2 i hi]
    by_cases q : sd i = 2
    · rw [if_pos q, if_pos q, of_M0 G3.1 hi, ho_bds, pI_nq (show ¬ (h + 1 + 1 + 1 = h + 14 ∧ i = i) by omega), hk]
      generalize hs : pI s1 (h + 14) i (s1.1 (h + 14) i + 1) = u1
      have Fu : ∀ a b, a ≠ h + 14 → u1.1 a b = s1.1 a b := fun a b ha => by rw [← hs, pI_nq (by omega)]
      have Fuc : ∀ a, a ≠ h + 14 → u1.1 a = s1.1 a := fun a ha => by funext b; exact Fu a b ha
      have ny' : ∀ p, p < np → u1.1 (h + 14) p = σ1.1 (h + 14) p + (if p < i + 1 ∧ sd p = 2 then 1 else 0) := by
        intro p hp
        rw [← hs]
        by_cases e : p = i
        · subst e
          rw [pI_eq, ny p hp, if_neg (by omega), if_pos ⟨by omega, q⟩, Int32.add_zero]
        · rw [pI_nq (by omega), ny p hp]
          by_cases z : p < i ∧ sd p = 2
          · rw [if_pos z, if_pos ⟨by omega, z.2⟩]
          · rw [if_neg z, if_neg (fun w => z ⟨by omega, w.2⟩)]
      have Gu : HaC u1 (h + 1) S' np nw := G1.fr (a := h + 14) (b := h + 15) ⟨fun a ha => Fuc a (by omega), by rw [← hs]; rfl⟩ (by omega)
      have F1u : FrC h (h + 15) σ1 u1 := by rw [← hs]; exact F1.pI (by omega)
      by_cases kk : C 2 i = 1
      · rw [if_pos kk, if_pos kk]
        apply h2_l
        refine ho_mono (go_C (p := i) hN W' Gu) (fun _ u2 ⟨Gv, Fv, Fv2⟩ => ?_)
        apply h2_rr
        have G4 : HaM (pI s2 0 15 (s2.1 0 15 ||| 1 <<< (Int32.ofNat i &&& 31))) c C (goW S' i 0) np nw := by rw [G3.2.1.2]; exact G3.over
        refine go_M hN W' G4 (fun s' Gs Fs Fs2 => ?_)
        refine h2_swap.mp (rec _ _ _ _ ⟨rfl, rfl, goW S' i nw, goW_wf W' nw, goW_wx X' nw, fun p hp => by rw [goW_ne (by omega)]; exact O' p hp, Gv, Gs, fun j => ?_, fun j hj => ?_, ?_, ?_, fun j => ?_, ⟨?_, ?_⟩, fun q hq => ?_, fun p hp => ?_⟩)
        · rw [Fv _ _ (by omega) (by omega), Fu _ _ (by omega)]; exact f1 j
        · rw [Fv _ _ (by omega) (by omega), Fu _ _ (by omega)]; exact f2 j hj
        · exact ⟨fun a ha => by funext b; rw [Fv a b (by omega) (by omega), F1u.1 a ha], by rw [Fv2]; exact F1u.2⟩
        · exact ⟨fun a b h1 h2 => by rw [Fs a b (by omega), pI_nq (by omega)]; exact F2.1 a b h1 h2, by rw [Fs2]; exact F2.2⟩
        · rw [Fs _ _ (by omega), pI_nq (by omega)]; exact f3 j
        · rw [Fs _ _ (by omega), pI_nq (by omega)]; exact f4
        · rw [Fs _ _ (by omega), pI_nq (by omega)]; exact f5
        · rw [Fv _ _ (by omega) (by omega), Fu _ _ (by omega)]; exact sd1 q hq
        · rw [Fv _ _ (by omega) (by omega)]; exact ny' p hp
      · rw [if_neg kk, if_neg kk]
        refine rec _ _ _ _ ⟨rfl, rfl, S', W', X', O', Gu, G3, fun j => ?_, fun j hj => ?_, F1u, F2, f3, ⟨f4, f5⟩, fun q hq => ?_, ny'⟩
        · rw [Fu _ _ (by omega)]; exact f1 j
        · rw [Fu _ _ (by omega)]; exact f2 j hj
        · rw [Fu _ _ (by omega)]; exact sd1 q hq
    · rw [if_neg q, if_neg q]
      refine rec _ _ _ _ ⟨rfl, rfl, S', W', X', O', G1, G3, f1, f2, F1, F2, f3, ⟨f4, f5⟩, sd1, fun p hp => ?_⟩
      rw [ny p hp]
      by_cases z : p < i ∧ sd p = 2
      · rw [if_pos z, if_pos ⟨by omega, z.2⟩]
      · rw [if_neg z, if_neg]
        intro w
        by_cases e : p = i
        · subst e; exact q w.2
        · exact z ⟨by omega, w.2⟩
  · rintro n1 n2 v s1 v' s2 ⟨e1, e2, S', W', X', O', G1, G3, f1, f2, F1, F2, f3, ⟨f4, f5⟩, sd1, ny⟩
    subst e1 e2
    simp only [fX1_putMotion_l66, fX12_puts_l34, fX1_putMotion_b66, fX12_puts_b34]
    rw [G1.2.1, W'.2.2.1, G3.1.2.1.2.1, if_pos (Int32.le_refl _), if_pos (Int32.le_refl _)]
    refine ⟨S', W', X', O', G1, G3, f1, f2, F1, F2, f3, f4, f5, fun p hp => ?_⟩
    rw [ny p hp]
    by_cases z : sd p = 2
    · rw [if_pos ⟨hp, z⟩, if_pos z]
    · rw [if_neg (fun w => z w.2), if_neg z]
theorem put_2 (hN : 10000 ≤ N) (P : CJ h c C np nw a1 a2 S σ1 σ2) (hm : mm < 64) : H2 (fX1_putMotion N h (Int32.ofNat mm) σ1) (fX12_puts N (Int32.ofNat mm) σ2) (fun _ s1 _ s2 => ∃ S' b, CJ h c C np nw a1 a2 S' s1 s2 ∧ PuP h np σ1 σ2 s1 s2 b) := by
  obtain ⟨W, X, hO, H1, H3, ⟨p1, p2, p3, p4⟩, F1, K2⟩ := P
  unfold fX1_putMotion fX12_puts
  simp only [ho_lte]
  generalize hu : pI σ1 h 1 (σ1.1 h 1 + 1) = u1
  generalize hu2 : pI σ2 0 24 (σ2.1 0 24 + 1) = u2
  have Hu : HaC u1 (h + 1) S np nw := by rw [← hu]; exact H1.fr (a := h) (b := h + 1) ((FrC.refl _ _ _).pI (by omega)) (by omega)
  have Hu2 : HaM u2 c C S np nw := by rw [← hu2]; exact H3.ag ⟨pI_ne (by omega), pI_ne (by omega), pI_ne (by omega), pI_ne (by omega), fun j _ _ => pI_nq (by omega)⟩
  apply h2_l
  refine ho_mono (vote_C W Hu hN hm) (fun x t1 ⟨x1, V1⟩ => ?_)
  apply h2_r
  refine ho_mono (answers_M hN W Hu2) (fun r t2 ⟨r1, V2⟩ => ?_)
  have hx := lead_car W (Int32.ofNat mm)
  rw [← x1] at hx
  have Ht1 := Hu.frv V1.1
  have Ht2 := Hu2.ag V2.1.ag
  -- all that is common behind the vote
  have fin : ∀ (b : Bool) (w1 w2 : Mem), (∀ k j, ¬ (k = h ∧ (j = 2 ∨ j = 3 ∨ j = 4)) → w1.1 k j = t1.1 k j) → w1.2 = t1.2 → (∀ k j, ¬ (k = 0 ∧ j = 25) → w2.1 k j = t2.1 k j) → w2.2 = t2.2 → w1.1 h 2 = σ1.1 h 2 + (if b = true then 1 else 0) → w2.1 0 25 = σ2.1 0 25 + (if b = true then 1 else 0) → w1.1 h 3 = (if b = true then σ1.1 h 3 + 1 else 0) → w1.1 h 4 = (if b = true then mxI (σ1.1 h 4) (σ1.1 h 3 + 1) else σ1.1 h 4) → H2 (fX1_putMotion_l66 N h N 0 w1) (fX12_puts_l34 N N 0 w2) (fun _ s1 _ s2 => ∃ S' b, CJ h c C np nw a1 a2 S' s1 s2 ∧ PuP h np σ1 σ2 s1 s2 b) := by
    intro b w1 w2 g1 g2 g3 g4 q1 q2 q3 q4
    have Hw1 : HaC w1 (h + 1) S np nw := Ht1.fr (a := h) (b := h + 1) ⟨fun a ha => by funext j; exact g1 a j (by omega), g2⟩ (by omega)
    have Hw2 : HaM w2 c C S np nw := Ht2.ag ⟨by funext j; exact g3 _ _ (by omega), by funext j; exact g3 _ _ (by omega), by funext j; exact g3 _ _ (by omega), by funext j; exact g3 _ _ (by omega), fun j _ _ => g3 _ _ (by omega)⟩
    refine h2_mono (put_loop hN W X hO Hw1 Hw2 (saidV S nw (Int32.ofNat mm)) (fun q hq => by rw [g1 _ _ (by omega)]; exact V1.2.2.2 q hq) (fun q hq => by rw [g3 _ _ (by omega)]; exact V2.2.2.2 q hq)) (fun _ s1 _ s2 ⟨S', W', X', O', G1, G3, f1, f2, Fa, Fb, f3, f4, f5, ny⟩ => ?_)
    have z1 : ∀ j, j ≠ 2 → j ≠ 3 → j ≠ 4 → j ≠ 1 → s1.1 h j = σ1.1 h j := fun j a b c d => by
      rw [f1 j, g1 _ _ (by omega), V1.1.1 _ _ (by omega) (by omega), ← hu, pI_nq (by omega)]
    have zm : ∀ a b, ¬ (a = 0 ∧ 14 ≤ b ∧ b ≤ 25 ∧ b ≠ 23) → ¬ (4 ≤ a ∧ a ≤ 7) → s2.1 a b = σ2.1 a b := fun a b h1 h2 => by
      rw [Fb.1 a b (by omega) h2, g3 _ _ (by omega), V2.1.1 _ _ (by omega) (by omega), ← hu2, pI_nq (by omega)]
    have FS : FrS σ2 s2 := ⟨zm, by rw [Fb.2, g4, V2.1.2, ← hu2]; rfl⟩
    have Z1 : FrC h (h + 15) σ1 s1 := by
      refine ⟨fun a ha => ?_, ?_⟩
      · rw [Fa.1 a ha]; funext j
        rw [g1 _ _ (by omega), V1.1.1 _ _ (by omega) (by omega), ← hu, pI_nq (by omega)]
      · rw [Fa.2, g2, V1.1.2, ← hu]; rfl
    refine ⟨S', b, ⟨W', X', O', G1, G3, ⟨?_, ?_, ?_, ?_⟩, F1.trans Z1, K2.trans FS.km⟩, ⟨z1 5 (by omega) (by omega) (by omega) (by omega), z1 6 (by omega) (by omega) (by omega) (by omega)⟩, FS, ?_, ?_, ?_, fun p hp => ?_⟩
    · rw [f1 1, g1 _ _ (by omega), V1.1.1 _ _ (by omega) (by omega), ← hu, pI_eq, Fb.1 0 24 (by omega) (by omega), g3 _ _ (by omega), V2.1.1 _ _ (by omega) (by omega), ← hu2, pI_eq, p1]
    · rw [f1 2, q1, Fb.1 0 25 (by omega) (by omega), q2, p2]
    · rw [f2 5 (by omega), f4, g1 _ _ (by omega), g3 _ _ (by omega), V1.2.1, V2.2.1]
    · rw [f2 6 (by omega), f5, g1 _ _ (by omega), g3 _ _ (by omega), V1.2.2.1, V2.2.2.1]
    · rw [f1 2, q1]
    · rw [f1 3, q3]
    · rw [f1 4, q4]
    · rw [ny p hp, f3 p, g3 7 p (by omega), V2.2.2.2 p hp, g1 _ _ (by omega), V1.1.1 _ _ (by omega) (by omega), ← hu, pI_nq (by omega)]
  have o1 : ∀ j, j ≠ 1 → t1.1 h j = σ1.1 h j := fun j hj => by rw [V1.1.1 _ _ (by omega) (by omega), ← hu, pI_nq (by omega)]
  have o2 : u2.1 0 25 = σ2.1 0 25 := by rw [← hu2, pI_nq (by omega)]
  unfold fX1_putMotion_b64 fX12_puts_b28
  simp only [ho_lte]
  cases hb : carV S np nw (Int32.ofNat mm) with
  | false =>
    rw [hb] at r1 hx
    rw [if_pos (hx.mpr rfl), r1, if_pos (show (if false = true then (1 : Int32) else 0) = 0 from rfl)]
    refine fin false _ _ (fun k j hk => pI_nq (by omega)) rfl (fun k j hk => pI_nq (by omega)) rfl ?_ ?_ ?_ ?_
    · rw [pI_nq (by omega), o1 2 (by omega)]; exact (Int32.add_zero _).symm
    · rw [pI_eq, o2]; rfl
    · rw [pI_eq]; rfl
    · rw [pI_nq (by omega), o1 4 (by omega)]; rfl
  | true =>
    rw [hb] at r1 hx
    rw [if_neg (by rw [hx]; decide), r1, if_neg (show ¬ (if true = true then (1 : Int32) else 0) = 0 by decide)]
    refine fin true _ _ (fun k j hk => ?_) rfl (fun k j hk => pI_nq (by omega)) rfl ?_ ?_ ?_ ?_
    · rw [pI_nq (by omega), pI_nq (by omega), pI_nq (by omega)]
    · rw [pI_nq (by omega), pI_nq (by omega), pI_eq, o1 2 (by omega)]; rfl
    · rw [pI_eq, o2]; rfl
    · rw [pI_nq (by omega), pI_eq, pI_nq (by omega), o1 3 (by omega)]; rfl
    · rw [pI_eq, pI_eq, pI_nq (by omega), pI_nq (by omega), pI_nq (by omega), o1 3 (by omega), o1 4 (by omega)]; rfl
end COURSE
