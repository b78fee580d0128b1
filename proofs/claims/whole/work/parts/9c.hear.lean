/-! The voices of sets of pieces. -/
def smN (w : Nat → Nat) : Nat → Nat → Nat
  | 0, _ => 0
  | n + 1, s => smN w n s + (if s.testBit n = true then w n else 0)
theorem smN_le {w : Nat → Nat} {s : Nat} : ∀ n, (∀ p, p < n → w p ≤ 9) → smN w n s ≤ 9 * n
  | 0, _ => Nat.le_refl _
  | n + 1, h => by
    have ih := smN_le (w := w) (s := s) n (fun p hp => h p (by omega))
    have := h n (by omega)
    simp only [smN]
    split <;> omega
theorem smN_congr {w : Nat → Nat} {s t : Nat} : ∀ n, (∀ i, i < n → s.testBit i = t.testBit i) → smN w n s = smN w n t
  | 0, _ => rfl
  | n + 1, h => by
    simp only [smN]
    rw [smN_congr n (fun i hi => h i (by omega)), h n (by omega)]
theorem smN_lo {w : Nat → Nat} {k s n : Nat} (hn : n ≤ k) : smN w n (2 ^ k + s) = smN w n s :=
  smN_congr n (fun i hi => Nat.testBit_two_pow_add_gt (by omega) s)
theorem smN_hi {w : Nat → Nat} {k s : Nat} (hs : s < 2 ^ k) : smN w (k + 1) (2 ^ k + s) = smN w k s + w k := by
  simp only [smN]
  rw [smN_lo (Nat.le_refl _), Nat.testBit_two_pow_add_eq, Nat.testBit_lt_two_pow hs]
  simp
theorem smN_ext {w : Nat → Nat} {k s : Nat} (hs : s < 2 ^ k) : smN w (k + 1) s = smN w k s := by
  simp only [smN]
  rw [Nat.testBit_lt_two_pow hs]; simp
def toN (w : Nat → Nat) (n : Nat) : Nat := smN w n (2 ^ n - 1)
def wiN (w : Nat → Nat) (n s : Nat) : Bool := decide (toN w n < 2 * smN w n s)
def isN (w : Nat → Nat) (n p s : Nat) : Bool := !s.testBit p && (!wiN w n s && wiN w n (s ||| 2 ^ p))
def swN (w : Nat → Nat) (n p : Nat) : Nat → Nat
  | 0 => 0
  | i + 1 => swN w n p i + (if isN w n p i = true then 1 else 0)
theorem swN_le {w : Nat → Nat} {n p : Nat} : ∀ i, swN w n p i ≤ i
  | 0 => Nat.le_refl _
  | i + 1 => by
    have := swN_le (w := w) (n := n) (p := p) i
    simp only [swN]; split <;> omega
theorem bt8 : ∀ a, a < 256 → ∀ p, p < 8 → ((Int32.ofNat a &&& Int32.ofNat (2 ^ p) = 0) ↔ a.testBit p = false) ∧ Int32.ofNat a ||| Int32.ofNat (2 ^ p) = Int32.ofNat (a ||| 2 ^ p) ∧ bitM (Int32.ofNat a) p = a.testBit p := by decide +kernel
theorem orlt {s p n : Nat} (hs : s < 2 ^ n) (hp : p < n) : s ||| 2 ^ p < 2 ^ n := Nat.or_lt_two_pow hs (Nat.pow_lt_pow_right (by omega) hp)
/-- what has been heard -/
def HeC (s : Mem) (h : Nat) (w : Nat → Nat) (n : Nat) : Prop :=
  s.1 h 3 = Int32.ofNat n ∧ s.1 h 4 = Int32.ofNat (2 ^ n) ∧ s.1 h 5 = Int32.ofNat (toN w n) ∧ (∀ a, a < 2 ^ n → s.1 (h + 3) a = Int32.ofNat (smN w n a)) ∧ (∀ p, p < n → s.1 (h + 2) p = Int32.ofNat (w p))
theorem HeC.pI {s : Mem} {h n j : Nat} {w : Nat → Nat} {v : Int32} (H : HeC s h w n) : HeC (pI s (h + 1) j v) h w n := by
  obtain ⟨a, b, c, d, e⟩ := H
  refine ⟨?_, ?_, ?_, fun x hx => ?_, fun x hx => ?_⟩ <;> rw [pI_nq (by omega)]
  · exact a
  · exact b
  · exact c
  · exact d x hx
  · exact e x hx
section
variable {N h n : Nat} {w : Nat → Nat} {s : Mem}
theorem wins_C (hn : n ≤ 8) (hw : ∀ p, p < n → w p ≤ 9) (H : HeC s h w n) {a : Nat} (ha : a < 2 ^ n) : fX5_wins N h (Int32.ofNat a) s = some (if wiN w n a = true then 1 else 0, s) := by
  have h8 := pow8 n (by omega)
  have l1 := smN_le (s := a) n hw
  have l2 := smN_le (s := 2 ^ n - 1) n hw
  unfold fX5_wins
  rw [if_neg (z_neg (by omega)), if_neg (show ¬ (256 : Int32) ≤ Int32.ofNat a by rw [z_le (by omega) (by omega)]; omega), nz_inb (by omega), nz_nat (by omega), H.2.2.2.1 a ha, H.2.2.1, decide_eq_true (by omega), ho_gdt, show (2 : Int32) = Int32.ofNat 2 from rfl, nz_mul]
  unfold wiN
  by_cases c : toN w n < 2 * smN w n a
  · rw [if_neg (show ¬ Int32.ofNat (2 * smN w n a) ≤ Int32.ofNat (toN w n) by unfold toN at *; rw [nz_le (by omega) (by omega)]; omega), decide_eq_true c]; rfl
  · rw [if_pos (show Int32.ofNat (2 * smN w n a) ≤ Int32.ofNat (toN w n) by unfold toN at *; rw [nz_le (by omega) (by omega)]; omega), decide_eq_false c]; rfl
theorem isSwing_C (hn : n ≤ 8) (hw : ∀ p, p < n → w p ≤ 9) (H : HeC s h w n) {a p : Nat} (ha : a < 2 ^ n) (hp : p < n) : fX5_isSwing N h (Int32.ofNat a) (Int32.ofNat p) s = some (if isN w n p a = true then 1 else 0, s) := by
  have h8 := pow8 n (by omega)
  unfold fX5_isSwing
  have b := bt8 a (by omega) p (by omega)
  rw [shl8 p (by omega)]
  simp only [ho_lte]
  rw [wins_C hn hw H ha, b.2.1, ho_bds, wins_C hn hw H (orlt ha hp)]
  simp only [ho_bds, ite10, b.1]
  unfold isN
  cases a.testBit p <;> cases wiN w n a <;> cases wiN w n (a ||| 2 ^ p) <;> simp [ho_bds]
theorem countSwings_C (hN : 10000 ≤ N) (hn : n ≤ 8) (hw : ∀ p, p < n → w p ≤ 9) (H : HeC s h w n) {p : Nat} (hp : p < n) : fX5_countSwings N h (Int32.ofNat p) s = some (Int32.ofNat (swN w n p (2 ^ n)), s) := by
  have h8 := pow8 n (by omega)
  unfold fX5_countSwings
  simp only [ho_lte]
  refine ho_eq ?_
  refine ho_loop (F := fun m (b : Int32 × Int32) t => fX5_countSwings_l4 N h m (Int32.ofNat p) b.1 b.2 t) (fun i b t => b.1 = Int32.ofNat (swN w n p i) ∧ b.2 = Int32.ofNat i ∧ t = s) (2 ^ n) ?_ ?_ (2 ^ n) N 0 (0, 0) s (by omega) (by omega) ⟨rfl, rfl, rfl⟩
  · rintro m i ⟨a, u⟩ t hi ⟨e1, e2, e3⟩ rec
    dsimp only at e1 e2; subst e1 e2 e3
    simp only [fX5_countSwings_l4, fX5_countSwings_b4, fX5_countSwings_b24, ho_lte, nz_succ]
    rw [H.2.1, if_neg (show ¬ Int32.ofNat (2 ^ n) ≤ Int32.ofNat i by rw [nz_le (by omega) (by omega)]; omega), isSwing_C hn hw H hi hp]
    simp only [ho_bds, ite10]
    by_cases c : isN w n p i = true
    · rw [if_neg (show ¬ ¬ isN w n p i = true by simp [c])]
      exact rec (_, _) _ ⟨by simp only [swN]; rw [if_pos c]; rfl, rfl, rfl⟩
    · rw [if_pos c]
      exact rec (_, _) _ ⟨by simp only [swN]; rw [if_neg c]; rfl, rfl, rfl⟩
  · rintro m ⟨a, u⟩ t ⟨e1, e2, e3⟩
    dsimp only at e1 e2; subst e1 e2 e3
    simp only [fX5_countSwings_l4, fX5_countSwings_b4]
    rw [H.2.1, if_pos (show Int32.ofNat (2 ^ n) ≤ Int32.ofNat (2 ^ n) by rw [nz_le (by omega) (by omega)]; omega)]
    exact ⟨rfl, rfl⟩
end
theorem toI_inj {a b : Int32} (h : a.toInt = b.toInt) : a = b := Int32.toInt_inj.mp h
theorem wV {C : Vw} {np nw p : Nat} (W : WfV C np nw) (hp : p < np) : C 7 p = Int32.ofNat (C 7 p).toInt.toNat ∧ 1 ≤ (C 7 p).toInt.toNat ∧ (C 7 p).toInt.toNat ≤ 9 := by
  have h := W.2.2.2.2.2.2.1 p hp
  rw [i32_le, i32_le] at h
  have h1 : (1 : Int32).toInt = 1 := rfl
  have h9 : (9 : Int32).toInt = 9 := rfl
  refine ⟨?_, by omega, by omega⟩
  apply toI_inj
  rw [nz_toInt (by omega)]; omega
def vcN (C : Vw) (p : Nat) : Nat := (C 7 p).toInt.toNat
theorem hear_C {σ : Mem} {N h k np nw : Nat} {C : Vw} (hN : 10000 ≤ N) (W : WfV C np nw) (H : ChC σ k C np nw) (hd : k + 9 ≤ h) (h0 : σ.1 (h + 3) 0 = 0) : Ho (fX5_hear N h k σ) (fun _ s => HeC s h (vcN C) np ∧ (∀ p, p < np → s.1 (h + 1) p = Int32.ofNat (swN (vcN C) np p (2 ^ np))) ∧ s.1 (h + 3) 0 = 0 ∧ FrC h (h + 4) σ s) := by
  have hn := W.1
  have h8 := pow8 np (by omega)
  have hw : ∀ p, p < np → vcN C p ≤ 9 := fun p hp => (wV W hp).2.2
  unfold fX5_hear
  simp only [ho_lt]
  rw [H.1, W.2.2.1, pI_eq, shl8 np (by omega)]
  refine ho_loop (F := fun m (b : Int32) t => fX5_hear_l20 N h m k b t) (fun i b t => b = Int32.ofNat i ∧ FrC h (h + 4) σ t ∧ t.1 h 3 = Int32.ofNat np ∧ t.1 h 4 = Int32.ofNat (2 ^ np) ∧ (∀ a, a < 2 ^ i → t.1 (h + 3) a = Int32.ofNat (smN (vcN C) i a)) ∧ (∀ p, p < i → t.1 (h + 2) p = Int32.ofNat (vcN C p))) np ?_ ?_ np N 0 0 _ (by omega) (by omega) ⟨rfl, ((FrC.refl _ _ _).pI (by omega)).pI (by omega), by rw [pI_nq (by omega), pI_eq], by rw [pI_eq], fun a ha => by rw [show a = 0 by simpa using ha, pI_nq (by omega), pI_nq (by omega), h0]; rfl, fun p hp => absurd hp (Nat.not_lt_zero p)⟩
  · rintro m i b t hi ⟨e1, F, e3, e4, S, V⟩ rec
    subst e1
    have g8 := pow8 i (by omega)
    have gs : 2 ^ i + 2 ^ i ≤ 2 ^ np := by
      have := Nat.pow_le_pow_right (show 0 < 2 by omega) (show i + 1 ≤ np by omega)
      rw [Nat.pow_succ] at this; omega
    simp only [fX5_hear_l20, fX5_hear_b20, ho_lte]
    rw [e3, if_neg (show ¬ Int32.ofNat np ≤ Int32.ofNat i by rw [nz_le (by omega) (by omega)]; omega), nz_inb (by omega), nz_nat (by omega), decide_eq_true (show i < 8 by omega), ho_gdt, ho_gdt, shl8 i (by omega)]
    have ev : t.1 (k + 6) i = Int32.ofNat (vcN C i) := by
      rw [F.1 (k + 6) (by omega), (H.2.2.2.1 i hi).2.2.2.2.2]; exact (wV W hi).1
    rw [ev]
    refine ho_loop (F := fun m' (b : Int32) t => fX5_hear_l47 N h (fX5_hear_l20 N h m) m' k (Int32.ofNat i) (Int32.ofNat (2 ^ i)) b t) (fun q b t => b = Int32.ofNat q ∧ FrC h (h + 4) σ t ∧ t.1 h 3 = Int32.ofNat np ∧ t.1 h 4 = Int32.ofNat (2 ^ np) ∧ (∀ a, a < 2 ^ i + q → t.1 (h + 3) a = Int32.ofNat (smN (vcN C) (i + 1) a)) ∧ (∀ p, p < i + 1 → t.1 (h + 2) p = Int32.ofNat (vcN C p))) (2 ^ i) ?_ ?_ (2 ^ i) N 0 0 _ (by omega) (by omega) ⟨rfl, F.pI (by omega), by rw [pI_nq (by omega)]; exact e3, by rw [pI_nq (by omega)]; exact e4, fun a ha => by rw [pI_nq (by omega), S a ha, smN_ext ha], fun p hp => by
      by_cases c : p = i
      · subst c; rw [pI_eq]
      · rw [pI_nq (by omega)]; exact V p (by omega)⟩
    · rintro m' q b u hq ⟨e1, F, e3, e4, S, V⟩ rec'
      subst e1
      simp only [fX5_hear_l47, fX5_hear_b47, ho_lte, nz_add, nz_succ]
      rw [if_neg (show ¬ Int32.ofNat (2 ^ i) ≤ Int32.ofNat q by rw [nz_le (by omega) (by omega)]; omega), nz_inb (by omega), nz_inb (by omega), nz_inb (by omega), nz_nat (by omega), nz_nat (by omega), nz_nat (by omega), decide_eq_true (show q < 256 by omega), decide_eq_true (show i < 8 by omega), decide_eq_true (show 2 ^ i + q < 256 by omega), ho_gdt, ho_gdt, ho_gdt, S q (by omega), V i (by omega), nz_add]
      refine rec' _ _ ⟨rfl, F.pI (by omega), by rw [pI_nq (by omega)]; exact e3, by rw [pI_nq (by omega)]; exact e4, fun a ha => ?_, fun p hp => by rw [pI_nq (by omega)]; exact V p hp⟩
      by_cases c : a = 2 ^ i + q
      · subst c; rw [pI_eq, smN_hi hq, smN_ext hq]
      · rw [pI_nq (by omega)]; exact S a (by omega)
    · rintro m' b u ⟨e1, F, e3, e4, S, V⟩
      subst e1
      simp only [fX5_hear_l47, fX5_hear_b47, ho_lte, nz_add, nz_succ]
      rw [if_pos (show Int32.ofNat (2 ^ i) ≤ Int32.ofNat (2 ^ i) by rw [nz_le (by omega) (by omega)]; omega)]
      exact rec _ _ ⟨rfl, F, e3, e4, fun a ha => S a (by rw [Nat.pow_succ] at ha; omega), V⟩
  · rintro m b t ⟨e1, F, e3, e4, S, V⟩
    subst e1
    simp only [fX5_hear_l20, fX5_hear_b20, ho_lte]
    rw [e3, e4, if_pos (show Int32.ofNat np ≤ Int32.ofNat np by rw [nz_le (by omega) (by omega)]; omega)]
    rw [show Int32.ofNat (2 ^ np) - 1 = Int32.ofNat (2 ^ np - 1) by
      obtain ⟨d, hd⟩ : ∃ d, 2 ^ np = d + 1 := ⟨2 ^ np - 1, by omega⟩
      rw [hd, z_sub1, Nat.add_sub_cancel]]
    rw [nz_inb (by omega), nz_nat (by omega), decide_eq_true (by omega), ho_gdt, S _ (by omega)]
    have z0 : t.1 (h + 3) 0 = 0 := by
      rw [S 0 (by omega)]
      have : ∀ n, smN (vcN C) n 0 = 0 := fun n => by
        induction n with
        | zero => rfl
        | succ n ih => simp [smN, ih]
      rw [this]; rfl
    refine ho_loop (F := fun m (b : Int32) t => fX5_hear_l105 N h m b t) (fun i b t => b = Int32.ofNat i ∧ FrC h (h + 4) σ t ∧ HeC t h (vcN C) np ∧ t.1 (h + 3) 0 = 0 ∧ (∀ p, p < i → t.1 (h + 1) p = Int32.ofNat (swN (vcN C) np p (2 ^ np)))) np ?_ ?_ np N 0 0 _ (by omega) (by omega) ⟨rfl, F.pI (by omega), ⟨by rw [pI_nq (by omega)]; exact e3, by rw [pI_nq (by omega)]; exact e4, by rw [pI_eq]; rfl, fun a ha => by rw [pI_nq (by omega)]; exact S a ha, fun p hp => by rw [pI_nq (by omega)]; exact V p hp⟩, by rw [pI_nq (by omega)]; exact z0, fun p hp => absurd hp (Nat.not_lt_zero p)⟩
    · rintro m i b u hi ⟨e1, F, HE, z0, Z⟩ rec
      subst e1
      simp only [fX5_hear_l105, fX5_hear_b105, ho_lte, nz_succ]
      rw [HE.1, if_neg (show ¬ Int32.ofNat np ≤ Int32.ofNat i by rw [nz_le (by omega) (by omega)]; omega), countSwings_C hN hn hw HE hi, ho_bds, nz_inb (by omega), nz_nat (by omega), decide_eq_true (show i < 8 by omega), ho_gdt]
      refine rec _ _ ⟨rfl, F.pI (by omega), HE.pI, by rw [pI_nq (by omega)]; exact z0, fun p hp => ?_⟩
      by_cases c : p = i
      · subst c; rw [pI_eq]
      · rw [pI_nq (by omega)]; exact Z p (by omega)
    · rintro m b u ⟨e1, F, HE, z0, Z⟩
      subst e1
      simp only [fX5_hear_l105, fX5_hear_b105]
      rw [HE.1, if_pos (show Int32.ofNat np ≤ Int32.ofNat np by rw [nz_le (by omega) (by omega)]; omega)]
      exact ⟨HE, Z, z0, F⟩
