def cR (g : Nat → Bool) (lo : Nat) : Nat → Nat
  | 0 => 0
  | q + 1 => cR g lo q + (if lo ≤ q ∧ g q = true then 1 else 0)
theorem cR_low {g : Nat → Bool} {lo : Nat} : ∀ q, q ≤ lo → cR g lo q = 0
  | 0, _ => rfl
  | q + 1, h => by
    simp only [cR]
    rw [cR_low q (by omega), if_neg (by omega)]
def oS (f : Nat → Nat → Bool) (n : Nat) : Nat → Nat
  | 0 => 0
  | i + 1 => oS f n i + cR (f i) (i + 1) n
def rS (f : Nat → Nat → Bool) : Nat → Nat
  | 0 => 0
  | q + 1 => rS f q + cR (fun p => f p q) 0 q
theorem oS_up {f : Nat → Nat → Bool} {n : Nat} : ∀ i, i ≤ n → oS f (n + 1) i = oS f n i + cR (fun p => f p n) 0 i
  | 0, _ => rfl
  | i + 1, h => by
    have ih := oS_up (f := f) i (show i ≤ n by omega)
    simp only [oS, cR]
    rw [ih]
    have e : (i + 1 ≤ n ∧ f i n = true) ↔ (0 ≤ i ∧ f i n = true) := by constructor <;> rintro ⟨_, x⟩ <;> exact ⟨by omega, x⟩
    simp only [e]
    omega
theorem oS_rS {f : Nat → Nat → Bool} : ∀ n, oS f n n = rS f n
  | 0 => rfl
  | n + 1 => by
    have ih := oS_rS (f := f) n
    show oS f (n + 1) n + cR (f n) (n + 1) (n + 1) = _
    rw [cR_low _ (Nat.le_refl _), oS_up n (Nat.le_refl _), ih]; rfl
def aliN (w : Nat → Nat) (n p q : Nat) : Bool := decide (swN w n p (2 ^ n) = swN w n q (2 ^ n)) && !decide (w p = w q)
section
variable {N n h : Nat} {w : Nat → Nat} {s : Mem}
theorem alike_C (hN : 10000 ≤ N) (hn : n ≤ 8) (hw : ∀ p, p < n → w p ≤ 9) (H : HeC s h w n) (Z : ∀ p, p < n → s.1 (h + 1) p = Int32.ofNat (swN w n p (2 ^ n))) : fX5_alike N h s = some (Int32.ofNat (oS (aliN w n) n n), s) := by
  have h8 := pow8 n (by omega)
  unfold fX5_alike
  simp only [ho_lte]
  refine ho_eq ?_
  refine ho_loop (F := fun m (b : Int32 × Int32) t => fX5_alike_l4 N h m b.1 b.2 t) (fun i b t => b.1 = Int32.ofNat (oS (aliN w n) n i) ∧ b.2 = Int32.ofNat i ∧ t = s) n ?_ ?_ n N 0 (0, 0) s (by omega) (by omega) ⟨rfl, rfl, rfl⟩
  · rintro m i ⟨a, u⟩ t hi ⟨e1, e2, e3⟩ rec
    dsimp only at e1 e2; subst e1 e2 e3
    have sl := swN_le (w := w) (n := n) (p := i) (2 ^ n)
    have wi := hw i hi
    simp only [fX5_alike_l4, fX5_alike_b4, ho_lte, nz_succ]
    rw [H.1, if_neg (show ¬ Int32.ofNat n ≤ Int32.ofNat i by rw [nz_le (by omega) (by omega)]; omega)]
    refine ho_loop (F := fun m' (b : Int32 × Int32) t => fX5_alike_l16 N h (fX5_alike_l4 N h m) m' b.1 (Int32.ofNat i) b.2 t) (fun q b t' => b.1 = Int32.ofNat (oS (aliN w n) n i + cR (aliN w n i) (i + 1) q) ∧ b.2 = Int32.ofNat q ∧ t' = t ∧ i + 1 ≤ q) n ?_ ?_ (n - (i + 1)) N (i + 1) (_, _) t (by omega) (by omega) ⟨by rw [cR_low _ (Nat.le_refl _)]; rfl, rfl, rfl, Nat.le_refl _⟩
    · rintro m' q ⟨a, u⟩ t' hq ⟨e1, e2, e3, e4⟩ rec'
      dsimp only at e1 e2; subst e1 e2 e3
      have sl' := swN_le (w := w) (n := n) (p := q) (2 ^ n)
      have wq := hw q hq
      simp only [fX5_alike_l16, fX5_alike_b16, fX5_alike_b57, ho_lte, nz_succ]
      rw [H.1, if_neg (show ¬ Int32.ofNat n ≤ Int32.ofNat q by rw [nz_le (by omega) (by omega)]; omega), nz_inb (by omega), nz_nat (by omega), nz_inb (by omega), nz_nat (by omega), decide_eq_true (show i < 8 by omega), decide_eq_true (show q < 8 by omega)]
      simp only [ho_gdt]
      rw [Z i hi, Z q hq, H.2.2.2.2 i hi, H.2.2.2.2 q hq]
      have no : aliN w n i q ≠ true → cR (aliN w n i) (i + 1) (q + 1) = cR (aliN w n i) (i + 1) q := fun x => by simp only [cR]; rw [if_neg (fun y => x y.2)]; rfl
      by_cases c : swN w n i (2 ^ n) = swN w n q (2 ^ n)
      · rw [if_pos (show Int32.ofNat (swN w n i (2 ^ n)) = Int32.ofNat (swN w n q (2 ^ n)) by rw [c])]
        by_cases d : w i = w q
        · rw [if_pos (show Int32.ofNat (w i) = Int32.ofNat (w q) by rw [d])]
          exact rec' (_, _) _ ⟨by rw [no (by unfold aliN; simp [d])]; rfl, rfl, rfl, by omega⟩
        · rw [if_neg (show ¬ Int32.ofNat (w i) = Int32.ofNat (w q) by rw [nz_inj (by omega) (by omega)]; exact d)]
          exact rec' (_, _) _ ⟨by simp only [cR]; rw [if_pos ⟨e4, by unfold aliN; simp [c, d]⟩, ← Nat.add_assoc]; rfl, rfl, rfl, by omega⟩
      · rw [if_neg (show ¬ Int32.ofNat (swN w n i (2 ^ n)) = Int32.ofNat (swN w n q (2 ^ n)) by rw [nz_inj (by omega) (by omega)]; exact c)]
        exact rec' (_, _) _ ⟨by rw [no (by unfold aliN; simp [c])]; rfl, rfl, rfl, by omega⟩
    · rintro m' ⟨a, u⟩ t' ⟨e1, e2, e3, e4⟩
      dsimp only at e1 e2; subst e1 e2 e3
      simp only [fX5_alike_l16, fX5_alike_b16, ho_lte, nz_succ]
      rw [H.1, if_pos (show Int32.ofNat n ≤ Int32.ofNat n by rw [nz_le (by omega) (by omega)]; omega)]
      exact rec (_, _) _ ⟨rfl, rfl, rfl⟩
  · rintro m ⟨a, u⟩ t ⟨e1, e2, e3⟩
    dsimp only at e1 e2; subst e1 e2 e3
    simp only [fX5_alike_l4, fX5_alike_b4]
    rw [H.1, if_pos (show Int32.ofNat n ≤ Int32.ofNat n by rw [nz_le (by omega) (by omega)]; omega)]
    exact ⟨rfl, rfl⟩
end
def veN (w : Nat → Nat) (n : Nat) : Nat → Nat
  | 0 => 2 ^ n - 1
  | i + 1 => if wiN w n i = true then veN w n i &&& i else veN w n i
theorem veN_bit {w : Nat → Nat} {n p : Nat} : ∀ i, (veN w n i).testBit p = true ↔ p < n ∧ ∀ a, a < i → wiN w n a = true → a.testBit p = true
  | 0 => by
    simp only [veN]
    rw [Nat.testBit_two_pow_sub_one, decide_eq_true_eq]
    exact ⟨fun h => ⟨h, fun a ha => absurd ha (Nat.not_lt_zero a)⟩, fun h => h.1⟩
  | i + 1 => by
    have ih := veN_bit (w := w) (n := n) (p := p) i
    simp only [veN]
    by_cases c : wiN w n i = true
    · rw [if_pos c, Nat.testBit_and, Bool.and_eq_true, ih]
      constructor
      · rintro ⟨⟨x, y⟩, z⟩
        refine ⟨x, fun a ha q => ?_⟩
        by_cases e : a = i
        · subst e; exact z
        · exact y a (by omega) q
      · rintro ⟨x, y⟩
        exact ⟨⟨x, fun a ha q => y a (by omega) q⟩, y i (by omega) c⟩
    · rw [if_neg c, ih]
      constructor
      · rintro ⟨x, y⟩
        refine ⟨x, fun a ha q => ?_⟩
        by_cases e : a = i
        · subst e; exact absurd q c
        · exact y a (by omega) q
      · rintro ⟨x, y⟩
        exact ⟨x, fun a ha q => y a (by omega) q⟩
theorem veN_le {w : Nat → Nat} {n : Nat} : ∀ i, veN w n i ≤ 2 ^ n - 1
  | 0 => Nat.le_refl _
  | i + 1 => by
    have := veN_le (w := w) (n := n) i
    simp only [veN]; split
    · exact Nat.le_trans Nat.and_le_left this
    · exact this
theorem smN_mono {w : Nat → Nat} {s t : Nat} : ∀ n, (∀ i, i < n → s.testBit i = true → t.testBit i = true) → smN w n s ≤ smN w n t
  | 0, _ => Nat.le_refl _
  | n + 1, h => by
    have ih := smN_mono (w := w) n (fun i hi => h i (by omega))
    simp only [smN]
    by_cases c : s.testBit n = true
    · rw [if_pos c, if_pos (h n (by omega) c)]; omega
    · rw [if_neg c]; omega
theorem ve_mk {w : Nat → Nat} {n : Nat} : veN w n (2 ^ n) = mkB (fun p => !wiN w n (2 ^ n - (2 ^ p + 1))) n := by
  apply Nat.eq_of_testBit_eq
  intro p
  rw [Bool.eq_iff_iff, veN_bit, mkB_bit, Bool.and_eq_true, decide_eq_true_eq, Bool.not_eq_true']
  constructor
  · rintro ⟨x, y⟩
    refine ⟨x, ?_⟩
    have pl : 2 ^ p < 2 ^ n := Nat.pow_lt_pow_right (by omega) x
    cases c : wiN w n (2 ^ n - (2 ^ p + 1))
    · rfl
    · have := y _ (Nat.sub_lt (Nat.pow_pos (by omega)) (Nat.succ_pos _)) c
      rw [Nat.testBit_two_pow_sub_succ pl, Nat.testBit_two_pow_self] at this
      simp at this
  · rintro ⟨x, y⟩
    have pl : 2 ^ p < 2 ^ n := Nat.pow_lt_pow_right (by omega) x
    refine ⟨x, fun a ha q => ?_⟩
    cases c : a.testBit p
    · exfalso
      have m := smN_mono (w := w) (s := a) (t := 2 ^ n - (2 ^ p + 1)) n (fun i hi hb => by
        rw [Nat.testBit_two_pow_sub_succ pl, decide_eq_true hi, Nat.testBit_two_pow_of_ne (fun e => by rw [e] at c; rw [c] at hb; cases hb)]; rfl)
      unfold wiN at q y
      rw [decide_eq_true_eq] at q
      rw [decide_eq_false_iff_not] at y
      omega
    · rfl
section
variable {N c np nw : Nat} {C : Vw} {s : Mem}
theorem voices_M (hN : 10000 ≤ N) (W : WfV C np nw) (H : HcM s c C np nw) {a : Nat} (ha : a < 256) : fX12_voicesOf N (Int32.ofNat a) s = some (Int32.ofNat (smN (vcN C) np a), s) := by
  have hn := W.1
  unfold fX12_voicesOf
  simp only [ho_lte]
  refine ho_eq ?_
  refine ho_loop (F := fun m (b : Int32 × Int32) t => fX12_voicesOf_l4 N m (Int32.ofNat a) b.1 b.2 t) (fun i b t => b.1 = Int32.ofNat (smN (vcN C) i a) ∧ b.2 = Int32.ofNat i ∧ t = s) np ?_ ?_ np N 0 (0, 0) s (by omega) (by omega) ⟨rfl, rfl, rfl⟩
  · rintro m i ⟨x, u⟩ t hi ⟨e1, e2, e3⟩ rec
    dsimp only at e1 e2; subst e1 e2 e3
    have v := (wV W hi).1
    simp only [fX12_voicesOf_l4, fX12_voicesOf_b4, fX12_voicesOf_b31, ho_lte, nz_succ, H.2.1.2.1, holds_M, ho_bds, of_M5 H hi, ite10, (bt8 a ha i (by omega)).2.2]
    rw [if_neg (show ¬ Int32.ofNat np ≤ Int32.ofNat i by rw [nz_le (by omega) (by omega)]; omega)]
    change C 7 i = Int32.ofNat (vcN C i) at v
    rw [v, nz_add]
    by_cases q : a.testBit i = true
    · rw [if_neg (show ¬ ¬ a.testBit i = true by simp [q])]
      exact rec (_, _) _ ⟨by simp only [smN]; rw [if_pos q]; rfl, rfl, rfl⟩
    · rw [if_pos q]
      exact rec (_, _) _ ⟨by simp only [smN]; rw [if_neg q, Int32.add_zero]; rfl, rfl, rfl⟩
  · rintro m ⟨x, u⟩ t ⟨e1, e2, e3⟩
    dsimp only at e1 e2; subst e1 e2 e3
    simp only [fX12_voicesOf_l4, fX12_voicesOf_b4, H.2.1.2.1]
    rw [if_pos (show Int32.ofNat np ≤ Int32.ofNat np by rw [nz_le (by omega) (by omega)]; omega)]
    exact ⟨rfl, rfl⟩
theorem apart_M (hN : 10000 ≤ N) (W : WfV C np nw) (H : HcM s c C np nw) {a : Nat} (ha : a < 2 ^ np) : fX12_apart N (Int32.ofNat a) s = some (Int32.ofNat (dfN (vcN C) np a), s) := by
  have hn := W.1
  have h8 := pow8 np (by omega)
  have hw : ∀ p, p < np → vcN C p ≤ 9 := fun p hp => (wV W hp).2.2
  have l1 := smN_le (s := a) np hw
  have l2 := smN_le (s := 2 ^ np - (a + 1)) np hw
  have cp := smN_cpl (w := vcN C) ha np (Nat.le_refl _)
  unfold fX12_apart
  rw [voices_M hN W H (by omega), ho_bds, H.2.1.2.1, shl8 np (by omega), cpl8 np (by omega) a ha, voices_M hN W H (by omega), ho_bds]
  simp only [ho_lte]
  have k := neg_abs (a := smN (vcN C) np a) (b := smN (vcN C) np (2 ^ np - (a + 1))) (by omega) (by omega)
  unfold dfN toN
  by_cases d : smN (vcN C) np (2 ^ np - (a + 1)) ≤ smN (vcN C) np a
  · rw [if_pos (k.1.mpr d), k.2.1 d, if_pos (by omega)]
    congr 3; omega
  · rw [if_neg (fun q => d (k.1.mp q)), ← Int32.zero_sub, k.2.2 (by omega), if_neg (by omega)]
    congr 3; omega
theorem swings_M (hN : 10000 ≤ N) (W : WfV C np nw) (H : HcM s c C np nw) {p : Nat} (hp : p < np) : fX12_swingsOf N (Int32.ofNat p) s = some (Int32.ofNat (swN (vcN C) np p (2 ^ np)), s) := by
  have hn := W.1
  have h8 := pow8 np (by omega)
  unfold fX12_swingsOf
  simp only [ho_lte]
  refine ho_eq ?_
  refine ho_loop (F := fun m (b : Int32 × Int32) t => fX12_swingsOf_l4 N m (Int32.ofNat p) b.1 b.2 t) (fun i b t => b.1 = Int32.ofNat (swN (vcN C) np p i) ∧ b.2 = Int32.ofNat i ∧ t = s) (2 ^ np) ?_ ?_ (2 ^ np) N 0 (0, 0) s (by omega) (by omega) ⟨rfl, rfl, rfl⟩
  · rintro m i ⟨a, u⟩ t hi ⟨e1, e2, e3⟩ rec
    dsimp only at e1 e2; subst e1 e2 e3
    have b8 := bt8 i (by omega) p (by omega)
    have ol := orlt hi hp
    simp only [fX12_swingsOf_l4, fX12_swingsOf_b4, fX12_swingsOf_b47, fX12_swingsOf_b48, ho_lte, nz_succ]
    rw [H.2.1.2.1, shl8 np (by omega), if_neg (show ¬ Int32.ofNat (2 ^ np) ≤ Int32.ofNat i by rw [nz_le (by omega) (by omega)]; omega), holds_M, ho_bds, wins_M hN W H (by omega), ho_bds, shl8 p (by omega), b8.2.1, wins_M hN W H (by omega), ho_bds]
    simp only [ite10, b8.2.2, Int32.add_zero]
    have n1 : isN (vcN C) np p i = (!i.testBit p && (!wiN (vcN C) np i && wiN (vcN C) np (i ||| 2 ^ p))) := rfl
    have no : isN (vcN C) np p i ≠ true → swN (vcN C) np p (i + 1) = swN (vcN C) np p i := fun q => by simp only [swN]; rw [if_neg q]; rfl
    cases k1 : i.testBit p
    · rw [if_pos (show ¬ false = true by simp)]
      cases k2 : wiN (vcN C) np i
      · rw [if_pos (show ¬ false = true by simp)]
        cases k3 : wiN (vcN C) np (i ||| 2 ^ p)
        · rw [if_pos (show ¬ false = true by simp)]
          exact rec (_, _) _ ⟨by rw [no (by rw [n1, k1, k2, k3]; simp)]; rfl, rfl, rfl⟩
        · rw [if_neg (show ¬ ¬ true = true by simp)]
          have y : isN (vcN C) np p i = true := by rw [n1, k1, k2, k3]; rfl
          exact rec (_, _) _ ⟨by simp only [swN]; rw [if_pos y]; rfl, rfl, rfl⟩
      · rw [if_neg (show ¬ ¬ true = true by simp)]
        exact rec (_, _) _ ⟨by rw [no (by rw [n1, k1, k2]; simp)]; rfl, rfl, rfl⟩
    · rw [if_neg (show ¬ ¬ true = true by simp)]
      exact rec (_, _) _ ⟨by rw [no (by rw [n1, k1]; simp)]; rfl, rfl, rfl⟩
  · rintro m ⟨a, u⟩ t ⟨e1, e2, e3⟩
    dsimp only at e1 e2; subst e1 e2 e3
    simp only [fX12_swingsOf_l4, fX12_swingsOf_b4]
    rw [H.2.1.2.1, shl8 np (by omega), if_pos (show Int32.ofNat (2 ^ np) ≤ Int32.ofNat (2 ^ np) by rw [nz_le (by omega) (by omega)]; omega)]
    exact ⟨rfl, rfl⟩
theorem vetoes_M (hN : 10000 ≤ N) (W : WfV C np nw) (H : HcM s c C np nw) : fX12_vetoes N s = some (Int32.ofNat (veN (vcN C) np (2 ^ np)), s) := by
  have hn := W.1
  have h8 := pow8 np (by omega)
  have e : fX12_vetoes N s = fX12_vetoes_l22 N N (Int32.ofNat (2 ^ np - 1)) 0 s := by
    unfold fX12_vetoes fX12_vetoes_b19
    simp only [ho_lte]
    rw [H.2.1.2.1, shl8 np (by omega)]
    by_cases z : np = 0
    · rw [if_pos (show Int32.ofNat np = 0 by rw [z]; rfl), z]; rfl
    · rw [if_neg (show ¬ Int32.ofNat np = 0 by rw [z_eq (by omega) (by omega)]; exact z)]
      obtain ⟨d, hd⟩ : ∃ d, 2 ^ np = d + 1 := ⟨2 ^ np - 1, by omega⟩
      rw [hd, z_sub1, Nat.add_sub_cancel]
  rw [e]
  refine ho_eq ?_
  refine ho_loop (F := fun m (b : Int32 × Int32) t => fX12_vetoes_l22 N m b.1 b.2 t) (fun i b t => b.1 = Int32.ofNat (veN (vcN C) np i) ∧ b.2 = Int32.ofNat i ∧ t = s) (2 ^ np) ?_ ?_ (2 ^ np) N 0 (_, 0) s (by omega) (by omega) ⟨rfl, rfl, rfl⟩
  · rintro m i ⟨a, u⟩ t hi ⟨e1, e2, e3⟩ rec
    dsimp only at e1 e2; subst e1 e2 e3
    simp only [fX12_vetoes_l22, fX12_vetoes_b22, fX12_vetoes_b44, ho_lte, nz_succ]
    rw [H.2.1.2.1, shl8 np (by omega), if_neg (show ¬ Int32.ofNat (2 ^ np) ≤ Int32.ofNat i by rw [nz_le (by omega) (by omega)]; omega), wins_M hN W H (by omega), ho_bds, and_n]
    simp only [ite10]
    by_cases k : wiN (vcN C) np i = true
    · rw [if_neg (show ¬ ¬ wiN (vcN C) np i = true by simp [k])]
      exact rec (_, _) _ ⟨by simp only [veN]; rw [if_pos k]; rfl, rfl, rfl⟩
    · rw [if_pos k]
      exact rec (_, _) _ ⟨by simp only [veN]; rw [if_neg k]; rfl, rfl, rfl⟩
  · rintro m ⟨a, u⟩ t ⟨e1, e2, e3⟩
    dsimp only at e1 e2; subst e1 e2 e3
    simp only [fX12_vetoes_l22, fX12_vetoes_b22]
    rw [H.2.1.2.1, shl8 np (by omega), if_pos (show Int32.ofNat (2 ^ np) ≤ Int32.ofNat (2 ^ np) by rw [nz_le (by omega) (by omega)]; omega)]
    exact ⟨rfl, rfl⟩
theorem alike_M (hN : 10000 ≤ N) (W : WfV C np nw) (H : HcM s c C np nw) : fX12_alike N s = some (Int32.ofNat (rS (aliN (vcN C) np) np), s) := by
  have hn := W.1
  have h8 := pow8 np (by omega)
  have hw : ∀ p, p < np → vcN C p ≤ 9 := fun p hp => (wV W hp).2.2
  have v : ∀ p, p < np → C 7 p = Int32.ofNat (vcN C p) := fun p hp => (wV W hp).1
  unfold fX12_alike
  simp only [ho_lte]
  refine ho_eq ?_
  refine ho_loop (F := fun m (b : Int32 × Int32) t => fX12_alike_l4 N m b.1 b.2 t) (fun i b t => b.1 = Int32.ofNat (rS (aliN (vcN C) np) i) ∧ b.2 = Int32.ofNat i ∧ t = s) np ?_ ?_ np N 0 (0, 0) s (by omega) (by omega) ⟨rfl, rfl, rfl⟩
  · rintro m i ⟨a, u⟩ t hi ⟨e1, e2, e3⟩ rec
    dsimp only at e1 e2; subst e1 e2 e3
    have sl := swN_le (w := vcN C) (n := np) (p := i) (2 ^ np)
    have wi := hw i hi
    simp only [fX12_alike_l4, fX12_alike_b4, ho_lte]
    rw [H.2.1.2.1, if_neg (show ¬ Int32.ofNat np ≤ Int32.ofNat i by rw [nz_le (by omega) (by omega)]; omega)]
    refine ho_loop (F := fun m' (b : Int32 × Int32) t => fX12_alike_l14 N (fX12_alike_l4 N m) m' b.1 (Int32.ofNat i) b.2 t) (fun q b t' => b.1 = Int32.ofNat (rS (aliN (vcN C) np) i + cR (fun p => aliN (vcN C) np p i) 0 q) ∧ b.2 = Int32.ofNat q ∧ t' = t) i ?_ ?_ i N 0 (_, _) t (by omega) (by omega) ⟨rfl, rfl, rfl⟩
    · rintro m' q ⟨a, u⟩ t' hq ⟨e1, e2, e3⟩ rec'
      dsimp only at e1 e2; subst e1 e2 e3
      have sl' := swN_le (w := vcN C) (n := np) (p := q) (2 ^ np)
      have wq := hw q (by omega)
      simp only [fX12_alike_l14, fX12_alike_b14, fX12_alike_b52, fX12_alike_b53, ho_lte, nz_succ, Int32.add_zero]
      rw [if_neg (show ¬ Int32.ofNat i ≤ Int32.ofNat q by rw [nz_le (by omega) (by omega)]; omega), of_M5 H hi, ho_bds, of_M5 H (by omega), ho_bds, v i hi, v q (by omega), swings_M hN W H hi, ho_bds, swings_M hN W H (by omega), ho_bds]
      have no : aliN (vcN C) np q i ≠ true → cR (fun p => aliN (vcN C) np p i) 0 (q + 1) = cR (fun p => aliN (vcN C) np p i) 0 q := fun x => by simp only [cR]; rw [if_neg (fun y => x y.2)]; rfl
      by_cases d : vcN C i = vcN C q
      · rw [if_pos (show Int32.ofNat (vcN C i) = Int32.ofNat (vcN C q) by rw [d])]
        exact rec' (_, _) _ ⟨by rw [no (by unfold aliN; simp [d])]; rfl, rfl, rfl⟩
      · rw [if_neg (show ¬ Int32.ofNat (vcN C i) = Int32.ofNat (vcN C q) by rw [nz_inj (by omega) (by omega)]; exact d)]
        by_cases k : swN (vcN C) np i (2 ^ np) = swN (vcN C) np q (2 ^ np)
        · rw [if_pos (show Int32.ofNat (swN (vcN C) np i (2 ^ np)) = Int32.ofNat (swN (vcN C) np q (2 ^ np)) by rw [k])]
          exact rec' (_, _) _ ⟨by simp only [cR]; rw [if_pos ⟨Nat.zero_le _, by unfold aliN; simp [k, Ne.symm d]⟩, ← Nat.add_assoc]; rfl, rfl, rfl⟩
        · rw [if_neg (show ¬ Int32.ofNat (swN (vcN C) np i (2 ^ np)) = Int32.ofNat (swN (vcN C) np q (2 ^ np)) by rw [nz_inj (by omega) (by omega)]; exact k)]
          exact rec' (_, _) _ ⟨by rw [no (by unfold aliN; simp [Ne.symm k])]; rfl, rfl, rfl⟩
    · rintro m' ⟨a, u⟩ t' ⟨e1, e2, e3⟩
      dsimp only at e1 e2; subst e1 e2 e3
      simp only [fX12_alike_l14, fX12_alike_b14, ho_lte, nz_succ]
      rw [if_pos (show Int32.ofNat i ≤ Int32.ofNat i by rw [nz_le (by omega) (by omega)]; omega)]
      exact rec (_, _) _ ⟨rfl, rfl, rfl⟩
  · rintro m ⟨a, u⟩ t ⟨e1, e2, e3⟩
    dsimp only at e1 e2; subst e1 e2 e3
    simp only [fX12_alike_l4, fX12_alike_b4]
    rw [H.2.1.2.1, if_pos (show Int32.ofNat np ≤ Int32.ofNat np by rw [nz_le (by omega) (by omega)]; omega)]
    exact ⟨rfl, rfl⟩
theorem weigh_M (hN : 10000 ≤ N) (W : WfV C np nw) (H : HcM s c C np nw) (v2 : Int32) : fX12_weigh_l24 N N v2 0 1 s = some (if v2 = 0 then Int32.ofNat (evN (vcN C) np (2 ^ np)) else if v2 = 1 then Int32.ofNat (dfN (vcN C) np (evN (vcN C) np (2 ^ np))) else if v2 = 2 then Int32.ofNat (veN (vcN C) np (2 ^ np)) else if v2 = 3 then Int32.ofNat (mkB (fun p => decide (swN (vcN C) np p (2 ^ np) = 0)) np) else Int32.ofNat (rS (aliN (vcN C) np) np), s) := by
  have hn := W.1
  have h8 := pow8 np (by omega)
  have hw : ∀ p, p < np → vcN C p ≤ 9 := fun p hp => (wV W hp).2.2
  have l1 : evN (vcN C) np 1 = 0 := by simp [evN]
  refine ho_eq ?_
  refine ho_loop (F := fun m (b : Int32 × Int32) t => fX12_weigh_l24 N m v2 b.1 b.2 t) (fun i b t => b.1 = Int32.ofNat (evN (vcN C) np i) ∧ b.2 = Int32.ofNat i ∧ t = s) (2 ^ np) ?_ ?_ (2 ^ np - 1) N 1 (0, 1) s (by omega) (by omega) ⟨by rw [l1]; rfl, rfl, rfl⟩
  · rintro m i ⟨a, u⟩ t hi ⟨e1, e2, e3⟩ rec
    dsimp only at e1 e2; subst e1 e2 e3
    have ll := evN_le (w := vcN C) (n := np) i
    have d1 := dfN_le (a := i) hw
    have d2 := dfN_le (a := evN (vcN C) np i) hw
    simp only [fX12_weigh_l24, fX12_weigh_b24, fX12_weigh_b55, ho_lte, nz_succ]
    rw [H.2.1.2.1, shl8 np (by omega), if_neg (show ¬ Int32.ofNat (2 ^ np) ≤ Int32.ofNat i by rw [nz_le (by omega) (by omega)]; omega), apart_M hN W H hi, ho_bds, apart_M hN W H (by omega), ho_bds]
    by_cases k : dfN (vcN C) np (evN (vcN C) np i) ≤ dfN (vcN C) np i
    · rw [if_pos (show Int32.ofNat (dfN (vcN C) np (evN (vcN C) np i)) ≤ Int32.ofNat (dfN (vcN C) np i) by rw [nz_le (by omega) (by omega)]; exact k)]
      exact rec (_, _) _ ⟨by simp only [evN]; rw [if_pos k]; rfl, rfl, rfl⟩
    · rw [if_neg (show ¬ Int32.ofNat (dfN (vcN C) np (evN (vcN C) np i)) ≤ Int32.ofNat (dfN (vcN C) np i) by rw [nz_le (by omega) (by omega)]; exact k)]
      exact rec (_, _) _ ⟨by simp only [evN]; rw [if_neg k]; rfl, rfl, rfl⟩
  · rintro m ⟨a, u⟩ t ⟨e1, e2, e3⟩
    dsimp only at e1 e2; subst e1 e2 e3
    simp only [fX12_weigh_l24, fX12_weigh_b24, ho_lte]
    rw [H.2.1.2.1, shl8 np (by omega), if_pos (show Int32.ofNat (2 ^ np) ≤ Int32.ofNat (2 ^ np) by rw [nz_le (by omega) (by omega)]; omega)]
    have ll := evN_le (w := vcN C) (n := np) (2 ^ np)
    refine ho_loop (F := fun m (b : Int32 × Int32) t => fX12_weigh_l68 N m v2 (Int32.ofNat (evN (vcN C) np (2 ^ np))) b.1 b.2 t) (fun i b t' => b.1 = Int32.ofNat (mkB (fun p => decide (swN (vcN C) np p (2 ^ np) = 0)) i) ∧ b.2 = Int32.ofNat i ∧ t' = t) np ?_ ?_ np N 0 (0, 0) t (by omega) (by omega) ⟨rfl, rfl, rfl⟩
    · rintro m i ⟨a, u⟩ t' hi ⟨e1, e2, e3⟩ rec
      dsimp only at e1 e2; subst e1 e2 e3
      have sl := swN_le (w := vcN C) (n := np) (p := i) (2 ^ np)
      simp only [fX12_weigh_l68, fX12_weigh_b68, fX12_weigh_b96, ho_lte, nz_succ]
      rw [H.2.1.2.1, if_neg (show ¬ Int32.ofNat np ≤ Int32.ofNat i by rw [nz_le (by omega) (by omega)]; omega), swings_M hN W H hi, ho_bds, or8 (mkB8 (by omega)) (by omega), Int32.or_zero]
      by_cases k : swN (vcN C) np i (2 ^ np) = 0
      · rw [if_pos (show Int32.ofNat (swN (vcN C) np i (2 ^ np)) = 0 by rw [k]; rfl)]
        exact rec (_, _) _ ⟨by simp only [mkB]; rw [if_pos (by simp [k])]; rfl, rfl, rfl⟩
      · rw [if_neg (show ¬ Int32.ofNat (swN (vcN C) np i (2 ^ np)) = 0 by rw [z_eq (by omega) (by omega)]; exact k)]
        exact rec (_, _) _ ⟨by simp only [mkB]; rw [if_neg (by simp [k])]; rfl, rfl, rfl⟩
    · rintro m ⟨a, u⟩ t' ⟨e1, e2, e3⟩
      dsimp only at e1 e2; subst e1 e2 e3
      simp only [fX12_weigh_l68, fX12_weigh_b68]
      rw [H.2.1.2.1, if_pos (show Int32.ofNat np ≤ Int32.ofNat np by rw [nz_le (by omega) (by omega)]; omega), apart_M hN W H (by omega), vetoes_M hN W H, alike_M hN W H]
      simp only [ho_bds]
      by_cases k0 : v2 = 0
      · rw [if_pos k0, if_pos k0]; exact ⟨rfl, rfl⟩
      rw [if_neg k0, if_neg k0]
      by_cases k1 : v2 = 1
      · rw [if_pos k1, if_pos k1]; exact ⟨rfl, rfl⟩
      rw [if_neg k1, if_neg k1]
      by_cases k2 : v2 = 2
      · rw [if_pos k2, if_pos k2]; exact ⟨rfl, rfl⟩
      rw [if_neg k2, if_neg k2]
      by_cases k3 : v2 = 3
      · rw [if_pos k3, if_pos k3]; exact ⟨rfl, rfl⟩
      rw [if_neg k3, if_neg k3]; exact ⟨rfl, rfl⟩
end
theorem t_weigh {σ1 σ2 : Mem} {N : Nat} (hN : 10000 ≤ N) (R : RR σ1 σ2) (v1 v2 : Int32) : H2 (fX11_weigh N 0 v1 v2 σ1) (fX12_weigh N v1 v2 σ2) (QU σ1 σ2) := by
  unfold fX11_weigh fX12_weigh
  refine q_ch R v1 (fun j C np nw s2 hj W HC HM K => ?_)
  have hn := W.1.1
  have h8 := pow8 np (by omega)
  have hw : ∀ p, p < np → vcN C p ≤ 9 := fun p hp => (wV W.1 hp).2.2
  apply h2_l
  refine ho_mono (hear_C hN W.1 HC (by omega) R.2.2.1) (fun _ t1 ⟨HE, Z, z0, F⟩ => ?_)
  have E1 : KC σ1 t1 := R.kc.hear F z0
  have ll := evN_le (w := vcN C) (n := np) (2 ^ np)
  simp only [ho_lte]
  rw [isIn_Z, ho_bds, weigh_M hN W.1 HM, evenest_C hN hn hw HE, ho_bds, ho_bds, diff_C hn hw HE (by omega), ho_bds, vetoes_C hN hn hw HE, ho_bds, idle_C hN hn HE Z, ho_bds, alike_C hN hn hw HE Z, ho_bds, ve_mk, oS_rS]
  simp only [ite10, Int32.reduceToInt]
  by_cases k0 : v2 = 0
  · subst k0; rw [if_pos rfl, if_neg (show ¬ ¬ (0 ≤ (0 : Int32).toInt ∧ (0 : Int32).toInt ≤ 4) by decide), if_pos rfl]; exact ⟨rfl, E1, K⟩
  rw [if_neg k0]
  by_cases k1 : v2 = 1
  · subst k1; rw [if_pos rfl, if_neg (show ¬ ¬ (0 ≤ (1 : Int32).toInt ∧ (1 : Int32).toInt ≤ 4) by decide), if_neg k0, if_pos rfl]; exact ⟨rfl, E1, K⟩
  rw [if_neg k1]
  by_cases k2 : v2 = 2
  · subst k2; rw [if_pos rfl, if_neg (show ¬ ¬ (0 ≤ (2 : Int32).toInt ∧ (2 : Int32).toInt ≤ 4) by decide), if_neg k0, if_neg k1, if_pos rfl]; exact ⟨rfl, E1, K⟩
  rw [if_neg k2]
  by_cases k3 : v2 = 3
  · subst k3; rw [if_pos rfl, if_neg (show ¬ ¬ (0 ≤ (3 : Int32).toInt ∧ (3 : Int32).toInt ≤ 4) by decide), if_neg k0, if_neg k1, if_neg k2, if_pos rfl]; exact ⟨rfl, E1, K⟩
  rw [if_neg k3]
  by_cases k4 : v2 = 4
  · subst k4; rw [if_pos rfl, if_neg (show ¬ ¬ (0 ≤ (4 : Int32).toInt ∧ (4 : Int32).toInt ≤ 4) by decide), if_neg k0, if_neg k1, if_neg k2, if_neg k3]; exact ⟨rfl, E1, K⟩
  rw [if_neg k4, if_pos]
  · exact ⟨rfl, E1, K⟩
  · intro h
    obtain ⟨q, q1, q2, q3⟩ := z_of (a := 0) (b := 4) h
    subst q3
    have : q = 0 ∨ q = 1 ∨ q = 2 ∨ q = 3 ∨ q = 4 := by omega
    rcases this with rfl | rfl | rfl | rfl | rfl
    · exact k0 rfl
    · exact k1 rfl
    · exact k2 rfl
    · exact k3 rfl
    · exact k4 rfl
