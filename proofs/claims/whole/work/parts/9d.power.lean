/-! Who could win: power. -/
theorem ct9 : ∀ a, a < 256 → bitsV (Int32.ofNat a) = Int32.ofNat (ctN 8 a) ∧ ctN 8 a ≤ 8 := by decide +kernel
theorem i64n {x : Nat} (h : x < 2147483648) : (Int32.ofNat x).toInt64 = Int64.ofNat x := by
  apply Int64.toInt_inj.mp
  rw [Int32.toInt_toInt64, nz_toInt h, l_toInt (by omega)]
def fcN : Nat → Nat
  | 0 => 1
  | k + 1 => (k + 1) * fcN k
theorem fcN_T : ∀ k, k < 9 → facT.getD k 0 = Int32.ofNat (fcN k) ∧ 1 ≤ fcN k ∧ fcN k ≤ 40320 := by decide +kernel
theorem fcN_2 : ∀ a, a < 8 → ∀ b, b < 8 → a + b ≤ 7 → fcN a * fcN b ≤ 5040 := by decide +kernel
theorem ct_p : ∀ n, n < 9 → ∀ s, s < 2 ^ n → ∀ p, p < n → s.testBit p = false → ctN 8 s < n := by decide +kernel
theorem testFull {n i : Nat} (h : i < n) : (2 ^ n - 1).testBit i = true := by rw [Nat.testBit_two_pow_sub_one]; exact decide_eq_true h
def lsN (w : Nat → Nat) (n : Nat) : Nat → Nat
  | 0 => 0
  | i + 1 => if wiN w n i = true ∧ (lsN w n i = 0 ∨ ctN 8 i < ctN 8 (lsN w n i)) then i else lsN w n i
theorem lsN_le {w : Nat → Nat} {n : Nat} : ∀ i, lsN w n i ≤ i
  | 0 => Nat.le_refl _
  | i + 1 => by
    have := lsN_le (w := w) (n := n) i
    simp only [lsN]; split <;> omega
def paN (w : Nat → Nat) (n p : Nat) : Nat → Nat
  | 0 => 0
  | i + 1 => paN w n p i + (if isN w n p i = true then fcN (ctN 8 i) * fcN (n - 1 - ctN 8 i) else 0)
theorem isN_ct {w : Nat → Nat} {n p i : Nat} (hn : n ≤ 8) (hp : p < n) (hi : i < 2 ^ n) (h : isN w n p i = true) : ctN 8 i < n := by
  refine ct_p n (by omega) i hi p hp ?_
  unfold isN at h
  cases c : i.testBit p
  · rfl
  · rw [c] at h; simp at h
theorem paN_le {w : Nat → Nat} {n p : Nat} (hn : n ≤ 8) (hp : p < n) : ∀ i, i ≤ 2 ^ n → paN w n p i ≤ 5040 * i
  | 0, _ => Nat.le_refl _
  | i + 1, h => by
    have ih := paN_le (w := w) (p := p) hn hp i (by omega)
    simp only [paN]
    by_cases c : isN w n p i = true
    · have l := isN_ct hn hp (by omega) c
      have := fcN_2 (ctN 8 i) (by omega) (n - 1 - ctN 8 i) (by omega) (by omega)
      rw [if_pos c]; omega
    · rw [if_neg c]; omega
theorem wi0 {w : Nat → Nat} {n : Nat} : wiN w n 0 = false := by
  unfold wiN
  have : ∀ n, smN w n 0 = 0 := fun n => by
    induction n with
    | zero => rfl
    | succ n ih => simp [smN, ih]
  rw [this]; simp
section
variable {N n h : Nat} {w : Nat → Nat} {s : Mem}
theorem leastSet_C (hN : 10000 ≤ N) (hn : n ≤ 8) (hw : ∀ p, p < n → w p ≤ 9) (H : HeC s h w n) : fX5_leastSet N h s = some (Int32.ofNat (lsN w n (2 ^ n)), s) := by
  have h8 := pow8 n (by omega)
  unfold fX5_leastSet
  simp only [ho_lte]
  refine ho_eq ?_
  refine ho_loop (F := fun m (b : Int32 × Int32 × Int32) t => fX5_leastSet_l7 N h m b.1 b.2.1 b.2.2 t) (fun i b t => b.1 = Int32.ofNat (lsN w n i) ∧ b.2.1 = Int32.ofNat (if lsN w n i = 0 then 9 else ctN 8 (lsN w n i)) ∧ b.2.2 = Int32.ofNat i ∧ t = s) (2 ^ n) ?_ ?_ (2 ^ n) N 0 (0, 9, 0) s (by omega) (by omega) ⟨rfl, rfl, rfl, rfl⟩
  · rintro m i ⟨a, f, u⟩ t hi ⟨e1, e2, e3, e4⟩ rec
    dsimp only at e1 e2 e3; subst e1 e2 e3 e4
    have c1 := ct9 i (by omega)
    have ll := lsN_le (w := w) (n := n) i
    have c2 := ct9 (lsN w n i) (by omega)
    simp only [fX5_leastSet_l7, fX5_leastSet_b7, fX5_leastSet_b40, ho_lte, nz_succ]
    rw [H.2.1, if_neg (show ¬ Int32.ofNat (2 ^ n) ≤ Int32.ofNat i by rw [nz_le (by omega) (by omega)]; omega), bc_J6, ho_bds, bc_bits i (by omega), c1.1, wins_C hn hw H hi]
    simp only [ho_bds, ite10]
    have zz : (if lsN w n i = 0 then 9 else ctN 8 (lsN w n i)) ≤ 9 := by split <;> omega
    have nx : lsN w n (i + 1) = if wiN w n i = true ∧ (lsN w n i = 0 ∨ ctN 8 i < ctN 8 (lsN w n i)) then i else lsN w n i := rfl
    by_cases c : (if lsN w n i = 0 then 9 else ctN 8 (lsN w n i)) ≤ ctN 8 i
    · rw [if_pos (show Int32.ofNat (if lsN w n i = 0 then 9 else ctN 8 (lsN w n i)) ≤ Int32.ofNat (ctN 8 i) by rw [nz_le (by omega) (by omega)]; exact c)]
      have : lsN w n (i + 1) = lsN w n i := by
        rw [nx, if_neg]
        rintro ⟨_, q | q⟩
        · rw [if_pos q] at c; omega
        · split at c <;> omega
      exact rec (_, _, _) _ ⟨by rw [this]; rfl, by rw [this]; rfl, rfl, rfl⟩
    · rw [if_neg (show ¬ Int32.ofNat (if lsN w n i = 0 then 9 else ctN 8 (lsN w n i)) ≤ Int32.ofNat (ctN 8 i) by rw [nz_le (by omega) (by omega)]; exact c)]
      by_cases d : wiN w n i = true
      · rw [if_neg (show ¬ ¬ wiN w n i = true by simp [d])]
        have : lsN w n (i + 1) = i := by
          rw [nx, if_pos]
          refine ⟨d, ?_⟩
          by_cases q : lsN w n i = 0
          · exact Or.inl q
          · rw [if_neg q] at c; exact Or.inr (by omega)
        have i0 : i ≠ 0 := fun q => by rw [q, wi0] at d; cases d
        exact rec (_, _, _) _ ⟨by rw [this]; rfl, by rw [this, if_neg i0]; rfl, rfl, rfl⟩
      · rw [if_pos d]
        have : lsN w n (i + 1) = lsN w n i := by rw [nx, if_neg (fun q => d q.1)]
        exact rec (_, _, _) _ ⟨by rw [this]; rfl, by rw [this]; rfl, rfl, rfl⟩
  · rintro m ⟨a, f, u⟩ t ⟨e1, e2, e3, e4⟩
    dsimp only at e1 e2 e3; subst e1 e2 e3 e4
    simp only [fX5_leastSet_l7, fX5_leastSet_b7]
    rw [H.2.1, if_pos (show Int32.ofNat (2 ^ n) ≤ Int32.ofNat (2 ^ n) by rw [nz_le (by omega) (by omega)]; omega)]
    exact ⟨rfl, rfl⟩
theorem part_C (hN : 10000 ≤ N) (hn : n ≤ 8) (hw : ∀ p, p < n → w p ≤ 9) (H : HeC s h w n) {p : Nat} (hp : p < n) (u : Int32) : fX5_part N h (Int32.ofNat p) u s = some ((Int64.ofNat ((if u = 0 then paN w n p (2 ^ n) else fcN n) / Nat.gcd (paN w n p (2 ^ n)) (fcN n))).toInt32, s) := by
  have h8 := pow8 n (by omega)
  have fn := fcN_T n (by omega)
  have pl := paN_le (w := w) (p := p) hn hp (2 ^ n) (Nat.le_refl _)
  unfold fX5_part
  rw [H.1, if_neg (show ¬ Int32.ofNat n < 1 by rw [z_gt (by omega) (by omega)]; omega), if_pos (show Int32.ofNat n < 9 by rw [z_gt (by omega) (by omega)]; omega)]
  simp only [ho_lte]
  refine ho_eq ?_
  refine ho_loop (F := fun m (b : Int32 × Int32) t => fX5_part_l26 N h m (Int32.ofNat p) u b.1 b.2 t) (fun i b t => b.1 = Int32.ofNat (paN w n p i) ∧ b.2 = Int32.ofNat i ∧ t = s) (2 ^ n) ?_ ?_ (2 ^ n) N 0 (0, 0) s (by omega) (by omega) ⟨rfl, rfl, rfl⟩
  · rintro m i ⟨a, x⟩ t hi ⟨e1, e2, e3⟩ rec
    dsimp only at e1 e2; subst e1 e2 e3
    have c1 := ct9 i (by omega)
    simp only [fX5_part_l26, fX5_part_b26, fX5_part_b84, ho_lte, nz_succ]
    rw [H.2.1, if_neg (show ¬ Int32.ofNat (2 ^ n) ≤ Int32.ofNat i by rw [nz_le (by omega) (by omega)]; omega), bc_J6, ho_bds, bc_bits i (by omega), c1.1, isSwing_C hn hw H hi hp, H.1]
    simp only [ho_bds, ite10]
    by_cases c : isN w n p i = true
    · have l := isN_ct hn hp hi c
      rw [if_neg (show ¬ Int32.ofNat n ≤ Int32.ofNat (ctN 8 i) by rw [nz_le (by omega) (by omega)]; omega), if_neg (show ¬ ¬ isN w n p i = true by simp [c]), H.1]
      have e : Int32.ofNat n - 1 - Int32.ofNat (ctN 8 i) = Int32.ofNat (n - 1 - ctN 8 i) := by
        obtain ⟨d, hd⟩ : ∃ d, n = d + ctN 8 i + 1 := ⟨n - 1 - ctN 8 i, by omega⟩
        rw [hd, z_sub1, ← nz_add, Int32.add_sub_cancel]
        congr 1; omega
      rw [e, nz_inb (by omega), nz_inb (by omega), nz_nat (by omega), nz_nat (by omega), decide_eq_true (show ctN 8 i < 9 by omega), decide_eq_true (show n - 1 - ctN 8 i < 9 by omega), ho_gdt, ho_gdt, (fcN_T _ (show ctN 8 i < 9 by omega)).1, (fcN_T _ (show n - 1 - ctN 8 i < 9 by omega)).1, nz_mul, nz_add]
      exact rec (_, _) _ ⟨by simp only [paN]; rw [if_pos c]; rfl, rfl, rfl⟩
    · rw [if_pos c]
      have : paN w n p (i + 1) = paN w n p i := by simp only [paN]; rw [if_neg c]; rfl
      by_cases d : Int32.ofNat n ≤ Int32.ofNat (ctN 8 i)
      · rw [if_pos d]; exact rec (_, _) _ ⟨by rw [this]; rfl, rfl, rfl⟩
      · rw [if_neg d]; exact rec (_, _) _ ⟨by rw [this]; rfl, rfl, rfl⟩
  · rintro m ⟨a, x⟩ t ⟨e1, e2, e3⟩
    dsimp only at e1 e2; subst e1 e2 e3
    simp only [fX5_part_l26, fX5_part_b26]
    rw [H.2.1, if_pos (show Int32.ofNat (2 ^ n) ≤ Int32.ofNat (2 ^ n) by rw [nz_le (by omega) (by omega)]; omega), H.1, nz_inb (by omega), nz_nat (by omega), decide_eq_true (by omega), ho_gdt, fn.1, i64n (by omega), i64n (by omega), least_C hN (by omega) (by omega) (by omega), ho_bds]
    exact ⟨rfl, rfl⟩
end
section
variable {N c np nw : Nat} {C : Vw} {s : Mem}
theorem wins_M (hN : 10000 ≤ N) (W : WfV C np nw) (H : HcM s c C np nw) {a : Nat} (ha : a < 256) : fX12_wins N (Int32.ofNat a) s = some (if wiN (vcN C) np a = true then 1 else 0, s) := by
  have hn := W.1
  have hw : ∀ p, p < np → vcN C p ≤ 9 := fun p hp => (wV W hp).2.2
  have l1 := smN_le (s := a) np hw
  have l2 := smN_le (s := 2 ^ np - 1) np hw
  unfold fX12_wins
  simp only [ho_lte]
  refine ho_eq ?_
  refine ho_loop (F := fun m (b : Int32 × Int32 × Int32) t => fX12_wins_l7 N m (Int32.ofNat a) b.1 b.2.1 b.2.2 t) (fun i b t => b.1 = Int32.ofNat (smN (vcN C) i a) ∧ b.2.1 = Int32.ofNat (smN (vcN C) i (2 ^ np - 1)) ∧ b.2.2 = Int32.ofNat i ∧ t = s) np ?_ ?_ np N 0 (0, 0, 0) s (by omega) (by omega) ⟨rfl, rfl, rfl, rfl⟩
  · rintro m i ⟨x, y, u⟩ t hi ⟨e1, e2, e3, e4⟩ rec
    dsimp only at e1 e2 e3; subst e1 e2 e3 e4
    have v := (wV W hi).1
    have tf := testFull hi
    simp only [fX12_wins_l7, fX12_wins_b7, fX12_wins_b37, ho_lte, nz_succ, H.2.1.2.1, holds_M, ho_bds, of_M5 H hi, ite10, (bt8 a ha i (by omega)).2.2]
    rw [if_neg (show ¬ Int32.ofNat np ≤ Int32.ofNat i by rw [nz_le (by omega) (by omega)]; omega)]
    change C 7 i = Int32.ofNat (vcN C i) at v
    rw [v, nz_add]
    by_cases q : a.testBit i = true
    · rw [if_neg (show ¬ ¬ a.testBit i = true by simp [q]), nz_add]
      exact rec (_, _, _) _ ⟨by simp only [smN]; rw [if_pos q]; rfl, by simp only [smN]; rw [if_pos tf]; rfl, rfl, rfl⟩
    · rw [if_pos q]
      exact rec (_, _, _) _ ⟨by simp only [smN]; rw [if_neg q, Int32.add_zero]; rfl, by simp only [smN]; rw [if_pos tf]; rfl, rfl, rfl⟩
  · rintro m ⟨x, y, u⟩ t ⟨e1, e2, e3, e4⟩
    dsimp only at e1 e2 e3; subst e1 e2 e3 e4
    simp only [fX12_wins_l7, fX12_wins_b7, H.2.1.2.1]
    rw [if_pos (show Int32.ofNat np ≤ Int32.ofNat np by rw [nz_le (by omega) (by omega)]; omega), show (2 : Int32) = Int32.ofNat 2 from rfl, nz_mul]
    unfold wiN toN
    by_cases q : smN (vcN C) np (2 ^ np - 1) < 2 * smN (vcN C) np a
    · rw [if_neg (show ¬ Int32.ofNat (2 * smN (vcN C) np a) ≤ Int32.ofNat (smN (vcN C) np (2 ^ np - 1)) by rw [nz_le (by omega) (by omega)]; omega), decide_eq_true q]; exact ⟨rfl, rfl⟩
    · rw [if_pos (show Int32.ofNat (2 * smN (vcN C) np a) ≤ Int32.ofNat (smN (vcN C) np (2 ^ np - 1)) by rw [nz_le (by omega) (by omega)]; omega), decide_eq_false q]; exact ⟨rfl, rfl⟩
theorem leastSet_M (hN : 10000 ≤ N) (W : WfV C np nw) (H : HcM s c C np nw) : fX12_leastSet N s = some (Int32.ofNat (lsN (vcN C) np (2 ^ np)), s) := by
  have hn := W.1
  have h8 := pow8 np (by omega)
  unfold fX12_leastSet
  simp only [ho_lte]
  refine ho_eq ?_
  have l1 : lsN (vcN C) np 1 = 0 := by simp only [lsN]; rw [if_neg (fun q => by rw [wi0] at q; exact absurd q.1 (by simp))]
  refine ho_loop (F := fun m (b : Int32 × Int32) t => fX12_leastSet_l4 N m b.1 b.2 t) (fun i b t => b.1 = Int32.ofNat (lsN (vcN C) np i) ∧ b.2 = Int32.ofNat i ∧ t = s) (2 ^ np) ?_ ?_ (2 ^ np - 1) N 1 (0, 1) s (by omega) (by omega) ⟨by rw [l1]; rfl, rfl, rfl⟩
  · rintro m i ⟨a, u⟩ t hi ⟨e1, e2, e3⟩ rec
    dsimp only at e1 e2; subst e1 e2 e3
    have c1 := ct9 i (by omega)
    have ll := lsN_le (w := vcN C) (n := np) i
    have c2 := ct9 (lsN (vcN C) np i) (by omega)
    have nx : lsN (vcN C) np (i + 1) = if wiN (vcN C) np i = true ∧ (lsN (vcN C) np i = 0 ∨ ctN 8 i < ctN 8 (lsN (vcN C) np i)) then i else lsN (vcN C) np i := rfl
    simp only [fX12_leastSet_l4, fX12_leastSet_b4, fX12_leastSet_b37, fX12_leastSet_b39, ho_lte, nz_succ]
    rw [H.2.1.2.1, shl8 np (by omega), if_neg (show ¬ Int32.ofNat (2 ^ np) ≤ Int32.ofNat i by rw [nz_le (by omega) (by omega)]; omega), wins_M hN W H (by omega)]
    simp only [ho_bds, ite10, bits_M hN, c1.1, c2.1]
    by_cases d : wiN (vcN C) np i = true
    · rw [if_neg (show ¬ ¬ wiN (vcN C) np i = true by simp [d])]
      by_cases z : lsN (vcN C) np i = 0
      · have : lsN (vcN C) np (i + 1) = i := by rw [nx, if_pos ⟨d, Or.inl z⟩]
        rw [if_pos (show Int32.ofNat (lsN (vcN C) np i) = 0 by rw [z]; rfl)]
        exact rec (_, _) _ ⟨by rw [this]; rfl, rfl, rfl⟩
      · rw [if_neg (show ¬ Int32.ofNat (lsN (vcN C) np i) = 0 by rw [z_eq (by omega) (by omega)]; exact z)]
        by_cases q : ctN 8 (lsN (vcN C) np i) ≤ ctN 8 i
        · have : lsN (vcN C) np (i + 1) = lsN (vcN C) np i := by
            rw [nx, if_neg]
            rintro ⟨_, x | x⟩ <;> omega
          rw [if_pos (show Int32.ofNat (ctN 8 (lsN (vcN C) np i)) ≤ Int32.ofNat (ctN 8 i) by rw [nz_le (by omega) (by omega)]; exact q)]
          exact rec (_, _) _ ⟨by rw [this]; rfl, rfl, rfl⟩
        · have : lsN (vcN C) np (i + 1) = i := by rw [nx, if_pos ⟨d, Or.inr (by omega)⟩]
          rw [if_neg (show ¬ Int32.ofNat (ctN 8 (lsN (vcN C) np i)) ≤ Int32.ofNat (ctN 8 i) by rw [nz_le (by omega) (by omega)]; exact q)]
          exact rec (_, _) _ ⟨by rw [this]; rfl, rfl, rfl⟩
    · have : lsN (vcN C) np (i + 1) = lsN (vcN C) np i := by rw [nx, if_neg (fun q => d q.1)]
      rw [if_pos d]
      exact rec (_, _) _ ⟨by rw [this]; rfl, rfl, rfl⟩
  · rintro m ⟨a, u⟩ t ⟨e1, e2, e3⟩
    dsimp only at e1 e2; subst e1 e2 e3
    simp only [fX12_leastSet_l4, fX12_leastSet_b4]
    rw [H.2.1.2.1, shl8 np (by omega), if_pos (show Int32.ofNat (2 ^ np) ≤ Int32.ofNat (2 ^ np) by rw [nz_le (by omega) (by omega)]; omega)]
    exact ⟨rfl, rfl⟩
theorem fact_M (hN : 10000 ≤ N) {n : Nat} (hn : n ≤ 8) : fX12_factorial N (Int32.ofNat n) s = some (Int64.ofNat (fcN n), s) := by
  unfold fX12_factorial
  simp only [ho_lte]
  refine ho_eq ?_
  by_cases c : n < 2
  · obtain ⟨N', rfl⟩ : ∃ k, N = k + 1 := ⟨N - 1, by omega⟩
    simp only [fX12_factorial_l4, fX12_factorial_b4]
    rw [if_pos (show Int32.ofNat n < 2 by rw [z_gt (by omega) (by omega)]; omega)]
    refine ⟨?_, rfl⟩
    have : n = 0 ∨ n = 1 := by omega
    rcases this with rfl | rfl <;> rfl
  · refine ho_loop (F := fun m (b : Int64 × Int32) t => fX12_factorial_l4 N m (Int32.ofNat n) b.1 b.2 t) (fun i b t => b.1 = Int64.ofNat (fcN (i - 1)) ∧ b.2 = Int32.ofNat i ∧ t = s ∧ 2 ≤ i) (n + 1) ?_ ?_ (n - 1) N 2 (1, 2) s (by omega) (by omega) ⟨rfl, rfl, rfl, by omega⟩
    · rintro m i ⟨a, u⟩ t hi ⟨e1, e2, e3, e4⟩ rec
      dsimp only at e1 e2; subst e1 e2 e3
      simp only [fX12_factorial_l4, fX12_factorial_b4, ho_lte, nz_succ]
      rw [if_neg (show ¬ Int32.ofNat n < Int32.ofNat i by rw [nz_lt (by omega) (by omega)]; omega), i64n (by omega), l_mul]
      refine rec (_, _) _ ⟨?_, rfl, rfl, by omega⟩
      obtain ⟨k, rfl⟩ : ∃ k, i = k + 1 := ⟨i - 1, by omega⟩
      rw [Nat.add_sub_cancel, Nat.add_sub_cancel, Nat.mul_comm]; rfl
    · rintro m ⟨a, u⟩ t ⟨e1, e2, e3, e4⟩
      dsimp only at e1 e2; subst e1 e2 e3
      simp only [fX12_factorial_l4, fX12_factorial_b4]
      rw [if_pos (show Int32.ofNat n < Int32.ofNat (n + 1) by rw [nz_lt (by omega) (by omega)]; omega)]
      exact ⟨rfl, rfl⟩
end
