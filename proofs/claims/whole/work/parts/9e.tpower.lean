theorem power_M {N c np nw p q : Nat} {C : Vw} {s : Mem} (hN : 10000 ≤ N) (W : WfV C np nw) (H : HcM s c C np nw) (hp : p < np) (hq : q < 100) : fX12_power_l54 N N (Int32.ofNat q) (Int32.ofNat p) 0 0 0 s = some (if 20 ≤ q then (Int64.ofNat ((if 30 ≤ q then fcN np else paN (vcN C) np p (2 ^ np)) / Nat.gcd (paN (vcN C) np p (2 ^ np)) (fcN np))).toInt32 else Int32.ofNat (swN (vcN C) np p (2 ^ np)), s) := by
  have hn := W.1
  have h8 := pow8 np (by omega)
  have fn := fcN_T np (by omega)
  have pl := paN_le (w := vcN C) (p := p) hn hp (2 ^ np) (Nat.le_refl _)
  refine ho_eq ?_
  refine ho_loop (F := fun m (b : Int32 × Int64 × Int32) t => fX12_power_l54 N m (Int32.ofNat q) (Int32.ofNat p) b.1 b.2.1 b.2.2 t) (fun i b t => b.1 = Int32.ofNat (swN (vcN C) np p i) ∧ b.2.1 = Int64.ofNat (paN (vcN C) np p i) ∧ b.2.2 = Int32.ofNat i ∧ t = s) (2 ^ np) ?_ ?_ (2 ^ np) N 0 (0, 0, 0) s (by omega) (by omega) ⟨rfl, rfl, rfl, rfl⟩
  · rintro m i ⟨a, x, u⟩ t hi ⟨e1, e2, e3, e4⟩ rec
    dsimp only at e1 e2 e3; subst e1 e2 e3 e4
    have c1 := ct9 i (by omega)
    have b8 := bt8 i (by omega) p (by omega)
    have ol := orlt hi hp
    simp only [fX12_power_l54, fX12_power_b54, fX12_power_b131, ho_lte, nz_succ]
    rw [H.2.1.2.1, shl8 np (by omega), if_neg (show ¬ Int32.ofNat (2 ^ np) ≤ Int32.ofNat i by rw [nz_le (by omega) (by omega)]; omega), holds_M, ho_bds, wins_M hN W H (by omega), ho_bds, shl8 p (by omega), b8.2.1, wins_M hN W H (by omega), ho_bds]
    simp only [ite10, b8.2.2]
    have n1 : isN (vcN C) np p i = (!i.testBit p && (!wiN (vcN C) np i && wiN (vcN C) np (i ||| 2 ^ p))) := rfl
    have no : isN (vcN C) np p i ≠ true → swN (vcN C) np p (i + 1) = swN (vcN C) np p i ∧ paN (vcN C) np p (i + 1) = paN (vcN C) np p i := fun q => ⟨by simp only [swN]; rw [if_neg q]; rfl, by simp only [paN]; rw [if_neg q]; rfl⟩
    cases k1 : i.testBit p
    · rw [if_pos (show ¬ false = true by simp)]
      cases k2 : wiN (vcN C) np i
      · rw [if_pos (show ¬ false = true by simp)]
        cases k3 : wiN (vcN C) np (i ||| 2 ^ p)
        · rw [if_pos (show ¬ false = true by simp)]
          have := no (by rw [n1, k1, k2, k3]; simp)
          exact rec (_, _, _) _ ⟨by rw [this.1]; rfl, by rw [this.2]; rfl, rfl, rfl⟩
        · rw [if_neg (show ¬ ¬ true = true by simp)]
          have y : isN (vcN C) np p i = true := by rw [n1, k1, k2, k3]; rfl
          have l := isN_ct hn hp hi y
          have e : Int32.ofNat np - 1 - Int32.ofNat (ctN 8 i) = Int32.ofNat (np - 1 - ctN 8 i) := by
            obtain ⟨d, hd⟩ : ∃ d, np = d + ctN 8 i + 1 := ⟨np - 1 - ctN 8 i, by omega⟩
            rw [hd, z_sub1, ← nz_add, Int32.add_sub_cancel]
            congr 1; omega
          rw [bits_M hN, c1.1, ho_bds, fact_M hN (by omega), ho_bds, bits_M hN, c1.1, ho_bds, H.2.1.2.1, e, fact_M hN (by omega), ho_bds, l_mul, l_add]
          exact rec (_, _, _) _ ⟨by simp only [swN]; rw [if_pos y]; rfl, by simp only [paN]; rw [if_pos y]; rfl, rfl, rfl⟩
      · rw [if_neg (show ¬ ¬ true = true by simp)]
        have := no (by rw [n1, k1, k2]; simp)
        exact rec (_, _, _) _ ⟨by rw [this.1]; rfl, by rw [this.2]; rfl, rfl, rfl⟩
    · rw [if_neg (show ¬ ¬ true = true by simp)]
      have := no (by rw [n1, k1]; simp)
      exact rec (_, _, _) _ ⟨by rw [this.1]; rfl, by rw [this.2]; rfl, rfl, rfl⟩
  · rintro m ⟨a, x, u⟩ t ⟨e1, e2, e3, e4⟩
    dsimp only at e1 e2 e3; subst e1 e2 e3 e4
    simp only [fX12_power_l54, fX12_power_b54, fX12_power_b170, ho_lte]
    rw [H.2.1.2.1, shl8 np (by omega), if_pos (show Int32.ofNat (2 ^ np) ≤ Int32.ofNat (2 ^ np) by rw [nz_le (by omega) (by omega)]; omega), fact_M hN (by omega), ho_bds, common_M hN (by omega) (by omega)]
    have g0 : 0 < Nat.gcd (paN (vcN C) np p (2 ^ np)) (fcN np) := Nat.gcd_pos_of_pos_right _ (by omega)
    have g1 : Nat.gcd (paN (vcN C) np p (2 ^ np)) (fcN np) ≤ fcN np := Nat.gcd_le_right _ (by omega)
    simp only [ho_bds]
    rw [decide_eq_false (fun h => by have := (l_zero (by omega)).mp h; omega), Bool.not_false, ho_gdt, ho_gdt, l_div (by omega) (by omega), l_div (by omega) (by omega)]
    simp only [z_le (show 20 < 2147483648 by omega) (show q < 2147483648 by omega), z_le (show 30 < 2147483648 by omega) (show q < 2147483648 by omega)]
    by_cases k : 20 ≤ q
    · rw [if_pos k, if_pos k]
      by_cases k' : 30 ≤ q
      · rw [if_pos k', if_pos k']; exact ⟨rfl, rfl⟩
      · rw [if_neg k', if_neg k']; exact ⟨rfl, rfl⟩
    · rw [if_neg k, if_neg k]; exact ⟨rfl, rfl⟩
/-- what hearing leaves of the class -/
theorem KC.hear {σ s t : Mem} (x : KC σ s) (F : FrC (0 + 266) (0 + 266 + 4) s t) (h : t.1 (0 + 266 + 3) 0 = 0) : KC σ t :=
  ⟨fun k hk => (F.1 k (by omega)).trans (x.1 k hk), h, by unfold VR; rw [F.1 220 (by omega)]; exact x.2.2⟩
theorem t_power {σ1 σ2 : Mem} {N : Nat} (hN : 10000 ≤ N) (R : RR σ1 σ2) (v1 v2 : Int32) : H2 (fX11_power N 0 v1 v2 σ1) (fX12_power N v1 v2 σ2) (QU σ1 σ2) := by
  unfold fX11_power fX12_power
  refine q_ch R v1 (fun j C np nw s2 hj W HC HM K => ?_)
  have hn := W.1.1
  have hw : ∀ p, p < np → vcN C p ≤ 9 := fun p hp => (wV W.1 hp).2.2
  apply h2_l
  refine ho_mono (hear_C hN W.1 HC (by omega) R.2.2.1) (fun _ t1 ⟨HE, Z, z0, F⟩ => ?_)
  have E1 : KC σ1 t1 := R.kc.hear F z0
  have nn : t1.1 (7 + 9 * j) 0 = Int32.ofNat np := by rw [F.1 _ (by omega), HC.1, W.1.2.2.1]
  by_cases c0 : v2 = 0
  · rw [if_pos c0, if_pos c0, leastSet_C hN hn hw HE, leastSet_M hN W.1 HM, ho_bds, ho_bds]
    exact ⟨rfl, E1, K⟩
  · rw [if_neg c0, if_neg c0]
    simp only [ho_lte]
    rw [isIn_Z, ho_bds]
    simp only [ite10, Int32.reduceToInt]
    unfold fX11_power_b65 fX11_power_b95
    rw [nn, show (10 : Int32) + Int32.ofNat np = Int32.ofNat (10 + np) from nz_add, show (20 : Int32) + Int32.ofNat np = Int32.ofNat (20 + np) from nz_add, show (30 : Int32) + Int32.ofNat np = Int32.ofNat (30 + np) from nz_add]
    by_cases c1 : 10 ≤ v2.toInt ∧ v2.toInt ≤ 39
    · obtain ⟨q, q1, q2, q3⟩ := z_of (a := 10) (b := 39) c1
      rw [if_neg (show ¬ ¬ (10 ≤ v2.toInt ∧ v2.toInt ≤ 39) from fun h => h c1)]
      subst q3
      rw [rm10 q (by omega), isPiece_M _ HM.2.1.2.1 hn, ho_bds]
      simp only [ite10, nz_inb (show q % 10 < 2147483648 by omega), decide_eq_true_eq, z_gt (show 10 < 2147483648 by omega) (show q < 2147483648 by omega), z_gt (show 20 < 2147483648 by omega) (show q < 2147483648 by omega), z_gt (show 30 < 2147483648 by omega) (show q < 2147483648 by omega), nz_le (show 10 + np < 2147483648 by omega) (show q < 2147483648 by omega), nz_le (show 20 + np < 2147483648 by omega) (show q < 2147483648 by omega), nz_le (show 30 + np < 2147483648 by omega) (show q < 2147483648 by omega)]
      rw [if_neg (show ¬ q < 10 by omega)]
      by_cases c2 : q % 10 < np
      · rw [if_neg (show ¬ ¬ q % 10 < np from fun h => h c2), power_M hN W.1 HM c2 (by omega)]
        by_cases d1 : q < 20
        · rw [if_neg (show ¬ 10 + np ≤ q by omega), if_neg (show ¬ 20 ≤ q by omega), nz_subL (by omega) (by omega), nz_inb (by omega), nz_nat (by omega), decide_eq_true (by omega), ho_gdt, show q - 10 = q % 10 by omega, Z _ c2]
          exact ⟨rfl, E1, K⟩
        · rw [if_pos (show 10 + np ≤ q by omega), if_neg d1, if_pos (show 20 ≤ q by omega)]
          by_cases d2 : q < 30
          · rw [if_neg (show ¬ 20 + np ≤ q by omega), if_neg (show ¬ 30 ≤ q by omega), nz_subL (by omega) (by omega), show q - 20 = q % 10 by omega, part_C hN hn hw HE c2, ho_bds, if_pos rfl]
            exact ⟨rfl, E1, K⟩
          · rw [if_pos (show 20 + np ≤ q by omega), if_pos (show 30 ≤ q by omega), if_neg d2, if_neg (show ¬ 30 + np ≤ q by omega), nz_subL (by omega) (by omega), show q - 30 = q % 10 by omega, part_C hN hn hw HE c2, ho_bds, if_neg (by decide)]
            exact ⟨rfl, E1, K⟩
      · rw [if_pos c2, if_pos (show 10 + np ≤ q by omega)]
        by_cases d1 : q < 20
        · rw [if_pos d1, if_pos (show q < 30 by omega)]; exact ⟨rfl, E1, K⟩
        · rw [if_neg d1, if_pos (show 20 + np ≤ q by omega)]
          by_cases d2 : q < 30
          · rw [if_pos d2]; exact ⟨rfl, E1, K⟩
          · rw [if_neg d2, if_pos (show 30 + np ≤ q by omega)]; exact ⟨rfl, E1, K⟩
    · rw [if_pos c1]
      by_cases d : v2.toInt < 10
      · rw [if_pos (show v2 < 10 by rw [i32_lt]; exact d), if_pos (show v2 < 20 by rw [i32_lt]; show v2.toInt < 20; omega), if_pos (show v2 < 30 by rw [i32_lt]; show v2.toInt < 30; omega)]
        exact ⟨rfl, E1, K⟩
      · rw [if_neg (show ¬ v2 < 10 by rw [i32_lt]; exact d), if_pos (show Int32.ofNat (10 + np) ≤ v2 by rw [i32_le, nz_toInt (by omega)]; omega), if_neg (show ¬ v2 < 20 by rw [i32_lt]; show ¬ v2.toInt < 20; omega), if_pos (show Int32.ofNat (20 + np) ≤ v2 by rw [i32_le, nz_toInt (by omega)]; omega), if_neg (show ¬ v2 < 30 by rw [i32_lt]; show ¬ v2.toInt < 30; omega), if_pos (show Int32.ofNat (30 + np) ≤ v2 by rw [i32_le, nz_toInt (by omega)]; omega)]
        exact ⟨rfl, E1, K⟩
