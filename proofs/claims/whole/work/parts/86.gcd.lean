/-! Longs that are no less than 0; least terms. -/
theorem l_toInt {n : Nat} (h : n < 9223372036854775808) : (Int64.ofNat n).toInt = n := Int64.toInt_ofNat_of_lt h
theorem l_inj {a b : Nat} (ha : a < 9223372036854775808) (hb : b < 9223372036854775808) : Int64.ofNat a = Int64.ofNat b ↔ a = b := by
  rw [← Int64.toInt_inj, l_toInt ha, l_toInt hb]; omega
theorem l_add {a b : Nat} : Int64.ofNat a + Int64.ofNat b = Int64.ofNat (a + b) := (Int64.ofNat_add a b).symm
theorem l_mul {a b : Nat} : Int64.ofNat a * Int64.ofNat b = Int64.ofNat (a * b) := (Int64.ofNat_mul a b).symm
theorem l_div {a b : Nat} (ha : a < 9223372036854775808) (hb : b < 9223372036854775808) : Int64.ofNat a / Int64.ofNat b = Int64.ofNat (a / b) := by
  have h : a / b ≤ a := Nat.div_le_self a b
  rw [← Int64.toInt_inj, l_toInt (by omega), Int64.toInt_div, l_toInt ha, l_toInt hb, ← Int.ofNat_tdiv]
  generalize a / b = q at h
  apply Int.bmod_eq_of_le <;> omega
theorem l_rem {a b : Nat} (ha : a < 9223372036854775808) (hb : b < 9223372036854775808) : rmL (Int64.ofNat a) (Int64.ofNat b) = Int64.ofNat (a % b) := by
  unfold rmL
  rw [l_div ha hb, l_mul]
  have e : a = a % b + a / b * b := by
    have := Nat.mod_add_div a b
    rw [Nat.mul_comm] at this; omega
  have h2 : Int64.ofNat a = Int64.ofNat (a % b) + Int64.ofNat (a / b * b) := by rw [l_add, ← e]
  rw [h2, Int64.add_sub_cancel]
theorem l_cmp0 {a : Nat} (ha : a < 9223372036854775808) : (lg_cmp (Int64.ofNat a) 0 = 0) ↔ a = 0 := by
  rw [lg_cmp_eq, show (0 : Int64) = Int64.ofNat 0 from rfl, l_inj ha (by omega)]
theorem l_zero {a : Nat} (ha : a < 9223372036854775808) : (Int64.ofNat a = 0) ↔ a = 0 := by
  rw [show (0 : Int64) = Int64.ofNat 0 from rfl, l_inj ha (by omega)]
theorem gcd_st (a b : Nat) : Nat.gcd a b = Nat.gcd b (a % b) := by
  rw [Nat.gcd_comm a b, Nat.gcd_rec b a, Nat.gcd_comm]
theorem half_lt {b r k : Nat} (h : b < 2 * k) (h1 : 0 < r) (h2 : r < b) : b % r < k := by
  have h3 := Nat.mod_lt b h1
  by_cases c : 2 * r ≤ b
  · omega
  · have : b % r = b - r := by rw [Nat.mod_eq_sub_mod (by omega), Nat.mod_eq_of_lt (by omega)]
    omega
theorem common_l {N : Nat} {σ : Mem} : ∀ (k a b n : Nat), a < 9223372036854775808 → b < 9223372036854775808 → b < 2 ^ k → 2 * k + 1 ≤ n → fX12_common_l6 N n (Int64.ofNat a) (Int64.ofNat b) σ = some (Int64.ofNat (Nat.gcd a b), σ)
  | 0, a, b, n + 1, ha, hb, hk, hn => by
    have : b = 0 := by omega
    subst this
    rw [fX12_common_l6]
    unfold fX12_common_b6
    rw [if_pos ((l_cmp0 (by omega)).mpr rfl), Nat.gcd_zero_right]
  | k + 1, a, b, n + 2, ha, hb, hk, hn => by
    rw [fX12_common_l6]
    unfold fX12_common_b6
    by_cases z : b = 0
    · rw [if_pos ((l_cmp0 hb).mpr z), z, Nat.gcd_zero_right]
    · have hr := Nat.mod_lt a (Nat.pos_of_ne_zero z)
      rw [if_neg (fun h => z ((l_cmp0 hb).mp h)), decide_eq_false (fun h => z ((l_zero hb).mp h))]
      simp only [Bool.not_false, ho_gdt, ho_lte]
      rw [l_rem ha hb, fX12_common_l6]
      unfold fX12_common_b6
      by_cases z2 : a % b = 0
      · rw [if_pos ((l_cmp0 (by omega)).mpr z2), gcd_st, z2, Nat.gcd_zero_right]
      · have h3 := half_lt (k := 2 ^ k) (by rw [Nat.pow_succ] at hk; omega) (Nat.pos_of_ne_zero z2) hr
        rw [if_neg (fun h => z2 ((l_cmp0 (by omega)).mp h)), decide_eq_false (fun h => z2 ((l_zero (by omega)).mp h))]
        simp only [Bool.not_false, ho_gdt, ho_lte]
        rw [l_rem hb (by omega), common_l k (a % b) (b % (a % b)) n (by omega) (Nat.lt_of_le_of_lt (Nat.mod_le _ _) hb) h3 (by omega), ← gcd_st b (a % b), ← gcd_st a b]
theorem common_M {N a b : Nat} {σ : Mem} (hN : 10000 ≤ N) (ha : a < 9223372036854775808) (hb : b < 9223372036854775808) : fX12_common N (Int64.ofNat a) (Int64.ofNat b) σ = some (Int64.ofNat (Nat.gcd a b), σ) := by
  unfold fX12_common
  simp only [ho_lte]
  exact common_l 63 a b N ha hb (by omega) (by omega)
theorem least_l {N a b : Nat} {v4 : Int32} {σ : Mem} (ha : a < 9223372036854775808) (hb : b < 9223372036854775808) : ∀ (k x y n i : Nat), x < 9223372036854775808 → y < 9223372036854775808 → 0 < x → y < 2 ^ k → 2 * k + 1 ≤ n → i + 2 * k + 1 ≤ 200 → fX11_leastTerms_l9 N n (Int64.ofNat a) (Int64.ofNat b) v4 (Int64.ofNat x) (Int64.ofNat y) (Int32.ofNat i) σ = some (Int64.ofNat ((if v4 = 0 then a else b) / Nat.gcd x y), σ) := by
  have fin : ∀ g, g < 9223372036854775808 → 0 < g → fX11_leastTerms_b45 N (Int64.ofNat a) (Int64.ofNat b) v4 (Int64.ofNat g) σ = some (Int64.ofNat ((if v4 = 0 then a else b) / g), σ) := by
    intro g hg g0
    unfold fX11_leastTerms_b45 fX11_leastTerms_b66
    rw [if_neg (fun h => by have := (l_cmp0 hg).mp h; omega), decide_eq_false (fun h => by have := (l_zero hg).mp h; omega)]
    simp only [Bool.not_false, ho_gdt]
    rw [l_div ha hg, l_div hb hg]
    split <;> rfl
  intro k
  induction k with
  | zero =>
    intro x y n i hx hy x0 hk hn hi
    obtain ⟨m, rfl⟩ : ∃ m, n = m + 1 := ⟨n - 1, by omega⟩
    have : y = 0 := by omega
    subst this
    rw [fX11_leastTerms_l9]
    unfold fX11_leastTerms_b9
    rw [if_neg (show ¬ (200 : Int32) ≤ Int32.ofNat i by rw [z_le (by omega) (by omega)]; omega), if_pos ((l_cmp0 (by omega)).mpr rfl), Nat.gcd_zero_right]
    exact fin x hx x0
  | succ k ih =>
    intro x y n i hx hy x0 hk hn hi
    obtain ⟨m, rfl⟩ : ∃ m, n = m + 2 := ⟨n - 2, by omega⟩
    rw [fX11_leastTerms_l9]
    unfold fX11_leastTerms_b9
    rw [if_neg (show ¬ (200 : Int32) ≤ Int32.ofNat i by rw [z_le (by omega) (by omega)]; omega)]
    by_cases z : y = 0
    · rw [if_pos ((l_cmp0 hy).mpr z), z, Nat.gcd_zero_right]; exact fin x hx x0
    · have hr := Nat.mod_lt x (Nat.pos_of_ne_zero z)
      rw [if_neg (fun h => z ((l_cmp0 hy).mp h)), decide_eq_false (fun h => z ((l_zero hy).mp h))]
      simp only [Bool.not_false, ho_gdt, ho_lte, nz_succ]
      rw [l_rem hx hy, fX11_leastTerms_l9]
      unfold fX11_leastTerms_b9
      rw [if_neg (show ¬ (200 : Int32) ≤ Int32.ofNat (i + 1) by rw [z_le (by omega) (by omega)]; omega)]
      by_cases z2 : x % y = 0
      · rw [if_pos ((l_cmp0 (by omega)).mpr z2), gcd_st x y, z2, Nat.gcd_zero_right]; exact fin y hy (by omega)
      · have h3 := half_lt (k := 2 ^ k) (by rw [Nat.pow_succ] at hk; omega) (Nat.pos_of_ne_zero z2) hr
        rw [if_neg (fun h => z2 ((l_cmp0 (by omega)).mp h)), decide_eq_false (fun h => z2 ((l_zero (by omega)).mp h))]
        simp only [Bool.not_false, ho_gdt, ho_lte, nz_succ]
        rw [l_rem hy (by omega), ih (x % y) (y % (x % y)) m (i + 1 + 1) (by omega) (Nat.lt_of_le_of_lt (Nat.mod_le _ _) hy) (by omega) h3 (by omega) (by omega), ← gcd_st y (x % y), ← gcd_st x y]
theorem least_C {N a b : Nat} {v4 : Int32} {σ : Mem} (hN : 10000 ≤ N) (ha : a < 9223372036854775808) (hb : b < 9223372036854775808) (b0 : 0 < b) : fX11_leastTerms N (Int64.ofNat a) (Int64.ofNat b) v4 σ = some (Int64.ofNat ((if v4 = 0 then a else b) / Nat.gcd a b), σ) := by
  unfold fX11_leastTerms
  simp only [ho_lte]
  rw [Nat.gcd_comm]
  exact least_l ha hb 63 b a N 0 hb ha b0 (by omega) (by omega) (by omega)
theorem pten_C {N n : Nat} {σ : Mem} (hN : 10000 ≤ N) (hn : n ≤ 100) {u : Int32} (hu : u = Int32.ofNat n) : fX11_powerOfTen N u σ = some (Int64.ofNat (10 ^ n), σ) := by
  subst hu
  apply ho_eq
  unfold fX11_powerOfTen
  simp only [ho_lte]
  refine ho_loop (F := fun m (b : Int64 × Int32) s => fX11_powerOfTen_l4 N m (Int32.ofNat n) b.1 b.2 s) (fun i b s => b.1 = Int64.ofNat (10 ^ i) ∧ b.2 = Int32.ofNat i ∧ s = σ) n ?_ ?_ n N 0 (1, 0) σ (by omega) (by omega) ⟨rfl, rfl, rfl⟩
  · rintro m i ⟨a, v⟩ s hi ⟨e1, e2, e3⟩ rec
    dsimp only at e1 e2; subst e1 e2 e3
    simp only [fX11_powerOfTen_l4, fX11_powerOfTen_b4, ho_lte, nz_succ]
    rw [if_neg (by rw [nz_le (by omega) (by omega)]; omega)]
    exact rec (_, _) _ ⟨by rw [show (10 : Int64) = Int64.ofNat 10 from rfl, l_mul, Nat.pow_succ], rfl, rfl⟩
  · rintro m ⟨a, v⟩ s ⟨e1, e2, e3⟩
    dsimp only at e1 e2; subst e1 e2 e3
    simp only [fX11_powerOfTen_l4, fX11_powerOfTen_b4]
    rw [if_pos (Int32.le_refl _), ho_some]
    exact ⟨rfl, rfl⟩
/-! chances of motions -/
def bnN (m : Nat) : Nat := ctN 8 m
def chV (m p : Nat) : Nat := p ^ bnN m * (10 - p) ^ (6 - bnN m)
def prC (m p : Nat) : Nat → Int64
  | 0 => 1
  | i + 1 => prC m p i * (if (Int32.ofNat m >>> (Int32.ofNat i &&& 31)) &&& 1 = 0 then (10 - Int32.ofNat p).toInt64 else (Int32.ofNat p).toInt64)
theorem prC_eq : ∀ m, m < 64 → ∀ p, p < 11 → prC m p 6 = Int64.ofNat (chV m p) := by decide +kernel
theorem chV_le : ∀ m, m < 64 → ∀ p, p < 11 → chV m p ≤ 1000000 := by decide +kernel
def pwI (x : Int64) : Nat → Int64
  | 0 => 1
  | i + 1 => pwI x i * x
theorem pw_eq : ∀ m, m < 64 → ∀ p, p < 11 → bnN m ≤ 6 ∧ bitsV (Int32.ofNat m) = Int32.ofNat (bnN m) ∧ pwI (Int32.ofNat p).toInt64 (bnN m) * pwI (10 - Int32.ofNat p).toInt64 (6 - bnN m) = Int64.ofNat (chV m p) := by decide +kernel
theorem power0_M {N n : Nat} {x : Int64} {σ : Mem} (hN : 10000 ≤ N) (hn : n ≤ 100) : fX12_power0 N x (Int32.ofNat n) σ = some (pwI x n, σ) := by
  apply ho_eq
  unfold fX12_power0
  simp only [ho_lte]
  refine ho_loop (F := fun m (b : Int64 × Int32) s => fX12_power0_l5 N m x (Int32.ofNat n) b.1 b.2 s) (fun i b s => b.1 = pwI x i ∧ b.2 = Int32.ofNat i ∧ s = σ) n ?_ ?_ n N 0 (1, 0) σ (by omega) (by omega) ⟨rfl, rfl, rfl⟩
  · rintro m i ⟨a, v⟩ s hi ⟨e1, e2, e3⟩ rec
    dsimp only at e1 e2; subst e1 e2 e3
    simp only [fX12_power0_l5, fX12_power0_b5, ho_lte, nz_succ]
    rw [if_neg (by rw [nz_le (by omega) (by omega)]; omega)]
    exact rec (_, _) _ ⟨rfl, rfl, rfl⟩
  · rintro m ⟨a, v⟩ s ⟨e1, e2, e3⟩
    dsimp only at e1 e2; subst e1 e2 e3
    simp only [fX12_power0_l5, fX12_power0_b5]
    rw [if_pos (Int32.le_refl _), ho_some]
    exact ⟨rfl, rfl⟩
def suW (q : Nat → Bool) (p : Nat) : Nat → Nat
  | 0 => 0
  | i + 1 => suW q p i + (if q i = true then chV i p else 0)
theorem suW_le {q : Nat → Bool} {p : Nat} (hp : p < 11) : ∀ i, i ≤ 64 → suW q p i ≤ 1000000 * i
  | 0, _ => by simp [suW]
  | i + 1, h => by
    have ih := suW_le (q := q) hp i (by omega)
    have := chV_le i (by omega) p hp
    unfold suW
    split <;> omega
theorem chances_C {N p : Nat} {v : Int64} {q : Nat → Bool} {σ : Mem} (hN : 10000 ≤ N) (hp : p < 11) (hv : ∀ m, m < 64 → bS v m = q m) : fX10_chancesOf N v (Int32.ofNat p) σ = some (Int64.ofNat (suW q p 64), σ) := by
  apply ho_eq
  unfold fX10_chancesOf
  simp only [ho_lte]
  refine ho_loop (F := fun m (b : Int64 × Int32) s => fX10_chancesOf_l5 N m v (Int32.ofNat p) b.1 b.2 s) (fun i b s => b.1 = Int64.ofNat (suW q p i) ∧ b.2 = Int32.ofNat i ∧ s = σ) 64 ?_ ?_ 64 N 0 (0, 0) σ (by omega) (by omega) ⟨rfl, rfl, rfl⟩
  · rintro n i ⟨a, u⟩ s hi ⟨e1, e2, e3⟩ rec
    dsimp only at e1 e2; subst e1 e2 e3
    simp only [fX10_chancesOf_l5, fX10_chancesOf_b5, fX10_chancesOf_b70, ho_lte, nz_succ]
    rw [if_neg (show ¬ (64 : Int32) ≤ Int32.ofNat i by rw [z_le (by omega) (by omega)]; omega), isIn_S hi, ho_bds, hv i hi]
    by_cases c : q i = true
    · rw [if_pos c, if_neg (by decide)]
      refine ho_loop (F := fun m (b : Int64 × Int32) t => fX10_chancesOf_l27 N (fX10_chancesOf_l5 N n) m v (Int32.ofNat p) (Int64.ofNat (suW q p i)) (Int32.ofNat i) b.1 b.2 t) (fun e b t => b.1 = prC i p e ∧ b.2 = Int32.ofNat e ∧ t = s) 6 ?_ ?_ 6 N 0 (1, 0) s (by omega) (by omega) ⟨rfl, rfl, rfl⟩
      · rintro m e ⟨a, u⟩ t he ⟨e1, e2, e3⟩ rec2
        dsimp only at e1 e2; subst e1 e2 e3
        simp only [fX10_chancesOf_l27, fX10_chancesOf_b27, fX10_chancesOf_b56, ho_lte, nz_succ]
        rw [if_neg (show ¬ (6 : Int32) ≤ Int32.ofNat e by rw [z_le (by omega) (by omega)]; omega)]
        by_cases d : (Int32.ofNat i >>> (Int32.ofNat e &&& 31)) &&& 1 = 0
        · rw [if_pos d]; exact rec2 (_, _) _ ⟨by simp only [prC]; rw [if_pos d], rfl, rfl⟩
        · rw [if_neg d]; exact rec2 (_, _) _ ⟨by simp only [prC]; rw [if_neg d], rfl, rfl⟩
      · rintro m ⟨a, u⟩ t ⟨e1, e2, e3⟩
        dsimp only at e1 e2; subst e1 e2 e3
        simp only [fX10_chancesOf_l27, fX10_chancesOf_b27, fX10_chancesOf_b70, ho_lte, nz_succ]
        rw [if_pos (by decide), prC_eq i hi p hp, l_add]
        exact rec (_, _) _ ⟨by simp only [suW]; rw [if_pos c]; rfl, rfl, rfl⟩
    · rw [if_neg c, if_pos rfl]
      exact rec (_, _) _ ⟨by simp only [suW]; rw [if_neg c]; rfl, rfl, rfl⟩
  · rintro n ⟨a, u⟩ s ⟨e1, e2, e3⟩
    dsimp only at e1 e2; subst e1 e2 e3
    simp only [fX10_chancesOf_l5, fX10_chancesOf_b5]
    rw [if_pos (by decide), ho_some]
    exact ⟨rfl, rfl⟩
theorem t_odds {σ1 σ2 : Mem} {N : Nat} (hN : 10000 ≤ N) (R : RR σ1 σ2) (v1 v2 v3 : Int32) : H2 (fX11_odds N 0 v1 v2 v3 σ1) (fX12_odds N v1 v2 v3 σ2) (QU σ1 σ2) := by
  unfold fX11_odds fX12_odds
  refine q_ch R v1 (fun j C np nw s2 hj W HC HM K => ?_)
  rw [isIn_Z, ho_bds]
  simp only [ite10, Int32.reduceToInt]
  by_cases c0 : 0 ≤ v2.toInt ∧ v2.toInt ≤ 10
  · obtain ⟨p, p1, p2, p3⟩ := z_of (a := 0) (b := 10) c0
    rw [if_neg (show ¬ v2 < 0 by rw [i32_lt]; show ¬ v2.toInt < 0; omega), if_pos (show v2 ≤ 10 by rw [i32_le]; exact c0.2), if_neg (show ¬ ¬ (0 ≤ v2.toInt ∧ v2.toInt ≤ 10) from fun h => h c0)]
    subst p3
    apply h2_l
    refine ho_mono (carriedSet_C hN W HC (by omega)) (fun v t1 ⟨hv, F1⟩ => ?_)
    have E1 : KC σ1 t1 := R.kc.fr F1 (by omega)
    have hs := suW_le (q := fun m => carV (asT C) np nw (Int32.ofNat m)) (show p < 11 by omega) 64 (by omega)
    rw [chances_C (q := fun m => carV (asT C) np nw (Int32.ofNat m)) hN (by omega) hv, ho_bds]
    simp only [ho_lte]
    rw [pten_C (n := 6) (u := 6) hN (by omega) rfl, ho_bds, bd_ret, least_C hN (by omega) (by omega) (by omega)]
    apply h2_r
    refine ho_mono (asTold_M hN HM) (fun _ t2 ⟨HA, F2, _, _⟩ => ?_)
    apply h2_sl
    refine ho_loop (F := fun m (b : Int64 × Int32) s => fX12_odds_l32 N m (Int32.ofNat p) v3 b.1 b.2 s) (fun i b s => b.1 = Int64.ofNat (suW (fun m => carV (asT C) np nw (Int32.ofNat m)) p i) ∧ b.2 = Int32.ofNat i ∧ HaM s (610 + 63 * j) C (asT C) np nw ∧ KM σ2 s) 64 ?_ ?_ 64 N 0 (0, 0) t2 (by omega) (by omega) ⟨rfl, rfl, HA, K.trans F2.km⟩
    · rintro n i ⟨a, u⟩ s hi ⟨e1, e2, H, K'⟩ rec
      dsimp only at e1 e2; subst e1 e2
      simp only [fX12_odds_l32, fX12_odds_b32, fX12_odds_b80, ho_lte, nz_succ]
      rw [if_neg (show ¬ (64 : Int32) ≤ Int32.ofNat i by rw [z_le (by omega) (by omega)]; omega), ho_bd]
      refine ho_mono (answers_M hN (asT_wf W.1) H) (fun r u2 ⟨hr, V⟩ => ?_)
      have pe := pw_eq i hi p (by omega)
      simp only [hr, ite10, bits_M hN, ho_bds, pe.2.1]
      rw [show (6 : Int32) - Int32.ofNat (bnN i) = Int32.ofNat (6 - bnN i) by
        obtain ⟨d, hd⟩ : ∃ d, 6 = d + bnN i := ⟨6 - bnN i, by omega⟩
        rw [show (6 : Int32) = Int32.ofNat 6 from rfl, hd, ← nz_add, Int32.add_sub_cancel, Nat.add_sub_cancel]]
      rw [power0_M hN (by omega), ho_bds, power0_M hN (by omega), ho_bds, pe.2.2, l_add]
      by_cases q : carV (asT C) np nw (Int32.ofNat i) = true
      · rw [if_neg (show ¬ ¬ carV (asT C) np nw (Int32.ofNat i) = true by simp [q])]
        exact rec (_, _) _ ⟨by simp only [suW]; rw [if_pos q]; rfl, rfl, H.ag V.1.ag, K'.trans V.1.toH.km⟩
      · rw [if_pos q]
        exact rec (_, _) _ ⟨by simp only [suW]; rw [if_neg q]; rfl, rfl, H.ag V.1.ag, K'.trans V.1.toH.km⟩
    · rintro n ⟨a, u⟩ s ⟨e1, e2, H, K'⟩
      dsimp only at e1 e2; subst e1 e2
      simp only [fX12_odds_l32, fX12_odds_b32, fX12_odds_b98]
      have g0 : 0 < Nat.gcd (suW (fun m => carV (asT C) np nw (Int32.ofNat m)) p 64) 1000000 := Nat.gcd_pos_of_pos_right _ (by omega)
      have g1 : Nat.gcd (suW (fun m => carV (asT C) np nw (Int32.ofNat m)) p 64) 1000000 ≤ 1000000 := Nat.gcd_le_right _ (by omega)
      rw [if_pos (by decide), show (1000000 : Int64) = Int64.ofNat 1000000 from rfl]
      have ce : ∀ t : Nat, t < 9223372036854775808 → bd (fX12_common N (Int64.ofNat (suW (fun m => carV (asT C) np nw (Int32.ofNat m)) p 64)) (Int64.ofNat 1000000) s) (fun r20 s21 => gd (!decide (r20 = 0)) (some (Int64.ofNat t / r20, s21))) = some (Int64.ofNat (t / Nat.gcd (suW (fun m => carV (asT C) np nw (Int32.ofNat m)) p 64) 1000000), s) := by
        intro t ht
        rw [common_M hN (by omega) (by omega), ho_bds, decide_eq_false (fun h => by have := (l_zero (by omega)).mp h; omega), Bool.not_false, ho_gdt, l_div ht (by omega)]
      rw [ce _ (by omega), ce _ (by omega)]
      by_cases z : v3 = 0
      · rw [if_pos z, if_pos z]; exact ⟨rfl, E1, K'⟩
      · rw [if_neg z, if_neg z]; exact ⟨rfl, E1, K'⟩
  · rw [if_pos c0]
    by_cases c1 : v2 < 0
    · rw [if_pos c1]; exact ⟨rfl, R.kc, K⟩
    · rw [if_neg c1, if_neg]
      · exact ⟨rfl, R.kc, K⟩
      · rw [i32_lt] at c1; rw [i32_le]
        have : (0 : Int32).toInt = 0 := rfl
        have : (10 : Int32).toInt = 10 := rfl
        omega
