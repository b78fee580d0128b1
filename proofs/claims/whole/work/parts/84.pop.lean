/-! How many bits a long has. -/
def ctN : Nat → Nat → Nat
  | 0, _ => 0
  | n + 1, x => x % 2 + ctN n (x / 2)
theorem ctN8 (n x : Nat) : ctN (n + 8) x = ctN 8 (x % 256) + ctN n (x / 256) := by
  simp only [ctN]
  have e : x / 2 / 2 / 2 / 2 / 2 / 2 / 2 / 2 = x / 256 := by omega
  rw [e]; omega
theorem and256 {a b c d : Nat} (ha : a < 256) (hc : c < 256) : (a + 256 * b) &&& (c + 256 * d) = (a &&& c) + 256 * (b &&& d) := by
  have h1 := Nat.and_mod_two_pow (a := a + 256 * b) (b := c + 256 * d) (n := 8)
  have h2 := Nat.and_div_two_pow (a := a + 256 * b) (b := c + 256 * d) (n := 8)
  have e1 : (a + 256 * b) % 2 ^ 8 = a := by omega
  have e2 : (c + 256 * d) % 2 ^ 8 = c := by omega
  have e3 : (a + 256 * b) / 2 ^ 8 = b := by omega
  have e4 : (c + 256 * d) / 2 ^ 8 = d := by omega
  rw [e1, e2] at h1
  rw [e3, e4] at h2
  have := Nat.div_add_mod ((a + 256 * b) &&& (c + 256 * d)) 256
  omega
def mkN (m : Nat) : Nat → Nat
  | 0 => 0
  | k + 1 => m + 256 * mkN m k
def st1 (k x : Nat) : Nat := x - ((x / 2) &&& mkN 85 k)
def st2 (k x : Nat) : Nat := (x &&& mkN 51 k) + ((x / 4) &&& mkN 51 k)
def st3 (k x : Nat) : Nat := (x + x / 16) &&& mkN 15 k
def by1 (a : Nat) : Nat := a - ((a / 2) &&& 85)
def by2 (a : Nat) : Nat := (a &&& 51) + ((a / 4) &&& 51)
def by3 (a : Nat) : Nat := (a + a / 16) &&& 15
theorem by1_k : ∀ a, a < 256 → ∀ b, b < 2 → (a / 2 + 128 * b) &&& 85 = (a / 2) &&& 85 := by decide +kernel
theorem by2_k : ∀ a, a < 256 → ∀ b, b < 4 → (a / 4 + 64 * b) &&& 51 = (a / 4) &&& 51 := by decide +kernel
theorem by3_k : ∀ a, a < 69 → ∀ b, b < 5 → (a + a / 16 + 16 * b) &&& 15 = (a + a / 16) &&& 15 := by decide +kernel
theorem by1_lt : ∀ a, a < 256 → by1 a < 256 ∧ ((a / 2) &&& 85) ≤ a ∧ by2 (by1 a) < 69 ∧ by2 (by1 a) % 16 < 5 ∧ by3 (by2 (by1 a)) = ctN 8 a := by decide +kernel
theorem st1_s {k a b : Nat} (ha : a < 256) : st1 (k + 1) (a + 256 * b) = by1 a + 256 * st1 k b := by
  unfold st1 by1
  have e : (a + 256 * b) / 2 = (a / 2 + 128 * (b % 2)) + 256 * (b / 2) := by omega
  have h := by1_k a ha (b % 2) (by omega)
  have h2 := (by1_lt a ha).2.1
  have h3 : (b / 2) &&& mkN 85 k ≤ b := Nat.le_trans Nat.and_le_left (by omega)
  rw [e]
  show _ - (_ &&& (85 + 256 * mkN 85 k)) = _
  rw [and256 (by omega) (by omega), h]
  omega
theorem st2_s {k a b : Nat} (ha : a < 256) : st2 (k + 1) (a + 256 * b) = by2 a + 256 * st2 k b := by
  unfold st2 by2
  have e : (a + 256 * b) / 4 = (a / 4 + 64 * (b % 4)) + 256 * (b / 4) := by omega
  have h := by2_k a ha (b % 4) (by omega)
  rw [e]
  show (_ &&& (51 + 256 * mkN 51 k)) + (_ &&& (51 + 256 * mkN 51 k)) = _
  rw [and256 (by omega) (by omega), and256 (by omega) (by omega), h]
  omega
theorem st3_s {k a b : Nat} (ha : a < 69) (hb : b % 16 < 5) : st3 (k + 1) (a + 256 * b) = by3 a + 256 * st3 k b := by
  unfold st3 by3
  have e : a + 256 * b + (a + 256 * b) / 16 = (a + a / 16 + 16 * (b % 16)) + 256 * (b + b / 16) := by omega
  have h := by3_k a ha (b % 16) hb
  rw [e]
  show _ &&& (15 + 256 * mkN 15 k) = _
  rw [and256 (by omega) (by omega), h]
theorem st_s {k a b : Nat} (ha : a < 256) (hb : st2 k (st1 k b) % 16 < 5) : st3 (k + 1) (st2 (k + 1) (st1 (k + 1) (a + 256 * b))) = ctN 8 a + 256 * st3 k (st2 k (st1 k b)) ∧ st2 (k + 1) (st1 (k + 1) (a + 256 * b)) % 16 < 5 := by
  have h := by1_lt a ha
  rw [st1_s ha, st2_s h.1, st3_s h.2.2.1 hb, h.2.2.2.2]
  refine ⟨rfl, ?_⟩
  omega
/-- eight bytes -/
theorem st_8 (x : Nat) (hx : x < 2 ^ 64) : st3 8 (st2 8 (st1 8 x)) = ctN 8 (x % 256) + 256 * (ctN 8 (x / 256 % 256) + 256 * (ctN 8 (x / 256 / 256 % 256) + 256 * (ctN 8 (x / 256 / 256 / 256 % 256) + 256 * (ctN 8 (x / 256 / 256 / 256 / 256 % 256) + 256 * (ctN 8 (x / 256 / 256 / 256 / 256 / 256 % 256) + 256 * (ctN 8 (x / 256 / 256 / 256 / 256 / 256 / 256 % 256) + 256 * ctN 8 (x / 256 / 256 / 256 / 256 / 256 / 256 / 256 % 256))))))) := by
  have z : ∀ y, y = y % 256 + 256 * (y / 256) := fun y => by omega
  have r : ∀ k y, st2 k (st1 k (y / 256)) % 16 < 5 → st3 (k + 1) (st2 (k + 1) (st1 (k + 1) y)) = ctN 8 (y % 256) + 256 * st3 k (st2 k (st1 k (y / 256))) ∧ st2 (k + 1) (st1 (k + 1) y) % 16 < 5 := by
    intro k y h
    have := st_s (k := k) (a := y % 256) (b := y / 256) (by omega) h
    rw [← z y] at this
    exact this
  have q0 : ∀ y, st2 0 (st1 0 y) % 16 < 5 ∧ st3 0 (st2 0 (st1 0 y)) = 0 := fun y => by
    have e : st2 0 (st1 0 y) = 0 := by unfold st2; show (_ &&& 0) + (_ &&& 0) = 0; rw [Nat.and_zero, Nat.and_zero]
    rw [e]; exact ⟨by decide, rfl⟩
  have a1 := r 0 (x / 256 / 256 / 256 / 256 / 256 / 256 / 256) (q0 _).1
  have a2 := r 1 (x / 256 / 256 / 256 / 256 / 256 / 256) a1.2
  have a3 := r 2 (x / 256 / 256 / 256 / 256 / 256) a2.2
  have a4 := r 3 (x / 256 / 256 / 256 / 256) a3.2
  have a5 := r 4 (x / 256 / 256 / 256) a4.2
  have a6 := r 5 (x / 256 / 256) a5.2
  have a7 := r 6 (x / 256) a6.2
  have a8 := r 7 x a7.2
  rw [a8.1, a7.1, a6.1, a5.1, a4.1, a3.1, a2.1, a1.1, (q0 _).2]
  rw [Nat.mul_zero, Nat.add_zero]
theorem ct64 (x : Nat) : ctN 64 x = ctN 8 (x % 256) + (ctN 8 (x / 256 % 256) + (ctN 8 (x / 256 / 256 % 256) + (ctN 8 (x / 256 / 256 / 256 % 256) + (ctN 8 (x / 256 / 256 / 256 / 256 % 256) + (ctN 8 (x / 256 / 256 / 256 / 256 / 256 % 256) + (ctN 8 (x / 256 / 256 / 256 / 256 / 256 / 256 % 256) + ctN 8 (x / 256 / 256 / 256 / 256 / 256 / 256 / 256 % 256))))))) := by
  have e : ∀ y, ctN 8 y = ctN 8 (y % 256) := fun y => by rw [ctN8 0 y]; show _ + 0 = _; rw [Nat.add_zero]
  rw [ctN8 56 x, ctN8 48, ctN8 40, ctN8 32, ctN8 24, ctN8 16, ctN8 8, e (x / 256 / 256 / 256 / 256 / 256 / 256 / 256)]
theorem ct8_le : ∀ a, a < 256 → ctN 8 a ≤ 8 := by decide +kernel
theorem dv256 {a b : Nat} (h : a < 256) : (a + 256 * b) / 256 = b := by omega
theorem dv64k {a b : Nat} (h : a < 65536) : (a + 65536 * b) / 65536 = b := by omega
theorem dv32 {a b : Nat} (h : a < 4294967296) : (a + 4294967296 * b) / 4294967296 = b := by omega
theorem fin64 {a b c d e f g h y y4 y5 y6 : Nat} (ha : a ≤ 8) (hb : b ≤ 8) (hc : c ≤ 8) (hd : d ≤ 8) (he : e ≤ 8) (hf : f ≤ 8) (hg : g ≤ 8) (hh : h ≤ 8) (hy : y = a + 256 * (b + 256 * (c + 256 * (d + 256 * (e + 256 * (f + 256 * (g + 256 * h))))))) (h4 : y4 = y + y / 256) (h5 : y5 = y4 + y4 / 65536) (h6 : y6 = y5 + y5 / 4294967296) : y < 2 ^ 60 ∧ y4 < 2 ^ 61 ∧ y5 < 2 ^ 62 ∧ y6 < 2 ^ 63 ∧ y6 % 128 = a + (b + (c + (d + (e + (f + (g + h)))))) := by
  generalize q7 : g + 256 * h = H6 at hy
  generalize q6 : f + 256 * H6 = H5 at hy
  generalize q5 : e + 256 * H5 = H4 at hy
  generalize q4 : d + 256 * H4 = H3 at hy
  generalize q3 : c + 256 * H3 = H2' at hy
  generalize q2 : b + 256 * H2' = H1 at hy
  have l6 : H6 ≤ 2056 := by omega
  have l5 : H5 ≤ 526344 := by omega
  have l4 : H4 ≤ 134744072 := by omega
  have l3 : H3 ≤ 34494482440 := by omega
  have l2 : H2' ≤ 8830587504648 := by omega
  have l1 : H1 ≤ 2260630401189896 := by omega
  have ly : y ≤ 578721382704613384 := by omega
  have e1 : y / 256 = H1 := by rw [hy]; exact dv256 (by omega)
  have e4 : y4 = ((a + b) + 256 * (b + c)) + 65536 * (H2' + H3) := by rw [h4, e1, hy]; clear h4 h5 h6 e1 ly l1 l2 l3 l4 l5 l6 q4 q5 q6 q7 hy; omega
  have e2 : y4 / 65536 = H2' + H3 := by rw [e4]; exact dv64k (by omega)
  have e5 : y5 = ((a + b + c + d) + 256 * (b + c + d + e) + 65536 * (c + d + e + f) + 16777216 * (d + e + f + g)) + 4294967296 * (H4 + H5 + H6 + h) := by
    rw [h5, e2, e4]; clear h4 h5 h6 e1 e2 e4 ly l1 l2 l3 l4 l5 l6 q2 hy; omega
  have e3 : y5 / 4294967296 = H4 + H5 + H6 + h := by rw [e5]; exact dv32 (by omega)
  have e6 : y6 = y5 + (H4 + H5 + H6 + h) := by rw [h6, e3]
  refine ⟨by omega, by rw [h4, e1]; omega, by rw [h5, e2, h4, e1]; omega, by rw [e6, h5, e2, h4, e1]; omega, ?_⟩
  rw [e6, e5]
  clear h4 h5 h6 e1 e2 e3 e4 e5 e6 ly l1 l2 l3 l4 l5 l6 q2 q3 q4 hy
  omega
theorem us_nat {v : Int64} {m : Nat} {u : Int32} (hm : m < 64) (hu : u = Int32.ofNat m) : (usL v u).toBitVec.toNat = v.toBitVec.toNat / 2 ^ m := by
  rw [hu, us_bv hm, BitVec.toNat_ushiftRight, Nat.shiftRight_eq_div_pow]
theorem pop64 {N : Nat} {v : Int64} {σ : Mem} : fJ13_bitCount_95d88 N v σ = some (Int32.ofNat (ctN 64 v.toBitVec.toNat), σ) := by
  unfold fJ13_bitCount_95d88
  simp only [ho_lte]
  have hx := v.toBitVec.isLt
  generalize hxe : v.toBitVec.toNat = x at hx
  have k1 : mkN 85 8 = 6148914691236517205 := by decide
  have k2 : mkN 51 8 = 3689348814741910323 := by decide
  have k3 : mkN 15 8 = 1085102592571150095 := by decide
  have c1 : (6148914691236517205 : Int64).toBitVec.toNat = mkN 85 8 := by decide
  have c2 : (3689348814741910323 : Int64).toBitVec.toNat = mkN 51 8 := by decide
  have c3 : (1085102592571150095 : Int64).toBitVec.toNat = mkN 15 8 := by decide
  generalize hv1 : v - (usL v 1 &&& 6148914691236517205) = v1
  have n1 : v1.toBitVec.toNat = st1 8 x := by
    have m : (usL v 1 &&& 6148914691236517205).toBitVec.toNat = (x / 2) &&& mkN 85 8 := by
      rw [Int64.toBitVec_and, BitVec.toNat_and, us_nat (m := 1) (u := 1) (by omega) rfl, hxe, c1]
    have le : (x / 2) &&& mkN 85 8 ≤ x := Nat.le_trans Nat.and_le_left (by omega)
    rw [← hv1, Int64.toBitVec_sub, BitVec.toNat_sub_of_le, m, hxe]
    · rfl
    · rw [BitVec.le_def, m, hxe]; exact le
  have b1 : st1 8 x < 2 ^ 64 := by rw [← n1]; exact v1.toBitVec.isLt
  generalize hv2 : (v1 &&& 3689348814741910323) + (usL v1 2 &&& 3689348814741910323) = v2
  have n2 : v2.toBitVec.toNat = st2 8 (st1 8 x) := by
    have le1 : st1 8 x &&& mkN 51 8 ≤ mkN 51 8 := Nat.and_le_right
    have le2 : (st1 8 x / 4) &&& mkN 51 8 ≤ mkN 51 8 := Nat.and_le_right
    rw [← hv2, Int64.toBitVec_add, BitVec.toNat_add, Int64.toBitVec_and, Int64.toBitVec_and, BitVec.toNat_and, BitVec.toNat_and, us_nat (m := 2) (u := 2) (by omega) rfl, n1, c2]
    show ((st1 8 x &&& mkN 51 8) + ((st1 8 x / 4) &&& mkN 51 8)) % 2 ^ 64 = _
    rw [Nat.mod_eq_of_lt (by omega)]; rfl
  have b2 : st2 8 (st1 8 x) ≤ 2 * 3689348814741910323 := by
    have le1 : st1 8 x &&& mkN 51 8 ≤ mkN 51 8 := Nat.and_le_right
    have le2 : (st1 8 x / 4) &&& mkN 51 8 ≤ mkN 51 8 := Nat.and_le_right
    unfold st2; omega
  generalize hv3 : (v2 + usL v2 4) &&& 1085102592571150095 = v3
  have n3 : v3.toBitVec.toNat = st3 8 (st2 8 (st1 8 x)) := by
    rw [← hv3, Int64.toBitVec_and, BitVec.toNat_and, Int64.toBitVec_add, BitVec.toNat_add, us_nat (m := 4) (u := 4) (by omega) rfl, n2, c3]
    show ((st2 8 (st1 8 x) + st2 8 (st1 8 x) / 16) % 2 ^ 64) &&& mkN 15 8 = _
    rw [Nat.mod_eq_of_lt (by omega)]; rfl
  rw [st_8 x hx] at n3
  have f := fin64 (ct8_le (x % 256) (by omega)) (ct8_le (x / 256 % 256) (by omega)) (ct8_le (x / 256 / 256 % 256) (by omega)) (ct8_le (x / 256 / 256 / 256 % 256) (by omega)) (ct8_le (x / 256 / 256 / 256 / 256 % 256) (by omega)) (ct8_le (x / 256 / 256 / 256 / 256 / 256 % 256) (by omega)) (ct8_le (x / 256 / 256 / 256 / 256 / 256 / 256 % 256) (by omega)) (ct8_le (x / 256 / 256 / 256 / 256 / 256 / 256 / 256 % 256) (by omega)) n3 rfl rfl rfl
  rw [← ct64] at f
  clear n3 n2 n1 b1 b2 hv1 hv2 hv3
  generalize hv4 : v3 + usL v3 8 = v4
  have n4 : v4.toBitVec.toNat = v3.toBitVec.toNat + v3.toBitVec.toNat / 256 := by
    rw [← hv4, Int64.toBitVec_add, BitVec.toNat_add, us_nat (m := 8) (u := 8) (by omega) rfl]
    show (v3.toBitVec.toNat + v3.toBitVec.toNat / 256) % 2 ^ 64 = _
    exact Nat.mod_eq_of_lt (by omega)
  rw [← n4] at f
  generalize hv5 : v4 + usL v4 16 = v5
  have n5 : v5.toBitVec.toNat = v4.toBitVec.toNat + v4.toBitVec.toNat / 65536 := by
    rw [← hv5, Int64.toBitVec_add, BitVec.toNat_add, us_nat (m := 16) (u := 16) (by omega) rfl]
    show (v4.toBitVec.toNat + v4.toBitVec.toNat / 65536) % 2 ^ 64 = _
    exact Nat.mod_eq_of_lt (by omega)
  rw [← n5] at f
  generalize hv6 : v5 + usL v5 32 = v6
  have n6 : v6.toBitVec.toNat = v5.toBitVec.toNat + v5.toBitVec.toNat / 4294967296 := by
    rw [← hv6, Int64.toBitVec_add, BitVec.toNat_add, us_nat (m := 32) (u := 32) (by omega) rfl]
    show (v5.toBitVec.toNat + v5.toBitVec.toNat / 4294967296) % 2 ^ 64 = _
    exact Nat.mod_eq_of_lt (by omega)
  rw [← n6] at f
  have e : v6.toInt32 &&& 127 = Int32.ofNat (ctN 64 x) := by
    apply Int32.toBitVec_inj.mp
    apply BitVec.eq_of_toNat_eq
    rw [Int32.toBitVec_and, BitVec.toNat_and, Int64.toBitVec_toInt32, BitVec.signExtend_eq_setWidth_of_le _ (by decide), BitVec.toNat_setWidth]
    show (v6.toBitVec.toNat % 2 ^ 32) &&& (2 ^ 7 - 1) = ctN 64 x % 2 ^ 32
    rw [Nat.and_two_pow_sub_one_eq_mod]
    omega
  rw [e]
/-- how many of the first n hold -/
def cntB (p : Nat → Bool) : Nat → Nat
  | 0 => 0
  | n + 1 => cntB p n + (if p n = true then 1 else 0)
theorem cntB_congr {p q : Nat → Bool} : ∀ n, (∀ i, i < n → p i = q i) → cntB p n = cntB q n
  | 0, _ => rfl
  | n + 1, h => by
    unfold cntB
    rw [cntB_congr n (fun i hi => h i (by omega)), h n (by omega)]
theorem cntB_le (p : Nat → Bool) : ∀ n, cntB p n ≤ n
  | 0 => Nat.le_refl _
  | n + 1 => by
    unfold cntB
    have := cntB_le p n
    split <;> omega
theorem ct_up : ∀ n x, ctN (n + 1) x = ctN n x + (if x.testBit n = true then 1 else 0)
  | 0, x => by
    unfold ctN; unfold ctN
    rw [Nat.testBit_zero]
    rcases Nat.mod_two_eq_zero_or_one x with h | h <;> simp [h]
  | n + 1, x => by
    have ih := ct_up n (x / 2)
    show x % 2 + ctN (n + 1) (x / 2) = (x % 2 + ctN n (x / 2)) + _
    rw [ih, Nat.testBit_succ]; omega
theorem ct_cnt (x : Nat) : ∀ n, ctN n x = cntB (fun i => x.testBit i) n
  | 0 => rfl
  | n + 1 => by rw [ct_up, ct_cnt x n]; rfl
theorem pop_cnt {N : Nat} {v : Int64} {σ : Mem} {p : Nat → Bool} (h : ∀ m, m < 64 → bS v m = p m) : fJ13_bitCount_95d88 N v σ = some (Int32.ofNat (cntB p 64), σ) := by
  rw [pop64, ct_cnt, cntB_congr 64 (q := p)]
  intro i hi
  rw [← h i hi]; rfl
