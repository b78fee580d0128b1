/-! Logs. -/
def LgJ (σ1 : Mem) (k : Nat) (σ2 : Mem) (q n : Nat) (ft fa fb fm : Nat → Nat) : Prop := n ≤ 8 ∧ σ1.1 k 0 = Int32.ofNat n ∧ σ2.1 1 q = Int32.ofNat n ∧
  ∀ d, d < n → (ft d ≤ 1 ∧ fa d ≤ 60 ∧ fb d ≤ 9 ∧ fm d ≤ 6) ∧ (σ1.1 (k + 1) d = Int32.ofNat (ft d) ∧ σ1.1 (k + 2) d = Int32.ofNat (fa d) ∧ σ1.1 (k + 3) d = Int32.ofNat (fb d) ∧ σ1.1 (k + 4) d = Int32.ofNat (fm d)) ∧
    (σ2.1 1 (q + 1 + 4 * d) = Int32.ofNat (ft d) ∧ σ2.1 1 (q + 1 + 4 * d + 1) = Int32.ofNat (fa d) ∧ σ2.1 1 (q + 1 + 4 * d + 2) = Int32.ofNat (fb d) ∧ σ2.1 1 (q + 1 + 4 * d + 3) = Int32.ofNat (fm d))
theorem LoR.fn {σ1 σ2 : Mem} {k q : Nat} (L : LoR σ1 k σ2 q) : ∃ n ft fa fb fm, LgJ σ1 k σ2 q n ft fa fb fm := by
  obtain ⟨n, n1, n2, n3, n4⟩ := L
  refine ⟨n, fun d => (σ1.1 (k + 1) d).toNatClampNeg, fun d => (σ1.1 (k + 2) d).toNatClampNeg, fun d => (σ1.1 (k + 3) d).toNatClampNeg, fun d => (σ1.1 (k + 4) d).toNatClampNeg, n1, n2, n3, fun d hd => ?_⟩
  obtain ⟨t, a, b, m, p1, p2, p3, p4, q1, q2, q3, q4, r1, r2, r3, r4⟩ := n4 d hd
  have e1 : (σ1.1 (k + 1) d).toNatClampNeg = t := by rw [q1, nz_nat (by omega)]
  have e2 : (σ1.1 (k + 2) d).toNatClampNeg = a := by rw [q2, nz_nat (by omega)]
  have e3 : (σ1.1 (k + 3) d).toNatClampNeg = b := by rw [q3, nz_nat (by omega)]
  have e4 : (σ1.1 (k + 4) d).toNatClampNeg = m := by rw [q4, nz_nat (by omega)]
  dsimp only
  rw [e1, e2, e3, e4]
  exact ⟨⟨p1, p2, p3, p4⟩, ⟨q1, q2, q3, q4⟩, r1, r2, r3, r4⟩
def flN (fa fb fm : Nat → Nat) (w d : Nat) : Nat := fa d + fb d * w + 3 * fm d
def loN (ft fl : Nat → Nat) : Nat → Nat
  | 0 => 1
  | i + 1 => if ft i = 0 then (if loN ft fl i < fl i + 1 then fl i + 1 else loN ft fl i) else loN ft fl i
def hiN (ft fl : Nat → Nat) : Nat → Nat
  | 0 => 99
  | i + 1 => if ft i = 0 then hiN ft fl i else (if fl i < hiN ft fl i then fl i else hiN ft fl i)
theorem lohi_b {ft fl : Nat → Nat} : ∀ i, (∀ d, d < i → fl d ≤ 200) → 1 ≤ loN ft fl i ∧ loN ft fl i ≤ 201 ∧ hiN ft fl i ≤ 99
  | 0, _ => by simp [loN, hiN]
  | i + 1, h => by
    have ih := lohi_b (ft := ft) i (fun d hd => h d (by omega))
    have := h i (by omega)
    unfold loN hiN
    (repeat' split) <;> omega
/-- a limit fits, as far as the first i facts go -/
def soN (ft fl : Nat → Nat) (l : Nat) : Nat → Bool
  | 0 => true
  | i + 1 => soN ft fl l i && (decide (l ≤ fl i) == decide (ft i = 1))
theorem so_iff {ft fl : Nat → Nat} {l : Nat} (h1 : 1 ≤ l) (h2 : l ≤ 99) : ∀ i, (∀ d, d < i → ft d ≤ 1) → (soN ft fl l i = true ↔ loN ft fl i ≤ l ∧ l ≤ hiN ft fl i)
  | 0, _ => by simp [soN, loN, hiN]; omega
  | i + 1, h => by
    have ih := so_iff (ft := ft) (fl := fl) h1 h2 i (fun d hd => h d (by omega))
    have t := h i (by omega)
    unfold soN loN hiN
    rw [Bool.and_eq_true, ih, beq_iff_eq]
    have cs : ft i = 0 ∨ ft i = 1 := by omega
    rcases cs with e | e
    · rw [e, if_pos rfl, if_pos rfl, show decide ((0 : Nat) = 1) = false from rfl, decide_eq_false_iff_not]
      split <;> omega
    · rw [e, if_neg (by omega), if_neg (by omega), show decide ((1 : Nat) = 1) = true from rfl, decide_eq_true_eq]
      split <;> omega
theorem mn_nat {a b : Nat} (ha : a < 2147483648) (hb : b < 2147483648) : mnI (Int32.ofNat a) (Int32.ofNat b) = Int32.ofNat (if b < a then b else a) := by
  unfold mnI
  by_cases q : b < a
  · rw [if_pos (by rw [nz_lt hb ha]; exact q), if_pos q]
  · rw [if_neg (by rw [nz_lt hb ha]; exact q), if_neg q]
theorem cnt_sub {a b : Nat} (ha : a ≤ 1000) (hb : b ≤ 1000) : mxI 0 (Int32.ofNat a - Int32.ofNat b + 1) = Int32.ofNat (a + 1 - b) := by
  have e : (Int32.ofNat a - Int32.ofNat b + 1).toInt = (a : Int) - b + 1 := by
    have e1 : (Int32.ofNat a - Int32.ofNat b).toInt = (a : Int) - b := by
      rw [Int32.toInt_sub, nz_toInt (by omega), nz_toInt (by omega)]
      apply Int.bmod_eq_of_le <;> omega
    rw [Int32.toInt_add, e1, show (1 : Int32).toInt = 1 from rfl]
    apply Int.bmod_eq_of_le <;> omega
  unfold mxI
  by_cases q : 0 < (a : Int) - b + 1
  · rw [if_pos (by rw [i32_lt, e]; exact q), i32_eq, e, nz_toInt (by omega)]; omega
  · rw [if_neg (by rw [i32_lt, e]; exact q), show a + 1 - b = 0 by omega]; rfl
section LOG
variable {σ1 σ2 : Mem} {N k q n : Nat} {ft fa fb fm : Nat → Nat}
theorem fl_bd (G : LgJ σ1 k σ2 q n ft fa fb fm) {w : Nat} (hw : w ≤ 2) : ∀ d, d < n → flN fa fb fm w d ≤ 96 := by
  intro d hd
  have h := (G.2.2.2 d hd).1
  unfold flN
  have : fb d * w ≤ 9 * 2 := Nat.mul_le_mul h.2.2.1 hw
  omega
theorem loud_L {v0 a b m : Nat} {σ : Mem} : fX4_loudness N (Int32.ofNat v0) (Int32.ofNat a) (Int32.ofNat b) (Int32.ofNat m) σ = some (Int32.ofNat (a + b * v0 + 3 * m), σ) := by
  unfold fX4_loudness
  rw [show (3 : Int32) = Int32.ofNat 3 from rfl, nz_mul, nz_mul, nz_add, nz_add]
theorem least_L (hN : 10000 ≤ N) (G : LgJ σ1 k σ2 q n ft fa fb fm) {w : Nat} (hw : w ≤ 2) : fX4_leastLimit N k (Int32.ofNat w) σ1 = some (Int32.ofNat (loN ft (flN fa fb fm w) n), σ1) := by
  have fb' := fl_bd G hw
  apply ho_eq
  unfold fX4_leastLimit
  simp only [ho_lte]
  refine ho_loop (F := fun m (b : Int32 × Int32) s => fX4_leastLimit_l4 N k m (Int32.ofNat w) b.1 b.2 s) (fun i b s => b.2 = Int32.ofNat i ∧ b.1 = Int32.ofNat (loN ft (flN fa fb fm w) i) ∧ s = σ1) n ?_ ?_ n N 0 (1, 0) σ1 (by omega) (by have := G.1; omega) ⟨rfl, rfl, rfl⟩
  · rintro m i ⟨a, v⟩ s hi ⟨e1, e2, e3⟩ rec
    dsimp only at e1 e2; subst e1 e2 e3
    have n8 := G.1
    obtain ⟨h1, ⟨h2, h3, h4, h5⟩, _⟩ := G.2.2.2 i hi
    have f1 := fb' i hi
    have l1 := lohi_b (ft := ft) (fl := flN fa fb fm w) i (fun d hd => by have := fb' d (by omega); omega)
    simp only [fX4_leastLimit_l4, fX4_leastLimit_b4, fX4_leastLimit_b50, nz_inb (show i < 2147483648 by omega), show i < 8 by omega, decide_true, ho_gdt, nz_nat (show i < 2147483648 by omega), ho_lte, nz_succ, h2, h3, h4, h5, loud_L, ho_bds]
    rw [G.2.1, if_neg (show ¬ Int32.ofNat n ≤ Int32.ofNat i by rw [nz_le (by omega) (by omega)]; omega)]
    have ef : fa i + fb i * w + 3 * fm i = flN fa fb fm w i := rfl
    rw [ef, mx_nat (by omega) (by omega)]
    by_cases z : ft i = 0
    · rw [if_pos (show Int32.ofNat (ft i) = 0 by rw [z]; rfl)]
      exact rec (_, _) _ ⟨rfl, by simp only [loN]; rw [if_pos z]; rfl, rfl⟩
    · rw [if_neg (show ¬ Int32.ofNat (ft i) = 0 by rw [z_eq (by omega) (by omega)]; exact z)]
      exact rec (_, _) _ ⟨rfl, by simp only [loN]; rw [if_neg z]; rfl, rfl⟩
  · rintro m ⟨a, v⟩ s ⟨e1, e2, e3⟩
    dsimp only at e1 e2; subst e1 e2 e3
    simp only [fX4_leastLimit_l4, fX4_leastLimit_b4]
    rw [G.2.1, if_pos (Int32.le_refl _), ho_some]
    exact ⟨rfl, rfl⟩
theorem most_L (hN : 10000 ≤ N) (G : LgJ σ1 k σ2 q n ft fa fb fm) {w : Nat} (hw : w ≤ 2) : fX4_mostLimit N k (Int32.ofNat w) σ1 = some (Int32.ofNat (hiN ft (flN fa fb fm w) n), σ1) := by
  have fb' := fl_bd G hw
  apply ho_eq
  unfold fX4_mostLimit
  simp only [ho_lte]
  refine ho_loop (F := fun m (b : Int32 × Int32) s => fX4_mostLimit_l5 N k m (Int32.ofNat w) b.1 b.2 s) (fun i b s => b.2 = Int32.ofNat i ∧ b.1 = Int32.ofNat (hiN ft (flN fa fb fm w) i) ∧ s = σ1) n ?_ ?_ n N 0 (99, 0) σ1 (by omega) (by have := G.1; omega) ⟨rfl, rfl, rfl⟩
  · rintro m i ⟨a, v⟩ s hi ⟨e1, e2, e3⟩ rec
    dsimp only at e1 e2; subst e1 e2 e3
    have n8 := G.1
    obtain ⟨h1, ⟨h2, h3, h4, h5⟩, _⟩ := G.2.2.2 i hi
    have f1 := fb' i hi
    have l1 := lohi_b (ft := ft) (fl := flN fa fb fm w) i (fun d hd => by have := fb' d (by omega); omega)
    simp only [fX4_mostLimit_l5, fX4_mostLimit_b5, fX4_mostLimit_b49, nz_inb (show i < 2147483648 by omega), show i < 8 by omega, decide_true, ho_gdt, nz_nat (show i < 2147483648 by omega), ho_lte, nz_succ, h2, h3, h4, h5, loud_L, ho_bds]
    rw [G.2.1, if_neg (show ¬ Int32.ofNat n ≤ Int32.ofNat i by rw [nz_le (by omega) (by omega)]; omega)]
    have ef : fa i + fb i * w + 3 * fm i = flN fa fb fm w i := rfl
    rw [ef, mn_nat (by omega) (by omega)]
    by_cases z : ft i = 0
    · rw [if_pos (show Int32.ofNat (ft i) = 0 by rw [z]; rfl)]
      exact rec (_, _) _ ⟨rfl, by simp only [hiN]; rw [if_pos z]; rfl, rfl⟩
    · rw [if_neg (show ¬ Int32.ofNat (ft i) = 0 by rw [z_eq (by omega) (by omega)]; exact z)]
      exact rec (_, _) _ ⟨rfl, by simp only [hiN]; rw [if_neg z]; rfl, rfl⟩
  · rintro m ⟨a, v⟩ s ⟨e1, e2, e3⟩
    dsimp only at e1 e2; subst e1 e2 e3
    simp only [fX4_mostLimit_l5, fX4_mostLimit_b5]
    rw [G.2.1, if_pos (Int32.le_refl _), ho_some]
    exact ⟨rfl, rfl⟩
theorem of_L (hN : 10000 ≤ N) (G : LgJ σ1 k σ2 q n ft fa fb fm) {w : Nat} (hw : w ≤ 2) : fX4_fittingOf N k (Int32.ofNat w) σ1 = some (Int32.ofNat (hiN ft (flN fa fb fm w) n + 1 - loN ft (flN fa fb fm w) n), σ1) := by
  have l1 := lohi_b (ft := ft) (fl := flN fa fb fm w) n (fun d hd => by have := fl_bd G hw d hd; omega)
  unfold fX4_fittingOf
  rw [most_L hN G hw, ho_bds, least_L hN G hw, ho_bds, cnt_sub (by omega) (by omega)]
theorem d99 : ∀ c, c < 297 → Int32.ofNat c / 99 = Int32.ofNat (c / 99) ∧ rmI (Int32.ofNat c) 99 = Int32.ofNat (c % 99) := by decide +kernel
theorem sounds_L {c a b m : Nat} {σ : Mem} (hc : c < 297) (ha : a ≤ 1000) (hb : b ≤ 1000) (hm : m ≤ 1000) : fX12_sounds N (Int32.ofNat c) (Int32.ofNat a) (Int32.ofNat b) (Int32.ofNat m) σ = some (if c % 99 + 1 ≤ a + b * (c / 99) + 3 * m then 1 else 0, σ) := by
  have h := d99 c hc
  have hm2 : b * (c / 99) ≤ 1000 * 3 := Nat.mul_le_mul hb (by omega)
  unfold fX12_sounds
  rw [h.1, h.2, show (3 : Int32) = Int32.ofNat 3 from rfl, nz_mul, nz_mul, nz_add, nz_add, nz_succ]
  by_cases z : c % 99 + 1 ≤ a + b * (c / 99) + 3 * m
  · rw [if_neg (by rw [nz_lt (by omega) (by omega)]; omega), if_pos z]
  · rw [if_pos (by rw [nz_lt (by omega) (by omega)]; omega), if_neg z]
theorem isSo_M (hN : 10000 ≤ N) (G : LgJ σ1 k σ2 q n ft fa fb fm) (h33 : σ2.1 0 33 = Int32.ofNat q) (hq : q ≤ 3000) {c : Nat} (hc : c < 297) : fX12_isSo N (Int32.ofNat c) σ2 = some (if soN ft (flN fa fb fm (c / 99)) (c % 99 + 1) n = true then 1 else 0, σ2) := by
  have n8 := G.1
  have ge : ∀ (x : Nat), x < 4176 → ∀ (κ : Option (Int32 × Mem)), gd (inb (Int32.ofNat x) 4176) κ = κ := fun x hx κ => by rw [nz_inb (by omega), decide_eq_true hx]; rfl
  apply ho_eq
  unfold fX12_isSo
  simp only [ho_lte]
  -- a fact that is not so ends it
  have stop : ∀ (m i : Nat) (v3 : Int32), soN ft (flN fa fb fm (c / 99)) (c % 99 + 1) i = false → i ≤ n → fX12_isSo_l4 N (m + 1) (Int32.ofNat c) 0 (Int32.ofNat i) σ2 = some (0, σ2) := by
    intro m i _ _ hi
    rw [fX12_isSo_l4]
    unfold fX12_isSo_b4
    rw [h33, ge q (by omega), nz_nat (by omega), G.2.2.1]
    by_cases z : Int32.ofNat n ≤ Int32.ofNat i
    · rw [if_pos z]; rfl
    · rw [if_neg z, if_pos rfl]; rfl
  have sof : ∀ i, i ≤ n → soN ft (flN fa fb fm (c / 99)) (c % 99 + 1) i = false → soN ft (flN fa fb fm (c / 99)) (c % 99 + 1) n = false := by
    intro i hi hf
    obtain ⟨d, rfl⟩ : ∃ d, n = i + d := ⟨n - i, by omega⟩
    clear G n8 stop hi
    induction d with
    | zero => exact hf
    | succ d ih => show (soN _ _ _ (i + d) && _) = false; rw [ih]; rfl
  refine ho_loop (F := fun m (b : Int32) s => fX12_isSo_l4 N (m + 1) (Int32.ofNat c) 1 b s) (fun i b s => b = Int32.ofNat i ∧ soN ft (flN fa fb fm (c / 99)) (c % 99 + 1) i = true ∧ s = σ2) n ?_ ?_ n (N - 1) 0 0 σ2 (by omega) (by omega) ⟨rfl, rfl, rfl⟩ |> fun h => by
    have e : N - 1 + 1 = N := by omega
    simp only [e] at h
    exact h
  · rintro m i b s hi ⟨e1, e2, e3⟩ rec
    subst e1 e3
    obtain ⟨h1, _, h2, h3, h4, h5⟩ := G.2.2.2 i hi
    show Ho (fX12_isSo_l4 N (m + 1 + 1) (Int32.ofNat c) 1 (Int32.ofNat i) s) _
    rw [fX12_isSo_l4]
    unfold fX12_isSo_b4 fX12_isSo_b80 fX12_isSo_b88
    rw [h33, ge q (by omega), nz_nat (by omega), G.2.2.1, if_neg (show ¬ Int32.ofNat n ≤ Int32.ofNat i by rw [nz_le (by omega) (by omega)]; omega), if_neg (show ¬ (1 : Int32) = 0 by decide), show (4 : Int32) * Int32.ofNat i = Int32.ofNat (4 * i) from nz_mul, nz_succ, nz_add, ho_lte]
    have hA : q + 1 + 4 * i ≤ 4000 := by omega
    generalize q + 1 + 4 * i = aA at h2 h3 h4 h5 hA ⊢
    rw [show Int32.ofNat aA + 1 = Int32.ofNat (aA + 1) from nz_succ, show Int32.ofNat aA + 2 = Int32.ofNat (aA + 2) from nz_add, show Int32.ofNat aA + 3 = Int32.ofNat (aA + 3) from nz_add, ge (aA + 1) (by omega), ge (aA + 2) (by omega), ge (aA + 3) (by omega), nz_nat (show aA + 1 < 2147483648 by omega), nz_nat (show aA + 2 < 2147483648 by omega), nz_nat (show aA + 3 < 2147483648 by omega), h3, h4, h5, sounds_L hc (by omega) (by omega) (by omega), ho_bds, ge aA (by omega), nz_nat (show aA < 2147483648 by omega), h2]
    simp only [ho_lte, nz_succ]
    have ef : fa i + fb i * (c / 99) + 3 * fm i = flN fa fb fm (c / 99) i := rfl
    rw [ef]
    have sx : soN ft (flN fa fb fm (c / 99)) (c % 99 + 1) (i + 1) = (decide (c % 99 + 1 ≤ flN fa fb fm (c / 99) i) == decide (ft i = 1)) := by
      simp only [soN]; rw [e2, Bool.true_and]
    have good : (decide (c % 99 + 1 ≤ flN fa fb fm (c / 99) i) == decide (ft i = 1)) = true → Ho (fX12_isSo_l4 N (m + 1) (Int32.ofNat c) 1 (Int32.ofNat (i + 1)) s) (fun r s_1 => r = (if soN ft (flN fa fb fm (c / 99)) (c % 99 + 1) n = true then 1 else 0) ∧ s_1 = s) := fun hg => rec _ _ ⟨rfl, sx.trans hg, rfl⟩
    have bad : (decide (c % 99 + 1 ≤ flN fa fb fm (c / 99) i) == decide (ft i = 1)) = false → Ho (fX12_isSo_l4 N (m + 1) (Int32.ofNat c) 0 (Int32.ofNat (i + 1)) s) (fun r s_1 => r = (if soN ft (flN fa fb fm (c / 99)) (c % 99 + 1) n = true then 1 else 0) ∧ s_1 = s) := fun hg => by
      have sf := sx.trans hg
      rw [stop m (i + 1) 0 sf (by omega), ho_some, sof (i + 1) (by omega) sf]
      exact ⟨rfl, rfl⟩
    have cs : ft i = 0 ∨ ft i = 1 := by omega
    by_cases z : c % 99 + 1 ≤ flN fa fb fm (c / 99) i
    · rw [if_pos z]
      rcases cs with e | e
      · rw [if_neg (show ¬ Int32.ofNat (ft i) = 1 by rw [e]; decide), if_neg (show ¬ (1 : Int32) = 0 by decide)]
        exact bad (by rw [decide_eq_true z, e]; rfl)
      · rw [if_pos (show Int32.ofNat (ft i) = 1 by rw [e]; rfl), if_pos rfl]
        exact good (by rw [decide_eq_true z, e]; rfl)
    · rw [if_neg z]
      rcases cs with e | e
      · rw [if_neg (show ¬ Int32.ofNat (ft i) = 1 by rw [e]; decide), if_pos rfl]
        exact good (by rw [decide_eq_false z, e]; rfl)
      · rw [if_pos (show Int32.ofNat (ft i) = 1 by rw [e]; rfl), if_neg (show ¬ (0 : Int32) = 1 by decide)]
        exact bad (by rw [decide_eq_false z, e]; rfl)
  · rintro m b s ⟨e1, e2, e3⟩
    subst e1 e3
    show Ho (fX12_isSo_l4 N (m + 1 + 1) (Int32.ofNat c) 1 (Int32.ofNat n) s) _
    rw [fX12_isSo_l4]
    unfold fX12_isSo_b4
    rw [h33, ge q (by omega), nz_nat (by omega), G.2.2.1, if_pos (Int32.le_refl _), e2]
    exact ⟨rfl, rfl⟩
end LOG
/-- what fits, by its number -/
def fpN (lo hi : Nat → Nat) (c : Nat) : Bool := decide (lo (c / 99) ≤ c % 99 + 1 ∧ c % 99 + 1 ≤ hi (c / 99))
/-- how many of the first j limits of a wood -/
def pcN (lo hi j : Nat) : Nat := (if hi < j then hi else j) + 1 - lo
theorem pc_s {lo hi j : Nat} (h1 : 1 ≤ lo) : pcN lo hi (j + 1) = pcN lo hi j + (if lo ≤ j + 1 ∧ j + 1 ≤ hi then 1 else 0) := by
  unfold pcN
  (repeat' split) <;> omega
theorem pc_0 {lo hi : Nat} (h1 : 1 ≤ lo) : pcN lo hi 0 = 0 := by unfold pcN; split <;> omega
theorem pc_99 {lo hi : Nat} (h2 : hi ≤ 99) : pcN lo hi 99 = hi + 1 - lo := by unfold pcN; split <;> omega
theorem cnt_blk {lo hi : Nat → Nat} (h1 : ∀ w, 1 ≤ lo w) (w : Nat) : ∀ j, j ≤ 99 → cntB (fpN lo hi) (99 * w + j) = cntB (fpN lo hi) (99 * w) + pcN (lo w) (hi w) j
  | 0, _ => by rw [pc_0 (h1 w)]; rfl
  | j + 1, hj => by
    have ih := cnt_blk (hi := hi) h1 w j (by omega)
    rw [pc_s (h1 w)]
    show cntB (fpN lo hi) (99 * w + j) + (if fpN lo hi (99 * w + j) = true then 1 else 0) = _
    rw [ih]
    have e1 : (99 * w + j) / 99 = w := by omega
    have e2 : (99 * w + j) % 99 = j := by omega
    unfold fpN
    rw [e1, e2]
    by_cases z : lo w ≤ j + 1 ∧ j + 1 ≤ hi w
    · rw [if_pos (decide_eq_true z), if_pos z]; omega
    · rw [if_neg (by rw [decide_eq_true_eq]; exact z), if_neg z]; rfl
theorem cnt_297 {lo hi : Nat → Nat} (h1 : ∀ w, 1 ≤ lo w) (h2 : ∀ w, hi w ≤ 99) : cntB (fpN lo hi) 297 = (hi 0 + 1 - lo 0) + (hi 1 + 1 - lo 1) + (hi 2 + 1 - lo 2) := by
  have a0 := cnt_blk (lo := lo) (hi := hi) h1 0 99 (by omega)
  have a1 := cnt_blk (lo := lo) (hi := hi) h1 1 99 (by omega)
  have a2 := cnt_blk (lo := lo) (hi := hi) h1 2 99 (by omega)
  rw [pc_99 (h2 _)] at a0 a1 a2
  have z : cntB (fpN lo hi) (99 * 0) = 0 := rfl
  have e0 : 99 * 0 + 99 = 99 * 1 := rfl
  have e1 : 99 * 1 + 99 = 99 * 2 := rfl
  have e2 : 99 * 2 + 99 = 297 := rfl
  rw [e0] at a0; rw [e1] at a1; rw [e2] at a2
  omega
