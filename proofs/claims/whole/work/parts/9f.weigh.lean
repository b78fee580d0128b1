/-! How the voices are weighed. -/
theorem and_n {a b : Nat} : Int32.ofNat a &&& Int32.ofNat b = Int32.ofNat (a &&& b) := by
  apply Int32.toBitVec_inj.mp
  show BitVec.ofNat 32 a &&& BitVec.ofNat 32 b = BitVec.ofNat 32 (a &&& b)
  exact BitVec.ofNat_and.symm
theorem cpl8 : ∀ n, n < 9 → ∀ a, a < 2 ^ n → (Int32.ofNat (2 ^ n) - 1) &&& (Int32.ofNat a ^^^ -1) = Int32.ofNat (2 ^ n - (a + 1)) := by decide +kernel
theorem smN_cpl {w : Nat → Nat} {n a : Nat} (ha : a < 2 ^ n) : ∀ i, i ≤ n → smN w i (2 ^ n - (a + 1)) + smN w i a = smN w i (2 ^ n - 1)
  | 0, _ => rfl
  | i + 1, h => by
    have ih := smN_cpl (w := w) ha i (by omega)
    simp only [smN]
    rw [Nat.testBit_two_pow_sub_succ ha, testFull (show i < n by omega), decide_eq_true (show i < n by omega)]
    cases a.testBit i <;> simp <;> omega
def dfN (w : Nat → Nat) (n a : Nat) : Nat := if toN w n ≤ 2 * smN w n a then 2 * smN w n a - toN w n else toN w n - 2 * smN w n a
theorem dfN_le {w : Nat → Nat} {n a : Nat} (hw : ∀ p, p < n → w p ≤ 9) : dfN w n a ≤ 18 * n := by
  have l1 := smN_le (s := a) n hw
  have l2 := smN_le (s := 2 ^ n - 1) n hw
  unfold dfN toN; split <;> omega
theorem sub_toInt {a b : Nat} (ha : a < 1000) (hb : b < 1000) : (Int32.ofNat a - Int32.ofNat b).toInt = (a : Int) - b := by
  rw [Int32.toInt_sub, nz_toInt (by omega), nz_toInt (by omega)]
  unfold Int.bmod
  dsimp only
  split <;> omega
theorem neg_abs {a b : Nat} (ha : a < 1000) (hb : b < 1000) : (0 ≤ Int32.ofNat a - Int32.ofNat b ↔ b ≤ a) ∧ (b ≤ a → Int32.ofNat a - Int32.ofNat b = Int32.ofNat (a - b)) ∧ (a ≤ b → 0 - (Int32.ofNat a - Int32.ofNat b) = Int32.ofNat (b - a)) := by
  have up : ∀ x y : Nat, y ≤ x → Int32.ofNat x - Int32.ofNat y = Int32.ofNat (x - y) := fun x y h => by
    obtain ⟨d, rfl⟩ : ∃ d, x = d + y := ⟨x - y, by omega⟩
    rw [← nz_add, Int32.add_sub_cancel, Nat.add_sub_cancel]
  refine ⟨?_, up a b, fun h => ?_⟩
  · rw [i32_le, sub_toInt ha hb]
    show (0 : Int) ≤ _ ↔ _
    omega
  · rw [Int32.zero_sub, Int32.neg_sub]; exact up b a h
def evN (w : Nat → Nat) (n : Nat) : Nat → Nat
  | 0 => 0
  | i + 1 => if dfN w n (evN w n i) ≤ dfN w n i then evN w n i else i
theorem evN_le {w : Nat → Nat} {n : Nat} : ∀ i, evN w n i ≤ i - 1
  | 0 => Nat.le_refl _
  | i + 1 => by
    have := evN_le (w := w) (n := n) i
    simp only [evN]; split <;> omega
/-- a piece by piece set of bits -/
def mkB (q : Nat → Bool) : Nat → Nat
  | 0 => 0
  | i + 1 => if q i = true then mkB q i ||| 2 ^ i else mkB q i
theorem mkB_lt {q : Nat → Bool} : ∀ i, mkB q i < 2 ^ i
  | 0 => by simp [mkB]
  | i + 1 => by
    have ih := mkB_lt (q := q) i
    simp only [mkB]
    split
    · exact orlt (Nat.lt_of_lt_of_le ih (Nat.pow_le_pow_right (by omega) (by omega))) (by omega)
    · exact Nat.lt_of_lt_of_le ih (Nat.pow_le_pow_right (by omega) (by omega))
theorem mkB_bit {q : Nat → Bool} {p : Nat} : ∀ i, (mkB q i).testBit p = (decide (p < i) && q p)
  | 0 => by simp [mkB]
  | i + 1 => by
    have ih := mkB_bit (q := q) (p := p) i
    simp only [mkB]
    by_cases c : p = i
    · subst c
      cases h : q p
      · simp [ih]
      · simp [ih, Nat.testBit_or, Nat.testBit_two_pow_self]
    · have e : decide (p < i + 1) = decide (p < i) := by simp only [decide_eq_decide]; omega
      rw [e]
      split
      · rw [Nat.testBit_or, ih, Nat.testBit_two_pow_of_ne (by omega)]; simp
      · exact ih
theorem or8 {x i : Nat} (hx : x < 256) (hi : i < 8) : Int32.ofNat x ||| (1 : Int32) <<< (Int32.ofNat i &&& 31) = Int32.ofNat (x ||| 2 ^ i) := by
  rw [shl8 i (by omega)]; exact (bt8 x hx i hi).2.1
theorem mkB8 {q : Nat → Bool} {i : Nat} (h : i ≤ 8) : mkB q i < 256 :=
  Nat.lt_of_lt_of_le (mkB_lt i) (Nat.pow_le_pow_right (show 0 < 2 by omega) h)
section
variable {N n h : Nat} {w : Nat → Nat} {s : Mem}
theorem diff_C (hn : n ≤ 8) (hw : ∀ p, p < n → w p ≤ 9) (H : HeC s h w n) {a : Nat} (ha : a < 2 ^ n) : fX5_difference N h (Int32.ofNat a) s = some (Int32.ofNat (dfN w n a), s) := by
  have h8 := pow8 n (by omega)
  have l1 := smN_le (s := a) n hw
  have l2 := smN_le (s := 2 ^ n - 1) n hw
  unfold fX5_difference abI
  rw [if_neg (z_neg (by omega)), if_neg (show ¬ (256 : Int32) ≤ Int32.ofNat a by rw [z_le (by omega) (by omega)]; omega), nz_inb (by omega), nz_nat (by omega), H.2.2.2.1 a ha, H.2.2.1, decide_eq_true (by omega), ho_gdt, show (2 : Int32) = Int32.ofNat 2 from rfl, nz_mul]
  have k := neg_abs (a := toN w n) (b := 2 * smN w n a) (by unfold toN; omega) (by omega)
  unfold dfN
  by_cases c : 2 * smN w n a ≤ toN w n
  · rw [if_pos (k.1.mpr c), k.2.1 c]
    by_cases d : toN w n ≤ 2 * smN w n a
    · rw [if_pos d, show toN w n - 2 * smN w n a = 2 * smN w n a - toN w n by omega]
    · rw [if_neg d]
  · rw [if_neg (fun q => c (k.1.mp q)), k.2.2 (by omega), if_pos (by omega)]
theorem evenest_C (hN : 10000 ≤ N) (hn : n ≤ 8) (hw : ∀ p, p < n → w p ≤ 9) (H : HeC s h w n) : fX5_evenestSet N h s = some (Int32.ofNat (evN w n (2 ^ n)), s) := by
  have h8 := pow8 n (by omega)
  unfold fX5_evenestSet
  simp only [ho_lte]
  refine ho_eq ?_
  have l1 : evN w n 1 = 0 := by simp [evN]
  refine ho_loop (F := fun m (b : Int32 × Int32) t => fX5_evenestSet_l4 N h m b.1 b.2 t) (fun i b t => b.1 = Int32.ofNat (evN w n i) ∧ b.2 = Int32.ofNat i ∧ t = s) (2 ^ n) ?_ ?_ (2 ^ n - 1) N 1 (0, 1) s (by omega) (by omega) ⟨by rw [l1]; rfl, rfl, rfl⟩
  · rintro m i ⟨a, u⟩ t hi ⟨e1, e2, e3⟩ rec
    dsimp only at e1 e2; subst e1 e2 e3
    have ll := evN_le (w := w) (n := n) i
    have d1 := dfN_le (a := i) hw
    have d2 := dfN_le (a := evN w n i) hw
    simp only [fX5_evenestSet_l4, fX5_evenestSet_b4, fX5_evenestSet_b27, ho_lte, nz_succ]
    rw [H.2.1, if_neg (show ¬ Int32.ofNat (2 ^ n) ≤ Int32.ofNat i by rw [nz_le (by omega) (by omega)]; omega), diff_C hn hw H hi, ho_bds, diff_C hn hw H (by omega), ho_bds]
    by_cases c : dfN w n (evN w n i) ≤ dfN w n i
    · rw [if_pos (show Int32.ofNat (dfN w n (evN w n i)) ≤ Int32.ofNat (dfN w n i) by rw [nz_le (by omega) (by omega)]; exact c)]
      exact rec (_, _) _ ⟨by simp only [evN]; rw [if_pos c]; rfl, rfl, rfl⟩
    · rw [if_neg (show ¬ Int32.ofNat (dfN w n (evN w n i)) ≤ Int32.ofNat (dfN w n i) by rw [nz_le (by omega) (by omega)]; exact c)]
      exact rec (_, _) _ ⟨by simp only [evN]; rw [if_neg c]; rfl, rfl, rfl⟩
  · rintro m ⟨a, u⟩ t ⟨e1, e2, e3⟩
    dsimp only at e1 e2; subst e1 e2 e3
    simp only [fX5_evenestSet_l4, fX5_evenestSet_b4]
    rw [H.2.1, if_pos (show Int32.ofNat (2 ^ n) ≤ Int32.ofNat (2 ^ n) by rw [nz_le (by omega) (by omega)]; omega)]
    exact ⟨rfl, rfl⟩
theorem pow_in {p n : Nat} (hp : p < n) : 2 ^ p ≤ 2 ^ n - 1 := by
  have := Nat.pow_lt_pow_right (show 1 < 2 by omega) hp
  omega
theorem vetoes_C (hN : 10000 ≤ N) (hn : n ≤ 8) (hw : ∀ p, p < n → w p ≤ 9) (H : HeC s h w n) : fX5_vetoes N h s = some (Int32.ofNat (mkB (fun p => !wiN w n (2 ^ n - (2 ^ p + 1))) n), s) := by
  have h8 := pow8 n (by omega)
  unfold fX5_vetoes
  simp only [ho_lte]
  refine ho_eq ?_
  refine ho_loop (F := fun m (b : Int32 × Int32) t => fX5_vetoes_l4 N h m b.1 b.2 t) (fun i b t => b.1 = Int32.ofNat (mkB (fun p => !wiN w n (2 ^ n - (2 ^ p + 1))) i) ∧ b.2 = Int32.ofNat i ∧ t = s) n ?_ ?_ n N 0 (0, 0) s (by omega) (by omega) ⟨rfl, rfl, rfl⟩
  · rintro m i ⟨a, u⟩ t hi ⟨e1, e2, e3⟩ rec
    dsimp only at e1 e2; subst e1 e2 e3
    have pi := pow_in hi
    have p0 : 0 < 2 ^ i := Nat.pow_pos (by omega)
    simp only [fX5_vetoes_l4, fX5_vetoes_b4, fX5_vetoes_b35, ho_lte, nz_succ]
    rw [H.1, H.2.1, if_neg (show ¬ Int32.ofNat n ≤ Int32.ofNat i by rw [nz_le (by omega) (by omega)]; omega), or8 (mkB8 (by omega)) (by omega), shl8 i (by omega)]
    rw [show Int32.ofNat (2 ^ n) - 1 - Int32.ofNat (2 ^ i) = Int32.ofNat (2 ^ n - (2 ^ i + 1)) by
      obtain ⟨d, hd⟩ : ∃ d, 2 ^ n = d + 2 ^ i + 1 := ⟨2 ^ n - (2 ^ i + 1), by omega⟩
      rw [hd, z_sub1, ← nz_add, Int32.add_sub_cancel]
      congr 1; omega]
    rw [wins_C hn hw H (by omega), ho_bds]
    simp only [ite10]
    by_cases c : wiN w n (2 ^ n - (2 ^ i + 1)) = true
    · rw [if_neg (show ¬ ¬ wiN w n (2 ^ n - (2 ^ i + 1)) = true by simp [c])]
      exact rec (_, _) _ ⟨by simp only [mkB]; rw [if_neg (by simp [c])]; rfl, rfl, rfl⟩
    · rw [if_pos c]
      exact rec (_, _) _ ⟨by simp only [mkB]; rw [if_pos (by simpa using c)]; rfl, rfl, rfl⟩
  · rintro m ⟨a, u⟩ t ⟨e1, e2, e3⟩
    dsimp only at e1 e2; subst e1 e2 e3
    simp only [fX5_vetoes_l4, fX5_vetoes_b4]
    rw [H.1, if_pos (show Int32.ofNat n ≤ Int32.ofNat n by rw [nz_le (by omega) (by omega)]; omega)]
    exact ⟨rfl, rfl⟩
theorem idle_C (hN : 10000 ≤ N) (hn : n ≤ 8) (H : HeC s h w n) (Z : ∀ p, p < n → s.1 (h + 1) p = Int32.ofNat (swN w n p (2 ^ n))) : fX5_idle N h s = some (Int32.ofNat (mkB (fun p => decide (swN w n p (2 ^ n) = 0)) n), s) := by
  have h8 := pow8 n (by omega)
  unfold fX5_idle
  simp only [ho_lte]
  refine ho_eq ?_
  refine ho_loop (F := fun m (b : Int32 × Int32) t => fX5_idle_l4 N h m b.1 b.2 t) (fun i b t => b.1 = Int32.ofNat (mkB (fun p => decide (swN w n p (2 ^ n) = 0)) i) ∧ b.2 = Int32.ofNat i ∧ t = s) n ?_ ?_ n N 0 (0, 0) s (by omega) (by omega) ⟨rfl, rfl, rfl⟩
  · rintro m i ⟨a, u⟩ t hi ⟨e1, e2, e3⟩ rec
    dsimp only at e1 e2; subst e1 e2 e3
    have sl := swN_le (w := w) (n := n) (p := i) (2 ^ n)
    simp only [fX5_idle_l4, fX5_idle_b4, fX5_idle_b27, ho_lte, nz_succ]
    rw [H.1, if_neg (show ¬ Int32.ofNat n ≤ Int32.ofNat i by rw [nz_le (by omega) (by omega)]; omega), or8 (mkB8 (by omega)) (by omega), nz_inb (by omega), nz_nat (by omega), decide_eq_true (show i < 8 by omega), ho_gdt, Z i hi]
    by_cases c : swN w n i (2 ^ n) = 0
    · rw [if_pos (show Int32.ofNat (swN w n i (2 ^ n)) = 0 by rw [c]; rfl)]
      exact rec (_, _) _ ⟨by simp only [mkB]; rw [if_pos (by simp [c])]; rfl, rfl, rfl⟩
    · rw [if_neg (show ¬ Int32.ofNat (swN w n i (2 ^ n)) = 0 by rw [z_eq (by omega) (by omega)]; exact c)]
      exact rec (_, _) _ ⟨by simp only [mkB]; rw [if_neg (by simp [c])]; rfl, rfl, rfl⟩
  · rintro m ⟨a, u⟩ t ⟨e1, e2, e3⟩
    dsimp only at e1 e2; subst e1 e2 e3
    simp only [fX5_idle_l4, fX5_idle_b4]
    rw [H.1, if_pos (show Int32.ofNat n ≤ Int32.ofNat n by rw [nz_le (by omega) (by omega)]; omega)]
    exact ⟨rfl, rfl⟩
end
