/-! The weather. -/
def upN (f : Nat → Nat) (k x : Nat) : Nat → Nat := fun d => if d = k then f d + x else f d
def psN (p : Nat) (r : Nat → Nat) : Nat → Nat → Nat
  | 0 => fun _ => 0
  | i + 1 => upN (upN (psN p r i) (if 9 ≤ i then 9 else i + 1) (r i * p)) (i - 1) (r i * (10 - p))
def rowN (p d0 : Nat) : Nat → Nat → Nat
  | 0 => fun d => if d = d0 then 1 else 0
  | i + 1 => psN p (rowN p d0 i) 10
def tS (f : Nat → Nat) : Nat → Nat
  | 0 => 0
  | n + 1 => tS f n + f n
def wsN (q : Nat → Bool) (f : Nat → Nat) : Nat → Nat
  | 0 => 0
  | n + 1 => wsN q f n + (if q n = true then f n else 0)
theorem wsN_le {q : Nat → Bool} {f : Nat → Nat} : ∀ n, wsN q f n ≤ tS f n
  | 0 => Nat.le_refl _
  | n + 1 => by
    have := wsN_le (q := q) (f := f) n
    simp only [wsN, tS]; split <;> omega
theorem tS_up {f : Nat → Nat} {k x : Nat} : ∀ n, tS (upN f k x) n = tS f n + (if k < n then x else 0)
  | 0 => by simp [tS]
  | n + 1 => by
    have ih := tS_up (f := f) (k := k) (x := x) n
    simp only [tS, ih]
    unfold upN
    by_cases c : n = k
    · subst c; rw [if_pos rfl, if_neg (by omega), if_pos (by omega)]; omega
    · rw [if_neg c]
      by_cases d : k < n
      · rw [if_pos d, if_pos (by omega)]; omega
      · rw [if_neg d, if_neg (by omega)]; omega
theorem tS_ps {p : Nat} {r : Nat → Nat} (hp : p ≤ 10) : ∀ i, i ≤ 10 → tS (psN p r i) 10 = 10 * tS r i
  | 0, _ => by simp [psN, tS]
  | i + 1, h => by
    have ih := tS_ps (r := r) hp i (by omega)
    simp only [psN]
    rw [tS_up, tS_up, ih, if_pos (by split <;> omega), if_pos (by omega)]
    simp only [tS]
    have : r i * p + r i * (10 - p) = 10 * r i := by rw [← Nat.mul_add, show p + (10 - p) = 10 by omega, Nat.mul_comm]
    omega
theorem tS_row {p d0 : Nat} (hp : p ≤ 10) (hd : d0 < 10) : ∀ i, tS (rowN p d0 i) 10 = 10 ^ i
  | 0 => by
    simp only [rowN]
    have : ∀ d, d < 10 → tS (fun x => if x = d then 1 else 0) 10 = 1 := by decide
    exact this d0 hd
  | i + 1 => by
    simp only [rowN]
    rw [tS_ps hp 10 (by omega), tS_row hp hd i, Nat.pow_succ, Nat.mul_comm]
theorem row_le {p d0 : Nat} (hp : p ≤ 10) (hd : d0 < 10) (q : Nat → Bool) {n : Nat} (hn : n ≤ 9) : wsN q (rowN p d0 n) 10 ≤ 1000000000 ∧ 10 ^ n ≤ 1000000000 ∧ 0 < 10 ^ n := by
  have h1 := wsN_le (q := q) (f := rowN p d0 n) 10
  rw [tS_row hp hd] at h1
  have h2 : 10 ^ n ≤ 10 ^ 9 := Nat.pow_le_pow_right (by omega) hn
  have h3 : 0 < 10 ^ n := Nat.pow_pos (by omega)
  have h4 : (10 : Nat) ^ 9 = 1000000000 := by decide
  omega
theorem or_n {a b : Nat} : Int32.ofNat a ||| Int32.ofNat b = Int32.ofNat (a ||| b) := by
  apply Int32.toBitVec_inj.mp
  show BitVec.ofNat 32 a ||| BitVec.ofNat 32 b = BitVec.ofNat 32 (a ||| b)
  exact BitVec.ofNat_or.symm
theorem shl10 : ∀ n, n < 10 → (1 : Int32) <<< (Int32.ofNat n &&& 31) = Int32.ofNat (2 ^ n) := by decide +kernel
theorem bt10 : ∀ a, a < 1024 → ∀ p, p < 10 → (((Int32.ofNat a >>> (Int32.ofNat p &&& 31)) &&& 1 = 0) ↔ a.testBit p = false) := by decide +kernel
theorem ten_sub : ∀ p, p < 11 → ((10 : Int32) - Int32.ofNat p).toInt64 = Int64.ofNat (10 - p) := by decide +kernel
theorem updn : ∀ i, i < 10 → mnI 9 (Int32.ofNat i + 1) = Int32.ofNat (if 9 ≤ i then 9 else i + 1) ∧ mxI 0 (Int32.ofNat i - 1) = Int32.ofNat (i - 1) := by decide +kernel
theorem pL_at {σ : Mem} {k j a i : Nat} {v : Int64} : (pL σ k j v).2 a i = if a = k ∧ i = j then v else σ.2 a i := rfl
theorem kd53 {x : Nat} (h : x = 234 ∨ x = 235) : kdC x = (53, 10) := by rcases h with rfl | rfl <;> decide +kernel
theorem fillL_C {N x : Nat} {s : Mem} (hN : 10000 ≤ N) : Ho (fJ7_fill_d0a16 N x 0 s) (fun _ t => t.1 = s.1 ∧ (∀ d, d < 10 → t.2 x d = 0) ∧ ∀ k, k ≠ x → t.2 k = s.2 k) := by
  unfold fJ7_fill_d0a16
  simp only [ho_lt]
  refine ho_loop (F := fun n (v : Int32) t => fJ7_fill_d0a16_l6 N n x 0 v 10 t) (fun i v t => v = Int32.ofNat i ∧ t.1 = s.1 ∧ (∀ d, d < i → t.2 x d = 0) ∧ ∀ k, k ≠ x → t.2 k = s.2 k) 10 ?_ ?_ 10 N 0 _ _ (by omega) (by omega) ⟨rfl, rfl, fun d hd => absurd hd (Nat.not_lt_zero d), fun _ _ => rfl⟩
  · rintro n i v t hi ⟨e1, e2, e3, e4⟩ rec
    subst e1
    simp only [fJ7_fill_d0a16_l6, fJ7_fill_d0a16_b6, ho_lte, nz_succ]
    rw [if_neg (show ¬ (10 : Int32) ≤ Int32.ofNat i by rw [z_le (by omega) (by omega)]; omega), nz_inb (by omega), nz_nat (by omega), decide_eq_true hi, ho_gdt]
    refine rec _ _ ⟨rfl, e2, fun d hd => ?_, fun k hk => by rw [pL_ne hk]; exact e4 k hk⟩
    rw [pL_at]
    by_cases c : d = i
    · rw [if_pos ⟨rfl, c⟩]
    · rw [if_neg (fun h => c h.2)]; exact e3 d (by omega)
  · rintro n v t ⟨e1, e2, e3, e4⟩
    subst e1
    simp only [fJ7_fill_d0a16_l6, fJ7_fill_d0a16_b6]
    rw [if_pos (by decide)]
    exact ⟨e2, e3, e4⟩
/-- the class's rows of chances -/
def WeC (h : Nat) (σ s : Mem) (r : Nat → Nat) : Prop := ∃ x y, ((x = 234 ∧ y = 235) ∨ (x = 235 ∧ y = 234)) ∧ s.1 h 1 = Int32.ofNat x ∧ s.1 h 2 = Int32.ofNat y ∧ (∀ d, d < 10 → s.2 x d = Int64.ofNat (r d)) ∧ ∀ k j, ¬ (k = h ∧ (j = 1 ∨ j = 2)) → s.1 k j = σ.1 k j
theorem gdT {α : Type} {κ : Option α} {b : Bool} (h : b = true) : gd b κ = κ := by rw [h]; rfl
theorem gdD {α : Type} {κ : Option α} {P : Prop} {inst : Decidable P} (h : P) : gd (@decide P inst) κ = κ := by rw [decide_eq_true h]; rfl
theorem passDay_C {N h p : Nat} {σ s : Mem} {r : Nat → Nat} (hN : 10000 ≤ N) (hp : p ≤ 10) (H : WeC h σ s r) : Ho (fX10_passDay N h (Int32.ofNat p) s) (fun _ t => WeC h σ t (psN p r 10)) := by
  obtain ⟨x, y, xy, e1, e2, e3, e4⟩ := H
  have kx := kd53 (x := x) (by omega)
  have ky := kd53 (x := y) (by omega)
  have ne : x ≠ y := by omega
  have nx : (Int32.ofNat x).toNatClampNeg = x := nz_nat (by omega)
  have ny : (Int32.ofNat y).toNatClampNeg = y := nz_nat (by omega)
  unfold fX10_passDay
  rw [e2, ny, ky, decide_eq_true rfl, ho_gdt, ho_bd]
  refine ho_mono (fillL_C hN) (fun _ u ⟨f1, f2, f3⟩ => ?_)
  simp only [ho_lt]
  refine ho_loop (F := fun n (v : Int32) t => fX10_passDay_l10 N h n (Int32.ofNat p) v t) (fun i v t => v = Int32.ofNat i ∧ t.1 = s.1 ∧ (∀ d, d < 10 → t.2 y d = Int64.ofNat (psN p r i d)) ∧ t.2 x = s.2 x) 10 ?_ ?_ 10 N 0 _ _ (by omega) (by omega) ⟨rfl, f1, fun d hd => by rw [f2 d hd]; rfl, f3 x ne⟩
  · rintro n i v t hi ⟨g1, g2, g3, g4⟩ rec
    subst g1
    have ud := updn i hi
    have u9 : (if 9 ≤ i then 9 else i + 1) < 10 := by split <;> omega
    have ud1 : mnI 9 (Int32.ofNat (i + 1)) = Int32.ofNat (if 9 ≤ i then 9 else i + 1) := by rw [← nz_succ]; exact ud.1
    have i1 : inb (mnI 9 (Int32.ofNat (i + 1))) 10 = true := by rw [ud1, nz_inb (by omega)]; exact decide_eq_true u9
    have i2 : inb (Int32.ofNat i) 10 = true := by rw [nz_inb (by omega)]; exact decide_eq_true hi
    have i3 : inb (mxI 0 (Int32.ofNat i - 1)) 10 = true := by rw [ud.2, nz_inb (by omega)]; exact decide_eq_true (by omega)
    have k1 : kdC (t.1 h 1).toNatClampNeg = (53, 10) := by rw [g2, e1, nx, kx]
    have k2 : kdC (t.1 h 2).toNatClampNeg = (53, 10) := by rw [g2, e2, ny, ky]
    have k1' : ∀ a b c, kdC ((pL t a b c).1 h 1).toNatClampNeg = (53, 10) := fun _ _ _ => k1
    have k2' : ∀ a b c, kdC ((pL t a b c).1 h 2).toNatClampNeg = (53, 10) := fun _ _ _ => k2
    simp only [fX10_passDay_l10, fX10_passDay_b10, ho_lte, nz_succ]
    rw [if_neg (show ¬ (9 : Int32) < Int32.ofNat i by rw [z_lt (by omega) (by omega)]; omega)]
    rw [gdD k2, gdT i1, gdD k1, gdT i2, gdT i1, gdD (k2' _ _ _), gdT i3, gdD (k1' _ _ _), gdT i2, gdT i3]
    rw [pL_1, g2, e1, e2, nx, ny, ud1, ud.2, nz_nat (show (if 9 ≤ i then 9 else i + 1) < 2147483648 by omega), nz_nat (show i < 2147483648 by omega), nz_nat (show i - 1 < 2147483648 by omega)]
    refine rec _ _ ⟨rfl, g2, fun d hd => ?_, by rw [pL_ne ne, pL_ne ne, g4]⟩
    have sx : t.2 x i = Int64.ofNat (r i) := by rw [g4]; exact e3 i hi
    simp only [pL_at]
    rw [if_neg (fun h => ne h.1 : ¬ (x = y ∧ i = (if 9 ≤ i then 9 else i + 1))), sx, i64n (show p < 2147483648 by omega), ten_sub p (by omega), g3 _ u9, l_mul, l_mul, l_add]
    simp only [psN]
    unfold upN
    by_cases c : d = i - 1
    · subst c
      rw [if_pos (by simp), if_pos rfl]
      by_cases c2 : i - 1 = (if 9 ≤ i then 9 else i + 1)
      · rw [if_pos (by simpa using c2), if_pos c2, l_add, c2]
      · rw [if_neg (fun h => c2 h.2), if_neg c2, g3 _ (by omega), l_add]
    · rw [if_neg (fun h => c h.2), if_neg c]
      by_cases c2 : d = (if 9 ≤ i then 9 else i + 1)
      · rw [if_pos (by simpa using c2), if_pos c2, c2]
      · rw [if_neg (fun h => c2 h.2), if_neg c2, g3 _ hd]
  · rintro n v t ⟨g1, g2, g3, g4⟩
    subst g1
    simp only [fX10_passDay_l10, fX10_passDay_b10, ho_lte]
    rw [if_pos (by decide), g2, e1, e2, nx, ny, kx, ky, decide_eq_true rfl, ho_gdt, ho_gdt]
    refine ⟨y, x, by omega, ?_, ?_, fun d hd => g3 d hd, fun k j hk => ?_⟩
    · rw [pI_nq (by omega), pI_eq]
    · rw [pI_eq]
    · rw [pI_nq (by omega), pI_nq (by omega), g2]; exact e4 k j hk
