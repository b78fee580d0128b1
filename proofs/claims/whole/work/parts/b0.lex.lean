/-! Tokens of a tape: bytes B, n of them. -/
def isL (b : Nat) : Bool := decide (97 ≤ b ∧ b ≤ 122)
def isD (b : Nat) : Bool := decide (48 ≤ b ∧ b ≤ 57)
def isB (b : Nat) : Bool := decide (b = 10 ∨ b = 32)
/-- where a row of such bytes ends, d at most -/
def ruN (P : Nat → Bool) (B : Nat → Nat) : Nat → Nat → Nat
  | 0, i => i
  | d + 1, i => if P (B i) = true then ruN P B d (i + 1) else i
theorem ru_bd {P : Nat → Bool} {B : Nat → Nat} : ∀ d i, i ≤ ruN P B d i ∧ ruN P B d i ≤ i + d ∧ ∀ j, i ≤ j → j < ruN P B d i → P (B j) = true
  | 0, i => ⟨Nat.le_refl _, Nat.le_refl _, fun j h1 h2 => by simp only [ruN] at h2; omega⟩
  | d + 1, i => by
    have ih := ru_bd (P := P) (B := B) d (i + 1)
    simp only [ruN]
    by_cases h : P (B i) = true
    · rw [if_pos h]
      refine ⟨by omega, by omega, fun j h1 h2 => ?_⟩
      by_cases q : j = i
      · subst q; exact h
      · exact ih.2.2 j (by omega) h2
    · rw [if_neg h]
      exact ⟨Nat.le_refl _, by omega, fun j h1 h2 => by omega⟩
theorem ru_s {P : Nat → Bool} {B : Nat → Nat} {n i : Nat} (h : i < n) (hp : P (B i) = true) : ruN P B (n - i) i = ruN P B (n - (i + 1)) (i + 1) := by
  obtain ⟨d, hd⟩ : ∃ d, n - i = d + 1 := ⟨n - i - 1, by omega⟩
  rw [hd, show n - (i + 1) = d by omega]
  simp only [ruN]
  rw [if_pos hp]
theorem ru_z {P : Nat → Bool} {B : Nat → Nat} {n i : Nat} (h : i < n) (hp : ¬ P (B i) = true) : ruN P B (n - i) i = i := by
  obtain ⟨d, hd⟩ : ∃ d, n - i = d + 1 := ⟨n - i - 1, by omega⟩
  rw [hd]
  simp only [ruN]
  rw [if_neg hp]
theorem ru_n {P : Nat → Bool} {B : Nat → Nat} {n : Nat} : ruN P B (n - n) n = n := by rw [Nat.sub_self]; rfl
theorem by_k : ∀ b, b < 256 → (((Int32.ofNat b).toInt8.toInt32 = 10 ↔ b = 10) ∧ ((Int32.ofNat b).toInt8.toInt32 = 32 ↔ b = 32) ∧ ((Int32.ofNat b).toInt8.toInt32 = 59 ↔ b = 59)) ∧ (((Int32.ofNat b).toInt8.toInt32 < 97 ∨ 122 < (Int32.ofNat b).toInt8.toInt32) ↔ isL b = false) ∧ (((Int32.ofNat b).toInt8.toInt32 < 48 ∨ 57 < (Int32.ofNat b).toInt8.toInt32) ↔ isD b = false) ∧ (b < 128 → (Int32.ofNat b).toInt8.toInt32 = Int32.ofNat b) := by decide +kernel
theorem bm_k : ∀ b, b < 256 → ((Int32.ofNat b = 10 ↔ b = 10) ∧ (Int32.ofNat b = 32 ↔ b = 32) ∧ (Int32.ofNat b = 59 ↔ b = 59)) ∧ ((Int32.ofNat b < 97 ∨ 122 < Int32.ofNat b) ↔ isL b = false) ∧ ((Int32.ofNat b < 48 ∨ 57 < Int32.ofNat b) ↔ isD b = false) ∧ ¬ Int32.ofNat b < 0 := by decide +kernel
def byX (b : Nat) : Int32 := (Int32.ofNat b).toInt8.toInt32
section LEX
variable {N : Nat} {B : Nat → Nat} {n : Nat} {σ : Mem}
theorem let_C {b : Nat} (hb : b < 256) : fX6_isLetter N (byX b) σ = some (if isL b = true then 1 else 0, σ) := by
  have k := (by_k b hb).2.1
  unfold fX6_isLetter byX
  by_cases c1 : (Int32.ofNat b).toInt8.toInt32 < 97
  · rw [if_pos c1, k.mp (Or.inl c1)]; rfl
  · rw [if_neg c1]
    by_cases c2 : 122 < (Int32.ofNat b).toInt8.toInt32
    · rw [if_pos c2, k.mp (Or.inr c2)]; rfl
    · rw [if_neg c2, if_pos]
      cases h : isL b with
      | true => rfl
      | false => exact absurd (k.mpr h) (by rintro (h | h); exact c1 h; exact c2 h)
theorem dig_C {b : Nat} (hb : b < 256) : fX6_isDigit N (byX b) σ = some (if isD b = true then 1 else 0, σ) := by
  have k := (by_k b hb).2.2.1
  unfold fX6_isDigit byX
  by_cases c1 : (Int32.ofNat b).toInt8.toInt32 < 48
  · rw [if_pos c1, k.mp (Or.inl c1)]; rfl
  · rw [if_neg c1]
    by_cases c2 : 57 < (Int32.ofNat b).toInt8.toInt32
    · rw [if_pos c2, k.mp (Or.inr c2)]; rfl
    · rw [if_neg c2, if_pos]
      cases h : isD b with
      | true => rfl
      | false => exact absurd (k.mpr h) (by rintro (h | h); exact c1 h; exact c2 h)
theorem bla_C {b : Nat} (hb : b < 256) : fX6_isBlank N (byX b) σ = some (if isB b = true then 1 else 0, σ) := by
  have k := (by_k b hb).1
  unfold fX6_isBlank fX6_isBlank_b12 byX isB
  by_cases c1 : b = 10
  · rw [if_pos (k.1.mpr c1), decide_eq_true (Or.inl c1)]; rfl
  · rw [if_neg (fun h => c1 (k.1.mp h))]
    by_cases c2 : b = 32
    · rw [if_pos (k.2.1.mpr c2), decide_eq_true (Or.inr c2)]; rfl
    · rw [if_neg (fun h => c2 (k.2.1.mp h)), decide_eq_false (by omega)]; rfl
theorem let_M {b : Nat} (hb : b < 256) : fX12_isLetter N (Int32.ofNat b) σ = some (if isL b = true then 1 else 0, σ) := by
  have k := (bm_k b hb).2.1
  unfold fX12_isLetter
  by_cases c1 : Int32.ofNat b < 97
  · rw [if_pos c1, k.mp (Or.inl c1)]; rfl
  · rw [if_neg c1]
    by_cases c2 : 122 < Int32.ofNat b
    · rw [if_pos c2, k.mp (Or.inr c2)]; rfl
    · rw [if_neg c2, if_pos]
      cases h : isL b with
      | true => rfl
      | false => exact absurd (k.mpr h) (by rintro (h | h); exact c1 h; exact c2 h)
theorem dig_M {b : Nat} (hb : b < 256) : fX12_isDigit N (Int32.ofNat b) σ = some (if isD b = true then 1 else 0, σ) := by
  have k := (bm_k b hb).2.2.1
  unfold fX12_isDigit
  by_cases c1 : Int32.ofNat b < 48
  · rw [if_pos c1, k.mp (Or.inl c1)]; rfl
  · rw [if_neg c1]
    by_cases c2 : 57 < Int32.ofNat b
    · rw [if_pos c2, k.mp (Or.inr c2)]; rfl
    · rw [if_neg c2, if_pos]
      cases h : isD b with
      | true => rfl
      | false => exact absurd (k.mpr h) (by rintro (h | h); exact c1 h; exact c2 h)
/-- the tape, as the class's reader and as the reference holds it -/
def TpC (B : Nat → Nat) (n : Nat) (σ : Mem) : Prop := n ≤ 600 ∧ σ.1 171 5 = 2 ∧ σ.1 171 6 = Int32.ofNat n ∧ ∀ i, i < n → B i < 256 ∧ σ.1 2 i = byX (B i)
def TpM (B : Nat → Nat) (n : Nat) (σ : Mem) : Prop := n ≤ 600 ∧ σ.1 0 2 = Int32.ofNat n ∧ ∀ i, i < n → B i < 256 ∧ σ.1 1 (10 + i) = Int32.ofNat (B i)
def FrLC (σ t : Mem) : Prop := ∀ k j, ¬ (k = 171 ∧ 7 ≤ j ∧ j ≤ 10) → t.1 k j = σ.1 k j
def FrLM (σ t : Mem) : Prop := ∀ k j, ¬ (k = 0 ∧ 3 ≤ j ∧ j ≤ 7) → t.1 k j = σ.1 k j
theorem FrLC.refl (σ : Mem) : FrLC σ σ := fun _ _ _ => rfl
theorem FrLM.refl (σ : Mem) : FrLM σ σ := fun _ _ _ => rfl
theorem FrLC.trans {a b c : Mem} (x : FrLC a b) (y : FrLC b c) : FrLC a c := fun k j h => (y k j h).trans (x k j h)
theorem FrLM.trans {a b c : Mem} (x : FrLM a b) (y : FrLM b c) : FrLM a c := fun k j h => (y k j h).trans (x k j h)
theorem FrLC.pI {a b : Mem} {j : Nat} {v : Int32} (x : FrLC a b) (h : 7 ≤ j ∧ j ≤ 10) : FrLC a (pI b 171 j v) := fun k i hi => by rw [pI_nq (by omega)]; exact x k i hi
theorem FrLM.pI {a b : Mem} {j : Nat} {v : Int32} (x : FrLM a b) (h : 3 ≤ j ∧ j ≤ 7) : FrLM a (pI b 0 j v) := fun k i hi => by rw [pI_nq (by omega)]; exact x k i hi
theorem TpC.fr {t : Mem} (T : TpC B n σ) (F : FrLC σ t) : TpC B n t := ⟨T.1, by rw [F 171 5 (by omega)]; exact T.2.1, by rw [F 171 6 (by omega)]; exact T.2.2.1, fun i hi => by rw [F 2 i (by omega)]; exact T.2.2.2 i hi⟩
theorem TpM.fr {t : Mem} (T : TpM B n σ) (F : FrLM σ t) : TpM B n t := ⟨T.1, by rw [F 0 2 (by omega)]; exact T.2.1, fun i hi => by rw [F 1 _ (by omega)]; exact T.2.2 i hi⟩
theorem kd2 : kdC (2 : Int32).toNatClampNeg = (52, 600) := by decide
theorem byteAt_M {i : Nat} (T : TpM B n σ) (h : i < n) : fX12_byteAt N (Int32.ofNat i) σ = some (Int32.ofNat (B i), σ) := by
  have h6 := T.1
  unfold fX12_byteAt
  rw [T.2.1, if_neg (show ¬ Int32.ofNat n ≤ Int32.ofNat i by rw [nz_le (by omega) (by omega)]; omega), show (10 : Int32) + Int32.ofNat i = Int32.ofNat (10 + i) from nz_add, gdT (show inb (Int32.ofNat (10 + i)) 4176 = true by rw [nz_inb (by omega)]; exact decide_eq_true (by omega)), nz_nat (by omega), (T.2.2 i h).2]
theorem byteAt_n (T : TpM B n σ) : fX12_byteAt N (Int32.ofNat n) σ = some (-1, σ) := by
  unfold fX12_byteAt
  rw [T.2.1, if_pos (Int32.le_refl _)]
/-- the class, a letter row -/
theorem l110_C (hN : 10000 ≤ N) (T : TpC B n σ) {i : Nat} (hi : i ≤ n) (h9 : σ.1 171 9 = Int32.ofNat i) : Ho (fX6_advance_l110 N 171 N σ) (fun _ t => FrLC σ t ∧ (∀ j, j ≠ 9 → t.1 171 j = σ.1 171 j) ∧ t.1 171 9 = Int32.ofNat (ruN isL B (n - i) i)) := by
  have h6 := T.1
  refine ho_loop (F := fun m (_ : Unit) s => fX6_advance_l110 N 171 m s) (fun j _ s => i ≤ j ∧ FrLC σ s ∧ (∀ j, j ≠ 9 → s.1 171 j = σ.1 171 j) ∧ s.1 171 9 = Int32.ofNat j ∧ ruN isL B (n - j) j = ruN isL B (n - i) i) n ?_ ?_ (n - i) N i () σ (by omega) (by omega) ⟨Nat.le_refl _, FrLC.refl _, fun _ _ => rfl, h9, rfl⟩
  · rintro m j _ s hj ⟨g1, F, G, g9, E⟩ rec
    have T' := T.fr F
    simp only [fX6_advance_l110]
    unfold fX6_advance_b110
    rw [T'.2.2.1, g9, T'.2.1, if_neg (show ¬ Int32.ofNat n ≤ Int32.ofNat j by rw [nz_le (by omega) (by omega)]; omega), gdD kd2, gdT (show inb (Int32.ofNat j) 600 = true by rw [nz_inb (by omega)]; exact decide_eq_true (by omega)), show (2 : Int32).toNatClampNeg = 2 from rfl, nz_nat (by omega), (T'.2.2.2 j hj).2, let_C (T'.2.2.2 j hj).1, ho_bds]
    by_cases c : isL (B j) = true
    · rw [if_pos c, if_neg (by decide), ho_lte, g9, nz_succ]
      refine rec () _ ⟨by omega, F.pI (by omega), fun q hq => by rw [pI_nq (by omega)]; exact G q hq, pI_eq, by rw [← ru_s hj c]; exact E⟩
    · rw [if_neg c, if_pos rfl]
      exact ⟨F, G, by rw [g9, ← E, ru_z hj c]⟩
  · rintro m _ s ⟨g1, F, G, g9, E⟩
    have T' := T.fr F
    simp only [fX6_advance_l110]
    unfold fX6_advance_b110
    rw [T'.2.2.1, g9, if_pos (Int32.le_refl _)]
    exact ⟨F, G, by rw [g9, ← E, ru_n]⟩
def vlN (B : Nat → Nat) (s e : Nat) : Nat := if s + 1 < e then 10 * (B s - 48) + (B (s + 1) - 48) else B s - 48
theorem sub48 {x y : Nat} (h : 48 ≤ x) (e : y + 48 = x) : Int32.ofNat x - 48 = Int32.ofNat y := by
  rw [← e, ← nz_add, show (48 : Int32) = Int32.ofNat 48 from rfl, Int32.add_sub_cancel]
/-- the class, a row of digits -/
theorem dig_row_C (hN : 10000 ≤ N) (T : TpC B n σ) {s : Nat} (hs : s < n) (hd : isD (B s) = true) (h8 : σ.1 171 8 = Int32.ofNat s) (h9 : σ.1 171 9 = Int32.ofNat (s + 1)) : Ho (fX6_takeDigits N 171 (Int32.ofNat (B s - 48)) σ) (fun _ t => FrLC σ t ∧ t.1 171 8 = Int32.ofNat s ∧ t.1 171 9 = Int32.ofNat (ruN isD B (n - (s + 1)) (s + 1)) ∧ t.1 171 7 = (if ruN isD B (n - (s + 1)) (s + 1) - s ≤ 2 then 2 else 4) ∧ t.1 171 10 = Int32.ofNat (vlN B s (ruN isD B (n - (s + 1)) (s + 1)))) := by
  have h6 := T.1
  have rb := ru_bd (P := isD) (B := B) (n - (s + 1)) (s + 1)
  have d0 : 48 ≤ B s ∧ B s ≤ 57 := of_decide_eq_true hd
  generalize hE : ruN isD B (n - (s + 1)) (s + 1) = E at rb
  unfold fX6_takeDigits
  rw [ho_lte]
  have fin : ∀ t, FrLC σ t → t.1 171 8 = Int32.ofNat s → t.1 171 9 = Int32.ofNat E → t.1 171 10 = Int32.ofNat (vlN B s E) → Ho (fX6_takeDigits_b78 N 171 t) (fun _ t => FrLC σ t ∧ t.1 171 8 = Int32.ofNat s ∧ t.1 171 9 = Int32.ofNat E ∧ t.1 171 7 = (if E - s ≤ 2 then 2 else 4) ∧ t.1 171 10 = Int32.ofNat (vlN B s E)) := by
    intro t F g8 g9 g10
    unfold fX6_takeDigits_b78 fX6_takeDigits_b97
    have e1 : t.1 171 9 - t.1 171 8 = Int32.ofNat (E - s) := by
      rw [g8, g9]
      have : E = E - s + s := by omega
      rw [this, ← nz_add, Int32.add_sub_cancel, ← this]
    rw [e1]
    by_cases c : E - s ≤ 2
    · rw [if_pos (show Int32.ofNat (E - s) ≤ 2 by rw [z_ge (by omega) (by omega)]; exact c), ho_lte, if_pos c]
      exact ⟨F.pI (by omega), by rw [pI_nq (by omega)]; exact g8, by rw [pI_nq (by omega)]; exact g9, pI_eq, by rw [pI_nq (by omega)]; exact g10⟩
    · rw [if_neg (show ¬ Int32.ofNat (E - s) ≤ 2 by rw [z_ge (by omega) (by omega)]; exact c), ho_lte, if_neg c]
      exact ⟨F.pI (by omega), by rw [pI_nq (by omega)]; exact g8, by rw [pI_nq (by omega)]; exact g9, pI_eq, by rw [pI_nq (by omega)]; exact g10⟩
  have v0 : vlN B s (s + 1) = B s - 48 := if_neg (by omega)
  have v1 : ∀ j, s + 1 < j → vlN B s j = 10 * (B s - 48) + (B (s + 1) - 48) := fun j h => if_pos h
  refine ho_loop (F := fun m (_ : Unit) t => fX6_takeDigits_l5 N 171 m (Int32.ofNat (B s - 48)) t) (fun j _ t => s + 1 ≤ j ∧ FrLC σ t ∧ t.1 171 8 = Int32.ofNat s ∧ t.1 171 9 = Int32.ofNat j ∧ t.1 171 10 = Int32.ofNat (vlN B s j) ∧ ruN isD B (n - j) j = E) n ?_ ?_ (n - (s + 1)) N (s + 1) () _ (by omega) (by omega) ⟨Nat.le_refl _, (FrLC.refl _).pI (by omega), by rw [pI_nq (by omega)]; exact h8, by rw [pI_nq (by omega)]; exact h9, by rw [pI_eq, v0], hE⟩
  · rintro m j _ t hj ⟨g1, F, g8, g9, g10, e⟩ rec
    have T' := T.fr F
    simp only [fX6_takeDigits_l5]
    unfold fX6_takeDigits_b5
    rw [T'.2.2.1, g9, T'.2.1, if_neg (show ¬ Int32.ofNat n ≤ Int32.ofNat j by rw [nz_le (by omega) (by omega)]; omega), gdD kd2, gdT (show inb (Int32.ofNat j) 600 = true by rw [nz_inb (by omega)]; exact decide_eq_true (by omega)), show (2 : Int32).toNatClampNeg = 2 from rfl, nz_nat (by omega), (T'.2.2.2 j hj).2, dig_C (T'.2.2.2 j hj).1, ho_bds]
    by_cases c : isD (B j) = true
    · have dj : 48 ≤ B j ∧ B j ≤ 57 := of_decide_eq_true c
      rw [if_pos c, if_neg (by decide), g9, g8, nz_succ]
      by_cases q : j = s + 1
      · subst q
        have bx : byX (B (s + 1)) = Int32.ofNat (B (s + 1)) := (by_k _ (by omega)).2.2.2 (by omega)
        have val : 10 * Int32.ofNat (B s - 48) + byX (B (s + 1)) - 48 = Int32.ofNat (10 * (B s - 48) + (B (s + 1) - 48)) := by
          rw [bx, show (10 : Int32) = Int32.ofNat 10 from rfl, nz_mul, nz_add]
          exact sub48 (by omega) (by omega)
        rw [if_pos rfl, T'.2.1, gdD kd2, gdT (show inb (Int32.ofNat (s + 1)) 600 = true by rw [nz_inb (by omega)]; exact decide_eq_true (by omega)), show (2 : Int32).toNatClampNeg = 2 from rfl, nz_nat (by omega), (T'.2.2.2 _ hj).2, ho_lte, val]
        unfold fX6_takeDigits_b65
        rw [ho_lte, pI_nq (by omega), g9, nz_succ]
        refine rec () _ ⟨by omega, (F.pI (by omega)).pI (by omega), by rw [pI_nq (by omega), pI_nq (by omega)]; exact g8, pI_eq, by rw [pI_nq (by omega), pI_eq, v1 _ (by omega)], by rw [← ru_s hj c]; exact e⟩
      · rw [if_neg (show ¬ Int32.ofNat j = Int32.ofNat (s + 1) by rw [nz_inj (by omega) (by omega)]; exact q)]
        unfold fX6_takeDigits_b65
        rw [ho_lte, g9, nz_succ]
        refine rec () _ ⟨by omega, F.pI (by omega), by rw [pI_nq (by omega)]; exact g8, pI_eq, by rw [pI_nq (by omega), g10, v1 _ (by omega), v1 _ (by omega)], by rw [← ru_s hj c]; exact e⟩
    · rw [if_neg c, if_pos rfl]
      have ej : j = E := by rw [← e, ru_z hj c]
      exact fin t F g8 (by rw [g9, ej]) (by rw [g10, ej])
  · rintro m _ t ⟨g1, F, g8, g9, g10, e⟩
    have T' := T.fr F
    simp only [fX6_takeDigits_l5]
    unfold fX6_takeDigits_b5
    rw [T'.2.2.1, g9, if_pos (Int32.le_refl _)]
    have ej : n = E := by rw [← e, ru_n]
    exact fin t F g8 (by rw [g9, ej]) (by rw [g10, ej])
/-- where the token that begins at s ends -/
def teN (B : Nat → Nat) (n s : Nat) : Nat := if s < n then (if isL (B s) = true then ruN isL B (n - (s + 1)) (s + 1) else if isD (B s) = true then ruN isD B (n - (s + 1)) (s + 1) else s + 1) else s
/-- the class's token -/
def tkC (B : Nat → Nat) (n s : Nat) : Int32 := if s < n then (if isL (B s) = true then 1 else if isD (B s) = true then (if teN B n s - s ≤ 2 then 2 else 4) else if B s = 59 then 3 else 4) else 0
def LxC (B : Nat → Nat) (n s : Nat) (t : Mem) : Prop := t.1 171 8 = Int32.ofNat s ∧ t.1 171 9 = Int32.ofNat (teN B n s) ∧ t.1 171 7 = tkC B n s ∧ (s < n → isD (B s) = true → t.1 171 10 = Int32.ofNat (vlN B s (teN B n s)))
theorem b39_C (hN : 10000 ≤ N) (T : TpC B n σ) {s : Nat} (hs : s ≤ n) (h9 : σ.1 171 9 = Int32.ofNat s) : Ho (fX6_advance_b39 N 171 σ) (fun _ t => FrLC σ t ∧ LxC B n s t) := by
  have h6 := T.1
  unfold fX6_advance_b39
  rw [ho_lte, h9]
  have F0 : FrLC σ (pI σ 171 8 (Int32.ofNat s)) := (FrLC.refl _).pI (by omega)
  have s8 : (pI σ 171 8 (Int32.ofNat s)).1 171 8 = Int32.ofNat s := pI_eq
  have s9 : (pI σ 171 8 (Int32.ofNat s)).1 171 9 = Int32.ofNat s := by rw [pI_nq (by omega)]; exact h9
  have T0 := T.fr F0
  generalize pI σ 171 8 (Int32.ofNat s) = s5 at F0 s8 s9 T0
  rw [s8, T0.2.2.1]
  by_cases c : s < n
  · have tb := T0.2.2.2 s c
    have bk := by_k _ tb.1
    rw [if_pos (show Int32.ofNat s < Int32.ofNat n by rw [nz_lt (by omega) (by omega)]; exact c), T0.2.1, gdD kd2, gdT (show inb (Int32.ofNat s) 600 = true by rw [nz_inb (by omega)]; exact decide_eq_true (by omega)), show (2 : Int32).toNatClampNeg = 2 from rfl, nz_nat (by omega), tb.2, ho_lte, ho_lte, s9, nz_succ]
    have F1 : FrLC σ (pI s5 171 9 (Int32.ofNat (s + 1))) := F0.pI (by omega)
    have t8 : (pI s5 171 9 (Int32.ofNat (s + 1))).1 171 8 = Int32.ofNat s := by rw [pI_nq (by omega)]; exact s8
    have t9 : (pI s5 171 9 (Int32.ofNat (s + 1))).1 171 9 = Int32.ofNat (s + 1) := pI_eq
    have T1 := T.fr F1
    generalize pI s5 171 9 (Int32.ofNat (s + 1)) = s8' at F1 t8 t9 T1
    by_cases c1 : B s = 59
    · have nl : ¬ isL (B s) = true := by rw [c1]; decide
      have nd : ¬ isD (B s) = true := by rw [c1]; decide
      rw [if_pos (show byX (B s) = 59 from bk.1.2.2.mpr c1), ho_lte]
      refine ⟨F1.pI (by omega), ?_, ?_, ?_, fun _ h => absurd h nd⟩
      · rw [pI_nq (by omega)]; exact t8
      · rw [pI_nq (by omega), t9]; unfold teN; rw [if_pos c, if_neg nl, if_neg nd]
      · rw [pI_eq]; unfold tkC; rw [if_pos c, if_neg nl, if_neg nd, if_pos c1]
    · rw [if_neg (show ¬ byX (B s) = 59 from fun h => c1 (bk.1.2.2.mp h)), let_C tb.1, ho_bds]
      by_cases c2 : isL (B s) = true
      · have nd : ¬ isD (B s) = true := by
          have h1 : 97 ≤ B s ∧ B s ≤ 122 := of_decide_eq_true c2
          intro h
          have h2 : 48 ≤ B s ∧ B s ≤ 57 := of_decide_eq_true h
          omega
        rw [if_pos c2, if_neg (by decide), ho_lte]
        have F2 : FrLC σ (pI s8' 171 7 1) := F1.pI (by omega)
        refine ho_mono (l110_C hN (T.fr F2) (show s + 1 ≤ n by omega) (by rw [pI_nq (by omega)]; exact t9)) (fun _ t ⟨F3, G, g9⟩ => ?_)
        refine ⟨F2.trans F3, ?_, ?_, ?_, fun _ h => absurd h nd⟩
        · rw [G 8 (by omega), pI_nq (by omega)]; exact t8
        · rw [g9]; unfold teN; rw [if_pos c, if_pos c2]
        · rw [G 7 (by omega), pI_eq]; unfold tkC; rw [if_pos c, if_pos c2]
      · rw [if_neg c2, if_pos rfl, dig_C tb.1, ho_bds]
        by_cases c3 : isD (B s) = true
        · have d0 : 48 ≤ B s ∧ B s ≤ 57 := of_decide_eq_true c3
          have bx : byX (B s) - 48 = Int32.ofNat (B s - 48) := by
            rw [show byX (B s) = Int32.ofNat (B s) from bk.2.2.2 (by omega)]
            exact sub48 (by omega) (by omega)
          have te : teN B n s = ruN isD B (n - (s + 1)) (s + 1) := by unfold teN; rw [if_pos c, if_neg c2, if_pos c3]
          rw [if_pos c3, if_neg (by decide), ho_bd, bx]
          refine ho_mono (dig_row_C hN T1 c c3 t8 t9) (fun _ t ⟨F3, g8, g9, g7, g10⟩ => ?_)
          refine ⟨F1.trans F3, g8, by rw [g9, te], ?_, fun _ _ => by rw [g10, te]⟩
          rw [g7]; unfold tkC; rw [if_pos c, if_neg c2, if_pos c3, te]
        · rw [if_neg c3, if_pos rfl, ho_lte]
          refine ⟨F1.pI (by omega), ?_, ?_, ?_, fun _ h => absurd h c3⟩
          · rw [pI_nq (by omega)]; exact t8
          · rw [pI_nq (by omega), t9]; unfold teN; rw [if_pos c, if_neg c2, if_neg c3]
          · rw [pI_eq]; unfold tkC; rw [if_pos c, if_neg c2, if_neg c3, if_neg c1]
  · rw [if_neg (show ¬ Int32.ofNat s < Int32.ofNat n by rw [nz_lt (by omega) (by omega)]; exact c), ho_lte]
    refine ⟨F0.pI (by omega), ?_, ?_, ?_, fun h => absurd h c⟩
    · rw [pI_nq (by omega)]; exact s8
    · rw [pI_nq (by omega), s9]; unfold teN; rw [if_neg c]
    · rw [pI_eq]; unfold tkC; rw [if_neg c]
/-- where the next token begins -/
def tsN (B : Nat → Nat) (n i : Nat) : Nat := ruN isB B (n - i) i
theorem adv_C (hN : 10000 ≤ N) (T : TpC B n σ) {i : Nat} (hi : i ≤ n) (h9 : σ.1 171 9 = Int32.ofNat i) : Ho (fX6_advance N 171 σ) (fun _ t => FrLC σ t ∧ LxC B n (tsN B n i) t) := by
  have h6 := T.1
  unfold fX6_advance tsN
  refine ho_loop (F := fun m (_ : Unit) s => fX6_advance_l0 N 171 m s) (fun j _ s => i ≤ j ∧ FrLC σ s ∧ s.1 171 9 = Int32.ofNat j ∧ ruN isB B (n - j) j = ruN isB B (n - i) i) n ?_ ?_ (n - i) N i () σ (by omega) (by omega) ⟨Nat.le_refl _, FrLC.refl _, h9, rfl⟩
  · rintro m j _ s hj ⟨g1, F, g9, E⟩ rec
    have T' := T.fr F
    simp only [fX6_advance_l0]
    unfold fX6_advance_b0
    rw [T'.2.2.1, g9, T'.2.1, if_neg (show ¬ Int32.ofNat n ≤ Int32.ofNat j by rw [nz_le (by omega) (by omega)]; omega), gdD kd2, gdT (show inb (Int32.ofNat j) 600 = true by rw [nz_inb (by omega)]; exact decide_eq_true (by omega)), show (2 : Int32).toNatClampNeg = 2 from rfl, nz_nat (by omega), (T'.2.2.2 j hj).2, bla_C (T'.2.2.2 j hj).1, ho_bds]
    by_cases c : isB (B j) = true
    · rw [if_pos c, if_neg (by decide), ho_lte, g9, nz_succ]
      refine rec () _ ⟨by omega, F.pI (by omega), pI_eq, by rw [← ru_s hj c]; exact E⟩
    · rw [if_neg c, if_pos rfl, ← E, ru_z hj c]
      exact ho_mono (b39_C hN T' (by omega) g9) (fun _ t ⟨F2, L⟩ => ⟨F.trans F2, L⟩)
  · rintro m _ s ⟨g1, F, g9, E⟩
    have T' := T.fr F
    simp only [fX6_advance_l0]
    unfold fX6_advance_b0
    rw [T'.2.2.1, g9, if_pos (Int32.le_refl _), ← E, ru_n]
    exact ho_mono (b39_C hN T' (Nat.le_refl n) g9) (fun _ t ⟨F2, L⟩ => ⟨F.trans F2, L⟩)
theorem ts_bd {i : Nat} (hi : i ≤ n) : i ≤ tsN B n i ∧ tsN B n i ≤ n := by
  have := ru_bd (P := isB) (B := B) (n - i) i
  unfold tsN; omega
theorem te_bd {s : Nat} (hs : s ≤ n) : s ≤ teN B n s ∧ teN B n s ≤ n ∧ (s < n → s < teN B n s) := by
  have h1 := ru_bd (P := isL) (B := B) (n - (s + 1)) (s + 1)
  have h2 := ru_bd (P := isD) (B := B) (n - (s + 1)) (s + 1)
  unfold teN
  by_cases c : s < n
  · rw [if_pos c]
    by_cases c1 : isL (B s) = true
    · rw [if_pos c1]; omega
    · rw [if_neg c1]
      by_cases c2 : isD (B s) = true
      · rw [if_pos c2]; omega
      · rw [if_neg c2]; omega
  · rw [if_neg c]; omega
end LEX
