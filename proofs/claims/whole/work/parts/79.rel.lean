theorem inb_iff {v : Int32} {n : Nat} : inb v n = true ↔ 0 ≤ v.toInt ∧ v.toInt < n := by
  unfold inb
  simp only [Bool.and_eq_true, Bool.not_eq_true', decide_eq_false_iff_not, decide_eq_true_eq, Int32.lt_iff_toInt_lt]
  rw [show (0 : Int32).toInt = 0 from rfl]
  unfold Int32.toNatClampNeg
  omega
theorem inb_not {v : Int32} {n : Nat} : inb v n = false ↔ ¬ (0 ≤ v.toInt ∧ v.toInt < n) := by
  rw [← inb_iff]; simp
theorem i32_le {a b : Int32} : a ≤ b ↔ a.toInt ≤ b.toInt := Int32.le_iff_toInt_le
theorem i32_lt {a b : Int32} : a < b ↔ a.toInt < b.toInt := Int32.lt_iff_toInt_lt
theorem i32_eq {a b : Int32} : a = b ↔ a.toInt = b.toInt := Int32.toInt_inj.symm
theorem z_int {n : Nat} (h : n < 2147483648) : (OfNat.ofNat n : Int32).toInt = n := nz_toInt h
/-- a chamber told: numbers as they can be -/
def ChW (C : Vw) (np nw : Nat) : Prop := WfV C np nw ∧ (∃ x, x ≤ 9 ∧ C 1 2 = Int32.ofNat x) ∧
  (∀ p, p < np → (∃ x, x ≤ 2 ∧ C 3 p = Int32.ofNat x) ∧ (∃ x, x ≤ 50 ∧ C 4 p = Int32.ofNat x) ∧ (∃ x, 1 ≤ x ∧ x ≤ 99 ∧ C 5 p = Int32.ofNat x)) ∧
  (∀ w, w < nw → ∃ x, x ≤ 30 ∧ C 8 w = Int32.ofNat x)
/-- a session told, at cell k and at place q -/
def SeR (σ1 : Mem) (k : Nat) (σ2 : Mem) (q : Nat) : Prop := ∃ n, n ≤ 40 ∧ σ1.1 k 0 = Int32.ofNat n ∧ σ2.1 1 q = Int32.ofNat n ∧
  ∀ d, d < n → ∃ t a b, σ1.1 (k + 1) d = Int32.ofNat t ∧ σ1.1 (k + 2) d = a ∧ σ1.1 (k + 3) d = b ∧ σ2.1 1 (q + 1 + 3 * d) = Int32.ofNat t ∧ σ2.1 1 (q + 1 + 3 * d + 1) = a ∧ σ2.1 1 (q + 1 + 3 * d + 2) = b ∧ t ≤ 7 ∧ (t = 0 → ∃ m, m < 64 ∧ a = Int32.ofNat m)
/-- a log told -/
def LoR (σ1 : Mem) (k : Nat) (σ2 : Mem) (q : Nat) : Prop := ∃ n, n ≤ 8 ∧ σ1.1 k 0 = Int32.ofNat n ∧ σ2.1 1 q = Int32.ofNat n ∧
  ∀ d, d < n → ∃ t a b m, t ≤ 1 ∧ a ≤ 60 ∧ b ≤ 9 ∧ m ≤ 6 ∧ σ1.1 (k + 1) d = Int32.ofNat t ∧ σ1.1 (k + 2) d = Int32.ofNat a ∧ σ1.1 (k + 3) d = Int32.ofNat b ∧ σ1.1 (k + 4) d = Int32.ofNat m ∧
    σ2.1 1 (q + 1 + 4 * d) = Int32.ofNat t ∧ σ2.1 1 (q + 1 + 4 * d + 1) = Int32.ofNat a ∧ σ2.1 1 (q + 1 + 4 * d + 2) = Int32.ofNat b ∧ σ2.1 1 (q + 1 + 4 * d + 3) = Int32.ofNat m
def ByR (x y : Int32) : Prop := ∃ n, n < 256 ∧ y = Int32.ofNat n ∧ x = (Int32.ofNat n).toInt8.toInt32
/-- all that is told, at cell k of the class and from place b on of the reference -/
def TR (σ1 : Mem) (k : Nat) (σ2 : Mem) (b : Nat) : Prop :=
  (∃ n, n ≤ 600 ∧ σ1.1 k 1 = Int32.ofNat n ∧ σ2.1 1 (b + 4) = Int32.ofNat n ∧ ∀ i, i < n → ByR (σ1.1 (k + 1) i) (σ2.1 1 (b + 10 + i))) ∧
  (σ1.1 k 2 = σ2.1 1 (b + 5) ∧ σ1.1 k 3 = σ2.1 1 (b + 6)) ∧
  (∃ n, n ≤ 2 ∧ σ1.1 (k + 2) 0 = Int32.ofNat n ∧ σ2.1 1 b = Int32.ofNat n ∧ ∀ i, i < n → ∃ C np nw, ChW C np nw ∧ ChC σ1 (k + 6 + 9 * i) C np nw ∧ ChM σ2 (b + 610 + 63 * i) C np nw) ∧
  (∃ n, n ≤ 2 ∧ σ1.1 (k + 2) 1 = Int32.ofNat n ∧ σ2.1 1 (b + 1) = Int32.ofNat n ∧ ∀ i, i < n → SeR σ1 (k + 24 + 4 * i) σ2 (b + 736 + 121 * i)) ∧
  (∃ n, n ≤ 2 ∧ σ1.1 (k + 2) 2 = Int32.ofNat n ∧ σ2.1 1 (b + 2) = Int32.ofNat n ∧ ∀ i, i < n → LoR σ1 (k + 32 + 5 * i) σ2 (b + 978 + 33 * i)) ∧
  byOk (σ1.1 (k + 1)) 600 = true
/-- the rows of chances -/
def VR (σ : Mem) : Prop := (σ.1 220 1 = 234 ∧ σ.1 220 2 = 235) ∨ (σ.1 220 1 = 235 ∧ σ.1 220 2 = 234)
def RR (σ1 σ2 : Mem) : Prop := TR σ1 1 σ2 0 ∧
  (∀ k, k < 3 → byOk (σ1.1 (44 + 42 * k + 1)) 600 = true ∧ ((σ1.1 170 k = 0 ∧ σ2.1 2 k = 0) ∨ (σ1.1 170 k = 1 ∧ σ2.1 2 k = 1 ∧ TR σ1 (44 + 42 * k) σ2 (1044 * (k + 1))))) ∧
  σ1.1 269 0 = 0 ∧ VR σ1
def KC (σ s : Mem) : Prop := (∀ k, k < 192 → s.1 k = σ.1 k) ∧ s.1 269 0 = 0 ∧ VR s
def KM (σ s : Mem) : Prop := s.1 1 = σ.1 1 ∧ s.1 2 = σ.1 2
theorem KM.refl (σ : Mem) : KM σ σ := ⟨rfl, rfl⟩
theorem KM.trans {σ s t : Mem} (x : KM σ s) (y : KM s t) : KM σ t := ⟨y.1.trans x.1, y.2.trans x.2⟩
theorem KC.trans {σ s t : Mem} (x : KC σ s) (y : KC s t) : KC σ t := ⟨fun k hk => (y.1 k hk).trans (x.1 k hk), y.2⟩
theorem RR.kc {σ1 σ2 : Mem} (R : RR σ1 σ2) : KC σ1 σ1 := ⟨fun _ _ => rfl, R.2.2.1, R.2.2.2⟩
theorem FrH.km {σ s : Mem} (x : FrH σ s) : KM σ s := ⟨x.cell (by omega), x.cell (by omega)⟩
/-- a hall's cells alone changed -/
theorem KC.fr {σ s t : Mem} {a b : Nat} (x : KC σ s) (F : FrC a b s t) (h : 192 ≤ a ∧ b ≤ 269 ∧ (b ≤ 220 ∨ 221 ≤ a)) : KC σ t :=
  ⟨fun k hk => (F.1 k (by omega)).trans (x.1 k hk), by rw [F.1 269 (by omega)]; exact x.2.1, by unfold VR; rw [F.1 220 (by omega)]; exact x.2.2⟩
theorem ChC.ag {σ s : Mem} {k np nw : Nat} {C : Vw} (H : ChC σ k C np nw) (h : ∀ q, k ≤ q → q < k + 9 → s.1 q = σ.1 q) : ChC s k C np nw := by
  unfold ChC at *
  rw [h k (by omega) (by omega), h (k + 1) (by omega) (by omega), h (k + 2) (by omega) (by omega), h (k + 3) (by omega) (by omega), h (k + 4) (by omega) (by omega), h (k + 5) (by omega) (by omega), h (k + 6) (by omega) (by omega), h (k + 7) (by omega) (by omega), h (k + 8) (by omega) (by omega)]
  exact H
theorem ChM.ag {σ s : Mem} {c np nw : Nat} {C : Vw} (H : ChM σ c C np nw) (h : s.1 1 = σ.1 1) : ChM s c C np nw := by
  unfold ChM at *
  rw [h]; exact H
theorem TR.ag {σ1 σ2 s1 s2 : Mem} {k b : Nat} (T : TR σ1 k σ2 b) (h : ∀ q, k ≤ q → q < k + 42 → s1.1 q = σ1.1 q) (h2 : s2.1 1 = σ2.1 1) : TR s1 k s2 b := by
  obtain ⟨⟨n, t1, t2, t3, t4⟩, ⟨u1, u2⟩, ⟨m, v1, v2, v3, v4⟩, ⟨m', w1, w2, w3, w4⟩, ⟨m'', x1, x2, x3, x4⟩, y⟩ := T
  have k0 := h k (by omega) (by omega)
  have k1 := h (k + 1) (by omega) (by omega)
  have k2 := h (k + 2) (by omega) (by omega)
  refine ⟨⟨n, t1, ?_, ?_, ?_⟩, ⟨?_, ?_⟩, ⟨m, v1, ?_, ?_, ?_⟩, ⟨m', w1, ?_, ?_, ?_⟩, ⟨m'', x1, ?_, ?_, ?_⟩, ?_⟩
  · rw [k0]; exact t2
  · rw [h2]; exact t3
  · rw [k1, h2]; exact t4
  · rw [k0, h2]; exact u1
  · rw [k0, h2]; exact u2
  · rw [k2]; exact v2
  · rw [h2]; exact v3
  · intro i hi
    obtain ⟨C, np, nw, c1, c2, c3⟩ := v4 i hi
    exact ⟨C, np, nw, c1, c2.ag (fun q q1 q2 => h q (by omega) (by omega)), c3.ag h2⟩
  · rw [k2]; exact w2
  · rw [h2]; exact w3
  · intro i hi
    have s := w4 i hi
    unfold SeR at *
    rw [h2, h (k + 24 + 4 * i) (by omega) (by omega), h (k + 24 + 4 * i + 1) (by omega) (by omega), h (k + 24 + 4 * i + 2) (by omega) (by omega), h (k + 24 + 4 * i + 3) (by omega) (by omega)]
    exact s
  · rw [k2]; exact x2
  · rw [h2]; exact x3
  · intro i hi
    have s := x4 i hi
    unfold LoR at *
    rw [h2, h (k + 32 + 5 * i) (by omega) (by omega), h (k + 32 + 5 * i + 1) (by omega) (by omega), h (k + 32 + 5 * i + 2) (by omega) (by omega), h (k + 32 + 5 * i + 3) (by omega) (by omega), h (k + 32 + 5 * i + 4) (by omega) (by omega)]
    exact s
  · rw [k1]; exact y
/-- what asks nothing but numbers leaves all that is told -/
theorem RR.keep {σ1 σ2 s1 s2 : Mem} (R : RR σ1 σ2) (K1 : KC σ1 s1) (K2 : KM σ2 s2) : RR s1 s2 := by
  obtain ⟨T, I, _, _⟩ := R
  refine ⟨T.ag (fun q h1 h2 => K1.1 q (by omega)) K2.1, fun k hk => ?_, K1.2.1, K1.2.2⟩
  have q := I k hk
  rw [K1.1 (44 + 42 * k + 1) (by omega), K1.1 170 (by omega), K2.2]
  refine ⟨q.1, ?_⟩
  rcases q.2 with q | ⟨q1, q2, q3⟩
  · exact Or.inl q
  · exact Or.inr ⟨q1, q2, q3.ag (fun q h1 h2 => K1.1 q (by omega)) K2.1⟩
theorem isOf_M {σ : Mem} {N s n : Nat} {v u : Int32} (h : σ.1 1 s = Int32.ofNat n) (hs : s < 3) (hn : n ≤ 2) (hu : u = Int32.ofNat s) : fX12_isOf N u v σ = some (if inb v n = true then 1 else 0, σ) := by
  subst hu
  unfold fX12_isOf
  simp only [nz_inb (show s < 2147483648 by omega), show s < 4176 by omega, decide_true, ho_gdt, nz_nat (show s < 2147483648 by omega), h, isIn_M v (show n ≤ 100000 by omega), ho_bds]
  cases inb v n <;> rfl
theorem isThere_C {σ : Mem} {N k s n : Nat} {v u : Int32} (h : σ.1 (k + 2) s = Int32.ofNat n) (hs : s < 3) (hn : n ≤ 2) (hu : u = Int32.ofNat s) : fX9_isThere N k u v σ = some (if inb v n = true then 1 else 0, σ) := by
  subst hu
  unfold fX9_isThere
  simp only [nz_inb (show s < 2147483648 by omega), hs, decide_true, ho_gdt, nz_nat (show s < 2147483648 by omega), h, i32_lt, i32_le, nz_toInt (show n < 2147483648 by omega), show (0 : Int32).toInt = 0 from rfl, show (2 : Int32).toInt = 2 from rfl]
  by_cases q : inb v n = true
  · have := inb_iff.mp q
    rw [if_neg (by omega), if_neg (by omega), if_neg (by omega), if_pos q]
  · have := mt inb_iff.mpr q
    rw [if_neg q]
    (repeat' split) <;> first | rfl | omega
/-- a chamber is asked for -/
theorem ch2 {σ1 σ2 : Mem} {N : Nat} (R : RR σ1 σ2) (v : Int32) : (fX9_chamberAt N 1 v σ1 = some (none, σ1) ∧ fX12_isChamber N v σ2 = some (0, σ2)) ∨
    ∃ j C np nw s2, j < 2 ∧ fX9_chamberAt N 1 v σ1 = some (some (7 + 9 * j), σ1) ∧ fX12_isChamber N v σ2 = some (1, s2) ∧ ChW C np nw ∧ ChC σ1 (7 + 9 * j) C np nw ∧ HcM s2 (610 + 63 * j) C np nw ∧ KM σ2 s2 := by
  obtain ⟨n, v1, v2, v3, v4⟩ := R.1.2.2.1
  unfold fX9_chamberAt fX12_isChamber
  rw [isThere_C v2 (by omega) v1 (show (0 : Int32) = Int32.ofNat 0 from rfl), isOf_M v3 (by omega) v1 (show (0 : Int32) = Int32.ofNat 0 from rfl), ho_bds, ho_bds]
  by_cases q : inb v n = true
  · right
    obtain ⟨j, j1, j2, j3⟩ := inb_nat q
    obtain ⟨C, np, nw, c1, c2, c3⟩ := v4 j j1
    rw [if_pos q, if_neg (by decide), if_neg (by decide)]
    have b2 : inb v 2 = true := by rw [j2, nz_inb (by omega)]; exact decide_eq_true (by omega)
    have e2 : fX12_placeOf N 0 v σ2 = some (Int32.ofNat (610 + 63 * j), σ2) := by
      unfold fX12_placeOf
      rw [if_pos rfl, j2, show (63 : Int32) = Int32.ofNat 63 from rfl, show (610 : Int32) = Int32.ofNat 610 from rfl, nz_mul, nz_add]
    rw [b2, ho_gdt, e2, ho_bds, j3]
    simp (disch := omega) only [ho_lte, pI_eq, nz_inb (show 610 + 63 * j < 2147483648 by omega), nz_nat (show 610 + 63 * j < 2147483648 by omega), show 610 + 63 * j < 4176 by omega, decide_true, ho_gdt, pI_nq, nz_succ, nz_inb (show 610 + 63 * j + 1 < 2147483648 by omega), nz_nat (show 610 + 63 * j + 1 < 2147483648 by omega), show 610 + 63 * j + 1 < 4176 by omega]
    refine ⟨j, C, np, nw, _, by omega, ?_, rfl, c1, ?_, ⟨⟨by omega, c1.1.1, c1.1.2.1⟩, ⟨?_, ?_, ?_⟩, ?_⟩, ?_, ?_⟩
    · have : raE 60 (1 + 3) j = 7 + 9 * j := by unfold raE; rw [if_pos rfl]
      rw [this]
    · have : 1 + 6 + 9 * j = 7 + 9 * j := by omega
      rw [this] at c2; exact c2
    · simp (disch := omega) only [pI_nq, pI_eq]
    · simp (disch := omega) only [pI_nq, pI_eq]
      have := c3.1; rw [Nat.zero_add] at this; rw [this]; exact c1.1.2.2.1
    · simp (disch := omega) only [pI_nq, pI_eq]
      have := c3.2.1; rw [Nat.zero_add] at this; rw [this]; exact c1.1.2.2.2.1
    · rw [Nat.zero_add] at c3
      exact c3.ag (by rw [pI_ne (by omega), pI_ne (by omega), pI_ne (by omega)])
    · rw [pI_ne (by omega), pI_ne (by omega), pI_ne (by omega)]
    · rw [pI_ne (by omega), pI_ne (by omega), pI_ne (by omega)]
  · left
    rw [if_neg q, if_pos rfl, if_pos rfl]
    exact ⟨rfl, rfl⟩
/-- what is owed of a call that changes nothing that is told -/
abbrev QU {α : Type} (σ1 σ2 : Mem) : α → Mem → α → Mem → Prop := fun r1 s1 r2 s2 => r1 = r2 ∧ KC σ1 s1 ∧ KM σ2 s2
theorem kd7 : ∀ j, j < 2 → decide (kdC (7 + 9 * j) = (0, 0)) = true := by decide
/-- a chamber alone is asked for -/
theorem q_ch {α : Type} {σ1 σ2 : Mem} {N : Nat} (R : RR σ1 σ2) (v : Int32) {dd : α} {g1 : Nat → Mem → Option (α × Mem)} {g2 : Mem → Option (α × Mem)}
    (go : ∀ j C np nw s2, j < 2 → ChW C np nw → ChC σ1 (7 + 9 * j) C np nw → HcM s2 (610 + 63 * j) C np nw → KM σ2 s2 → H2 (g1 (7 + 9 * j) σ1) (g2 s2) (QU σ1 σ2)) :
    H2 (bd (fX9_chamberAt N 1 v σ1) (fun o s => mqK (0, 0) o (some (dd, s)) (fun r => g1 r s))) (bd (fX12_isChamber N v σ2) (fun r s => if r = 0 then some (dd, s) else g2 s)) (QU σ1 σ2) := by
  rcases ch2 (N := N) R v with ⟨e1, e2⟩ | ⟨j, C, np, nw, s2, hj, e1, e2, h1, h2, h3, h4⟩
  · rw [e1, e2, ho_bds, ho_bds, if_pos rfl]
    exact ⟨rfl, R.kc, KM.refl _⟩
  · rw [e1, e2, ho_bds, ho_bds, if_neg (by decide)]
    simp only [mqK, kd7 j hj, ho_gdt]
    exact go j C np nw s2 hj h1 h2 h3 h4
/-- a chamber and a motion are asked for -/
theorem q_as {α : Type} {σ1 σ2 : Mem} {N : Nat} (R : RR σ1 σ2) (v m : Int32) {dd : α} {g1 : Nat → Mem → Option (α × Mem)} {g2 : Mem → Option (α × Mem)}
    (go : ∀ j C np nw s2 mm, j < 2 → mm < 64 → m = Int32.ofNat mm → ChW C np nw → ChC σ1 (7 + 9 * j) C np nw → HcM s2 (610 + 63 * j) C np nw → KM σ2 s2 → H2 (g1 (7 + 9 * j) σ1) (g2 s2) (QU σ1 σ2)) :
    H2 (bd (fX11_asked N 0 v m σ1) (fun o s => mqK (0, 0) o (some (dd, s)) (fun r => g1 r s))) (bd (fX12_isChamber N v σ2) (fun r s => if r = 0 then some (dd, s) else bd (fX12_isMotion N m s) (fun r' s' => if r' = 0 then some (dd, s') else g2 s'))) (QU σ1 σ2) := by
  unfold fX11_asked
  rw [isMotion_C, ho_bds]
  by_cases hm : inb m 64 = true
  · obtain ⟨mm, m1, m2, m3⟩ := inb_nat hm
    rw [if_pos hm, if_neg (by decide)]
    rcases ch2 (N := N) R v with ⟨e1, e2⟩ | ⟨j, C, np, nw, s2, hj, e1, e2, h1, h2, h3, h4⟩
    · rw [Nat.zero_add, e1, e2, ho_bds, ho_bds, if_pos rfl]
      exact ⟨rfl, R.kc, KM.refl _⟩
    · rw [Nat.zero_add, e1, e2, ho_bds, ho_bds, if_neg (by decide), isMotion_M, ho_bds, if_pos hm, if_neg (by decide)]
      simp only [mqK, kd7 j hj, ho_gdt, ho_bds]
      exact go j C np nw s2 mm hj m1 m2 h1 h2 h3 h4
  · rw [if_neg hm, if_pos rfl, ho_bds]
    rcases ch2 (N := N) R v with ⟨e1, e2⟩ | ⟨j, C, np, nw, s2, hj, e1, e2, h1, h2, h3, h4⟩
    · rw [e2, ho_bds, if_pos rfl]
      exact ⟨rfl, R.kc, KM.refl _⟩
    · rw [e2, ho_bds, if_neg (by decide), isMotion_M, ho_bds, if_neg hm, if_pos rfl]
      exact ⟨rfl, R.kc, h4⟩
/-- a chamber, a motion and a piece are asked for; all is as told -/
theorem q_of {α : Type} {σ1 σ2 : Mem} {N : Nat} (hN : 10000 ≤ N) (R : RR σ1 σ2) (v m u : Int32) {dd : α} {g1 : Nat → Mem → Option (α × Mem)} {g2 : Mem → Option (α × Mem)}
    (go : ∀ j C np nw s2 mm pp, j < 2 → mm < 64 → m = Int32.ofNat mm → pp < np → u = Int32.ofNat pp → ChW C np nw → ChC σ1 (7 + 9 * j) C np nw → HaM s2 (610 + 63 * j) C (asT C) np nw → KM σ2 s2 → H2 (g1 (7 + 9 * j) σ1) (g2 s2) (QU σ1 σ2)) :
    H2 (bd (fX11_askedOf N 0 v m u σ1) (fun o s => mqK (0, 0) o (some (dd, s)) (fun r => g1 r s))) (bd (fX12_isAsked N v m u σ2) (fun r s => if r = 0 then some (dd, s) else g2 s)) (QU σ1 σ2) := by
  unfold fX11_askedOf fX11_askedOf_b22 fX11_asked fX12_isAsked
  rw [isMotion_C, ho_bds]
  by_cases hm : inb m 64 = true
  · obtain ⟨mm, m1, m2, m3⟩ := inb_nat hm
    rw [if_pos hm, if_neg (by decide)]
    rcases ch2 (N := N) R v with ⟨e1, e2⟩ | ⟨j, C, np, nw, s2, hj, e1, e2, h1, h2, h3, h4⟩
    · rw [Nat.zero_add, e1, e2, ho_bds, ho_bds, if_pos rfl]
      exact ⟨rfl, R.kc, KM.refl _⟩
    · rw [Nat.zero_add, e1, e2, ho_bds, ho_bds, if_neg (by decide), isMotion_M, ho_bds, if_pos hm, if_neg (by decide), isPiece_M (np := np) u h3.2.1.2.1 h3.1.2.1, ho_bds]
      simp only [mqK, kd7 j hj, ho_gdt, ho_bds]
      rw [has_eq (np := np) u (by rw [h2.1]; exact h1.1.2.2.1) h3.1.2.1, ho_bds]
      by_cases hp : inb u np = true
      · obtain ⟨pp, p1, p2, p3⟩ := inb_nat hp
        rw [if_pos hp, if_neg (by decide), if_neg (by decide), ho_bds]
        simp only [kd7 j hj, ho_gdt]
        apply h2_r
        rw [ho_bd]
        refine ho_mono (asTold_M hN h3) (fun _ s3 ⟨a1, a2, _⟩ => ?_)
        rw [ho_some, if_neg (by decide)]
        exact go j C np nw s3 mm pp hj m1 m2 p1 p2 h1 h2 a1 (h4.trans a2.km)
      · rw [if_neg hp, if_pos rfl, if_pos rfl, ho_bds, ho_bds, if_pos rfl]
        exact ⟨rfl, R.kc, h4⟩
  · rw [if_neg hm, if_pos rfl, ho_bds]
    simp only [mqK, ho_bds]
    rcases ch2 (N := N) R v with ⟨e1, e2⟩ | ⟨j, C, np, nw, s2, hj, e1, e2, h1, h2, h3, h4⟩
    · rw [e2, ho_bds, if_pos rfl, ho_bds, if_pos rfl]
      exact ⟨rfl, R.kc, KM.refl _⟩
    · rw [e2, ho_bds, if_neg (by decide), isMotion_M, ho_bds, if_neg hm, if_pos rfl, ho_bds, if_pos rfl]
      exact ⟨rfl, R.kc, h4⟩
