/-! A walk from motion to motion. -/
def reP (q : Nat → Bool) (a : Nat) : Nat → Nat → Prop
  | 0, m => m = a ∧ q m = true
  | k + 1, m => q m = true ∧ (reP q a k m ∨ ∃ b, b < 6 ∧ reP q a k (m ^^^ 2 ^ b))
theorem reP_q {q : Nat → Bool} {a : Nat} : ∀ k m, reP q a k m → q m = true
  | 0, _, h => h.2
  | _ + 1, _, h => h.1
theorem reP_s {q : Nat → Bool} {a k m : Nat} (h : reP q a k m) : reP q a (k + 1) m := ⟨reP_q k m h, Or.inl h⟩
theorem reP_mono {q : Nat → Bool} {a m k : Nat} : ∀ j, k ≤ j → reP q a k m → reP q a j m
  | 0, h, r => by rw [show k = 0 by omega] at r; exact r
  | j + 1, h, r => by
    by_cases c : k = j + 1
    · rw [← c]; exact r
    · exact reP_s (reP_mono j (by omega) r)
theorem xor6 {m b : Nat} (hm : m < 64) (hb : b < 6) : m ^^^ 2 ^ b < 64 := by
  have h1 : 2 ^ b < 2 ^ 6 := Nat.pow_lt_pow_right (by omega) hb
  exact Nat.xor_lt_two_pow (n := 6) hm h1
theorem xorxor {m b : Nat} : (m ^^^ 2 ^ b) ^^^ 2 ^ b = m := by rw [Nat.xor_assoc, Nat.xor_self, Nat.xor_zero]
theorem reP_st {q : Nat → Bool} {a k : Nat} (h : ∀ m, m < 64 → reP q a (k + 1) m → reP q a k m) : ∀ j, k ≤ j → ∀ m, m < 64 → reP q a j m → reP q a k m
  | 0, hj, m, hm, r => by rw [show k = 0 by omega]; exact r
  | j + 1, hj, m, hm, r => by
    by_cases c : k = j + 1
    · rw [c]; exact r
    · have ih := reP_st h j (by omega)
      apply h m hm
      refine ⟨r.1, ?_⟩
      rcases r.2 with x | ⟨b, hb, x⟩
      · exact Or.inl (ih m hm x)
      · exact Or.inr ⟨b, hb, ih _ (xor6 hm hb) x⟩
noncomputable def cnP (p : Nat → Prop) : Nat → Nat
  | 0 => 0
  | n + 1 => cnP p n + (@ite Nat (p n) (Classical.propDecidable (p n)) 1 0)
theorem cnP_le {p r : Nat → Prop} : ∀ n, (∀ m, m < n → p m → r m) → cnP p n ≤ cnP r n
  | 0, _ => Nat.le_refl _
  | n + 1, h => by
    have ih := cnP_le (p := p) (r := r) n (fun m hm => h m (by omega))
    simp only [cnP]
    by_cases c : p n
    · rw [if_pos c, if_pos (h n (by omega) c)]; omega
    · rw [if_neg c]; omega
theorem cnP_lt {p r : Nat → Prop} {k : Nat} : ∀ n, (∀ m, m < n → p m → r m) → k < n → r k → ¬ p k → cnP p n < cnP r n
  | 0, _, hk, _, _ => absurd hk (Nat.not_lt_zero k)
  | n + 1, h, hk, rk, pk => by
    simp only [cnP]
    by_cases c : k = n
    · have ih := cnP_le (p := p) (r := r) n (fun m hm => h m (by omega))
      rw [← c, if_neg pk, if_pos rk]; rw [← c] at ih; omega
    · have ih := cnP_lt (p := p) (r := r) n (fun m hm => h m (by omega)) (by omega) rk pk
      by_cases d : p n
      · rw [if_pos d, if_pos (h n (by omega) d)]; omega
      · rw [if_neg d]; omega
theorem cnP_n {p : Nat → Prop} : ∀ n, cnP p n ≤ n
  | 0 => Nat.le_refl _
  | n + 1 => by
    have := cnP_n (p := p) n
    simp only [cnP]; split <;> omega
theorem cnP_0 {p : Nat → Prop} {k : Nat} : ∀ n, k < n → p k → 0 < cnP p n
  | 0, hk, _ => absurd hk (Nat.not_lt_zero k)
  | n + 1, hk, pk => by
    simp only [cnP]
    by_cases c : k = n
    · rw [← c, if_pos pk]; omega
    · have := cnP_0 (p := p) n (by omega) pk
      omega
/-- what is reached at all is reached within 63 steps -/
theorem reP_63 {q : Nat → Bool} {a m : Nat} (hm : m < 64) (h : reP q a 64 m) : reP q a 63 m := by
  apply Classical.byContradiction
  intro no
  have grow : ∀ k, k ≤ 63 → ∃ x, x < 64 ∧ reP q a (k + 1) x ∧ ¬ reP q a k x := by
    intro k hk
    apply Classical.byContradiction
    intro non
    have st : ∀ x, x < 64 → reP q a (k + 1) x → reP q a k x := fun x hx r => Classical.byContradiction (fun n => non ⟨x, hx, r, n⟩)
    exact no (reP_mono 63 hk (reP_st st 64 (by omega) m hm h))
  have cnt : ∀ k, k ≤ 63 → k + cnP (reP q a 0) 64 ≤ cnP (reP q a k) 64 := by
    intro k
    induction k with
    | zero => intro _; omega
    | succ k ih =>
      intro hk
      obtain ⟨x, hx, r1, r2⟩ := grow k (by omega)
      have := cnP_lt (p := reP q a k) (r := reP q a (k + 1)) 64 (fun m _ r => reP_s r) hx r1 r2
      have := ih (by omega)
      omega
  have c63 := cnt 63 (Nat.le_refl _)
  have lt : cnP (reP q a 63) 64 < cnP (reP q a 64) 64 := cnP_lt 64 (fun m _ r => reP_s r) hm h no
  have le := cnP_n (p := reP q a 64) 64
  obtain ⟨x, hx, r1, r2⟩ := grow 0 (by omega)
  have r0 : ∃ y, y < 64 ∧ reP q a 0 y := by
    rcases r1.2 with y | ⟨b, hb, y⟩
    · exact ⟨x, hx, y⟩
    · exact ⟨_, xor6 hx hb, y⟩
  obtain ⟨y, hy, ry⟩ := r0
  have := cnP_0 (p := reP q a 0) 64 hy ry
  omega
/-- a label: how many steps there are, once k are looked at -/
def IsL (q : Nat → Bool) (a k x : Nat) (v : Int32) : Prop := (¬ reP q a k x ∧ v = -1) ∨ ∃ j, j ≤ k ∧ v = Int32.ofNat j ∧ reP q a j x ∧ ∀ i, i < j → ¬ reP q a i x
theorem IsL.m1 {q : Nat → Bool} {a k x : Nat} {v : Int32} (h : IsL q a k x v) (hk : k ≤ 64) : v = -1 ↔ ¬ reP q a k x := by
  rcases h with ⟨h1, h2⟩ | ⟨j, hj, h2, h3, h4⟩
  · exact ⟨fun _ => h1, fun _ => h2⟩
  · constructor
    · intro h; rw [h2] at h; exact absurd h (z_m1 (by omega))
    · intro h; exact absurd (reP_mono k hj h3) h
theorem IsL.fr {q : Nat → Bool} {a k x : Nat} {v : Int32} (h : IsL q a k x v) (hk : k ≤ 64) : v = Int32.ofNat k ↔ (reP q a k x ∧ ∀ i, i < k → ¬ reP q a i x) := by
  rcases h with ⟨h1, h2⟩ | ⟨j, hj, h2, h3, h4⟩
  · constructor
    · intro h; rw [h2] at h; exact absurd h.symm (z_m1 (by omega))
    · intro h; exact absurd h.1 h1
  · constructor
    · intro h
      rw [h2, nz_inj (by omega) (by omega)] at h
      subst h; exact ⟨h3, h4⟩
    · intro h
      rw [h2]
      have : ¬ j < k := fun c => h.2 j c h3
      rw [show j = k by omega]
/-- newly met from below i at step k -/
def NwP (q : Nat → Bool) (a k : Nat) (T : Nat → Prop) (x : Nat) : Prop := ¬ reP q a k x ∧ q x = true ∧ T x
def frP (q : Nat → Bool) (a k m : Nat) : Prop := reP q a k m ∧ ∀ i, i < k → ¬ reP q a i m
def tcP (q : Nat → Bool) (a k i x : Nat) : Prop := ∃ m, m < i ∧ frP q a k m ∧ ∃ b, b < 6 ∧ x = m ^^^ 2 ^ b
def MdL (q : Nat → Bool) (a k : Nat) (T : Nat → Prop) (x : Nat) (v : Int32) : Prop := (NwP q a k T x ∧ v = Int32.ofNat (k + 1)) ∨ (¬ NwP q a k T x ∧ IsL q a k x v)
theorem MdL.end_ {q : Nat → Bool} {a k x : Nat} {v : Int32} (hx : x < 64) (h : MdL q a k (tcP q a k 64) x v) : IsL q a (k + 1) x v := by
  rcases h with ⟨⟨h1, h2, m, hm, hf, b, hb, hxm⟩, h4⟩ | ⟨h1, h2⟩
  · refine Or.inr ⟨k + 1, Nat.le_refl _, h4, ⟨h2, Or.inr ⟨b, hb, ?_⟩⟩, fun i hi r => h1 (reP_mono k (by omega) r)⟩
    rw [hxm, xorxor]; exact hf.1
  · rcases h2 with ⟨h3, h4⟩ | ⟨j, hj, h3, h4, h5⟩
    · refine Or.inl ⟨?_, h4⟩
      intro r
      apply h1
      refine ⟨h3, r.1, ?_⟩
      rcases r.2 with y | ⟨b, hb, y⟩
      · exact absurd y h3
      · refine ⟨x ^^^ 2 ^ b, xor6 hx hb, ⟨y, fun i hi z => h3 ?_⟩, b, hb, xorxor.symm⟩
        exact reP_mono k (show i + 1 ≤ k by omega) ⟨r.1, Or.inr ⟨b, hb, z⟩⟩
    · exact Or.inr ⟨j, by omega, h3, h4, h5⟩
theorem MdL.sub {q : Nat → Bool} {a k x : Nat} {v : Int32} {T T' : Nat → Prop} (h : MdL q a k T x v) (e : T x ↔ T' x) : MdL q a k T' x v := by
  unfold MdL NwP at *
  rw [← e]; exact h
