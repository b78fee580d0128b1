def rwN (k c v : Nat) : Nat := c / 8 ^ (k - 1 - v) % 8
def wxF (S : Vw) (f : Nat → Nat) : Nat → Vw
  | 0 => S
  | i + 1 => wxV (wxF S f i) (f i)
theorem wxF_shift {S : Vw} {f : Nat → Nat} : ∀ r, wxF (wxV S (f 0)) (fun v => f (v + 1)) r = wxF S f (r + 1)
  | 0 => rfl
  | r + 1 => by
    have ih := wxF_shift (S := S) (f := f) r
    show wxV (wxF (wxV S (f 0)) (fun v => f (v + 1)) r) (f (r + 1)) = wxV (wxF S f (r + 1)) (f (r + 1))
    rw [ih]
theorem wxF_congr {S : Vw} {f g : Nat → Nat} : ∀ r, (∀ v, v < r → f v = g v) → wxF S f r = wxF S g r
  | 0, _ => rfl
  | r + 1, h => by
    simp only [wxF]
    rw [wxF_congr r (fun v hv => h v (by omega)), h r (by omega)]
theorem rwN_s {r c v : Nat} (hv : v < r) : rwN r (c % 8 ^ r) v = rwN (r + 1) c (v + 1) := by
  unfold rwN
  rw [show r + 1 - 1 - (v + 1) = r - 1 - v by omega]
  obtain ⟨q, hq⟩ : ∃ q, r = (r - 1 - v) + 1 + q := ⟨v, by omega⟩
  have e8 : 8 ^ r = 8 ^ (r - 1 - v) * (8 * 8 ^ q) := by
    rw [← Nat.mul_assoc, ← Nat.pow_succ, ← Nat.pow_add]; congr 1
  generalize 8 ^ (r - 1 - v) = x at e8 ⊢
  rw [e8, Nat.mod_mul_right_div_self, Nat.mod_mul_right_mod]
theorem rwN_0 {r c : Nat} (hc : c < 8 ^ (r + 1)) : rwN (r + 1) c 0 = c / 8 ^ r := by
  unfold rwN
  rw [show r + 1 - 1 - 0 = r by omega, Nat.mod_eq_of_lt]
  rw [Nat.pow_succ] at hc
  exact Nat.div_lt_of_lt_mul hc
theorem goP_iff {np nw : Nat} {m wd : Int32} : ∀ r S lo c, c < 8 ^ r → (goP np nw m wd r S lo c ↔ ((0 < r → lo ≤ rwN r c 0) ∧ (∀ v, v < r → rwN r c v < np ∧ (v + 1 < r → rwN r c v ≤ rwN r c (v + 1))) ∧ (if carV (wxF S (rwN r c) r) np nw m = true then (1 : Int32) else 0) = wd))
  | 0, S, lo, c, _ => by
    simp only [goP, wxF]
    exact ⟨fun h => ⟨fun z => absurd z (Nat.lt_irrefl 0), fun v hv => absurd hv (Nat.not_lt_zero v), h⟩, fun h => h.2.2⟩
  | r + 1, S, lo, c, hc => by
    have p0 : 0 < 8 ^ r := Nat.pow_pos (by omega)
    have ih := goP_iff (np := np) (nw := nw) (m := m) (wd := wd) r (wxV S (c / 8 ^ r)) (c / 8 ^ r) (c % 8 ^ r) (Nat.mod_lt _ p0)
    simp only [goP]
    rw [ih, ← rwN_0 hc]
    have e : wxF (wxV S (rwN (r + 1) c 0)) (rwN r (c % 8 ^ r)) r = wxF S (rwN (r + 1) c) (r + 1) := by
      rw [wxF_congr r (g := fun v => rwN (r + 1) c (v + 1)) (fun v hv => rwN_s hv)]
      exact wxF_shift r
    rw [e]
    constructor
    · rintro ⟨h1, h2, h3, h4, h5⟩
      refine ⟨fun _ => h1, fun v hv => ?_, h5⟩
      by_cases v0 : v = 0
      · subst v0
        refine ⟨h2, fun hr => ?_⟩
        have := h3 (by omega)
        rw [rwN_s (show 0 < r by omega)] at this; exact this
      · obtain ⟨i, rfl⟩ : ∃ i, v = i + 1 := ⟨v - 1, by omega⟩
        have := h4 i (by omega)
        rw [rwN_s (show i < r by omega)] at this
        refine ⟨this.1, fun hr => ?_⟩
        have h6 := this.2 (by omega)
        rw [rwN_s (show i + 1 < r by omega)] at h6; exact h6
    · rintro ⟨h1, h2, h3⟩
      refine ⟨h1 (by omega), (h2 0 (by omega)).1, fun hr => ?_, fun v hv => ?_, h3⟩
      · rw [rwN_s hr]; exact (h2 0 (by omega)).2 (by omega)
      · rw [rwN_s hv]
        refine ⟨(h2 (v + 1) (by omega)).1, fun hr => ?_⟩
        rw [rwN_s hr]; exact (h2 (v + 1) (by omega)).2 (by omega)
