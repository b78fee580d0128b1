theorem MdL.m1 {q : Nat → Bool} {a k x : Nat} {v : Int32} {T : Nat → Prop} (h : MdL q a k T x v) (hk : k < 64) : v = -1 ↔ (¬ NwP q a k T x ∧ ¬ reP q a k x) := by
  rcases h with ⟨h1, h2⟩ | ⟨h1, h2⟩
  · constructor
    · intro h; rw [h2] at h; exact absurd h (z_m1 (by omega))
    · intro h; exact absurd h1 h.1
  · rw [h2.m1 (by omega)]
    exact ⟨fun h => ⟨h1, h⟩, fun h => h.2⟩
theorem MdL.fr {q : Nat → Bool} {a k x : Nat} {v : Int32} {T : Nat → Prop} (h : MdL q a k T x v) (hk : k < 64) : v = Int32.ofNat k ↔ frP q a k x := by
  rcases h with ⟨h1, h2⟩ | ⟨h1, h2⟩
  · constructor
    · intro h; rw [h2, nz_inj (by omega) (by omega)] at h; omega
    · intro h; exact absurd h.1 h1.1
  · exact h2.fr (by omega)
theorem MdL.hit {q : Nat → Bool} {a k y : Nat} {v : Int32} {T : Nat → Prop} (T' : Nat → Prop) (h : MdL q a k T y v) (hk : k < 64) (ht : T' y) : (v = -1 → q y = true → MdL q a k T' y (Int32.ofNat (k + 1))) ∧ (v = -1 → ¬ q y = true → MdL q a k T' y v) ∧ (¬ v = -1 → MdL q a k T' y v) := by
  refine ⟨fun h1 h2 => ?_, fun h1 h2 => ?_, fun h1 => ?_⟩
  · exact Or.inl ⟨⟨((h.m1 hk).mp h1).2, h2, ht⟩, rfl⟩
  · rcases h with ⟨h3, h4⟩ | ⟨h3, h4⟩
    · exact absurd h3.2.1 h2
    · exact Or.inr ⟨fun n => h2 n.2.1, h4⟩
  · rcases h with ⟨h3, h4⟩ | ⟨h3, h4⟩
    · exact Or.inl ⟨⟨h3.1, h3.2.1, ht⟩, h4⟩
    · exact Or.inr ⟨fun n => h1 ((h4.m1 (by omega)).mpr n.1), h4⟩
section
variable {N a : Nat} {q : Nat → Bool} {s : Mem}
theorem oneStep_C (hN : 10000 ≤ N) {k : Nat} {v0 v2 : Int64} (h0 : ∀ m, m < 64 → (bS v0 m = true ↔ reP q a k m)) (h2 : ∀ m, m < 64 → bS v2 m = q m) : Ho (fX10_oneStepFurther N v0 v2 s) (fun v t => t = s ∧ ∀ m, m < 64 → (bS v m = true ↔ reP q a (k + 1) m)) := by
  unfold fX10_oneStepFurther
  simp only [ho_lt]
  refine ho_loop (F := fun n (b : Int64 × Int32) t => fX10_oneStepFurther_l6 N n v0 v2 b.1 b.2 t) (fun i b t => b.2 = Int32.ofNat i ∧ t = s ∧ ∀ j, j < 64 → (bS b.1 j = true ↔ (reP q a k j ∨ ∃ m, m < i ∧ reP q a k m ∧ ∃ c, c < 6 ∧ j = m ^^^ 2 ^ c))) 64 ?_ ?_ 64 N 0 (v0, 0) s (by omega) (by omega) ⟨rfl, rfl, fun j hj => by rw [h0 j hj]; exact ⟨Or.inl, fun h => h.elim id (fun ⟨m, hm, _⟩ => absurd hm (Nat.not_lt_zero m))⟩⟩
  · rintro n i ⟨v4, u⟩ t hi ⟨e1, e2, e3⟩ rec
    dsimp only at e1 e3; subst e1 e2
    simp only [fX10_oneStepFurther_l6, fX10_oneStepFurther_b6, ho_lte]
    rw [if_neg (show ¬ (64 : Int32) ≤ Int32.ofNat i by rw [z_le (by omega) (by omega)]; omega)]
    refine ho_loop (F := fun n' (b : Int64 × Int32) t => fX10_oneStepFurther_l16 N (fX10_oneStepFurther_l6 N n) n' v0 v2 b.1 (Int32.ofNat i) b.2 t) (fun c b t' => b.2 = Int32.ofNat c ∧ t' = t ∧ ∀ j, j < 64 → (bS b.1 j = true ↔ (reP q a k j ∨ (∃ m, m < i ∧ reP q a k m ∧ ∃ c, c < 6 ∧ j = m ^^^ 2 ^ c) ∨ (reP q a k i ∧ ∃ c', c' < c ∧ j = i ^^^ 2 ^ c')))) 6 ?_ ?_ 6 N 0 (v4, 0) t (by omega) (by omega) ⟨rfl, rfl, fun j hj => by
      rw [e3 j hj]
      constructor
      · rintro (h | h)
        · exact Or.inl h
        · exact Or.inr (Or.inl h)
      · rintro (h | h | ⟨_, c, hc, _⟩)
        · exact Or.inl h
        · exact Or.inr h
        · exact absurd hc (Nat.not_lt_zero c)⟩
    · rintro n' c ⟨v4, u⟩ t' hc ⟨g1, g2, g3⟩ rec'
      dsimp only at g1 g3; subst g1 g2
      simp only [fX10_oneStepFurther_l16, fX10_oneStepFurther_b16, fX10_oneStepFurther_b52, ho_lte, nz_succ]
      have p6 : 2 ^ c < 64 := Nat.pow_lt_pow_right (n := 6) (by omega) hc
      rw [if_neg (show ¬ (6 : Int32) ≤ Int32.ofNat c by rw [z_le (by omega) (by omega)]; omega), isIn_S hi, ho_bds, shl8 c (by omega), xor64 i hi _ p6]
      simp only [ite10]
      by_cases r : bS v0 i = true
      · rw [if_neg (show ¬ ¬ bS v0 i = true from fun h => h r)]
        refine rec' (_, _) _ ⟨rfl, rfl, fun j hj => ?_⟩
        rw [bS_or j (xor6 hi hc), Bool.or_eq_true, g3 j hj, decide_eq_true_eq]
        have rk := (h0 i hi).mp r
        constructor
        · rintro ((h | h | ⟨h1, c', h2, h3⟩) | h)
          · exact Or.inl h
          · exact Or.inr (Or.inl h)
          · exact Or.inr (Or.inr ⟨h1, c', by omega, h3⟩)
          · exact Or.inr (Or.inr ⟨rk, c, by omega, h.symm⟩)
        · rintro (h | h | ⟨h1, c', h2, h3⟩)
          · exact Or.inl (Or.inl h)
          · exact Or.inl (Or.inr (Or.inl h))
          · by_cases z : c' = c
            · subst z; exact Or.inr h3.symm
            · exact Or.inl (Or.inr (Or.inr ⟨h1, c', by omega, h3⟩))
      · rw [if_pos r]
        have rk : ¬ reP q a k i := fun h => r ((h0 i hi).mpr h)
        refine rec (_, _) _ ⟨rfl, rfl, fun j hj => ?_⟩
        rw [g3 j hj]
        constructor
        · rintro (h | ⟨m, h1, h2, h3⟩ | ⟨h1, _⟩)
          · exact Or.inl h
          · exact Or.inr ⟨m, by omega, h2, h3⟩
          · exact absurd h1 rk
        · rintro (h | ⟨m, h1, h2, h3⟩)
          · exact Or.inl h
          · by_cases z : m = i
            · subst z; exact absurd h2 rk
            · exact Or.inr (Or.inl ⟨m, by omega, h2, h3⟩)
    · rintro n' ⟨v4, u⟩ t' ⟨g1, g2, g3⟩
      dsimp only at g1 g3; subst g1 g2
      simp only [fX10_oneStepFurther_l16, fX10_oneStepFurther_b16, fX10_oneStepFurther_b52, ho_lte, nz_succ]
      rw [if_pos (by decide)]
      refine rec (_, _) _ ⟨rfl, rfl, fun j hj => ?_⟩
      rw [g3 j hj]
      constructor
      · rintro (h | ⟨m, h1, h2, h3⟩ | ⟨h1, h2⟩)
        · exact Or.inl h
        · exact Or.inr ⟨m, by omega, h2, h3⟩
        · exact Or.inr ⟨i, by omega, h1, h2⟩
      · rintro (h | ⟨m, h1, h2, h3⟩)
        · exact Or.inl h
        · by_cases z : m = i
          · subst z; exact Or.inr (Or.inr ⟨h2, h3⟩)
          · exact Or.inr (Or.inl ⟨m, by omega, h2, h3⟩)
  · rintro n ⟨v4, u⟩ t ⟨e1, e2, e3⟩
    dsimp only at e1 e3; subst e1 e2
    simp only [fX10_oneStepFurther_l6, fX10_oneStepFurther_b6]
    rw [if_pos (by decide)]
    refine ⟨rfl, fun j hj => ?_⟩
    rw [bS_and, Bool.and_eq_true, e3 j hj, h2 j hj]
    constructor
    · rintro ⟨h | ⟨m, h1, h3, c, hc, h4⟩, h'⟩
      · exact ⟨h', Or.inl h⟩
      · exact ⟨h', Or.inr ⟨c, hc, by rw [h4, xorxor]; exact h3⟩⟩
    · rintro ⟨h', h | ⟨c, hc, h3⟩⟩
      · exact ⟨Or.inl h, h'⟩
      · exact ⟨Or.inr ⟨j ^^^ 2 ^ c, xor6 hj hc, h3, c, hc, xorxor.symm⟩, h'⟩
theorem bS_one {m : Nat} (i : Nat) (hm : m < 64) : bS ((1 : Int64) <<< ((Int32.ofNat m).toInt64 &&& 63)) i = decide (m = i) := by
  have := bS_or (v := 0) i hm
  rw [Int64.zero_or, bS_zero, Bool.false_or] at this
  exact this
theorem steps_C (hN : 10000 ≤ N) {z : Nat} {v0 : Int64} (ha : a < 64) (hz : z < 64) (h0 : ∀ m, m < 64 → bS v0 m = q m) : Ho (fX10_stepsWithin N v0 (Int32.ofNat a) (Int32.ofNat z) s) (fun r t => t = s ∧ ((∃ k, k < 64 ∧ r = Int32.ofNat k ∧ reP q a k z ∧ ∀ i, i < k → ¬ reP q a i z) ∨ (r = -1 ∧ ∀ k, k < 64 → ¬ reP q a k z))) := by
  unfold fX10_stepsWithin
  simp only [ho_lt]
  refine ho_loop (F := fun n (b : Int64 × Int32) t => fX10_stepsWithin_l10 N n v0 (Int32.ofNat z) b.1 b.2 t) (fun k b t => b.2 = Int32.ofNat k ∧ t = s ∧ (∀ m, m < 64 → (bS b.1 m = true ↔ reP q a k m)) ∧ ∀ i, i < k → ¬ reP q a i z) 64 ?_ ?_ 64 N 0 (_, 0) s (by omega) (by omega) ⟨rfl, rfl, fun m hm => ?_, fun i hi => absurd hi (Nat.not_lt_zero i)⟩
  · rintro n k ⟨v, u⟩ t hk ⟨e1, e2, e3, e4⟩ rec
    dsimp only at e1 e3; subst e1 e2
    simp only [fX10_stepsWithin_l10, fX10_stepsWithin_b10]
    rw [if_neg (show ¬ (64 : Int32) ≤ Int32.ofNat k by rw [z_le (by omega) (by omega)]; omega), isIn_S hz, ho_bds]
    simp only [ite10]
    by_cases r : bS v z = true
    · rw [if_neg (show ¬ ¬ bS v z = true from fun h => h r)]
      exact ⟨rfl, Or.inl ⟨k, hk, rfl, (e3 z hz).mp r, e4⟩⟩
    · rw [if_pos r, ho_bd]
      refine ho_mono (oneStep_C hN e3 h0) (fun v' t' ⟨g1, g2⟩ => ?_)
      subst g1
      simp only [ho_lte, nz_succ]
      refine rec (_, _) _ ⟨rfl, rfl, g2, fun i hi => ?_⟩
      by_cases c : i = k
      · subst c; exact fun h => r ((e3 z hz).mpr h)
      · exact e4 i (by omega)
  · rintro n ⟨v, u⟩ t ⟨e1, e2, e3, e4⟩
    dsimp only at e1 e3; subst e1 e2
    simp only [fX10_stepsWithin_l10, fX10_stepsWithin_b10]
    rw [if_pos (by decide)]
    exact ⟨rfl, Or.inr ⟨rfl, e4⟩⟩
  · rw [bS_and, bS_one m ha, h0 m hm, Bool.and_eq_true, decide_eq_true_eq]
    exact ⟨fun h => ⟨h.1.symm, h.2⟩, fun h => ⟨h.1.symm, h.2⟩⟩
end
