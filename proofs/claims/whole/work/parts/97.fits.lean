section FIT2
variable {σ1 σ2 : Mem} {N k : Nat} {lo hi : Nat → Nat}
theorem fp_iff {w j : Nat} (hj : j < 99) : fpN lo hi (99 * w + j) = true ↔ lo w ≤ j + 1 ∧ j + 1 ≤ hi w := by
  unfold fpN; rw [decide_eq_true_eq, show (99 * w + j) / 99 = w by omega, show (99 * w + j) % 99 = j by omega]
/-- one code of the reference, sure by limits -/
theorem sureL_s (J : LoJ N σ1 k σ2 lo hi) {w m j : Nat} (hw : w ≤ 2) (hj : j < 99) {v : Int32} : fX12_sureOf_l4 N (m + 1) 0 v (Int32.ofNat (99 * w + j)) σ2 = if fpN lo hi (99 * w + j) = true then (if v = -1 ∨ v = Int32.ofNat (j + 1) then fX12_sureOf_l4 N m 0 (Int32.ofNat (j + 1)) (Int32.ofNat (99 * w + (j + 1))) σ2 else some (-1, σ2)) else fX12_sureOf_l4 N m 0 v (Int32.ofNat (99 * w + (j + 1))) σ2 := by
  rw [fX12_sureOf_l4]
  unfold fX12_sureOf_b4 fX12_sureOf_b39 fX12_sureOf_b54 fX12_sureOf_b57
  have h99 := d99 (99 * w + j) (by omega)
  rw [if_neg (show ¬ (297 : Int32) ≤ Int32.ofNat (99 * w + j) by rw [z_le (by omega) (by omega)]; omega), J.2.2 _ (by omega), ho_bds, if_pos (show (0 : Int32) = 0 from rfl), h99.2, show (99 * w + j) % 99 = j by omega]
  simp only [ho_lte, nz_succ, ite10]
  rw [show 99 * w + j + 1 = 99 * w + (j + 1) by omega]
  by_cases z : fpN lo hi (99 * w + j) = true
  · rw [if_neg (fun x => x z), if_pos z]
    by_cases a : v = -1
    · rw [if_pos a, if_pos (Or.inl a)]
    · rw [if_neg a]
      by_cases b : v = Int32.ofNat (j + 1)
      · rw [if_pos b, if_pos (Or.inr b)]
      · rw [if_neg b, if_neg (by intro x; rcases x with x | x; exact a x; exact b x)]
  · rw [if_pos z, if_neg z]
theorem sureL_M (J : LoJ N σ1 k σ2 lo hi) {w : Nat} (hw : w ≤ 2) {Q : Int32 → Mem → Prop} {v : Int32} : ∀ (d m j : Nat), j + d = 99 → pcN (lo w) (hi w) j = 0 →
    (hi w + 1 - lo w = 0 → ∀ m', m' + 99 = m + j → Ho (fX12_sureOf_l4 N m' 0 v (Int32.ofNat (99 * w + 99)) σ2) Q) →
    (hi w + 1 - lo w = 1 → (v = -1 ∨ v = Int32.ofNat (lo w)) → ∀ m', m' + 99 = m + j → Ho (fX12_sureOf_l4 N m' 0 (Int32.ofNat (lo w)) (Int32.ofNat (99 * w + 99)) σ2) Q) →
    (0 < hi w + 1 - lo w → (1 < hi w + 1 - lo w ∨ ¬ (v = -1 ∨ v = Int32.ofNat (lo w))) → Q (-1) σ2) → 99 ≤ m + j → Ho (fX12_sureOf_l4 N m 0 v (Int32.ofNat (99 * w + j)) σ2) Q := by
  have b := J.1 w
  have own : ∀ (d m j : Nat) (v : Int32), j + d = 99 → hi w ≤ j → 99 ≤ m + j → (∀ m', m' + 99 = m + j → Ho (fX12_sureOf_l4 N m' 0 v (Int32.ofNat (99 * w + 99)) σ2) Q) → Ho (fX12_sureOf_l4 N m 0 v (Int32.ofNat (99 * w + j)) σ2) Q := by
    intro d
    induction d with
    | zero =>
      intro m j v hj hh hm go
      have : j = 99 := by omega
      subst this
      exact go m (by omega)
    | succ d ih =>
      intro m j v hj hh hm go
      obtain ⟨m, rfl⟩ : ∃ m', m = m' + 1 := ⟨m - 1, by omega⟩
      rw [sureL_s J hw (by omega), if_neg (by rw [fp_iff (by omega)]; omega)]
      exact ih m (j + 1) v (by omega) (by omega) (by omega) (fun m' hm' => go m' (by omega))
  intro d
  induction d with
  | zero =>
    intro m j hj hp g0 g1 g2 hm
    have : j = 99 := by omega
    subst this
    rw [pc_99 b.2.2] at hp
    exact g0 hp m (by omega)
  | succ d ih =>
    intro m j hj hp g0 g1 g2 hm
    obtain ⟨m, rfl⟩ : ∃ m', m = m' + 1 := ⟨m - 1, by omega⟩
    have ps := pc_s (hi := hi w) (j := j) b.1
    rw [sureL_s J hw (by omega)]
    by_cases z : fpN lo hi (99 * w + j) = true
    · have z' := (fp_iff (by omega)).mp z
      have ej : j + 1 = lo w := by
        unfold pcN at hp
        split at hp <;> omega
      rw [if_pos z, ej]
      by_cases c : v = -1 ∨ v = Int32.ofNat (lo w)
      · rw [if_pos c]
        by_cases one : hi w + 1 - lo w = 1
        · have := own d m (lo w) (Int32.ofNat (lo w)) (by omega) (by omega) (by omega) (fun m' hm' => g1 one c m' (by omega))
          exact this
        · have hd : 0 < d := by omega
          obtain ⟨m, rfl⟩ : ∃ m', m = m' + 1 := ⟨m - 1, by omega⟩
          rw [sureL_s J hw (by omega), if_pos ((fp_iff (by omega)).mpr (by omega)), if_neg]
          · exact g2 (by omega) (Or.inl (by omega))
          · intro x
            rcases x with x | x
            · exact z_m1 (by omega) x
            · rw [nz_inj (by omega) (by omega)] at x; omega
      · rw [if_neg c]; exact g2 (by omega) (Or.inr c)
    · rw [if_neg z]
      rw [if_neg (mt (fp_iff (by omega)).mpr z)] at ps
      exact ih m (j + 1) (by omega) (by omega) (fun h m' hm' => g0 h m' (by omega)) (fun h h' m' hm' => g1 h h' m' (by omega)) g2 (by omega)
theorem sureW_2 (hN : 10000 ≤ N) (J : LoJ N σ1 k σ2 lo hi) : H2 (fX4_sureWood N k σ1) (fX12_sureOf N 1 σ2) (fun r1 s1 r2 s2 => r1 = r2 ∧ s1 = σ1 ∧ s2 = σ2) := by
  unfold fX4_sureWood fX12_sureOf
  simp only [ho_lte]
  have main : ∀ (e w m1 m2 : Nat) (v : Int32), w + e = 3 → e < m1 → 99 * e < m2 → (v = -1 ∨ ∃ u, u < w ∧ v = Int32.ofNat u) → H2 (fX4_sureWood_l4 N k m1 v (Int32.ofNat w) σ1) (fX12_sureOf_l4 N m2 1 v (Int32.ofNat (99 * w)) σ2) (fun r1 s1 r2 s2 => r1 = r2 ∧ s1 = σ1 ∧ s2 = σ2) := by
    intro e
    induction e with
    | zero =>
      intro w m1 m2 v hw h1 h2 hv
      have : w = 3 := by omega
      subst this
      obtain ⟨m1, rfl⟩ : ∃ m', m1 = m' + 1 := ⟨m1 - 1, by omega⟩
      obtain ⟨m2, rfl⟩ : ∃ m', m2 = m' + 1 := ⟨m2 - 1, by omega⟩
      rw [fX4_sureWood_l4, fX12_sureOf_l4]
      unfold fX4_sureWood_b4 fX12_sureOf_b4
      rw [if_pos (by decide), if_pos (by decide)]
      exact ⟨rfl, rfl, rfl⟩
    | succ e ih =>
      intro w m1 m2 v hw h1 h2 hv
      obtain ⟨m1, rfl⟩ : ∃ m', m1 = m' + 1 := ⟨m1 - 1, by omega⟩
      have b := J.1 w
      rw [fX4_sureWood_l4]
      unfold fX4_sureWood_b4 fX4_sureWood_b26
      rw [if_neg (show ¬ (3 : Int32) ≤ Int32.ofNat w by rw [z_le (by omega) (by omega)]; omega), (J.2.1 w (by omega)).2.2, ho_bds]
      simp only [ho_lte, nz_succ]
      apply h2_rr
      refine sureW_M J (by omega) hv 99 m2 0 (by omega) (pc_0 b.1) (fun h m' hm' => ?_) (fun h h' m' hm' => ?_) (fun h h' => ?_) (by omega)
      · rw [if_pos (show Int32.ofNat (hi w + 1 - lo w) ≤ 0 by rw [h]; decide), show 99 * w + 99 = 99 * (w + 1) by omega]
        exact h2_swap.mp (ih (w + 1) m1 m' v (by omega) (by omega) (by omega) (by rcases hv with hv | ⟨u, hu, hv⟩; exact Or.inl hv; exact Or.inr ⟨u, by omega, hv⟩))
      · rw [if_neg (show ¬ Int32.ofNat (hi w + 1 - lo w) ≤ 0 by rw [z_ge (by omega) (by omega)]; omega), if_pos h', show 99 * w + 99 = 99 * (w + 1) by omega]
        exact h2_swap.mp (ih (w + 1) m1 m' _ (by omega) (by omega) (by omega) (Or.inr ⟨w, by omega, rfl⟩))
      · rw [if_neg (show ¬ Int32.ofNat (hi w + 1 - lo w) ≤ 0 by rw [z_ge (by omega) (by omega)]; omega), if_neg h']
        exact ⟨rfl, rfl, rfl⟩
  exact main 3 0 N N (-1) (by omega) (by omega) (by omega) (Or.inl rfl)
theorem sureL_2 (hN : 10000 ≤ N) (J : LoJ N σ1 k σ2 lo hi) : H2 (fX4_sureLimit N k σ1) (fX12_sureOf N 0 σ2) (fun r1 s1 r2 s2 => r1 = r2 ∧ s1 = σ1 ∧ s2 = σ2) := by
  unfold fX4_sureLimit fX12_sureOf
  simp only [ho_lte]
  have main : ∀ (e w m1 m2 : Nat) (v : Int32), w + e = 3 → e < m1 → 99 * e < m2 → H2 (fX4_sureLimit_l4 N k m1 v (Int32.ofNat w) σ1) (fX12_sureOf_l4 N m2 0 v (Int32.ofNat (99 * w)) σ2) (fun r1 s1 r2 s2 => r1 = r2 ∧ s1 = σ1 ∧ s2 = σ2) := by
    intro e
    induction e with
    | zero =>
      intro w m1 m2 v hw h1 h2
      have : w = 3 := by omega
      subst this
      obtain ⟨m1, rfl⟩ : ∃ m', m1 = m' + 1 := ⟨m1 - 1, by omega⟩
      obtain ⟨m2, rfl⟩ : ∃ m', m2 = m' + 1 := ⟨m2 - 1, by omega⟩
      rw [fX4_sureLimit_l4, fX12_sureOf_l4]
      unfold fX4_sureLimit_b4 fX12_sureOf_b4
      rw [if_pos (by decide), if_pos (by decide)]
      exact ⟨rfl, rfl, rfl⟩
    | succ e ih =>
      intro w m1 m2 v hw h1 h2
      obtain ⟨m1, rfl⟩ : ∃ m', m1 = m' + 1 := ⟨m1 - 1, by omega⟩
      have b := J.1 w
      rw [fX4_sureLimit_l4]
      unfold fX4_sureLimit_b4 fX4_sureLimit_b44 fX4_sureLimit_b47
      rw [if_neg (show ¬ (3 : Int32) ≤ Int32.ofNat w by rw [z_le (by omega) (by omega)]; omega), (J.2.1 w (by omega)).2.2, ho_bds, (J.2.1 w (by omega)).1]
      simp only [ho_lte, nz_succ, ho_bds]
      apply h2_rr
      refine sureL_M J (by omega) 99 m2 0 (by omega) (pc_0 b.1) (fun h m' hm' => ?_) (fun h h' m' hm' => ?_) (fun h h' => ?_) (by omega)
      · rw [if_pos (show Int32.ofNat (hi w + 1 - lo w) ≤ 0 by rw [h]; decide), show 99 * w + 99 = 99 * (w + 1) by omega]
        exact h2_swap.mp (ih (w + 1) m1 m' v (by omega) (by omega) (by omega))
      · rw [h, if_neg (show ¬ Int32.ofNat 1 ≤ 0 by decide), if_neg (show ¬ (1 : Int32) < Int32.ofNat 1 by decide), show 99 * w + 99 = 99 * (w + 1) by omega]
        have nx := h2_swap.mp (ih (w + 1) m1 m' (Int32.ofNat (lo w)) (by omega) (by omega) (by omega))
        by_cases a : v = -1
        · rw [if_pos a]; exact nx
        · rw [if_neg a, if_pos (h'.resolve_left a)]; exact nx
      · rw [if_neg (show ¬ Int32.ofNat (hi w + 1 - lo w) ≤ 0 by rw [z_ge (by omega) (by omega)]; omega)]
        by_cases one : 1 < hi w + 1 - lo w
        · rw [if_pos (show (1 : Int32) < Int32.ofNat (hi w + 1 - lo w) by rw [z_lt (by omega) (by omega)]; exact one)]
          exact ⟨rfl, rfl, rfl⟩
        · have nn := h'.resolve_left one
          rw [if_neg (show ¬ (1 : Int32) < Int32.ofNat (hi w + 1 - lo w) by rw [z_lt (by omega) (by omega)]; exact one), if_neg (fun x => nn (Or.inl x)), if_neg (fun x => nn (Or.inr x))]
          exact ⟨rfl, rfl, rfl⟩
  exact main 3 0 N N (-1) (by omega) (by omega) (by omega)
/-- the k-th, wood by wood -/
theorem fk_M (J : LoJ N σ1 k σ2 lo hi) {w : Nat} (hw : w ≤ 2) {kk c0 : Nat} (hk : kk < 2147483638) (hc0 : c0 ≤ 300) {Q : Int32 → Mem → Prop} : ∀ (d m j : Nat), j + d = 99 → c0 + pcN (lo w) (hi w) j ≤ kk →
    (c0 + (hi w + 1 - lo w) ≤ kk → ∀ m', m' + 99 = m + j → Ho (fX12_fits_l59 N m' (Int32.ofNat (kk + 10)) (Int32.ofNat (c0 + (hi w + 1 - lo w))) (Int32.ofNat (99 * w + 99)) σ2) Q) →
    (kk < c0 + (hi w + 1 - lo w) → Q (Int32.ofNat (99 * w + lo w - 1 + (kk - c0))) σ2) → 99 ≤ m + j → Ho (fX12_fits_l59 N m (Int32.ofNat (kk + 10)) (Int32.ofNat (c0 + pcN (lo w) (hi w) j)) (Int32.ofNat (99 * w + j)) σ2) Q := by
  have b := J.1 w
  intro d
  induction d with
  | zero =>
    intro m j hj hp g0 g1 hm
    have : j = 99 := by omega
    subst this
    rw [pc_99 b.2.2] at hp ⊢
    exact g0 hp m (by omega)
  | succ d ih =>
    intro m j hj hp g0 g1 hm
    obtain ⟨m, rfl⟩ : ∃ m', m = m' + 1 := ⟨m - 1, by omega⟩
    have ps := pc_s (hi := hi w) (j := j) b.1
    have pb : pcN (lo w) (hi w) j ≤ 100 := by unfold pcN; split <;> omega
    rw [fX12_fits_l59]
    unfold fX12_fits_b59 fX12_fits_b93
    rw [if_neg (show ¬ (297 : Int32) ≤ Int32.ofNat (99 * w + j) by rw [z_le (by omega) (by omega)]; omega), J.2.2 _ (by omega), ho_bds, nz_subL (show 10 ≤ kk + 10 by omega) (by omega), show kk + 10 - 10 = kk by omega]
    simp only [ho_lte, nz_succ, ite10]
    rw [show 99 * w + j + 1 = 99 * w + (j + 1) by omega]
    by_cases z : fpN lo hi (99 * w + j) = true
    · have z' := (fp_iff (by omega)).mp z
      have ej : pcN (lo w) (hi w) j = j + 1 - lo w := by unfold pcN; split <;> omega
      rw [if_neg (fun x => x z)]
      rw [if_pos z'] at ps
      by_cases f : c0 + pcN (lo w) (hi w) j = kk
      · rw [if_pos (show Int32.ofNat (c0 + pcN (lo w) (hi w) j) = Int32.ofNat kk by rw [f])]
        have := g1 (by omega)
        rw [show 99 * w + lo w - 1 + (kk - c0) = 99 * w + j by omega] at this
        exact this
      · rw [if_neg (show ¬ Int32.ofNat (c0 + pcN (lo w) (hi w) j) = Int32.ofNat kk by rw [nz_inj (by omega) (by omega)]; exact f), show c0 + pcN (lo w) (hi w) j + 1 = c0 + pcN (lo w) (hi w) (j + 1) by omega]
        exact ih m (j + 1) (by omega) (by omega) (fun h m' hm' => g0 h m' (by omega)) g1 (by omega)
    · rw [if_pos z]
      rw [if_neg (mt (fp_iff (by omega)).mpr z)] at ps
      rw [show c0 + pcN (lo w) (hi w) j = c0 + pcN (lo w) (hi w) (j + 1) by omega]
      exact ih m (j + 1) (by omega) (by omega) (fun h m' hm' => g0 h m' (by omega)) g1 (by omega)
theorem fk_2 (hN : 10000 ≤ N) (J : LoJ N σ1 k σ2 lo hi) {kk : Nat} (hk : kk < 2147483638) : H2 (fX4_fittingAt N k (Int32.ofNat kk) σ1) (fX12_fits_l59 N N (Int32.ofNat (kk + 10)) 0 0 σ2) (fun r1 s1 r2 s2 => r1 = r2 ∧ s1 = σ1 ∧ s2 = σ2) := by
  unfold fX4_fittingAt
  simp only [ho_lte]
  have main : ∀ (e w m1 m2 c0 : Nat), w + e = 3 → e < m1 → 99 * e < m2 → c0 ≤ kk → c0 ≤ 100 * w → H2 (fX4_fittingAt_l4 N k m1 (Int32.ofNat (kk - c0)) (Int32.ofNat w) σ1) (fX12_fits_l59 N m2 (Int32.ofNat (kk + 10)) (Int32.ofNat c0) (Int32.ofNat (99 * w)) σ2) (fun r1 s1 r2 s2 => r1 = r2 ∧ s1 = σ1 ∧ s2 = σ2) := by
    intro e
    induction e with
    | zero =>
      intro w m1 m2 c0 hw h1 h2 hc hb
      have : w = 3 := by omega
      subst this
      obtain ⟨m1, rfl⟩ : ∃ m', m1 = m' + 1 := ⟨m1 - 1, by omega⟩
      obtain ⟨m2, rfl⟩ : ∃ m', m2 = m' + 1 := ⟨m2 - 1, by omega⟩
      rw [fX4_fittingAt_l4, fX12_fits_l59]
      unfold fX4_fittingAt_b4 fX12_fits_b59
      rw [if_pos (by decide), if_pos (by decide)]
      exact ⟨rfl, rfl, rfl⟩
    | succ e ih =>
      intro w m1 m2 c0 hw h1 h2 hc hb
      obtain ⟨m1, rfl⟩ : ∃ m', m1 = m' + 1 := ⟨m1 - 1, by omega⟩
      have b := J.1 w
      rw [fX4_fittingAt_l4]
      unfold fX4_fittingAt_b4
      rw [if_neg (show ¬ (3 : Int32) ≤ Int32.ofNat w by rw [z_le (by omega) (by omega)]; omega), (J.2.1 w (by omega)).2.2, ho_bds, (J.2.1 w (by omega)).1]
      simp only [ho_lte, nz_succ, ho_bds]
      apply h2_rr
      have := fk_M J (w := w) (by omega) hk (c0 := c0) (by omega) (Q := fun r2 s2 => Ho (if Int32.ofNat (hi w + 1 - lo w) ≤ Int32.ofNat (kk - c0) then fX4_fittingAt_l4 N k m1 (Int32.ofNat (kk - c0) - Int32.ofNat (hi w + 1 - lo w)) (Int32.ofNat (w + 1)) σ1 else some (99 * Int32.ofNat w + Int32.ofNat (lo w) - 1 + Int32.ofNat (kk - c0), σ1)) (fun r1 s1 => r1 = r2 ∧ s1 = σ1 ∧ s2 = σ2)) 99 m2 0 (by omega) (by rw [pc_0 b.1]; omega) (fun h m' hm' => ?_) (fun h => ?_) (by omega)
      · rw [pc_0 b.1, Nat.add_zero, Nat.add_zero] at this
        exact this
      · rw [if_pos (show Int32.ofNat (hi w + 1 - lo w) ≤ Int32.ofNat (kk - c0) by rw [nz_le (by omega) (by omega)]; omega), show 99 * w + 99 = 99 * (w + 1) by omega]
        have es : Int32.ofNat (kk - c0) - Int32.ofNat (hi w + 1 - lo w) = Int32.ofNat (kk - (c0 + (hi w + 1 - lo w))) := by
          obtain ⟨d, hd⟩ : ∃ d, kk - c0 = d + (hi w + 1 - lo w) := ⟨kk - c0 - (hi w + 1 - lo w), by omega⟩
          rw [hd, ← nz_add, Int32.add_sub_cancel, show kk - (c0 + (hi w + 1 - lo w)) = d by omega]
        rw [es]
        exact h2_swap.mp (ih (w + 1) m1 m' (c0 + (hi w + 1 - lo w)) (by omega) (by omega) (by omega) (by omega) (by omega))
      · rw [if_neg (show ¬ Int32.ofNat (hi w + 1 - lo w) ≤ Int32.ofNat (kk - c0) by rw [nz_le (by omega) (by omega)]; omega)]
        refine ⟨?_, rfl, rfl⟩
        rw [show (99 : Int32) * Int32.ofNat w = Int32.ofNat (99 * w) from nz_mul, nz_add, nz_subL (show 1 ≤ 99 * w + lo w by omega) (by omega), nz_add]
  exact main 3 0 N N 0 (by omega) (by omega) (by omega) (by omega) (by omega)
end FIT2
theorem t_fits {σ1 σ2 : Mem} {N : Nat} (hN : 10000 ≤ N) (R : RR σ1 σ2) (v1 v2 : Int32) : H2 (fX11_fits N 0 v1 v2 σ1) (fX12_fits N v1 v2 σ2) (QU σ1 σ2) := by
  unfold fX11_fits fX12_fits fX12_fits_b50
  refine q_lo R v1 (fun j s2 n ft fa fb fm hj K G h33 => ?_)
  obtain ⟨lo, hi, J⟩ := G.lo hN h33 (by omega)
  have E : ∀ x : Int32, H2 (some (x, σ1)) (some (x, s2)) (QU σ1 σ2) := fun x => ⟨rfl, R.kc, K⟩
  have cv : ∀ {κ1 κ2 : Option (Int32 × Mem)}, H2 κ1 κ2 (fun r1 s1 r2 s2' => r1 = r2 ∧ s1 = σ1 ∧ s2' = s2) → H2 κ1 κ2 (QU σ1 σ2) := fun h => h2_mono h (fun r1 s1 r2 s2' ⟨a, b, c⟩ => ⟨a, by rw [b]; exact R.kc, by rw [c]; exact K⟩)
  simp only [bd_ret, isIn_Z, ho_bds, ite10, Int32.reduceToInt, ho_lte]
  by_cases c0 : v2 < 0
  · have t0 : v2.toInt < 0 := i32_lt.mp c0
    have nz : ∀ m : Nat, m < 4 → ¬ v2 = Int32.ofNat m := fun m hm e => by
      have := congrArg Int32.toInt e
      rw [nz_toInt (by omega)] at this; omega
    rw [if_neg (show ¬ v2 = 0 from nz 0 (by omega)), if_neg (show ¬ v2 = 1 from nz 1 (by omega)), if_neg (show ¬ v2 = 2 from nz 2 (by omega)), if_pos (show v2 < 10 by rw [i32_lt]; show v2.toInt < 10; omega), if_pos c0]
    exact E _
  · have t0 : 0 ≤ v2.toInt := by rw [i32_lt] at c0; have : (0 : Int32).toInt = 0 := rfl; omega
    obtain ⟨x, _, x1, rfl⟩ := z_of (v := v2) (a := 0) (b := 2147483647) ⟨t0, by have := Int32.toInt_lt v2; omega⟩
    rw [if_neg c0, nz_toInt (by omega)]
    by_cases s0 : x = 0
    · subst s0
      rw [if_pos (show Int32.ofNat 0 = 0 from rfl), if_pos (show ¬ (3 ≤ ((0 : Nat) : Int) ∧ ((0 : Nat) : Int) ≤ 9) by omega), if_pos (show Int32.ofNat 0 = 0 from rfl), fit_C hN J, fit_M hN J]
      exact E _
    · rw [if_neg (show ¬ Int32.ofNat x = 0 by rw [z_eq (by omega) (by omega)]; exact s0)]
      by_cases s1 : x = 1
      · subst s1
        rw [if_pos (show Int32.ofNat 1 = 1 from rfl), if_pos (show ¬ (3 ≤ ((1 : Nat) : Int) ∧ ((1 : Nat) : Int) ≤ 9) by omega), if_neg (show ¬ Int32.ofNat 1 = 0 by decide), if_neg (show ¬ (3 : Int32) ≤ Int32.ofNat 1 by decide), if_pos (show Int32.ofNat 1 = 1 from rfl)]
        exact cv (sureW_2 hN J)
      · rw [if_neg (show ¬ Int32.ofNat x = 1 by rw [z_eq (by omega) (by omega)]; exact s1)]
        by_cases s2' : x = 2
        · subst s2'
          rw [if_pos (show Int32.ofNat 2 = 2 from rfl), if_pos (show ¬ (3 ≤ ((2 : Nat) : Int) ∧ ((2 : Nat) : Int) ≤ 9) by omega), if_neg (show ¬ Int32.ofNat 2 = 0 by decide), if_neg (show ¬ (3 : Int32) ≤ Int32.ofNat 2 by decide), if_neg (show ¬ Int32.ofNat 2 = 1 by decide)]
          exact cv (sureL_2 hN J)
        · rw [if_neg (show ¬ Int32.ofNat x = 2 by rw [z_eq (by omega) (by omega)]; exact s2')]
          by_cases s9 : x < 10
          · rw [if_pos (show Int32.ofNat x < 10 by rw [z_gt (by omega) (by omega)]; exact s9), if_neg (show ¬ ¬ (3 ≤ (x : Int) ∧ (x : Int) ≤ 9) by omega)]
            exact E _
          · rw [if_neg (show ¬ Int32.ofNat x < 10 by rw [z_gt (by omega) (by omega)]; exact s9), if_pos (show ¬ (3 ≤ (x : Int) ∧ (x : Int) ≤ 9) by omega), if_neg (show ¬ Int32.ofNat x = 0 by rw [z_eq (by omega) (by omega)]; exact s0), if_pos (show (3 : Int32) ≤ Int32.ofNat x by rw [z_le (by omega) (by omega)]; omega), nz_subL (show 10 ≤ x by omega) (by omega)]
            have := fk_2 hN J (kk := x - 10) (by omega)
            rw [show x - 10 + 10 = x by omega] at this
            exact cv this
