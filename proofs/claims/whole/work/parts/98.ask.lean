section ASK
variable {σ1 σ2 : Mem} {N k : Nat} {lo hi : Nat → Nat}
def lwN (load d a w : Nat) : Nat := load + d * w + 3 * a
def hmN (load d a : Nat) (hi : Nat → Nat) (w : Nat) : Nat := if hi w < lwN load d a w then hi w else lwN load d a w
theorem soundAt_C (hN : 10000 ≤ N) (J : LoJ N σ1 k σ2 lo hi) {load d a : Nat} (h1 : load ≤ 60) (h2 : d ≤ 9) (h3 : a ≤ 6) : fX4_soundingAt N k (Int32.ofNat load) (Int32.ofNat d) (Int32.ofNat a) σ1 = some (Int32.ofNat (cntB (fpN lo (hmN load d a hi)) 297), σ1) := by
  obtain ⟨M, hM⟩ : ∃ M, N = M + 4 := ⟨N - 4, by omega⟩
  have hb : ∀ w, hmN load d a hi w ≤ 99 := fun w => by have := (J.1 w).2.2; unfold hmN; split <;> omega
  rw [cnt_297 (fun w => (J.1 w).1) hb]
  unfold fX4_soundingAt
  simp only [ho_lte]
  have st : ∀ m (v : Int32) (w : Nat), w ≤ 2 → fX4_soundingAt_l6 N k (m + 1) (Int32.ofNat load) (Int32.ofNat d) (Int32.ofNat a) v (Int32.ofNat w) σ1 = fX4_soundingAt_l6 N k m (Int32.ofNat load) (Int32.ofNat d) (Int32.ofNat a) (v + Int32.ofNat (hmN load d a hi w + 1 - lo w)) (Int32.ofNat (w + 1)) σ1 := by
    intro m v w hw
    have b := J.1 w
    have hw2 : d * w ≤ 9 * 2 := Nat.mul_le_mul h2 hw
    have lb : load + d * w + 3 * a ≤ 200 := by omega
    rw [fX4_soundingAt_l6]
    unfold fX4_soundingAt_b6
    rw [if_neg (show ¬ (3 : Int32) ≤ Int32.ofNat w by rw [z_le (by omega) (by omega)]; omega), loud_L, ho_bds]
    simp only [ho_lte, nz_succ, ho_bds, (J.2.1 w hw).2.1, (J.2.1 w hw).1]
    rw [mn_nat (by omega) (by omega)]
    have e : (if hi w < load + d * w + 3 * a then hi w else load + d * w + 3 * a) = hmN load d a hi w := rfl
    have hb' := hb w
    rw [e, cnt_sub (by omega) (by omega)]
  have e : fX4_soundingAt_l6 N k N (Int32.ofNat load) (Int32.ofNat d) (Int32.ofNat a) 0 0 σ1 = fX4_soundingAt_l6 N k (M + 1 + 1 + 1 + 1) (Int32.ofNat load) (Int32.ofNat d) (Int32.ofNat a) (Int32.ofNat 0) (Int32.ofNat 0) σ1 := by rw [show M + 1 + 1 + 1 + 1 = N by omega]; rfl
  rw [e, st _ _ 0 (by omega), st _ _ _ (by omega), st _ _ _ (by omega), fX4_soundingAt_l6]
  unfold fX4_soundingAt_b6
  rw [if_pos (by decide), nz_add, nz_add, nz_add, Nat.zero_add]
theorem cnt_le2 {lo hi hi' : Nat → Nat} (h : ∀ w, hi' w ≤ hi w) : ∀ n, cntB (fpN lo hi') n ≤ cntB (fpN lo hi) n
  | 0 => Nat.le_refl _
  | n + 1 => by
    have ih := cnt_le2 (lo := lo) h n
    have hw := h (n / 99)
    show cntB (fpN lo hi') n + (if fpN lo hi' n = true then 1 else 0) ≤ cntB (fpN lo hi) n + (if fpN lo hi n = true then 1 else 0)
    by_cases a : fpN lo hi' n = true
    · have : fpN lo hi n = true := by
        unfold fpN at a ⊢
        rw [decide_eq_true_eq] at a ⊢
        omega
      rw [if_pos a, if_pos this]; omega
    · rw [if_neg a]; omega
/-- one question of the reference -/
theorem ask_in (hN : 10000 ≤ N) (J : LoJ N σ1 k σ2 lo hi) {load d a : Nat} (h1 : load ≤ 60) (h2 : d ≤ 9) (h3 : a ≤ 6) {rc : Int32 → Int32 → Int32 → Int32 → Int32 → Mem → Option (Int32 × Mem)} {all : Nat} (hall : all = cntB (fpN lo hi) 297) {v4 v5 : Int32} : fX12_ask_l68 N rc N (Int32.ofNat load) (Int32.ofNat all) v4 v5 (Int32.ofNat (10 * d + a)) 0 0 σ2 = fX12_ask_b138 N rc (Int32.ofNat load) (Int32.ofNat all) v4 v5 (Int32.ofNat (10 * d + a)) (mxI (Int32.ofNat (cntB (fpN lo (hmN load d a hi)) 297)) (Int32.ofNat all - Int32.ofNat (cntB (fpN lo (hmN load d a hi)) 297))) σ2 := by
  have main : ∀ (e i m : Nat), i + e = 297 → e < m → fX12_ask_l68 N rc m (Int32.ofNat load) (Int32.ofNat all) v4 v5 (Int32.ofNat (10 * d + a)) (Int32.ofNat (cntB (fpN lo (hmN load d a hi)) i)) (Int32.ofNat i) σ2 = fX12_ask_b138 N rc (Int32.ofNat load) (Int32.ofNat all) v4 v5 (Int32.ofNat (10 * d + a)) (mxI (Int32.ofNat (cntB (fpN lo (hmN load d a hi)) 297)) (Int32.ofNat all - Int32.ofNat (cntB (fpN lo (hmN load d a hi)) 297))) σ2 := by
    intro e
    induction e with
    | zero =>
      intro i m hi' hm
      have : i = 297 := by omega
      subst this
      obtain ⟨m, rfl⟩ : ∃ m', m = m' + 1 := ⟨m - 1, by omega⟩
      rw [fX12_ask_l68]
      unfold fX12_ask_b68
      rw [if_pos (by decide)]
      generalize Int32.ofNat (cntB (fpN lo (hmN load d a hi)) 297) = x
      generalize Int32.ofNat all - x = y
      unfold mxI
      by_cases z : x ≤ y
      · rw [if_pos z]
        by_cases w : x < y
        · rw [if_pos w]
        · rw [if_neg w, show x = y by
            rw [i32_le] at z; rw [i32_lt] at w; rw [i32_eq]; omega]
      · rw [if_neg z, if_neg (by rw [i32_le] at z; rw [i32_lt]; omega)]
    | succ e ih =>
      intro i m hi' hm
      obtain ⟨m, rfl⟩ : ∃ m', m = m' + 1 := ⟨m - 1, by omega⟩
      have nx := ih (i + 1) m (by omega) (by omega)
      have hw : i / 99 ≤ 2 := by omega
      rw [fX12_ask_l68]
      unfold fX12_ask_b68 fX12_ask_b110 fX12_ask_b111
      rw [if_neg (show ¬ (297 : Int32) ≤ Int32.ofNat i by rw [z_le (by omega) (by omega)]; omega), div10 _ (by omega), rm10 _ (by omega), show (10 * d + a) / 10 = d by omega, show (10 * d + a) % 10 = a by omega, sounds_L (by omega) (by omega) (by omega) (by omega), ho_bds, J.2.2 i (by omega)]
      simp only [ho_bds, ho_lte, nz_succ, ite10]
      have ef : fpN lo (hmN load d a hi) i = (decide (i % 99 + 1 ≤ load + d * (i / 99) + 3 * a) && fpN lo hi i) := by
        unfold fpN
        rw [Bool.eq_iff_iff, Bool.and_eq_true, decide_eq_true_eq, decide_eq_true_eq, decide_eq_true_eq]
        unfold hmN lwN
        split <;> omega
      have ec : cntB (fpN lo (hmN load d a hi)) (i + 1) = cntB (fpN lo (hmN load d a hi)) i + (if fpN lo (hmN load d a hi) i = true then 1 else 0) := rfl
      rw [ec] at nx
      by_cases p : i % 99 + 1 ≤ load + d * (i / 99) + 3 * a
      · rw [if_neg (fun x => x p)]
        by_cases z : fpN lo hi i = true
        · rw [if_neg (fun x => x z)]
          rw [ef, decide_eq_true p, z, if_pos (show (true && true) = true from rfl)] at nx
          exact nx
        · rw [if_pos z]
          rw [ef, decide_eq_true p, Bool.eq_false_iff.mpr z, if_neg (by decide), Nat.add_zero] at nx
          rw [Int32.add_zero]; exact nx
      · rw [if_pos p]
        rw [ef, decide_eq_false p, Bool.false_and, if_neg (by decide), Nat.add_zero] at nx
        rw [Int32.add_zero]; exact nx
  exact main 297 0 N (by omega) (by omega)
theorem ask_2 (hN : 10000 ≤ N) (J : LoJ N σ1 k σ2 lo hi) {load : Nat} (h1 : load ≤ 60) {all : Nat} (hall : all = cntB (fpN lo hi) 297) {Q : Int32 → Mem → Int32 → Mem → Prop} (fin : ∀ r, Q r σ1 r σ2) : H2 (fX4_bestQuestion_l21 N k N (Int32.ofNat load) (Int32.ofNat all) (-1) (Int32.ofNat all + 1) 0 σ1) (fX12_ask_l42 N N (Int32.ofNat load) (Int32.ofNat all) (-1) 999 0 σ2) Q := by
  have hal : all ≤ 297 := by rw [hall]; exact cntB_le _ _
  -- the last three of ten are passed over
  have skip : ∀ (d a m : Nat) (v4 v5 : Int32), d ≤ 9 → 7 ≤ a → a ≤ 9 → fX12_ask_l42 N (m + 1) (Int32.ofNat load) (Int32.ofNat all) v4 v5 (Int32.ofNat (10 * d + a)) σ2 = fX12_ask_l42 N m (Int32.ofNat load) (Int32.ofNat all) v4 v5 (Int32.ofNat (10 * d + a + 1)) σ2 := by
    intro d a m v4 v5 hd ha1 ha2
    rw [fX12_ask_l42]
    unfold fX12_ask_b42 fX12_ask_b158
    rw [if_neg (show ¬ (100 : Int32) ≤ Int32.ofNat (10 * d + a) by rw [z_le (by omega) (by omega)]; omega), rm10 _ (by omega), show (10 * d + a) % 10 = a by omega, if_neg (show ¬ Int32.ofNat a ≤ 6 by rw [z_ge (by omega) (by omega)]; omega)]
    simp only [ho_lte, nz_succ]
  -- seven questions beside each other
  have inner : ∀ (d : Nat), d ≤ 9 → ∀ (rc : Int32 → Int32 → Int32 → Int32 → Int32 → Mem → Option (Int32 × Mem)) (e a m1 m2 : Nat) (v3 v4 v5 : Int32), a + e = 7 → e < m1 → e ≤ m2 → (v4 = v5 ∨ (v4 = Int32.ofNat (all + 1) ∧ v5 = 999)) → (∀ m2' v3' v4' v5', m2' + e = m2 → (v4' = v5' ∨ (v4' = Int32.ofNat (all + 1) ∧ v5' = 999)) → H2 (rc (Int32.ofNat load) (Int32.ofNat all) v3' v4' (Int32.ofNat (d + 1)) σ1) (fX12_ask_l42 N m2' (Int32.ofNat load) (Int32.ofNat all) v3' v5' (Int32.ofNat (10 * d + 7)) σ2) Q) → H2 (fX4_bestQuestion_l31 N k rc m1 (Int32.ofNat load) (Int32.ofNat all) v3 v4 (Int32.ofNat d) (Int32.ofNat a) σ1) (fX12_ask_l42 N m2 (Int32.ofNat load) (Int32.ofNat all) v3 v5 (Int32.ofNat (10 * d + a)) σ2) Q := by
    intro d hd rc e
    induction e with
    | zero =>
      intro a m1 m2 v3 v4 v5 ha h1' h2' hv go
      have : a = 7 := by omega
      subst this
      obtain ⟨m1, rfl⟩ : ∃ m', m1 = m' + 1 := ⟨m1 - 1, by omega⟩
      rw [fX4_bestQuestion_l31]
      unfold fX4_bestQuestion_b31
      rw [if_pos (by decide)]
      simp only [ho_lte, nz_succ]
      exact go m2 v3 v4 v5 rfl hv
    | succ e ih =>
      intro a m1 m2 v3 v4 v5 ha h1' h2' hv go
      obtain ⟨m1, rfl⟩ : ∃ m', m1 = m' + 1 := ⟨m1 - 1, by omega⟩
      obtain ⟨m2, rfl⟩ : ∃ m', m2 = m' + 1 := ⟨m2 - 1, by omega⟩
      rw [fX4_bestQuestion_l31, fX12_ask_l42]
      unfold fX4_bestQuestion_b31 fX12_ask_b42 fX4_bestQuestion_b80
      rw [if_neg (show ¬ (6 : Int32) < Int32.ofNat a by rw [z_lt (by omega) (by omega)]; omega), if_neg (show ¬ (100 : Int32) ≤ Int32.ofNat (10 * d + a) by rw [z_le (by omega) (by omega)]; omega), rm10 _ (by omega), show (10 * d + a) % 10 = a by omega, if_pos (show Int32.ofNat a ≤ 6 by rw [z_ge (by omega) (by omega)]; omega), soundAt_C hN J h1 hd (by omega), ho_bds]
      simp only [ho_lte, nz_succ]
      rw [ask_in hN J h1 hd (by omega) hall]
      unfold fX12_ask_b138 fX12_ask_b158
      simp only [ho_lte, nz_succ]
      rw [show (10 : Int32) * Int32.ofNat d = Int32.ofNat (10 * d) from nz_mul, nz_add]
      have sl : cntB (fpN lo (hmN load d a hi)) 297 ≤ all := by
        rw [hall]
        exact cnt_le2 (fun w => by unfold hmN; split <;> omega) 297
      generalize cntB (fpN lo (hmN load d a hi)) 297 = S at sl
      have es : Int32.ofNat all - Int32.ofNat S = Int32.ofNat (all - S) := by
        obtain ⟨x, hx⟩ : ∃ x, all = x + S := ⟨all - S, by omega⟩
        rw [hx, ← nz_add, Int32.add_sub_cancel, Nat.add_sub_cancel]
      rw [es, mx_nat (by omega) (by omega)]
      have ml : (if S < all - S then all - S else S) ≤ all := by split <;> omega
      generalize (if S < all - S then all - S else S) = V at ml
      have go' : ∀ m2' v3' v4' v5', m2' + e = m2 → (v4' = v5' ∨ (v4' = Int32.ofNat (all + 1) ∧ v5' = 999)) → H2 (rc (Int32.ofNat load) (Int32.ofNat all) v3' v4' (Int32.ofNat (d + 1)) σ1) (fX12_ask_l42 N m2' (Int32.ofNat load) (Int32.ofNat all) v3' v5' (Int32.ofNat (10 * d + 7)) σ2) Q := fun m2' v3' v4' v5' h h' => go m2' v3' v4' v5' (by omega) h'
      by_cases z : v4 ≤ Int32.ofNat V
      · have nv : ¬ Int32.ofNat V < v5 := by
          rcases hv with hv | ⟨hv, _⟩
          · rw [← hv, Int32.not_lt]; exact z
          · rw [hv, nz_le (by omega) (by omega)] at z; omega
        rw [if_pos z, if_neg nv]
        exact ih (a + 1) m1 m2 v3 v4 v5 (by omega) (by omega) (by omega) hv go'
      · have nv : Int32.ofNat V < v5 := by
          rcases hv with hv | ⟨_, hv⟩
          · rw [← hv, ← Int32.not_le]; exact z
          · rw [hv, z_gt (by omega) (by omega)]; omega
        rw [if_neg z, if_pos nv]
        exact ih (a + 1) m1 m2 _ _ _ (by omega) (by omega) (by omega) (Or.inl rfl) go'
  have outer : ∀ (e d m1 m2 : Nat) (v3 v4 v5 : Int32), d + e = 10 → e < m1 → 10 * e < m2 → (v4 = v5 ∨ (v4 = Int32.ofNat (all + 1) ∧ v5 = 999)) → H2 (fX4_bestQuestion_l21 N k m1 (Int32.ofNat load) (Int32.ofNat all) v3 v4 (Int32.ofNat d) σ1) (fX12_ask_l42 N m2 (Int32.ofNat load) (Int32.ofNat all) v3 v5 (Int32.ofNat (10 * d)) σ2) Q := by
    intro e
    induction e with
    | zero =>
      intro d m1 m2 v3 v4 v5 hd h1' h2' hv
      have : d = 10 := by omega
      subst this
      obtain ⟨m1, rfl⟩ : ∃ m', m1 = m' + 1 := ⟨m1 - 1, by omega⟩
      obtain ⟨m2, rfl⟩ : ∃ m', m2 = m' + 1 := ⟨m2 - 1, by omega⟩
      rw [fX4_bestQuestion_l21, fX12_ask_l42]
      unfold fX4_bestQuestion_b21 fX12_ask_b42
      rw [if_pos (by decide), if_pos (by decide)]
      exact fin v3
    | succ e ih =>
      intro d m1 m2 v3 v4 v5 hd h1' h2' hv
      obtain ⟨m1, rfl⟩ : ∃ m', m1 = m' + 1 := ⟨m1 - 1, by omega⟩
      rw [fX4_bestQuestion_l21]
      unfold fX4_bestQuestion_b21
      rw [if_neg (show ¬ (9 : Int32) < Int32.ofNat d by rw [z_lt (by omega) (by omega)]; omega)]
      simp only [ho_lte]
      refine inner d (by omega) _ 7 0 N m2 v3 v4 v5 (by omega) (by omega) (by omega) hv (fun m2' v3' v4' v5' hm hv' => ?_)
      obtain ⟨m3, hm3⟩ : ∃ m3, m2' = m3 + 1 + 1 + 1 := ⟨m2' - 3, by omega⟩
      rw [hm3, skip d 7 _ _ _ (by omega) (by omega) (by omega), show 10 * d + 7 + 1 = 10 * d + 8 by omega, skip d 8 _ _ _ (by omega) (by omega) (by omega), show 10 * d + 8 + 1 = 10 * d + 9 by omega, skip d 9 _ _ _ (by omega) (by omega) (by omega), show 10 * d + 9 + 1 = 10 * (d + 1) by omega]
      exact ih (d + 1) m1 m3 v3' v4' v5' (by omega) (by omega) (by omega) hv'
  exact outer 10 0 N N (-1) _ 999 (by omega) (by omega) (by omega) (Or.inr ⟨nz_succ, rfl⟩)
end ASK
section QL2
variable {σ1 σ2 : Mem} {N : Nat}
theorem t_ask (hN : 10000 ≤ N) (R : RR σ1 σ2) (v1 v2 : Int32) : H2 (fX11_ask N 0 v1 v2 σ1) (fX12_ask N v1 v2 σ2) (QU σ1 σ2) := by
  unfold fX11_ask fX12_ask
  refine q_lo R v1 (fun j s2 n ft fa fb fm hj K G h33 => ?_)
  obtain ⟨lo, hi, J⟩ := G.lo hN h33 (by omega)
  have E : ∀ x : Int32, H2 (some (x, σ1)) (some (x, s2)) (QU σ1 σ2) := fun x => ⟨rfl, R.kc, K⟩
  rw [isIn_Z, ho_bds]
  simp only [ite10, Int32.reduceToInt]
  by_cases c0 : 0 ≤ v2.toInt ∧ v2.toInt ≤ 60
  · obtain ⟨x, _, x1, rfl⟩ := z_of (v := v2) (a := 0) (b := 60) c0
    rw [if_neg (z_neg (by omega)), if_pos (show Int32.ofNat x ≤ 60 by rw [z_ge (by omega) (by omega)]; exact x1), if_neg (show ¬ ¬ (0 ≤ (Int32.ofNat x).toInt ∧ (Int32.ofNat x).toInt ≤ 60) from fun z => z c0), bd_ret]
    unfold fX4_bestQuestion
    rw [fit_C hN J, fit_M hN J, ho_bds, ho_bds]
    simp only [ho_lte]
    by_cases z : Int32.ofNat (cntB (fpN lo hi) 297) = 0
    · rw [if_pos z, if_pos z]; exact E _
    · rw [if_neg z, if_neg z]
      exact ask_2 hN J x1 rfl (fun r => ⟨rfl, R.kc, K⟩)
  · rw [if_pos c0]
    by_cases c1 : v2 < 0
    · rw [if_pos c1]; exact E _
    · rw [if_neg c1, if_neg]
      · exact E _
      · rw [i32_lt] at c1; rw [i32_le]
        have : (0 : Int32).toInt = 0 := rfl
        have : (60 : Int32).toInt = 60 := rfl
        omega
theorem t_bears (hN : 10000 ≤ N) (R : RR σ1 σ2) (v1 v2 v3 : Int32) : H2 (fX11_bears N 0 v1 v2 v3 σ1) (fX12_bears N v1 v2 v3 σ2) (QU σ1 σ2) := by
  unfold fX11_bears fX12_bears
  refine q_lo R v1 (fun j s2 n ft fa fb fm hj K G h33 => ?_)
  obtain ⟨lo, hi, J⟩ := G.lo hN h33 (by omega)
  have E : ∀ x : Int32, H2 (some (x, σ1)) (some (x, s2)) (QU σ1 σ2) := fun x => ⟨rfl, R.kc, K⟩
  rw [isIn_Z, ho_bds]
  simp only [ite10, Int32.reduceToInt]
  by_cases c0 : 0 ≤ v2.toInt ∧ v2.toInt ≤ 2
  · obtain ⟨w, _, hw, rfl⟩ := z_of (v := v2) (a := 0) (b := 2) c0
    have b := J.1 w
    rw [if_neg (z_neg (by omega)), if_neg (show ¬ (3 : Int32) ≤ Int32.ofNat w by rw [z_le (by omega) (by omega)]; omega), if_neg (show ¬ ¬ (0 ≤ (Int32.ofNat w).toInt ∧ (Int32.ofNat w).toInt ≤ 2) from fun z => z c0), (J.2.1 w hw).2.2, ho_bds, bd_ret, bd_ret, (J.2.1 w hw).1, (J.2.1 w hw).2.1]
    simp only [ho_lte]
    -- the reference, limit by limit
    have M : fX12_bears_l25 N N (Int32.ofNat w) v3 (-1) 1 s2 = some (if hi w + 1 - lo w = 0 then -1 else if v3 = 0 then Int32.ofNat (lo w) else Int32.ofNat (hi w), s2) := by
      have main : ∀ (e j m : Nat), j + e = 99 → e < m → fX12_bears_l25 N m (Int32.ofNat w) v3 (if pcN (lo w) (hi w) j = 0 then -1 else if v3 = 0 then Int32.ofNat (lo w) else Int32.ofNat (if hi w < j then hi w else j)) (Int32.ofNat (j + 1)) s2 = some (if hi w + 1 - lo w = 0 then -1 else if v3 = 0 then Int32.ofNat (lo w) else Int32.ofNat (hi w), s2) := by
        intro e
        induction e with
        | zero =>
          intro j m hj hm
          have : j = 99 := by omega
          subst this
          obtain ⟨m, rfl⟩ : ∃ m', m = m' + 1 := ⟨m - 1, by omega⟩
          rw [fX12_bears_l25]
          unfold fX12_bears_b25
          rw [if_pos (by decide), pc_99 b.2.2, show (if hi w < 99 then hi w else 99) = hi w by split <;> omega]
        | succ e ih =>
          intro j m hj hm
          obtain ⟨m, rfl⟩ : ∃ m', m = m' + 1 := ⟨m - 1, by omega⟩
          have nx := ih (j + 1) m (by omega) (by omega)
          have ps := pc_s (hi := hi w) (j := j) b.1
          rw [fX12_bears_l25]
          unfold fX12_bears_b25 fX12_bears_b42 fX12_bears_b62
          rw [if_neg (show ¬ (100 : Int32) ≤ Int32.ofNat (j + 1) by rw [z_le (by omega) (by omega)]; omega), show (99 : Int32) * Int32.ofNat w = Int32.ofNat (99 * w) from nz_mul, nz_add, nz_subL (show 1 ≤ 99 * w + (j + 1) by omega) (by omega), show 99 * w + (j + 1) - 1 = 99 * w + j by omega, J.2.2 _ (by omega), ho_bds]
          simp only [ho_lte, nz_succ, ite10]
          have ef := fp_iff (lo := lo) (hi := hi) (w := w) (j := j) (by omega)
          by_cases p0 : pcN (lo w) (hi w) j = 0
          · rw [if_pos p0, if_pos rfl]
            by_cases z : fpN lo hi (99 * w + j) = true
            · have z' := ef.mp z
              rw [if_neg (fun x => x z)]
              rw [if_pos z'] at ps
              have el : lo w = j + 1 := by unfold pcN at p0; split at p0 <;> omega
              rw [if_neg (show ¬ pcN (lo w) (hi w) (j + 1) = 0 by omega)] at nx
              by_cases q : v3 = 0
              · rw [if_pos q] at nx; rw [← nx, el]
              · rw [if_neg q, show (if hi w < j + 1 then hi w else j + 1) = j + 1 by split <;> omega] at nx
                exact nx
            · rw [if_pos z]
              rw [if_neg (mt ef.mpr z)] at ps
              rw [if_pos (show pcN (lo w) (hi w) (j + 1) = 0 by omega)] at nx
              exact nx
          · have p1 : ¬ pcN (lo w) (hi w) (j + 1) = 0 := by
              have : pcN (lo w) (hi w) j ≤ pcN (lo w) (hi w) (j + 1) := by rw [ps]; omega
              omega
            have jl : lo w ≤ j := by unfold pcN at p0; split at p0 <;> omega
            rw [if_neg p1] at nx
            rw [if_neg p0]
            by_cases q : v3 = 0
            · rw [if_pos q] at nx
              rw [if_pos q, if_neg (show ¬ Int32.ofNat (lo w) = -1 from z_m1 (by omega)), if_pos q]
              exact nx
            · rw [if_neg q] at nx
              have hjb : (if hi w < j then hi w else j) ≤ 99 := by split <;> omega
              rw [if_neg q, if_neg (show ¬ Int32.ofNat (if hi w < j then hi w else j) = -1 from z_m1 (by omega)), if_neg q]
              by_cases z : fpN lo hi (99 * w + j) = true
              · have z' := ef.mp z
                rw [if_neg (fun x => x z)]
                rw [show (if hi w < j + 1 then hi w else j + 1) = j + 1 by split <;> omega] at nx
                exact nx
              · have z' := mt ef.mpr z
                rw [if_pos z]
                rw [show (if hi w < j + 1 then hi w else j + 1) = (if hi w < j then hi w else j) by (repeat' split) <;> omega] at nx
                exact nx
      have := main 99 0 N (by omega) (by omega)
      rw [if_pos (pc_0 b.1)] at this
      exact this
    rw [M]
    by_cases z : hi w + 1 - lo w = 0
    · rw [if_pos (show Int32.ofNat (hi w + 1 - lo w) = 0 by rw [z]; rfl), if_pos z]; exact E _
    · rw [if_neg (show ¬ Int32.ofNat (hi w + 1 - lo w) = 0 by rw [z_eq (by omega) (by omega)]; exact z), if_neg z]
      by_cases q : v3 = 0
      · rw [if_pos q, if_pos q]; exact E _
      · rw [if_neg q, if_neg q]; exact E _
  · rw [if_pos c0]
    by_cases c1 : v2 < 0
    · rw [if_pos c1]; exact E _
    · rw [if_neg c1, if_pos]
      · exact E _
      · rw [i32_lt] at c1; rw [i32_le]
        have : (0 : Int32).toInt = 0 := rfl
        have : (3 : Int32).toInt = 3 := rfl
        omega
end QL2
