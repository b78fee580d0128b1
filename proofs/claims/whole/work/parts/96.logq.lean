theorem kd33 : ∀ j, j < 2 → decide (kdC (33 + 5 * j) = (4, 0)) = true := by decide
/-- a log is asked for -/
theorem lg2 {σ1 σ2 : Mem} {N : Nat} (R : RR σ1 σ2) (v : Int32) : (fX9_logAt N 1 v σ1 = some (none, σ1) ∧ fX12_isLog N v σ2 = some (0, σ2)) ∨
    ∃ j, j < 2 ∧ fX9_logAt N 1 v σ1 = some (some (33 + 5 * j), σ1) ∧ fX12_isLog N v σ2 = some (1, pI σ2 0 33 (Int32.ofNat (978 + 33 * j))) ∧ LoR σ1 (33 + 5 * j) σ2 (978 + 33 * j) := by
  obtain ⟨n, v1, v2, v3, v4⟩ := R.1.2.2.2.2.1
  unfold fX9_logAt fX12_isLog
  rw [isThere_C v2 (by omega) v1 (show (2 : Int32) = Int32.ofNat 2 from rfl), isOf_M v3 (by omega) v1 (show (2 : Int32) = Int32.ofNat (0 + 2) from rfl), ho_bds, ho_bds]
  by_cases q : inb v n = true
  · right
    obtain ⟨j, j1, j2, j3⟩ := inb_nat q
    have s := v4 j j1
    rw [if_pos q, if_neg (by decide), if_neg (by decide)]
    have b2 : inb v 2 = true := by rw [j2, nz_inb (by omega)]; exact decide_eq_true (by omega)
    have e2 : fX12_placeOf N 2 v σ2 = some (Int32.ofNat (978 + 33 * j), σ2) := by
      unfold fX12_placeOf
      rw [if_neg (by decide), if_neg (by decide), j2, show (33 : Int32) = Int32.ofNat 33 from rfl, show (978 : Int32) = Int32.ofNat 978 from rfl, nz_mul, nz_add]
    rw [b2, ho_gdt, e2, ho_bds, j3]
    simp only [ho_lte]
    have e3 : raE 62 (1 + 5) j = 33 + 5 * j := by unfold raE; rw [if_neg (by omega), if_neg (by omega), if_pos rfl]
    have e4 : 1 + 32 + 5 * j = 33 + 5 * j := by omega
    have e5 : 0 + 978 + 33 * j = 978 + 33 * j := by omega
    rw [e4, e5] at s
    exact ⟨j, by omega, by rw [e3], rfl, s⟩
  · left
    rw [if_neg q, if_pos rfl, if_pos rfl]
    exact ⟨rfl, rfl⟩
theorem LoR.ag {σ1 σ2 s1 s2 : Mem} {k q : Nat} (S : LoR σ1 k σ2 q) (h : s1 = σ1) (h2 : s2.1 1 = σ2.1 1) : LoR s1 k s2 q := by
  unfold LoR at *
  rw [h2, h]
  exact S
theorem q_lo {σ1 σ2 : Mem} {N : Nat} (R : RR σ1 σ2) (v : Int32) {dd : Int32} {g1 : Nat → Mem → Option (Int32 × Mem)} {g2 : Mem → Option (Int32 × Mem)}
    (go : ∀ j s2 n ft fa fb fm, j < 2 → KM σ2 s2 → LgJ σ1 (33 + 5 * j) s2 (978 + 33 * j) n ft fa fb fm → s2.1 0 33 = Int32.ofNat (978 + 33 * j) → H2 (g1 (33 + 5 * j) σ1) (g2 s2) (QU σ1 σ2)) :
    H2 (bd (fX9_logAt N 1 v σ1) (fun o s => mqK (4, 0) o (some (dd, s)) (fun r => g1 r s))) (bd (fX12_isLog N v σ2) (fun r s => if r = 0 then some (dd, s) else g2 s)) (QU σ1 σ2) := by
  rcases lg2 (N := N) R v with ⟨e1, e2⟩ | ⟨j, hj, e1, e2, h1⟩
  · rw [e1, e2, ho_bds, ho_bds, if_pos rfl]
    exact ⟨rfl, R.kc, KM.refl _⟩
  · rw [e1, e2, ho_bds, ho_bds, if_neg (by decide)]
    simp only [mqK, kd33 j hj, ho_gdt]
    have L : LoR σ1 (33 + 5 * j) (pI σ2 0 33 (Int32.ofNat (978 + 33 * j))) (978 + 33 * j) := h1.ag rfl (pI_ne (by omega))
    obtain ⟨n, ft, fa, fb, fm, G⟩ := L.fn
    exact go j _ n ft fa fb fm hj ⟨pI_ne (by omega), pI_ne (by omega)⟩ G pI_eq
section QL
variable {σ1 σ2 : Mem} {N : Nat}
theorem t_fact (hN : 10000 ≤ N) (R : RR σ1 σ2) (v1 v2 v3 : Int32) : H2 (fX11_fact N 0 v1 v2 v3 σ1) (fX12_fact N v1 v2 v3 σ2) (QU σ1 σ2) := by
  unfold fX11_fact fX12_fact
  refine q_lo R v1 (fun j s2 n ft fa fb fm hj K G h33 => ?_)
  have hq : 978 + 33 * j ≤ 3000 := by omega
  generalize 978 + 33 * j = q at G h33 hq
  have n8 := G.1
  have ge : ∀ (x : Nat), x < 4176 → ∀ (κ : Option (Int32 × Mem)), gd (inb (Int32.ofNat x) 4176) κ = κ := fun x hx κ => by rw [nz_inb (by omega), decide_eq_true hx]; rfl
  have E : ∀ x : Int32, H2 (some (x, σ1)) (some (x, s2)) (QU σ1 σ2) := fun x => ⟨rfl, R.kc, K⟩
  rw [bd_ret]
  unfold fX4_tell
  rw [h33, ge q (by omega), ge q (by omega), nz_nat (by omega), G.2.1, G.2.2.1]
  by_cases k1 : v2 = -1
  · rw [if_pos k1, if_pos k1]
    by_cases z : v3 = 0
    · rw [if_pos z, if_pos z]; exact E _
    · rw [if_neg z, if_neg z]; exact E _
  · rw [if_neg k1, if_neg k1, isIn_M v2 (by omega), ho_bds]
    by_cases u : inb v2 n = true
    · obtain ⟨k, k2, k3, k4⟩ := inb_nat u
      subst k3
      obtain ⟨h1, ⟨a1, a2, a3, a4⟩, b1, b2, b3, b4⟩ := G.2.2.2 k k2
      rw [if_neg (z_neg (by omega)), if_pos (show Int32.ofNat k < Int32.ofNat n by rw [nz_lt (by omega) (by omega)]; exact k2), if_pos u, if_neg (show ¬ (1 : Int32) = 0 by decide), isIn_Z v3, ho_bds]
      simp only [nz_inb (show k < 2147483648 by omega), show k < 8 by omega, decide_true, ho_gdt, nz_nat (show k < 2147483648 by omega), a1, a2, a3, a4, ite10, Int32.reduceToInt]
      by_cases w : 0 ≤ v3.toInt ∧ v3.toInt ≤ 3
      · obtain ⟨x, x1, x2, x3⟩ := z_of (v := v3) (a := 0) (b := 3) w
        subst x3
        rw [if_neg (show ¬ ¬ (0 ≤ (Int32.ofNat x).toInt ∧ (Int32.ofNat x).toInt ≤ 3) from fun z => z w), h33, show (4 : Int32) * Int32.ofNat k = Int32.ofNat (4 * k) from nz_mul, nz_succ, nz_add, nz_add, ge _ (by omega), nz_nat (by omega)]
        have cs : x = 0 ∨ x = 1 ∨ x = 2 ∨ x = 3 := by omega
        rcases cs with e | e | e | e
        · subst e; rw [if_pos (show Int32.ofNat 0 = 0 from rfl), Nat.add_zero, b1]; exact E _
        · subst e; rw [if_neg (show ¬ Int32.ofNat 1 = 0 by decide), if_pos (show Int32.ofNat 1 = 1 from rfl), b2]; exact E _
        · subst e; rw [if_neg (show ¬ Int32.ofNat 2 = 0 by decide), if_neg (show ¬ Int32.ofNat 2 = 1 by decide), if_pos (show Int32.ofNat 2 = 2 from rfl), b3]; exact E _
        · subst e; rw [if_neg (show ¬ Int32.ofNat 3 = 0 by decide), if_neg (show ¬ Int32.ofNat 3 = 1 by decide), if_neg (show ¬ Int32.ofNat 3 = 2 by decide), if_pos (show Int32.ofNat 3 = 3 from rfl), b4]; exact E _
      · rw [if_pos w]
        have nz : ∀ m : Nat, m < 4 → ¬ v3 = Int32.ofNat m := fun m hm e => by
          have := congrArg Int32.toInt e
          rw [nz_toInt (by omega)] at this; omega
        rw [if_neg (show ¬ v3 = 0 from nz 0 (by omega)), if_neg (show ¬ v3 = 1 from nz 1 (by omega)), if_neg (show ¬ v3 = 2 from nz 2 (by omega)), if_neg (show ¬ v3 = 3 from nz 3 (by omega))]; exact E _
    · have ub := mt inb_iff.mpr u
      rw [if_neg u, if_pos rfl]
      by_cases z : v2 < 0
      · rw [if_pos z]; exact E _
      · rw [if_neg z, if_neg]
        · exact E _
        · rw [i32_lt] at z; rw [i32_lt, nz_toInt (by omega)]
          have : (0 : Int32).toInt = 0 := rfl
          omega
end QL
section FIT
variable {σ1 σ2 : Mem} {N k q n : Nat} {ft fa fb fm : Nat → Nat}
/-- what is known of a log: from which limit to which, by woods -/
def LoJ (N : Nat) (σ1 : Mem) (k : Nat) (σ2 : Mem) (lo hi : Nat → Nat) : Prop :=
  (∀ w, 1 ≤ lo w ∧ lo w ≤ 201 ∧ hi w ≤ 99) ∧ (∀ w, w ≤ 2 → fX4_leastLimit N k (Int32.ofNat w) σ1 = some (Int32.ofNat (lo w), σ1) ∧ fX4_mostLimit N k (Int32.ofNat w) σ1 = some (Int32.ofNat (hi w), σ1) ∧ fX4_fittingOf N k (Int32.ofNat w) σ1 = some (Int32.ofNat (hi w + 1 - lo w), σ1)) ∧
  ∀ c, c < 297 → fX12_isSo N (Int32.ofNat c) σ2 = some (if fpN lo hi c = true then 1 else 0, σ2)
theorem LgJ.lo (hN : 10000 ≤ N) (G : LgJ σ1 k σ2 q n ft fa fb fm) (h33 : σ2.1 0 33 = Int32.ofNat q) (hq : q ≤ 3000) : ∃ lo hi, LoJ N σ1 k σ2 lo hi := by
  refine ⟨fun w => if w ≤ 2 then loN ft (flN fa fb fm w) n else 1, fun w => if w ≤ 2 then hiN ft (flN fa fb fm w) n else 0, fun w => ?_, fun w hw => ?_, fun c hc => ?_⟩
  · dsimp only
    by_cases hw : w ≤ 2
    · rw [if_pos hw, if_pos hw]
      exact lohi_b (ft := ft) (fl := flN fa fb fm w) n (fun d hd => by have := fl_bd G hw d hd; omega)
    · rw [if_neg hw, if_neg hw]; omega
  · dsimp only
    rw [if_pos hw, if_pos hw]
    exact ⟨least_L hN G hw, most_L hN G hw, of_L hN G hw⟩
  · rw [isSo_M hN G h33 hq hc]
    have hw : c / 99 ≤ 2 := by omega
    have e : soN ft (flN fa fb fm (c / 99)) (c % 99 + 1) n = fpN (fun w => if w ≤ 2 then loN ft (flN fa fb fm w) n else 1) (fun w => if w ≤ 2 then hiN ft (flN fa fb fm w) n else 0) c := by
      unfold fpN
      rw [Bool.eq_iff_iff, decide_eq_true_eq]
      dsimp only
      rw [if_pos hw, if_pos hw]
      exact so_iff (by omega) (by omega) n (fun d hd => (G.2.2.2 d hd).1.1)
    rw [e]
variable {lo hi : Nat → Nat}
theorem fit_C (hN : 10000 ≤ N) (J : LoJ N σ1 k σ2 lo hi) : fX4_fitting N k σ1 = some (Int32.ofNat (cntB (fpN lo hi) 297), σ1) := by
  obtain ⟨M, hM⟩ : ∃ M, N = M + 4 := ⟨N - 4, by omega⟩
  rw [cnt_297 (fun w => (J.1 w).1) (fun w => (J.1 w).2.2)]
  unfold fX4_fitting
  simp only [ho_lte]
  have st : ∀ m (v : Int32) (w : Nat), w ≤ 2 → fX4_fitting_l4 N k (m + 1) v (Int32.ofNat w) σ1 = fX4_fitting_l4 N k m (v + Int32.ofNat (hi w + 1 - lo w)) (Int32.ofNat (w + 1)) σ1 := by
    intro m v w hw
    rw [fX4_fitting_l4]
    unfold fX4_fitting_b4
    rw [if_neg (show ¬ (3 : Int32) ≤ Int32.ofNat w by rw [z_le (by omega) (by omega)]; omega), (J.2.1 w hw).2.2, ho_bds]
    simp only [ho_lte, nz_succ]
  have e : fX4_fitting_l4 N k N 0 0 σ1 = fX4_fitting_l4 N k (M + 1 + 1 + 1 + 1) (Int32.ofNat 0) (Int32.ofNat 0) σ1 := by rw [show M + 1 + 1 + 1 + 1 = N by omega]; rfl
  rw [e, st _ _ 0 (by omega), st _ _ _ (by omega), st _ _ _ (by omega), fX4_fitting_l4]
  unfold fX4_fitting_b4
  rw [if_pos (by decide), nz_add, nz_add, nz_add, Nat.zero_add]
theorem fit_M (hN : 10000 ≤ N) (J : LoJ N σ1 k σ2 lo hi) : fX12_fitting N σ2 = some (Int32.ofNat (cntB (fpN lo hi) 297), σ2) := by
  apply ho_eq
  unfold fX12_fitting
  simp only [ho_lte]
  refine ho_loop (F := fun m (b : Int32 × Int32) s => fX12_fitting_l4 N m b.1 b.2 s) (fun i b s => b.2 = Int32.ofNat i ∧ b.1 = Int32.ofNat (cntB (fpN lo hi) i) ∧ s = σ2) 297 ?_ ?_ 297 N 0 (0, 0) σ2 (by omega) (by omega) ⟨rfl, rfl, rfl⟩
  · rintro m i ⟨a, v⟩ s hi' ⟨e1, e2, e3⟩ rec
    dsimp only at e1 e2; subst e1 e2 e3
    simp only [fX12_fitting_l4, fX12_fitting_b4, fX12_fitting_b25, ho_lte, nz_succ]
    rw [if_neg (show ¬ (297 : Int32) ≤ Int32.ofNat i by rw [z_le (by omega) (by omega)]; omega), J.2.2 i hi', ho_bds]
    simp only [ite10]
    by_cases z : fpN lo hi i = true
    · rw [if_neg (fun w => w z)]
      exact rec (_, _) _ ⟨rfl, by simp only [cntB]; rw [if_pos z]; rfl, rfl⟩
    · rw [if_pos z]
      exact rec (_, _) _ ⟨rfl, by simp only [cntB]; rw [if_neg z]; exact Int32.add_zero _, rfl⟩
  · rintro m ⟨a, v⟩ s ⟨e1, e2, e3⟩
    dsimp only at e1 e2; subst e1 e2 e3
    simp only [fX12_fitting_l4, fX12_fitting_b4]
    rw [if_pos (by decide), ho_some]
    exact ⟨rfl, rfl⟩
/-- a wood's codes of the reference, sure by woods -/
theorem sureW_M (J : LoJ N σ1 k σ2 lo hi) {w : Nat} (hw : w ≤ 2) {Q : Int32 → Mem → Prop} {v : Int32} (hv : v = -1 ∨ ∃ u, u < w ∧ v = Int32.ofNat u) : ∀ (d m j : Nat), j + d = 99 → pcN (lo w) (hi w) j = 0 →
    (hi w + 1 - lo w = 0 → ∀ m', m' + 99 = m + j → Ho (fX12_sureOf_l4 N m' 1 v (Int32.ofNat (99 * w + 99)) σ2) Q) →
    (0 < hi w + 1 - lo w → v = -1 → ∀ m', m' + 99 = m + j → Ho (fX12_sureOf_l4 N m' 1 (Int32.ofNat w) (Int32.ofNat (99 * w + 99)) σ2) Q) →
    (0 < hi w + 1 - lo w → ¬ v = -1 → Q (-1) σ2) → 99 ≤ m + j → Ho (fX12_sureOf_l4 N m 1 v (Int32.ofNat (99 * w + j)) σ2) Q := by
  have b := J.1 w
  -- behind the first that fits, with this wood being sure
  have own : ∀ (d m j : Nat), j + d = 99 → 99 ≤ m + j → (∀ m', m' + 99 = m + j → Ho (fX12_sureOf_l4 N m' 1 (Int32.ofNat w) (Int32.ofNat (99 * w + 99)) σ2) Q) → Ho (fX12_sureOf_l4 N m 1 (Int32.ofNat w) (Int32.ofNat (99 * w + j)) σ2) Q := by
    intro d
    induction d with
    | zero =>
      intro m j hj hm go
      have : j = 99 := by omega
      subst this
      exact go m (by omega)
    | succ d ih =>
      intro m j hj hm go
      obtain ⟨m, rfl⟩ : ∃ m', m = m' + 1 := ⟨m - 1, by omega⟩
      have nx := ih m (j + 1) (by omega) (by omega) (fun m' hm' => go m' (by omega))
      rw [fX12_sureOf_l4]
      unfold fX12_sureOf_b4 fX12_sureOf_b39 fX12_sureOf_b54 fX12_sureOf_b57
      have h99 := d99 (99 * w + j) (by omega)
      rw [if_neg (show ¬ (297 : Int32) ≤ Int32.ofNat (99 * w + j) by rw [z_le (by omega) (by omega)]; omega), J.2.2 _ (by omega), ho_bds, if_neg (show ¬ (1 : Int32) = 0 by decide), h99.1, show (99 * w + j) / 99 = w by omega]
      simp only [ho_lte, nz_succ, ite10]
      rw [if_neg (show ¬ Int32.ofNat w = -1 from z_m1 (by omega)), if_pos trivial]
      by_cases z : fpN lo hi (99 * w + j) = true
      · rw [if_neg (fun x => x z)]; exact nx
      · rw [if_pos z]; exact nx
  intro d
  induction d with
  | zero =>
    intro m j hj hp g0 g1 g2 hm
    have : j = 99 := by omega
    subst this
    rw [pc_99 b.2.2] at hp
    exact g0 hp m (by omega)
  | succ d ih =>
    intro m j hj hp g0 g1 g2 hm
    obtain ⟨m, rfl⟩ : ∃ m', m = m' + 1 := ⟨m - 1, by omega⟩
    rw [fX12_sureOf_l4]
    unfold fX12_sureOf_b4 fX12_sureOf_b39 fX12_sureOf_b54 fX12_sureOf_b57
    have h99 := d99 (99 * w + j) (by omega)
    have ps := pc_s (hi := hi w) (j := j) b.1
    rw [if_neg (show ¬ (297 : Int32) ≤ Int32.ofNat (99 * w + j) by rw [z_le (by omega) (by omega)]; omega), J.2.2 _ (by omega), ho_bds, if_neg (show ¬ (1 : Int32) = 0 by decide), h99.1, show (99 * w + j) / 99 = w by omega]
    simp only [ho_lte, nz_succ, ite10]
    have ef : fpN lo hi (99 * w + j) = true ↔ lo w ≤ j + 1 ∧ j + 1 ≤ hi w := by
      unfold fpN; rw [decide_eq_true_eq, show (99 * w + j) / 99 = w by omega, show (99 * w + j) % 99 = j by omega]
    by_cases z : fpN lo hi (99 * w + j) = true
    · rw [if_neg (fun x => x z)]
      have z' := ef.mp z
      have pos : 0 < hi w + 1 - lo w := by omega
      rcases hv with hv | ⟨u, hu, hv⟩
      · rw [if_pos hv]
        exact own d m (j + 1) (by omega) (by omega) (fun m' hm' => g1 pos hv m' (by omega))
      · have n1 : ¬ v = -1 := by rw [hv]; exact z_m1 (by omega)
        rw [if_neg n1, if_neg (show ¬ v = Int32.ofNat w by rw [hv, nz_inj (by omega) (by omega)]; omega)]
        exact g2 pos n1
    · rw [if_pos z]
      rw [if_neg (mt ef.mpr z)] at ps
      exact ih m (j + 1) (by omega) (by omega) (fun h m' hm' => g0 h m' (by omega)) (fun h h' m' hm' => g1 h h' m' (by omega)) g2 (by omega)
end FIT
