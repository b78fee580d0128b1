/-! The k-th of those that hold. -/
def kthC (p : Nat → Bool) : Nat → Int32 → Nat → Int32
  | 0, _, _ => -1
  | d + 1, l, i => if p i = true then (if l = 0 then Int32.ofNat i else kthC p d (l + (-1)) (i + 1)) else kthC p d l (i + 1)
def kth (p : Nat → Bool) (k : Int32) : Nat → Int32 → Nat → Int32
  | 0, n, _ => if k = -1 then n else -1
  | d + 1, n, i => if p i = true then (if n = k then Int32.ofNat i else kth p k d (n + 1) (i + 1)) else kth p k d n (i + 1)
theorem kth_eq {p : Nat → Bool} {k : Int32} (hk : ¬ k = -1) : ∀ (d : Nat) (l n : Int32) (i : Nat), l + n = k → 0 ≤ l.toInt → kthC p d l i = kth p k d n i
  | 0, l, n, i, h, hl => by unfold kthC kth; rw [if_neg hk]
  | d + 1, l, n, i, h, hl => by
    unfold kthC kth
    by_cases q : p i = true
    · rw [if_pos q, if_pos q]
      by_cases z : l = 0
      · rw [if_pos z, if_pos (by rw [← h, z, Int32.zero_add])]
      · have nz : ¬ n = k := by
          intro e
          apply z
          have : l + n - n = k - n := by rw [h]
          rw [Int32.add_sub_cancel, e, Int32.sub_self] at this
          exact this
        rw [if_neg z, if_neg nz]
        apply kth_eq hk d
        · rw [← h, Int32.add_assoc, Int32.add_comm n 1, ← Int32.add_assoc (-1), show (-1 : Int32) + 1 = 0 from rfl, Int32.zero_add]
        · have : l.toInt ≠ 0 := fun e => z (by rw [i32_eq]; exact e)
          have h2 := Int32.toInt_lt l
          rw [Int32.toInt_add, show (-1 : Int32).toInt = -1 from rfl]
          rw [Int.bmod_eq_of_le] <;> omega
    · rw [if_neg q, if_neg q]
      exact kth_eq hk d l n (i + 1) h hl
theorem kth_m1 {p : Nat → Bool} : ∀ (d i : Nat), i + d ≤ 64 → kth p (-1) d (Int32.ofNat (cntB p i)) i = Int32.ofNat (cntB p (i + d))
  | 0, i, h => by unfold kth; rw [if_pos rfl]; rfl
  | d + 1, i, h => by
    have ih := kth_m1 (p := p) d (i + 1) (by omega)
    have e : i + (d + 1) = i + 1 + d := by omega
    have c := cntB_le p i
    unfold kth
    rw [e, ← ih]
    by_cases q : p i = true
    · rw [if_pos q, if_neg (z_m1 (by omega)), nz_succ]
      show _ = kth p (-1) d (Int32.ofNat (cntB p i + (if p i = true then 1 else 0))) (i + 1)
      rw [if_pos q]
    · rw [if_neg q]
      show _ = kth p (-1) d (Int32.ofNat (cntB p i + (if p i = true then 1 else 0))) (i + 1)
      rw [if_neg q]; rfl
theorem member_l {N : Nat} {v : Int64} {p : Nat → Bool} {σ : Mem} (hv : ∀ m, m < 64 → bS v m = p m) : ∀ (d n i : Nat) (l : Int32), i + d = 64 → d < n → 0 ≤ l.toInt → fX10_member_l15 N n v l (Int32.ofNat i) σ = some (kthC p d l i, σ)
  | 0, n + 1, i, l, h, hn, hl => by
    have : i = 64 := by omega
    subst this
    rw [fX10_member_l15]
    unfold fX10_member_b15
    rw [if_pos (by decide)]; rfl
  | d + 1, n + 1, i, l, h, hn, hl => by
    have ih := fun l' => member_l (N := N) (σ := σ) hv d n (i + 1) l' (by omega) (by omega)
    rw [fX10_member_l15]
    unfold fX10_member_b15 fX10_member_b45
    rw [if_neg (show ¬ (64 : Int32) ≤ Int32.ofNat i by rw [z_le (by omega) (by omega)]; omega), if_neg (show ¬ l < 0 by rw [i32_lt]; show ¬ l.toInt < 0; omega), isIn_S (by omega), ho_bds, hv i (by omega)]
    simp only [ho_lte, nz_succ]
    unfold kthC
    by_cases q : p i = true
    · rw [if_pos q, if_neg (by decide), if_pos q]
      by_cases z : l = 0
      · rw [if_pos z, if_pos z]
      · rw [if_neg z, if_neg z]
        apply ih
        have : l.toInt ≠ 0 := fun e => z (by rw [i32_eq]; exact e)
        have h2 := Int32.toInt_lt l
        rw [Int32.toInt_add, show (-1 : Int32).toInt = -1 from rfl]
        rw [Int.bmod_eq_of_le] <;> omega
    · rw [if_neg q, if_pos rfl, if_neg q]
      exact ih l hl
/-- what the class answers of a set -/
theorem member_C {N : Nat} {v : Int64} {p : Nat → Bool} {σ : Mem} {k : Int32} (hN : 10000 ≤ N) (hv : ∀ m, m < 64 → bS v m = p m) : fX10_member N v k σ = some (if (-1 : Int32) ≤ k then kth p k 64 0 0 else -1, σ) := by
  unfold fX10_member
  by_cases k1 : k = -1
  · subst k1
    rw [if_pos rfl, bd_ret, pop_cnt hv, if_pos (by decide)]
    have := kth_m1 (p := p) 64 0 (by omega)
    rw [show Int32.ofNat (cntB p 0) = (0 : Int32) from rfl, Nat.zero_add] at this
    rw [this]
  · rw [if_neg k1]
    simp only [ho_lte]
    have t : k.toInt ≠ -1 := fun e => k1 (by rw [i32_eq]; exact e)
    by_cases k2 : (-1 : Int32) ≤ k
    · rw [if_pos k2]
      rw [i32_le, show (-1 : Int32).toInt = -1 from rfl] at k2
      have := member_l (N := N) (σ := σ) hv 64 N 0 k (by omega) (by omega) (by omega)
      rw [show Int32.ofNat 0 = (0 : Int32) from rfl] at this
      rw [this, kth_eq k1 64 k 0 0 (by rw [Int32.add_zero]) (by omega)]
    · rw [if_neg k2]
      rw [i32_le, show (-1 : Int32).toInt = -1 from rfl] at k2
      obtain ⟨M, rfl⟩ : ∃ M, N = M + 1 := ⟨N - 1, by omega⟩
      rw [fX10_member_l15]
      unfold fX10_member_b15
      rw [if_neg (show ¬ (64 : Int32) ≤ 0 by decide), if_pos (show k < 0 by rw [i32_lt]; show k.toInt < 0; omega)]
theorem h2_sl {α β : Type} {x : α} {t : Mem} {κ2 : Option (β × Mem)} {Q : α → Mem → β → Mem → Prop} (h : Ho κ2 (fun r2 s2 => Q x t r2 s2)) : H2 (some (x, t)) κ2 Q := h
section QK
variable {σ1 σ2 : Mem} {N c np nw : Nat} {C : Vw}
theorem carried_l (hN : 10000 ≤ N) (W : ChW C np nw) (k : Int32) : ∀ (d n i : Nat) (x : Int32) (s : Mem), i + d = 64 → d < n → HaM s c C (asT C) np nw → KM σ2 s → Ho (fX12_carried_l24 N n k x (Int32.ofNat i) s) (fun r s' => r = kth (fun m => carV (asT C) np nw (Int32.ofNat m)) k d x i ∧ KM σ2 s')
  | 0, n + 1, i, x, s, h, hn, H, K => by
    have : i = 64 := by omega
    subst this
    rw [fX12_carried_l24]
    unfold fX12_carried_b24 kth
    rw [if_pos (by decide)]
    by_cases q : k = -1
    · rw [if_pos q, if_pos q]; exact ⟨rfl, K⟩
    · rw [if_neg q, if_neg q]; exact ⟨rfl, K⟩
  | d + 1, n + 1, i, x, s, h, hn, H, K => by
    rw [fX12_carried_l24]
    unfold fX12_carried_b24 fX12_carried_b54 kth
    rw [if_neg (show ¬ (64 : Int32) ≤ Int32.ofNat i by rw [z_le (by omega) (by omega)]; omega), ho_bd]
    refine ho_mono (answers_M hN (asT_wf W.1) H) (fun r s2 ⟨hr, V⟩ => ?_)
    have ih := fun x' => carried_l hN W k d n (i + 1) x' s2 (by omega) (by omega) (H.ag V.1.ag) (K.trans V.1.toH.km)
    simp only [ho_lte, nz_succ, hr, ite10]
    by_cases q : carV (asT C) np nw (Int32.ofNat i) = true
    · rw [if_neg (show ¬ ¬ carV (asT C) np nw (Int32.ofNat i) = true by simp [q]), if_pos q]
      by_cases z : x = k
      · rw [if_pos z, if_pos z]; exact ⟨rfl, K.trans V.1.toH.km⟩
      · rw [if_neg z, if_neg z]; exact ih _
    · rw [if_pos q, if_neg q]; exact ih _
theorem t_carried (hN : 10000 ≤ N) (R : RR σ1 σ2) (v1 v2 : Int32) : H2 (fX11_carried N 0 v1 v2 σ1) (fX12_carried N v1 v2 σ2) (QU σ1 σ2) := by
  unfold fX11_carried fX12_carried
  refine q_ch R v1 (fun j C np nw s2 hj W HC HM K => ?_)
  apply h2_l
  refine ho_mono (carriedSet_C hN W HC (by omega)) (fun v t1 ⟨hv, F1⟩ => ?_)
  have E1 : KC σ1 t1 := R.kc.fr F1 (by omega)
  rw [bd_ret, member_C (p := fun m => carV (asT C) np nw (Int32.ofNat m)) hN hv]
  by_cases q : (-1 : Int32) ≤ v2
  · rw [if_pos q, if_pos q]
    apply h2_r
    refine ho_mono (asTold_M hN HM) (fun _ t2 ⟨HA, F2, _, _⟩ => ?_)
    apply h2_sl
    exact ho_mono (carried_l hN W v2 64 N 0 0 t2 (by omega) (by omega) HA (K.trans F2.km)) (fun r s' ⟨a, b⟩ => ⟨a.symm, E1, b⟩)
  · rw [if_neg q, if_neg q]; exact ⟨rfl, E1, K⟩
theorem cl_eq (W : WfV C np nw) (m : Int32) : clV C np nw m = (carV C np nw m && decide (noV C np nw m ≤ 0)) := by
  have h := ay_bd W m
  unfold clV carV
  rw [Bool.eq_iff_iff]
  simp only [Bool.and_eq_true, decide_eq_true_eq, i32_lt, i32_le, i32_eq, show (0 : Int32).toInt = 0 from rfl]
  omega
theorem clear_l (hN : 10000 ≤ N) (W : ChW C np nw) (k : Int32) : ∀ (d n i : Nat) (x : Int32) (s : Mem), i + d = 64 → d < n → HaM s c C (asT C) np nw → KM σ2 s → Ho (fX12_clear_l24 N n k x (Int32.ofNat i) s) (fun r s' => r = kth (fun m => clV (asT C) np nw (Int32.ofNat m)) k d x i ∧ KM σ2 s')
  | 0, n + 1, i, x, s, h, hn, H, K => by
    have : i = 64 := by omega
    subst this
    rw [fX12_clear_l24]
    unfold fX12_clear_b24 kth
    rw [if_pos (by decide)]
    by_cases q : k = -1
    · rw [if_pos q, if_pos q]; exact ⟨rfl, K⟩
    · rw [if_neg q, if_neg q]; exact ⟨rfl, K⟩
  | d + 1, n + 1, i, x, s, h, hn, H, K => by
    rw [fX12_clear_l24]
    unfold fX12_clear_b24 fX12_clear_b61 kth
    rw [if_neg (show ¬ (64 : Int32) ≤ Int32.ofNat i by rw [z_le (by omega) (by omega)]; omega), ho_bd]
    refine ho_mono (answers_M hN (asT_wf W.1) H) (fun r s2 ⟨hr, V⟩ => ?_)
    have ih := fun x' => clear_l hN W k d n (i + 1) x' s2 (by omega) (by omega) (H.ag V.1.ag) (K.trans V.1.toH.km)
    simp only [ho_lte, nz_succ, hr, ite10, V.2.2.1]
    rw [cl_eq (asT_wf W.1)]
    by_cases q : carV (asT C) np nw (Int32.ofNat i) = true
    · rw [if_neg (show ¬ ¬ carV (asT C) np nw (Int32.ofNat i) = true by simp [q]), q, Bool.true_and]
      by_cases u : noV (asT C) np nw (Int32.ofNat i) ≤ 0
      · rw [if_pos u, decide_eq_true u, if_pos rfl]
        by_cases z : x = k
        · rw [if_pos z, if_pos z]; exact ⟨rfl, K.trans V.1.toH.km⟩
        · rw [if_neg z, if_neg z]; exact ih _
      · rw [if_neg u, decide_eq_false u, if_neg (by decide)]; exact ih _
    · rw [if_pos q, Bool.eq_false_iff.mpr q, Bool.false_and, if_neg (by decide)]; exact ih _
theorem t_clear (hN : 10000 ≤ N) (R : RR σ1 σ2) (v1 v2 : Int32) : H2 (fX11_clear N 0 v1 v2 σ1) (fX12_clear N v1 v2 σ2) (QU σ1 σ2) := by
  unfold fX11_clear fX12_clear
  refine q_ch R v1 (fun j C np nw s2 hj W HC HM K => ?_)
  apply h2_l
  refine ho_mono (clearSet_C hN W HC (by omega)) (fun v t1 ⟨hv, F1⟩ => ?_)
  have E1 : KC σ1 t1 := R.kc.fr F1 (by omega)
  rw [bd_ret, member_C (p := fun m => clV (asT C) np nw (Int32.ofNat m)) hN hv]
  by_cases q : (-1 : Int32) ≤ v2
  · rw [if_pos q, if_pos q]
    apply h2_r
    refine ho_mono (asTold_M hN HM) (fun _ t2 ⟨HA, F2, _, _⟩ => ?_)
    apply h2_sl
    exact ho_mono (clear_l hN W v2 64 N 0 0 t2 (by omega) (by omega) HA (K.trans F2.km)) (fun r s' ⟨a, b⟩ => ⟨a.symm, E1, b⟩)
  · rw [if_neg q, if_neg q]; exact ⟨rfl, E1, K⟩
end QK
