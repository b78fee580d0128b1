def fX4_bestQuestion_b80 (N : Nat) (h : Nat) (rc21 : Int32 → Int32 → Int32 → Int32 → Int32 → Mem → Option (Int32 × Mem)) (rc31 : Int32 → Int32 → Int32 → Int32 → Int32 → Int32 → Mem → Option (Int32 × Mem)) (v1 : Int32) (v2 : Int32) (v3 : Int32) (v4 : Int32) (v5 : Int32) (v6 : Int32) (σ : Mem) : Option (Int32 × Mem) :=
  lt_ (v6 + 1) (fun v6_15 => rc31 v1 v2 v3 v4 v5 v6_15 σ)
set_option maxRecDepth 100000 in
set_option maxHeartbeats 4000000 in
theorem bX4_bestQuestion_80 {x : Cx} {z : Sx} (X : XG x z RX4 cX4_bestQuestion 9 4 92) (E : XE x z) (hr : XR x (some .int)) (hZ : z.2.2.2.1 = kdC) (N : Nat) (h : Nat) (hh : z.2.2.2.1 h = (4, 0)) (rc21 : Int32 → Int32 → Int32 → Int32 → Int32 → Mem → Option (Int32 × Mem)) (hc21 : ∀ (v1 : Int32) (v2 : Int32) (v3 : Int32) (v4 : Int32) (v5 : Int32) (σ : Mem), VK x z 9 (BQ QI x z) 21 [(0, .ref (z.2.2.1 h)), (1, .int v1), (2, .int v2), (3, .int v3), (4, .int v4), (5, .int v5)] [] σ (rc21 v1 v2 v3 v4 v5 σ)) (rc31 : Int32 → Int32 → Int32 → Int32 → Int32 → Int32 → Mem → Option (Int32 × Mem)) (hc31 : ∀ (v1 : Int32) (v2 : Int32) (v3 : Int32) (v4 : Int32) (v5 : Int32) (v6 : Int32) (σ : Mem), VK x z 9 (BQ QI x z) 31 [(0, .ref (z.2.2.1 h)), (1, .int v1), (2, .int v2), (3, .int v3), (4, .int v4), (5, .int v5), (6, .int v6)] [] σ (rc31 v1 v2 v3 v4 v5 v6 σ)) (v1 : Int32) (v2 : Int32) (v3 : Int32) (v4 : Int32) (v5 : Int32) (v6 : Int32) (σ : Mem) : VK x z 9 (BQ QI x z) 80 [(0, .ref (z.2.2.1 h)), (1, .int v1), (2, .int v2), (3, .int v3), (4, .int v4), (5, .int v5), (6, .int v6)] [] σ (fX4_bestQuestion_b80 N h rc21 rc31 v1 v2 v3 v4 v5 v6 σ) := by
  unfold fX4_bestQuestion_b80
  refine V_iincG (L' := fun v6_15 => [(6, .int v6_15), (0, .ref (z.2.2.1 h)), (1, .int v1), (2, .int v2), (3, .int v3), (4, .int v4), (5, .int v5)]) 6 X dX4_bestQuestion_80 rfl rfl (by decide) (fun _ => rfl) (fun v6_15 => ?_)
  refine V_goto (tgt := 31) X dX4_bestQuestion_83 (by decide) ?_
  refine V_sub [1, 2, 3, 4, 5, 6, 0] rfl ?_
  exact hc31 v1 v2 v3 v4 v5 v6_15 σ
def fX4_bestQuestion_b31 (N : Nat) (h : Nat) (rc21 : Int32 → Int32 → Int32 → Int32 → Int32 → Mem → Option (Int32 × Mem)) (rc31 : Int32 → Int32 → Int32 → Int32 → Int32 → Int32 → Mem → Option (Int32 × Mem)) (v1 : Int32) (v2 : Int32) (v3 : Int32) (v4 : Int32) (v5 : Int32) (v6 : Int32) (σ : Mem) : Option (Int32 × Mem) :=
  if 6 < v6 then lt_ (v5 + 1) (fun v5_8 => rc21 v1 v2 v3 v4 v5_8 σ) else bd (fX4_soundingAt N h v1 v5 v6 σ) (fun r9 s10 => lt_ r9 (fun v7_11 => lt_ (mxI v7_11 (v2 - v7_11)) (fun v8_12 => if v4 ≤ v8_12 then fX4_bestQuestion_b80 N h rc21 rc31 v1 v2 v3 v4 v5 v6 s10 else lt_ v8_12 (fun v4_13 => lt_ ((10 * v5) + v6) (fun v3_14 => fX4_bestQuestion_b80 N h rc21 rc31 v1 v2 v3_14 v4_13 v5 v6 s10)))))
set_option maxRecDepth 100000 in
set_option maxHeartbeats 4000000 in
theorem bX4_bestQuestion_31 {x : Cx} {z : Sx} (X : XG x z RX4 cX4_bestQuestion 9 4 92) (E : XE x z) (hr : XR x (some .int)) (hZ : z.2.2.2.1 = kdC) (N : Nat) (h : Nat) (hh : z.2.2.2.1 h = (4, 0)) (rc21 : Int32 → Int32 → Int32 → Int32 → Int32 → Mem → Option (Int32 × Mem)) (hc21 : ∀ (v1 : Int32) (v2 : Int32) (v3 : Int32) (v4 : Int32) (v5 : Int32) (σ : Mem), VK x z 9 (BQ QI x z) 21 [(0, .ref (z.2.2.1 h)), (1, .int v1), (2, .int v2), (3, .int v3), (4, .int v4), (5, .int v5)] [] σ (rc21 v1 v2 v3 v4 v5 σ)) (rc31 : Int32 → Int32 → Int32 → Int32 → Int32 → Int32 → Mem → Option (Int32 × Mem)) (hc31 : ∀ (v1 : Int32) (v2 : Int32) (v3 : Int32) (v4 : Int32) (v5 : Int32) (v6 : Int32) (σ : Mem), VK x z 9 (BQ QI x z) 31 [(0, .ref (z.2.2.1 h)), (1, .int v1), (2, .int v2), (3, .int v3), (4, .int v4), (5, .int v5), (6, .int v6)] [] σ (rc31 v1 v2 v3 v4 v5 v6 σ)) (v1 : Int32) (v2 : Int32) (v3 : Int32) (v4 : Int32) (v5 : Int32) (v6 : Int32) (σ : Mem) : VK x z 9 (BQ QI x z) 31 [(0, .ref (z.2.2.1 h)), (1, .int v1), (2, .int v2), (3, .int v3), (4, .int v4), (5, .int v5), (6, .int v6)] [] σ (fX4_bestQuestion_b31 N h rc21 rc31 v1 v2 v3 v4 v5 v6 σ) := by
  unfold fX4_bestQuestion_b31
  refine V_iload 6 X dX4_bestQuestion_31 rfl ?_
  refine V_bipush (v := 6) X dX4_bestQuestion_33 (by decide) ?_
  refine V_icmp_gt (tgt := 86) X dX4_bestQuestion_35 (by decide) ?_ ?_
  · refine V_iincG (L' := fun v5_8 => [(5, .int v5_8), (0, .ref (z.2.2.1 h)), (1, .int v1), (2, .int v2), (3, .int v3), (4, .int v4), (6, .int v6)]) 5 X dX4_bestQuestion_86 rfl rfl (by decide) (fun _ => rfl) (fun v5_8 => ?_)
    refine V_goto (tgt := 21) X dX4_bestQuestion_89 (by decide) ?_
    refine V_sub [1, 2, 3, 4, 5, 0] rfl ?_
    exact hc21 v1 v2 v3 v4 v5_8 σ
  · refine V_aload_n 0 X dX4_bestQuestion_38 rfl rfl ?_
    refine V_iload_n 1 X dX4_bestQuestion_39 rfl rfl ?_
    refine V_iload 5 X dX4_bestQuestion_40 rfl ?_
    refine V_iload 6 X dX4_bestQuestion_42 rfl ?_
    refine V_callI [.int v1, .int v5, .int v6] [] X E dX4_bestQuestion_44 (kX4_soundingAt x.2.1 z hZ N h hh v1 v5 v6 σ) co4 hh gcX4_55 hyX4_soundingAt rfl ⟨by decide, by decide⟩ rfl (Nat.le_of_ble_eq_true rfl) (fun r9 s10 => ?_)
    refine V_istoreG (L' := fun v7_11 => [(7, .int v7_11), (0, .ref (z.2.2.1 h)), (1, .int v1), (2, .int v2), (3, .int v3), (4, .int v4), (5, .int v5), (6, .int v6)]) X dX4_bestQuestion_47 (by decide) (fun _ => rfl) (fun v7_11 => ?_)
    refine V_iload 0 X dX4_bestQuestion_49 rfl ?_
    refine V_iload_n 3 X dX4_bestQuestion_51 rfl rfl ?_
    refine V_iload 0 X dX4_bestQuestion_52 rfl ?_
    refine V_isub X dX4_bestQuestion_54 ?_
    refine V_mmax X dX4_bestQuestion_55 mtX4_32 mtS_max mtI mtC_max (by decide) (Nat.le_of_ble_eq_true rfl) ?_
    refine V_istoreG (L' := fun v8_12 => [(8, .int v8_12), (7, .int v7_11), (0, .ref (z.2.2.1 h)), (1, .int v1), (2, .int v2), (3, .int v3), (4, .int v4), (5, .int v5), (6, .int v6)]) X dX4_bestQuestion_58 (by decide) (fun _ => rfl) (fun v8_12 => ?_)
    refine V_iload 0 X dX4_bestQuestion_60 rfl ?_
    refine V_iload 6 X dX4_bestQuestion_62 rfl ?_
    refine V_icmp_ge (tgt := 80) X dX4_bestQuestion_64 (by decide) ?_ ?_
    · refine V_sub [2, 3, 4, 5, 6, 7, 8] rfl ?_
      exact bX4_bestQuestion_80 X E hr hZ N h hh rc21 hc21 rc31 hc31 v1 v2 v3 v4 v5 v6 s10
    · refine V_iload 0 X dX4_bestQuestion_67 rfl ?_
      refine V_istoreG (L' := fun v4_13 => [(4, .int v4_13), (8, .int v8_12), (7, .int v7_11), (0, .ref (z.2.2.1 h)), (1, .int v1), (2, .int v2), (3, .int v3), (5, .int v5), (6, .int v6)]) X dX4_bestQuestion_69 (by decide) (fun _ => rfl) (fun v4_13 => ?_)
      refine V_bipush (v := 10) X dX4_bestQuestion_71 (by decide) ?_
      refine V_iload 7 X dX4_bestQuestion_73 rfl ?_
      refine V_imul X dX4_bestQuestion_75 ?_
      refine V_iload 8 X dX4_bestQuestion_76 rfl ?_
      refine V_iadd X dX4_bestQuestion_78 ?_
      refine V_istore_nG (L' := fun v3_14 => [(3, .int v3_14), (4, .int v4_13), (8, .int v8_12), (7, .int v7_11), (0, .ref (z.2.2.1 h)), (1, .int v1), (2, .int v2), (5, .int v5), (6, .int v6)]) X dX4_bestQuestion_79 rfl (by decide) (fun _ => rfl) (fun v3_14 => ?_)
      refine V_sub [4, 5, 6, 0, 1, 7, 8] rfl ?_
      exact bX4_bestQuestion_80 X E hr hZ N h hh rc21 hc21 rc31 hc31 v1 v2 v3_14 v4_13 v5 v6 s10
def fX4_bestQuestion_l31 (N : Nat) (h : Nat) (rc21 : Int32 → Int32 → Int32 → Int32 → Int32 → Mem → Option (Int32 × Mem)) : Nat → Int32 → Int32 → Int32 → Int32 → Int32 → Int32 → Mem → Option (Int32 × Mem)
  | 0 => fun _ _ _ _ _ _ _ => none
  | n + 1 => fX4_bestQuestion_b31 N h rc21 (fX4_bestQuestion_l31 N h rc21 n)
theorem lX4_bestQuestion_31 {x : Cx} {z : Sx} (X : XG x z RX4 cX4_bestQuestion 9 4 92) (E : XE x z) (hr : XR x (some .int)) (hZ : z.2.2.2.1 = kdC) (N : Nat) (h : Nat) (hh : z.2.2.2.1 h = (4, 0)) (rc21 : Int32 → Int32 → Int32 → Int32 → Int32 → Mem → Option (Int32 × Mem)) (hc21 : ∀ (v1 : Int32) (v2 : Int32) (v3 : Int32) (v4 : Int32) (v5 : Int32) (σ : Mem), VK x z 9 (BQ QI x z) 21 [(0, .ref (z.2.2.1 h)), (1, .int v1), (2, .int v2), (3, .int v3), (4, .int v4), (5, .int v5)] [] σ (rc21 v1 v2 v3 v4 v5 σ)) (n : Nat) (v1 : Int32) (v2 : Int32) (v3 : Int32) (v4 : Int32) (v5 : Int32) (v6 : Int32) (σ : Mem) : VK x z 9 (BQ QI x z) 31 [(0, .ref (z.2.2.1 h)), (1, .int v1), (2, .int v2), (3, .int v3), (4, .int v4), (5, .int v5), (6, .int v6)] [] σ (fX4_bestQuestion_l31 N h rc21 n v1 v2 v3 v4 v5 v6 σ) := by
  induction n generalizing v1 v2 v3 v4 v5 v6 σ with
  | zero => exact V_none
  | succ n ih => exact bX4_bestQuestion_31 X E hr hZ N h hh rc21 hc21 (fX4_bestQuestion_l31 N h rc21 n) ih v1 v2 v3 v4 v5 v6 σ
def fX4_bestQuestion_b21 (N : Nat) (h : Nat) (rc21 : Int32 → Int32 → Int32 → Int32 → Int32 → Mem → Option (Int32 × Mem)) (v1 : Int32) (v2 : Int32) (v3 : Int32) (v4 : Int32) (v5 : Int32) (σ : Mem) : Option (Int32 × Mem) :=
  if 9 < v5 then some (v3, σ) else lt_ 0 (fun v6_7 => fX4_bestQuestion_l31 N h rc21 N v1 v2 v3 v4 v5 v6_7 σ)
set_option maxRecDepth 100000 in
set_option maxHeartbeats 4000000 in
theorem bX4_bestQuestion_21 {x : Cx} {z : Sx} (X : XG x z RX4 cX4_bestQuestion 9 4 92) (E : XE x z) (hr : XR x (some .int)) (hZ : z.2.2.2.1 = kdC) (N : Nat) (h : Nat) (hh : z.2.2.2.1 h = (4, 0)) (rc21 : Int32 → Int32 → Int32 → Int32 → Int32 → Mem → Option (Int32 × Mem)) (hc21 : ∀ (v1 : Int32) (v2 : Int32) (v3 : Int32) (v4 : Int32) (v5 : Int32) (σ : Mem), VK x z 9 (BQ QI x z) 21 [(0, .ref (z.2.2.1 h)), (1, .int v1), (2, .int v2), (3, .int v3), (4, .int v4), (5, .int v5)] [] σ (rc21 v1 v2 v3 v4 v5 σ)) (v1 : Int32) (v2 : Int32) (v3 : Int32) (v4 : Int32) (v5 : Int32) (σ : Mem) : VK x z 9 (BQ QI x z) 21 [(0, .ref (z.2.2.1 h)), (1, .int v1), (2, .int v2), (3, .int v3), (4, .int v4), (5, .int v5)] [] σ (fX4_bestQuestion_b21 N h rc21 v1 v2 v3 v4 v5 σ) := by
  unfold fX4_bestQuestion_b21
  refine V_iload 5 X dX4_bestQuestion_21 rfl ?_
  refine V_bipush (v := 9) X dX4_bestQuestion_23 (by decide) ?_
  refine V_icmp_gt (tgt := 92) X dX4_bestQuestion_25 (by decide) ?_ ?_
  · refine V_iload_n 3 X dX4_bestQuestion_92 rfl rfl ?_
    exact V_iret X E hr dX4_bestQuestion_93
  · refine V_iconst (v := 0) X dX4_bestQuestion_28 (by decide) ?_
    refine V_istoreG (L' := fun v6_7 => [(6, .int v6_7), (0, .ref (z.2.2.1 h)), (1, .int v1), (2, .int v2), (3, .int v3), (4, .int v4), (5, .int v5)]) X dX4_bestQuestion_29 (by decide) (fun _ => rfl) (fun v6_7 => ?_)
    refine V_sub [1, 2, 3, 4, 5, 6, 0] rfl ?_
    exact lX4_bestQuestion_31 X E hr hZ N h hh rc21 hc21 N v1 v2 v3 v4 v5 v6_7 σ
def fX4_bestQuestion_l21 (N : Nat) (h : Nat) : Nat → Int32 → Int32 → Int32 → Int32 → Int32 → Mem → Option (Int32 × Mem)
  | 0 => fun _ _ _ _ _ _ => none
  | n + 1 => fX4_bestQuestion_b21 N h (fX4_bestQuestion_l21 N h n)
theorem lX4_bestQuestion_21 {x : Cx} {z : Sx} (X : XG x z RX4 cX4_bestQuestion 9 4 92) (E : XE x z) (hr : XR x (some .int)) (hZ : z.2.2.2.1 = kdC) (N : Nat) (h : Nat) (hh : z.2.2.2.1 h = (4, 0)) (n : Nat) (v1 : Int32) (v2 : Int32) (v3 : Int32) (v4 : Int32) (v5 : Int32) (σ : Mem) : VK x z 9 (BQ QI x z) 21 [(0, .ref (z.2.2.1 h)), (1, .int v1), (2, .int v2), (3, .int v3), (4, .int v4), (5, .int v5)] [] σ (fX4_bestQuestion_l21 N h n v1 v2 v3 v4 v5 σ) := by
  induction n generalizing v1 v2 v3 v4 v5 σ with
  | zero => exact V_none
  | succ n ih => exact bX4_bestQuestion_21 X E hr hZ N h hh (fX4_bestQuestion_l21 N h n) ih v1 v2 v3 v4 v5 σ
def fX4_bestQuestion (N : Nat) (h : Nat) (v1 : Int32) (σ : Mem) : Option (Int32 × Mem) :=
  bd (fX4_fitting N h σ) (fun r1 s2 => lt_ r1 (fun v2_3 => if v2_3 = 0 then some ((-1), s2) else lt_ (-1) (fun v3_4 => lt_ (v2_3 + 1) (fun v4_5 => lt_ 0 (fun v5_6 => fX4_bestQuestion_l21 N h N v1 v2_3 v3_4 v4_5 v5_6 s2)))))
set_option maxRecDepth 100000 in
set_option maxHeartbeats 4000000 in
theorem bX4_bestQuestion_0 {x : Cx} {z : Sx} (X : XG x z RX4 cX4_bestQuestion 9 4 92) (E : XE x z) (hr : XR x (some .int)) (hZ : z.2.2.2.1 = kdC) (N : Nat) (h : Nat) (hh : z.2.2.2.1 h = (4, 0)) (v1 : Int32) (σ : Mem) : VK x z 9 (BQ QI x z) 0 [(0, .ref (z.2.2.1 h)), (1, .int v1)] [] σ (fX4_bestQuestion N h v1 σ) := by
  unfold fX4_bestQuestion
  refine V_aload_n 0 X dX4_bestQuestion_0 rfl rfl ?_
  refine V_callI [] [] X E dX4_bestQuestion_1 (kX4_fitting x.2.1 z hZ N h hh σ) co4 hh gcX4_51 hyX4_fitting rfl ⟨by decide, by decide⟩ rfl (Nat.le_of_ble_eq_true rfl) (fun r1 s2 => ?_)
  refine V_istore_nG (L' := fun v2_3 => [(2, .int v2_3), (0, .ref (z.2.2.1 h)), (1, .int v1)]) X dX4_bestQuestion_4 rfl (by decide) (fun _ => rfl) (fun v2_3 => ?_)
  refine V_iload_n 0 X dX4_bestQuestion_5 rfl rfl ?_
  refine V_if_ne (tgt := 11) X dX4_bestQuestion_6 (by decide) ?_ ?_
  · refine V_iconst (v := -1) X dX4_bestQuestion_11 (by decide) ?_
    refine V_istore_nG (L' := fun v3_4 => [(3, .int v3_4), (2, .int v2_3), (0, .ref (z.2.2.1 h)), (1, .int v1)]) X dX4_bestQuestion_12 rfl (by decide) (fun _ => rfl) (fun v3_4 => ?_)
    refine V_iload_n 1 X dX4_bestQuestion_13 rfl rfl ?_
    refine V_iconst (v := 1) X dX4_bestQuestion_14 (by decide) ?_
    refine V_iadd X dX4_bestQuestion_15 ?_
    refine V_istoreG (L' := fun v4_5 => [(4, .int v4_5), (3, .int v3_4), (2, .int v2_3), (0, .ref (z.2.2.1 h)), (1, .int v1)]) X dX4_bestQuestion_16 (by decide) (fun _ => rfl) (fun v4_5 => ?_)
    refine V_iconst (v := 0) X dX4_bestQuestion_18 (by decide) ?_
    refine V_istoreG (L' := fun v5_6 => [(5, .int v5_6), (4, .int v4_5), (3, .int v3_4), (2, .int v2_3), (0, .ref (z.2.2.1 h)), (1, .int v1)]) X dX4_bestQuestion_19 (by decide) (fun _ => rfl) (fun v5_6 => ?_)
    refine V_sub [4, 5, 3, 2, 1, 0] rfl ?_
    exact lX4_bestQuestion_21 X E hr hZ N h hh N v1 v2_3 v3_4 v4_5 v5_6 s2
  · refine V_iconst (v := -1) X dX4_bestQuestion_9 (by decide) ?_
    exact V_iret X E hr dX4_bestQuestion_10
theorem kX4_bestQuestion (l : Launch) (z : Sx) (hZ : z.2.2.2.1 = kdC) (N : Nat) (h : Nat) (hh : z.2.2.2.1 h = (4, 0)) (v1 : Int32) (σ : Mem) : Ct QI yX4_bestQuestion cX4_bestQuestion 9 (some .int) 4 92 l z [.ref (z.2.2.1 h), .int v1] σ (fX4_bestQuestion N h v1 σ) := by
  refine Ct_of (by decide +kernel) (Nat.le_of_ble_eq_true rfl) rfl ?_
  intro x _ X E hr
  exact bX4_bestQuestion_0 X E hr hZ N h hh v1 σ
def fX11_ask (N : Nat) (h : Nat) (v1 : Int32) (v2 : Int32) (σ : Mem) : Option (Int32 × Mem) :=
  bd (fX9_logAt N (h + 1) v1 σ) (fun or1 s2 => mqK (4, 0) or1 (some ((-1), s2)) (fun r1 => if v2 < 0 then some ((-1), s2) else if v2 ≤ 60 then bd (fX4_bestQuestion N r1 v2 s2) (fun r4 s5 => some (r4, s5)) else some ((-1), s2)))
set_option maxRecDepth 100000 in
set_option maxHeartbeats 4000000 in
theorem bX11_ask_0 {x : Cx} {z : Sx} (X : XG x z RX11 cX11_ask 4 5 120) (E : XE x z) (hr : XR x (some .int)) (hZ : z.2.2.2.1 = kdC) (N : Nat) (h : Nat) (hh : z.2.2.2.1 h = (11, 0)) (v1 : Int32) (v2 : Int32) (σ : Mem) : VK x z 4 (BQ QI x z) 0 [(0, .ref (z.2.2.1 h)), (1, .int v1), (2, .int v2)] [] σ (fX11_ask N h v1 v2 σ) := by
  unfold fX11_ask
  refine V_aload_n 0 X dX11_ask_0 rfl rfl ?_
  refine V_getR (k1 := (h + 1)) 0 X dX11_ask_1 co11 hh (by decide) rfl rfl wfX11_10 ?_
  refine V_iload_n 1 X dX11_ask_4 rfl rfl ?_
  refine V_callQC (K := (4, 0)) [.int v1] [] X E hZ dX11_ask_5 (kX9_logAt x.2.1 z hZ N (h + 1) (kt11_0 hZ hh) v1 σ) co9 (kt11_0 hZ hh) gcX11_223 hyX9_logAt rfl ⟨by decide, by decide⟩ rfl (Nat.le_of_ble_eq_true rfl) (fun s2 => ?_) (fun r1 s2 hb3 => ?_)
  · refine V_astore_nN (L' := [(3, .null), (0, .ref (z.2.2.1 h)), (1, .int v1), (2, .int v2)]) X dX11_ask_8 rfl (by decide) rfl ?_
    refine V_aload_nN 0 X dX11_ask_9 rfl rfl ?_
    refine V_ifnullN (tgt := 23) X dX11_ask_10 (by decide) ?_
    refine V_iconst (v := -1) X dX11_ask_23 (by decide) ?_
    exact V_iret X E hr dX11_ask_24
  · refine V_astore_n (L' := [(3, .ref (z.2.2.1 r1)), (0, .ref (z.2.2.1 h)), (1, .int v1), (2, .int v2)]) X dX11_ask_8 rfl (by decide) rfl ?_
    refine V_aload_n 0 X dX11_ask_9 rfl rfl ?_
    refine V_ifnull X dX11_ask_10 ?_
    refine V_iload_n 3 X dX11_ask_13 rfl rfl ?_
    refine V_if_lt (tgt := 23) X dX11_ask_14 (by decide) ?_ ?_
    · refine V_iconst (v := -1) X dX11_ask_23 (by decide) ?_
      exact V_iret X E hr dX11_ask_24
    · refine V_iload_n 3 X dX11_ask_17 rfl rfl ?_
      refine V_bipush (v := 60) X dX11_ask_18 (by decide) ?_
      refine V_icmp_le (tgt := 25) X dX11_ask_20 (by decide) ?_ ?_
      · refine V_aload_n 0 X dX11_ask_25 rfl rfl ?_
        refine V_iload_n 3 X dX11_ask_26 rfl rfl ?_
        refine V_callI [.int v2] [] X E dX11_ask_27 (kX4_bestQuestion x.2.1 z hZ N r1 hb3 v2 s2) co4 hb3 gcX11_242 hyX4_bestQuestion rfl ⟨by decide, by decide⟩ rfl (Nat.le_of_ble_eq_true rfl) (fun r4 s5 => ?_)
        exact V_iret X E hr dX11_ask_30
      · refine V_iconst (v := -1) X dX11_ask_23 (by decide) ?_
        exact V_iret X E hr dX11_ask_24
theorem kX11_ask (l : Launch) (z : Sx) (hZ : z.2.2.2.1 = kdC) (N : Nat) (h : Nat) (hh : z.2.2.2.1 h = (11, 0)) (v1 : Int32) (v2 : Int32) (σ : Mem) : Ct QI yX11_ask cX11_ask 4 (some .int) 5 120 l z [.ref (z.2.2.1 h), .int v1, .int v2] σ (fX11_ask N h v1 v2 σ) := by
  refine Ct_of (by decide +kernel) (Nat.le_of_ble_eq_true rfl) rfl ?_
  intro x _ X E hr
  exact bX11_ask_0 X E hr hZ N h hh v1 v2 σ
def fX1_drawBelow (N : Nat) (h : Nat) (v1 : Int32) (σ : Mem) : Option (Int32 × Mem) :=
  if 0 < v1 then lt_ (pI σ h 6 (((σ.1 h 6) * 1103515245) + 12345)) (fun s1 => gd (!(decide (v1 = 0))) (some ((rmI (usI (s1.1 h 6) 16) v1), s1))) else some ((-1), σ)
set_option maxRecDepth 100000 in
set_option maxHeartbeats 4000000 in
theorem bX1_drawBelow_0 {x : Cx} {z : Sx} (X : XG x z RX1 cX1_drawBelow 2 0 0) (E : XE x z) (hr : XR x (some .int)) (hZ : z.2.2.2.1 = kdC) (N : Nat) (h : Nat) (hh : z.2.2.2.1 h = (1, 0)) (v1 : Int32) (σ : Mem) : VK x z 2 (BQ QI x z) 0 [(0, .ref (z.2.2.1 h)), (1, .int v1)] [] σ (fX1_drawBelow N h v1 σ) := by
  unfold fX1_drawBelow
  refine V_iload_n 1 X dX1_drawBelow_0 rfl rfl ?_
  refine V_if_gt (tgt := 6) X dX1_drawBelow_1 (by decide) ?_ ?_
  · refine V_aload_n 0 X dX1_drawBelow_6 rfl rfl ?_
    refine V_aload_n 0 X dX1_drawBelow_7 rfl rfl ?_
    refine V_getI 6 X dX1_drawBelow_8 co1 hh (by decide) rfl wfX1_149 ?_
    refine V_ldc (v := 1103515245) X dX1_drawBelow_11 csX1_164 ?_
    refine V_imul X dX1_drawBelow_13 ?_
    refine V_sipush (v := 12345) X dX1_drawBelow_14 (by decide) ?_
    refine V_iadd X dX1_drawBelow_17 ?_
    refine V_putIG 6 X dX1_drawBelow_18 co1 hh (by decide) rfl wfX1_149 rfl rfl rfl (fun s1 => ?_)
    refine V_aload_n 0 X dX1_drawBelow_21 rfl rfl ?_
    refine V_getI 6 X dX1_drawBelow_22 co1 hh (by decide) rfl wfX1_149 ?_
    refine V_bipush (v := 16) X dX1_drawBelow_25 (by decide) ?_
    refine V_iushrG X dX1_drawBelow_27 ?_
    refine V_iload_n 1 X dX1_drawBelow_28 rfl rfl ?_
    refine V_iremG X dX1_drawBelow_29 ?_
    exact V_iret X E hr dX1_drawBelow_30
  · refine V_iconst (v := -1) X dX1_drawBelow_4 (by decide) ?_
    exact V_iret X E hr dX1_drawBelow_5
theorem kX1_drawBelow (l : Launch) (z : Sx) (hZ : z.2.2.2.1 = kdC) (N : Nat) (h : Nat) (hh : z.2.2.2.1 h = (1, 0)) (v1 : Int32) (σ : Mem) : Ct QI yX1_drawBelow cX1_drawBelow 2 (some .int) 0 0 l z [.ref (z.2.2.1 h), .int v1] σ (fX1_drawBelow N h v1 σ) := by
  refine Ct_of (by decide +kernel) (Nat.le_of_ble_eq_true rfl) rfl ?_
  intro x _ X E hr
  exact bX1_drawBelow_0 X E hr hZ N h hh v1 σ
def fX1_drawSitting (N : Nat) (h : Nat) (v1 : Int32) (v2 : Int32) (σ : Mem) : Option (Unit × Mem) :=
  bd (fX1_drawBelow N h v1 σ) (fun r1 s2 => lt_ r1 (fun v3_3 => if v3_3 = (-1) then some ((), s2) else bd (fX1_drawBelow N h v2 s2) (fun r4 s5 => bd (fX1_sitsDown N h v3_3 r4 s5) (fun r6 s7 => some ((), s7)))))
set_option maxRecDepth 100000 in
set_option maxHeartbeats 4000000 in
theorem bX1_drawSitting_0 {x : Cx} {z : Sx} (X : XG x z RX1 cX1_drawSitting 4 4 87) (E : XE x z) (hr : XR x none) (hZ : z.2.2.2.1 = kdC) (N : Nat) (h : Nat) (hh : z.2.2.2.1 h = (1, 0)) (v1 : Int32) (v2 : Int32) (σ : Mem) : VK x z 4 (BQ QV x z) 0 [(0, .ref (z.2.2.1 h)), (1, .int v1), (2, .int v2)] [] σ (fX1_drawSitting N h v1 v2 σ) := by
  unfold fX1_drawSitting
  refine V_aload_n 0 X dX1_drawSitting_0 rfl rfl ?_
  refine V_iload_n 1 X dX1_drawSitting_1 rfl rfl ?_
  refine V_callI [.int v1] [] X E dX1_drawSitting_2 (kX1_drawBelow x.2.1 z hZ N h hh v1 σ) co1 hh gcX1_158 hyX1_drawBelow rfl ⟨by decide, by decide⟩ rfl (Nat.le_of_ble_eq_true rfl) (fun r1 s2 => ?_)
  refine V_istore_nG (L' := fun v3_3 => [(3, .int v3_3), (0, .ref (z.2.2.1 h)), (1, .int v1), (2, .int v2)]) X dX1_drawSitting_5 rfl (by decide) (fun _ => rfl) (fun v3_3 => ?_)
  refine V_iload_n 0 X dX1_drawSitting_6 rfl rfl ?_
  refine V_iconst (v := -1) X dX1_drawSitting_7 (by decide) ?_
  refine V_icmp_eq (tgt := 22) X dX1_drawSitting_8 (by decide) ?_ ?_
  · exact V_vret X E hr dX1_drawSitting_22
  · refine V_aload_n 1 X dX1_drawSitting_11 rfl rfl ?_
    refine V_iload_n 0 X dX1_drawSitting_12 rfl rfl ?_
    refine V_aload_n 1 X dX1_drawSitting_13 rfl rfl ?_
    refine V_iload_n 3 X dX1_drawSitting_14 rfl rfl ?_
    refine V_callI [.int v2] [.int v3_3, .ref (z.2.2.1 h)] X E dX1_drawSitting_15 (kX1_drawBelow x.2.1 z hZ N h hh v2 s2) co1 hh gcX1_158 hyX1_drawBelow rfl ⟨by decide, by decide⟩ rfl (Nat.le_of_ble_eq_true rfl) (fun r4 s5 => ?_)
    refine V_callI [.int v3_3, .int r4] [] X E dX1_drawSitting_18 (kX1_sitsDown x.2.1 z hZ N h hh v3_3 r4 s5) co1 hh gcX1_92 hyX1_sitsDown rfl ⟨by decide, by decide⟩ rfl (Nat.le_of_ble_eq_true rfl) (fun r6 s7 => ?_)
    refine V_pop X dX1_drawSitting_21 rfl ?_
    exact V_vret X E hr dX1_drawSitting_22
theorem kX1_drawSitting (l : Launch) (z : Sx) (hZ : z.2.2.2.1 = kdC) (N : Nat) (h : Nat) (hh : z.2.2.2.1 h = (1, 0)) (v1 : Int32) (v2 : Int32) (σ : Mem) : Ct QV yX1_drawSitting cX1_drawSitting 4 none 4 87 l z [.ref (z.2.2.1 h), .int v1, .int v2] σ (fX1_drawSitting N h v1 v2 σ) := by
  refine Ct_of (by decide +kernel) (Nat.le_of_ble_eq_true rfl) rfl ?_
  intro x _ X E hr
  exact bX1_drawSitting_0 X E hr hZ N h hh v1 v2 σ
def fX1_drawDeed_b147 (N : Nat) (h : Nat) (t0 : Int32) (t1 : Nat) (σ : Mem) : Option (Unit × Mem) :=
  bd (fX1_changesDamp N t1 t0 σ) (fun r27 s28 => some ((), s28))
set_option maxRecDepth 100000 in
set_option maxHeartbeats 4000000 in
theorem bX1_drawDeed_147 {x : Cx} {z : Sx} (X : XG x z RX1 cX1_drawDeed 3 5 117) (E : XE x z) (hr : XR x none) (hZ : z.2.2.2.1 = kdC) (N : Nat) (h : Nat) (hh : z.2.2.2.1 h = (1, 0)) (t0 : Int32) (t1 : Nat) (hkt1 : z.2.2.2.1 t1 = (1, 0)) (σ : Mem) : VK x z 3 (BQ QV x z) 147 [(0, .ref (z.2.2.1 h))] [.int t0, .ref (z.2.2.1 t1)] σ (fX1_drawDeed_b147 N h t0 t1 σ) := by
  unfold fX1_drawDeed_b147
  refine V_callI [.int t0] [] X E dX1_drawDeed_147 (kX1_changesDamp x.2.1 z hZ N t1 hkt1 t0 σ) co1 hkt1 gcX1_96 hyX1_changesDamp rfl ⟨by decide, by decide⟩ rfl (Nat.le_of_ble_eq_true rfl) (fun r27 s28 => ?_)
  refine V_pop X dX1_drawDeed_150 rfl ?_
  refine V_goto (tgt := 161) X dX1_drawDeed_151 (by decide) ?_
  exact V_vret X E hr dX1_drawDeed_161
def fX1_drawDeed_b72 (N : Nat) (h : Nat) (σ : Mem) : Option (Unit × Mem) :=
  bd (fX1_drawBelow N h 64 σ) (fun r23 s24 => bd (fX1_putMotion N h r23 s24) (fun r25 s26 => some ((), s26)))
set_option maxRecDepth 100000 in
set_option maxHeartbeats 4000000 in
theorem bX1_drawDeed_72 {x : Cx} {z : Sx} (X : XG x z RX1 cX1_drawDeed 3 5 117) (E : XE x z) (hr : XR x none) (hZ : z.2.2.2.1 = kdC) (N : Nat) (h : Nat) (hh : z.2.2.2.1 h = (1, 0)) (σ : Mem) : VK x z 3 (BQ QV x z) 72 [(0, .ref (z.2.2.1 h))] [] σ (fX1_drawDeed_b72 N h σ) := by
  unfold fX1_drawDeed_b72
  refine V_aload_n 0 X dX1_drawDeed_72 rfl rfl ?_
  refine V_aload_n 0 X dX1_drawDeed_73 rfl rfl ?_
  refine V_bipush (v := 64) X dX1_drawDeed_74 (by decide) ?_
  refine V_callI [.int 64] [.ref (z.2.2.1 h)] X E dX1_drawDeed_76 (kX1_drawBelow x.2.1 z hZ N h hh 64 σ) co1 hh gcX1_158 hyX1_drawBelow rfl ⟨by decide, by decide⟩ rfl (Nat.le_of_ble_eq_true rfl) (fun r23 s24 => ?_)
  refine V_callV [.int r23] [] X E dX1_drawDeed_79 (kX1_putMotion x.2.1 z hZ N h hh r23 s24) co1 hh gcX1_78 hyX1_putMotion rfl ⟨by decide, by decide⟩ rfl (Nat.le_of_ble_eq_true rfl) (fun r25 s26 => ?_)
  refine V_goto (tgt := 161) X dX1_drawDeed_82 (by decide) ?_
  exact V_vret X E hr dX1_drawDeed_161
def fX1_drawDeed (N : Nat) (h : Nat) (σ : Mem) : Option (Unit × Mem) :=
  lt_ (σ.1 ((h + 1) + 1) 1) (fun v1_1 => lt_ (σ.1 ((h + 1) + 1) 0) (fun v2_2 => bd (fX1_drawBelow N h 8 σ) (fun r3 s4 => if r3 = 0 then fX1_drawDeed_b72 N h s4 else if r3 = 1 then fX1_drawDeed_b72 N h s4 else if r3 = 2 then bd (fX1_drawSitting N h v1_1 v2_2 s4) (fun r5 s6 => some ((), s6)) else if r3 = 3 then bd (fX1_drawBelow N h v1_1 s4) (fun r7 s8 => bd (fX1_standsUp N h r7 s8) (fun r9 s10 => some ((), s10))) else if r3 = 4 then bd (fX1_drawBelow N h v2_2 s4) (fun r11 s12 => bd (fX1_takesWax N h r11 s12) (fun r13 s14 => some ((), s14))) else if r3 = 5 then bd (fX1_drawBelow N h v2_2 s4) (fun r15 s16 => bd (fX1_isSetUp N h r15 s16) (fun r17 s18 => some ((), s18))) else if r3 = 6 then bd (fX1_drawBelow N h 2 s4) (fun r19 s20 => if r19 = 0 then fX1_drawDeed_b147 N h 1 h s20 else fX1_drawDeed_b147 N h (-1) h s20) else bd (fX2_passNight N (h + 1) s4) (fun r21 s22 => some ((), s22)))))
set_option maxRecDepth 100000 in
set_option maxHeartbeats 4000000 in
theorem bX1_drawDeed_0 {x : Cx} {z : Sx} (X : XG x z RX1 cX1_drawDeed 3 5 117) (E : XE x z) (hr : XR x none) (hZ : z.2.2.2.1 = kdC) (N : Nat) (h : Nat) (hh : z.2.2.2.1 h = (1, 0)) (σ : Mem) : VK x z 3 (BQ QV x z) 0 [(0, .ref (z.2.2.1 h))] [] σ (fX1_drawDeed N h σ) := by
  unfold fX1_drawDeed
  refine V_aload_n 0 X dX1_drawDeed_0 rfl rfl ?_
  refine V_getR (k1 := (h + 1)) 0 X dX1_drawDeed_1 co1 hh (by decide) rfl rfl wfX1_12 ?_
  refine V_getR (k1 := ((h + 1) + 1)) 0 X dX1_drawDeed_4 co2 (kt1_0 hZ hh) (by decide) rfl rfl wfX1_109 ?_
  refine V_getI 1 X dX1_drawDeed_7 co0 (kt2_0 hZ (kt1_0 hZ hh)) (by decide) rfl wfX1_155 ?_
  refine V_istore_nG (L' := fun v1_1 => [(1, .int v1_1), (0, .ref (z.2.2.1 h))]) X dX1_drawDeed_10 rfl (by decide) (fun _ => rfl) (fun v1_1 => ?_)
  refine V_aload_n 1 X dX1_drawDeed_11 rfl rfl ?_
  refine V_getR (k1 := (h + 1)) 0 X dX1_drawDeed_12 co1 hh (by decide) rfl rfl wfX1_12 ?_
  refine V_getR (k1 := ((h + 1) + 1)) 0 X dX1_drawDeed_15 co2 (kt1_0 hZ hh) (by decide) rfl rfl wfX1_109 ?_
  refine V_getI 0 X dX1_drawDeed_18 co0 (kt2_0 hZ (kt1_0 hZ hh)) (by decide) rfl wfX1_113 ?_
  refine V_istore_nG (L' := fun v2_2 => [(2, .int v2_2), (1, .int v1_1), (0, .ref (z.2.2.1 h))]) X dX1_drawDeed_21 rfl (by decide) (fun _ => rfl) (fun v2_2 => ?_)
  refine V_aload_n 2 X dX1_drawDeed_22 rfl rfl ?_
  refine V_bipush (v := 8) X dX1_drawDeed_23 (by decide) ?_
  refine V_callI [.int 8] [] X E dX1_drawDeed_25 (kX1_drawBelow x.2.1 z hZ N h hh 8 σ) co1 hh gcX1_158 hyX1_drawBelow rfl ⟨by decide, by decide⟩ rfl (Nat.le_of_ble_eq_true rfl) (fun r3 s4 => ?_)
  refine V_split (c := 0) (fun n28_0 => ?_) (fun n28_0 => ?_)
  · refine V_tabAt (c := 0) (tgt := 72) X dX1_drawDeed_28 n28_0 (by decide) (by decide) (by rfl) (by decide) ?_
    refine V_sub [2] rfl ?_
    exact bX1_drawDeed_72 X E hr hZ N h hh s4
  refine V_split (c := 1) (fun n28_1 => ?_) (fun n28_1 => ?_)
  · refine V_tabAt (c := 1) (tgt := 72) X dX1_drawDeed_28 n28_1 (by decide) (by decide) (by rfl) (by decide) ?_
    refine V_sub [2] rfl ?_
    exact bX1_drawDeed_72 X E hr hZ N h hh s4
  refine V_split (c := 2) (fun n28_2 => ?_) (fun n28_2 => ?_)
  · refine V_tabAt (c := 2) (tgt := 85) X dX1_drawDeed_28 n28_2 (by decide) (by decide) (by rfl) (by decide) ?_
    refine V_aload_n 2 X dX1_drawDeed_85 rfl rfl ?_
    refine V_iload_n 1 X dX1_drawDeed_86 rfl rfl ?_
    refine V_iload_n 0 X dX1_drawDeed_87 rfl rfl ?_
    refine V_callV [.int v1_1, .int v2_2] [] X E dX1_drawDeed_88 (kX1_drawSitting x.2.1 z hZ N h hh v1_1 v2_2 s4) co1 hh gcX1_161 hyX1_drawSitting rfl ⟨by decide, by decide⟩ rfl (Nat.le_of_ble_eq_true rfl) (fun r5 s6 => ?_)
    refine V_goto (tgt := 161) X dX1_drawDeed_91 (by decide) ?_
    exact V_vret X E hr dX1_drawDeed_161
  refine V_split (c := 3) (fun n28_3 => ?_) (fun n28_3 => ?_)
  · refine V_tabAt (c := 3) (tgt := 94) X dX1_drawDeed_28 n28_3 (by decide) (by decide) (by rfl) (by decide) ?_
    refine V_aload_n 2 X dX1_drawDeed_94 rfl rfl ?_
    refine V_aload_n 2 X dX1_drawDeed_95 rfl rfl ?_
    refine V_iload_n 1 X dX1_drawDeed_96 rfl rfl ?_
    refine V_callI [.int v1_1] [.ref (z.2.2.1 h)] X E dX1_drawDeed_97 (kX1_drawBelow x.2.1 z hZ N h hh v1_1 s4) co1 hh gcX1_158 hyX1_drawBelow rfl ⟨by decide, by decide⟩ rfl (Nat.le_of_ble_eq_true rfl) (fun r7 s8 => ?_)
    refine V_callI [.int r7] [] X E dX1_drawDeed_100 (kX1_standsUp x.2.1 z hZ N h hh r7 s8) co1 hh gcX1_82 hyX1_standsUp rfl ⟨by decide, by decide⟩ rfl (Nat.le_of_ble_eq_true rfl) (fun r9 s10 => ?_)
    refine V_pop X dX1_drawDeed_103 rfl ?_
    refine V_goto (tgt := 161) X dX1_drawDeed_104 (by decide) ?_
    exact V_vret X E hr dX1_drawDeed_161
  refine V_split (c := 4) (fun n28_4 => ?_) (fun n28_4 => ?_)
  · refine V_tabAt (c := 4) (tgt := 107) X dX1_drawDeed_28 n28_4 (by decide) (by decide) (by rfl) (by decide) ?_
    refine V_aload_n 2 X dX1_drawDeed_107 rfl rfl ?_
    refine V_aload_n 2 X dX1_drawDeed_108 rfl rfl ?_
    refine V_iload_n 0 X dX1_drawDeed_109 rfl rfl ?_
    refine V_callI [.int v2_2] [.ref (z.2.2.1 h)] X E dX1_drawDeed_110 (kX1_drawBelow x.2.1 z hZ N h hh v2_2 s4) co1 hh gcX1_158 hyX1_drawBelow rfl ⟨by decide, by decide⟩ rfl (Nat.le_of_ble_eq_true rfl) (fun r11 s12 => ?_)
    refine V_callI [.int r11] [] X E dX1_drawDeed_113 (kX1_takesWax x.2.1 z hZ N h hh r11 s12) co1 hh gcX1_86 hyX1_takesWax rfl ⟨by decide, by decide⟩ rfl (Nat.le_of_ble_eq_true rfl) (fun r13 s14 => ?_)
    refine V_pop X dX1_drawDeed_116 rfl ?_
    refine V_goto (tgt := 161) X dX1_drawDeed_117 (by decide) ?_
    exact V_vret X E hr dX1_drawDeed_161
  refine V_split (c := 5) (fun n28_5 => ?_) (fun n28_5 => ?_)
  · refine V_tabAt (c := 5) (tgt := 120) X dX1_drawDeed_28 n28_5 (by decide) (by decide) (by rfl) (by decide) ?_
    refine V_aload_n 2 X dX1_drawDeed_120 rfl rfl ?_
    refine V_aload_n 2 X dX1_drawDeed_121 rfl rfl ?_
    refine V_iload_n 0 X dX1_drawDeed_122 rfl rfl ?_
    refine V_callI [.int v2_2] [.ref (z.2.2.1 h)] X E dX1_drawDeed_123 (kX1_drawBelow x.2.1 z hZ N h hh v2_2 s4) co1 hh gcX1_158 hyX1_drawBelow rfl ⟨by decide, by decide⟩ rfl (Nat.le_of_ble_eq_true rfl) (fun r15 s16 => ?_)
    refine V_callI [.int r15] [] X E dX1_drawDeed_126 (kX1_isSetUp x.2.1 z hZ N h hh r15 s16) co1 hh gcX1_89 hyX1_isSetUp rfl ⟨by decide, by decide⟩ rfl (Nat.le_of_ble_eq_true rfl) (fun r17 s18 => ?_)
    refine V_pop X dX1_drawDeed_129 rfl ?_
    refine V_goto (tgt := 161) X dX1_drawDeed_130 (by decide) ?_
    exact V_vret X E hr dX1_drawDeed_161
  refine V_split (c := 6) (fun n28_6 => ?_) (fun n28_6 => ?_)
  · refine V_tabAt (c := 6) (tgt := 133) X dX1_drawDeed_28 n28_6 (by decide) (by decide) (by rfl) (by decide) ?_
    refine V_aload_n 2 X dX1_drawDeed_133 rfl rfl ?_
    refine V_aload_n 2 X dX1_drawDeed_134 rfl rfl ?_
    refine V_iconst (v := 2) X dX1_drawDeed_135 (by decide) ?_
    refine V_callI [.int 2] [.ref (z.2.2.1 h)] X E dX1_drawDeed_136 (kX1_drawBelow x.2.1 z hZ N h hh 2 s4) co1 hh gcX1_158 hyX1_drawBelow rfl ⟨by decide, by decide⟩ rfl (Nat.le_of_ble_eq_true rfl) (fun r19 s20 => ?_)
    refine V_if_ne (tgt := 146) X dX1_drawDeed_139 (by decide) ?_ ?_
    · refine V_iconst (v := -1) X dX1_drawDeed_146 (by decide) ?_
      refine V_sub [2] rfl ?_
      exact bX1_drawDeed_147 X E hr hZ N h hh (-1) h hh s20
    · refine V_iconst (v := 1) X dX1_drawDeed_142 (by decide) ?_
      refine V_goto (tgt := 147) X dX1_drawDeed_143 (by decide) ?_
      refine V_sub [2] rfl ?_
      exact bX1_drawDeed_147 X E hr hZ N h hh 1 h hh s20
  refine V_tabDef (tgt := 154) X dX1_drawDeed_28 (swOut (a := r3) (fun q q1 q2 => by rcases (show q = 0 ∨ q = 1 ∨ q = 2 ∨ q = 3 ∨ q = 4 ∨ q = 5 ∨ q = 6 by omega) with rfl | rfl | rfl | rfl | rfl | rfl | rfl <;> first | exact sw_ne n28_0 (by decide) | exact sw_ne n28_1 (by decide) | exact sw_ne n28_2 (by decide) | exact sw_ne n28_3 (by decide) | exact sw_ne n28_4 (by decide) | exact sw_ne n28_5 (by decide) | exact sw_ne n28_6 (by decide))) (by decide) ?_
  refine V_aload_n 2 X dX1_drawDeed_154 rfl rfl ?_
  refine V_getR (k1 := (h + 1)) 0 X dX1_drawDeed_155 co1 hh (by decide) rfl rfl wfX1_12 ?_
  refine V_callV [] [] X E dX1_drawDeed_158 (kX2_passNight x.2.1 z hZ N (h + 1) (kt1_0 hZ hh) s4) co2 (kt1_0 hZ hh) gcX1_99 hyX2_passNight rfl ⟨by decide, by decide⟩ rfl (Nat.le_of_ble_eq_true rfl) (fun r21 s22 => ?_)
  exact V_vret X E hr dX1_drawDeed_161
theorem kX1_drawDeed (l : Launch) (z : Sx) (hZ : z.2.2.2.1 = kdC) (N : Nat) (h : Nat) (hh : z.2.2.2.1 h = (1, 0)) (σ : Mem) : Ct QV yX1_drawDeed cX1_drawDeed 3 none 5 117 l z [.ref (z.2.2.1 h)] σ (fX1_drawDeed N h σ) := by
  refine Ct_of (by decide +kernel) (Nat.le_of_ble_eq_true rfl) rfl ?_
  intro x _ X E hr
  exact bX1_drawDeed_0 X E hr hZ N h hh σ
def fX1_draw_b13 (N : Nat) (h : Nat) (rc13 : Int32 → Int32 → Mem → Option (Unit × Mem)) (v3 : Int32) (v4 : Int32) (σ : Mem) : Option (Unit × Mem) :=
  if v3 ≤ v4 then some ((), σ) else bd (fX1_drawDeed N h σ) (fun r5 s6 => lt_ (v4 + 1) (fun v4_7 => rc13 v3 v4_7 s6))
set_option maxRecDepth 100000 in
set_option maxHeartbeats 4000000 in
theorem bX1_draw_13 {x : Cx} {z : Sx} (X : XG x z RX1 cX1_draw 5 6 139) (E : XE x z) (hr : XR x none) (hZ : z.2.2.2.1 = kdC) (N : Nat) (h : Nat) (hh : z.2.2.2.1 h = (1, 0)) (rc13 : Int32 → Int32 → Mem → Option (Unit × Mem)) (hc13 : ∀ (v3 : Int32) (v4 : Int32) (σ : Mem), VK x z 5 (BQ QV x z) 13 [(0, .ref (z.2.2.1 h)), (3, .int v3), (4, .int v4)] [] σ (rc13 v3 v4 σ)) (v3 : Int32) (v4 : Int32) (σ : Mem) : VK x z 5 (BQ QV x z) 13 [(0, .ref (z.2.2.1 h)), (3, .int v3), (4, .int v4)] [] σ (fX1_draw_b13 N h rc13 v3 v4 σ) := by
  unfold fX1_draw_b13
  refine V_iload 2 X dX1_draw_13 rfl ?_
  refine V_iload_n 1 X dX1_draw_15 rfl rfl ?_
  refine V_icmp_ge (tgt := 29) X dX1_draw_16 (by decide) ?_ ?_
  · exact V_vret X E hr dX1_draw_29
  · refine V_aload_n 0 X dX1_draw_19 rfl rfl ?_
    refine V_callV [] [] X E dX1_draw_20 (kX1_drawDeed x.2.1 z hZ N h hh σ) co1 hh gcX1_152 hyX1_drawDeed rfl ⟨by decide, by decide⟩ rfl (Nat.le_of_ble_eq_true rfl) (fun r5 s6 => ?_)
    refine V_iincG (L' := fun v4_7 => [(4, .int v4_7), (0, .ref (z.2.2.1 h)), (3, .int v3)]) 2 X dX1_draw_23 rfl rfl (by decide) (fun _ => rfl) (fun v4_7 => ?_)
    refine V_goto (tgt := 13) X dX1_draw_26 (by decide) ?_
    refine V_sub [1, 2, 0] rfl ?_
    exact hc13 v3 v4_7 s6
def fX1_draw_l13 (N : Nat) (h : Nat) : Nat → Int32 → Int32 → Mem → Option (Unit × Mem)
  | 0 => fun _ _ _ => none
  | n + 1 => fX1_draw_b13 N h (fX1_draw_l13 N h n)
theorem lX1_draw_13 {x : Cx} {z : Sx} (X : XG x z RX1 cX1_draw 5 6 139) (E : XE x z) (hr : XR x none) (hZ : z.2.2.2.1 = kdC) (N : Nat) (h : Nat) (hh : z.2.2.2.1 h = (1, 0)) (n : Nat) (v3 : Int32) (v4 : Int32) (σ : Mem) : VK x z 5 (BQ QV x z) 13 [(0, .ref (z.2.2.1 h)), (3, .int v3), (4, .int v4)] [] σ (fX1_draw_l13 N h n v3 v4 σ) := by
  induction n generalizing v3 v4 σ with
  | zero => exact V_none
  | succ n ih => exact bX1_draw_13 X E hr hZ N h hh (fX1_draw_l13 N h n) ih v3 v4 σ
def fX1_draw (N : Nat) (h : Nat) (v1 : Nat) (v2 : Int32) (v3 : Int32) (σ : Mem) : Option (Unit × Mem) :=
  bd (fX1_begin N h v1 σ) (fun r1 s2 => lt_ (pI s2 h 6 v2) (fun s3 => lt_ 0 (fun v4_4 => fX1_draw_l13 N h N v3 v4_4 s3)))
set_option maxRecDepth 100000 in
set_option maxHeartbeats 4000000 in
theorem bX1_draw_0 {x : Cx} {z : Sx} (X : XG x z RX1 cX1_draw 5 6 139) (E : XE x z) (hr : XR x none) (hZ : z.2.2.2.1 = kdC) (N : Nat) (h : Nat) (hh : z.2.2.2.1 h = (1, 0)) (v1 : Nat) (v2 : Int32) (v3 : Int32) (hk1 : z.2.2.2.1 v1 = (0, 0)) (σ : Mem) : VK x z 5 (BQ QV x z) 0 [(0, .ref (z.2.2.1 h)), (1, .ref (z.2.2.1 v1)), (2, .int v2), (3, .int v3)] [] σ (fX1_draw N h v1 v2 v3 σ) := by
  unfold fX1_draw
  refine V_aload_n 0 X dX1_draw_0 rfl rfl ?_
  refine V_aload_n 1 X dX1_draw_1 rfl rfl ?_
  refine V_callV [.ref (z.2.2.1 v1)] [] X E dX1_draw_2 (kX1_begin x.2.1 z hZ N h hh v1 hk1 σ) co1 hh gcX1_48 hyX1_begin rfl ⟨by decide, by decide⟩ rfl (Nat.le_of_ble_eq_true rfl) (fun r1 s2 => ?_)
  refine V_aload_n 0 X dX1_draw_5 rfl rfl ?_
  refine V_iload_n 2 X dX1_draw_6 rfl rfl ?_
  refine V_putIG 6 X dX1_draw_7 co1 hh (by decide) rfl wfX1_149 rfl rfl rfl (fun s3 => ?_)
  refine V_iconst (v := 0) X dX1_draw_10 (by decide) ?_
  refine V_istoreG (L' := fun v4_4 => [(4, .int v4_4), (0, .ref (z.2.2.1 h)), (1, .ref (z.2.2.1 v1)), (2, .int v2), (3, .int v3)]) X dX1_draw_11 (by decide) (fun _ => rfl) (fun v4_4 => ?_)
  refine V_sub [1, 4, 0] rfl ?_
  exact lX1_draw_13 X E hr hZ N h hh N v3 v4_4 s3
theorem kX1_draw (l : Launch) (z : Sx) (hZ : z.2.2.2.1 = kdC) (N : Nat) (h : Nat) (hh : z.2.2.2.1 h = (1, 0)) (v1 : Nat) (v2 : Int32) (v3 : Int32) (hk1 : z.2.2.2.1 v1 = (0, 0)) (σ : Mem) : Ct QV yX1_draw cX1_draw 5 none 6 139 l z [.ref (z.2.2.1 h), .ref (z.2.2.1 v1), .int v2, .int v3] σ (fX1_draw N h v1 v2 v3 σ) := by
  refine Ct_of (by decide +kernel) (Nat.le_of_ble_eq_true rfl) rfl ?_
  intro x _ X E hr
  exact bX1_draw_0 X E hr hZ N h hh v1 v2 v3 hk1 σ
def fX11_drawn (N : Nat) (h : Nat) (v1 : Int32) (v2 : Int32) (v3 : Int32) (v4 : Int32) (σ : Mem) : Option (Int32 × Mem) :=
  bd (fX9_chamberAt N (h + 1) v1 σ) (fun or1 s2 => mqK (0, 0) or1 (some ((-2), s2)) (fun r1 => if v3 < 0 then some ((-2), s2) else if v3 ≤ 60 then bd (fX1_draw N (h + 205) r1 v2 v3 s2) (fun r4 s5 => bd (fX1_tell N (h + 205) v4 s5) (fun r6 s7 => some (r6, s7))) else some ((-2), s2)))
set_option maxRecDepth 100000 in
set_option maxHeartbeats 4000000 in
theorem bX11_drawn_0 {x : Cx} {z : Sx} (X : XG x z RX11 cX11_drawn 6 7 163) (E : XE x z) (hr : XR x (some .int)) (hZ : z.2.2.2.1 = kdC) (N : Nat) (h : Nat) (hh : z.2.2.2.1 h = (11, 0)) (v1 : Int32) (v2 : Int32) (v3 : Int32) (v4 : Int32) (σ : Mem) : VK x z 6 (BQ QI x z) 0 [(0, .ref (z.2.2.1 h)), (1, .int v1), (2, .int v2), (3, .int v3), (4, .int v4)] [] σ (fX11_drawn N h v1 v2 v3 v4 σ) := by
  unfold fX11_drawn
  refine V_aload_n 0 X dX11_drawn_0 rfl rfl ?_
  refine V_getR (k1 := (h + 1)) 0 X dX11_drawn_1 co11 hh (by decide) rfl rfl wfX11_10 ?_
  refine V_iload_n 1 X dX11_drawn_4 rfl rfl ?_
  refine V_callQC (K := (0, 0)) [.int v1] [] X E hZ dX11_drawn_5 (kX9_chamberAt x.2.1 z hZ N (h + 1) (kt11_0 hZ hh) v1 σ) co9 (kt11_0 hZ hh) gcX11_105 hyX9_chamberAt rfl ⟨by decide, by decide⟩ rfl (Nat.le_of_ble_eq_true rfl) (fun s2 => ?_) (fun r1 s2 hb3 => ?_)
  · refine V_astoreN (L' := [(5, .null), (0, .ref (z.2.2.1 h)), (1, .int v1), (2, .int v2), (3, .int v3), (4, .int v4)]) X dX11_drawn_8 (by decide) rfl ?_
    refine V_aloadN 0 X dX11_drawn_10 rfl ?_
    refine V_ifnullN (tgt := 25) X dX11_drawn_12 (by decide) ?_
    refine V_bipush (v := -2) X dX11_drawn_25 (by decide) ?_
    exact V_iret X E hr dX11_drawn_27
  · refine V_astore (L' := [(5, .ref (z.2.2.1 r1)), (0, .ref (z.2.2.1 h)), (1, .int v1), (2, .int v2), (3, .int v3), (4, .int v4)]) X dX11_drawn_8 (by decide) rfl ?_
    refine V_aload 0 X dX11_drawn_10 rfl ?_
    refine V_ifnull X dX11_drawn_12 ?_
    refine V_iload_n 4 X dX11_drawn_15 rfl rfl ?_
    refine V_if_lt (tgt := 25) X dX11_drawn_16 (by decide) ?_ ?_
    · refine V_bipush (v := -2) X dX11_drawn_25 (by decide) ?_
      exact V_iret X E hr dX11_drawn_27
    · refine V_iload_n 4 X dX11_drawn_19 rfl rfl ?_
      refine V_bipush (v := 60) X dX11_drawn_20 (by decide) ?_
      refine V_icmp_le (tgt := 28) X dX11_drawn_22 (by decide) ?_ ?_
      · refine V_aload_n 1 X dX11_drawn_28 rfl rfl ?_
        refine V_getR (k1 := (h + 205)) 5 X dX11_drawn_29 co11 hh (by decide) rfl rfl wfX11_41 ?_
        refine V_aload 0 X dX11_drawn_32 rfl ?_
        refine V_iload_n 3 X dX11_drawn_34 rfl rfl ?_
        refine V_iload_n 4 X dX11_drawn_35 rfl rfl ?_
        refine V_callV [.ref (z.2.2.1 r1), .int v2, .int v3] [] X E dX11_drawn_36 (kX1_draw x.2.1 z hZ N (h + 205) (kt11_5 hZ hh) r1 v2 v3 hb3 s2) co1 (kt11_5 hZ hh) gcX11_245 hyX1_draw rfl ⟨by decide, by decide⟩ rfl (Nat.le_of_ble_eq_true rfl) (fun r4 s5 => ?_)
        refine V_aload_n 1 X dX11_drawn_39 rfl rfl ?_
        refine V_getR (k1 := (h + 205)) 5 X dX11_drawn_40 co11 hh (by decide) rfl rfl wfX11_41 ?_
        refine V_iload 5 X dX11_drawn_43 rfl ?_
        refine V_callI [.int v4] [] X E dX11_drawn_45 (kX1_tell x.2.1 z hZ N (h + 205) (kt11_5 hZ hh) v4 s5) co1 (kt11_5 hZ hh) gcX11_157 hyX1_tell rfl ⟨by decide, by decide⟩ rfl (Nat.le_of_ble_eq_true rfl) (fun r6 s7 => ?_)
        exact V_iret X E hr dX11_drawn_48
      · refine V_bipush (v := -2) X dX11_drawn_25 (by decide) ?_
        exact V_iret X E hr dX11_drawn_27
theorem kX11_drawn (l : Launch) (z : Sx) (hZ : z.2.2.2.1 = kdC) (N : Nat) (h : Nat) (hh : z.2.2.2.1 h = (11, 0)) (v1 : Int32) (v2 : Int32) (v3 : Int32) (v4 : Int32) (σ : Mem) : Ct QI yX11_drawn cX11_drawn 6 (some .int) 7 163 l z [.ref (z.2.2.1 h), .int v1, .int v2, .int v3, .int v4] σ (fX11_drawn N h v1 v2 v3 v4 σ) := by
  refine Ct_of (by decide +kernel) (Nat.le_of_ble_eq_true rfl) rfl ?_
  intro x _ X E hr
  exact bX11_drawn_0 X E hr hZ N h hh v1 v2 v3 v4 σ
def fX11_askedOf_b22 (N : Nat) (h : Nat) (σ : Mem) : Option (Option Nat × Mem) :=
  some (none, σ)
set_option maxRecDepth 100000 in
set_option maxHeartbeats 4000000 in
theorem bX11_askedOf_22 {x : Cx} {z : Sx} (X : XG x z RX11 cX11_askedOf 5 3 65) (E : XE x z) (hr : XR x (some (.object "FurnitureVotes$Chamber"))) (hZ : z.2.2.2.1 = kdC) (N : Nat) (h : Nat) (hh : z.2.2.2.1 h = (11, 0)) (σ : Mem) : VK x z 5 (BQ QQ x z) 22 [(0, .ref (z.2.2.1 h))] [] σ (fX11_askedOf_b22 N h σ) := by
  unfold fX11_askedOf_b22
  refine V_null X dX11_askedOf_22 ?_
  refine V_goto (tgt := 28) X dX11_askedOf_23 (by decide) ?_
  exact V_aretN X E hr dX11_askedOf_28
def fX11_askedOf (N : Nat) (h : Nat) (v1 : Int32) (v2 : Int32) (v3 : Int32) (σ : Mem) : Option (Option Nat × Mem) :=
  bd (fX11_asked N h v1 v2 σ) (fun or1 s2 => mqK (0, 0) or1 (fX11_askedOf_b22 N h s2) (fun r1 => bd (fX0_hasPiece N r1 v3 s2) (fun r4 s5 => if r4 = 0 then fX11_askedOf_b22 N h s5 else some (some r1, s5))))
set_option maxRecDepth 100000 in
set_option maxHeartbeats 4000000 in
theorem bX11_askedOf_0 {x : Cx} {z : Sx} (X : XG x z RX11 cX11_askedOf 5 3 65) (E : XE x z) (hr : XR x (some (.object "FurnitureVotes$Chamber"))) (hZ : z.2.2.2.1 = kdC) (N : Nat) (h : Nat) (hh : z.2.2.2.1 h = (11, 0)) (v1 : Int32) (v2 : Int32) (v3 : Int32) (σ : Mem) : VK x z 5 (BQ QQ x z) 0 [(0, .ref (z.2.2.1 h)), (1, .int v1), (2, .int v2), (3, .int v3)] [] σ (fX11_askedOf N h v1 v2 v3 σ) := by
  unfold fX11_askedOf
  refine V_aload_n 0 X dX11_askedOf_0 rfl rfl ?_
  refine V_iload_n 1 X dX11_askedOf_1 rfl rfl ?_
  refine V_iload_n 2 X dX11_askedOf_2 rfl rfl ?_
  refine V_callQC (K := (0, 0)) [.int v1, .int v2] [] X E hZ dX11_askedOf_3 (kX11_asked x.2.1 z hZ N h hh v1 v2 σ) co11 hh gcX11_115 hyX11_asked rfl ⟨by decide, by decide⟩ rfl (Nat.le_of_ble_eq_true rfl) (fun s2 => ?_) (fun r1 s2 hb3 => ?_)
  · refine V_astoreN (L' := [(4, .null), (0, .ref (z.2.2.1 h)), (1, .int v1), (2, .int v2), (3, .int v3)]) X dX11_askedOf_6 (by decide) rfl ?_
    refine V_aloadN 0 X dX11_askedOf_8 rfl ?_
    refine V_ifnullN (tgt := 22) X dX11_askedOf_10 (by decide) ?_
    refine V_sub [1] rfl ?_
    exact bX11_askedOf_22 X E hr hZ N h hh s2
  · refine V_astore (L' := [(4, .ref (z.2.2.1 r1)), (0, .ref (z.2.2.1 h)), (1, .int v1), (2, .int v2), (3, .int v3)]) X dX11_askedOf_6 (by decide) rfl ?_
    refine V_aload 0 X dX11_askedOf_8 rfl ?_
    refine V_ifnull X dX11_askedOf_10 ?_
    refine V_aload 0 X dX11_askedOf_13 rfl ?_
    refine V_iload_n 4 X dX11_askedOf_15 rfl rfl ?_
    refine V_callI [.int v3] [] X E dX11_askedOf_16 (kX0_hasPiece x.2.1 z hZ N r1 hb3 v3 s2) co0 hb3 gcX11_364 hyX0_hasPiece rfl ⟨by decide, by decide⟩ rfl (Nat.le_of_ble_eq_true rfl) (fun r4 s5 => ?_)
    refine V_if_ne (tgt := 26) X dX11_askedOf_19 (by decide) ?_ ?_
    · refine V_aload 0 X dX11_askedOf_26 rfl ?_
      exact V_aret X E hr dX11_askedOf_28
    · refine V_sub [1] rfl ?_
      exact bX11_askedOf_22 X E hr hZ N h hh s5
theorem kX11_askedOf (l : Launch) (z : Sx) (hZ : z.2.2.2.1 = kdC) (N : Nat) (h : Nat) (hh : z.2.2.2.1 h = (11, 0)) (v1 : Int32) (v2 : Int32) (v3 : Int32) (σ : Mem) : Ct QQ yX11_askedOf cX11_askedOf 5 (some (.object "FurnitureVotes$Chamber")) 3 65 l z [.ref (z.2.2.1 h), .int v1, .int v2, .int v3] σ (fX11_askedOf N h v1 v2 v3 σ) := by
  refine Ct_of (by decide +kernel) (Nat.le_of_ble_eq_true rfl) rfl ?_
  intro x _ X E hr
  exact bX11_askedOf_0 X E hr hZ N h hh v1 v2 v3 σ
def fX3_waxesToHush_b21 (N : Nat) (h : Nat) (rc21 : Int32 → Int32 → Int32 → Mem → Option (Int32 × Mem)) (v2 : Int32) (v3 : Int32) (v4 : Int32) (σ : Mem) : Option (Int32 × Mem) :=
  if 9 < v4 then some ((-1), σ) else gd (inb v3 8) (lt_ (pI σ ((h + 2) + 10) v3.toNatClampNeg v4) (fun s6 => bd (fX2_sounds N (h + 2) v3 v2 s6) (fun r7 s8 => if r7 = 0 then some (v4, s8) else lt_ (v4 + 1) (fun v4_9 => rc21 v2 v3 v4_9 s8))))
set_option maxRecDepth 100000 in
set_option maxHeartbeats 4000000 in
theorem bX3_waxesToHush_21 {x : Cx} {z : Sx} (X : XG x z RX3 cX3_waxesToHush 5 3 72) (E : XE x z) (hr : XR x (some .int)) (hZ : z.2.2.2.1 = kdC) (N : Nat) (h : Nat) (hh : z.2.2.2.1 h = (3, 0)) (rc21 : Int32 → Int32 → Int32 → Mem → Option (Int32 × Mem)) (hc21 : ∀ (v2 : Int32) (v3 : Int32) (v4 : Int32) (σ : Mem), VK x z 5 (BQ QI x z) 21 [(0, .ref (z.2.2.1 h)), (2, .int v2), (3, .int v3), (4, .int v4)] [] σ (rc21 v2 v3 v4 σ)) (v2 : Int32) (v3 : Int32) (v4 : Int32) (σ : Mem) : VK x z 5 (BQ QI x z) 21 [(0, .ref (z.2.2.1 h)), (2, .int v2), (3, .int v3), (4, .int v4)] [] σ (fX3_waxesToHush_b21 N h rc21 v2 v3 v4 σ) := by
  unfold fX3_waxesToHush_b21
  refine V_iload 3 X dX3_waxesToHush_21 rfl ?_
  refine V_bipush (v := 9) X dX3_waxesToHush_23 (by decide) ?_
  refine V_icmp_gt (tgt := 60) X dX3_waxesToHush_25 (by decide) ?_ ?_
  · refine V_iconst (v := -1) X dX3_waxesToHush_60 (by decide) ?_
    exact V_iret X E hr dX3_waxesToHush_61
  · refine V_aload_n 0 X dX3_waxesToHush_28 rfl rfl ?_
    refine V_getR (k1 := (h + 2)) 1 X dX3_waxesToHush_29 co3 hh (by decide) rfl rfl wfX3_18 ?_
    refine V_getR (k1 := ((h + 2) + 10)) 1 X dX3_waxesToHush_32 co2 (kt3_1 hZ hh) (by decide) rfl rfl wfX3_50 ?_
    refine V_iload_n 2 X dX3_waxesToHush_35 rfl rfl ?_
    refine V_iload 3 X dX3_waxesToHush_36 rfl ?_
    refine V_iastG X dX3_waxesToHush_38 (kt2_1 hZ (kt3_1 hZ hh)) (fun s6 => ?_)
    refine V_aload_n 0 X dX3_waxesToHush_39 rfl rfl ?_
    refine V_getR (k1 := (h + 2)) 1 X dX3_waxesToHush_40 co3 hh (by decide) rfl rfl wfX3_18 ?_
    refine V_iload_n 2 X dX3_waxesToHush_43 rfl rfl ?_
    refine V_iload_n 1 X dX3_waxesToHush_44 rfl rfl ?_
    refine V_callI [.int v3, .int v2] [] X E dX3_waxesToHush_45 (kX2_sounds x.2.1 z hZ N (h + 2) (kt3_1 hZ hh) v3 v2 s6) co2 (kt3_1 hZ hh) gcX3_57 hyX2_sounds rfl ⟨by decide, by decide⟩ rfl (Nat.le_of_ble_eq_true rfl) (fun r7 s8 => ?_)
    refine V_if_ne (tgt := 54) X dX3_waxesToHush_48 (by decide) ?_ ?_
    · refine V_iincG (L' := fun v4_9 => [(4, .int v4_9), (0, .ref (z.2.2.1 h)), (2, .int v2), (3, .int v3)]) 3 X dX3_waxesToHush_54 rfl rfl (by decide) (fun _ => rfl) (fun v4_9 => ?_)
      refine V_goto (tgt := 21) X dX3_waxesToHush_57 (by decide) ?_
      refine V_sub [1, 2, 3, 0] rfl ?_
      exact hc21 v2 v3 v4_9 s8
    · refine V_iload 3 X dX3_waxesToHush_51 rfl ?_
      exact V_iret X E hr dX3_waxesToHush_53
def fX3_waxesToHush_l21 (N : Nat) (h : Nat) : Nat → Int32 → Int32 → Int32 → Mem → Option (Int32 × Mem)
  | 0 => fun _ _ _ _ => none
  | n + 1 => fX3_waxesToHush_b21 N h (fX3_waxesToHush_l21 N h n)
theorem lX3_waxesToHush_21 {x : Cx} {z : Sx} (X : XG x z RX3 cX3_waxesToHush 5 3 72) (E : XE x z) (hr : XR x (some .int)) (hZ : z.2.2.2.1 = kdC) (N : Nat) (h : Nat) (hh : z.2.2.2.1 h = (3, 0)) (n : Nat) (v2 : Int32) (v3 : Int32) (v4 : Int32) (σ : Mem) : VK x z 5 (BQ QI x z) 21 [(0, .ref (z.2.2.1 h)), (2, .int v2), (3, .int v3), (4, .int v4)] [] σ (fX3_waxesToHush_l21 N h n v2 v3 v4 σ) := by
  induction n generalizing v2 v3 v4 σ with
  | zero => exact V_none
  | succ n ih => exact bX3_waxesToHush_21 X E hr hZ N h hh (fX3_waxesToHush_l21 N h n) ih v2 v3 v4 σ
def fX3_waxesToHush (N : Nat) (h : Nat) (v1 : Nat) (v2 : Int32) (v3 : Int32) (σ : Mem) : Option (Int32 × Mem) :=
  bd (fX0_hasPiece N v1 v3 σ) (fun r1 s2 => if r1 = 0 then some ((-1), s2) else bd (fX2_enter N (h + 2) v1 s2) (fun r3 s4 => lt_ 0 (fun v4_5 => fX3_waxesToHush_l21 N h N v2 v3 v4_5 s4)))
set_option maxRecDepth 100000 in
set_option maxHeartbeats 4000000 in
theorem bX3_waxesToHush_0 {x : Cx} {z : Sx} (X : XG x z RX3 cX3_waxesToHush 5 3 72) (E : XE x z) (hr : XR x (some .int)) (hZ : z.2.2.2.1 = kdC) (N : Nat) (h : Nat) (hh : z.2.2.2.1 h = (3, 0)) (v1 : Nat) (v2 : Int32) (v3 : Int32) (hk1 : z.2.2.2.1 v1 = (0, 0)) (σ : Mem) : VK x z 5 (BQ QI x z) 0 [(0, .ref (z.2.2.1 h)), (1, .ref (z.2.2.1 v1)), (2, .int v2), (3, .int v3)] [] σ (fX3_waxesToHush N h v1 v2 v3 σ) := by
  unfold fX3_waxesToHush
  refine V_aload_n 1 X dX3_waxesToHush_0 rfl rfl ?_
  refine V_iload_n 3 X dX3_waxesToHush_1 rfl rfl ?_
  refine V_callI [.int v3] [] X E dX3_waxesToHush_2 (kX0_hasPiece x.2.1 z hZ N v1 hk1 v3 σ) co0 hk1 gcX3_65 hyX0_hasPiece rfl ⟨by decide, by decide⟩ rfl (Nat.le_of_ble_eq_true rfl) (fun r1 s2 => ?_)
  refine V_if_ne (tgt := 10) X dX3_waxesToHush_5 (by decide) ?_ ?_
  · refine V_aload_n 0 X dX3_waxesToHush_10 rfl rfl ?_
    refine V_getR (k1 := (h + 2)) 1 X dX3_waxesToHush_11 co3 hh (by decide) rfl rfl wfX3_18 ?_
    refine V_aload_n 1 X dX3_waxesToHush_14 rfl rfl ?_
    refine V_callV [.ref (z.2.2.1 v1)] [] X E dX3_waxesToHush_15 (kX2_enter x.2.1 z hZ N (h + 2) (kt3_1 hZ hh) v1 hk1 s2) co2 (kt3_1 hZ hh) gcX3_22 hyX2_enter rfl ⟨by decide, by decide⟩ rfl (Nat.le_of_ble_eq_true rfl) (fun r3 s4 => ?_)
    refine V_iconst (v := 0) X dX3_waxesToHush_18 (by decide) ?_
    refine V_istoreG (L' := fun v4_5 => [(4, .int v4_5), (0, .ref (z.2.2.1 h)), (1, .ref (z.2.2.1 v1)), (2, .int v2), (3, .int v3)]) X dX3_waxesToHush_19 (by decide) (fun _ => rfl) (fun v4_5 => ?_)
    refine V_sub [1, 3, 4, 0] rfl ?_
    exact lX3_waxesToHush_21 X E hr hZ N h hh N v2 v3 v4_5 s4
  · refine V_iconst (v := -1) X dX3_waxesToHush_8 (by decide) ?_
    exact V_iret X E hr dX3_waxesToHush_9
theorem kX3_waxesToHush (l : Launch) (z : Sx) (hZ : z.2.2.2.1 = kdC) (N : Nat) (h : Nat) (hh : z.2.2.2.1 h = (3, 0)) (v1 : Nat) (v2 : Int32) (v3 : Int32) (hk1 : z.2.2.2.1 v1 = (0, 0)) (σ : Mem) : Ct QI yX3_waxesToHush cX3_waxesToHush 5 (some .int) 3 72 l z [.ref (z.2.2.1 h), .ref (z.2.2.1 v1), .int v2, .int v3] σ (fX3_waxesToHush N h v1 v2 v3 σ) := by
  refine Ct_of (by decide +kernel) (Nat.le_of_ble_eq_true rfl) rfl ?_
  intro x _ X E hr
  exact bX3_waxesToHush_0 X E hr hZ N h hh v1 v2 v3 hk1 σ
def fX11_hush (N : Nat) (h : Nat) (v1 : Int32) (v2 : Int32) (v3 : Int32) (σ : Mem) : Option (Int32 × Mem) :=
  bd (fX11_askedOf N h v1 v2 v3 σ) (fun or1 s2 => mqK (0, 0) or1 (some ((-1), s2)) (fun r1 => bd (fX3_waxesToHush N (h + 251) r1 v2 v3 s2) (fun r4 s5 => some (r4, s5))))
set_option maxRecDepth 100000 in
set_option maxHeartbeats 4000000 in
theorem bX11_hush_0 {x : Cx} {z : Sx} (X : XG x z RX11 cX11_hush 5 4 96) (E : XE x z) (hr : XR x (some .int)) (hZ : z.2.2.2.1 = kdC) (N : Nat) (h : Nat) (hh : z.2.2.2.1 h = (11, 0)) (v1 : Int32) (v2 : Int32) (v3 : Int32) (σ : Mem) : VK x z 5 (BQ QI x z) 0 [(0, .ref (z.2.2.1 h)), (1, .int v1), (2, .int v2), (3, .int v3)] [] σ (fX11_hush N h v1 v2 v3 σ) := by
  unfold fX11_hush
  refine V_aload_n 0 X dX11_hush_0 rfl rfl ?_
  refine V_iload_n 1 X dX11_hush_1 rfl rfl ?_
  refine V_iload_n 2 X dX11_hush_2 rfl rfl ?_
  refine V_iload_n 3 X dX11_hush_3 rfl rfl ?_
  refine V_callQC (K := (0, 0)) [.int v1, .int v2, .int v3] [] X E hZ dX11_hush_4 (kX11_askedOf x.2.1 z hZ N h hh v1 v2 v3 σ) co11 hh gcX11_249 hyX11_askedOf rfl ⟨by decide, by decide⟩ rfl (Nat.le_of_ble_eq_true rfl) (fun s2 => ?_) (fun r1 s2 hb3 => ?_)
  · refine V_astoreN (L' := [(4, .null), (0, .ref (z.2.2.1 h)), (1, .int v1), (2, .int v2), (3, .int v3)]) X dX11_hush_7 (by decide) rfl ?_
    refine V_aloadN 0 X dX11_hush_9 rfl ?_
    refine V_ifnonnullN X dX11_hush_11 ?_
    refine V_iconst (v := -1) X dX11_hush_14 (by decide) ?_
    refine V_goto (tgt := 29) X dX11_hush_15 (by decide) ?_
    exact V_iret X E hr dX11_hush_29
  · refine V_astore (L' := [(4, .ref (z.2.2.1 r1)), (0, .ref (z.2.2.1 h)), (1, .int v1), (2, .int v2), (3, .int v3)]) X dX11_hush_7 (by decide) rfl ?_
    refine V_aload 0 X dX11_hush_9 rfl ?_
    refine V_ifnonnull (tgt := 18) X dX11_hush_11 (by decide) ?_
    refine V_aload_n 1 X dX11_hush_18 rfl rfl ?_
    refine V_getR (k1 := (h + 251)) 8 X dX11_hush_19 co11 hh (by decide) rfl rfl wfX11_62 ?_
    refine V_aload 0 X dX11_hush_22 rfl ?_
    refine V_iload_n 3 X dX11_hush_24 rfl rfl ?_
    refine V_iload_n 4 X dX11_hush_25 rfl rfl ?_
    refine V_callI [.ref (z.2.2.1 r1), .int v2, .int v3] [] X E dX11_hush_26 (kX3_waxesToHush x.2.1 z hZ N (h + 251) (kt11_8 hZ hh) r1 v2 v3 hb3 s2) co3 (kt11_8 hZ hh) gcX11_253 hyX3_waxesToHush rfl ⟨by decide, by decide⟩ rfl (Nat.le_of_ble_eq_true rfl) (fun r4 s5 => ?_)
    exact V_iret X E hr dX11_hush_29
theorem kX11_hush (l : Launch) (z : Sx) (hZ : z.2.2.2.1 = kdC) (N : Nat) (h : Nat) (hh : z.2.2.2.1 h = (11, 0)) (v1 : Int32) (v2 : Int32) (v3 : Int32) (σ : Mem) : Ct QI yX11_hush cX11_hush 5 (some .int) 4 96 l z [.ref (z.2.2.1 h), .int v1, .int v2, .int v3] σ (fX11_hush N h v1 v2 v3 σ) := by
  refine Ct_of (by decide +kernel) (Nat.le_of_ble_eq_true rfl) rfl ?_
  intro x _ X E hr
  exact bX11_hush_0 X E hr hZ N h hh v1 v2 v3 σ
def fX3_nightsToWake_b11 (N : Nat) (h : Nat) (rc11 : Int32 → Int32 → Int32 → Mem → Option (Int32 × Mem)) (v2 : Int32) (v3 : Int32) (v4 : Int32) (σ : Mem) : Option (Int32 × Mem) :=
  if 60 < v4 then some ((-1), σ) else bd (fX2_sounds N (h + 2) v3 v2 σ) (fun r4 s5 => if r4 = 0 then bd (fX2_passNight N (h + 2) s5) (fun r6 s7 => lt_ (v4 + 1) (fun v4_8 => rc11 v2 v3 v4_8 s7)) else some (v4, s5))
set_option maxRecDepth 100000 in
set_option maxHeartbeats 4000000 in
theorem bX3_nightsToWake_11 {x : Cx} {z : Sx} (X : XG x z RX3 cX3_nightsToWake 5 3 72) (E : XE x z) (hr : XR x (some .int)) (hZ : z.2.2.2.1 = kdC) (N : Nat) (h : Nat) (hh : z.2.2.2.1 h = (3, 0)) (rc11 : Int32 → Int32 → Int32 → Mem → Option (Int32 × Mem)) (hc11 : ∀ (v2 : Int32) (v3 : Int32) (v4 : Int32) (σ : Mem), VK x z 5 (BQ QI x z) 11 [(0, .ref (z.2.2.1 h)), (2, .int v2), (3, .int v3), (4, .int v4)] [] σ (rc11 v2 v3 v4 σ)) (v2 : Int32) (v3 : Int32) (v4 : Int32) (σ : Mem) : VK x z 5 (BQ QI x z) 11 [(0, .ref (z.2.2.1 h)), (2, .int v2), (3, .int v3), (4, .int v4)] [] σ (fX3_nightsToWake_b11 N h rc11 v2 v3 v4 σ) := by
  unfold fX3_nightsToWake_b11
  refine V_iload 3 X dX3_nightsToWake_11 rfl ?_
  refine V_bipush (v := 60) X dX3_nightsToWake_13 (by decide) ?_
  refine V_icmp_gt (tgt := 46) X dX3_nightsToWake_15 (by decide) ?_ ?_
  · refine V_iconst (v := -1) X dX3_nightsToWake_46 (by decide) ?_
    exact V_iret X E hr dX3_nightsToWake_47
  · refine V_aload_n 0 X dX3_nightsToWake_18 rfl rfl ?_
    refine V_getR (k1 := (h + 2)) 1 X dX3_nightsToWake_19 co3 hh (by decide) rfl rfl wfX3_18 ?_
    refine V_iload_n 2 X dX3_nightsToWake_22 rfl rfl ?_
    refine V_iload_n 1 X dX3_nightsToWake_23 rfl rfl ?_
    refine V_callI [.int v3, .int v2] [] X E dX3_nightsToWake_24 (kX2_sounds x.2.1 z hZ N (h + 2) (kt3_1 hZ hh) v3 v2 σ) co2 (kt3_1 hZ hh) gcX3_57 hyX2_sounds rfl ⟨by decide, by decide⟩ rfl (Nat.le_of_ble_eq_true rfl) (fun r4 s5 => ?_)
    refine V_if_eq (tgt := 33) X dX3_nightsToWake_27 (by decide) ?_ ?_
    · refine V_aload_n 0 X dX3_nightsToWake_33 rfl rfl ?_
      refine V_getR (k1 := (h + 2)) 1 X dX3_nightsToWake_34 co3 hh (by decide) rfl rfl wfX3_18 ?_
      refine V_callV [] [] X E dX3_nightsToWake_37 (kX2_passNight x.2.1 z hZ N (h + 2) (kt3_1 hZ hh) s5) co2 (kt3_1 hZ hh) gcX3_69 hyX2_passNight rfl ⟨by decide, by decide⟩ rfl (Nat.le_of_ble_eq_true rfl) (fun r6 s7 => ?_)
      refine V_iincG (L' := fun v4_8 => [(4, .int v4_8), (0, .ref (z.2.2.1 h)), (2, .int v2), (3, .int v3)]) 3 X dX3_nightsToWake_40 rfl rfl (by decide) (fun _ => rfl) (fun v4_8 => ?_)
      refine V_goto (tgt := 11) X dX3_nightsToWake_43 (by decide) ?_
      refine V_sub [1, 2, 3, 0] rfl ?_
      exact hc11 v2 v3 v4_8 s7
    · refine V_iload 3 X dX3_nightsToWake_30 rfl ?_
      exact V_iret X E hr dX3_nightsToWake_32
def fX3_nightsToWake_l11 (N : Nat) (h : Nat) : Nat → Int32 → Int32 → Int32 → Mem → Option (Int32 × Mem)
  | 0 => fun _ _ _ _ => none
  | n + 1 => fX3_nightsToWake_b11 N h (fX3_nightsToWake_l11 N h n)
theorem lX3_nightsToWake_11 {x : Cx} {z : Sx} (X : XG x z RX3 cX3_nightsToWake 5 3 72) (E : XE x z) (hr : XR x (some .int)) (hZ : z.2.2.2.1 = kdC) (N : Nat) (h : Nat) (hh : z.2.2.2.1 h = (3, 0)) (n : Nat) (v2 : Int32) (v3 : Int32) (v4 : Int32) (σ : Mem) : VK x z 5 (BQ QI x z) 11 [(0, .ref (z.2.2.1 h)), (2, .int v2), (3, .int v3), (4, .int v4)] [] σ (fX3_nightsToWake_l11 N h n v2 v3 v4 σ) := by
  induction n generalizing v2 v3 v4 σ with
  | zero => exact V_none
  | succ n ih => exact bX3_nightsToWake_11 X E hr hZ N h hh (fX3_nightsToWake_l11 N h n) ih v2 v3 v4 σ
def fX3_nightsToWake (N : Nat) (h : Nat) (v1 : Nat) (v2 : Int32) (v3 : Int32) (σ : Mem) : Option (Int32 × Mem) :=
  bd (fX2_enter N (h + 2) v1 σ) (fun r1 s2 => lt_ 0 (fun v4_3 => fX3_nightsToWake_l11 N h N v2 v3 v4_3 s2))
set_option maxRecDepth 100000 in
set_option maxHeartbeats 4000000 in
theorem bX3_nightsToWake_0 {x : Cx} {z : Sx} (X : XG x z RX3 cX3_nightsToWake 5 3 72) (E : XE x z) (hr : XR x (some .int)) (hZ : z.2.2.2.1 = kdC) (N : Nat) (h : Nat) (hh : z.2.2.2.1 h = (3, 0)) (v1 : Nat) (v2 : Int32) (v3 : Int32) (hk1 : z.2.2.2.1 v1 = (0, 0)) (σ : Mem) : VK x z 5 (BQ QI x z) 0 [(0, .ref (z.2.2.1 h)), (1, .ref (z.2.2.1 v1)), (2, .int v2), (3, .int v3)] [] σ (fX3_nightsToWake N h v1 v2 v3 σ) := by
  unfold fX3_nightsToWake
  refine V_aload_n 0 X dX3_nightsToWake_0 rfl rfl ?_
  refine V_getR (k1 := (h + 2)) 1 X dX3_nightsToWake_1 co3 hh (by decide) rfl rfl wfX3_18 ?_
  refine V_aload_n 1 X dX3_nightsToWake_4 rfl rfl ?_
  refine V_callV [.ref (z.2.2.1 v1)] [] X E dX3_nightsToWake_5 (kX2_enter x.2.1 z hZ N (h + 2) (kt3_1 hZ hh) v1 hk1 σ) co2 (kt3_1 hZ hh) gcX3_22 hyX2_enter rfl ⟨by decide, by decide⟩ rfl (Nat.le_of_ble_eq_true rfl) (fun r1 s2 => ?_)
  refine V_iconst (v := 0) X dX3_nightsToWake_8 (by decide) ?_
  refine V_istoreG (L' := fun v4_3 => [(4, .int v4_3), (0, .ref (z.2.2.1 h)), (1, .ref (z.2.2.1 v1)), (2, .int v2), (3, .int v3)]) X dX3_nightsToWake_9 (by decide) (fun _ => rfl) (fun v4_3 => ?_)
  refine V_sub [1, 3, 4, 0] rfl ?_
  exact lX3_nightsToWake_11 X E hr hZ N h hh N v2 v3 v4_3 s2
theorem kX3_nightsToWake (l : Launch) (z : Sx) (hZ : z.2.2.2.1 = kdC) (N : Nat) (h : Nat) (hh : z.2.2.2.1 h = (3, 0)) (v1 : Nat) (v2 : Int32) (v3 : Int32) (hk1 : z.2.2.2.1 v1 = (0, 0)) (σ : Mem) : Ct QI yX3_nightsToWake cX3_nightsToWake 5 (some .int) 3 72 l z [.ref (z.2.2.1 h), .ref (z.2.2.1 v1), .int v2, .int v3] σ (fX3_nightsToWake N h v1 v2 v3 σ) := by
  refine Ct_of (by decide +kernel) (Nat.le_of_ble_eq_true rfl) rfl ?_
  intro x _ X E hr
  exact bX3_nightsToWake_0 X E hr hZ N h hh v1 v2 v3 hk1 σ
def fX11_wake (N : Nat) (h : Nat) (v1 : Int32) (v2 : Int32) (v3 : Int32) (σ : Mem) : Option (Int32 × Mem) :=
  bd (fX11_askedOf N h v1 v2 v3 σ) (fun or1 s2 => mqK (0, 0) or1 (some ((-1), s2)) (fun r1 => bd (fX3_nightsToWake N (h + 251) r1 v2 v3 s2) (fun r4 s5 => some (r4, s5))))
set_option maxRecDepth 100000 in
set_option maxHeartbeats 4000000 in
theorem bX11_wake_0 {x : Cx} {z : Sx} (X : XG x z RX11 cX11_wake 5 4 96) (E : XE x z) (hr : XR x (some .int)) (hZ : z.2.2.2.1 = kdC) (N : Nat) (h : Nat) (hh : z.2.2.2.1 h = (11, 0)) (v1 : Int32) (v2 : Int32) (v3 : Int32) (σ : Mem) : VK x z 5 (BQ QI x z) 0 [(0, .ref (z.2.2.1 h)), (1, .int v1), (2, .int v2), (3, .int v3)] [] σ (fX11_wake N h v1 v2 v3 σ) := by
  unfold fX11_wake
  refine V_aload_n 0 X dX11_wake_0 rfl rfl ?_
  refine V_iload_n 1 X dX11_wake_1 rfl rfl ?_
  refine V_iload_n 2 X dX11_wake_2 rfl rfl ?_
  refine V_iload_n 3 X dX11_wake_3 rfl rfl ?_
  refine V_callQC (K := (0, 0)) [.int v1, .int v2, .int v3] [] X E hZ dX11_wake_4 (kX11_askedOf x.2.1 z hZ N h hh v1 v2 v3 σ) co11 hh gcX11_249 hyX11_askedOf rfl ⟨by decide, by decide⟩ rfl (Nat.le_of_ble_eq_true rfl) (fun s2 => ?_) (fun r1 s2 hb3 => ?_)
  · refine V_astoreN (L' := [(4, .null), (0, .ref (z.2.2.1 h)), (1, .int v1), (2, .int v2), (3, .int v3)]) X dX11_wake_7 (by decide) rfl ?_
    refine V_aloadN 0 X dX11_wake_9 rfl ?_
    refine V_ifnonnullN X dX11_wake_11 ?_
    refine V_iconst (v := -1) X dX11_wake_14 (by decide) ?_
    refine V_goto (tgt := 29) X dX11_wake_15 (by decide) ?_
    exact V_iret X E hr dX11_wake_29
  · refine V_astore (L' := [(4, .ref (z.2.2.1 r1)), (0, .ref (z.2.2.1 h)), (1, .int v1), (2, .int v2), (3, .int v3)]) X dX11_wake_7 (by decide) rfl ?_
    refine V_aload 0 X dX11_wake_9 rfl ?_
    refine V_ifnonnull (tgt := 18) X dX11_wake_11 (by decide) ?_
    refine V_aload_n 1 X dX11_wake_18 rfl rfl ?_
    refine V_getR (k1 := (h + 251)) 8 X dX11_wake_19 co11 hh (by decide) rfl rfl wfX11_62 ?_
    refine V_aload 0 X dX11_wake_22 rfl ?_
    refine V_iload_n 3 X dX11_wake_24 rfl rfl ?_
    refine V_iload_n 4 X dX11_wake_25 rfl rfl ?_
    refine V_callI [.ref (z.2.2.1 r1), .int v2, .int v3] [] X E dX11_wake_26 (kX3_nightsToWake x.2.1 z hZ N (h + 251) (kt11_8 hZ hh) r1 v2 v3 hb3 s2) co3 (kt11_8 hZ hh) gcX11_256 hyX3_nightsToWake rfl ⟨by decide, by decide⟩ rfl (Nat.le_of_ble_eq_true rfl) (fun r4 s5 => ?_)
    exact V_iret X E hr dX11_wake_29
theorem kX11_wake (l : Launch) (z : Sx) (hZ : z.2.2.2.1 = kdC) (N : Nat) (h : Nat) (hh : z.2.2.2.1 h = (11, 0)) (v1 : Int32) (v2 : Int32) (v3 : Int32) (σ : Mem) : Ct QI yX11_wake cX11_wake 5 (some .int) 4 96 l z [.ref (z.2.2.1 h), .int v1, .int v2, .int v3] σ (fX11_wake N h v1 v2 v3 σ) := by
  refine Ct_of (by decide +kernel) (Nat.le_of_ble_eq_true rfl) rfl ?_
  intro x _ X E hr
  exact bX11_wake_0 X E hr hZ N h hh v1 v2 v3 σ
def fX11_damps (N : Nat) (h : Nat) (v1 : Int32) (v2 : Int32) (σ : Mem) : Option (Int32 × Mem) :=
  bd (fX11_asked N h v1 v2 σ) (fun or1 s2 => mqK (0, 0) or1 (some ((-1), s2)) (fun r1 => bd (fX10_carryingDamps N (h + 220) r1 v2 s2) (fun r4 s5 => some (r4, s5))))
set_option maxRecDepth 100000 in
set_option maxHeartbeats 4000000 in
theorem bX11_damps_0 {x : Cx} {z : Sx} (X : XG x z RX11 cX11_damps 4 5 119) (E : XE x z) (hr : XR x (some .int)) (hZ : z.2.2.2.1 = kdC) (N : Nat) (h : Nat) (hh : z.2.2.2.1 h = (11, 0)) (v1 : Int32) (v2 : Int32) (σ : Mem) : VK x z 4 (BQ QI x z) 0 [(0, .ref (z.2.2.1 h)), (1, .int v1), (2, .int v2)] [] σ (fX11_damps N h v1 v2 σ) := by
  unfold fX11_damps
  refine V_aload_n 0 X dX11_damps_0 rfl rfl ?_
  refine V_iload_n 1 X dX11_damps_1 rfl rfl ?_
  refine V_iload_n 2 X dX11_damps_2 rfl rfl ?_
  refine V_callQC (K := (0, 0)) [.int v1, .int v2] [] X E hZ dX11_damps_3 (kX11_asked x.2.1 z hZ N h hh v1 v2 σ) co11 hh gcX11_115 hyX11_asked rfl ⟨by decide, by decide⟩ rfl (Nat.le_of_ble_eq_true rfl) (fun s2 => ?_) (fun r1 s2 hb3 => ?_)
  · refine V_astore_nN (L' := [(3, .null), (0, .ref (z.2.2.1 h)), (1, .int v1), (2, .int v2)]) X dX11_damps_6 rfl (by decide) rfl ?_
    refine V_aload_nN 0 X dX11_damps_7 rfl rfl ?_
    refine V_ifnonnullN X dX11_damps_8 ?_
    refine V_iconst (v := -1) X dX11_damps_11 (by decide) ?_
    refine V_goto (tgt := 24) X dX11_damps_12 (by decide) ?_
    exact V_iret X E hr dX11_damps_24
  · refine V_astore_n (L' := [(3, .ref (z.2.2.1 r1)), (0, .ref (z.2.2.1 h)), (1, .int v1), (2, .int v2)]) X dX11_damps_6 rfl (by decide) rfl ?_
    refine V_aload_n 0 X dX11_damps_7 rfl rfl ?_
    refine V_ifnonnull (tgt := 15) X dX11_damps_8 (by decide) ?_
    refine V_aload_n 1 X dX11_damps_15 rfl rfl ?_
    refine V_getR (k1 := (h + 220)) 6 X dX11_damps_16 co11 hh (by decide) rfl rfl wfX11_48 ?_
    refine V_aload_n 0 X dX11_damps_19 rfl rfl ?_
    refine V_iload_n 3 X dX11_damps_20 rfl rfl ?_
    refine V_callI [.ref (z.2.2.1 r1), .int v2] [] X E dX11_damps_21 (kX10_carryingDamps x.2.1 z hZ N (h + 220) (kt11_6 hZ hh) r1 v2 hb3 s2) co10 (kt11_6 hZ hh) gcX11_259 hyX10_carryingDamps rfl ⟨by decide, by decide⟩ rfl (Nat.le_of_ble_eq_true rfl) (fun r4 s5 => ?_)
    exact V_iret X E hr dX11_damps_24
theorem kX11_damps (l : Launch) (z : Sx) (hZ : z.2.2.2.1 = kdC) (N : Nat) (h : Nat) (hh : z.2.2.2.1 h = (11, 0)) (v1 : Int32) (v2 : Int32) (σ : Mem) : Ct QI yX11_damps cX11_damps 4 (some .int) 5 119 l z [.ref (z.2.2.1 h), .int v1, .int v2] σ (fX11_damps N h v1 v2 σ) := by
  refine Ct_of (by decide +kernel) (Nat.le_of_ble_eq_true rfl) rfl ?_
  intro x _ X E hr
  exact bX11_damps_0 X E hr hZ N h hh v1 v2 σ
def fX3_dampToTip_b31 (N : Nat) (h : Nat) (rc31 : Int32 → Int32 → Int32 → Mem → Option (Int32 × Mem)) (v2 : Int32) (v3 : Int32) (v4 : Int32) (σ : Mem) : Option (Int32 × Mem) :=
  if 9 < v4 then some ((-1), σ) else lt_ (pI σ ((h + 2) + 1) 2 v4) (fun s6 => bd (fX2_sounds N (h + 2) v3 v2 s6) (fun r7 s8 => if r7 = 0 then lt_ (v4 + 1) (fun v4_9 => rc31 v2 v3 v4_9 s8) else some (v4, s8)))
set_option maxRecDepth 100000 in
set_option maxHeartbeats 4000000 in
theorem bX3_dampToTip_31 {x : Cx} {z : Sx} (X : XG x z RX3 cX3_dampToTip 5 3 72) (E : XE x z) (hr : XR x (some .int)) (hZ : z.2.2.2.1 = kdC) (N : Nat) (h : Nat) (hh : z.2.2.2.1 h = (3, 0)) (rc31 : Int32 → Int32 → Int32 → Mem → Option (Int32 × Mem)) (hc31 : ∀ (v2 : Int32) (v3 : Int32) (v4 : Int32) (σ : Mem), VK x z 5 (BQ QI x z) 31 [(0, .ref (z.2.2.1 h)), (2, .int v2), (3, .int v3), (4, .int v4)] [] σ (rc31 v2 v3 v4 σ)) (v2 : Int32) (v3 : Int32) (v4 : Int32) (σ : Mem) : VK x z 5 (BQ QI x z) 31 [(0, .ref (z.2.2.1 h)), (2, .int v2), (3, .int v3), (4, .int v4)] [] σ (fX3_dampToTip_b31 N h rc31 v2 v3 v4 σ) := by
  unfold fX3_dampToTip_b31
  refine V_iload 3 X dX3_dampToTip_31 rfl ?_
  refine V_bipush (v := 9) X dX3_dampToTip_33 (by decide) ?_
  refine V_icmp_gt (tgt := 71) X dX3_dampToTip_35 (by decide) ?_ ?_
  · refine V_iconst (v := -1) X dX3_dampToTip_71 (by decide) ?_
    exact V_iret X E hr dX3_dampToTip_72
  · refine V_aload_n 0 X dX3_dampToTip_38 rfl rfl ?_
    refine V_getR (k1 := (h + 2)) 1 X dX3_dampToTip_39 co3 hh (by decide) rfl rfl wfX3_18 ?_
    refine V_getR (k1 := ((h + 2) + 1)) 0 X dX3_dampToTip_42 co2 (kt3_1 hZ hh) (by decide) rfl rfl wfX3_40 ?_
    refine V_iload 3 X dX3_dampToTip_45 rfl ?_
    refine V_putIG 2 X dX3_dampToTip_47 co0 (kt2_0 hZ (kt3_1 hZ hh)) (by decide) rfl wfX3_75 rfl rfl rfl (fun s6 => ?_)
    refine V_aload_n 0 X dX3_dampToTip_50 rfl rfl ?_
    refine V_getR (k1 := (h + 2)) 1 X dX3_dampToTip_51 co3 hh (by decide) rfl rfl wfX3_18 ?_
    refine V_iload_n 2 X dX3_dampToTip_54 rfl rfl ?_
    refine V_iload_n 1 X dX3_dampToTip_55 rfl rfl ?_
    refine V_callI [.int v3, .int v2] [] X E dX3_dampToTip_56 (kX2_sounds x.2.1 z hZ N (h + 2) (kt3_1 hZ hh) v3 v2 s6) co2 (kt3_1 hZ hh) gcX3_57 hyX2_sounds rfl ⟨by decide, by decide⟩ rfl (Nat.le_of_ble_eq_true rfl) (fun r7 s8 => ?_)
    refine V_if_eq (tgt := 65) X dX3_dampToTip_59 (by decide) ?_ ?_
    · refine V_iincG (L' := fun v4_9 => [(4, .int v4_9), (0, .ref (z.2.2.1 h)), (2, .int v2), (3, .int v3)]) 3 X dX3_dampToTip_65 rfl rfl (by decide) (fun _ => rfl) (fun v4_9 => ?_)
      refine V_goto (tgt := 31) X dX3_dampToTip_68 (by decide) ?_
      refine V_sub [1, 2, 3, 0] rfl ?_
      exact hc31 v2 v3 v4_9 s8
    · refine V_iload 3 X dX3_dampToTip_62 rfl ?_
      exact V_iret X E hr dX3_dampToTip_64
def fX3_dampToTip_l31 (N : Nat) (h : Nat) : Nat → Int32 → Int32 → Int32 → Mem → Option (Int32 × Mem)
  | 0 => fun _ _ _ _ => none
  | n + 1 => fX3_dampToTip_b31 N h (fX3_dampToTip_l31 N h n)
theorem lX3_dampToTip_31 {x : Cx} {z : Sx} (X : XG x z RX3 cX3_dampToTip 5 3 72) (E : XE x z) (hr : XR x (some .int)) (hZ : z.2.2.2.1 = kdC) (N : Nat) (h : Nat) (hh : z.2.2.2.1 h = (3, 0)) (n : Nat) (v2 : Int32) (v3 : Int32) (v4 : Int32) (σ : Mem) : VK x z 5 (BQ QI x z) 31 [(0, .ref (z.2.2.1 h)), (2, .int v2), (3, .int v3), (4, .int v4)] [] σ (fX3_dampToTip_l31 N h n v2 v3 v4 σ) := by
  induction n generalizing v2 v3 v4 σ with
  | zero => exact V_none
  | succ n ih => exact bX3_dampToTip_31 X E hr hZ N h hh (fX3_dampToTip_l31 N h n) ih v2 v3 v4 σ
def fX3_dampToTip (N : Nat) (h : Nat) (v1 : Nat) (v2 : Int32) (v3 : Int32) (σ : Mem) : Option (Int32 × Mem) :=
  bd (fX0_hasPiece N v1 v3 σ) (fun r1 s2 => if r1 = 0 then some ((-1), s2) else gd (inb v3 8) (if (s2.1 (v1 + 1) v3.toNatClampNeg) = 1 then bd (fX2_enter N (h + 2) v1 s2) (fun r3 s4 => lt_ 0 (fun v4_5 => fX3_dampToTip_l31 N h N v2 v3 v4_5 s4)) else some ((-1), s2)))
set_option maxRecDepth 100000 in
set_option maxHeartbeats 4000000 in
theorem bX3_dampToTip_0 {x : Cx} {z : Sx} (X : XG x z RX3 cX3_dampToTip 5 3 72) (E : XE x z) (hr : XR x (some .int)) (hZ : z.2.2.2.1 = kdC) (N : Nat) (h : Nat) (hh : z.2.2.2.1 h = (3, 0)) (v1 : Nat) (v2 : Int32) (v3 : Int32) (hk1 : z.2.2.2.1 v1 = (0, 0)) (σ : Mem) : VK x z 5 (BQ QI x z) 0 [(0, .ref (z.2.2.1 h)), (1, .ref (z.2.2.1 v1)), (2, .int v2), (3, .int v3)] [] σ (fX3_dampToTip N h v1 v2 v3 σ) := by
  unfold fX3_dampToTip
  refine V_aload_n 1 X dX3_dampToTip_0 rfl rfl ?_
  refine V_iload_n 3 X dX3_dampToTip_1 rfl rfl ?_
  refine V_callI [.int v3] [] X E dX3_dampToTip_2 (kX0_hasPiece x.2.1 z hZ N v1 hk1 v3 σ) co0 hk1 gcX3_65 hyX0_hasPiece rfl ⟨by decide, by decide⟩ rfl (Nat.le_of_ble_eq_true rfl) (fun r1 s2 => ?_)
  refine V_if_eq (tgt := 18) X dX3_dampToTip_5 (by decide) ?_ ?_
  · refine V_iconst (v := -1) X dX3_dampToTip_18 (by decide) ?_
    exact V_iret X E hr dX3_dampToTip_19
  · refine V_aload_n 1 X dX3_dampToTip_8 rfl rfl ?_
    refine V_getR (k1 := (v1 + 1)) 3 X dX3_dampToTip_9 co0 hk1 (by decide) rfl rfl wfX3_72 ?_
    refine V_iload_n 3 X dX3_dampToTip_12 rfl rfl ?_
    refine V_iald X dX3_dampToTip_13 (kt0_3 hZ hk1) ?_
    refine V_iconst (v := 1) X dX3_dampToTip_14 (by decide) ?_
    refine V_icmp_eq (tgt := 20) X dX3_dampToTip_15 (by decide) ?_ ?_
    · refine V_aload_n 0 X dX3_dampToTip_20 rfl rfl ?_
      refine V_getR (k1 := (h + 2)) 1 X dX3_dampToTip_21 co3 hh (by decide) rfl rfl wfX3_18 ?_
      refine V_aload_n 1 X dX3_dampToTip_24 rfl rfl ?_
      refine V_callV [.ref (z.2.2.1 v1)] [] X E dX3_dampToTip_25 (kX2_enter x.2.1 z hZ N (h + 2) (kt3_1 hZ hh) v1 hk1 s2) co2 (kt3_1 hZ hh) gcX3_22 hyX2_enter rfl ⟨by decide, by decide⟩ rfl (Nat.le_of_ble_eq_true rfl) (fun r3 s4 => ?_)
      refine V_iconst (v := 0) X dX3_dampToTip_28 (by decide) ?_
      refine V_istoreG (L' := fun v4_5 => [(4, .int v4_5), (0, .ref (z.2.2.1 h)), (1, .ref (z.2.2.1 v1)), (2, .int v2), (3, .int v3)]) X dX3_dampToTip_29 (by decide) (fun _ => rfl) (fun v4_5 => ?_)
      refine V_sub [1, 3, 4, 0] rfl ?_
      exact lX3_dampToTip_31 X E hr hZ N h hh N v2 v3 v4_5 s4
    · refine V_iconst (v := -1) X dX3_dampToTip_18 (by decide) ?_
      exact V_iret X E hr dX3_dampToTip_19
theorem kX3_dampToTip (l : Launch) (z : Sx) (hZ : z.2.2.2.1 = kdC) (N : Nat) (h : Nat) (hh : z.2.2.2.1 h = (3, 0)) (v1 : Nat) (v2 : Int32) (v3 : Int32) (hk1 : z.2.2.2.1 v1 = (0, 0)) (σ : Mem) : Ct QI yX3_dampToTip cX3_dampToTip 5 (some .int) 3 72 l z [.ref (z.2.2.1 h), .ref (z.2.2.1 v1), .int v2, .int v3] σ (fX3_dampToTip N h v1 v2 v3 σ) := by
  refine Ct_of (by decide +kernel) (Nat.le_of_ble_eq_true rfl) rfl ?_
  intro x _ X E hr
  exact bX3_dampToTip_0 X E hr hZ N h hh v1 v2 v3 hk1 σ
def fX11_tips (N : Nat) (h : Nat) (v1 : Int32) (v2 : Int32) (v3 : Int32) (σ : Mem) : Option (Int32 × Mem) :=
  bd (fX11_askedOf N h v1 v2 v3 σ) (fun or1 s2 => mqK (0, 0) or1 (some ((-1), s2)) (fun r1 => bd (fX3_dampToTip N (h + 251) r1 v2 v3 s2) (fun r4 s5 => some (r4, s5))))
set_option maxRecDepth 100000 in
set_option maxHeartbeats 4000000 in
theorem bX11_tips_0 {x : Cx} {z : Sx} (X : XG x z RX11 cX11_tips 5 4 96) (E : XE x z) (hr : XR x (some .int)) (hZ : z.2.2.2.1 = kdC) (N : Nat) (h : Nat) (hh : z.2.2.2.1 h = (11, 0)) (v1 : Int32) (v2 : Int32) (v3 : Int32) (σ : Mem) : VK x z 5 (BQ QI x z) 0 [(0, .ref (z.2.2.1 h)), (1, .int v1), (2, .int v2), (3, .int v3)] [] σ (fX11_tips N h v1 v2 v3 σ) := by
  unfold fX11_tips
  refine V_aload_n 0 X dX11_tips_0 rfl rfl ?_
  refine V_iload_n 1 X dX11_tips_1 rfl rfl ?_
  refine V_iload_n 2 X dX11_tips_2 rfl rfl ?_
  refine V_iload_n 3 X dX11_tips_3 rfl rfl ?_
  refine V_callQC (K := (0, 0)) [.int v1, .int v2, .int v3] [] X E hZ dX11_tips_4 (kX11_askedOf x.2.1 z hZ N h hh v1 v2 v3 σ) co11 hh gcX11_249 hyX11_askedOf rfl ⟨by decide, by decide⟩ rfl (Nat.le_of_ble_eq_true rfl) (fun s2 => ?_) (fun r1 s2 hb3 => ?_)
  · refine V_astoreN (L' := [(4, .null), (0, .ref (z.2.2.1 h)), (1, .int v1), (2, .int v2), (3, .int v3)]) X dX11_tips_7 (by decide) rfl ?_
    refine V_aloadN 0 X dX11_tips_9 rfl ?_
    refine V_ifnonnullN X dX11_tips_11 ?_
    refine V_iconst (v := -1) X dX11_tips_14 (by decide) ?_
    refine V_goto (tgt := 29) X dX11_tips_15 (by decide) ?_
    exact V_iret X E hr dX11_tips_29
  · refine V_astore (L' := [(4, .ref (z.2.2.1 r1)), (0, .ref (z.2.2.1 h)), (1, .int v1), (2, .int v2), (3, .int v3)]) X dX11_tips_7 (by decide) rfl ?_
    refine V_aload 0 X dX11_tips_9 rfl ?_
    refine V_ifnonnull (tgt := 18) X dX11_tips_11 (by decide) ?_
    refine V_aload_n 1 X dX11_tips_18 rfl rfl ?_
    refine V_getR (k1 := (h + 251)) 8 X dX11_tips_19 co11 hh (by decide) rfl rfl wfX11_62 ?_
    refine V_aload 0 X dX11_tips_22 rfl ?_
    refine V_iload_n 3 X dX11_tips_24 rfl rfl ?_
    refine V_iload_n 4 X dX11_tips_25 rfl rfl ?_
    refine V_callI [.ref (z.2.2.1 r1), .int v2, .int v3] [] X E dX11_tips_26 (kX3_dampToTip x.2.1 z hZ N (h + 251) (kt11_8 hZ hh) r1 v2 v3 hb3 s2) co3 (kt11_8 hZ hh) gcX11_262 hyX3_dampToTip rfl ⟨by decide, by decide⟩ rfl (Nat.le_of_ble_eq_true rfl) (fun r4 s5 => ?_)
    exact V_iret X E hr dX11_tips_29
theorem kX11_tips (l : Launch) (z : Sx) (hZ : z.2.2.2.1 = kdC) (N : Nat) (h : Nat) (hh : z.2.2.2.1 h = (11, 0)) (v1 : Int32) (v2 : Int32) (v3 : Int32) (σ : Mem) : Ct QI yX11_tips cX11_tips 5 (some .int) 4 96 l z [.ref (z.2.2.1 h), .int v1, .int v2, .int v3] σ (fX11_tips N h v1 v2 v3 σ) := by
  refine Ct_of (by decide +kernel) (Nat.le_of_ble_eq_true rfl) rfl ?_
  intro x _ X E hr
  exact bX11_tips_0 X E hr hZ N h hh v1 v2 v3 σ
def fX7_whoTurnsByStanding_b80 (N : Nat) (h : Nat) (rc31 : Nat → Int32 → Int32 → Int32 → Int32 → Mem → Option (Int32 × Mem)) (v1 : Nat) (v2 : Int32) (v3 : Int32) (v4 : Int32) (v5 : Int32) (σ : Mem) : Option (Int32 × Mem) :=
  gd (inb v5 6) (bd (fX2_seatPerson N (h + 2) v5 (σ.1 (v1 + 8) v5.toNatClampNeg) σ) (fun r13 s14 => lt_ (v5 + 1) (fun v5_15 => rc31 v1 v2 v3 v4 v5_15 s14)))
set_option maxRecDepth 100000 in
set_option maxHeartbeats 4000000 in
theorem bX7_whoTurnsByStanding_80 {x : Cx} {z : Sx} (X : XG x z RX7 cX7_whoTurnsByStanding 6 4 95) (E : XE x z) (hr : XR x (some .int)) (hZ : z.2.2.2.1 = kdC) (N : Nat) (h : Nat) (hh : z.2.2.2.1 h = (7, 0)) (rc31 : Nat → Int32 → Int32 → Int32 → Int32 → Mem → Option (Int32 × Mem)) (hc31 : ∀ (v1 : Nat) (v2 : Int32) (v3 : Int32) (v4 : Int32) (v5 : Int32) (hk1 : z.2.2.2.1 v1 = (0, 0)) (σ : Mem), VK x z 6 (BQ QI x z) 31 [(0, .ref (z.2.2.1 h)), (1, .ref (z.2.2.1 v1)), (2, .int v2), (3, .int v3), (4, .int v4), (5, .int v5)] [] σ (rc31 v1 v2 v3 v4 v5 σ)) (v1 : Nat) (v2 : Int32) (v3 : Int32) (v4 : Int32) (v5 : Int32) (hk1 : z.2.2.2.1 v1 = (0, 0)) (σ : Mem) : VK x z 6 (BQ QI x z) 80 [(0, .ref (z.2.2.1 h)), (1, .ref (z.2.2.1 v1)), (2, .int v2), (3, .int v3), (4, .int v4), (5, .int v5)] [] σ (fX7_whoTurnsByStanding_b80 N h rc31 v1 v2 v3 v4 v5 σ) := by
  unfold fX7_whoTurnsByStanding_b80
  refine V_aload_n 0 X dX7_whoTurnsByStanding_80 rfl rfl ?_
  refine V_getR (k1 := (h + 2)) 1 X dX7_whoTurnsByStanding_81 co7 hh (by decide) rfl rfl wfX7_18 ?_
  refine V_iload 5 X dX7_whoTurnsByStanding_84 rfl ?_
  refine V_aload_n 1 X dX7_whoTurnsByStanding_86 rfl rfl ?_
  refine V_getR (k1 := (v1 + 8)) 10 X dX7_whoTurnsByStanding_87 co0 hk1 (by decide) rfl rfl wfX7_53 ?_
  refine V_iload 5 X dX7_whoTurnsByStanding_90 rfl ?_
  refine V_iald X dX7_whoTurnsByStanding_92 (kt0_10 hZ hk1) ?_
  refine V_callV [.int v5, .int (σ.1 (v1 + 8) v5.toNatClampNeg)] [] X E dX7_whoTurnsByStanding_93 (kX2_seatPerson x.2.1 z hZ N (h + 2) (kt7_1 hZ hh) v5 (σ.1 (v1 + 8) v5.toNatClampNeg) σ) co2 (kt7_1 hZ hh) gcX7_62 hyX2_seatPerson rfl ⟨by decide, by decide⟩ rfl (Nat.le_of_ble_eq_true rfl) (fun r13 s14 => ?_)
  refine V_iincG (L' := fun v5_15 => [(5, .int v5_15), (0, .ref (z.2.2.1 h)), (1, .ref (z.2.2.1 v1)), (2, .int v2), (3, .int v3), (4, .int v4)]) 5 X dX7_whoTurnsByStanding_96 rfl rfl (by decide) (fun _ => rfl) (fun v5_15 => ?_)
  refine V_goto (tgt := 31) X dX7_whoTurnsByStanding_99 (by decide) ?_
  refine V_sub [1, 2, 3, 4, 5, 0] rfl ?_
  exact hc31 v1 v2 v3 v4 v5_15 hk1 s14
def fX7_whoTurnsByStanding_b67 (N : Nat) (h : Nat) (rc31 : Nat → Int32 → Int32 → Int32 → Int32 → Mem → Option (Int32 × Mem)) (v1 : Nat) (v2 : Int32) (v3 : Int32) (v4 : Int32) (v5 : Int32) (t0 : Int32) (σ : Mem) : Option (Int32 × Mem) :=
  if t0 = v3 then fX7_whoTurnsByStanding_b80 N h rc31 v1 v2 v3 v4 v5 σ else lt_ (v4 ||| ((1 : Int32) <<< (v5 &&& 31))) (fun v4_12 => fX7_whoTurnsByStanding_b80 N h rc31 v1 v2 v3 v4_12 v5 σ)
set_option maxRecDepth 100000 in
set_option maxHeartbeats 4000000 in
theorem bX7_whoTurnsByStanding_67 {x : Cx} {z : Sx} (X : XG x z RX7 cX7_whoTurnsByStanding 6 4 95) (E : XE x z) (hr : XR x (some .int)) (hZ : z.2.2.2.1 = kdC) (N : Nat) (h : Nat) (hh : z.2.2.2.1 h = (7, 0)) (rc31 : Nat → Int32 → Int32 → Int32 → Int32 → Mem → Option (Int32 × Mem)) (hc31 : ∀ (v1 : Nat) (v2 : Int32) (v3 : Int32) (v4 : Int32) (v5 : Int32) (hk1 : z.2.2.2.1 v1 = (0, 0)) (σ : Mem), VK x z 6 (BQ QI x z) 31 [(0, .ref (z.2.2.1 h)), (1, .ref (z.2.2.1 v1)), (2, .int v2), (3, .int v3), (4, .int v4), (5, .int v5)] [] σ (rc31 v1 v2 v3 v4 v5 σ)) (v1 : Nat) (v2 : Int32) (v3 : Int32) (v4 : Int32) (v5 : Int32) (t0 : Int32) (hk1 : z.2.2.2.1 v1 = (0, 0)) (σ : Mem) : VK x z 6 (BQ QI x z) 67 [(0, .ref (z.2.2.1 h)), (1, .ref (z.2.2.1 v1)), (2, .int v2), (3, .int v3), (4, .int v4), (5, .int v5)] [.int t0] σ (fX7_whoTurnsByStanding_b67 N h rc31 v1 v2 v3 v4 v5 t0 σ) := by
  unfold fX7_whoTurnsByStanding_b67
  refine V_iload_n 3 X dX7_whoTurnsByStanding_67 rfl rfl ?_
  refine V_icmp_eq (tgt := 80) X dX7_whoTurnsByStanding_68 (by decide) ?_ ?_
  · refine V_sub [0, 1, 2, 3, 4, 5] rfl ?_
    exact bX7_whoTurnsByStanding_80 X E hr hZ N h hh rc31 hc31 v1 v2 v3 v4 v5 hk1 σ
  · refine V_iload 4 X dX7_whoTurnsByStanding_71 rfl ?_
    refine V_iconst (v := 1) X dX7_whoTurnsByStanding_73 (by decide) ?_
    refine V_iload 5 X dX7_whoTurnsByStanding_74 rfl ?_
    refine V_ishl X dX7_whoTurnsByStanding_76 ?_
    refine V_ior X dX7_whoTurnsByStanding_77 ?_
    refine V_istoreG (L' := fun v4_12 => [(4, .int v4_12), (0, .ref (z.2.2.1 h)), (1, .ref (z.2.2.1 v1)), (2, .int v2), (3, .int v3), (5, .int v5)]) X dX7_whoTurnsByStanding_78 (by decide) (fun _ => rfl) (fun v4_12 => ?_)
    refine V_sub [1, 2, 3, 4, 0, 5] rfl ?_
    exact bX7_whoTurnsByStanding_80 X E hr hZ N h hh rc31 hc31 v1 v2 v3 v4_12 v5 hk1 σ
def fX7_whoTurnsByStanding_b31 (N : Nat) (h : Nat) (rc31 : Nat → Int32 → Int32 → Int32 → Int32 → Mem → Option (Int32 × Mem)) (v1 : Nat) (v2 : Int32) (v3 : Int32) (v4 : Int32) (v5 : Int32) (σ : Mem) : Option (Int32 × Mem) :=
  if (σ.1 v1 1) ≤ v5 then some (v4, σ) else bd (fX2_seatPerson N (h + 2) v5 8 σ) (fun r8 s9 => bd (fX2_vote N (h + 2) v2 s9) (fun r10 s11 => if r10 ≤ 0 then fX7_whoTurnsByStanding_b67 N h rc31 v1 v2 v3 v4 v5 0 s11 else fX7_whoTurnsByStanding_b67 N h rc31 v1 v2 v3 v4 v5 1 s11))
set_option maxRecDepth 100000 in
set_option maxHeartbeats 4000000 in
theorem bX7_whoTurnsByStanding_31 {x : Cx} {z : Sx} (X : XG x z RX7 cX7_whoTurnsByStanding 6 4 95) (E : XE x z) (hr : XR x (some .int)) (hZ : z.2.2.2.1 = kdC) (N : Nat) (h : Nat) (hh : z.2.2.2.1 h = (7, 0)) (rc31 : Nat → Int32 → Int32 → Int32 → Int32 → Mem → Option (Int32 × Mem)) (hc31 : ∀ (v1 : Nat) (v2 : Int32) (v3 : Int32) (v4 : Int32) (v5 : Int32) (hk1 : z.2.2.2.1 v1 = (0, 0)) (σ : Mem), VK x z 6 (BQ QI x z) 31 [(0, .ref (z.2.2.1 h)), (1, .ref (z.2.2.1 v1)), (2, .int v2), (3, .int v3), (4, .int v4), (5, .int v5)] [] σ (rc31 v1 v2 v3 v4 v5 σ)) (v1 : Nat) (v2 : Int32) (v3 : Int32) (v4 : Int32) (v5 : Int32) (hk1 : z.2.2.2.1 v1 = (0, 0)) (σ : Mem) : VK x z 6 (BQ QI x z) 31 [(0, .ref (z.2.2.1 h)), (1, .ref (z.2.2.1 v1)), (2, .int v2), (3, .int v3), (4, .int v4), (5, .int v5)] [] σ (fX7_whoTurnsByStanding_b31 N h rc31 v1 v2 v3 v4 v5 σ) := by
  unfold fX7_whoTurnsByStanding_b31
  refine V_iload 5 X dX7_whoTurnsByStanding_31 rfl ?_
  refine V_aload_n 1 X dX7_whoTurnsByStanding_33 rfl rfl ?_
  refine V_getI 1 X dX7_whoTurnsByStanding_34 co0 hk1 (by decide) rfl wfX7_37 ?_
  refine V_icmp_ge (tgt := 102) X dX7_whoTurnsByStanding_37 (by decide) ?_ ?_
  · refine V_iload 4 X dX7_whoTurnsByStanding_102 rfl ?_
    exact V_iret X E hr dX7_whoTurnsByStanding_104
  · refine V_aload_n 0 X dX7_whoTurnsByStanding_40 rfl rfl ?_
    refine V_getR (k1 := (h + 2)) 1 X dX7_whoTurnsByStanding_41 co7 hh (by decide) rfl rfl wfX7_18 ?_
    refine V_iload 5 X dX7_whoTurnsByStanding_44 rfl ?_
    refine V_bipush (v := 8) X dX7_whoTurnsByStanding_46 (by decide) ?_
    refine V_callV [.int v5, .int 8] [] X E dX7_whoTurnsByStanding_48 (kX2_seatPerson x.2.1 z hZ N (h + 2) (kt7_1 hZ hh) v5 8 σ) co2 (kt7_1 hZ hh) gcX7_62 hyX2_seatPerson rfl ⟨by decide, by decide⟩ rfl (Nat.le_of_ble_eq_true rfl) (fun r8 s9 => ?_)
    refine V_aload_n 0 X dX7_whoTurnsByStanding_51 rfl rfl ?_
    refine V_getR (k1 := (h + 2)) 1 X dX7_whoTurnsByStanding_52 co7 hh (by decide) rfl rfl wfX7_18 ?_
    refine V_iload_n 2 X dX7_whoTurnsByStanding_55 rfl rfl ?_
    refine V_callI [.int v2] [] X E dX7_whoTurnsByStanding_56 (kX2_vote x.2.1 z hZ N (h + 2) (kt7_1 hZ hh) v2 s9) co2 (kt7_1 hZ hh) gcX7_30 hyX2_vote rfl ⟨by decide, by decide⟩ rfl (Nat.le_of_ble_eq_true rfl) (fun r10 s11 => ?_)
    refine V_if_le (tgt := 66) X dX7_whoTurnsByStanding_59 (by decide) ?_ ?_
    · refine V_iconst (v := 0) X dX7_whoTurnsByStanding_66 (by decide) ?_
      refine V_sub [0, 1, 2, 3, 4, 5] rfl ?_
      exact bX7_whoTurnsByStanding_67 X E hr hZ N h hh rc31 hc31 v1 v2 v3 v4 v5 0 hk1 s11
    · refine V_iconst (v := 1) X dX7_whoTurnsByStanding_62 (by decide) ?_
      refine V_goto (tgt := 67) X dX7_whoTurnsByStanding_63 (by decide) ?_
      refine V_sub [0, 1, 2, 3, 4, 5] rfl ?_
      exact bX7_whoTurnsByStanding_67 X E hr hZ N h hh rc31 hc31 v1 v2 v3 v4 v5 1 hk1 s11
def fX7_whoTurnsByStanding_l31 (N : Nat) (h : Nat) : Nat → Nat → Int32 → Int32 → Int32 → Int32 → Mem → Option (Int32 × Mem)
  | 0 => fun _ _ _ _ _ _ => none
  | n + 1 => fX7_whoTurnsByStanding_b31 N h (fX7_whoTurnsByStanding_l31 N h n)
theorem lX7_whoTurnsByStanding_31 {x : Cx} {z : Sx} (X : XG x z RX7 cX7_whoTurnsByStanding 6 4 95) (E : XE x z) (hr : XR x (some .int)) (hZ : z.2.2.2.1 = kdC) (N : Nat) (h : Nat) (hh : z.2.2.2.1 h = (7, 0)) (n : Nat) (v1 : Nat) (v2 : Int32) (v3 : Int32) (v4 : Int32) (v5 : Int32) (hk1 : z.2.2.2.1 v1 = (0, 0)) (σ : Mem) : VK x z 6 (BQ QI x z) 31 [(0, .ref (z.2.2.1 h)), (1, .ref (z.2.2.1 v1)), (2, .int v2), (3, .int v3), (4, .int v4), (5, .int v5)] [] σ (fX7_whoTurnsByStanding_l31 N h n v1 v2 v3 v4 v5 σ) := by
  induction n generalizing v1 v2 v3 v4 v5 hk1 σ with
  | zero => exact V_none
  | succ n ih => exact bX7_whoTurnsByStanding_31 X E hr hZ N h hh (fX7_whoTurnsByStanding_l31 N h n) ih v1 v2 v3 v4 v5 hk1 σ
def fX7_whoTurnsByStanding_b24 (N : Nat) (h : Nat) (v1 : Nat) (v2 : Int32) (t0 : Int32) (σ : Mem) : Option (Int32 × Mem) :=
  lt_ t0 (fun v3_5 => lt_ 0 (fun v4_6 => lt_ 0 (fun v5_7 => fX7_whoTurnsByStanding_l31 N h N v1 v2 v3_5 v4_6 v5_7 σ)))
set_option maxRecDepth 100000 in
set_option maxHeartbeats 4000000 in
theorem bX7_whoTurnsByStanding_24 {x : Cx} {z : Sx} (X : XG x z RX7 cX7_whoTurnsByStanding 6 4 95) (E : XE x z) (hr : XR x (some .int)) (hZ : z.2.2.2.1 = kdC) (N : Nat) (h : Nat) (hh : z.2.2.2.1 h = (7, 0)) (v1 : Nat) (v2 : Int32) (t0 : Int32) (hk1 : z.2.2.2.1 v1 = (0, 0)) (σ : Mem) : VK x z 6 (BQ QI x z) 24 [(0, .ref (z.2.2.1 h)), (1, .ref (z.2.2.1 v1)), (2, .int v2)] [.int t0] σ (fX7_whoTurnsByStanding_b24 N h v1 v2 t0 σ) := by
  unfold fX7_whoTurnsByStanding_b24
  refine V_istore_nG (L' := fun v3_5 => [(3, .int v3_5), (0, .ref (z.2.2.1 h)), (1, .ref (z.2.2.1 v1)), (2, .int v2)]) X dX7_whoTurnsByStanding_24 rfl (by decide) (fun _ => rfl) (fun v3_5 => ?_)
  refine V_iconst (v := 0) X dX7_whoTurnsByStanding_25 (by decide) ?_
  refine V_istoreG (L' := fun v4_6 => [(4, .int v4_6), (3, .int v3_5), (0, .ref (z.2.2.1 h)), (1, .ref (z.2.2.1 v1)), (2, .int v2)]) X dX7_whoTurnsByStanding_26 (by decide) (fun _ => rfl) (fun v4_6 => ?_)
  refine V_iconst (v := 0) X dX7_whoTurnsByStanding_28 (by decide) ?_
  refine V_istoreG (L' := fun v5_7 => [(5, .int v5_7), (4, .int v4_6), (3, .int v3_5), (0, .ref (z.2.2.1 h)), (1, .ref (z.2.2.1 v1)), (2, .int v2)]) X dX7_whoTurnsByStanding_29 (by decide) (fun _ => rfl) (fun v5_7 => ?_)
  refine V_sub [3, 4, 5, 2, 1, 0] rfl ?_
  exact lX7_whoTurnsByStanding_31 X E hr hZ N h hh N v1 v2 v3_5 v4_6 v5_7 hk1 σ
def fX7_whoTurnsByStanding (N : Nat) (h : Nat) (v1 : Nat) (v2 : Int32) (σ : Mem) : Option (Int32 × Mem) :=
  bd (fX2_enter N (h + 2) v1 σ) (fun r1 s2 => bd (fX2_vote N (h + 2) v2 s2) (fun r3 s4 => if r3 ≤ 0 then fX7_whoTurnsByStanding_b24 N h v1 v2 0 s4 else fX7_whoTurnsByStanding_b24 N h v1 v2 1 s4))
set_option maxRecDepth 100000 in
set_option maxHeartbeats 4000000 in
theorem bX7_whoTurnsByStanding_0 {x : Cx} {z : Sx} (X : XG x z RX7 cX7_whoTurnsByStanding 6 4 95) (E : XE x z) (hr : XR x (some .int)) (hZ : z.2.2.2.1 = kdC) (N : Nat) (h : Nat) (hh : z.2.2.2.1 h = (7, 0)) (v1 : Nat) (v2 : Int32) (hk1 : z.2.2.2.1 v1 = (0, 0)) (σ : Mem) : VK x z 6 (BQ QI x z) 0 [(0, .ref (z.2.2.1 h)), (1, .ref (z.2.2.1 v1)), (2, .int v2)] [] σ (fX7_whoTurnsByStanding N h v1 v2 σ) := by
  unfold fX7_whoTurnsByStanding
  refine V_aload_n 0 X dX7_whoTurnsByStanding_0 rfl rfl ?_
  refine V_getR (k1 := (h + 2)) 1 X dX7_whoTurnsByStanding_1 co7 hh (by decide) rfl rfl wfX7_18 ?_
  refine V_aload_n 1 X dX7_whoTurnsByStanding_4 rfl rfl ?_
  refine V_callV [.ref (z.2.2.1 v1)] [] X E dX7_whoTurnsByStanding_5 (kX2_enter x.2.1 z hZ N (h + 2) (kt7_1 hZ hh) v1 hk1 σ) co2 (kt7_1 hZ hh) gcX7_22 hyX2_enter rfl ⟨by decide, by decide⟩ rfl (Nat.le_of_ble_eq_true rfl) (fun r1 s2 => ?_)
  refine V_aload_n 0 X dX7_whoTurnsByStanding_8 rfl rfl ?_
  refine V_getR (k1 := (h + 2)) 1 X dX7_whoTurnsByStanding_9 co7 hh (by decide) rfl rfl wfX7_18 ?_
  refine V_iload_n 2 X dX7_whoTurnsByStanding_12 rfl rfl ?_
  refine V_callI [.int v2] [] X E dX7_whoTurnsByStanding_13 (kX2_vote x.2.1 z hZ N (h + 2) (kt7_1 hZ hh) v2 s2) co2 (kt7_1 hZ hh) gcX7_30 hyX2_vote rfl ⟨by decide, by decide⟩ rfl (Nat.le_of_ble_eq_true rfl) (fun r3 s4 => ?_)
  refine V_if_le (tgt := 23) X dX7_whoTurnsByStanding_16 (by decide) ?_ ?_
  · refine V_iconst (v := 0) X dX7_whoTurnsByStanding_23 (by decide) ?_
    refine V_sub [0, 1, 2] rfl ?_
    exact bX7_whoTurnsByStanding_24 X E hr hZ N h hh v1 v2 0 hk1 s4
  · refine V_iconst (v := 1) X dX7_whoTurnsByStanding_19 (by decide) ?_
    refine V_goto (tgt := 24) X dX7_whoTurnsByStanding_20 (by decide) ?_
    refine V_sub [0, 1, 2] rfl ?_
    exact bX7_whoTurnsByStanding_24 X E hr hZ N h hh v1 v2 1 hk1 s4
theorem kX7_whoTurnsByStanding (l : Launch) (z : Sx) (hZ : z.2.2.2.1 = kdC) (N : Nat) (h : Nat) (hh : z.2.2.2.1 h = (7, 0)) (v1 : Nat) (v2 : Int32) (hk1 : z.2.2.2.1 v1 = (0, 0)) (σ : Mem) : Ct QI yX7_whoTurnsByStanding cX7_whoTurnsByStanding 6 (some .int) 4 95 l z [.ref (z.2.2.1 h), .ref (z.2.2.1 v1), .int v2] σ (fX7_whoTurnsByStanding N h v1 v2 σ) := by
  refine Ct_of (by decide +kernel) (Nat.le_of_ble_eq_true rfl) rfl ?_
  intro x _ X E hr
  exact bX7_whoTurnsByStanding_0 X E hr hZ N h hh v1 v2 hk1 σ
def fX11_weighty (N : Nat) (h : Nat) (v1 : Int32) (v2 : Int32) (σ : Mem) : Option (Int32 × Mem) :=
  bd (fX11_asked N h v1 v2 σ) (fun or1 s2 => mqK (0, 0) or1 (some ((-1), s2)) (fun r1 => bd (fX7_whoTurnsByStanding N (h + 236) r1 v2 s2) (fun r4 s5 => some (r4, s5))))
set_option maxRecDepth 100000 in
set_option maxHeartbeats 4000000 in
theorem bX11_weighty_0 {x : Cx} {z : Sx} (X : XG x z RX11 cX11_weighty 4 5 120) (E : XE x z) (hr : XR x (some .int)) (hZ : z.2.2.2.1 = kdC) (N : Nat) (h : Nat) (hh : z.2.2.2.1 h = (11, 0)) (v1 : Int32) (v2 : Int32) (σ : Mem) : VK x z 4 (BQ QI x z) 0 [(0, .ref (z.2.2.1 h)), (1, .int v1), (2, .int v2)] [] σ (fX11_weighty N h v1 v2 σ) := by
  unfold fX11_weighty
  refine V_aload_n 0 X dX11_weighty_0 rfl rfl ?_
  refine V_iload_n 1 X dX11_weighty_1 rfl rfl ?_
  refine V_iload_n 2 X dX11_weighty_2 rfl rfl ?_
  refine V_callQC (K := (0, 0)) [.int v1, .int v2] [] X E hZ dX11_weighty_3 (kX11_asked x.2.1 z hZ N h hh v1 v2 σ) co11 hh gcX11_115 hyX11_asked rfl ⟨by decide, by decide⟩ rfl (Nat.le_of_ble_eq_true rfl) (fun s2 => ?_) (fun r1 s2 hb3 => ?_)
  · refine V_astore_nN (L' := [(3, .null), (0, .ref (z.2.2.1 h)), (1, .int v1), (2, .int v2)]) X dX11_weighty_6 rfl (by decide) rfl ?_
    refine V_aload_nN 0 X dX11_weighty_7 rfl rfl ?_
    refine V_ifnonnullN X dX11_weighty_8 ?_
    refine V_iconst (v := -1) X dX11_weighty_11 (by decide) ?_
    refine V_goto (tgt := 24) X dX11_weighty_12 (by decide) ?_
    exact V_iret X E hr dX11_weighty_24
  · refine V_astore_n (L' := [(3, .ref (z.2.2.1 r1)), (0, .ref (z.2.2.1 h)), (1, .int v1), (2, .int v2)]) X dX11_weighty_6 rfl (by decide) rfl ?_
    refine V_aload_n 0 X dX11_weighty_7 rfl rfl ?_
    refine V_ifnonnull (tgt := 15) X dX11_weighty_8 (by decide) ?_
    refine V_aload_n 1 X dX11_weighty_15 rfl rfl ?_
    refine V_getR (k1 := (h + 236)) 7 X dX11_weighty_16 co11 hh (by decide) rfl rfl wfX11_55 ?_
    refine V_aload_n 0 X dX11_weighty_19 rfl rfl ?_
    refine V_iload_n 3 X dX11_weighty_20 rfl rfl ?_
    refine V_callI [.ref (z.2.2.1 r1), .int v2] [] X E dX11_weighty_21 (kX7_whoTurnsByStanding x.2.1 z hZ N (h + 236) (kt11_7 hZ hh) r1 v2 hb3 s2) co7 (kt11_7 hZ hh) gcX11_265 hyX7_whoTurnsByStanding rfl ⟨by decide, by decide⟩ rfl (Nat.le_of_ble_eq_true rfl) (fun r4 s5 => ?_)
    exact V_iret X E hr dX11_weighty_24
theorem kX11_weighty (l : Launch) (z : Sx) (hZ : z.2.2.2.1 = kdC) (N : Nat) (h : Nat) (hh : z.2.2.2.1 h = (11, 0)) (v1 : Int32) (v2 : Int32) (σ : Mem) : Ct QI yX11_weighty cX11_weighty 4 (some .int) 5 120 l z [.ref (z.2.2.1 h), .int v1, .int v2] σ (fX11_weighty N h v1 v2 σ) := by
  refine Ct_of (by decide +kernel) (Nat.le_of_ble_eq_true rfl) rfl ?_
  intro x _ X E hr
  exact bX11_weighty_0 X E hr hZ N h hh v1 v2 σ
def fX10_fewestWith_b54 (N : Nat) (rc9 : Int64 → Int32 → Int32 → Int32 → Int32 → Mem → Option (Int32 × Mem)) (v0 : Int64) (v2 : Int32) (v3 : Int32) (v4 : Int32) (v5 : Int32) (σ : Mem) : Option (Int32 × Mem) :=
  lt_ (v5 + 1) (fun v5_11 => rc9 v0 v2 v3 v4 v5_11 σ)
set_option maxRecDepth 100000 in
set_option maxHeartbeats 4000000 in
theorem bX10_fewestWith_54 {x : Cx} {z : Sx} (X : XG x z RX10 cX10_fewestWith 7 1 22) (E : XE x z) (hr : XR x (some .int)) (hZ : z.2.2.2.1 = kdC) (N : Nat) (rc9 : Int64 → Int32 → Int32 → Int32 → Int32 → Mem → Option (Int32 × Mem)) (hc9 : ∀ (v0 : Int64) (v2 : Int32) (v3 : Int32) (v4 : Int32) (v5 : Int32) (σ : Mem), VK x z 7 (BQ QI x z) 9 [(0, .long v0), (2, .int v2), (3, .int v3), (4, .int v4), (5, .int v5)] [] σ (rc9 v0 v2 v3 v4 v5 σ)) (v0 : Int64) (v2 : Int32) (v3 : Int32) (v4 : Int32) (v5 : Int32) (σ : Mem) : VK x z 7 (BQ QI x z) 54 [(0, .long v0), (2, .int v2), (3, .int v3), (4, .int v4), (5, .int v5)] [] σ (fX10_fewestWith_b54 N rc9 v0 v2 v3 v4 v5 σ) := by
  unfold fX10_fewestWith_b54
  refine V_iincG (L' := fun v5_11 => [(5, .int v5_11), (0, .long v0), (2, .int v2), (3, .int v3), (4, .int v4)]) 4 X dX10_fewestWith_54 rfl rfl (by decide) (fun _ => rfl) (fun v5_11 => ?_)
  refine V_goto (tgt := 9) X dX10_fewestWith_57 (by decide) ?_
  refine V_sub [1, 2, 3, 4, 0] rfl ?_
  exact hc9 v0 v2 v3 v4 v5_11 σ
def fX10_fewestWith_b9 (N : Nat) (rc9 : Int64 → Int32 → Int32 → Int32 → Int32 → Mem → Option (Int32 × Mem)) (v0 : Int64) (v2 : Int32) (v3 : Int32) (v4 : Int32) (v5 : Int32) (σ : Mem) : Option (Int32 × Mem) :=
  if 64 ≤ v5 then some (v3, σ) else bd (fJ6_bitCount_0f7a4 N v5 σ) (fun r4 s5 => lt_ r4 (fun v6_6 => if (v5 &&& v2) = v2 then if v4 ≤ v6_6 then fX10_fewestWith_b54 N rc9 v0 v2 v3 v4 v5 s5 else bd (fX10_isIn N v0 v5 s5) (fun r7 s8 => if r7 = 0 then fX10_fewestWith_b54 N rc9 v0 v2 v3 v4 v5 s8 else lt_ v6_6 (fun v4_9 => lt_ v5 (fun v3_10 => fX10_fewestWith_b54 N rc9 v0 v2 v3_10 v4_9 v5 s8))) else fX10_fewestWith_b54 N rc9 v0 v2 v3 v4 v5 s5))
set_option maxRecDepth 100000 in
set_option maxHeartbeats 4000000 in
theorem bX10_fewestWith_9 {x : Cx} {z : Sx} (X : XG x z RX10 cX10_fewestWith 7 1 22) (E : XE x z) (hr : XR x (some .int)) (hZ : z.2.2.2.1 = kdC) (N : Nat) (rc9 : Int64 → Int32 → Int32 → Int32 → Int32 → Mem → Option (Int32 × Mem)) (hc9 : ∀ (v0 : Int64) (v2 : Int32) (v3 : Int32) (v4 : Int32) (v5 : Int32) (σ : Mem), VK x z 7 (BQ QI x z) 9 [(0, .long v0), (2, .int v2), (3, .int v3), (4, .int v4), (5, .int v5)] [] σ (rc9 v0 v2 v3 v4 v5 σ)) (v0 : Int64) (v2 : Int32) (v3 : Int32) (v4 : Int32) (v5 : Int32) (σ : Mem) : VK x z 7 (BQ QI x z) 9 [(0, .long v0), (2, .int v2), (3, .int v3), (4, .int v4), (5, .int v5)] [] σ (fX10_fewestWith_b9 N rc9 v0 v2 v3 v4 v5 σ) := by
  unfold fX10_fewestWith_b9
  refine V_iload 4 X dX10_fewestWith_9 rfl ?_
  refine V_bipush (v := 64) X dX10_fewestWith_11 (by decide) ?_
  refine V_icmp_ge (tgt := 60) X dX10_fewestWith_13 (by decide) ?_ ?_
  · refine V_iload_n 2 X dX10_fewestWith_60 rfl rfl ?_
    exact V_iret X E hr dX10_fewestWith_61
  · refine V_iload 4 X dX10_fewestWith_16 rfl ?_
    refine V_calSI [.int v5] [] X E dX10_fewestWith_18 (kJ6_bitCount_0f7a4 x.2.1 z hZ N v5 σ) gcX10_60 hyJ6_bitCount_0f7a4 rfl ⟨by decide, by decide⟩ rfl (Nat.le_of_ble_eq_true rfl) (fun r4 s5 => ?_)
    refine V_istoreG (L' := fun v6_6 => [(6, .int v6_6), (0, .long v0), (2, .int v2), (3, .int v3), (4, .int v4), (5, .int v5)]) X dX10_fewestWith_21 (by decide) (fun _ => rfl) (fun v6_6 => ?_)
    refine V_iload 5 X dX10_fewestWith_23 rfl ?_
    refine V_iload_n 2 X dX10_fewestWith_25 rfl rfl ?_
    refine V_iand X dX10_fewestWith_26 ?_
    refine V_iload_n 2 X dX10_fewestWith_27 rfl rfl ?_
    refine V_icmp_ne (tgt := 54) X dX10_fewestWith_28 (by decide) ?_ ?_
    · refine V_sub [1, 2, 3, 4, 5] rfl ?_
      exact bX10_fewestWith_54 X E hr hZ N rc9 hc9 v0 v2 v3 v4 v5 s5
    · refine V_iload 0 X dX10_fewestWith_31 rfl ?_
      refine V_iload 4 X dX10_fewestWith_33 rfl ?_
      refine V_icmp_ge (tgt := 54) X dX10_fewestWith_35 (by decide) ?_ ?_
      · refine V_sub [1, 2, 3, 4, 5] rfl ?_
        exact bX10_fewestWith_54 X E hr hZ N rc9 hc9 v0 v2 v3 v4 v5 s5
      · refine V_lload_n 1 X dX10_fewestWith_38 rfl rfl ?_
        refine V_iload 5 X dX10_fewestWith_39 rfl ?_
        refine V_calSI [.long v0, .int v5] [] X E dX10_fewestWith_41 (kX10_isIn x.2.1 z hZ N v0 v5 s5) gcX10_56 hyX10_isIn rfl ⟨by decide, by decide⟩ rfl (Nat.le_of_ble_eq_true rfl) (fun r7 s8 => ?_)
        refine V_if_eq (tgt := 54) X dX10_fewestWith_44 (by decide) ?_ ?_
        · refine V_sub [1, 2, 3, 4, 5] rfl ?_
          exact bX10_fewestWith_54 X E hr hZ N rc9 hc9 v0 v2 v3 v4 v5 s8
        · refine V_iload 0 X dX10_fewestWith_47 rfl ?_
          refine V_istoreG (L' := fun v4_9 => [(4, .int v4_9), (6, .int v6_6), (0, .long v0), (2, .int v2), (3, .int v3), (5, .int v5)]) X dX10_fewestWith_49 (by decide) (fun _ => rfl) (fun v4_9 => ?_)
          refine V_iload 5 X dX10_fewestWith_51 rfl ?_
          refine V_istore_nG (L' := fun v3_10 => [(3, .int v3_10), (4, .int v4_9), (6, .int v6_6), (0, .long v0), (2, .int v2), (5, .int v5)]) X dX10_fewestWith_53 rfl (by decide) (fun _ => rfl) (fun v3_10 => ?_)
          refine V_sub [3, 4, 0, 1, 5] rfl ?_
          exact bX10_fewestWith_54 X E hr hZ N rc9 hc9 v0 v2 v3_10 v4_9 v5 s8
def fX10_fewestWith_l9 (N : Nat) : Nat → Int64 → Int32 → Int32 → Int32 → Int32 → Mem → Option (Int32 × Mem)
  | 0 => fun _ _ _ _ _ _ => none
  | n + 1 => fX10_fewestWith_b9 N (fX10_fewestWith_l9 N n)
theorem lX10_fewestWith_9 {x : Cx} {z : Sx} (X : XG x z RX10 cX10_fewestWith 7 1 22) (E : XE x z) (hr : XR x (some .int)) (hZ : z.2.2.2.1 = kdC) (N : Nat) (n : Nat) (v0 : Int64) (v2 : Int32) (v3 : Int32) (v4 : Int32) (v5 : Int32) (σ : Mem) : VK x z 7 (BQ QI x z) 9 [(0, .long v0), (2, .int v2), (3, .int v3), (4, .int v4), (5, .int v5)] [] σ (fX10_fewestWith_l9 N n v0 v2 v3 v4 v5 σ) := by
  induction n generalizing v0 v2 v3 v4 v5 σ with
  | zero => exact V_none
  | succ n ih => exact bX10_fewestWith_9 X E hr hZ N (fX10_fewestWith_l9 N n) ih v0 v2 v3 v4 v5 σ
def fX10_fewestWith (N : Nat) (v0 : Int64) (v2 : Int32) (σ : Mem) : Option (Int32 × Mem) :=
  lt_ (-1) (fun v3_1 => lt_ 7 (fun v4_2 => lt_ 0 (fun v5_3 => fX10_fewestWith_l9 N N v0 v2 v3_1 v4_2 v5_3 σ)))
set_option maxRecDepth 100000 in
set_option maxHeartbeats 4000000 in
theorem bX10_fewestWith_0 {x : Cx} {z : Sx} (X : XG x z RX10 cX10_fewestWith 7 1 22) (E : XE x z) (hr : XR x (some .int)) (hZ : z.2.2.2.1 = kdC) (N : Nat) (v0 : Int64) (v2 : Int32) (σ : Mem) : VK x z 7 (BQ QI x z) 0 [(0, .long v0), (2, .int v2)] [] σ (fX10_fewestWith N v0 v2 σ) := by
  unfold fX10_fewestWith
  refine V_iconst (v := -1) X dX10_fewestWith_0 (by decide) ?_
  refine V_istore_nG (L' := fun v3_1 => [(3, .int v3_1), (0, .long v0), (2, .int v2)]) X dX10_fewestWith_1 rfl (by decide) (fun _ => rfl) (fun v3_1 => ?_)
  refine V_bipush (v := 7) X dX10_fewestWith_2 (by decide) ?_
  refine V_istoreG (L' := fun v4_2 => [(4, .int v4_2), (3, .int v3_1), (0, .long v0), (2, .int v2)]) X dX10_fewestWith_4 (by decide) (fun _ => rfl) (fun v4_2 => ?_)
  refine V_iconst (v := 0) X dX10_fewestWith_6 (by decide) ?_
  refine V_istoreG (L' := fun v5_3 => [(5, .int v5_3), (4, .int v4_2), (3, .int v3_1), (0, .long v0), (2, .int v2)]) X dX10_fewestWith_7 (by decide) (fun _ => rfl) (fun v5_3 => ?_)
  refine V_sub [3, 4, 2, 1, 0] rfl ?_
  exact lX10_fewestWith_9 X E hr hZ N N v0 v2 v3_1 v4_2 v5_3 σ
theorem kX10_fewestWith (l : Launch) (z : Sx) (hZ : z.2.2.2.1 = kdC) (N : Nat) (v0 : Int64) (v2 : Int32) (σ : Mem) : Ct QI yX10_fewestWith cX10_fewestWith 7 (some .int) 1 22 l z [.long v0, .int v2] σ (fX10_fewestWith N v0 v2 σ) := by
  refine Ct_of (by decide +kernel) (Nat.le_of_ble_eq_true rfl) rfl ?_
  intro x _ X E hr
  exact bX10_fewestWith_0 X E hr hZ N v0 v2 σ
def fX11_worded (N : Nat) (h : Nat) (v1 : Int32) (v2 : Int32) (σ : Mem) : Option (Int32 × Mem) :=
  bd (fX11_asked N h v1 v2 σ) (fun or1 s2 => mqK (0, 0) or1 (some ((-1), s2)) (fun r1 => bd (fX10_carriedSet N (h + 220) r1 s2) (fun r4 s5 => bd (fX10_fewestWith N r4 v2 s5) (fun r6 s7 => some (r6, s7)))))
set_option maxRecDepth 100000 in
set_option maxHeartbeats 4000000 in
theorem bX11_worded_0 {x : Cx} {z : Sx} (X : XG x z RX11 cX11_worded 4 5 119) (E : XE x z) (hr : XR x (some .int)) (hZ : z.2.2.2.1 = kdC) (N : Nat) (h : Nat) (hh : z.2.2.2.1 h = (11, 0)) (v1 : Int32) (v2 : Int32) (σ : Mem) : VK x z 4 (BQ QI x z) 0 [(0, .ref (z.2.2.1 h)), (1, .int v1), (2, .int v2)] [] σ (fX11_worded N h v1 v2 σ) := by
  unfold fX11_worded
  refine V_aload_n 0 X dX11_worded_0 rfl rfl ?_
  refine V_iload_n 1 X dX11_worded_1 rfl rfl ?_
  refine V_iload_n 2 X dX11_worded_2 rfl rfl ?_
  refine V_callQC (K := (0, 0)) [.int v1, .int v2] [] X E hZ dX11_worded_3 (kX11_asked x.2.1 z hZ N h hh v1 v2 σ) co11 hh gcX11_115 hyX11_asked rfl ⟨by decide, by decide⟩ rfl (Nat.le_of_ble_eq_true rfl) (fun s2 => ?_) (fun r1 s2 hb3 => ?_)
  · refine V_astore_nN (L' := [(3, .null), (0, .ref (z.2.2.1 h)), (1, .int v1), (2, .int v2)]) X dX11_worded_6 rfl (by decide) rfl ?_
    refine V_aload_nN 0 X dX11_worded_7 rfl rfl ?_
    refine V_ifnonnullN X dX11_worded_8 ?_
    refine V_iconst (v := -1) X dX11_worded_11 (by decide) ?_
    refine V_goto (tgt := 27) X dX11_worded_12 (by decide) ?_
    exact V_iret X E hr dX11_worded_27
  · refine V_astore_n (L' := [(3, .ref (z.2.2.1 r1)), (0, .ref (z.2.2.1 h)), (1, .int v1), (2, .int v2)]) X dX11_worded_6 rfl (by decide) rfl ?_
    refine V_aload_n 0 X dX11_worded_7 rfl rfl ?_
    refine V_ifnonnull (tgt := 15) X dX11_worded_8 (by decide) ?_
    refine V_aload_n 1 X dX11_worded_15 rfl rfl ?_
    refine V_getR (k1 := (h + 220)) 6 X dX11_worded_16 co11 hh (by decide) rfl rfl wfX11_48 ?_
    refine V_aload_n 0 X dX11_worded_19 rfl rfl ?_
    refine V_callL [.ref (z.2.2.1 r1)] [] X E dX11_worded_20 (kX10_carriedSet x.2.1 z hZ N (h + 220) (kt11_6 hZ hh) r1 hb3 s2) co10 (kt11_6 hZ hh) gcX11_158 hyX10_carriedSet rfl ⟨by decide, by decide⟩ rfl (Nat.le_of_ble_eq_true rfl) (fun r4 s5 => ?_)
    refine V_iload_n 3 X dX11_worded_23 rfl rfl ?_
    refine V_calSI [.long r4, .int v2] [] X E dX11_worded_24 (kX10_fewestWith x.2.1 z hZ N r4 v2 s5) gcX11_268 hyX10_fewestWith rfl ⟨by decide, by decide⟩ rfl (Nat.le_of_ble_eq_true rfl) (fun r6 s7 => ?_)
    exact V_iret X E hr dX11_worded_27
theorem kX11_worded (l : Launch) (z : Sx) (hZ : z.2.2.2.1 = kdC) (N : Nat) (h : Nat) (hh : z.2.2.2.1 h = (11, 0)) (v1 : Int32) (v2 : Int32) (σ : Mem) : Ct QI yX11_worded cX11_worded 4 (some .int) 5 119 l z [.ref (z.2.2.1 h), .int v1, .int v2] σ (fX11_worded N h v1 v2 σ) := by
  refine Ct_of (by decide +kernel) (Nat.le_of_ble_eq_true rfl) rfl ?_
  intro x _ X E hr
  exact bX11_worded_0 X E hr hZ N h hh v1 v2 σ
def fX10_clearSet_b57 (N : Nat) (h : Nat) (rc13 : Int64 → Int32 → Mem → Option (Int64 × Mem)) (v2 : Int64) (v4 : Int32) (σ : Mem) : Option (Int64 × Mem) :=
  lt_ (v4 + 1) (fun v4_8 => rc13 v2 v4_8 σ)
set_option maxRecDepth 100000 in
set_option maxHeartbeats 4000000 in
theorem bX10_clearSet_57 {x : Cx} {z : Sx} (X : XG x z RX10 cX10_clearSet 5 4 95) (E : XE x z) (hr : XR x (some .long)) (hZ : z.2.2.2.1 = kdC) (N : Nat) (h : Nat) (hh : z.2.2.2.1 h = (10, 0)) (rc13 : Int64 → Int32 → Mem → Option (Int64 × Mem)) (hc13 : ∀ (v2 : Int64) (v4 : Int32) (σ : Mem), VK x z 5 (BQ QL x z) 13 [(0, .ref (z.2.2.1 h)), (2, .long v2), (4, .int v4)] [] σ (rc13 v2 v4 σ)) (v2 : Int64) (v4 : Int32) (σ : Mem) : VK x z 5 (BQ QL x z) 57 [(0, .ref (z.2.2.1 h)), (2, .long v2), (4, .int v4)] [] σ (fX10_clearSet_b57 N h rc13 v2 v4 σ) := by
  unfold fX10_clearSet_b57
  refine V_iincG (L' := fun v4_8 => [(4, .int v4_8), (0, .ref (z.2.2.1 h)), (2, .long v2)]) 2 X dX10_clearSet_57 rfl rfl (by decide) (fun _ => rfl) (fun v4_8 => ?_)
  refine V_goto (tgt := 13) X dX10_clearSet_60 (by decide) ?_
  refine V_sub [1, 2, 0] rfl ?_
  exact hc13 v2 v4_8 σ
def fX10_clearSet_b13 (N : Nat) (h : Nat) (rc13 : Int64 → Int32 → Mem → Option (Int64 × Mem)) (v2 : Int64) (v4 : Int32) (σ : Mem) : Option (Int64 × Mem) :=
  if 64 ≤ v4 then some (v2, σ) else bd (fX2_vote N (h + 1) v4 σ) (fun r5 s6 => if (s6.1 (h + 1) 5) ≤ 0 then fX10_clearSet_b57 N h rc13 v2 v4 s6 else if (s6.1 (h + 1) 6) = 0 then lt_ (v2 ||| ((1 : Int64) <<< ((v4 : Int32).toInt64 &&& 63))) (fun v2_7 => fX10_clearSet_b57 N h rc13 v2_7 v4 s6) else fX10_clearSet_b57 N h rc13 v2 v4 s6)
set_option maxRecDepth 100000 in
set_option maxHeartbeats 4000000 in
theorem bX10_clearSet_13 {x : Cx} {z : Sx} (X : XG x z RX10 cX10_clearSet 5 4 95) (E : XE x z) (hr : XR x (some .long)) (hZ : z.2.2.2.1 = kdC) (N : Nat) (h : Nat) (hh : z.2.2.2.1 h = (10, 0)) (rc13 : Int64 → Int32 → Mem → Option (Int64 × Mem)) (hc13 : ∀ (v2 : Int64) (v4 : Int32) (σ : Mem), VK x z 5 (BQ QL x z) 13 [(0, .ref (z.2.2.1 h)), (2, .long v2), (4, .int v4)] [] σ (rc13 v2 v4 σ)) (v2 : Int64) (v4 : Int32) (σ : Mem) : VK x z 5 (BQ QL x z) 13 [(0, .ref (z.2.2.1 h)), (2, .long v2), (4, .int v4)] [] σ (fX10_clearSet_b13 N h rc13 v2 v4 σ) := by
  unfold fX10_clearSet_b13
  refine V_iload 2 X dX10_clearSet_13 rfl ?_
  refine V_bipush (v := 64) X dX10_clearSet_15 (by decide) ?_
  refine V_icmp_ge (tgt := 63) X dX10_clearSet_17 (by decide) ?_ ?_
  · refine V_lload_n 1 X dX10_clearSet_63 rfl rfl ?_
    exact V_lret X E hr dX10_clearSet_64
  · refine V_aload_n 0 X dX10_clearSet_20 rfl rfl ?_
    refine V_getR (k1 := (h + 1)) 0 X dX10_clearSet_21 co10 hh (by decide) rfl rfl wfX10_12 ?_
    refine V_iload 2 X dX10_clearSet_24 rfl ?_
    refine V_callI [.int v4] [] X E dX10_clearSet_26 (kX2_vote x.2.1 z hZ N (h + 1) (kt10_0 hZ hh) v4 σ) co2 (kt10_0 hZ hh) gcX10_29 hyX2_vote rfl ⟨by decide, by decide⟩ rfl (Nat.le_of_ble_eq_true rfl) (fun r5 s6 => ?_)
    refine V_pop X dX10_clearSet_29 rfl ?_
    refine V_aload_n 0 X dX10_clearSet_30 rfl rfl ?_
    refine V_getR (k1 := (h + 1)) 0 X dX10_clearSet_31 co10 hh (by decide) rfl rfl wfX10_12 ?_
    refine V_getI 5 X dX10_clearSet_34 co2 (kt10_0 hZ hh) (by decide) rfl wfX10_33 ?_
    refine V_if_le (tgt := 57) X dX10_clearSet_37 (by decide) ?_ ?_
    · refine V_sub [0, 1, 2] rfl ?_
      exact bX10_clearSet_57 X E hr hZ N h hh rc13 hc13 v2 v4 s6
    · refine V_aload_n 0 X dX10_clearSet_40 rfl rfl ?_
      refine V_getR (k1 := (h + 1)) 0 X dX10_clearSet_41 co10 hh (by decide) rfl rfl wfX10_12 ?_
      refine V_getI 6 X dX10_clearSet_44 co2 (kt10_0 hZ hh) (by decide) rfl wfX10_37 ?_
      refine V_if_ne (tgt := 57) X dX10_clearSet_47 (by decide) ?_ ?_
      · refine V_sub [0, 1, 2] rfl ?_
        exact bX10_clearSet_57 X E hr hZ N h hh rc13 hc13 v2 v4 s6
      · refine V_lload_n 1 X dX10_clearSet_50 rfl rfl ?_
        refine V_lconst (v := 1) X dX10_clearSet_51 (by decide) ?_
        refine V_iload 2 X dX10_clearSet_52 rfl ?_
        refine V_lshl X dX10_clearSet_54 ?_
        refine V_lor X dX10_clearSet_55 ?_
        refine V_lstore_nG (L' := fun v2_7 => [(2, .long v2_7), (0, .ref (z.2.2.1 h)), (4, .int v4)]) X dX10_clearSet_56 rfl (by decide) (fun _ => rfl) (fun v2_7 => ?_)
        refine V_sub [1, 0, 2] rfl ?_
        exact bX10_clearSet_57 X E hr hZ N h hh rc13 hc13 v2_7 v4 s6
def fX10_clearSet_l13 (N : Nat) (h : Nat) : Nat → Int64 → Int32 → Mem → Option (Int64 × Mem)
  | 0 => fun _ _ _ => none
  | n + 1 => fX10_clearSet_b13 N h (fX10_clearSet_l13 N h n)
theorem lX10_clearSet_13 {x : Cx} {z : Sx} (X : XG x z RX10 cX10_clearSet 5 4 95) (E : XE x z) (hr : XR x (some .long)) (hZ : z.2.2.2.1 = kdC) (N : Nat) (h : Nat) (hh : z.2.2.2.1 h = (10, 0)) (n : Nat) (v2 : Int64) (v4 : Int32) (σ : Mem) : VK x z 5 (BQ QL x z) 13 [(0, .ref (z.2.2.1 h)), (2, .long v2), (4, .int v4)] [] σ (fX10_clearSet_l13 N h n v2 v4 σ) := by
  induction n generalizing v2 v4 σ with
  | zero => exact V_none
  | succ n ih => exact bX10_clearSet_13 X E hr hZ N h hh (fX10_clearSet_l13 N h n) ih v2 v4 σ
def fX10_clearSet (N : Nat) (h : Nat) (v1 : Nat) (σ : Mem) : Option (Int64 × Mem) :=
  bd (fX2_enter N (h + 1) v1 σ) (fun r1 s2 => lt_ 0 (fun v2_3 => lt_ 0 (fun v4_4 => fX10_clearSet_l13 N h N v2_3 v4_4 s2)))
set_option maxRecDepth 100000 in
set_option maxHeartbeats 4000000 in
theorem bX10_clearSet_0 {x : Cx} {z : Sx} (X : XG x z RX10 cX10_clearSet 5 4 95) (E : XE x z) (hr : XR x (some .long)) (hZ : z.2.2.2.1 = kdC) (N : Nat) (h : Nat) (hh : z.2.2.2.1 h = (10, 0)) (v1 : Nat) (hk1 : z.2.2.2.1 v1 = (0, 0)) (σ : Mem) : VK x z 5 (BQ QL x z) 0 [(0, .ref (z.2.2.1 h)), (1, .ref (z.2.2.1 v1))] [] σ (fX10_clearSet N h v1 σ) := by
  unfold fX10_clearSet
  refine V_aload_n 0 X dX10_clearSet_0 rfl rfl ?_
  refine V_getR (k1 := (h + 1)) 0 X dX10_clearSet_1 co10 hh (by decide) rfl rfl wfX10_12 ?_
  refine V_aload_n 1 X dX10_clearSet_4 rfl rfl ?_
  refine V_callV [.ref (z.2.2.1 v1)] [] X E dX10_clearSet_5 (kX2_enter x.2.1 z hZ N (h + 1) (kt10_0 hZ hh) v1 hk1 σ) co2 (kt10_0 hZ hh) gcX10_25 hyX2_enter rfl ⟨by decide, by decide⟩ rfl (Nat.le_of_ble_eq_true rfl) (fun r1 s2 => ?_)
  refine V_lconst (v := 0) X dX10_clearSet_8 (by decide) ?_
  refine V_lstore_nG (L' := fun v2_3 => [(2, .long v2_3), (0, .ref (z.2.2.1 h)), (1, .ref (z.2.2.1 v1))]) X dX10_clearSet_9 rfl (by decide) (fun _ => rfl) (fun v2_3 => ?_)
  refine V_iconst (v := 0) X dX10_clearSet_10 (by decide) ?_
  refine V_istoreG (L' := fun v4_4 => [(4, .int v4_4), (2, .long v2_3), (0, .ref (z.2.2.1 h)), (1, .ref (z.2.2.1 v1))]) X dX10_clearSet_11 (by decide) (fun _ => rfl) (fun v4_4 => ?_)
  refine V_sub [2, 1, 0] rfl ?_
  exact lX10_clearSet_13 X E hr hZ N h hh N v2_3 v4_4 s2
theorem kX10_clearSet (l : Launch) (z : Sx) (hZ : z.2.2.2.1 = kdC) (N : Nat) (h : Nat) (hh : z.2.2.2.1 h = (10, 0)) (v1 : Nat) (hk1 : z.2.2.2.1 v1 = (0, 0)) (σ : Mem) : Ct QL yX10_clearSet cX10_clearSet 5 (some .long) 4 95 l z [.ref (z.2.2.1 h), .ref (z.2.2.1 v1)] σ (fX10_clearSet N h v1 σ) := by
  refine Ct_of (by decide +kernel) (Nat.le_of_ble_eq_true rfl) rfl ?_
  intro x _ X E hr
  exact bX10_clearSet_0 X E hr hZ N h hh v1 hk1 σ
def fX11_clear (N : Nat) (h : Nat) (v1 : Int32) (v2 : Int32) (σ : Mem) : Option (Int32 × Mem) :=
  bd (fX9_chamberAt N (h + 1) v1 σ) (fun or1 s2 => mqK (0, 0) or1 (some ((-1), s2)) (fun r1 => bd (fX10_clearSet N (h + 220) r1 s2) (fun r4 s5 => bd (fX10_member N r4 v2 s5) (fun r6 s7 => some (r6, s7)))))
set_option maxRecDepth 100000 in
set_option maxHeartbeats 4000000 in
theorem bX11_clear_0 {x : Cx} {z : Sx} (X : XG x z RX11 cX11_clear 4 5 119) (E : XE x z) (hr : XR x (some .int)) (hZ : z.2.2.2.1 = kdC) (N : Nat) (h : Nat) (hh : z.2.2.2.1 h = (11, 0)) (v1 : Int32) (v2 : Int32) (σ : Mem) : VK x z 4 (BQ QI x z) 0 [(0, .ref (z.2.2.1 h)), (1, .int v1), (2, .int v2)] [] σ (fX11_clear N h v1 v2 σ) := by
  unfold fX11_clear
  refine V_aload_n 0 X dX11_clear_0 rfl rfl ?_
  refine V_getR (k1 := (h + 1)) 0 X dX11_clear_1 co11 hh (by decide) rfl rfl wfX11_10 ?_
  refine V_iload_n 1 X dX11_clear_4 rfl rfl ?_
  refine V_callQC (K := (0, 0)) [.int v1] [] X E hZ dX11_clear_5 (kX9_chamberAt x.2.1 z hZ N (h + 1) (kt11_0 hZ hh) v1 σ) co9 (kt11_0 hZ hh) gcX11_105 hyX9_chamberAt rfl ⟨by decide, by decide⟩ rfl (Nat.le_of_ble_eq_true rfl) (fun s2 => ?_) (fun r1 s2 hb3 => ?_)
  · refine V_astore_nN (L' := [(3, .null), (0, .ref (z.2.2.1 h)), (1, .int v1), (2, .int v2)]) X dX11_clear_8 rfl (by decide) rfl ?_
    refine V_aload_nN 0 X dX11_clear_9 rfl rfl ?_
    refine V_ifnonnullN X dX11_clear_10 ?_
    refine V_iconst (v := -1) X dX11_clear_13 (by decide) ?_
    refine V_goto (tgt := 29) X dX11_clear_14 (by decide) ?_
    exact V_iret X E hr dX11_clear_29
  · refine V_astore_n (L' := [(3, .ref (z.2.2.1 r1)), (0, .ref (z.2.2.1 h)), (1, .int v1), (2, .int v2)]) X dX11_clear_8 rfl (by decide) rfl ?_
    refine V_aload_n 0 X dX11_clear_9 rfl rfl ?_
    refine V_ifnonnull (tgt := 17) X dX11_clear_10 (by decide) ?_
    refine V_aload_n 1 X dX11_clear_17 rfl rfl ?_
    refine V_getR (k1 := (h + 220)) 6 X dX11_clear_18 co11 hh (by decide) rfl rfl wfX11_48 ?_
    refine V_aload_n 0 X dX11_clear_21 rfl rfl ?_
    refine V_callL [.ref (z.2.2.1 r1)] [] X E dX11_clear_22 (kX10_clearSet x.2.1 z hZ N (h + 220) (kt11_6 hZ hh) r1 hb3 s2) co10 (kt11_6 hZ hh) gcX11_271 hyX10_clearSet rfl ⟨by decide, by decide⟩ rfl (Nat.le_of_ble_eq_true rfl) (fun r4 s5 => ?_)
    refine V_iload_n 3 X dX11_clear_25 rfl rfl ?_
    refine V_calSI [.long r4, .int v2] [] X E dX11_clear_26 (kX10_member x.2.1 z hZ N r4 v2 s5) gcX11_162 hyX10_member rfl ⟨by decide, by decide⟩ rfl (Nat.le_of_ble_eq_true rfl) (fun r6 s7 => ?_)
    exact V_iret X E hr dX11_clear_29
theorem kX11_clear (l : Launch) (z : Sx) (hZ : z.2.2.2.1 = kdC) (N : Nat) (h : Nat) (hh : z.2.2.2.1 h = (11, 0)) (v1 : Int32) (v2 : Int32) (σ : Mem) : Ct QI yX11_clear cX11_clear 4 (some .int) 5 119 l z [.ref (z.2.2.1 h), .int v1, .int v2] σ (fX11_clear N h v1 v2 σ) := by
  refine Ct_of (by decide +kernel) (Nat.le_of_ble_eq_true rfl) rfl ?_
  intro x _ X E hr
  exact bX11_clear_0 X E hr hZ N h hh v1 v2 σ
def fX7_seatBest_b73 (N : Nat) (h : Nat) (rc11 : Int32 → Int32 → Int32 → Int32 → Int32 → Mem → Option (Int32 × Mem)) (v1 : Int32) (v2 : Int32) (v3 : Int32) (v4 : Int32) (v5 : Int32) (σ : Mem) : Option (Int32 × Mem) :=
  lt_ (v5 + 1) (fun v5_17 => rc11 v1 v2 v3 v4 v5_17 σ)
set_option maxRecDepth 100000 in
set_option maxHeartbeats 4000000 in
theorem bX7_seatBest_73 {x : Cx} {z : Sx} (X : XG x z RX7 cX7_seatBest 7 4 95) (E : XE x z) (hr : XR x (some .int)) (hZ : z.2.2.2.1 = kdC) (N : Nat) (h : Nat) (hh : z.2.2.2.1 h = (7, 0)) (rc11 : Int32 → Int32 → Int32 → Int32 → Int32 → Mem → Option (Int32 × Mem)) (hc11 : ∀ (v1 : Int32) (v2 : Int32) (v3 : Int32) (v4 : Int32) (v5 : Int32) (σ : Mem), VK x z 7 (BQ QI x z) 11 [(0, .ref (z.2.2.1 h)), (1, .int v1), (2, .int v2), (3, .int v3), (4, .int v4), (5, .int v5)] [] σ (rc11 v1 v2 v3 v4 v5 σ)) (v1 : Int32) (v2 : Int32) (v3 : Int32) (v4 : Int32) (v5 : Int32) (σ : Mem) : VK x z 7 (BQ QI x z) 73 [(0, .ref (z.2.2.1 h)), (1, .int v1), (2, .int v2), (3, .int v3), (4, .int v4), (5, .int v5)] [] σ (fX7_seatBest_b73 N h rc11 v1 v2 v3 v4 v5 σ) := by
  unfold fX7_seatBest_b73
  refine V_iincG (L' := fun v5_17 => [(5, .int v5_17), (0, .ref (z.2.2.1 h)), (1, .int v1), (2, .int v2), (3, .int v3), (4, .int v4)]) 5 X dX7_seatBest_73 rfl rfl (by decide) (fun _ => rfl) (fun v5_17 => ?_)
  refine V_goto (tgt := 11) X dX7_seatBest_76 (by decide) ?_
  refine V_sub [1, 2, 3, 4, 5, 0] rfl ?_
  exact hc11 v1 v2 v3 v4 v5_17 σ
def fX7_seatBest_b11 (N : Nat) (h : Nat) (rc11 : Int32 → Int32 → Int32 → Int32 → Int32 → Mem → Option (Int32 × Mem)) (v1 : Int32) (v2 : Int32) (v3 : Int32) (v4 : Int32) (v5 : Int32) (σ : Mem) : Option (Int32 × Mem) :=
  if (σ.1 ((h + 2) + 1) 0) < v5 then bd (fX2_seatPerson N (h + 2) v1 v4 σ) (fun r4 s5 => some (v3, s5)) else bd (fX2_seatTried N (h + 2) v5 σ) (fun r6 s7 => bd (fX2_seatPerson N (h + 2) v1 r6 s7) (fun r8 s9 => bd (fX2_vote N (h + 2) v2 s9) (fun r10 s11 => lt_ r10 (fun v6_12 => if v6_12 ≤ v3 then fX7_seatBest_b73 N h rc11 v1 v2 v3 v4 v5 s11 else lt_ v6_12 (fun v3_13 => bd (fX2_seatTried N (h + 2) v5 s11) (fun r14 s15 => lt_ r14 (fun v4_16 => fX7_seatBest_b73 N h rc11 v1 v2 v3_13 v4_16 v5 s15)))))))
set_option maxRecDepth 100000 in
set_option maxHeartbeats 4000000 in
theorem bX7_seatBest_11 {x : Cx} {z : Sx} (X : XG x z RX7 cX7_seatBest 7 4 95) (E : XE x z) (hr : XR x (some .int)) (hZ : z.2.2.2.1 = kdC) (N : Nat) (h : Nat) (hh : z.2.2.2.1 h = (7, 0)) (rc11 : Int32 → Int32 → Int32 → Int32 → Int32 → Mem → Option (Int32 × Mem)) (hc11 : ∀ (v1 : Int32) (v2 : Int32) (v3 : Int32) (v4 : Int32) (v5 : Int32) (σ : Mem), VK x z 7 (BQ QI x z) 11 [(0, .ref (z.2.2.1 h)), (1, .int v1), (2, .int v2), (3, .int v3), (4, .int v4), (5, .int v5)] [] σ (rc11 v1 v2 v3 v4 v5 σ)) (v1 : Int32) (v2 : Int32) (v3 : Int32) (v4 : Int32) (v5 : Int32) (σ : Mem) : VK x z 7 (BQ QI x z) 11 [(0, .ref (z.2.2.1 h)), (1, .int v1), (2, .int v2), (3, .int v3), (4, .int v4), (5, .int v5)] [] σ (fX7_seatBest_b11 N h rc11 v1 v2 v3 v4 v5 σ) := by
  unfold fX7_seatBest_b11
  refine V_iload 5 X dX7_seatBest_11 rfl ?_
  refine V_aload_n 0 X dX7_seatBest_13 rfl rfl ?_
  refine V_getR (k1 := (h + 2)) 1 X dX7_seatBest_14 co7 hh (by decide) rfl rfl wfX7_18 ?_
  refine V_getR (k1 := ((h + 2) + 1)) 0 X dX7_seatBest_17 co2 (kt7_1 hZ hh) (by decide) rfl rfl wfX7_49 ?_
  refine V_getI 0 X dX7_seatBest_20 co0 (kt2_0 hZ (kt7_1 hZ hh)) (by decide) rfl wfX7_56 ?_
  refine V_icmp_gt (tgt := 79) X dX7_seatBest_23 (by decide) ?_ ?_
  · refine V_aload_n 0 X dX7_seatBest_79 rfl rfl ?_
    refine V_getR (k1 := (h + 2)) 1 X dX7_seatBest_80 co7 hh (by decide) rfl rfl wfX7_18 ?_
    refine V_iload_n 1 X dX7_seatBest_83 rfl rfl ?_
    refine V_iload 4 X dX7_seatBest_84 rfl ?_
    refine V_callV [.int v1, .int v4] [] X E dX7_seatBest_86 (kX2_seatPerson x.2.1 z hZ N (h + 2) (kt7_1 hZ hh) v1 v4 σ) co2 (kt7_1 hZ hh) gcX7_62 hyX2_seatPerson rfl ⟨by decide, by decide⟩ rfl (Nat.le_of_ble_eq_true rfl) (fun r4 s5 => ?_)
    refine V_iload_n 3 X dX7_seatBest_89 rfl rfl ?_
    exact V_iret X E hr dX7_seatBest_90
  · refine V_aload_n 0 X dX7_seatBest_26 rfl rfl ?_
    refine V_getR (k1 := (h + 2)) 1 X dX7_seatBest_27 co7 hh (by decide) rfl rfl wfX7_18 ?_
    refine V_iload_n 1 X dX7_seatBest_30 rfl rfl ?_
    refine V_aload_n 0 X dX7_seatBest_31 rfl rfl ?_
    refine V_getR (k1 := (h + 2)) 1 X dX7_seatBest_32 co7 hh (by decide) rfl rfl wfX7_18 ?_
    refine V_iload 5 X dX7_seatBest_35 rfl ?_
    refine V_callI [.int v5] [.int v1, .ref (z.2.2.1 (h + 2))] X E dX7_seatBest_37 (kX2_seatTried x.2.1 z hZ N (h + 2) (kt7_1 hZ hh) v5 σ) co2 (kt7_1 hZ hh) gcX7_59 hyX2_seatTried rfl ⟨by decide, by decide⟩ rfl (Nat.le_of_ble_eq_true rfl) (fun r6 s7 => ?_)
    refine V_callV [.int v1, .int r6] [] X E dX7_seatBest_40 (kX2_seatPerson x.2.1 z hZ N (h + 2) (kt7_1 hZ hh) v1 r6 s7) co2 (kt7_1 hZ hh) gcX7_62 hyX2_seatPerson rfl ⟨by decide, by decide⟩ rfl (Nat.le_of_ble_eq_true rfl) (fun r8 s9 => ?_)
    refine V_aload_n 0 X dX7_seatBest_43 rfl rfl ?_
    refine V_getR (k1 := (h + 2)) 1 X dX7_seatBest_44 co7 hh (by decide) rfl rfl wfX7_18 ?_
    refine V_iload_n 2 X dX7_seatBest_47 rfl rfl ?_
    refine V_callI [.int v2] [] X E dX7_seatBest_48 (kX2_vote x.2.1 z hZ N (h + 2) (kt7_1 hZ hh) v2 s9) co2 (kt7_1 hZ hh) gcX7_30 hyX2_vote rfl ⟨by decide, by decide⟩ rfl (Nat.le_of_ble_eq_true rfl) (fun r10 s11 => ?_)
    refine V_istoreG (L' := fun v6_12 => [(6, .int v6_12), (0, .ref (z.2.2.1 h)), (1, .int v1), (2, .int v2), (3, .int v3), (4, .int v4), (5, .int v5)]) X dX7_seatBest_51 (by decide) (fun _ => rfl) (fun v6_12 => ?_)
    refine V_iload 0 X dX7_seatBest_53 rfl ?_
    refine V_iload_n 4 X dX7_seatBest_55 rfl rfl ?_
    refine V_icmp_le (tgt := 73) X dX7_seatBest_56 (by decide) ?_ ?_
    · refine V_sub [1, 2, 3, 4, 5, 6] rfl ?_
      exact bX7_seatBest_73 X E hr hZ N h hh rc11 hc11 v1 v2 v3 v4 v5 s11
    · refine V_iload 0 X dX7_seatBest_59 rfl ?_
      refine V_istore_nG (L' := fun v3_13 => [(3, .int v3_13), (6, .int v6_12), (0, .ref (z.2.2.1 h)), (1, .int v1), (2, .int v2), (4, .int v4), (5, .int v5)]) X dX7_seatBest_61 rfl (by decide) (fun _ => rfl) (fun v3_13 => ?_)
      refine V_aload_n 2 X dX7_seatBest_62 rfl rfl ?_
      refine V_getR (k1 := (h + 2)) 1 X dX7_seatBest_63 co7 hh (by decide) rfl rfl wfX7_18 ?_
      refine V_iload 6 X dX7_seatBest_66 rfl ?_
      refine V_callI [.int v5] [] X E dX7_seatBest_68 (kX2_seatTried x.2.1 z hZ N (h + 2) (kt7_1 hZ hh) v5 s11) co2 (kt7_1 hZ hh) gcX7_59 hyX2_seatTried rfl ⟨by decide, by decide⟩ rfl (Nat.le_of_ble_eq_true rfl) (fun r14 s15 => ?_)
      refine V_istoreG (L' := fun v4_16 => [(4, .int v4_16), (3, .int v3_13), (6, .int v6_12), (0, .ref (z.2.2.1 h)), (1, .int v1), (2, .int v2), (5, .int v5)]) X dX7_seatBest_71 (by decide) (fun _ => rfl) (fun v4_16 => ?_)
      refine V_sub [3, 4, 5, 1, 0, 6] rfl ?_
      exact bX7_seatBest_73 X E hr hZ N h hh rc11 hc11 v1 v2 v3_13 v4_16 v5 s15
def fX7_seatBest_l11 (N : Nat) (h : Nat) : Nat → Int32 → Int32 → Int32 → Int32 → Int32 → Mem → Option (Int32 × Mem)
  | 0 => fun _ _ _ _ _ _ => none
  | n + 1 => fX7_seatBest_b11 N h (fX7_seatBest_l11 N h n)
theorem lX7_seatBest_11 {x : Cx} {z : Sx} (X : XG x z RX7 cX7_seatBest 7 4 95) (E : XE x z) (hr : XR x (some .int)) (hZ : z.2.2.2.1 = kdC) (N : Nat) (h : Nat) (hh : z.2.2.2.1 h = (7, 0)) (n : Nat) (v1 : Int32) (v2 : Int32) (v3 : Int32) (v4 : Int32) (v5 : Int32) (σ : Mem) : VK x z 7 (BQ QI x z) 11 [(0, .ref (z.2.2.1 h)), (1, .int v1), (2, .int v2), (3, .int v3), (4, .int v4), (5, .int v5)] [] σ (fX7_seatBest_l11 N h n v1 v2 v3 v4 v5 σ) := by
  induction n generalizing v1 v2 v3 v4 v5 σ with
  | zero => exact V_none
  | succ n ih => exact bX7_seatBest_11 X E hr hZ N h hh (fX7_seatBest_l11 N h n) ih v1 v2 v3 v4 v5 σ
def fX7_seatBest (N : Nat) (h : Nat) (v1 : Int32) (v2 : Int32) (σ : Mem) : Option (Int32 × Mem) :=
  lt_ (-1000) (fun v3_1 => lt_ 8 (fun v4_2 => lt_ 0 (fun v5_3 => fX7_seatBest_l11 N h N v1 v2 v3_1 v4_2 v5_3 σ)))
set_option maxRecDepth 100000 in
set_option maxHeartbeats 4000000 in
theorem bX7_seatBest_0 {x : Cx} {z : Sx} (X : XG x z RX7 cX7_seatBest 7 4 95) (E : XE x z) (hr : XR x (some .int)) (hZ : z.2.2.2.1 = kdC) (N : Nat) (h : Nat) (hh : z.2.2.2.1 h = (7, 0)) (v1 : Int32) (v2 : Int32) (σ : Mem) : VK x z 7 (BQ QI x z) 0 [(0, .ref (z.2.2.1 h)), (1, .int v1), (2, .int v2)] [] σ (fX7_seatBest N h v1 v2 σ) := by
  unfold fX7_seatBest
  refine V_sipush (v := -1000) X dX7_seatBest_0 (by decide) ?_
  refine V_istore_nG (L' := fun v3_1 => [(3, .int v3_1), (0, .ref (z.2.2.1 h)), (1, .int v1), (2, .int v2)]) X dX7_seatBest_3 rfl (by decide) (fun _ => rfl) (fun v3_1 => ?_)
  refine V_bipush (v := 8) X dX7_seatBest_4 (by decide) ?_
  refine V_istoreG (L' := fun v4_2 => [(4, .int v4_2), (3, .int v3_1), (0, .ref (z.2.2.1 h)), (1, .int v1), (2, .int v2)]) X dX7_seatBest_6 (by decide) (fun _ => rfl) (fun v4_2 => ?_)
  refine V_iconst (v := 0) X dX7_seatBest_8 (by decide) ?_
  refine V_istoreG (L' := fun v5_3 => [(5, .int v5_3), (4, .int v4_2), (3, .int v3_1), (0, .ref (z.2.2.1 h)), (1, .int v1), (2, .int v2)]) X dX7_seatBest_9 (by decide) (fun _ => rfl) (fun v5_3 => ?_)
  refine V_sub [3, 4, 5, 2, 1, 0] rfl ?_
  exact lX7_seatBest_11 X E hr hZ N h hh N v1 v2 v3_1 v4_2 v5_3 σ
theorem kX7_seatBest (l : Launch) (z : Sx) (hZ : z.2.2.2.1 = kdC) (N : Nat) (h : Nat) (hh : z.2.2.2.1 h = (7, 0)) (v1 : Int32) (v2 : Int32) (σ : Mem) : Ct QI yX7_seatBest cX7_seatBest 7 (some .int) 4 95 l z [.ref (z.2.2.1 h), .int v1, .int v2] σ (fX7_seatBest N h v1 v2 σ) := by
  refine Ct_of (by decide +kernel) (Nat.le_of_ble_eq_true rfl) rfl ?_
  intro x _ X E hr
  exact bX7_seatBest_0 X E hr hZ N h hh v1 v2 σ
def fX7_seatGreedily_b36 (N : Nat) (h : Nat) (rc36 : Nat → Int32 → Int32 → Mem → Option (Int32 × Mem)) (v1 : Nat) (v2 : Int32) (v3 : Int32) (σ : Mem) : Option (Int32 × Mem) :=
  if (σ.1 v1 1) ≤ v3 then bd (fX2_vote N (h + 2) v2 σ) (fun r8 s9 => some (r8, s9)) else bd (fX7_seatBest N h v3 v2 σ) (fun r10 s11 => lt_ (v3 + 1) (fun v3_12 => rc36 v1 v2 v3_12 s11))
set_option maxRecDepth 100000 in
set_option maxHeartbeats 4000000 in
theorem bX7_seatGreedily_36 {x : Cx} {z : Sx} (X : XG x z RX7 cX7_seatGreedily 4 5 121) (E : XE x z) (hr : XR x (some .int)) (hZ : z.2.2.2.1 = kdC) (N : Nat) (h : Nat) (hh : z.2.2.2.1 h = (7, 0)) (rc36 : Nat → Int32 → Int32 → Mem → Option (Int32 × Mem)) (hc36 : ∀ (v1 : Nat) (v2 : Int32) (v3 : Int32) (hk1 : z.2.2.2.1 v1 = (0, 0)) (σ : Mem), VK x z 4 (BQ QI x z) 36 [(0, .ref (z.2.2.1 h)), (1, .ref (z.2.2.1 v1)), (2, .int v2), (3, .int v3)] [] σ (rc36 v1 v2 v3 σ)) (v1 : Nat) (v2 : Int32) (v3 : Int32) (hk1 : z.2.2.2.1 v1 = (0, 0)) (σ : Mem) : VK x z 4 (BQ QI x z) 36 [(0, .ref (z.2.2.1 h)), (1, .ref (z.2.2.1 v1)), (2, .int v2), (3, .int v3)] [] σ (fX7_seatGreedily_b36 N h rc36 v1 v2 v3 σ) := by
  unfold fX7_seatGreedily_b36
  refine V_iload_n 3 X dX7_seatGreedily_36 rfl rfl ?_
  refine V_aload_n 1 X dX7_seatGreedily_37 rfl rfl ?_
  refine V_getI 1 X dX7_seatGreedily_38 co0 hk1 (by decide) rfl wfX7_37 ?_
  refine V_icmp_ge (tgt := 57) X dX7_seatGreedily_41 (by decide) ?_ ?_
  · refine V_aload_n 0 X dX7_seatGreedily_57 rfl rfl ?_
    refine V_getR (k1 := (h + 2)) 1 X dX7_seatGreedily_58 co7 hh (by decide) rfl rfl wfX7_18 ?_
    refine V_iload_n 2 X dX7_seatGreedily_61 rfl rfl ?_
    refine V_callI [.int v2] [] X E dX7_seatGreedily_62 (kX2_vote x.2.1 z hZ N (h + 2) (kt7_1 hZ hh) v2 σ) co2 (kt7_1 hZ hh) gcX7_30 hyX2_vote rfl ⟨by decide, by decide⟩ rfl (Nat.le_of_ble_eq_true rfl) (fun r8 s9 => ?_)
    exact V_iret X E hr dX7_seatGreedily_65
  · refine V_aload_n 0 X dX7_seatGreedily_44 rfl rfl ?_
    refine V_iload_n 3 X dX7_seatGreedily_45 rfl rfl ?_
    refine V_iload_n 2 X dX7_seatGreedily_46 rfl rfl ?_
    refine V_callI [.int v3, .int v2] [] X E dX7_seatGreedily_47 (kX7_seatBest x.2.1 z hZ N h hh v3 v2 σ) co7 hh gcX7_71 hyX7_seatBest rfl ⟨by decide, by decide⟩ rfl (Nat.le_of_ble_eq_true rfl) (fun r10 s11 => ?_)
    refine V_pop X dX7_seatGreedily_50 rfl ?_
    refine V_iincG (L' := fun v3_12 => [(3, .int v3_12), (0, .ref (z.2.2.1 h)), (1, .ref (z.2.2.1 v1)), (2, .int v2)]) 3 X dX7_seatGreedily_51 rfl rfl (by decide) (fun _ => rfl) (fun v3_12 => ?_)
    refine V_goto (tgt := 36) X dX7_seatGreedily_54 (by decide) ?_
    refine V_sub [1, 2, 3, 0] rfl ?_
    exact hc36 v1 v2 v3_12 hk1 s11
def fX7_seatGreedily_l36 (N : Nat) (h : Nat) : Nat → Nat → Int32 → Int32 → Mem → Option (Int32 × Mem)
  | 0 => fun _ _ _ _ => none
  | n + 1 => fX7_seatGreedily_b36 N h (fX7_seatGreedily_l36 N h n)
theorem lX7_seatGreedily_36 {x : Cx} {z : Sx} (X : XG x z RX7 cX7_seatGreedily 4 5 121) (E : XE x z) (hr : XR x (some .int)) (hZ : z.2.2.2.1 = kdC) (N : Nat) (h : Nat) (hh : z.2.2.2.1 h = (7, 0)) (n : Nat) (v1 : Nat) (v2 : Int32) (v3 : Int32) (hk1 : z.2.2.2.1 v1 = (0, 0)) (σ : Mem) : VK x z 4 (BQ QI x z) 36 [(0, .ref (z.2.2.1 h)), (1, .ref (z.2.2.1 v1)), (2, .int v2), (3, .int v3)] [] σ (fX7_seatGreedily_l36 N h n v1 v2 v3 σ) := by
  induction n generalizing v1 v2 v3 hk1 σ with
  | zero => exact V_none
  | succ n ih => exact bX7_seatGreedily_36 X E hr hZ N h hh (fX7_seatGreedily_l36 N h n) ih v1 v2 v3 hk1 σ
def fX7_seatGreedily_b10 (N : Nat) (h : Nat) (rc10 : Nat → Int32 → Int32 → Mem → Option (Int32 × Mem)) (v1 : Nat) (v2 : Int32) (v3 : Int32) (σ : Mem) : Option (Int32 × Mem) :=
  if (σ.1 v1 1) ≤ v3 then lt_ 0 (fun v3_4 => fX7_seatGreedily_l36 N h N v1 v2 v3_4 σ) else bd (fX2_seatPerson N (h + 2) v3 8 σ) (fun r5 s6 => lt_ (v3 + 1) (fun v3_7 => rc10 v1 v2 v3_7 s6))
set_option maxRecDepth 100000 in
set_option maxHeartbeats 4000000 in
theorem bX7_seatGreedily_10 {x : Cx} {z : Sx} (X : XG x z RX7 cX7_seatGreedily 4 5 121) (E : XE x z) (hr : XR x (some .int)) (hZ : z.2.2.2.1 = kdC) (N : Nat) (h : Nat) (hh : z.2.2.2.1 h = (7, 0)) (rc10 : Nat → Int32 → Int32 → Mem → Option (Int32 × Mem)) (hc10 : ∀ (v1 : Nat) (v2 : Int32) (v3 : Int32) (hk1 : z.2.2.2.1 v1 = (0, 0)) (σ : Mem), VK x z 4 (BQ QI x z) 10 [(0, .ref (z.2.2.1 h)), (1, .ref (z.2.2.1 v1)), (2, .int v2), (3, .int v3)] [] σ (rc10 v1 v2 v3 σ)) (v1 : Nat) (v2 : Int32) (v3 : Int32) (hk1 : z.2.2.2.1 v1 = (0, 0)) (σ : Mem) : VK x z 4 (BQ QI x z) 10 [(0, .ref (z.2.2.1 h)), (1, .ref (z.2.2.1 v1)), (2, .int v2), (3, .int v3)] [] σ (fX7_seatGreedily_b10 N h rc10 v1 v2 v3 σ) := by
  unfold fX7_seatGreedily_b10
  refine V_iload_n 3 X dX7_seatGreedily_10 rfl rfl ?_
  refine V_aload_n 1 X dX7_seatGreedily_11 rfl rfl ?_
  refine V_getI 1 X dX7_seatGreedily_12 co0 hk1 (by decide) rfl wfX7_37 ?_
  refine V_icmp_ge (tgt := 34) X dX7_seatGreedily_15 (by decide) ?_ ?_
  · refine V_iconst (v := 0) X dX7_seatGreedily_34 (by decide) ?_
    refine V_istore_nG (L' := fun v3_4 => [(3, .int v3_4), (0, .ref (z.2.2.1 h)), (1, .ref (z.2.2.1 v1)), (2, .int v2)]) X dX7_seatGreedily_35 rfl (by decide) (fun _ => rfl) (fun v3_4 => ?_)
    refine V_sub [1, 2, 3, 0] rfl ?_
    exact lX7_seatGreedily_36 X E hr hZ N h hh N v1 v2 v3_4 hk1 σ
  · refine V_aload_n 0 X dX7_seatGreedily_18 rfl rfl ?_
    refine V_getR (k1 := (h + 2)) 1 X dX7_seatGreedily_19 co7 hh (by decide) rfl rfl wfX7_18 ?_
    refine V_iload_n 3 X dX7_seatGreedily_22 rfl rfl ?_
    refine V_bipush (v := 8) X dX7_seatGreedily_23 (by decide) ?_
    refine V_callV [.int v3, .int 8] [] X E dX7_seatGreedily_25 (kX2_seatPerson x.2.1 z hZ N (h + 2) (kt7_1 hZ hh) v3 8 σ) co2 (kt7_1 hZ hh) gcX7_62 hyX2_seatPerson rfl ⟨by decide, by decide⟩ rfl (Nat.le_of_ble_eq_true rfl) (fun r5 s6 => ?_)
    refine V_iincG (L' := fun v3_7 => [(3, .int v3_7), (0, .ref (z.2.2.1 h)), (1, .ref (z.2.2.1 v1)), (2, .int v2)]) 3 X dX7_seatGreedily_28 rfl rfl (by decide) (fun _ => rfl) (fun v3_7 => ?_)
    refine V_goto (tgt := 10) X dX7_seatGreedily_31 (by decide) ?_
    refine V_sub [1, 2, 3, 0] rfl ?_
    exact hc10 v1 v2 v3_7 hk1 s6
def fX7_seatGreedily_l10 (N : Nat) (h : Nat) : Nat → Nat → Int32 → Int32 → Mem → Option (Int32 × Mem)
  | 0 => fun _ _ _ _ => none
  | n + 1 => fX7_seatGreedily_b10 N h (fX7_seatGreedily_l10 N h n)
theorem lX7_seatGreedily_10 {x : Cx} {z : Sx} (X : XG x z RX7 cX7_seatGreedily 4 5 121) (E : XE x z) (hr : XR x (some .int)) (hZ : z.2.2.2.1 = kdC) (N : Nat) (h : Nat) (hh : z.2.2.2.1 h = (7, 0)) (n : Nat) (v1 : Nat) (v2 : Int32) (v3 : Int32) (hk1 : z.2.2.2.1 v1 = (0, 0)) (σ : Mem) : VK x z 4 (BQ QI x z) 10 [(0, .ref (z.2.2.1 h)), (1, .ref (z.2.2.1 v1)), (2, .int v2), (3, .int v3)] [] σ (fX7_seatGreedily_l10 N h n v1 v2 v3 σ) := by
  induction n generalizing v1 v2 v3 hk1 σ with
  | zero => exact V_none
  | succ n ih => exact bX7_seatGreedily_10 X E hr hZ N h hh (fX7_seatGreedily_l10 N h n) ih v1 v2 v3 hk1 σ
def fX7_seatGreedily (N : Nat) (h : Nat) (v1 : Nat) (v2 : Int32) (σ : Mem) : Option (Int32 × Mem) :=
  bd (fX2_enter N (h + 2) v1 σ) (fun r1 s2 => lt_ 0 (fun v3_3 => fX7_seatGreedily_l10 N h N v1 v2 v3_3 s2))
set_option maxRecDepth 100000 in
set_option maxHeartbeats 4000000 in
theorem bX7_seatGreedily_0 {x : Cx} {z : Sx} (X : XG x z RX7 cX7_seatGreedily 4 5 121) (E : XE x z) (hr : XR x (some .int)) (hZ : z.2.2.2.1 = kdC) (N : Nat) (h : Nat) (hh : z.2.2.2.1 h = (7, 0)) (v1 : Nat) (v2 : Int32) (hk1 : z.2.2.2.1 v1 = (0, 0)) (σ : Mem) : VK x z 4 (BQ QI x z) 0 [(0, .ref (z.2.2.1 h)), (1, .ref (z.2.2.1 v1)), (2, .int v2)] [] σ (fX7_seatGreedily N h v1 v2 σ) := by
  unfold fX7_seatGreedily
  refine V_aload_n 0 X dX7_seatGreedily_0 rfl rfl ?_
  refine V_getR (k1 := (h + 2)) 1 X dX7_seatGreedily_1 co7 hh (by decide) rfl rfl wfX7_18 ?_
  refine V_aload_n 1 X dX7_seatGreedily_4 rfl rfl ?_
  refine V_callV [.ref (z.2.2.1 v1)] [] X E dX7_seatGreedily_5 (kX2_enter x.2.1 z hZ N (h + 2) (kt7_1 hZ hh) v1 hk1 σ) co2 (kt7_1 hZ hh) gcX7_22 hyX2_enter rfl ⟨by decide, by decide⟩ rfl (Nat.le_of_ble_eq_true rfl) (fun r1 s2 => ?_)
  refine V_iconst (v := 0) X dX7_seatGreedily_8 (by decide) ?_
  refine V_istore_nG (L' := fun v3_3 => [(3, .int v3_3), (0, .ref (z.2.2.1 h)), (1, .ref (z.2.2.1 v1)), (2, .int v2)]) X dX7_seatGreedily_9 rfl (by decide) (fun _ => rfl) (fun v3_3 => ?_)
  refine V_sub [1, 2, 3, 0] rfl ?_
  exact lX7_seatGreedily_10 X E hr hZ N h hh N v1 v2 v3_3 hk1 s2
theorem kX7_seatGreedily (l : Launch) (z : Sx) (hZ : z.2.2.2.1 = kdC) (N : Nat) (h : Nat) (hh : z.2.2.2.1 h = (7, 0)) (v1 : Nat) (v2 : Int32) (hk1 : z.2.2.2.1 v1 = (0, 0)) (σ : Mem) : Ct QI yX7_seatGreedily cX7_seatGreedily 4 (some .int) 5 121 l z [.ref (z.2.2.1 h), .ref (z.2.2.1 v1), .int v2] σ (fX7_seatGreedily N h v1 v2 σ) := by
  refine Ct_of (by decide +kernel) (Nat.le_of_ble_eq_true rfl) rfl ?_
  intro x _ X E hr
  exact bX7_seatGreedily_0 X E hr hZ N h hh v1 v2 hk1 σ
def fX7_seatOf (N : Nat) (h : Nat) (v1 : Int32) (σ : Mem) : Option (Int32 × Mem) :=
  bd (fX0_hasPerson N ((h + 2) + 1) v1 σ) (fun r1 s2 => if r1 = 0 then some (8, s2) else gd (inb v1 6) (some ((s2.1 (((h + 2) + 1) + 8) v1.toNatClampNeg), s2)))
set_option maxRecDepth 100000 in
set_option maxHeartbeats 4000000 in
theorem bX7_seatOf_0 {x : Cx} {z : Sx} (X : XG x z RX7 cX7_seatOf 2 1 21) (E : XE x z) (hr : XR x (some .int)) (hZ : z.2.2.2.1 = kdC) (N : Nat) (h : Nat) (hh : z.2.2.2.1 h = (7, 0)) (v1 : Int32) (σ : Mem) : VK x z 2 (BQ QI x z) 0 [(0, .ref (z.2.2.1 h)), (1, .int v1)] [] σ (fX7_seatOf N h v1 σ) := by
  unfold fX7_seatOf
  refine V_aload_n 0 X dX7_seatOf_0 rfl rfl ?_
  refine V_getR (k1 := (h + 2)) 1 X dX7_seatOf_1 co7 hh (by decide) rfl rfl wfX7_18 ?_
  refine V_getR (k1 := ((h + 2) + 1)) 0 X dX7_seatOf_4 co2 (kt7_1 hZ hh) (by decide) rfl rfl wfX7_49 ?_
  refine V_iload_n 1 X dX7_seatOf_7 rfl rfl ?_
  refine V_callI [.int v1] [] X E dX7_seatOf_8 (kX0_hasPerson x.2.1 z hZ N ((h + 2) + 1) (kt2_0 hZ (kt7_1 hZ hh)) v1 σ) co0 (kt2_0 hZ (kt7_1 hZ hh)) gcX7_75 hyX0_hasPerson rfl ⟨by decide, by decide⟩ rfl (Nat.le_of_ble_eq_true rfl) (fun r1 s2 => ?_)
  refine V_if_eq (tgt := 29) X dX7_seatOf_11 (by decide) ?_ ?_
  · refine V_bipush (v := 8) X dX7_seatOf_29 (by decide) ?_
    exact V_iret X E hr dX7_seatOf_31
  · refine V_aload_n 0 X dX7_seatOf_14 rfl rfl ?_
    refine V_getR (k1 := (h + 2)) 1 X dX7_seatOf_15 co7 hh (by decide) rfl rfl wfX7_18 ?_
    refine V_getR (k1 := ((h + 2) + 1)) 0 X dX7_seatOf_18 co2 (kt7_1 hZ hh) (by decide) rfl rfl wfX7_49 ?_
    refine V_getR (k1 := (((h + 2) + 1) + 8)) 10 X dX7_seatOf_21 co0 (kt2_0 hZ (kt7_1 hZ hh)) (by decide) rfl rfl wfX7_53 ?_
    refine V_iload_n 1 X dX7_seatOf_24 rfl rfl ?_
    refine V_iald X dX7_seatOf_25 (kt0_10 hZ (kt2_0 hZ (kt7_1 hZ hh))) ?_
    refine V_goto (tgt := 31) X dX7_seatOf_26 (by decide) ?_
    exact V_iret X E hr dX7_seatOf_31
theorem kX7_seatOf (l : Launch) (z : Sx) (hZ : z.2.2.2.1 = kdC) (N : Nat) (h : Nat) (hh : z.2.2.2.1 h = (7, 0)) (v1 : Int32) (σ : Mem) : Ct QI yX7_seatOf cX7_seatOf 2 (some .int) 1 21 l z [.ref (z.2.2.1 h), .int v1] σ (fX7_seatOf N h v1 σ) := by
  refine Ct_of (by decide +kernel) (Nat.le_of_ble_eq_true rfl) rfl ?_
  intro x _ X E hr
  exact bX7_seatOf_0 X E hr hZ N h hh v1 σ
def fX11_greedy (N : Nat) (h : Nat) (v1 : Int32) (v2 : Int32) (v3 : Int32) (σ : Mem) : Option (Int32 × Mem) :=
  bd (fX11_asked N h v1 v2 σ) (fun or1 s2 => mqK (0, 0) or1 (some ((-1000), s2)) (fun r1 => if v3 < (-1) then some ((-1000), s2) else if v3 < (s2.1 r1 1) then bd (fX7_seatGreedily N (h + 236) r1 v2 s2) (fun r4 s5 => lt_ r4 (fun v5_6 => if v3 = (-1) then some (v5_6, s5) else bd (fX7_seatOf N (h + 236) v3 s5) (fun r7 s8 => some (r7, s8)))) else some ((-1000), s2)))
set_option maxRecDepth 100000 in
set_option maxHeartbeats 4000000 in
theorem bX11_greedy_0 {x : Cx} {z : Sx} (X : XG x z RX11 cX11_greedy 6 6 144) (E : XE x z) (hr : XR x (some .int)) (hZ : z.2.2.2.1 = kdC) (N : Nat) (h : Nat) (hh : z.2.2.2.1 h = (11, 0)) (v1 : Int32) (v2 : Int32) (v3 : Int32) (σ : Mem) : VK x z 6 (BQ QI x z) 0 [(0, .ref (z.2.2.1 h)), (1, .int v1), (2, .int v2), (3, .int v3)] [] σ (fX11_greedy N h v1 v2 v3 σ) := by
  unfold fX11_greedy
  refine V_aload_n 0 X dX11_greedy_0 rfl rfl ?_
  refine V_iload_n 1 X dX11_greedy_1 rfl rfl ?_
  refine V_iload_n 2 X dX11_greedy_2 rfl rfl ?_
  refine V_callQC (K := (0, 0)) [.int v1, .int v2] [] X E hZ dX11_greedy_3 (kX11_asked x.2.1 z hZ N h hh v1 v2 σ) co11 hh gcX11_115 hyX11_asked rfl ⟨by decide, by decide⟩ rfl (Nat.le_of_ble_eq_true rfl) (fun s2 => ?_) (fun r1 s2 hb3 => ?_)
  · refine V_astoreN (L' := [(4, .null), (0, .ref (z.2.2.1 h)), (1, .int v1), (2, .int v2), (3, .int v3)]) X dX11_greedy_6 (by decide) rfl ?_
    refine V_aloadN 0 X dX11_greedy_8 rfl ?_
    refine V_ifnullN (tgt := 27) X dX11_greedy_10 (by decide) ?_
    refine V_sipush (v := -1000) X dX11_greedy_27 (by decide) ?_
    exact V_iret X E hr dX11_greedy_30
  · refine V_astore (L' := [(4, .ref (z.2.2.1 r1)), (0, .ref (z.2.2.1 h)), (1, .int v1), (2, .int v2), (3, .int v3)]) X dX11_greedy_6 (by decide) rfl ?_
    refine V_aload 0 X dX11_greedy_8 rfl ?_
    refine V_ifnull X dX11_greedy_10 ?_
    refine V_iload_n 4 X dX11_greedy_13 rfl rfl ?_
    refine V_iconst (v := -1) X dX11_greedy_14 (by decide) ?_
    refine V_icmp_lt (tgt := 27) X dX11_greedy_15 (by decide) ?_ ?_
    · refine V_sipush (v := -1000) X dX11_greedy_27 (by decide) ?_
      exact V_iret X E hr dX11_greedy_30
    · refine V_iload_n 4 X dX11_greedy_18 rfl rfl ?_
      refine V_aload 0 X dX11_greedy_19 rfl ?_
      refine V_getI 1 X dX11_greedy_21 co0 hb3 (by decide) rfl wfX11_166 ?_
      refine V_icmp_lt (tgt := 31) X dX11_greedy_24 (by decide) ?_ ?_
      · refine V_aload_n 1 X dX11_greedy_31 rfl rfl ?_
        refine V_getR (k1 := (h + 236)) 7 X dX11_greedy_32 co11 hh (by decide) rfl rfl wfX11_55 ?_
        refine V_aload 0 X dX11_greedy_35 rfl ?_
        refine V_iload_n 3 X dX11_greedy_37 rfl rfl ?_
        refine V_callI [.ref (z.2.2.1 r1), .int v2] [] X E dX11_greedy_38 (kX7_seatGreedily x.2.1 z hZ N (h + 236) (kt11_7 hZ hh) r1 v2 hb3 s2) co7 (kt11_7 hZ hh) gcX11_274 hyX7_seatGreedily rfl ⟨by decide, by decide⟩ rfl (Nat.le_of_ble_eq_true rfl) (fun r4 s5 => ?_)
        refine V_istoreG (L' := fun v5_6 => [(5, .int v5_6), (4, .ref (z.2.2.1 r1)), (0, .ref (z.2.2.1 h)), (1, .int v1), (2, .int v2), (3, .int v3)]) X dX11_greedy_41 (by decide) (fun _ => rfl) (fun v5_6 => ?_)
        refine V_iload_n 5 X dX11_greedy_43 rfl rfl ?_
        refine V_iconst (v := -1) X dX11_greedy_44 (by decide) ?_
        refine V_icmp_ne (tgt := 53) X dX11_greedy_45 (by decide) ?_ ?_
        · refine V_aload_n 2 X dX11_greedy_53 rfl rfl ?_
          refine V_getR (k1 := (h + 236)) 7 X dX11_greedy_54 co11 hh (by decide) rfl rfl wfX11_55 ?_
          refine V_iload_n 5 X dX11_greedy_57 rfl rfl ?_
          refine V_callI [.int v3] [] X E dX11_greedy_58 (kX7_seatOf x.2.1 z hZ N (h + 236) (kt11_7 hZ hh) v3 s5) co7 (kt11_7 hZ hh) gcX11_277 hyX7_seatOf rfl ⟨by decide, by decide⟩ rfl (Nat.le_of_ble_eq_true rfl) (fun r7 s8 => ?_)
          exact V_iret X E hr dX11_greedy_61
        · refine V_iload 0 X dX11_greedy_48 rfl ?_
          refine V_goto (tgt := 61) X dX11_greedy_50 (by decide) ?_
          exact V_iret X E hr dX11_greedy_61
      · refine V_sipush (v := -1000) X dX11_greedy_27 (by decide) ?_
        exact V_iret X E hr dX11_greedy_30
theorem kX11_greedy (l : Launch) (z : Sx) (hZ : z.2.2.2.1 = kdC) (N : Nat) (h : Nat) (hh : z.2.2.2.1 h = (11, 0)) (v1 : Int32) (v2 : Int32) (v3 : Int32) (σ : Mem) : Ct QI yX11_greedy cX11_greedy 6 (some .int) 6 144 l z [.ref (z.2.2.1 h), .int v1, .int v2, .int v3] σ (fX11_greedy N h v1 v2 v3 σ) := by
  refine Ct_of (by decide +kernel) (Nat.le_of_ble_eq_true rfl) rfl ?_
  intro x _ X E hr
  exact bX11_greedy_0 X E hr hZ N h hh v1 v2 v3 σ
def fX11_pick (N : Nat) (v0 : Int32) (v1 : Int32) (v2 : Int32) (v3 : Int32) (σ : Mem) : Option (Int32 × Mem) :=
  if v0 = 0 then some (v1, σ) else if v0 = 1 then some (v2, σ) else some (v3, σ)
set_option maxRecDepth 100000 in
set_option maxHeartbeats 4000000 in
theorem bX11_pick_0 {x : Cx} {z : Sx} (X : XG x z RX11 cX11_pick 4 0 0) (E : XE x z) (hr : XR x (some .int)) (hZ : z.2.2.2.1 = kdC) (N : Nat) (v0 : Int32) (v1 : Int32) (v2 : Int32) (v3 : Int32) (σ : Mem) : VK x z 4 (BQ QI x z) 0 [(0, .int v0), (1, .int v1), (2, .int v2), (3, .int v3)] [] σ (fX11_pick N v0 v1 v2 v3 σ) := by
  unfold fX11_pick
  refine V_iload_n 0 X dX11_pick_0 rfl rfl ?_
  refine V_if_ne (tgt := 6) X dX11_pick_1 (by decide) ?_ ?_
  · refine V_iload_n 0 X dX11_pick_6 rfl rfl ?_
    refine V_iconst (v := 1) X dX11_pick_7 (by decide) ?_
    refine V_icmp_ne (tgt := 15) X dX11_pick_8 (by decide) ?_ ?_
    · refine V_iload_n 3 X dX11_pick_15 rfl rfl ?_
      exact V_iret X E hr dX11_pick_16
    · refine V_iload_n 2 X dX11_pick_11 rfl rfl ?_
      refine V_goto (tgt := 16) X dX11_pick_12 (by decide) ?_
      exact V_iret X E hr dX11_pick_16
  · refine V_iload_n 1 X dX11_pick_4 rfl rfl ?_
    exact V_iret X E hr dX11_pick_5
theorem kX11_pick (l : Launch) (z : Sx) (hZ : z.2.2.2.1 = kdC) (N : Nat) (v0 : Int32) (v1 : Int32) (v2 : Int32) (v3 : Int32) (σ : Mem) : Ct QI yX11_pick cX11_pick 4 (some .int) 0 0 l z [.int v0, .int v1, .int v2, .int v3] σ (fX11_pick N v0 v1 v2 v3 σ) := by
  refine Ct_of (by decide +kernel) (Nat.le_of_ble_eq_true rfl) rfl ?_
  intro x _ X E hr
  exact bX11_pick_0 X E hr hZ N v0 v1 v2 v3 σ
