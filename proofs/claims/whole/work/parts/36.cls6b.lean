def fX1_putThree (N : Nat) (h : Nat) (v1 : Nat) (v2 : Int32) (v3 : Int32) (v4 : Int32) (σ : Mem) : Option (Int32 × Mem) :=
  bd (fX1_begin N h v1 σ) (fun r1 s2 => bd (fX1_putMotion N h v2 s2) (fun r3 s4 => bd (fX1_putMotion N h v3 s4) (fun r5 s6 => bd (fX1_putMotion N h v4 s6) (fun r7 s8 => some ((s8.1 h 2), s8)))))
set_option maxRecDepth 100000 in
set_option maxHeartbeats 4000000 in
theorem bX1_putThree_0 {x : Cx} {z : Sx} (X : XG x z RX1 cX1_putThree 5 5 117) (E : XE x z) (hr : XR x (some .int)) (hZ : z.2.2.2.1 = kdC) (N : Nat) (h : Nat) (hh : z.2.2.2.1 h = (1, 0)) (v1 : Nat) (v2 : Int32) (v3 : Int32) (v4 : Int32) (hk1 : z.2.2.2.1 v1 = (0, 0)) (σ : Mem) : VK x z 5 (BQ QI x z) 0 [(0, .ref (z.2.2.1 h)), (1, .ref (z.2.2.1 v1)), (2, .int v2), (3, .int v3), (4, .int v4)] [] σ (fX1_putThree N h v1 v2 v3 v4 σ) := by
  unfold fX1_putThree
  refine V_aload_n 0 X dX1_putThree_0 rfl rfl ?_
  refine V_aload_n 1 X dX1_putThree_1 rfl rfl ?_
  refine V_callV [.ref (z.2.2.1 v1)] [] X E dX1_putThree_2 (kX1_begin x.2.1 z hZ N h hh v1 hk1 σ) co1 hh gcX1_48 hyX1_begin rfl ⟨by decide, by decide⟩ rfl (Nat.le_of_ble_eq_true rfl) (fun r1 s2 => ?_)
  refine V_aload_n 0 X dX1_putThree_5 rfl rfl ?_
  refine V_iload_n 2 X dX1_putThree_6 rfl rfl ?_
  refine V_callV [.int v2] [] X E dX1_putThree_7 (kX1_putMotion x.2.1 z hZ N h hh v2 s2) co1 hh gcX1_78 hyX1_putMotion rfl ⟨by decide, by decide⟩ rfl (Nat.le_of_ble_eq_true rfl) (fun r3 s4 => ?_)
  refine V_aload_n 0 X dX1_putThree_10 rfl rfl ?_
  refine V_iload_n 3 X dX1_putThree_11 rfl rfl ?_
  refine V_callV [.int v3] [] X E dX1_putThree_12 (kX1_putMotion x.2.1 z hZ N h hh v3 s4) co1 hh gcX1_78 hyX1_putMotion rfl ⟨by decide, by decide⟩ rfl (Nat.le_of_ble_eq_true rfl) (fun r5 s6 => ?_)
  refine V_aload_n 0 X dX1_putThree_15 rfl rfl ?_
  refine V_iload 4 X dX1_putThree_16 rfl ?_
  refine V_callV [.int v4] [] X E dX1_putThree_18 (kX1_putMotion x.2.1 z hZ N h hh v4 s6) co1 hh gcX1_78 hyX1_putMotion rfl ⟨by decide, by decide⟩ rfl (Nat.le_of_ble_eq_true rfl) (fun r7 s8 => ?_)
  refine V_aload_n 0 X dX1_putThree_21 rfl rfl ?_
  refine V_getI 2 X dX1_putThree_22 co1 hh (by decide) rfl wfX1_30 ?_
  exact V_iret X E hr dX1_putThree_25
theorem kX1_putThree (l : Launch) (z : Sx) (hZ : z.2.2.2.1 = kdC) (N : Nat) (h : Nat) (hh : z.2.2.2.1 h = (1, 0)) (v1 : Nat) (v2 : Int32) (v3 : Int32) (v4 : Int32) (hk1 : z.2.2.2.1 v1 = (0, 0)) (σ : Mem) : Ct QI yX1_putThree cX1_putThree 5 (some .int) 5 117 l z [.ref (z.2.2.1 h), .ref (z.2.2.1 v1), .int v2, .int v3, .int v4] σ (fX1_putThree N h v1 v2 v3 v4 σ) := by
  refine Ct_of (by decide +kernel) (Nat.le_of_ble_eq_true rfl) rfl ?_
  intro x _ X E hr
  exact bX1_putThree_0 X E hr hZ N h hh v1 v2 v3 v4 hk1 σ
def fX10_chancesOf_b70 (N : Nat) (rc5 : Int64 → Int32 → Int64 → Int32 → Mem → Option (Int64 × Mem)) (v0 : Int64) (v2 : Int32) (v3 : Int64) (v5 : Int32) (σ : Mem) : Option (Int64 × Mem) :=
  lt_ (v5 + 1) (fun v5_7 => rc5 v0 v2 v3 v5_7 σ)
set_option maxRecDepth 100000 in
set_option maxHeartbeats 4000000 in
theorem bX10_chancesOf_70 {x : Cx} {z : Sx} (X : XG x z RX10 cX10_chancesOf 9 1 22) (E : XE x z) (hr : XR x (some .long)) (hZ : z.2.2.2.1 = kdC) (N : Nat) (rc5 : Int64 → Int32 → Int64 → Int32 → Mem → Option (Int64 × Mem)) (hc5 : ∀ (v0 : Int64) (v2 : Int32) (v3 : Int64) (v5 : Int32) (σ : Mem), VK x z 9 (BQ QL x z) 5 [(0, .long v0), (2, .int v2), (3, .long v3), (5, .int v5)] [] σ (rc5 v0 v2 v3 v5 σ)) (v0 : Int64) (v2 : Int32) (v3 : Int64) (v5 : Int32) (σ : Mem) : VK x z 9 (BQ QL x z) 70 [(0, .long v0), (2, .int v2), (3, .long v3), (5, .int v5)] [] σ (fX10_chancesOf_b70 N rc5 v0 v2 v3 v5 σ) := by
  unfold fX10_chancesOf_b70
  refine V_iincG (L' := fun v5_7 => [(5, .int v5_7), (0, .long v0), (2, .int v2), (3, .long v3)]) 3 X dX10_chancesOf_70 rfl rfl (by decide) (fun _ => rfl) (fun v5_7 => ?_)
  refine V_goto (tgt := 5) X dX10_chancesOf_73 (by decide) ?_
  refine V_sub [1, 2, 3, 0] rfl ?_
  exact hc5 v0 v2 v3 v5_7 σ
def fX10_chancesOf_b56 (N : Nat) (rc5 : Int64 → Int32 → Int64 → Int32 → Mem → Option (Int64 × Mem)) (rc27 : Int64 → Int32 → Int64 → Int32 → Int64 → Int32 → Mem → Option (Int64 × Mem)) (v0 : Int64) (v2 : Int32) (v3 : Int64) (v5 : Int32) (v8 : Int32) (t0 : Int64) (t1 : Int64) (σ : Mem) : Option (Int64 × Mem) :=
  lt_ (t1 * t0) (fun v6_9 => lt_ (v8 + 1) (fun v8_10 => rc27 v0 v2 v3 v5 v6_9 v8_10 σ))
set_option maxRecDepth 100000 in
set_option maxHeartbeats 4000000 in
theorem bX10_chancesOf_56 {x : Cx} {z : Sx} (X : XG x z RX10 cX10_chancesOf 9 1 22) (E : XE x z) (hr : XR x (some .long)) (hZ : z.2.2.2.1 = kdC) (N : Nat) (rc5 : Int64 → Int32 → Int64 → Int32 → Mem → Option (Int64 × Mem)) (hc5 : ∀ (v0 : Int64) (v2 : Int32) (v3 : Int64) (v5 : Int32) (σ : Mem), VK x z 9 (BQ QL x z) 5 [(0, .long v0), (2, .int v2), (3, .long v3), (5, .int v5)] [] σ (rc5 v0 v2 v3 v5 σ)) (rc27 : Int64 → Int32 → Int64 → Int32 → Int64 → Int32 → Mem → Option (Int64 × Mem)) (hc27 : ∀ (v0 : Int64) (v2 : Int32) (v3 : Int64) (v5 : Int32) (v6 : Int64) (v8 : Int32) (σ : Mem), VK x z 9 (BQ QL x z) 27 [(0, .long v0), (2, .int v2), (3, .long v3), (5, .int v5), (6, .long v6), (8, .int v8)] [] σ (rc27 v0 v2 v3 v5 v6 v8 σ)) (v0 : Int64) (v2 : Int32) (v3 : Int64) (v5 : Int32) (v8 : Int32) (t0 : Int64) (t1 : Int64) (σ : Mem) : VK x z 9 (BQ QL x z) 56 [(0, .long v0), (2, .int v2), (3, .long v3), (5, .int v5), (8, .int v8)] [.long t0, .long t1] σ (fX10_chancesOf_b56 N rc5 rc27 v0 v2 v3 v5 v8 t0 t1 σ) := by
  unfold fX10_chancesOf_b56
  refine V_lmul X dX10_chancesOf_56 ?_
  refine V_lstoreG (L' := fun v6_9 => [(6, .long v6_9), (0, .long v0), (2, .int v2), (3, .long v3), (5, .int v5), (8, .int v8)]) X dX10_chancesOf_57 (by decide) (fun _ => rfl) (fun v6_9 => ?_)
  refine V_iincG (L' := fun v8_10 => [(8, .int v8_10), (6, .long v6_9), (0, .long v0), (2, .int v2), (3, .long v3), (5, .int v5)]) 5 X dX10_chancesOf_59 rfl rfl (by decide) (fun _ => rfl) (fun v8_10 => ?_)
  refine V_goto (tgt := 27) X dX10_chancesOf_62 (by decide) ?_
  refine V_sub [2, 3, 4, 5, 1, 0] rfl ?_
  exact hc27 v0 v2 v3 v5 v6_9 v8_10 σ
def fX10_chancesOf_b27 (N : Nat) (rc5 : Int64 → Int32 → Int64 → Int32 → Mem → Option (Int64 × Mem)) (rc27 : Int64 → Int32 → Int64 → Int32 → Int64 → Int32 → Mem → Option (Int64 × Mem)) (v0 : Int64) (v2 : Int32) (v3 : Int64) (v5 : Int32) (v6 : Int64) (v8 : Int32) (σ : Mem) : Option (Int64 × Mem) :=
  if 6 ≤ v8 then lt_ (v3 + v6) (fun v3_8 => fX10_chancesOf_b70 N rc5 v0 v2 v3_8 v5 σ) else if ((v5 >>> (v8 &&& 31)) &&& 1) = 0 then fX10_chancesOf_b56 N rc5 rc27 v0 v2 v3 v5 v8 (((10 - v2) : Int32).toInt64) v6 σ else fX10_chancesOf_b56 N rc5 rc27 v0 v2 v3 v5 v8 ((v2 : Int32).toInt64) v6 σ
set_option maxRecDepth 100000 in
set_option maxHeartbeats 4000000 in
theorem bX10_chancesOf_27 {x : Cx} {z : Sx} (X : XG x z RX10 cX10_chancesOf 9 1 22) (E : XE x z) (hr : XR x (some .long)) (hZ : z.2.2.2.1 = kdC) (N : Nat) (rc5 : Int64 → Int32 → Int64 → Int32 → Mem → Option (Int64 × Mem)) (hc5 : ∀ (v0 : Int64) (v2 : Int32) (v3 : Int64) (v5 : Int32) (σ : Mem), VK x z 9 (BQ QL x z) 5 [(0, .long v0), (2, .int v2), (3, .long v3), (5, .int v5)] [] σ (rc5 v0 v2 v3 v5 σ)) (rc27 : Int64 → Int32 → Int64 → Int32 → Int64 → Int32 → Mem → Option (Int64 × Mem)) (hc27 : ∀ (v0 : Int64) (v2 : Int32) (v3 : Int64) (v5 : Int32) (v6 : Int64) (v8 : Int32) (σ : Mem), VK x z 9 (BQ QL x z) 27 [(0, .long v0), (2, .int v2), (3, .long v3), (5, .int v5), (6, .long v6), (8, .int v8)] [] σ (rc27 v0 v2 v3 v5 v6 v8 σ)) (v0 : Int64) (v2 : Int32) (v3 : Int64) (v5 : Int32) (v6 : Int64) (v8 : Int32) (σ : Mem) : VK x z 9 (BQ QL x z) 27 [(0, .long v0), (2, .int v2), (3, .long v3), (5, .int v5), (6, .long v6), (8, .int v8)] [] σ (fX10_chancesOf_b27 N rc5 rc27 v0 v2 v3 v5 v6 v8 σ) := by
  unfold fX10_chancesOf_b27
  refine V_iload 5 X dX10_chancesOf_27 rfl ?_
  refine V_bipush (v := 6) X dX10_chancesOf_29 (by decide) ?_
  refine V_icmp_ge (tgt := 65) X dX10_chancesOf_31 (by decide) ?_ ?_
  · refine V_lload_n 2 X dX10_chancesOf_65 rfl rfl ?_
    refine V_lload 4 X dX10_chancesOf_66 rfl ?_
    refine V_ladd X dX10_chancesOf_68 ?_
    refine V_lstore_nG (L' := fun v3_8 => [(3, .long v3_8), (0, .long v0), (2, .int v2), (5, .int v5), (6, .long v6), (8, .int v8)]) X dX10_chancesOf_69 rfl (by decide) (fun _ => rfl) (fun v3_8 => ?_)
    refine V_sub [1, 2, 0, 3] rfl ?_
    exact bX10_chancesOf_70 X E hr hZ N rc5 hc5 v0 v2 v3_8 v5 σ
  · refine V_lload 4 X dX10_chancesOf_34 rfl ?_
    refine V_iload 3 X dX10_chancesOf_36 rfl ?_
    refine V_iload 5 X dX10_chancesOf_38 rfl ?_
    refine V_ishr X dX10_chancesOf_40 ?_
    refine V_iconst (v := 1) X dX10_chancesOf_41 (by decide) ?_
    refine V_iand X dX10_chancesOf_42 ?_
    refine V_if_eq (tgt := 51) X dX10_chancesOf_43 (by decide) ?_ ?_
    · refine V_bipush (v := 10) X dX10_chancesOf_51 (by decide) ?_
      refine V_iload_n 1 X dX10_chancesOf_53 rfl rfl ?_
      refine V_isub X dX10_chancesOf_54 ?_
      refine V_i2l X dX10_chancesOf_55 ?_
      refine V_sub [0, 1, 2, 3, 5] rfl ?_
      exact bX10_chancesOf_56 X E hr hZ N rc5 hc5 rc27 hc27 v0 v2 v3 v5 v8 (((10 - v2) : Int32).toInt64) v6 σ
    · refine V_iload_n 1 X dX10_chancesOf_46 rfl rfl ?_
      refine V_i2l X dX10_chancesOf_47 ?_
      refine V_goto (tgt := 56) X dX10_chancesOf_48 (by decide) ?_
      refine V_sub [0, 1, 2, 3, 5] rfl ?_
      exact bX10_chancesOf_56 X E hr hZ N rc5 hc5 rc27 hc27 v0 v2 v3 v5 v8 ((v2 : Int32).toInt64) v6 σ
def fX10_chancesOf_l27 (N : Nat) (rc5 : Int64 → Int32 → Int64 → Int32 → Mem → Option (Int64 × Mem)) : Nat → Int64 → Int32 → Int64 → Int32 → Int64 → Int32 → Mem → Option (Int64 × Mem)
  | 0 => fun _ _ _ _ _ _ _ => none
  | n + 1 => fX10_chancesOf_b27 N rc5 (fX10_chancesOf_l27 N rc5 n)
theorem lX10_chancesOf_27 {x : Cx} {z : Sx} (X : XG x z RX10 cX10_chancesOf 9 1 22) (E : XE x z) (hr : XR x (some .long)) (hZ : z.2.2.2.1 = kdC) (N : Nat) (rc5 : Int64 → Int32 → Int64 → Int32 → Mem → Option (Int64 × Mem)) (hc5 : ∀ (v0 : Int64) (v2 : Int32) (v3 : Int64) (v5 : Int32) (σ : Mem), VK x z 9 (BQ QL x z) 5 [(0, .long v0), (2, .int v2), (3, .long v3), (5, .int v5)] [] σ (rc5 v0 v2 v3 v5 σ)) (n : Nat) (v0 : Int64) (v2 : Int32) (v3 : Int64) (v5 : Int32) (v6 : Int64) (v8 : Int32) (σ : Mem) : VK x z 9 (BQ QL x z) 27 [(0, .long v0), (2, .int v2), (3, .long v3), (5, .int v5), (6, .long v6), (8, .int v8)] [] σ (fX10_chancesOf_l27 N rc5 n v0 v2 v3 v5 v6 v8 σ) := by
  induction n generalizing v0 v2 v3 v5 v6 v8 σ with
  | zero => exact V_none
  | succ n ih => exact bX10_chancesOf_27 X E hr hZ N rc5 hc5 (fX10_chancesOf_l27 N rc5 n) ih v0 v2 v3 v5 v6 v8 σ
def fX10_chancesOf_b5 (N : Nat) (rc5 : Int64 → Int32 → Int64 → Int32 → Mem → Option (Int64 × Mem)) (v0 : Int64) (v2 : Int32) (v3 : Int64) (v5 : Int32) (σ : Mem) : Option (Int64 × Mem) :=
  if 64 ≤ v5 then some (v3, σ) else bd (fX10_isIn N v0 v5 σ) (fun r3 s4 => if r3 = 0 then fX10_chancesOf_b70 N rc5 v0 v2 v3 v5 s4 else lt_ 1 (fun v6_5 => lt_ 0 (fun v8_6 => fX10_chancesOf_l27 N rc5 N v0 v2 v3 v5 v6_5 v8_6 s4)))
set_option maxRecDepth 100000 in
set_option maxHeartbeats 4000000 in
theorem bX10_chancesOf_5 {x : Cx} {z : Sx} (X : XG x z RX10 cX10_chancesOf 9 1 22) (E : XE x z) (hr : XR x (some .long)) (hZ : z.2.2.2.1 = kdC) (N : Nat) (rc5 : Int64 → Int32 → Int64 → Int32 → Mem → Option (Int64 × Mem)) (hc5 : ∀ (v0 : Int64) (v2 : Int32) (v3 : Int64) (v5 : Int32) (σ : Mem), VK x z 9 (BQ QL x z) 5 [(0, .long v0), (2, .int v2), (3, .long v3), (5, .int v5)] [] σ (rc5 v0 v2 v3 v5 σ)) (v0 : Int64) (v2 : Int32) (v3 : Int64) (v5 : Int32) (σ : Mem) : VK x z 9 (BQ QL x z) 5 [(0, .long v0), (2, .int v2), (3, .long v3), (5, .int v5)] [] σ (fX10_chancesOf_b5 N rc5 v0 v2 v3 v5 σ) := by
  unfold fX10_chancesOf_b5
  refine V_iload 3 X dX10_chancesOf_5 rfl ?_
  refine V_bipush (v := 64) X dX10_chancesOf_7 (by decide) ?_
  refine V_icmp_ge (tgt := 76) X dX10_chancesOf_9 (by decide) ?_ ?_
  · refine V_lload_n 2 X dX10_chancesOf_76 rfl rfl ?_
    exact V_lret X E hr dX10_chancesOf_77
  · refine V_lload_n 0 X dX10_chancesOf_12 rfl rfl ?_
    refine V_iload 3 X dX10_chancesOf_13 rfl ?_
    refine V_calSI [.long v0, .int v5] [] X E dX10_chancesOf_15 (kX10_isIn x.2.1 z hZ N v0 v5 σ) gcX10_56 hyX10_isIn rfl ⟨by decide, by decide⟩ rfl (Nat.le_of_ble_eq_true rfl) (fun r3 s4 => ?_)
    refine V_if_eq (tgt := 70) X dX10_chancesOf_18 (by decide) ?_ ?_
    · refine V_sub [0, 1, 2, 3] rfl ?_
      exact bX10_chancesOf_70 X E hr hZ N rc5 hc5 v0 v2 v3 v5 s4
    · refine V_lconst (v := 1) X dX10_chancesOf_21 (by decide) ?_
      refine V_lstoreG (L' := fun v6_5 => [(6, .long v6_5), (0, .long v0), (2, .int v2), (3, .long v3), (5, .int v5)]) X dX10_chancesOf_22 (by decide) (fun _ => rfl) (fun v6_5 => ?_)
      refine V_iconst (v := 0) X dX10_chancesOf_24 (by decide) ?_
      refine V_istoreG (L' := fun v8_6 => [(8, .int v8_6), (6, .long v6_5), (0, .long v0), (2, .int v2), (3, .long v3), (5, .int v5)]) X dX10_chancesOf_25 (by decide) (fun _ => rfl) (fun v8_6 => ?_)
      refine V_sub [2, 3, 4, 5, 1, 0] rfl ?_
      exact lX10_chancesOf_27 X E hr hZ N rc5 hc5 N v0 v2 v3 v5 v6_5 v8_6 s4
def fX10_chancesOf_l5 (N : Nat) : Nat → Int64 → Int32 → Int64 → Int32 → Mem → Option (Int64 × Mem)
  | 0 => fun _ _ _ _ _ => none
  | n + 1 => fX10_chancesOf_b5 N (fX10_chancesOf_l5 N n)
theorem lX10_chancesOf_5 {x : Cx} {z : Sx} (X : XG x z RX10 cX10_chancesOf 9 1 22) (E : XE x z) (hr : XR x (some .long)) (hZ : z.2.2.2.1 = kdC) (N : Nat) (n : Nat) (v0 : Int64) (v2 : Int32) (v3 : Int64) (v5 : Int32) (σ : Mem) : VK x z 9 (BQ QL x z) 5 [(0, .long v0), (2, .int v2), (3, .long v3), (5, .int v5)] [] σ (fX10_chancesOf_l5 N n v0 v2 v3 v5 σ) := by
  induction n generalizing v0 v2 v3 v5 σ with
  | zero => exact V_none
  | succ n ih => exact bX10_chancesOf_5 X E hr hZ N (fX10_chancesOf_l5 N n) ih v0 v2 v3 v5 σ
def fX10_chancesOf (N : Nat) (v0 : Int64) (v2 : Int32) (σ : Mem) : Option (Int64 × Mem) :=
  lt_ 0 (fun v3_1 => lt_ 0 (fun v5_2 => fX10_chancesOf_l5 N N v0 v2 v3_1 v5_2 σ))
set_option maxRecDepth 100000 in
set_option maxHeartbeats 4000000 in
theorem bX10_chancesOf_0 {x : Cx} {z : Sx} (X : XG x z RX10 cX10_chancesOf 9 1 22) (E : XE x z) (hr : XR x (some .long)) (hZ : z.2.2.2.1 = kdC) (N : Nat) (v0 : Int64) (v2 : Int32) (σ : Mem) : VK x z 9 (BQ QL x z) 0 [(0, .long v0), (2, .int v2)] [] σ (fX10_chancesOf N v0 v2 σ) := by
  unfold fX10_chancesOf
  refine V_lconst (v := 0) X dX10_chancesOf_0 (by decide) ?_
  refine V_lstore_nG (L' := fun v3_1 => [(3, .long v3_1), (0, .long v0), (2, .int v2)]) X dX10_chancesOf_1 rfl (by decide) (fun _ => rfl) (fun v3_1 => ?_)
  refine V_iconst (v := 0) X dX10_chancesOf_2 (by decide) ?_
  refine V_istoreG (L' := fun v5_2 => [(5, .int v5_2), (3, .long v3_1), (0, .long v0), (2, .int v2)]) X dX10_chancesOf_3 (by decide) (fun _ => rfl) (fun v5_2 => ?_)
  refine V_sub [2, 3, 1, 0] rfl ?_
  exact lX10_chancesOf_5 X E hr hZ N N v0 v2 v3_1 v5_2 σ
theorem kX10_chancesOf (l : Launch) (z : Sx) (hZ : z.2.2.2.1 = kdC) (N : Nat) (v0 : Int64) (v2 : Int32) (σ : Mem) : Ct QL yX10_chancesOf cX10_chancesOf 9 (some .long) 1 22 l z [.long v0, .int v2] σ (fX10_chancesOf N v0 v2 σ) := by
  refine Ct_of (by decide +kernel) (Nat.le_of_ble_eq_true rfl) rfl ?_
  intro x _ X E hr
  exact bX10_chancesOf_0 X E hr hZ N v0 v2 σ
def fX11_odds (N : Nat) (h : Nat) (v1 : Int32) (v2 : Int32) (v3 : Int32) (σ : Mem) : Option (Int64 × Mem) :=
  bd (fX9_chamberAt N (h + 1) v1 σ) (fun or1 s2 => mqK (0, 0) or1 (some ((-1), s2)) (fun r1 => if v2 < 0 then some ((-1), s2) else if v2 ≤ 10 then bd (fX10_carriedSet N (h + 220) r1 s2) (fun r4 s5 => bd (fX10_chancesOf N r4 v2 s5) (fun r6 s7 => lt_ r6 (fun v5_8 => bd (fX11_powerOfTen N 6 s7) (fun r9 s10 => bd (fX11_leastTerms N v5_8 r9 v3 s10) (fun r11 s12 => some (r11, s12)))))) else some ((-1), s2)))
set_option maxRecDepth 100000 in
set_option maxHeartbeats 4000000 in
theorem bX11_odds_0 {x : Cx} {z : Sx} (X : XG x z RX11 cX11_odds 7 5 119) (E : XE x z) (hr : XR x (some .long)) (hZ : z.2.2.2.1 = kdC) (N : Nat) (h : Nat) (hh : z.2.2.2.1 h = (11, 0)) (v1 : Int32) (v2 : Int32) (v3 : Int32) (σ : Mem) : VK x z 7 (BQ QL x z) 0 [(0, .ref (z.2.2.1 h)), (1, .int v1), (2, .int v2), (3, .int v3)] [] σ (fX11_odds N h v1 v2 v3 σ) := by
  unfold fX11_odds
  refine V_aload_n 0 X dX11_odds_0 rfl rfl ?_
  refine V_getR (k1 := (h + 1)) 0 X dX11_odds_1 co11 hh (by decide) rfl rfl wfX11_10 ?_
  refine V_iload_n 1 X dX11_odds_4 rfl rfl ?_
  refine V_callQC (K := (0, 0)) [.int v1] [] X E hZ dX11_odds_5 (kX9_chamberAt x.2.1 z hZ N (h + 1) (kt11_0 hZ hh) v1 σ) co9 (kt11_0 hZ hh) gcX11_105 hyX9_chamberAt rfl ⟨by decide, by decide⟩ rfl (Nat.le_of_ble_eq_true rfl) (fun s2 => ?_) (fun r1 s2 hb3 => ?_)
  · refine V_astoreN (L' := [(4, .null), (0, .ref (z.2.2.1 h)), (1, .int v1), (2, .int v2), (3, .int v3)]) X dX11_odds_8 (by decide) rfl ?_
    refine V_aloadN 0 X dX11_odds_10 rfl ?_
    refine V_ifnullN (tgt := 25) X dX11_odds_12 (by decide) ?_
    refine V_ldc2 (v := -1) X dX11_odds_25 csX11_209 ?_
    exact V_lret X E hr dX11_odds_28
  · refine V_astore (L' := [(4, .ref (z.2.2.1 r1)), (0, .ref (z.2.2.1 h)), (1, .int v1), (2, .int v2), (3, .int v3)]) X dX11_odds_8 (by decide) rfl ?_
    refine V_aload 0 X dX11_odds_10 rfl ?_
    refine V_ifnull X dX11_odds_12 ?_
    refine V_iload_n 3 X dX11_odds_15 rfl rfl ?_
    refine V_if_lt (tgt := 25) X dX11_odds_16 (by decide) ?_ ?_
    · refine V_ldc2 (v := -1) X dX11_odds_25 csX11_209 ?_
      exact V_lret X E hr dX11_odds_28
    · refine V_iload_n 3 X dX11_odds_19 rfl rfl ?_
      refine V_bipush (v := 10) X dX11_odds_20 (by decide) ?_
      refine V_icmp_le (tgt := 29) X dX11_odds_22 (by decide) ?_ ?_
      · refine V_aload_n 1 X dX11_odds_29 rfl rfl ?_
        refine V_getR (k1 := (h + 220)) 6 X dX11_odds_30 co11 hh (by decide) rfl rfl wfX11_48 ?_
        refine V_aload 0 X dX11_odds_33 rfl ?_
        refine V_callL [.ref (z.2.2.1 r1)] [] X E dX11_odds_35 (kX10_carriedSet x.2.1 z hZ N (h + 220) (kt11_6 hZ hh) r1 hb3 s2) co10 (kt11_6 hZ hh) gcX11_158 hyX10_carriedSet rfl ⟨by decide, by decide⟩ rfl (Nat.le_of_ble_eq_true rfl) (fun r4 s5 => ?_)
        refine V_iload_n 3 X dX11_odds_38 rfl rfl ?_
        refine V_calSL [.long r4, .int v2] [] X E dX11_odds_39 (kX10_chancesOf x.2.1 z hZ N r4 v2 s5) gcX11_295 hyX10_chancesOf rfl ⟨by decide, by decide⟩ rfl (Nat.le_of_ble_eq_true rfl) (fun r6 s7 => ?_)
        refine V_lstoreG (L' := fun v5_8 => [(5, .long v5_8), (4, .ref (z.2.2.1 r1)), (0, .ref (z.2.2.1 h)), (1, .int v1), (2, .int v2), (3, .int v3)]) X dX11_odds_42 (by decide) (fun _ => rfl) (fun v5_8 => ?_)
        refine V_lload 0 X dX11_odds_44 rfl ?_
        refine V_bipush (v := 6) X dX11_odds_46 (by decide) ?_
        refine V_calSL [.int 6] [.long v5_8] X E dX11_odds_48 (kX11_powerOfTen x.2.1 z hZ N 6 s7) gcX11_215 hyX11_powerOfTen rfl ⟨by decide, by decide⟩ rfl (Nat.le_of_ble_eq_true rfl) (fun r9 s10 => ?_)
        refine V_iload_n 5 X dX11_odds_51 rfl rfl ?_
        refine V_calSL [.long v5_8, .long r9, .int v3] [] X E dX11_odds_52 (kX11_leastTerms x.2.1 z hZ N v5_8 r9 v3 s10) gcX11_219 hyX11_leastTerms rfl ⟨by decide, by decide⟩ rfl (Nat.le_of_ble_eq_true rfl) (fun r11 s12 => ?_)
        exact V_lret X E hr dX11_odds_55
      · refine V_ldc2 (v := -1) X dX11_odds_25 csX11_209 ?_
        exact V_lret X E hr dX11_odds_28
theorem kX11_odds (l : Launch) (z : Sx) (hZ : z.2.2.2.1 = kdC) (N : Nat) (h : Nat) (hh : z.2.2.2.1 h = (11, 0)) (v1 : Int32) (v2 : Int32) (v3 : Int32) (σ : Mem) : Ct QL yX11_odds cX11_odds 7 (some .long) 5 119 l z [.ref (z.2.2.1 h), .int v1, .int v2, .int v3] σ (fX11_odds N h v1 v2 v3 σ) := by
  refine Ct_of (by decide +kernel) (Nat.le_of_ble_eq_true rfl) rfl ?_
  intro x _ X E hr
  exact bX11_odds_0 X E hr hZ N h hh v1 v2 v3 σ
def fX5_difference (N : Nat) (h : Nat) (v1 : Int32) (σ : Mem) : Option (Int32 × Mem) :=
  if v1 < 0 then some ((-1), σ) else if 256 ≤ v1 then some ((-1), σ) else gd (inb v1 256) (some ((abI ((σ.1 h 5) - (2 * (σ.1 (h + 3) v1.toNatClampNeg)))), σ))
set_option maxRecDepth 100000 in
set_option maxHeartbeats 4000000 in
theorem bX5_difference_0 {x : Cx} {z : Sx} (X : XG x z RX5 cX5_difference 2 1 26) (E : XE x z) (hr : XR x (some .int)) (hZ : z.2.2.2.1 = kdC) (N : Nat) (h : Nat) (hh : z.2.2.2.1 h = (5, 0)) (v1 : Int32) (σ : Mem) : VK x z 2 (BQ QI x z) 0 [(0, .ref (z.2.2.1 h)), (1, .int v1)] [] σ (fX5_difference N h v1 σ) := by
  unfold fX5_difference
  refine V_iload_n 1 X dX5_difference_0 rfl rfl ?_
  refine V_if_lt (tgt := 32) X dX5_difference_1 (by decide) ?_ ?_
  · refine V_iconst (v := -1) X dX5_difference_32 (by decide) ?_
    exact V_iret X E hr dX5_difference_33
  · refine V_iload_n 1 X dX5_difference_4 rfl rfl ?_
    refine V_aload_n 0 X dX5_difference_5 rfl rfl ?_
    refine V_getR (k1 := (h + 3)) 2 X dX5_difference_6 co5 hh (by decide) rfl rfl wfX5_18 ?_
    refine V_alen50 (v := 256) X dX5_difference_9 (kt5_2 hZ hh) (by decide) ?_
    refine V_icmp_ge (tgt := 32) X dX5_difference_10 (by decide) ?_ ?_
    · refine V_iconst (v := -1) X dX5_difference_32 (by decide) ?_
      exact V_iret X E hr dX5_difference_33
    · refine V_aload_n 0 X dX5_difference_13 rfl rfl ?_
      refine V_getI 5 X dX5_difference_14 co5 hh (by decide) rfl wfX5_32 ?_
      refine V_iconst (v := 2) X dX5_difference_17 (by decide) ?_
      refine V_aload_n 0 X dX5_difference_18 rfl rfl ?_
      refine V_getR (k1 := (h + 3)) 2 X dX5_difference_19 co5 hh (by decide) rfl rfl wfX5_18 ?_
      refine V_iload_n 1 X dX5_difference_22 rfl rfl ?_
      refine V_iald X dX5_difference_23 (kt5_2 hZ hh) ?_
      refine V_imul X dX5_difference_24 ?_
      refine V_isub X dX5_difference_25 ?_
      refine V_mabs X dX5_difference_26 mtX5_59 mtS_abs mtI mtC_abs (by decide) (Nat.le_of_ble_eq_true rfl) ?_
      refine V_goto (tgt := 33) X dX5_difference_29 (by decide) ?_
      exact V_iret X E hr dX5_difference_33
theorem kX5_difference (l : Launch) (z : Sx) (hZ : z.2.2.2.1 = kdC) (N : Nat) (h : Nat) (hh : z.2.2.2.1 h = (5, 0)) (v1 : Int32) (σ : Mem) : Ct QI yX5_difference cX5_difference 2 (some .int) 1 26 l z [.ref (z.2.2.1 h), .int v1] σ (fX5_difference N h v1 σ) := by
  refine Ct_of (by decide +kernel) (Nat.le_of_ble_eq_true rfl) rfl ?_
  intro x _ X E hr
  exact bX5_difference_0 X E hr hZ N h hh v1 σ
def fX5_evenestSet_b27 (N : Nat) (h : Nat) (rc4 : Int32 → Int32 → Mem → Option (Int32 × Mem)) (v1 : Int32) (v2 : Int32) (σ : Mem) : Option (Int32 × Mem) :=
  lt_ (v2 + 1) (fun v2_8 => rc4 v1 v2_8 σ)
set_option maxRecDepth 100000 in
set_option maxHeartbeats 4000000 in
theorem bX5_evenestSet_27 {x : Cx} {z : Sx} (X : XG x z RX5 cX5_evenestSet 3 2 47) (E : XE x z) (hr : XR x (some .int)) (hZ : z.2.2.2.1 = kdC) (N : Nat) (h : Nat) (hh : z.2.2.2.1 h = (5, 0)) (rc4 : Int32 → Int32 → Mem → Option (Int32 × Mem)) (hc4 : ∀ (v1 : Int32) (v2 : Int32) (σ : Mem), VK x z 3 (BQ QI x z) 4 [(0, .ref (z.2.2.1 h)), (1, .int v1), (2, .int v2)] [] σ (rc4 v1 v2 σ)) (v1 : Int32) (v2 : Int32) (σ : Mem) : VK x z 3 (BQ QI x z) 27 [(0, .ref (z.2.2.1 h)), (1, .int v1), (2, .int v2)] [] σ (fX5_evenestSet_b27 N h rc4 v1 v2 σ) := by
  unfold fX5_evenestSet_b27
  refine V_iincG (L' := fun v2_8 => [(2, .int v2_8), (0, .ref (z.2.2.1 h)), (1, .int v1)]) 2 X dX5_evenestSet_27 rfl rfl (by decide) (fun _ => rfl) (fun v2_8 => ?_)
  refine V_goto (tgt := 4) X dX5_evenestSet_30 (by decide) ?_
  refine V_sub [1, 2, 0] rfl ?_
  exact hc4 v1 v2_8 σ
def fX5_evenestSet_b4 (N : Nat) (h : Nat) (rc4 : Int32 → Int32 → Mem → Option (Int32 × Mem)) (v1 : Int32) (v2 : Int32) (σ : Mem) : Option (Int32 × Mem) :=
  if (σ.1 h 4) ≤ v2 then some (v1, σ) else bd (fX5_difference N h v2 σ) (fun r3 s4 => bd (fX5_difference N h v1 s4) (fun r5 s6 => if r5 ≤ r3 then fX5_evenestSet_b27 N h rc4 v1 v2 s6 else lt_ v2 (fun v1_7 => fX5_evenestSet_b27 N h rc4 v1_7 v2 s6)))
set_option maxRecDepth 100000 in
set_option maxHeartbeats 4000000 in
theorem bX5_evenestSet_4 {x : Cx} {z : Sx} (X : XG x z RX5 cX5_evenestSet 3 2 47) (E : XE x z) (hr : XR x (some .int)) (hZ : z.2.2.2.1 = kdC) (N : Nat) (h : Nat) (hh : z.2.2.2.1 h = (5, 0)) (rc4 : Int32 → Int32 → Mem → Option (Int32 × Mem)) (hc4 : ∀ (v1 : Int32) (v2 : Int32) (σ : Mem), VK x z 3 (BQ QI x z) 4 [(0, .ref (z.2.2.1 h)), (1, .int v1), (2, .int v2)] [] σ (rc4 v1 v2 σ)) (v1 : Int32) (v2 : Int32) (σ : Mem) : VK x z 3 (BQ QI x z) 4 [(0, .ref (z.2.2.1 h)), (1, .int v1), (2, .int v2)] [] σ (fX5_evenestSet_b4 N h rc4 v1 v2 σ) := by
  unfold fX5_evenestSet_b4
  refine V_iload_n 2 X dX5_evenestSet_4 rfl rfl ?_
  refine V_aload_n 0 X dX5_evenestSet_5 rfl rfl ?_
  refine V_getI 4 X dX5_evenestSet_6 co5 hh (by decide) rfl wfX5_28 ?_
  refine V_icmp_ge (tgt := 33) X dX5_evenestSet_9 (by decide) ?_ ?_
  · refine V_iload_n 1 X dX5_evenestSet_33 rfl rfl ?_
    exact V_iret X E hr dX5_evenestSet_34
  · refine V_aload_n 0 X dX5_evenestSet_12 rfl rfl ?_
    refine V_iload_n 2 X dX5_evenestSet_13 rfl rfl ?_
    refine V_callI [.int v2] [] X E dX5_evenestSet_14 (kX5_difference x.2.1 z hZ N h hh v2 σ) co5 hh gcX5_64 hyX5_difference rfl ⟨by decide, by decide⟩ rfl (Nat.le_of_ble_eq_true rfl) (fun r3 s4 => ?_)
    refine V_aload_n 0 X dX5_evenestSet_17 rfl rfl ?_
    refine V_iload_n 1 X dX5_evenestSet_18 rfl rfl ?_
    refine V_callI [.int v1] [.int r3] X E dX5_evenestSet_19 (kX5_difference x.2.1 z hZ N h hh v1 s4) co5 hh gcX5_64 hyX5_difference rfl ⟨by decide, by decide⟩ rfl (Nat.le_of_ble_eq_true rfl) (fun r5 s6 => ?_)
    refine V_icmp_ge (tgt := 27) X dX5_evenestSet_22 (by decide) ?_ ?_
    · refine V_sub [0, 1, 2] rfl ?_
      exact bX5_evenestSet_27 X E hr hZ N h hh rc4 hc4 v1 v2 s6
    · refine V_iload_n 2 X dX5_evenestSet_25 rfl rfl ?_
      refine V_istore_nG (L' := fun v1_7 => [(1, .int v1_7), (0, .ref (z.2.2.1 h)), (2, .int v2)]) X dX5_evenestSet_26 rfl (by decide) (fun _ => rfl) (fun v1_7 => ?_)
      refine V_sub [1, 0, 2] rfl ?_
      exact bX5_evenestSet_27 X E hr hZ N h hh rc4 hc4 v1_7 v2 s6
def fX5_evenestSet_l4 (N : Nat) (h : Nat) : Nat → Int32 → Int32 → Mem → Option (Int32 × Mem)
  | 0 => fun _ _ _ => none
  | n + 1 => fX5_evenestSet_b4 N h (fX5_evenestSet_l4 N h n)
theorem lX5_evenestSet_4 {x : Cx} {z : Sx} (X : XG x z RX5 cX5_evenestSet 3 2 47) (E : XE x z) (hr : XR x (some .int)) (hZ : z.2.2.2.1 = kdC) (N : Nat) (h : Nat) (hh : z.2.2.2.1 h = (5, 0)) (n : Nat) (v1 : Int32) (v2 : Int32) (σ : Mem) : VK x z 3 (BQ QI x z) 4 [(0, .ref (z.2.2.1 h)), (1, .int v1), (2, .int v2)] [] σ (fX5_evenestSet_l4 N h n v1 v2 σ) := by
  induction n generalizing v1 v2 σ with
  | zero => exact V_none
  | succ n ih => exact bX5_evenestSet_4 X E hr hZ N h hh (fX5_evenestSet_l4 N h n) ih v1 v2 σ
def fX5_evenestSet (N : Nat) (h : Nat) (σ : Mem) : Option (Int32 × Mem) :=
  lt_ 0 (fun v1_1 => lt_ 1 (fun v2_2 => fX5_evenestSet_l4 N h N v1_1 v2_2 σ))
set_option maxRecDepth 100000 in
set_option maxHeartbeats 4000000 in
theorem bX5_evenestSet_0 {x : Cx} {z : Sx} (X : XG x z RX5 cX5_evenestSet 3 2 47) (E : XE x z) (hr : XR x (some .int)) (hZ : z.2.2.2.1 = kdC) (N : Nat) (h : Nat) (hh : z.2.2.2.1 h = (5, 0)) (σ : Mem) : VK x z 3 (BQ QI x z) 0 [(0, .ref (z.2.2.1 h))] [] σ (fX5_evenestSet N h σ) := by
  unfold fX5_evenestSet
  refine V_iconst (v := 0) X dX5_evenestSet_0 (by decide) ?_
  refine V_istore_nG (L' := fun v1_1 => [(1, .int v1_1), (0, .ref (z.2.2.1 h))]) X dX5_evenestSet_1 rfl (by decide) (fun _ => rfl) (fun v1_1 => ?_)
  refine V_iconst (v := 1) X dX5_evenestSet_2 (by decide) ?_
  refine V_istore_nG (L' := fun v2_2 => [(2, .int v2_2), (1, .int v1_1), (0, .ref (z.2.2.1 h))]) X dX5_evenestSet_3 rfl (by decide) (fun _ => rfl) (fun v2_2 => ?_)
  refine V_sub [2, 1, 0] rfl ?_
  exact lX5_evenestSet_4 X E hr hZ N h hh N v1_1 v2_2 σ
theorem kX5_evenestSet (l : Launch) (z : Sx) (hZ : z.2.2.2.1 = kdC) (N : Nat) (h : Nat) (hh : z.2.2.2.1 h = (5, 0)) (σ : Mem) : Ct QI yX5_evenestSet cX5_evenestSet 3 (some .int) 2 47 l z [.ref (z.2.2.1 h)] σ (fX5_evenestSet N h σ) := by
  refine Ct_of (by decide +kernel) (Nat.le_of_ble_eq_true rfl) rfl ?_
  intro x _ X E hr
  exact bX5_evenestSet_0 X E hr hZ N h hh σ
def fX5_vetoes_b35 (N : Nat) (h : Nat) (rc4 : Int32 → Int32 → Mem → Option (Int32 × Mem)) (v1 : Int32) (v2 : Int32) (σ : Mem) : Option (Int32 × Mem) :=
  lt_ (v2 + 1) (fun v2_6 => rc4 v1 v2_6 σ)
set_option maxRecDepth 100000 in
set_option maxHeartbeats 4000000 in
theorem bX5_vetoes_35 {x : Cx} {z : Sx} (X : XG x z RX5 cX5_vetoes 3 1 21) (E : XE x z) (hr : XR x (some .int)) (hZ : z.2.2.2.1 = kdC) (N : Nat) (h : Nat) (hh : z.2.2.2.1 h = (5, 0)) (rc4 : Int32 → Int32 → Mem → Option (Int32 × Mem)) (hc4 : ∀ (v1 : Int32) (v2 : Int32) (σ : Mem), VK x z 3 (BQ QI x z) 4 [(0, .ref (z.2.2.1 h)), (1, .int v1), (2, .int v2)] [] σ (rc4 v1 v2 σ)) (v1 : Int32) (v2 : Int32) (σ : Mem) : VK x z 3 (BQ QI x z) 35 [(0, .ref (z.2.2.1 h)), (1, .int v1), (2, .int v2)] [] σ (fX5_vetoes_b35 N h rc4 v1 v2 σ) := by
  unfold fX5_vetoes_b35
  refine V_iincG (L' := fun v2_6 => [(2, .int v2_6), (0, .ref (z.2.2.1 h)), (1, .int v1)]) 2 X dX5_vetoes_35 rfl rfl (by decide) (fun _ => rfl) (fun v2_6 => ?_)
  refine V_goto (tgt := 4) X dX5_vetoes_38 (by decide) ?_
  refine V_sub [1, 2, 0] rfl ?_
  exact hc4 v1 v2_6 σ
def fX5_vetoes_b4 (N : Nat) (h : Nat) (rc4 : Int32 → Int32 → Mem → Option (Int32 × Mem)) (v1 : Int32) (v2 : Int32) (σ : Mem) : Option (Int32 × Mem) :=
  if (σ.1 h 3) ≤ v2 then some (v1, σ) else bd (fX5_wins N h (((σ.1 h 4) - 1) - ((1 : Int32) <<< (v2 &&& 31))) σ) (fun r3 s4 => if r3 = 0 then lt_ (v1 ||| ((1 : Int32) <<< (v2 &&& 31))) (fun v1_5 => fX5_vetoes_b35 N h rc4 v1_5 v2 s4) else fX5_vetoes_b35 N h rc4 v1 v2 s4)
set_option maxRecDepth 100000 in
set_option maxHeartbeats 4000000 in
theorem bX5_vetoes_4 {x : Cx} {z : Sx} (X : XG x z RX5 cX5_vetoes 3 1 21) (E : XE x z) (hr : XR x (some .int)) (hZ : z.2.2.2.1 = kdC) (N : Nat) (h : Nat) (hh : z.2.2.2.1 h = (5, 0)) (rc4 : Int32 → Int32 → Mem → Option (Int32 × Mem)) (hc4 : ∀ (v1 : Int32) (v2 : Int32) (σ : Mem), VK x z 3 (BQ QI x z) 4 [(0, .ref (z.2.2.1 h)), (1, .int v1), (2, .int v2)] [] σ (rc4 v1 v2 σ)) (v1 : Int32) (v2 : Int32) (σ : Mem) : VK x z 3 (BQ QI x z) 4 [(0, .ref (z.2.2.1 h)), (1, .int v1), (2, .int v2)] [] σ (fX5_vetoes_b4 N h rc4 v1 v2 σ) := by
  unfold fX5_vetoes_b4
  refine V_iload_n 2 X dX5_vetoes_4 rfl rfl ?_
  refine V_aload_n 0 X dX5_vetoes_5 rfl rfl ?_
  refine V_getI 3 X dX5_vetoes_6 co5 hh (by decide) rfl wfX5_27 ?_
  refine V_icmp_ge (tgt := 41) X dX5_vetoes_9 (by decide) ?_ ?_
  · refine V_iload_n 1 X dX5_vetoes_41 rfl rfl ?_
    exact V_iret X E hr dX5_vetoes_42
  · refine V_aload_n 0 X dX5_vetoes_12 rfl rfl ?_
    refine V_aload_n 0 X dX5_vetoes_13 rfl rfl ?_
    refine V_getI 4 X dX5_vetoes_14 co5 hh (by decide) rfl wfX5_28 ?_
    refine V_iconst (v := 1) X dX5_vetoes_17 (by decide) ?_
    refine V_isub X dX5_vetoes_18 ?_
    refine V_iconst (v := 1) X dX5_vetoes_19 (by decide) ?_
    refine V_iload_n 2 X dX5_vetoes_20 rfl rfl ?_
    refine V_ishl X dX5_vetoes_21 ?_
    refine V_isub X dX5_vetoes_22 ?_
    refine V_callI [.int (((σ.1 h 4) - 1) - ((1 : Int32) <<< (v2 &&& 31)))] [] X E dX5_vetoes_23 (kX5_wins x.2.1 z hZ N h hh (((σ.1 h 4) - 1) - ((1 : Int32) <<< (v2 &&& 31))) σ) co5 hh gcX5_39 hyX5_wins rfl ⟨by decide, by decide⟩ rfl (Nat.le_of_ble_eq_true rfl) (fun r3 s4 => ?_)
    refine V_if_ne (tgt := 35) X dX5_vetoes_26 (by decide) ?_ ?_
    · refine V_sub [0, 1, 2] rfl ?_
      exact bX5_vetoes_35 X E hr hZ N h hh rc4 hc4 v1 v2 s4
    · refine V_iload_n 1 X dX5_vetoes_29 rfl rfl ?_
      refine V_iconst (v := 1) X dX5_vetoes_30 (by decide) ?_
      refine V_iload_n 2 X dX5_vetoes_31 rfl rfl ?_
      refine V_ishl X dX5_vetoes_32 ?_
      refine V_ior X dX5_vetoes_33 ?_
      refine V_istore_nG (L' := fun v1_5 => [(1, .int v1_5), (0, .ref (z.2.2.1 h)), (2, .int v2)]) X dX5_vetoes_34 rfl (by decide) (fun _ => rfl) (fun v1_5 => ?_)
      refine V_sub [1, 0, 2] rfl ?_
      exact bX5_vetoes_35 X E hr hZ N h hh rc4 hc4 v1_5 v2 s4
def fX5_vetoes_l4 (N : Nat) (h : Nat) : Nat → Int32 → Int32 → Mem → Option (Int32 × Mem)
  | 0 => fun _ _ _ => none
  | n + 1 => fX5_vetoes_b4 N h (fX5_vetoes_l4 N h n)
theorem lX5_vetoes_4 {x : Cx} {z : Sx} (X : XG x z RX5 cX5_vetoes 3 1 21) (E : XE x z) (hr : XR x (some .int)) (hZ : z.2.2.2.1 = kdC) (N : Nat) (h : Nat) (hh : z.2.2.2.1 h = (5, 0)) (n : Nat) (v1 : Int32) (v2 : Int32) (σ : Mem) : VK x z 3 (BQ QI x z) 4 [(0, .ref (z.2.2.1 h)), (1, .int v1), (2, .int v2)] [] σ (fX5_vetoes_l4 N h n v1 v2 σ) := by
  induction n generalizing v1 v2 σ with
  | zero => exact V_none
  | succ n ih => exact bX5_vetoes_4 X E hr hZ N h hh (fX5_vetoes_l4 N h n) ih v1 v2 σ
def fX5_vetoes (N : Nat) (h : Nat) (σ : Mem) : Option (Int32 × Mem) :=
  lt_ 0 (fun v1_1 => lt_ 0 (fun v2_2 => fX5_vetoes_l4 N h N v1_1 v2_2 σ))
set_option maxRecDepth 100000 in
set_option maxHeartbeats 4000000 in
theorem bX5_vetoes_0 {x : Cx} {z : Sx} (X : XG x z RX5 cX5_vetoes 3 1 21) (E : XE x z) (hr : XR x (some .int)) (hZ : z.2.2.2.1 = kdC) (N : Nat) (h : Nat) (hh : z.2.2.2.1 h = (5, 0)) (σ : Mem) : VK x z 3 (BQ QI x z) 0 [(0, .ref (z.2.2.1 h))] [] σ (fX5_vetoes N h σ) := by
  unfold fX5_vetoes
  refine V_iconst (v := 0) X dX5_vetoes_0 (by decide) ?_
  refine V_istore_nG (L' := fun v1_1 => [(1, .int v1_1), (0, .ref (z.2.2.1 h))]) X dX5_vetoes_1 rfl (by decide) (fun _ => rfl) (fun v1_1 => ?_)
  refine V_iconst (v := 0) X dX5_vetoes_2 (by decide) ?_
  refine V_istore_nG (L' := fun v2_2 => [(2, .int v2_2), (1, .int v1_1), (0, .ref (z.2.2.1 h))]) X dX5_vetoes_3 rfl (by decide) (fun _ => rfl) (fun v2_2 => ?_)
  refine V_sub [2, 1, 0] rfl ?_
  exact lX5_vetoes_4 X E hr hZ N h hh N v1_1 v2_2 σ
theorem kX5_vetoes (l : Launch) (z : Sx) (hZ : z.2.2.2.1 = kdC) (N : Nat) (h : Nat) (hh : z.2.2.2.1 h = (5, 0)) (σ : Mem) : Ct QI yX5_vetoes cX5_vetoes 3 (some .int) 1 21 l z [.ref (z.2.2.1 h)] σ (fX5_vetoes N h σ) := by
  refine Ct_of (by decide +kernel) (Nat.le_of_ble_eq_true rfl) rfl ?_
  intro x _ X E hr
  exact bX5_vetoes_0 X E hr hZ N h hh σ
def fX5_idle_b27 (N : Nat) (h : Nat) (rc4 : Int32 → Int32 → Mem → Option (Int32 × Mem)) (v1 : Int32) (v2 : Int32) (σ : Mem) : Option (Int32 × Mem) :=
  lt_ (v2 + 1) (fun v2_4 => rc4 v1 v2_4 σ)
set_option maxRecDepth 100000 in
set_option maxHeartbeats 4000000 in
theorem bX5_idle_27 {x : Cx} {z : Sx} (X : XG x z RX5 cX5_idle 3 0 0) (E : XE x z) (hr : XR x (some .int)) (hZ : z.2.2.2.1 = kdC) (N : Nat) (h : Nat) (hh : z.2.2.2.1 h = (5, 0)) (rc4 : Int32 → Int32 → Mem → Option (Int32 × Mem)) (hc4 : ∀ (v1 : Int32) (v2 : Int32) (σ : Mem), VK x z 3 (BQ QI x z) 4 [(0, .ref (z.2.2.1 h)), (1, .int v1), (2, .int v2)] [] σ (rc4 v1 v2 σ)) (v1 : Int32) (v2 : Int32) (σ : Mem) : VK x z 3 (BQ QI x z) 27 [(0, .ref (z.2.2.1 h)), (1, .int v1), (2, .int v2)] [] σ (fX5_idle_b27 N h rc4 v1 v2 σ) := by
  unfold fX5_idle_b27
  refine V_iincG (L' := fun v2_4 => [(2, .int v2_4), (0, .ref (z.2.2.1 h)), (1, .int v1)]) 2 X dX5_idle_27 rfl rfl (by decide) (fun _ => rfl) (fun v2_4 => ?_)
  refine V_goto (tgt := 4) X dX5_idle_30 (by decide) ?_
  refine V_sub [1, 2, 0] rfl ?_
  exact hc4 v1 v2_4 σ
def fX5_idle_b4 (N : Nat) (h : Nat) (rc4 : Int32 → Int32 → Mem → Option (Int32 × Mem)) (v1 : Int32) (v2 : Int32) (σ : Mem) : Option (Int32 × Mem) :=
  if (σ.1 h 3) ≤ v2 then some (v1, σ) else gd (inb v2 8) (if (σ.1 (h + 1) v2.toNatClampNeg) = 0 then lt_ (v1 ||| ((1 : Int32) <<< (v2 &&& 31))) (fun v1_3 => fX5_idle_b27 N h rc4 v1_3 v2 σ) else fX5_idle_b27 N h rc4 v1 v2 σ)
set_option maxRecDepth 100000 in
set_option maxHeartbeats 4000000 in
theorem bX5_idle_4 {x : Cx} {z : Sx} (X : XG x z RX5 cX5_idle 3 0 0) (E : XE x z) (hr : XR x (some .int)) (hZ : z.2.2.2.1 = kdC) (N : Nat) (h : Nat) (hh : z.2.2.2.1 h = (5, 0)) (rc4 : Int32 → Int32 → Mem → Option (Int32 × Mem)) (hc4 : ∀ (v1 : Int32) (v2 : Int32) (σ : Mem), VK x z 3 (BQ QI x z) 4 [(0, .ref (z.2.2.1 h)), (1, .int v1), (2, .int v2)] [] σ (rc4 v1 v2 σ)) (v1 : Int32) (v2 : Int32) (σ : Mem) : VK x z 3 (BQ QI x z) 4 [(0, .ref (z.2.2.1 h)), (1, .int v1), (2, .int v2)] [] σ (fX5_idle_b4 N h rc4 v1 v2 σ) := by
  unfold fX5_idle_b4
  refine V_iload_n 2 X dX5_idle_4 rfl rfl ?_
  refine V_aload_n 0 X dX5_idle_5 rfl rfl ?_
  refine V_getI 3 X dX5_idle_6 co5 hh (by decide) rfl wfX5_27 ?_
  refine V_icmp_ge (tgt := 33) X dX5_idle_9 (by decide) ?_ ?_
  · refine V_iload_n 1 X dX5_idle_33 rfl rfl ?_
    exact V_iret X E hr dX5_idle_34
  · refine V_aload_n 0 X dX5_idle_12 rfl rfl ?_
    refine V_getR (k1 := (h + 1)) 0 X dX5_idle_13 co5 hh (by decide) rfl rfl wfX5_9 ?_
    refine V_iload_n 2 X dX5_idle_16 rfl rfl ?_
    refine V_iald X dX5_idle_17 (kt5_0 hZ hh) ?_
    refine V_if_ne (tgt := 27) X dX5_idle_18 (by decide) ?_ ?_
    · refine V_sub [0, 1, 2] rfl ?_
      exact bX5_idle_27 X E hr hZ N h hh rc4 hc4 v1 v2 σ
    · refine V_iload_n 1 X dX5_idle_21 rfl rfl ?_
      refine V_iconst (v := 1) X dX5_idle_22 (by decide) ?_
      refine V_iload_n 2 X dX5_idle_23 rfl rfl ?_
      refine V_ishl X dX5_idle_24 ?_
      refine V_ior X dX5_idle_25 ?_
      refine V_istore_nG (L' := fun v1_3 => [(1, .int v1_3), (0, .ref (z.2.2.1 h)), (2, .int v2)]) X dX5_idle_26 rfl (by decide) (fun _ => rfl) (fun v1_3 => ?_)
      refine V_sub [1, 0, 2] rfl ?_
      exact bX5_idle_27 X E hr hZ N h hh rc4 hc4 v1_3 v2 σ
def fX5_idle_l4 (N : Nat) (h : Nat) : Nat → Int32 → Int32 → Mem → Option (Int32 × Mem)
  | 0 => fun _ _ _ => none
  | n + 1 => fX5_idle_b4 N h (fX5_idle_l4 N h n)
theorem lX5_idle_4 {x : Cx} {z : Sx} (X : XG x z RX5 cX5_idle 3 0 0) (E : XE x z) (hr : XR x (some .int)) (hZ : z.2.2.2.1 = kdC) (N : Nat) (h : Nat) (hh : z.2.2.2.1 h = (5, 0)) (n : Nat) (v1 : Int32) (v2 : Int32) (σ : Mem) : VK x z 3 (BQ QI x z) 4 [(0, .ref (z.2.2.1 h)), (1, .int v1), (2, .int v2)] [] σ (fX5_idle_l4 N h n v1 v2 σ) := by
  induction n generalizing v1 v2 σ with
  | zero => exact V_none
  | succ n ih => exact bX5_idle_4 X E hr hZ N h hh (fX5_idle_l4 N h n) ih v1 v2 σ
def fX5_idle (N : Nat) (h : Nat) (σ : Mem) : Option (Int32 × Mem) :=
  lt_ 0 (fun v1_1 => lt_ 0 (fun v2_2 => fX5_idle_l4 N h N v1_1 v2_2 σ))
set_option maxRecDepth 100000 in
set_option maxHeartbeats 4000000 in
theorem bX5_idle_0 {x : Cx} {z : Sx} (X : XG x z RX5 cX5_idle 3 0 0) (E : XE x z) (hr : XR x (some .int)) (hZ : z.2.2.2.1 = kdC) (N : Nat) (h : Nat) (hh : z.2.2.2.1 h = (5, 0)) (σ : Mem) : VK x z 3 (BQ QI x z) 0 [(0, .ref (z.2.2.1 h))] [] σ (fX5_idle N h σ) := by
  unfold fX5_idle
  refine V_iconst (v := 0) X dX5_idle_0 (by decide) ?_
  refine V_istore_nG (L' := fun v1_1 => [(1, .int v1_1), (0, .ref (z.2.2.1 h))]) X dX5_idle_1 rfl (by decide) (fun _ => rfl) (fun v1_1 => ?_)
  refine V_iconst (v := 0) X dX5_idle_2 (by decide) ?_
  refine V_istore_nG (L' := fun v2_2 => [(2, .int v2_2), (1, .int v1_1), (0, .ref (z.2.2.1 h))]) X dX5_idle_3 rfl (by decide) (fun _ => rfl) (fun v2_2 => ?_)
  refine V_sub [2, 1, 0] rfl ?_
  exact lX5_idle_4 X E hr hZ N h hh N v1_1 v2_2 σ
theorem kX5_idle (l : Launch) (z : Sx) (hZ : z.2.2.2.1 = kdC) (N : Nat) (h : Nat) (hh : z.2.2.2.1 h = (5, 0)) (σ : Mem) : Ct QI yX5_idle cX5_idle 3 (some .int) 0 0 l z [.ref (z.2.2.1 h)] σ (fX5_idle N h σ) := by
  refine Ct_of (by decide +kernel) (Nat.le_of_ble_eq_true rfl) rfl ?_
  intro x _ X E hr
  exact bX5_idle_0 X E hr hZ N h hh σ
def fX5_alike_b57 (N : Nat) (h : Nat) (rc4 : Int32 → Int32 → Mem → Option (Int32 × Mem)) (rc16 : Int32 → Int32 → Int32 → Mem → Option (Int32 × Mem)) (v1 : Int32) (v2 : Int32) (v3 : Int32) (σ : Mem) : Option (Int32 × Mem) :=
  lt_ (v3 + 1) (fun v3_6 => rc16 v1 v2 v3_6 σ)
set_option maxRecDepth 100000 in
set_option maxHeartbeats 4000000 in
theorem bX5_alike_57 {x : Cx} {z : Sx} (X : XG x z RX5 cX5_alike 4 0 0) (E : XE x z) (hr : XR x (some .int)) (hZ : z.2.2.2.1 = kdC) (N : Nat) (h : Nat) (hh : z.2.2.2.1 h = (5, 0)) (rc4 : Int32 → Int32 → Mem → Option (Int32 × Mem)) (hc4 : ∀ (v1 : Int32) (v2 : Int32) (σ : Mem), VK x z 4 (BQ QI x z) 4 [(0, .ref (z.2.2.1 h)), (1, .int v1), (2, .int v2)] [] σ (rc4 v1 v2 σ)) (rc16 : Int32 → Int32 → Int32 → Mem → Option (Int32 × Mem)) (hc16 : ∀ (v1 : Int32) (v2 : Int32) (v3 : Int32) (σ : Mem), VK x z 4 (BQ QI x z) 16 [(0, .ref (z.2.2.1 h)), (1, .int v1), (2, .int v2), (3, .int v3)] [] σ (rc16 v1 v2 v3 σ)) (v1 : Int32) (v2 : Int32) (v3 : Int32) (σ : Mem) : VK x z 4 (BQ QI x z) 57 [(0, .ref (z.2.2.1 h)), (1, .int v1), (2, .int v2), (3, .int v3)] [] σ (fX5_alike_b57 N h rc4 rc16 v1 v2 v3 σ) := by
  unfold fX5_alike_b57
  refine V_iincG (L' := fun v3_6 => [(3, .int v3_6), (0, .ref (z.2.2.1 h)), (1, .int v1), (2, .int v2)]) 3 X dX5_alike_57 rfl rfl (by decide) (fun _ => rfl) (fun v3_6 => ?_)
  refine V_goto (tgt := 16) X dX5_alike_60 (by decide) ?_
  refine V_sub [1, 2, 3, 0] rfl ?_
  exact hc16 v1 v2 v3_6 σ
def fX5_alike_b16 (N : Nat) (h : Nat) (rc4 : Int32 → Int32 → Mem → Option (Int32 × Mem)) (rc16 : Int32 → Int32 → Int32 → Mem → Option (Int32 × Mem)) (v1 : Int32) (v2 : Int32) (v3 : Int32) (σ : Mem) : Option (Int32 × Mem) :=
  if (σ.1 h 3) ≤ v3 then lt_ (v2 + 1) (fun v2_4 => rc4 v1 v2_4 σ) else gd (inb v2 8) (gd (inb v3 8) (if (σ.1 (h + 1) v2.toNatClampNeg) = (σ.1 (h + 1) v3.toNatClampNeg) then gd (inb v2 8) (gd (inb v3 8) (if (σ.1 (h + 2) v2.toNatClampNeg) = (σ.1 (h + 2) v3.toNatClampNeg) then fX5_alike_b57 N h rc4 rc16 v1 v2 v3 σ else lt_ (v1 + 1) (fun v1_5 => fX5_alike_b57 N h rc4 rc16 v1_5 v2 v3 σ))) else fX5_alike_b57 N h rc4 rc16 v1 v2 v3 σ))
set_option maxRecDepth 100000 in
set_option maxHeartbeats 4000000 in
theorem bX5_alike_16 {x : Cx} {z : Sx} (X : XG x z RX5 cX5_alike 4 0 0) (E : XE x z) (hr : XR x (some .int)) (hZ : z.2.2.2.1 = kdC) (N : Nat) (h : Nat) (hh : z.2.2.2.1 h = (5, 0)) (rc4 : Int32 → Int32 → Mem → Option (Int32 × Mem)) (hc4 : ∀ (v1 : Int32) (v2 : Int32) (σ : Mem), VK x z 4 (BQ QI x z) 4 [(0, .ref (z.2.2.1 h)), (1, .int v1), (2, .int v2)] [] σ (rc4 v1 v2 σ)) (rc16 : Int32 → Int32 → Int32 → Mem → Option (Int32 × Mem)) (hc16 : ∀ (v1 : Int32) (v2 : Int32) (v3 : Int32) (σ : Mem), VK x z 4 (BQ QI x z) 16 [(0, .ref (z.2.2.1 h)), (1, .int v1), (2, .int v2), (3, .int v3)] [] σ (rc16 v1 v2 v3 σ)) (v1 : Int32) (v2 : Int32) (v3 : Int32) (σ : Mem) : VK x z 4 (BQ QI x z) 16 [(0, .ref (z.2.2.1 h)), (1, .int v1), (2, .int v2), (3, .int v3)] [] σ (fX5_alike_b16 N h rc4 rc16 v1 v2 v3 σ) := by
  unfold fX5_alike_b16
  refine V_iload_n 3 X dX5_alike_16 rfl rfl ?_
  refine V_aload_n 0 X dX5_alike_17 rfl rfl ?_
  refine V_getI 3 X dX5_alike_18 co5 hh (by decide) rfl wfX5_27 ?_
  refine V_icmp_ge (tgt := 63) X dX5_alike_21 (by decide) ?_ ?_
  · refine V_iincG (L' := fun v2_4 => [(2, .int v2_4), (0, .ref (z.2.2.1 h)), (1, .int v1), (3, .int v3)]) 2 X dX5_alike_63 rfl rfl (by decide) (fun _ => rfl) (fun v2_4 => ?_)
    refine V_goto (tgt := 4) X dX5_alike_66 (by decide) ?_
    refine V_sub [1, 2, 0] rfl ?_
    exact hc4 v1 v2_4 σ
  · refine V_aload_n 0 X dX5_alike_24 rfl rfl ?_
    refine V_getR (k1 := (h + 1)) 0 X dX5_alike_25 co5 hh (by decide) rfl rfl wfX5_9 ?_
    refine V_iload_n 2 X dX5_alike_28 rfl rfl ?_
    refine V_iald X dX5_alike_29 (kt5_0 hZ hh) ?_
    refine V_aload_n 0 X dX5_alike_30 rfl rfl ?_
    refine V_getR (k1 := (h + 1)) 0 X dX5_alike_31 co5 hh (by decide) rfl rfl wfX5_9 ?_
    refine V_iload_n 3 X dX5_alike_34 rfl rfl ?_
    refine V_iald X dX5_alike_35 (kt5_0 hZ hh) ?_
    refine V_icmp_ne (tgt := 57) X dX5_alike_36 (by decide) ?_ ?_
    · refine V_sub [0, 1, 2, 3] rfl ?_
      exact bX5_alike_57 X E hr hZ N h hh rc4 hc4 rc16 hc16 v1 v2 v3 σ
    · refine V_aload_n 0 X dX5_alike_39 rfl rfl ?_
      refine V_getR (k1 := (h + 2)) 1 X dX5_alike_40 co5 hh (by decide) rfl rfl wfX5_15 ?_
      refine V_iload_n 2 X dX5_alike_43 rfl rfl ?_
      refine V_iald X dX5_alike_44 (kt5_1 hZ hh) ?_
      refine V_aload_n 0 X dX5_alike_45 rfl rfl ?_
      refine V_getR (k1 := (h + 2)) 1 X dX5_alike_46 co5 hh (by decide) rfl rfl wfX5_15 ?_
      refine V_iload_n 3 X dX5_alike_49 rfl rfl ?_
      refine V_iald X dX5_alike_50 (kt5_1 hZ hh) ?_
      refine V_icmp_eq (tgt := 57) X dX5_alike_51 (by decide) ?_ ?_
      · refine V_sub [0, 1, 2, 3] rfl ?_
        exact bX5_alike_57 X E hr hZ N h hh rc4 hc4 rc16 hc16 v1 v2 v3 σ
      · refine V_iincG (L' := fun v1_5 => [(1, .int v1_5), (0, .ref (z.2.2.1 h)), (2, .int v2), (3, .int v3)]) 1 X dX5_alike_54 rfl rfl (by decide) (fun _ => rfl) (fun v1_5 => ?_)
        refine V_sub [1, 0, 2, 3] rfl ?_
        exact bX5_alike_57 X E hr hZ N h hh rc4 hc4 rc16 hc16 v1_5 v2 v3 σ
def fX5_alike_l16 (N : Nat) (h : Nat) (rc4 : Int32 → Int32 → Mem → Option (Int32 × Mem)) : Nat → Int32 → Int32 → Int32 → Mem → Option (Int32 × Mem)
  | 0 => fun _ _ _ _ => none
  | n + 1 => fX5_alike_b16 N h rc4 (fX5_alike_l16 N h rc4 n)
theorem lX5_alike_16 {x : Cx} {z : Sx} (X : XG x z RX5 cX5_alike 4 0 0) (E : XE x z) (hr : XR x (some .int)) (hZ : z.2.2.2.1 = kdC) (N : Nat) (h : Nat) (hh : z.2.2.2.1 h = (5, 0)) (rc4 : Int32 → Int32 → Mem → Option (Int32 × Mem)) (hc4 : ∀ (v1 : Int32) (v2 : Int32) (σ : Mem), VK x z 4 (BQ QI x z) 4 [(0, .ref (z.2.2.1 h)), (1, .int v1), (2, .int v2)] [] σ (rc4 v1 v2 σ)) (n : Nat) (v1 : Int32) (v2 : Int32) (v3 : Int32) (σ : Mem) : VK x z 4 (BQ QI x z) 16 [(0, .ref (z.2.2.1 h)), (1, .int v1), (2, .int v2), (3, .int v3)] [] σ (fX5_alike_l16 N h rc4 n v1 v2 v3 σ) := by
  induction n generalizing v1 v2 v3 σ with
  | zero => exact V_none
  | succ n ih => exact bX5_alike_16 X E hr hZ N h hh rc4 hc4 (fX5_alike_l16 N h rc4 n) ih v1 v2 v3 σ
def fX5_alike_b4 (N : Nat) (h : Nat) (rc4 : Int32 → Int32 → Mem → Option (Int32 × Mem)) (v1 : Int32) (v2 : Int32) (σ : Mem) : Option (Int32 × Mem) :=
  if (σ.1 h 3) ≤ v2 then some (v1, σ) else lt_ (v2 + 1) (fun v3_3 => fX5_alike_l16 N h rc4 N v1 v2 v3_3 σ)
set_option maxRecDepth 100000 in
set_option maxHeartbeats 4000000 in
theorem bX5_alike_4 {x : Cx} {z : Sx} (X : XG x z RX5 cX5_alike 4 0 0) (E : XE x z) (hr : XR x (some .int)) (hZ : z.2.2.2.1 = kdC) (N : Nat) (h : Nat) (hh : z.2.2.2.1 h = (5, 0)) (rc4 : Int32 → Int32 → Mem → Option (Int32 × Mem)) (hc4 : ∀ (v1 : Int32) (v2 : Int32) (σ : Mem), VK x z 4 (BQ QI x z) 4 [(0, .ref (z.2.2.1 h)), (1, .int v1), (2, .int v2)] [] σ (rc4 v1 v2 σ)) (v1 : Int32) (v2 : Int32) (σ : Mem) : VK x z 4 (BQ QI x z) 4 [(0, .ref (z.2.2.1 h)), (1, .int v1), (2, .int v2)] [] σ (fX5_alike_b4 N h rc4 v1 v2 σ) := by
  unfold fX5_alike_b4
  refine V_iload_n 2 X dX5_alike_4 rfl rfl ?_
  refine V_aload_n 0 X dX5_alike_5 rfl rfl ?_
  refine V_getI 3 X dX5_alike_6 co5 hh (by decide) rfl wfX5_27 ?_
  refine V_icmp_ge (tgt := 69) X dX5_alike_9 (by decide) ?_ ?_
  · refine V_iload_n 1 X dX5_alike_69 rfl rfl ?_
    exact V_iret X E hr dX5_alike_70
  · refine V_iload_n 2 X dX5_alike_12 rfl rfl ?_
    refine V_iconst (v := 1) X dX5_alike_13 (by decide) ?_
    refine V_iadd X dX5_alike_14 ?_
    refine V_istore_nG (L' := fun v3_3 => [(3, .int v3_3), (0, .ref (z.2.2.1 h)), (1, .int v1), (2, .int v2)]) X dX5_alike_15 rfl (by decide) (fun _ => rfl) (fun v3_3 => ?_)
    refine V_sub [1, 2, 3, 0] rfl ?_
    exact lX5_alike_16 X E hr hZ N h hh rc4 hc4 N v1 v2 v3_3 σ
def fX5_alike_l4 (N : Nat) (h : Nat) : Nat → Int32 → Int32 → Mem → Option (Int32 × Mem)
  | 0 => fun _ _ _ => none
  | n + 1 => fX5_alike_b4 N h (fX5_alike_l4 N h n)
theorem lX5_alike_4 {x : Cx} {z : Sx} (X : XG x z RX5 cX5_alike 4 0 0) (E : XE x z) (hr : XR x (some .int)) (hZ : z.2.2.2.1 = kdC) (N : Nat) (h : Nat) (hh : z.2.2.2.1 h = (5, 0)) (n : Nat) (v1 : Int32) (v2 : Int32) (σ : Mem) : VK x z 4 (BQ QI x z) 4 [(0, .ref (z.2.2.1 h)), (1, .int v1), (2, .int v2)] [] σ (fX5_alike_l4 N h n v1 v2 σ) := by
  induction n generalizing v1 v2 σ with
  | zero => exact V_none
  | succ n ih => exact bX5_alike_4 X E hr hZ N h hh (fX5_alike_l4 N h n) ih v1 v2 σ
def fX5_alike (N : Nat) (h : Nat) (σ : Mem) : Option (Int32 × Mem) :=
  lt_ 0 (fun v1_1 => lt_ 0 (fun v2_2 => fX5_alike_l4 N h N v1_1 v2_2 σ))
set_option maxRecDepth 100000 in
set_option maxHeartbeats 4000000 in
theorem bX5_alike_0 {x : Cx} {z : Sx} (X : XG x z RX5 cX5_alike 4 0 0) (E : XE x z) (hr : XR x (some .int)) (hZ : z.2.2.2.1 = kdC) (N : Nat) (h : Nat) (hh : z.2.2.2.1 h = (5, 0)) (σ : Mem) : VK x z 4 (BQ QI x z) 0 [(0, .ref (z.2.2.1 h))] [] σ (fX5_alike N h σ) := by
  unfold fX5_alike
  refine V_iconst (v := 0) X dX5_alike_0 (by decide) ?_
  refine V_istore_nG (L' := fun v1_1 => [(1, .int v1_1), (0, .ref (z.2.2.1 h))]) X dX5_alike_1 rfl (by decide) (fun _ => rfl) (fun v1_1 => ?_)
  refine V_iconst (v := 0) X dX5_alike_2 (by decide) ?_
  refine V_istore_nG (L' := fun v2_2 => [(2, .int v2_2), (1, .int v1_1), (0, .ref (z.2.2.1 h))]) X dX5_alike_3 rfl (by decide) (fun _ => rfl) (fun v2_2 => ?_)
  refine V_sub [2, 1, 0] rfl ?_
  exact lX5_alike_4 X E hr hZ N h hh N v1_1 v2_2 σ
theorem kX5_alike (l : Launch) (z : Sx) (hZ : z.2.2.2.1 = kdC) (N : Nat) (h : Nat) (hh : z.2.2.2.1 h = (5, 0)) (σ : Mem) : Ct QI yX5_alike cX5_alike 4 (some .int) 0 0 l z [.ref (z.2.2.1 h)] σ (fX5_alike N h σ) := by
  refine Ct_of (by decide +kernel) (Nat.le_of_ble_eq_true rfl) rfl ?_
  intro x _ X E hr
  exact bX5_alike_0 X E hr hZ N h hh σ
def fX11_weigh (N : Nat) (h : Nat) (v1 : Int32) (v2 : Int32) (σ : Mem) : Option (Int32 × Mem) :=
  bd (fX9_chamberAt N (h + 1) v1 σ) (fun or1 s2 => mqK (0, 0) or1 (some ((-1), s2)) (fun r1 => bd (fX5_hear N (h + 266) r1 s2) (fun r4 s5 => if v2 = 0 then bd (fX5_evenestSet N (h + 266) s5) (fun r6 s7 => some (r6, s7)) else if v2 = 1 then bd (fX5_evenestSet N (h + 266) s5) (fun r8 s9 => bd (fX5_difference N (h + 266) r8 s9) (fun r10 s11 => some (r10, s11))) else if v2 = 2 then bd (fX5_vetoes N (h + 266) s5) (fun r12 s13 => some (r12, s13)) else if v2 = 3 then bd (fX5_idle N (h + 266) s5) (fun r14 s15 => some (r14, s15)) else if v2 = 4 then bd (fX5_alike N (h + 266) s5) (fun r16 s17 => some (r16, s17)) else some ((-1), s5))))
set_option maxRecDepth 100000 in
set_option maxHeartbeats 4000000 in
theorem bX11_weigh_0 {x : Cx} {z : Sx} (X : XG x z RX11 cX11_weigh 4 4 91) (E : XE x z) (hr : XR x (some .int)) (hZ : z.2.2.2.1 = kdC) (N : Nat) (h : Nat) (hh : z.2.2.2.1 h = (11, 0)) (v1 : Int32) (v2 : Int32) (σ : Mem) : VK x z 4 (BQ QI x z) 0 [(0, .ref (z.2.2.1 h)), (1, .int v1), (2, .int v2)] [] σ (fX11_weigh N h v1 v2 σ) := by
  unfold fX11_weigh
  refine V_aload_n 0 X dX11_weigh_0 rfl rfl ?_
  refine V_getR (k1 := (h + 1)) 0 X dX11_weigh_1 co11 hh (by decide) rfl rfl wfX11_10 ?_
  refine V_iload_n 1 X dX11_weigh_4 rfl rfl ?_
  refine V_callQC (K := (0, 0)) [.int v1] [] X E hZ dX11_weigh_5 (kX9_chamberAt x.2.1 z hZ N (h + 1) (kt11_0 hZ hh) v1 σ) co9 (kt11_0 hZ hh) gcX11_105 hyX9_chamberAt rfl ⟨by decide, by decide⟩ rfl (Nat.le_of_ble_eq_true rfl) (fun s2 => ?_) (fun r1 s2 hb3 => ?_)
  · refine V_astore_nN (L' := [(3, .null), (0, .ref (z.2.2.1 h)), (1, .int v1), (2, .int v2)]) X dX11_weigh_8 rfl (by decide) rfl ?_
    refine V_aload_nN 0 X dX11_weigh_9 rfl rfl ?_
    refine V_ifnonnullN X dX11_weigh_10 ?_
    refine V_iconst (v := -1) X dX11_weigh_13 (by decide) ?_
    exact V_iret X E hr dX11_weigh_14
  · refine V_astore_n (L' := [(3, .ref (z.2.2.1 r1)), (0, .ref (z.2.2.1 h)), (1, .int v1), (2, .int v2)]) X dX11_weigh_8 rfl (by decide) rfl ?_
    refine V_aload_n 0 X dX11_weigh_9 rfl rfl ?_
    refine V_ifnonnull (tgt := 15) X dX11_weigh_10 (by decide) ?_
    refine V_aload_n 1 X dX11_weigh_15 rfl rfl ?_
    refine V_getR (k1 := (h + 266)) 9 X dX11_weigh_16 co11 hh (by decide) rfl rfl wfX11_69 ?_
    refine V_aload_n 0 X dX11_weigh_19 rfl rfl ?_
    refine V_callV [.ref (z.2.2.1 r1)] [] X E dX11_weigh_20 (kX5_hear x.2.1 z hZ N (h + 266) (kt11_9 hZ hh) r1 hb3 s2) co5 (kt11_9 hZ hh) gcX11_195 hyX5_hear rfl ⟨by decide, by decide⟩ rfl (Nat.le_of_ble_eq_true rfl) (fun r4 s5 => ?_)
    refine V_iload_n 3 X dX11_weigh_23 rfl rfl ?_
    refine V_split (c := 0) (fun n24_0 => ?_) (fun n24_0 => ?_)
    · refine V_tabAt (c := 0) (tgt := 60) X dX11_weigh_24 n24_0 (by decide) (by decide) (by rfl) (by decide) ?_
      refine V_aload_n 1 X dX11_weigh_60 rfl rfl ?_
      refine V_getR (k1 := (h + 266)) 9 X dX11_weigh_61 co11 hh (by decide) rfl rfl wfX11_69 ?_
      refine V_callI [] [] X E dX11_weigh_64 (kX5_evenestSet x.2.1 z hZ N (h + 266) (kt11_9 hZ hh) s5) co5 (kt11_9 hZ hh) gcX11_299 hyX5_evenestSet rfl ⟨by decide, by decide⟩ rfl (Nat.le_of_ble_eq_true rfl) (fun r6 s7 => ?_)
      exact V_iret X E hr dX11_weigh_67
    refine V_split (c := 1) (fun n24_1 => ?_) (fun n24_1 => ?_)
    · refine V_tabAt (c := 1) (tgt := 68) X dX11_weigh_24 n24_1 (by decide) (by decide) (by rfl) (by decide) ?_
      refine V_aload_n 1 X dX11_weigh_68 rfl rfl ?_
      refine V_getR (k1 := (h + 266)) 9 X dX11_weigh_69 co11 hh (by decide) rfl rfl wfX11_69 ?_
      refine V_aload_n 1 X dX11_weigh_72 rfl rfl ?_
      refine V_getR (k1 := (h + 266)) 9 X dX11_weigh_73 co11 hh (by decide) rfl rfl wfX11_69 ?_
      refine V_callI [] [.ref (z.2.2.1 (h + 266))] X E dX11_weigh_76 (kX5_evenestSet x.2.1 z hZ N (h + 266) (kt11_9 hZ hh) s5) co5 (kt11_9 hZ hh) gcX11_299 hyX5_evenestSet rfl ⟨by decide, by decide⟩ rfl (Nat.le_of_ble_eq_true rfl) (fun r8 s9 => ?_)
      refine V_callI [.int r8] [] X E dX11_weigh_79 (kX5_difference x.2.1 z hZ N (h + 266) (kt11_9 hZ hh) r8 s9) co5 (kt11_9 hZ hh) gcX11_302 hyX5_difference rfl ⟨by decide, by decide⟩ rfl (Nat.le_of_ble_eq_true rfl) (fun r10 s11 => ?_)
      exact V_iret X E hr dX11_weigh_82
    refine V_split (c := 2) (fun n24_2 => ?_) (fun n24_2 => ?_)
    · refine V_tabAt (c := 2) (tgt := 83) X dX11_weigh_24 n24_2 (by decide) (by decide) (by rfl) (by decide) ?_
      refine V_aload_n 1 X dX11_weigh_83 rfl rfl ?_
      refine V_getR (k1 := (h + 266)) 9 X dX11_weigh_84 co11 hh (by decide) rfl rfl wfX11_69 ?_
      refine V_callI [] [] X E dX11_weigh_87 (kX5_vetoes x.2.1 z hZ N (h + 266) (kt11_9 hZ hh) s5) co5 (kt11_9 hZ hh) gcX11_305 hyX5_vetoes rfl ⟨by decide, by decide⟩ rfl (Nat.le_of_ble_eq_true rfl) (fun r12 s13 => ?_)
      exact V_iret X E hr dX11_weigh_90
    refine V_split (c := 3) (fun n24_3 => ?_) (fun n24_3 => ?_)
    · refine V_tabAt (c := 3) (tgt := 91) X dX11_weigh_24 n24_3 (by decide) (by decide) (by rfl) (by decide) ?_
      refine V_aload_n 1 X dX11_weigh_91 rfl rfl ?_
      refine V_getR (k1 := (h + 266)) 9 X dX11_weigh_92 co11 hh (by decide) rfl rfl wfX11_69 ?_
      refine V_callI [] [] X E dX11_weigh_95 (kX5_idle x.2.1 z hZ N (h + 266) (kt11_9 hZ hh) s5) co5 (kt11_9 hZ hh) gcX11_308 hyX5_idle rfl ⟨by decide, by decide⟩ rfl (Nat.le_of_ble_eq_true rfl) (fun r14 s15 => ?_)
      exact V_iret X E hr dX11_weigh_98
    refine V_split (c := 4) (fun n24_4 => ?_) (fun n24_4 => ?_)
    · refine V_tabAt (c := 4) (tgt := 99) X dX11_weigh_24 n24_4 (by decide) (by decide) (by rfl) (by decide) ?_
      refine V_aload_n 1 X dX11_weigh_99 rfl rfl ?_
      refine V_getR (k1 := (h + 266)) 9 X dX11_weigh_100 co11 hh (by decide) rfl rfl wfX11_69 ?_
      refine V_callI [] [] X E dX11_weigh_103 (kX5_alike x.2.1 z hZ N (h + 266) (kt11_9 hZ hh) s5) co5 (kt11_9 hZ hh) gcX11_311 hyX5_alike rfl ⟨by decide, by decide⟩ rfl (Nat.le_of_ble_eq_true rfl) (fun r16 s17 => ?_)
      exact V_iret X E hr dX11_weigh_106
    refine V_tabDef (tgt := 107) X dX11_weigh_24 (swOut (a := v2) (fun q q1 q2 => by rcases (show q = 0 ∨ q = 1 ∨ q = 2 ∨ q = 3 ∨ q = 4 by omega) with rfl | rfl | rfl | rfl | rfl <;> first | exact sw_ne n24_0 (by decide) | exact sw_ne n24_1 (by decide) | exact sw_ne n24_2 (by decide) | exact sw_ne n24_3 (by decide) | exact sw_ne n24_4 (by decide))) (by decide) ?_
    refine V_iconst (v := -1) X dX11_weigh_107 (by decide) ?_
    exact V_iret X E hr dX11_weigh_108
theorem kX11_weigh (l : Launch) (z : Sx) (hZ : z.2.2.2.1 = kdC) (N : Nat) (h : Nat) (hh : z.2.2.2.1 h = (11, 0)) (v1 : Int32) (v2 : Int32) (σ : Mem) : Ct QI yX11_weigh cX11_weigh 4 (some .int) 4 91 l z [.ref (z.2.2.1 h), .int v1, .int v2] σ (fX11_weigh N h v1 v2 σ) := by
  refine Ct_of (by decide +kernel) (Nat.le_of_ble_eq_true rfl) rfl ?_
  intro x _ X E hr
  exact bX11_weigh_0 X E hr hZ N h hh v1 v2 σ
def fX1_mostNays_b44 (N : Nat) (h : Nat) (rc4 : Int32 → Int32 → Mem → Option (Int32 × Mem)) (v1 : Int32) (v2 : Int32) (σ : Mem) : Option (Int32 × Mem) :=
  lt_ (v2 + 1) (fun v2_4 => rc4 v1 v2_4 σ)
set_option maxRecDepth 100000 in
set_option maxHeartbeats 4000000 in
theorem bX1_mostNays_44 {x : Cx} {z : Sx} (X : XG x z RX1 cX1_mostNays 3 0 0) (E : XE x z) (hr : XR x (some .int)) (hZ : z.2.2.2.1 = kdC) (N : Nat) (h : Nat) (hh : z.2.2.2.1 h = (1, 0)) (rc4 : Int32 → Int32 → Mem → Option (Int32 × Mem)) (hc4 : ∀ (v1 : Int32) (v2 : Int32) (σ : Mem), VK x z 3 (BQ QI x z) 4 [(0, .ref (z.2.2.1 h)), (1, .int v1), (2, .int v2)] [] σ (rc4 v1 v2 σ)) (v1 : Int32) (v2 : Int32) (σ : Mem) : VK x z 3 (BQ QI x z) 44 [(0, .ref (z.2.2.1 h)), (1, .int v1), (2, .int v2)] [] σ (fX1_mostNays_b44 N h rc4 v1 v2 σ) := by
  unfold fX1_mostNays_b44
  refine V_iincG (L' := fun v2_4 => [(2, .int v2_4), (0, .ref (z.2.2.1 h)), (1, .int v1)]) 2 X dX1_mostNays_44 rfl rfl (by decide) (fun _ => rfl) (fun v2_4 => ?_)
  refine V_goto (tgt := 4) X dX1_mostNays_47 (by decide) ?_
  refine V_sub [1, 2, 0] rfl ?_
  exact hc4 v1 v2_4 σ
def fX1_mostNays_b39 (N : Nat) (h : Nat) (rc4 : Int32 → Int32 → Mem → Option (Int32 × Mem)) (v1 : Int32) (v2 : Int32) (t0 : Int32) (t1 : Int32) (σ : Mem) : Option (Int32 × Mem) :=
  if t1 ≤ t0 then fX1_mostNays_b44 N h rc4 v1 v2 σ else lt_ v2 (fun v1_3 => fX1_mostNays_b44 N h rc4 v1_3 v2 σ)
set_option maxRecDepth 100000 in
set_option maxHeartbeats 4000000 in
theorem bX1_mostNays_39 {x : Cx} {z : Sx} (X : XG x z RX1 cX1_mostNays 3 0 0) (E : XE x z) (hr : XR x (some .int)) (hZ : z.2.2.2.1 = kdC) (N : Nat) (h : Nat) (hh : z.2.2.2.1 h = (1, 0)) (rc4 : Int32 → Int32 → Mem → Option (Int32 × Mem)) (hc4 : ∀ (v1 : Int32) (v2 : Int32) (σ : Mem), VK x z 3 (BQ QI x z) 4 [(0, .ref (z.2.2.1 h)), (1, .int v1), (2, .int v2)] [] σ (rc4 v1 v2 σ)) (v1 : Int32) (v2 : Int32) (t0 : Int32) (t1 : Int32) (σ : Mem) : VK x z 3 (BQ QI x z) 39 [(0, .ref (z.2.2.1 h)), (1, .int v1), (2, .int v2)] [.int t0, .int t1] σ (fX1_mostNays_b39 N h rc4 v1 v2 t0 t1 σ) := by
  unfold fX1_mostNays_b39
  refine V_icmp_le (tgt := 44) X dX1_mostNays_39 (by decide) ?_ ?_
  · refine V_sub [0, 1, 2] rfl ?_
    exact bX1_mostNays_44 X E hr hZ N h hh rc4 hc4 v1 v2 σ
  · refine V_iload_n 2 X dX1_mostNays_42 rfl rfl ?_
    refine V_istore_nG (L' := fun v1_3 => [(1, .int v1_3), (0, .ref (z.2.2.1 h)), (2, .int v2)]) X dX1_mostNays_43 rfl (by decide) (fun _ => rfl) (fun v1_3 => ?_)
    refine V_sub [1, 0, 2] rfl ?_
    exact bX1_mostNays_44 X E hr hZ N h hh rc4 hc4 v1_3 v2 σ
def fX1_mostNays_b4 (N : Nat) (h : Nat) (rc4 : Int32 → Int32 → Mem → Option (Int32 × Mem)) (v1 : Int32) (v2 : Int32) (σ : Mem) : Option (Int32 × Mem) :=
  if (σ.1 ((h + 1) + 1) 0) ≤ v2 then some (v1, σ) else gd (inb v2 8) (if v1 = (-1) then fX1_mostNays_b39 N h rc4 v1 v2 0 (σ.1 (h + 14) v2.toNatClampNeg) σ else gd (inb v1 8) (fX1_mostNays_b39 N h rc4 v1 v2 (σ.1 (h + 14) v1.toNatClampNeg) (σ.1 (h + 14) v2.toNatClampNeg) σ))
set_option maxRecDepth 100000 in
set_option maxHeartbeats 4000000 in
theorem bX1_mostNays_4 {x : Cx} {z : Sx} (X : XG x z RX1 cX1_mostNays 3 0 0) (E : XE x z) (hr : XR x (some .int)) (hZ : z.2.2.2.1 = kdC) (N : Nat) (h : Nat) (hh : z.2.2.2.1 h = (1, 0)) (rc4 : Int32 → Int32 → Mem → Option (Int32 × Mem)) (hc4 : ∀ (v1 : Int32) (v2 : Int32) (σ : Mem), VK x z 3 (BQ QI x z) 4 [(0, .ref (z.2.2.1 h)), (1, .int v1), (2, .int v2)] [] σ (rc4 v1 v2 σ)) (v1 : Int32) (v2 : Int32) (σ : Mem) : VK x z 3 (BQ QI x z) 4 [(0, .ref (z.2.2.1 h)), (1, .int v1), (2, .int v2)] [] σ (fX1_mostNays_b4 N h rc4 v1 v2 σ) := by
  unfold fX1_mostNays_b4
  refine V_iload_n 2 X dX1_mostNays_4 rfl rfl ?_
  refine V_aload_n 0 X dX1_mostNays_5 rfl rfl ?_
  refine V_getR (k1 := (h + 1)) 0 X dX1_mostNays_6 co1 hh (by decide) rfl rfl wfX1_12 ?_
  refine V_getR (k1 := ((h + 1) + 1)) 0 X dX1_mostNays_9 co2 (kt1_0 hZ hh) (by decide) rfl rfl wfX1_109 ?_
  refine V_getI 0 X dX1_mostNays_12 co0 (kt2_0 hZ (kt1_0 hZ hh)) (by decide) rfl wfX1_113 ?_
  refine V_icmp_ge (tgt := 50) X dX1_mostNays_15 (by decide) ?_ ?_
  · refine V_iload_n 1 X dX1_mostNays_50 rfl rfl ?_
    exact V_iret X E hr dX1_mostNays_51
  · refine V_aload_n 0 X dX1_mostNays_18 rfl rfl ?_
    refine V_getR (k1 := (h + 14)) 7 X dX1_mostNays_19 co1 hh (by decide) rfl rfl wfX1_18 ?_
    refine V_iload_n 2 X dX1_mostNays_22 rfl rfl ?_
    refine V_iald X dX1_mostNays_23 (kt1_7 hZ hh) ?_
    refine V_iload_n 1 X dX1_mostNays_24 rfl rfl ?_
    refine V_iconst (v := -1) X dX1_mostNays_25 (by decide) ?_
    refine V_icmp_ne (tgt := 33) X dX1_mostNays_26 (by decide) ?_ ?_
    · refine V_aload_n 0 X dX1_mostNays_33 rfl rfl ?_
      refine V_getR (k1 := (h + 14)) 7 X dX1_mostNays_34 co1 hh (by decide) rfl rfl wfX1_18 ?_
      refine V_iload_n 1 X dX1_mostNays_37 rfl rfl ?_
      refine V_iald X dX1_mostNays_38 (kt1_7 hZ hh) ?_
      refine V_sub [0, 1, 2] rfl ?_
      exact bX1_mostNays_39 X E hr hZ N h hh rc4 hc4 v1 v2 (σ.1 (h + 14) v1.toNatClampNeg) (σ.1 (h + 14) v2.toNatClampNeg) σ
    · refine V_iconst (v := 0) X dX1_mostNays_29 (by decide) ?_
      refine V_goto (tgt := 39) X dX1_mostNays_30 (by decide) ?_
      refine V_sub [0, 1, 2] rfl ?_
      exact bX1_mostNays_39 X E hr hZ N h hh rc4 hc4 v1 v2 0 (σ.1 (h + 14) v2.toNatClampNeg) σ
def fX1_mostNays_l4 (N : Nat) (h : Nat) : Nat → Int32 → Int32 → Mem → Option (Int32 × Mem)
  | 0 => fun _ _ _ => none
  | n + 1 => fX1_mostNays_b4 N h (fX1_mostNays_l4 N h n)
theorem lX1_mostNays_4 {x : Cx} {z : Sx} (X : XG x z RX1 cX1_mostNays 3 0 0) (E : XE x z) (hr : XR x (some .int)) (hZ : z.2.2.2.1 = kdC) (N : Nat) (h : Nat) (hh : z.2.2.2.1 h = (1, 0)) (n : Nat) (v1 : Int32) (v2 : Int32) (σ : Mem) : VK x z 3 (BQ QI x z) 4 [(0, .ref (z.2.2.1 h)), (1, .int v1), (2, .int v2)] [] σ (fX1_mostNays_l4 N h n v1 v2 σ) := by
  induction n generalizing v1 v2 σ with
  | zero => exact V_none
  | succ n ih => exact bX1_mostNays_4 X E hr hZ N h hh (fX1_mostNays_l4 N h n) ih v1 v2 σ
def fX1_mostNays (N : Nat) (h : Nat) (σ : Mem) : Option (Int32 × Mem) :=
  lt_ (-1) (fun v1_1 => lt_ 0 (fun v2_2 => fX1_mostNays_l4 N h N v1_1 v2_2 σ))
set_option maxRecDepth 100000 in
set_option maxHeartbeats 4000000 in
theorem bX1_mostNays_0 {x : Cx} {z : Sx} (X : XG x z RX1 cX1_mostNays 3 0 0) (E : XE x z) (hr : XR x (some .int)) (hZ : z.2.2.2.1 = kdC) (N : Nat) (h : Nat) (hh : z.2.2.2.1 h = (1, 0)) (σ : Mem) : VK x z 3 (BQ QI x z) 0 [(0, .ref (z.2.2.1 h))] [] σ (fX1_mostNays N h σ) := by
  unfold fX1_mostNays
  refine V_iconst (v := -1) X dX1_mostNays_0 (by decide) ?_
  refine V_istore_nG (L' := fun v1_1 => [(1, .int v1_1), (0, .ref (z.2.2.1 h))]) X dX1_mostNays_1 rfl (by decide) (fun _ => rfl) (fun v1_1 => ?_)
  refine V_iconst (v := 0) X dX1_mostNays_2 (by decide) ?_
  refine V_istore_nG (L' := fun v2_2 => [(2, .int v2_2), (1, .int v1_1), (0, .ref (z.2.2.1 h))]) X dX1_mostNays_3 rfl (by decide) (fun _ => rfl) (fun v2_2 => ?_)
  refine V_sub [2, 1, 0] rfl ?_
  exact lX1_mostNays_4 X E hr hZ N h hh N v1_1 v2_2 σ
theorem kX1_mostNays (l : Launch) (z : Sx) (hZ : z.2.2.2.1 = kdC) (N : Nat) (h : Nat) (hh : z.2.2.2.1 h = (1, 0)) (σ : Mem) : Ct QI yX1_mostNays cX1_mostNays 3 (some .int) 0 0 l z [.ref (z.2.2.1 h)] σ (fX1_mostNays N h σ) := by
  refine Ct_of (by decide +kernel) (Nat.le_of_ble_eq_true rfl) rfl ?_
  intro x _ X E hr
  exact bX1_mostNays_0 X E hr hZ N h hh σ
def fX11_after (N : Nat) (h : Nat) (v1 : Int32) (v2 : Int32) (v3 : Int32) (σ : Mem) : Option (Int32 × Mem) :=
  bd (fX9_chamberAt N (h + 1) v1 σ) (fun or1 s2 => mqK (0, 0) or1 (bd (fX9_sessionAt N (h + 1) v2 s2) (fun or4 s5 => mqK (8, 0) or4 (some ((-2), s5)) (fun r4 => some ((-2), s5)))) (fun r1 => bd (fX9_sessionAt N (h + 1) v2 s2) (fun or7 s8 => mqK (8, 0) or7 (some ((-2), s8)) (fun r7 => bd (fX1_follow N (h + 205) r1 r7 (s8.1 r7 0) s8) (fun r10 s11 => if v3 = 0 then some ((s11.1 (h + 205) 5), s11) else if v3 = 1 then bd (fX1_mostNays N (h + 205) s11) (fun r12 s13 => some (r12, s13)) else if v3 = 2 then some ((s11.1 (h + 205) 4), s11) else some ((-2), s11))))))
set_option maxRecDepth 100000 in
set_option maxHeartbeats 4000000 in
theorem bX11_after_0 {x : Cx} {z : Sx} (X : XG x z RX11 cX11_after 6 7 164) (E : XE x z) (hr : XR x (some .int)) (hZ : z.2.2.2.1 = kdC) (N : Nat) (h : Nat) (hh : z.2.2.2.1 h = (11, 0)) (v1 : Int32) (v2 : Int32) (v3 : Int32) (σ : Mem) : VK x z 6 (BQ QI x z) 0 [(0, .ref (z.2.2.1 h)), (1, .int v1), (2, .int v2), (3, .int v3)] [] σ (fX11_after N h v1 v2 v3 σ) := by
  unfold fX11_after
  refine V_aload_n 0 X dX11_after_0 rfl rfl ?_
  refine V_getR (k1 := (h + 1)) 0 X dX11_after_1 co11 hh (by decide) rfl rfl wfX11_10 ?_
  refine V_iload_n 1 X dX11_after_4 rfl rfl ?_
  refine V_callQC (K := (0, 0)) [.int v1] [] X E hZ dX11_after_5 (kX9_chamberAt x.2.1 z hZ N (h + 1) (kt11_0 hZ hh) v1 σ) co9 (kt11_0 hZ hh) gcX11_105 hyX9_chamberAt rfl ⟨by decide, by decide⟩ rfl (Nat.le_of_ble_eq_true rfl) (fun s2 => ?_) (fun r1 s2 hb3 => ?_)
  · refine V_astoreN (L' := [(4, .null), (0, .ref (z.2.2.1 h)), (1, .int v1), (2, .int v2), (3, .int v3)]) X dX11_after_8 (by decide) rfl ?_
    refine V_aload_n 1 X dX11_after_10 rfl rfl ?_
    refine V_getR (k1 := (h + 1)) 0 X dX11_after_11 co11 hh (by decide) rfl rfl wfX11_10 ?_
    refine V_iload_n 3 X dX11_after_14 rfl rfl ?_
    refine V_callQC (K := (8, 0)) [.int v2] [] X E hZ dX11_after_15 (kX9_sessionAt x.2.1 z hZ N (h + 1) (kt11_0 hZ hh) v2 s2) co9 (kt11_0 hZ hh) gcX11_142 hyX9_sessionAt rfl ⟨by decide, by decide⟩ rfl (Nat.le_of_ble_eq_true rfl) (fun s5 => ?_) (fun r4 s5 hb6 => ?_)
    · refine V_astoreN (L' := [(5, .null), (4, .null), (0, .ref (z.2.2.1 h)), (1, .int v1), (2, .int v2), (3, .int v3)]) X dX11_after_18 (by decide) rfl ?_
      refine V_aloadN 1 X dX11_after_20 rfl ?_
      refine V_ifnullN (tgt := 30) X dX11_after_22 (by decide) ?_
      refine V_bipush (v := -2) X dX11_after_30 (by decide) ?_
      exact V_iret X E hr dX11_after_32
    · refine V_astore (L' := [(5, .ref (z.2.2.1 r4)), (4, .null), (0, .ref (z.2.2.1 h)), (1, .int v1), (2, .int v2), (3, .int v3)]) X dX11_after_18 (by decide) rfl ?_
      refine V_aloadN 1 X dX11_after_20 rfl ?_
      refine V_ifnullN (tgt := 30) X dX11_after_22 (by decide) ?_
      refine V_bipush (v := -2) X dX11_after_30 (by decide) ?_
      exact V_iret X E hr dX11_after_32
  · refine V_astore (L' := [(4, .ref (z.2.2.1 r1)), (0, .ref (z.2.2.1 h)), (1, .int v1), (2, .int v2), (3, .int v3)]) X dX11_after_8 (by decide) rfl ?_
    refine V_aload_n 1 X dX11_after_10 rfl rfl ?_
    refine V_getR (k1 := (h + 1)) 0 X dX11_after_11 co11 hh (by decide) rfl rfl wfX11_10 ?_
    refine V_iload_n 3 X dX11_after_14 rfl rfl ?_
    refine V_callQC (K := (8, 0)) [.int v2] [] X E hZ dX11_after_15 (kX9_sessionAt x.2.1 z hZ N (h + 1) (kt11_0 hZ hh) v2 s2) co9 (kt11_0 hZ hh) gcX11_142 hyX9_sessionAt rfl ⟨by decide, by decide⟩ rfl (Nat.le_of_ble_eq_true rfl) (fun s8 => ?_) (fun r7 s8 hb9 => ?_)
    · refine V_astoreN (L' := [(5, .null), (4, .ref (z.2.2.1 r1)), (0, .ref (z.2.2.1 h)), (1, .int v1), (2, .int v2), (3, .int v3)]) X dX11_after_18 (by decide) rfl ?_
      refine V_aload 1 X dX11_after_20 rfl ?_
      refine V_ifnull X dX11_after_22 ?_
      refine V_aloadN 0 X dX11_after_25 rfl ?_
      refine V_ifnonnullN X dX11_after_27 ?_
      refine V_bipush (v := -2) X dX11_after_30 (by decide) ?_
      exact V_iret X E hr dX11_after_32
    · refine V_astore (L' := [(5, .ref (z.2.2.1 r7)), (4, .ref (z.2.2.1 r1)), (0, .ref (z.2.2.1 h)), (1, .int v1), (2, .int v2), (3, .int v3)]) X dX11_after_18 (by decide) rfl ?_
      refine V_aload 1 X dX11_after_20 rfl ?_
      refine V_ifnull X dX11_after_22 ?_
      refine V_aload 0 X dX11_after_25 rfl ?_
      refine V_ifnonnull (tgt := 33) X dX11_after_27 (by decide) ?_
      refine V_aload_n 2 X dX11_after_33 rfl rfl ?_
      refine V_getR (k1 := (h + 205)) 5 X dX11_after_34 co11 hh (by decide) rfl rfl wfX11_41 ?_
      refine V_aload 1 X dX11_after_37 rfl ?_
      refine V_aload 0 X dX11_after_39 rfl ?_
      refine V_aload 0 X dX11_after_41 rfl ?_
      refine V_getI 0 X dX11_after_43 co8 hb9 (by decide) rfl wfX11_150 ?_
      refine V_callI [.ref (z.2.2.1 r1), .ref (z.2.2.1 r7), .int (s8.1 r7 0)] [] X E dX11_after_46 (kX1_follow x.2.1 z hZ N (h + 205) (kt11_5 hZ hh) r1 r7 (s8.1 r7 0) hb3 hb9 s8) co1 (kt11_5 hZ hh) gcX11_153 hyX1_follow rfl ⟨by decide, by decide⟩ rfl (Nat.le_of_ble_eq_true rfl) (fun r10 s11 => ?_)
      refine V_pop X dX11_after_49 rfl ?_
      refine V_iload_n 5 X dX11_after_50 rfl rfl ?_
      refine V_if_ne (tgt := 62) X dX11_after_51 (by decide) ?_ ?_
      · refine V_iload_n 5 X dX11_after_62 rfl rfl ?_
        refine V_iconst (v := 1) X dX11_after_63 (by decide) ?_
        refine V_icmp_ne (tgt := 75) X dX11_after_64 (by decide) ?_ ?_
        · refine V_iload_n 5 X dX11_after_75 rfl rfl ?_
          refine V_iconst (v := 2) X dX11_after_76 (by decide) ?_
          refine V_icmp_ne (tgt := 90) X dX11_after_77 (by decide) ?_ ?_
          · refine V_bipush (v := -2) X dX11_after_90 (by decide) ?_
            exact V_iret X E hr dX11_after_92
          · refine V_aload_n 2 X dX11_after_80 rfl rfl ?_
            refine V_getR (k1 := (h + 205)) 5 X dX11_after_81 co11 hh (by decide) rfl rfl wfX11_41 ?_
            refine V_getI 4 X dX11_after_84 co1 (kt11_5 hZ hh) (by decide) rfl wfX11_320 ?_
            refine V_goto (tgt := 92) X dX11_after_87 (by decide) ?_
            exact V_iret X E hr dX11_after_92
        · refine V_aload_n 2 X dX11_after_67 rfl rfl ?_
          refine V_getR (k1 := (h + 205)) 5 X dX11_after_68 co11 hh (by decide) rfl rfl wfX11_41 ?_
          refine V_callI [] [] X E dX11_after_71 (kX1_mostNays x.2.1 z hZ N (h + 205) (kt11_5 hZ hh) s11) co1 (kt11_5 hZ hh) gcX11_317 hyX1_mostNays rfl ⟨by decide, by decide⟩ rfl (Nat.le_of_ble_eq_true rfl) (fun r12 s13 => ?_)
          exact V_iret X E hr dX11_after_74
      · refine V_aload_n 2 X dX11_after_54 rfl rfl ?_
        refine V_getR (k1 := (h + 205)) 5 X dX11_after_55 co11 hh (by decide) rfl rfl wfX11_41 ?_
        refine V_getI 5 X dX11_after_58 co1 (kt11_5 hZ hh) (by decide) rfl wfX11_314 ?_
        exact V_iret X E hr dX11_after_61
theorem kX11_after (l : Launch) (z : Sx) (hZ : z.2.2.2.1 = kdC) (N : Nat) (h : Nat) (hh : z.2.2.2.1 h = (11, 0)) (v1 : Int32) (v2 : Int32) (v3 : Int32) (σ : Mem) : Ct QI yX11_after cX11_after 6 (some .int) 7 164 l z [.ref (z.2.2.1 h), .int v1, .int v2, .int v3] σ (fX11_after N h v1 v2 v3 σ) := by
  refine Ct_of (by decide +kernel) (Nat.le_of_ble_eq_true rfl) rfl ?_
  intro x _ X E hr
  exact bX11_after_0 X E hr hZ N h hh v1 v2 v3 σ
def fX11_bears (N : Nat) (h : Nat) (v1 : Int32) (v2 : Int32) (v3 : Int32) (σ : Mem) : Option (Int32 × Mem) :=
  bd (fX9_logAt N (h + 1) v1 σ) (fun or1 s2 => mqK (4, 0) or1 (some ((-1), s2)) (fun r1 => if v2 < 0 then some ((-1), s2) else if 3 ≤ v2 then some ((-1), s2) else bd (fX4_fittingOf N r1 v2 s2) (fun r4 s5 => if r4 = 0 then some ((-1), s5) else if v3 = 0 then bd (fX4_leastLimit N r1 v2 s5) (fun r6 s7 => some (r6, s7)) else bd (fX4_mostLimit N r1 v2 s5) (fun r8 s9 => some (r8, s9)))))
set_option maxRecDepth 100000 in
set_option maxHeartbeats 4000000 in
theorem bX11_bears_0 {x : Cx} {z : Sx} (X : XG x z RX11 cX11_bears 5 3 70) (E : XE x z) (hr : XR x (some .int)) (hZ : z.2.2.2.1 = kdC) (N : Nat) (h : Nat) (hh : z.2.2.2.1 h = (11, 0)) (v1 : Int32) (v2 : Int32) (v3 : Int32) (σ : Mem) : VK x z 5 (BQ QI x z) 0 [(0, .ref (z.2.2.1 h)), (1, .int v1), (2, .int v2), (3, .int v3)] [] σ (fX11_bears N h v1 v2 v3 σ) := by
  unfold fX11_bears
  refine V_aload_n 0 X dX11_bears_0 rfl rfl ?_
  refine V_getR (k1 := (h + 1)) 0 X dX11_bears_1 co11 hh (by decide) rfl rfl wfX11_10 ?_
  refine V_iload_n 1 X dX11_bears_4 rfl rfl ?_
  refine V_callQC (K := (4, 0)) [.int v1] [] X E hZ dX11_bears_5 (kX9_logAt x.2.1 z hZ N (h + 1) (kt11_0 hZ hh) v1 σ) co9 (kt11_0 hZ hh) gcX11_223 hyX9_logAt rfl ⟨by decide, by decide⟩ rfl (Nat.le_of_ble_eq_true rfl) (fun s2 => ?_) (fun r1 s2 hb3 => ?_)
  · refine V_astoreN (L' := [(4, .null), (0, .ref (z.2.2.1 h)), (1, .int v1), (2, .int v2), (3, .int v3)]) X dX11_bears_8 (by decide) rfl ?_
    refine V_aloadN 0 X dX11_bears_10 rfl ?_
    refine V_ifnullN (tgt := 33) X dX11_bears_12 (by decide) ?_
    refine V_iconst (v := -1) X dX11_bears_33 (by decide) ?_
    exact V_iret X E hr dX11_bears_34
  · refine V_astore (L' := [(4, .ref (z.2.2.1 r1)), (0, .ref (z.2.2.1 h)), (1, .int v1), (2, .int v2), (3, .int v3)]) X dX11_bears_8 (by decide) rfl ?_
    refine V_aload 0 X dX11_bears_10 rfl ?_
    refine V_ifnull X dX11_bears_12 ?_
    refine V_iload_n 3 X dX11_bears_15 rfl rfl ?_
    refine V_if_lt (tgt := 33) X dX11_bears_16 (by decide) ?_ ?_
    · refine V_iconst (v := -1) X dX11_bears_33 (by decide) ?_
      exact V_iret X E hr dX11_bears_34
    · refine V_iload_n 3 X dX11_bears_19 rfl rfl ?_
      refine V_iconst (v := 3) X dX11_bears_20 (by decide) ?_
      refine V_icmp_ge (tgt := 33) X dX11_bears_21 (by decide) ?_ ?_
      · refine V_iconst (v := -1) X dX11_bears_33 (by decide) ?_
        exact V_iret X E hr dX11_bears_34
      · refine V_aload 0 X dX11_bears_24 rfl ?_
        refine V_iload_n 3 X dX11_bears_26 rfl rfl ?_
        refine V_callI [.int v2] [] X E dX11_bears_27 (kX4_fittingOf x.2.1 z hZ N r1 hb3 v2 s2) co4 hb3 gcX11_323 hyX4_fittingOf rfl ⟨by decide, by decide⟩ rfl (Nat.le_of_ble_eq_true rfl) (fun r4 s5 => ?_)
        refine V_if_ne (tgt := 35) X dX11_bears_30 (by decide) ?_ ?_
        · refine V_iload_n 4 X dX11_bears_35 rfl rfl ?_
          refine V_if_eq (tgt := 48) X dX11_bears_36 (by decide) ?_ ?_
          · refine V_aload 0 X dX11_bears_48 rfl ?_
            refine V_iload_n 3 X dX11_bears_50 rfl rfl ?_
            refine V_callI [.int v2] [] X E dX11_bears_51 (kX4_leastLimit x.2.1 z hZ N r1 hb3 v2 s5) co4 hb3 gcX11_329 hyX4_leastLimit rfl ⟨by decide, by decide⟩ rfl (Nat.le_of_ble_eq_true rfl) (fun r6 s7 => ?_)
            exact V_iret X E hr dX11_bears_54
          · refine V_aload 0 X dX11_bears_39 rfl ?_
            refine V_iload_n 3 X dX11_bears_41 rfl rfl ?_
            refine V_callI [.int v2] [] X E dX11_bears_42 (kX4_mostLimit x.2.1 z hZ N r1 hb3 v2 s5) co4 hb3 gcX11_326 hyX4_mostLimit rfl ⟨by decide, by decide⟩ rfl (Nat.le_of_ble_eq_true rfl) (fun r8 s9 => ?_)
            refine V_goto (tgt := 54) X dX11_bears_45 (by decide) ?_
            exact V_iret X E hr dX11_bears_54
        · refine V_iconst (v := -1) X dX11_bears_33 (by decide) ?_
          exact V_iret X E hr dX11_bears_34
theorem kX11_bears (l : Launch) (z : Sx) (hZ : z.2.2.2.1 = kdC) (N : Nat) (h : Nat) (hh : z.2.2.2.1 h = (11, 0)) (v1 : Int32) (v2 : Int32) (v3 : Int32) (σ : Mem) : Ct QI yX11_bears cX11_bears 5 (some .int) 3 70 l z [.ref (z.2.2.1 h), .int v1, .int v2, .int v3] σ (fX11_bears N h v1 v2 v3 σ) := by
  refine Ct_of (by decide +kernel) (Nat.le_of_ble_eq_true rfl) rfl ?_
  intro x _ X E hr
  exact bX11_bears_0 X E hr hZ N h hh v1 v2 v3 σ
def fX10_agreements_b85 (N : Nat) (h : Nat) (rc32 : Int32 → Int32 → Int32 → Int32 → Mem → Option (Int32 × Mem)) (v2 : Int32) (v3 : Int32) (v4 : Int32) (v5 : Int32) (σ : Mem) : Option (Int32 × Mem) :=
  lt_ (v5 + 1) (fun v5_12 => rc32 v2 v3 v4 v5_12 σ)
set_option maxRecDepth 100000 in
set_option maxHeartbeats 4000000 in
theorem bX10_agreements_85 {x : Cx} {z : Sx} (X : XG x z RX10 cX10_agreements 6 4 95) (E : XE x z) (hr : XR x (some .int)) (hZ : z.2.2.2.1 = kdC) (N : Nat) (h : Nat) (hh : z.2.2.2.1 h = (10, 0)) (rc32 : Int32 → Int32 → Int32 → Int32 → Mem → Option (Int32 × Mem)) (hc32 : ∀ (v2 : Int32) (v3 : Int32) (v4 : Int32) (v5 : Int32) (σ : Mem), VK x z 6 (BQ QI x z) 32 [(0, .ref (z.2.2.1 h)), (2, .int v2), (3, .int v3), (4, .int v4), (5, .int v5)] [] σ (rc32 v2 v3 v4 v5 σ)) (v2 : Int32) (v3 : Int32) (v4 : Int32) (v5 : Int32) (σ : Mem) : VK x z 6 (BQ QI x z) 85 [(0, .ref (z.2.2.1 h)), (2, .int v2), (3, .int v3), (4, .int v4), (5, .int v5)] [] σ (fX10_agreements_b85 N h rc32 v2 v3 v4 v5 σ) := by
  unfold fX10_agreements_b85
  refine V_iincG (L' := fun v5_12 => [(5, .int v5_12), (0, .ref (z.2.2.1 h)), (2, .int v2), (3, .int v3), (4, .int v4)]) 4 X dX10_agreements_85 rfl rfl (by decide) (fun _ => rfl) (fun v5_12 => ?_)
  refine V_goto (tgt := 32) X dX10_agreements_88 (by decide) ?_
  refine V_sub [1, 2, 3, 4, 0] rfl ?_
  exact hc32 v2 v3 v4 v5_12 σ
def fX10_agreements_b32 (N : Nat) (h : Nat) (rc32 : Int32 → Int32 → Int32 → Int32 → Mem → Option (Int32 × Mem)) (v2 : Int32) (v3 : Int32) (v4 : Int32) (v5 : Int32) (σ : Mem) : Option (Int32 × Mem) :=
  if 64 ≤ v5 then some (v4, σ) else bd (fX2_vote N (h + 1) v5 σ) (fun r9 s10 => gd (inb v2 8) (if (s10.1 ((h + 1) + 12) v2.toNatClampNeg) = 0 then fX10_agreements_b85 N h rc32 v2 v3 v4 v5 s10 else gd (inb v2 8) (gd (inb v3 8) (if (s10.1 ((h + 1) + 12) v2.toNatClampNeg) = (s10.1 ((h + 1) + 12) v3.toNatClampNeg) then lt_ (v4 + 1) (fun v4_11 => fX10_agreements_b85 N h rc32 v2 v3 v4_11 v5 s10) else fX10_agreements_b85 N h rc32 v2 v3 v4 v5 s10))))
set_option maxRecDepth 100000 in
set_option maxHeartbeats 4000000 in
theorem bX10_agreements_32 {x : Cx} {z : Sx} (X : XG x z RX10 cX10_agreements 6 4 95) (E : XE x z) (hr : XR x (some .int)) (hZ : z.2.2.2.1 = kdC) (N : Nat) (h : Nat) (hh : z.2.2.2.1 h = (10, 0)) (rc32 : Int32 → Int32 → Int32 → Int32 → Mem → Option (Int32 × Mem)) (hc32 : ∀ (v2 : Int32) (v3 : Int32) (v4 : Int32) (v5 : Int32) (σ : Mem), VK x z 6 (BQ QI x z) 32 [(0, .ref (z.2.2.1 h)), (2, .int v2), (3, .int v3), (4, .int v4), (5, .int v5)] [] σ (rc32 v2 v3 v4 v5 σ)) (v2 : Int32) (v3 : Int32) (v4 : Int32) (v5 : Int32) (σ : Mem) : VK x z 6 (BQ QI x z) 32 [(0, .ref (z.2.2.1 h)), (2, .int v2), (3, .int v3), (4, .int v4), (5, .int v5)] [] σ (fX10_agreements_b32 N h rc32 v2 v3 v4 v5 σ) := by
  unfold fX10_agreements_b32
  refine V_iload 4 X dX10_agreements_32 rfl ?_
  refine V_bipush (v := 64) X dX10_agreements_34 (by decide) ?_
  refine V_icmp_ge (tgt := 91) X dX10_agreements_36 (by decide) ?_ ?_
  · refine V_iload 3 X dX10_agreements_91 rfl ?_
    exact V_iret X E hr dX10_agreements_93
  · refine V_aload_n 0 X dX10_agreements_39 rfl rfl ?_
    refine V_getR (k1 := (h + 1)) 0 X dX10_agreements_40 co10 hh (by decide) rfl rfl wfX10_12 ?_
    refine V_iload 4 X dX10_agreements_43 rfl ?_
    refine V_callI [.int v5] [] X E dX10_agreements_45 (kX2_vote x.2.1 z hZ N (h + 1) (kt10_0 hZ hh) v5 σ) co2 (kt10_0 hZ hh) gcX10_29 hyX2_vote rfl ⟨by decide, by decide⟩ rfl (Nat.le_of_ble_eq_true rfl) (fun r9 s10 => ?_)
    refine V_pop X dX10_agreements_48 rfl ?_
    refine V_aload_n 0 X dX10_agreements_49 rfl rfl ?_
    refine V_getR (k1 := (h + 1)) 0 X dX10_agreements_50 co10 hh (by decide) rfl rfl wfX10_12 ?_
    refine V_getR (k1 := ((h + 1) + 12)) 3 X dX10_agreements_53 co2 (kt10_0 hZ hh) (by decide) rfl rfl wfX10_46 ?_
    refine V_iload_n 1 X dX10_agreements_56 rfl rfl ?_
    refine V_iald X dX10_agreements_57 (kt2_3 hZ (kt10_0 hZ hh)) ?_
    refine V_if_eq (tgt := 85) X dX10_agreements_58 (by decide) ?_ ?_
    · refine V_sub [0, 1, 2, 3, 4] rfl ?_
      exact bX10_agreements_85 X E hr hZ N h hh rc32 hc32 v2 v3 v4 v5 s10
    · refine V_aload_n 0 X dX10_agreements_61 rfl rfl ?_
      refine V_getR (k1 := (h + 1)) 0 X dX10_agreements_62 co10 hh (by decide) rfl rfl wfX10_12 ?_
      refine V_getR (k1 := ((h + 1) + 12)) 3 X dX10_agreements_65 co2 (kt10_0 hZ hh) (by decide) rfl rfl wfX10_46 ?_
      refine V_iload_n 1 X dX10_agreements_68 rfl rfl ?_
      refine V_iald X dX10_agreements_69 (kt2_3 hZ (kt10_0 hZ hh)) ?_
      refine V_aload_n 0 X dX10_agreements_70 rfl rfl ?_
      refine V_getR (k1 := (h + 1)) 0 X dX10_agreements_71 co10 hh (by decide) rfl rfl wfX10_12 ?_
      refine V_getR (k1 := ((h + 1) + 12)) 3 X dX10_agreements_74 co2 (kt10_0 hZ hh) (by decide) rfl rfl wfX10_46 ?_
      refine V_iload_n 2 X dX10_agreements_77 rfl rfl ?_
      refine V_iald X dX10_agreements_78 (kt2_3 hZ (kt10_0 hZ hh)) ?_
      refine V_icmp_ne (tgt := 85) X dX10_agreements_79 (by decide) ?_ ?_
      · refine V_sub [0, 1, 2, 3, 4] rfl ?_
        exact bX10_agreements_85 X E hr hZ N h hh rc32 hc32 v2 v3 v4 v5 s10
      · refine V_iincG (L' := fun v4_11 => [(4, .int v4_11), (0, .ref (z.2.2.1 h)), (2, .int v2), (3, .int v3), (5, .int v5)]) 3 X dX10_agreements_82 rfl rfl (by decide) (fun _ => rfl) (fun v4_11 => ?_)
        refine V_sub [1, 2, 3, 0, 4] rfl ?_
        exact bX10_agreements_85 X E hr hZ N h hh rc32 hc32 v2 v3 v4_11 v5 s10
def fX10_agreements_l32 (N : Nat) (h : Nat) : Nat → Int32 → Int32 → Int32 → Int32 → Mem → Option (Int32 × Mem)
  | 0 => fun _ _ _ _ _ => none
  | n + 1 => fX10_agreements_b32 N h (fX10_agreements_l32 N h n)
theorem lX10_agreements_32 {x : Cx} {z : Sx} (X : XG x z RX10 cX10_agreements 6 4 95) (E : XE x z) (hr : XR x (some .int)) (hZ : z.2.2.2.1 = kdC) (N : Nat) (h : Nat) (hh : z.2.2.2.1 h = (10, 0)) (n : Nat) (v2 : Int32) (v3 : Int32) (v4 : Int32) (v5 : Int32) (σ : Mem) : VK x z 6 (BQ QI x z) 32 [(0, .ref (z.2.2.1 h)), (2, .int v2), (3, .int v3), (4, .int v4), (5, .int v5)] [] σ (fX10_agreements_l32 N h n v2 v3 v4 v5 σ) := by
  induction n generalizing v2 v3 v4 v5 σ with
  | zero => exact V_none
  | succ n ih => exact bX10_agreements_32 X E hr hZ N h hh (fX10_agreements_l32 N h n) ih v2 v3 v4 v5 σ
def fX10_agreements (N : Nat) (h : Nat) (v1 : Nat) (v2 : Int32) (v3 : Int32) (σ : Mem) : Option (Int32 × Mem) :=
  bd (fX0_hasPiece N v1 v2 σ) (fun r1 s2 => if r1 = 0 then some ((-1), s2) else bd (fX0_hasPiece N v1 v3 s2) (fun r3 s4 => if r3 = 0 then some ((-1), s4) else bd (fX2_enter N (h + 1) v1 s4) (fun r5 s6 => lt_ 0 (fun v4_7 => lt_ 0 (fun v5_8 => fX10_agreements_l32 N h N v2 v3 v4_7 v5_8 s6)))))
set_option maxRecDepth 100000 in
set_option maxHeartbeats 4000000 in
theorem bX10_agreements_0 {x : Cx} {z : Sx} (X : XG x z RX10 cX10_agreements 6 4 95) (E : XE x z) (hr : XR x (some .int)) (hZ : z.2.2.2.1 = kdC) (N : Nat) (h : Nat) (hh : z.2.2.2.1 h = (10, 0)) (v1 : Nat) (v2 : Int32) (v3 : Int32) (hk1 : z.2.2.2.1 v1 = (0, 0)) (σ : Mem) : VK x z 6 (BQ QI x z) 0 [(0, .ref (z.2.2.1 h)), (1, .ref (z.2.2.1 v1)), (2, .int v2), (3, .int v3)] [] σ (fX10_agreements N h v1 v2 v3 σ) := by
  unfold fX10_agreements
  refine V_aload_n 1 X dX10_agreements_0 rfl rfl ?_
  refine V_iload_n 2 X dX10_agreements_1 rfl rfl ?_
  refine V_callI [.int v2] [] X E dX10_agreements_2 (kX0_hasPiece x.2.1 z hZ N v1 hk1 v2 σ) co0 hk1 gcX10_40 hyX0_hasPiece rfl ⟨by decide, by decide⟩ rfl (Nat.le_of_ble_eq_true rfl) (fun r1 s2 => ?_)
  refine V_if_eq (tgt := 16) X dX10_agreements_5 (by decide) ?_ ?_
  · refine V_iconst (v := -1) X dX10_agreements_16 (by decide) ?_
    exact V_iret X E hr dX10_agreements_17
  · refine V_aload_n 1 X dX10_agreements_8 rfl rfl ?_
    refine V_iload_n 3 X dX10_agreements_9 rfl rfl ?_
    refine V_callI [.int v3] [] X E dX10_agreements_10 (kX0_hasPiece x.2.1 z hZ N v1 hk1 v3 s2) co0 hk1 gcX10_40 hyX0_hasPiece rfl ⟨by decide, by decide⟩ rfl (Nat.le_of_ble_eq_true rfl) (fun r3 s4 => ?_)
    refine V_if_ne (tgt := 18) X dX10_agreements_13 (by decide) ?_ ?_
    · refine V_aload_n 0 X dX10_agreements_18 rfl rfl ?_
      refine V_getR (k1 := (h + 1)) 0 X dX10_agreements_19 co10 hh (by decide) rfl rfl wfX10_12 ?_
      refine V_aload_n 1 X dX10_agreements_22 rfl rfl ?_
      refine V_callV [.ref (z.2.2.1 v1)] [] X E dX10_agreements_23 (kX2_enter x.2.1 z hZ N (h + 1) (kt10_0 hZ hh) v1 hk1 s4) co2 (kt10_0 hZ hh) gcX10_25 hyX2_enter rfl ⟨by decide, by decide⟩ rfl (Nat.le_of_ble_eq_true rfl) (fun r5 s6 => ?_)
      refine V_iconst (v := 0) X dX10_agreements_26 (by decide) ?_
      refine V_istoreG (L' := fun v4_7 => [(4, .int v4_7), (0, .ref (z.2.2.1 h)), (1, .ref (z.2.2.1 v1)), (2, .int v2), (3, .int v3)]) X dX10_agreements_27 (by decide) (fun _ => rfl) (fun v4_7 => ?_)
      refine V_iconst (v := 0) X dX10_agreements_29 (by decide) ?_
      refine V_istoreG (L' := fun v5_8 => [(5, .int v5_8), (4, .int v4_7), (0, .ref (z.2.2.1 h)), (1, .ref (z.2.2.1 v1)), (2, .int v2), (3, .int v3)]) X dX10_agreements_30 (by decide) (fun _ => rfl) (fun v5_8 => ?_)
      refine V_sub [2, 4, 5, 1, 0] rfl ?_
      exact lX10_agreements_32 X E hr hZ N h hh N v2 v3 v4_7 v5_8 s6
    · refine V_iconst (v := -1) X dX10_agreements_16 (by decide) ?_
      exact V_iret X E hr dX10_agreements_17
theorem kX10_agreements (l : Launch) (z : Sx) (hZ : z.2.2.2.1 = kdC) (N : Nat) (h : Nat) (hh : z.2.2.2.1 h = (10, 0)) (v1 : Nat) (v2 : Int32) (v3 : Int32) (hk1 : z.2.2.2.1 v1 = (0, 0)) (σ : Mem) : Ct QI yX10_agreements cX10_agreements 6 (some .int) 4 95 l z [.ref (z.2.2.1 h), .ref (z.2.2.1 v1), .int v2, .int v3] σ (fX10_agreements N h v1 v2 v3 σ) := by
  refine Ct_of (by decide +kernel) (Nat.le_of_ble_eq_true rfl) rfl ?_
  intro x _ X E hr
  exact bX10_agreements_0 X E hr hZ N h hh v1 v2 v3 hk1 σ
def fX11_kin (N : Nat) (h : Nat) (v1 : Int32) (v2 : Int32) (v3 : Int32) (σ : Mem) : Option (Int32 × Mem) :=
  bd (fX9_chamberAt N (h + 1) v1 σ) (fun or1 s2 => mqK (0, 0) or1 (some ((-1), s2)) (fun r1 => bd (fX10_agreements N (h + 220) r1 v2 v3 s2) (fun r4 s5 => some (r4, s5))))
set_option maxRecDepth 100000 in
set_option maxHeartbeats 4000000 in
theorem bX11_kin_0 {x : Cx} {z : Sx} (X : XG x z RX11 cX11_kin 5 5 120) (E : XE x z) (hr : XR x (some .int)) (hZ : z.2.2.2.1 = kdC) (N : Nat) (h : Nat) (hh : z.2.2.2.1 h = (11, 0)) (v1 : Int32) (v2 : Int32) (v3 : Int32) (σ : Mem) : VK x z 5 (BQ QI x z) 0 [(0, .ref (z.2.2.1 h)), (1, .int v1), (2, .int v2), (3, .int v3)] [] σ (fX11_kin N h v1 v2 v3 σ) := by
  unfold fX11_kin
  refine V_aload_n 0 X dX11_kin_0 rfl rfl ?_
  refine V_getR (k1 := (h + 1)) 0 X dX11_kin_1 co11 hh (by decide) rfl rfl wfX11_10 ?_
  refine V_iload_n 1 X dX11_kin_4 rfl rfl ?_
  refine V_callQC (K := (0, 0)) [.int v1] [] X E hZ dX11_kin_5 (kX9_chamberAt x.2.1 z hZ N (h + 1) (kt11_0 hZ hh) v1 σ) co9 (kt11_0 hZ hh) gcX11_105 hyX9_chamberAt rfl ⟨by decide, by decide⟩ rfl (Nat.le_of_ble_eq_true rfl) (fun s2 => ?_) (fun r1 s2 hb3 => ?_)
  · refine V_astoreN (L' := [(4, .null), (0, .ref (z.2.2.1 h)), (1, .int v1), (2, .int v2), (3, .int v3)]) X dX11_kin_8 (by decide) rfl ?_
    refine V_aloadN 0 X dX11_kin_10 rfl ?_
    refine V_ifnonnullN X dX11_kin_12 ?_
    refine V_iconst (v := -1) X dX11_kin_15 (by decide) ?_
    refine V_goto (tgt := 30) X dX11_kin_16 (by decide) ?_
    exact V_iret X E hr dX11_kin_30
  · refine V_astore (L' := [(4, .ref (z.2.2.1 r1)), (0, .ref (z.2.2.1 h)), (1, .int v1), (2, .int v2), (3, .int v3)]) X dX11_kin_8 (by decide) rfl ?_
    refine V_aload 0 X dX11_kin_10 rfl ?_
    refine V_ifnonnull (tgt := 19) X dX11_kin_12 (by decide) ?_
    refine V_aload_n 1 X dX11_kin_19 rfl rfl ?_
    refine V_getR (k1 := (h + 220)) 6 X dX11_kin_20 co11 hh (by decide) rfl rfl wfX11_48 ?_
    refine V_aload 0 X dX11_kin_23 rfl ?_
    refine V_iload_n 3 X dX11_kin_25 rfl rfl ?_
    refine V_iload_n 4 X dX11_kin_26 rfl rfl ?_
    refine V_callI [.ref (z.2.2.1 r1), .int v2, .int v3] [] X E dX11_kin_27 (kX10_agreements x.2.1 z hZ N (h + 220) (kt11_6 hZ hh) r1 v2 v3 hb3 s2) co10 (kt11_6 hZ hh) gcX11_332 hyX10_agreements rfl ⟨by decide, by decide⟩ rfl (Nat.le_of_ble_eq_true rfl) (fun r4 s5 => ?_)
    exact V_iret X E hr dX11_kin_30
theorem kX11_kin (l : Launch) (z : Sx) (hZ : z.2.2.2.1 = kdC) (N : Nat) (h : Nat) (hh : z.2.2.2.1 h = (11, 0)) (v1 : Int32) (v2 : Int32) (v3 : Int32) (σ : Mem) : Ct QI yX11_kin cX11_kin 5 (some .int) 5 120 l z [.ref (z.2.2.1 h), .int v1, .int v2, .int v3] σ (fX11_kin N h v1 v2 v3 σ) := by
  refine Ct_of (by decide +kernel) (Nat.le_of_ble_eq_true rfl) rfl ?_
  intro x _ X E hr
  exact bX11_kin_0 X E hr hZ N h hh v1 v2 v3 σ
def fX7_firstTrade_b100 (N : Nat) (h : Nat) (rc28 : Nat → Int32 → Int32 → Int32 → Mem → Option (Int32 × Mem)) (rc43 : Nat → Int32 → Int32 → Int32 → Int32 → Mem → Option (Int32 × Mem)) (v1 : Nat) (v2 : Int32) (v3 : Int32) (v4 : Int32) (v5 : Int32) (t0 : Int32) (σ : Mem) : Option (Int32 × Mem) :=
  if t0 = v3 then gd (inb v4 6) (bd (fX2_seatPerson N (h + 2) v4 (σ.1 (v1 + 8) v4.toNatClampNeg) σ) (fun r15 s16 => gd (inb v5 6) (bd (fX2_seatPerson N (h + 2) v5 (s16.1 (v1 + 8) v5.toNatClampNeg) s16) (fun r17 s18 => lt_ (v5 + 1) (fun v5_19 => rc43 v1 v2 v3 v4 v5_19 s18))))) else some (((10 * v4) + v5), σ)
set_option maxRecDepth 100000 in
set_option maxHeartbeats 4000000 in
theorem bX7_firstTrade_100 {x : Cx} {z : Sx} (X : XG x z RX7 cX7_firstTrade 6 4 95) (E : XE x z) (hr : XR x (some .int)) (hZ : z.2.2.2.1 = kdC) (N : Nat) (h : Nat) (hh : z.2.2.2.1 h = (7, 0)) (rc28 : Nat → Int32 → Int32 → Int32 → Mem → Option (Int32 × Mem)) (hc28 : ∀ (v1 : Nat) (v2 : Int32) (v3 : Int32) (v4 : Int32) (hk1 : z.2.2.2.1 v1 = (0, 0)) (σ : Mem), VK x z 6 (BQ QI x z) 28 [(0, .ref (z.2.2.1 h)), (1, .ref (z.2.2.1 v1)), (2, .int v2), (3, .int v3), (4, .int v4)] [] σ (rc28 v1 v2 v3 v4 σ)) (rc43 : Nat → Int32 → Int32 → Int32 → Int32 → Mem → Option (Int32 × Mem)) (hc43 : ∀ (v1 : Nat) (v2 : Int32) (v3 : Int32) (v4 : Int32) (v5 : Int32) (hk1 : z.2.2.2.1 v1 = (0, 0)) (σ : Mem), VK x z 6 (BQ QI x z) 43 [(0, .ref (z.2.2.1 h)), (1, .ref (z.2.2.1 v1)), (2, .int v2), (3, .int v3), (4, .int v4), (5, .int v5)] [] σ (rc43 v1 v2 v3 v4 v5 σ)) (v1 : Nat) (v2 : Int32) (v3 : Int32) (v4 : Int32) (v5 : Int32) (t0 : Int32) (hk1 : z.2.2.2.1 v1 = (0, 0)) (σ : Mem) : VK x z 6 (BQ QI x z) 100 [(0, .ref (z.2.2.1 h)), (1, .ref (z.2.2.1 v1)), (2, .int v2), (3, .int v3), (4, .int v4), (5, .int v5)] [.int t0] σ (fX7_firstTrade_b100 N h rc28 rc43 v1 v2 v3 v4 v5 t0 σ) := by
  unfold fX7_firstTrade_b100
  refine V_iload_n 3 X dX7_firstTrade_100 rfl rfl ?_
  refine V_icmp_eq (tgt := 113) X dX7_firstTrade_101 (by decide) ?_ ?_
  · refine V_aload_n 0 X dX7_firstTrade_113 rfl rfl ?_
    refine V_getR (k1 := (h + 2)) 1 X dX7_firstTrade_114 co7 hh (by decide) rfl rfl wfX7_18 ?_
    refine V_iload 4 X dX7_firstTrade_117 rfl ?_
    refine V_aload_n 1 X dX7_firstTrade_119 rfl rfl ?_
    refine V_getR (k1 := (v1 + 8)) 10 X dX7_firstTrade_120 co0 hk1 (by decide) rfl rfl wfX7_53 ?_
    refine V_iload 4 X dX7_firstTrade_123 rfl ?_
    refine V_iald X dX7_firstTrade_125 (kt0_10 hZ hk1) ?_
    refine V_callV [.int v4, .int (σ.1 (v1 + 8) v4.toNatClampNeg)] [] X E dX7_firstTrade_126 (kX2_seatPerson x.2.1 z hZ N (h + 2) (kt7_1 hZ hh) v4 (σ.1 (v1 + 8) v4.toNatClampNeg) σ) co2 (kt7_1 hZ hh) gcX7_62 hyX2_seatPerson rfl ⟨by decide, by decide⟩ rfl (Nat.le_of_ble_eq_true rfl) (fun r15 s16 => ?_)
    refine V_aload_n 0 X dX7_firstTrade_129 rfl rfl ?_
    refine V_getR (k1 := (h + 2)) 1 X dX7_firstTrade_130 co7 hh (by decide) rfl rfl wfX7_18 ?_
    refine V_iload 5 X dX7_firstTrade_133 rfl ?_
    refine V_aload_n 1 X dX7_firstTrade_135 rfl rfl ?_
    refine V_getR (k1 := (v1 + 8)) 10 X dX7_firstTrade_136 co0 hk1 (by decide) rfl rfl wfX7_53 ?_
    refine V_iload 5 X dX7_firstTrade_139 rfl ?_
    refine V_iald X dX7_firstTrade_141 (kt0_10 hZ hk1) ?_
    refine V_callV [.int v5, .int (s16.1 (v1 + 8) v5.toNatClampNeg)] [] X E dX7_firstTrade_142 (kX2_seatPerson x.2.1 z hZ N (h + 2) (kt7_1 hZ hh) v5 (s16.1 (v1 + 8) v5.toNatClampNeg) s16) co2 (kt7_1 hZ hh) gcX7_62 hyX2_seatPerson rfl ⟨by decide, by decide⟩ rfl (Nat.le_of_ble_eq_true rfl) (fun r17 s18 => ?_)
    refine V_iincG (L' := fun v5_19 => [(5, .int v5_19), (0, .ref (z.2.2.1 h)), (1, .ref (z.2.2.1 v1)), (2, .int v2), (3, .int v3), (4, .int v4)]) 5 X dX7_firstTrade_145 rfl rfl (by decide) (fun _ => rfl) (fun v5_19 => ?_)
    refine V_goto (tgt := 43) X dX7_firstTrade_148 (by decide) ?_
    refine V_sub [1, 2, 3, 4, 5, 0] rfl ?_
    exact hc43 v1 v2 v3 v4 v5_19 hk1 s18
  · refine V_bipush (v := 10) X dX7_firstTrade_104 (by decide) ?_
    refine V_iload 4 X dX7_firstTrade_106 rfl ?_
    refine V_imul X dX7_firstTrade_108 ?_
    refine V_iload 5 X dX7_firstTrade_109 rfl ?_
    refine V_iadd X dX7_firstTrade_111 ?_
    exact V_iret X E hr dX7_firstTrade_112
def fX7_firstTrade_b43 (N : Nat) (h : Nat) (rc28 : Nat → Int32 → Int32 → Int32 → Mem → Option (Int32 × Mem)) (rc43 : Nat → Int32 → Int32 → Int32 → Int32 → Mem → Option (Int32 × Mem)) (v1 : Nat) (v2 : Int32) (v3 : Int32) (v4 : Int32) (v5 : Int32) (σ : Mem) : Option (Int32 × Mem) :=
  if (σ.1 v1 1) ≤ v5 then lt_ (v4 + 1) (fun v4_8 => rc28 v1 v2 v3 v4_8 σ) else gd (inb v5 6) (bd (fX2_seatPerson N (h + 2) v4 (σ.1 (v1 + 8) v5.toNatClampNeg) σ) (fun r9 s10 => gd (inb v4 6) (bd (fX2_seatPerson N (h + 2) v5 (s10.1 (v1 + 8) v4.toNatClampNeg) s10) (fun r11 s12 => bd (fX2_vote N (h + 2) v2 s12) (fun r13 s14 => if r13 ≤ 0 then fX7_firstTrade_b100 N h rc28 rc43 v1 v2 v3 v4 v5 0 s14 else fX7_firstTrade_b100 N h rc28 rc43 v1 v2 v3 v4 v5 1 s14)))))
set_option maxRecDepth 100000 in
set_option maxHeartbeats 4000000 in
theorem bX7_firstTrade_43 {x : Cx} {z : Sx} (X : XG x z RX7 cX7_firstTrade 6 4 95) (E : XE x z) (hr : XR x (some .int)) (hZ : z.2.2.2.1 = kdC) (N : Nat) (h : Nat) (hh : z.2.2.2.1 h = (7, 0)) (rc28 : Nat → Int32 → Int32 → Int32 → Mem → Option (Int32 × Mem)) (hc28 : ∀ (v1 : Nat) (v2 : Int32) (v3 : Int32) (v4 : Int32) (hk1 : z.2.2.2.1 v1 = (0, 0)) (σ : Mem), VK x z 6 (BQ QI x z) 28 [(0, .ref (z.2.2.1 h)), (1, .ref (z.2.2.1 v1)), (2, .int v2), (3, .int v3), (4, .int v4)] [] σ (rc28 v1 v2 v3 v4 σ)) (rc43 : Nat → Int32 → Int32 → Int32 → Int32 → Mem → Option (Int32 × Mem)) (hc43 : ∀ (v1 : Nat) (v2 : Int32) (v3 : Int32) (v4 : Int32) (v5 : Int32) (hk1 : z.2.2.2.1 v1 = (0, 0)) (σ : Mem), VK x z 6 (BQ QI x z) 43 [(0, .ref (z.2.2.1 h)), (1, .ref (z.2.2.1 v1)), (2, .int v2), (3, .int v3), (4, .int v4), (5, .int v5)] [] σ (rc43 v1 v2 v3 v4 v5 σ)) (v1 : Nat) (v2 : Int32) (v3 : Int32) (v4 : Int32) (v5 : Int32) (hk1 : z.2.2.2.1 v1 = (0, 0)) (σ : Mem) : VK x z 6 (BQ QI x z) 43 [(0, .ref (z.2.2.1 h)), (1, .ref (z.2.2.1 v1)), (2, .int v2), (3, .int v3), (4, .int v4), (5, .int v5)] [] σ (fX7_firstTrade_b43 N h rc28 rc43 v1 v2 v3 v4 v5 σ) := by
  unfold fX7_firstTrade_b43
  refine V_iload 5 X dX7_firstTrade_43 rfl ?_
  refine V_aload_n 1 X dX7_firstTrade_45 rfl rfl ?_
  refine V_getI 1 X dX7_firstTrade_46 co0 hk1 (by decide) rfl wfX7_37 ?_
  refine V_icmp_ge (tgt := 151) X dX7_firstTrade_49 (by decide) ?_ ?_
  · refine V_iincG (L' := fun v4_8 => [(4, .int v4_8), (0, .ref (z.2.2.1 h)), (1, .ref (z.2.2.1 v1)), (2, .int v2), (3, .int v3), (5, .int v5)]) 4 X dX7_firstTrade_151 rfl rfl (by decide) (fun _ => rfl) (fun v4_8 => ?_)
    refine V_goto (tgt := 28) X dX7_firstTrade_154 (by decide) ?_
    refine V_sub [1, 2, 3, 4, 0] rfl ?_
    exact hc28 v1 v2 v3 v4_8 hk1 σ
  · refine V_aload_n 0 X dX7_firstTrade_52 rfl rfl ?_
    refine V_getR (k1 := (h + 2)) 1 X dX7_firstTrade_53 co7 hh (by decide) rfl rfl wfX7_18 ?_
    refine V_iload 4 X dX7_firstTrade_56 rfl ?_
    refine V_aload_n 1 X dX7_firstTrade_58 rfl rfl ?_
    refine V_getR (k1 := (v1 + 8)) 10 X dX7_firstTrade_59 co0 hk1 (by decide) rfl rfl wfX7_53 ?_
    refine V_iload 5 X dX7_firstTrade_62 rfl ?_
    refine V_iald X dX7_firstTrade_64 (kt0_10 hZ hk1) ?_
    refine V_callV [.int v4, .int (σ.1 (v1 + 8) v5.toNatClampNeg)] [] X E dX7_firstTrade_65 (kX2_seatPerson x.2.1 z hZ N (h + 2) (kt7_1 hZ hh) v4 (σ.1 (v1 + 8) v5.toNatClampNeg) σ) co2 (kt7_1 hZ hh) gcX7_62 hyX2_seatPerson rfl ⟨by decide, by decide⟩ rfl (Nat.le_of_ble_eq_true rfl) (fun r9 s10 => ?_)
    refine V_aload_n 0 X dX7_firstTrade_68 rfl rfl ?_
    refine V_getR (k1 := (h + 2)) 1 X dX7_firstTrade_69 co7 hh (by decide) rfl rfl wfX7_18 ?_
    refine V_iload 5 X dX7_firstTrade_72 rfl ?_
    refine V_aload_n 1 X dX7_firstTrade_74 rfl rfl ?_
    refine V_getR (k1 := (v1 + 8)) 10 X dX7_firstTrade_75 co0 hk1 (by decide) rfl rfl wfX7_53 ?_
    refine V_iload 4 X dX7_firstTrade_78 rfl ?_
    refine V_iald X dX7_firstTrade_80 (kt0_10 hZ hk1) ?_
    refine V_callV [.int v5, .int (s10.1 (v1 + 8) v4.toNatClampNeg)] [] X E dX7_firstTrade_81 (kX2_seatPerson x.2.1 z hZ N (h + 2) (kt7_1 hZ hh) v5 (s10.1 (v1 + 8) v4.toNatClampNeg) s10) co2 (kt7_1 hZ hh) gcX7_62 hyX2_seatPerson rfl ⟨by decide, by decide⟩ rfl (Nat.le_of_ble_eq_true rfl) (fun r11 s12 => ?_)
    refine V_aload_n 0 X dX7_firstTrade_84 rfl rfl ?_
    refine V_getR (k1 := (h + 2)) 1 X dX7_firstTrade_85 co7 hh (by decide) rfl rfl wfX7_18 ?_
    refine V_iload_n 2 X dX7_firstTrade_88 rfl rfl ?_
    refine V_callI [.int v2] [] X E dX7_firstTrade_89 (kX2_vote x.2.1 z hZ N (h + 2) (kt7_1 hZ hh) v2 s12) co2 (kt7_1 hZ hh) gcX7_30 hyX2_vote rfl ⟨by decide, by decide⟩ rfl (Nat.le_of_ble_eq_true rfl) (fun r13 s14 => ?_)
    refine V_if_le (tgt := 99) X dX7_firstTrade_92 (by decide) ?_ ?_
    · refine V_iconst (v := 0) X dX7_firstTrade_99 (by decide) ?_
      refine V_sub [0, 1, 2, 3, 4, 5] rfl ?_
      exact bX7_firstTrade_100 X E hr hZ N h hh rc28 hc28 rc43 hc43 v1 v2 v3 v4 v5 0 hk1 s14
    · refine V_iconst (v := 1) X dX7_firstTrade_95 (by decide) ?_
      refine V_goto (tgt := 100) X dX7_firstTrade_96 (by decide) ?_
      refine V_sub [0, 1, 2, 3, 4, 5] rfl ?_
      exact bX7_firstTrade_100 X E hr hZ N h hh rc28 hc28 rc43 hc43 v1 v2 v3 v4 v5 1 hk1 s14
def fX7_firstTrade_l43 (N : Nat) (h : Nat) (rc28 : Nat → Int32 → Int32 → Int32 → Mem → Option (Int32 × Mem)) : Nat → Nat → Int32 → Int32 → Int32 → Int32 → Mem → Option (Int32 × Mem)
  | 0 => fun _ _ _ _ _ _ => none
  | n + 1 => fX7_firstTrade_b43 N h rc28 (fX7_firstTrade_l43 N h rc28 n)
theorem lX7_firstTrade_43 {x : Cx} {z : Sx} (X : XG x z RX7 cX7_firstTrade 6 4 95) (E : XE x z) (hr : XR x (some .int)) (hZ : z.2.2.2.1 = kdC) (N : Nat) (h : Nat) (hh : z.2.2.2.1 h = (7, 0)) (rc28 : Nat → Int32 → Int32 → Int32 → Mem → Option (Int32 × Mem)) (hc28 : ∀ (v1 : Nat) (v2 : Int32) (v3 : Int32) (v4 : Int32) (hk1 : z.2.2.2.1 v1 = (0, 0)) (σ : Mem), VK x z 6 (BQ QI x z) 28 [(0, .ref (z.2.2.1 h)), (1, .ref (z.2.2.1 v1)), (2, .int v2), (3, .int v3), (4, .int v4)] [] σ (rc28 v1 v2 v3 v4 σ)) (n : Nat) (v1 : Nat) (v2 : Int32) (v3 : Int32) (v4 : Int32) (v5 : Int32) (hk1 : z.2.2.2.1 v1 = (0, 0)) (σ : Mem) : VK x z 6 (BQ QI x z) 43 [(0, .ref (z.2.2.1 h)), (1, .ref (z.2.2.1 v1)), (2, .int v2), (3, .int v3), (4, .int v4), (5, .int v5)] [] σ (fX7_firstTrade_l43 N h rc28 n v1 v2 v3 v4 v5 σ) := by
  induction n generalizing v1 v2 v3 v4 v5 hk1 σ with
  | zero => exact V_none
  | succ n ih => exact bX7_firstTrade_43 X E hr hZ N h hh rc28 hc28 (fX7_firstTrade_l43 N h rc28 n) ih v1 v2 v3 v4 v5 hk1 σ
def fX7_firstTrade_b28 (N : Nat) (h : Nat) (rc28 : Nat → Int32 → Int32 → Int32 → Mem → Option (Int32 × Mem)) (v1 : Nat) (v2 : Int32) (v3 : Int32) (v4 : Int32) (σ : Mem) : Option (Int32 × Mem) :=
  if (σ.1 v1 1) ≤ v4 then some ((-1), σ) else lt_ (v4 + 1) (fun v5_7 => fX7_firstTrade_l43 N h rc28 N v1 v2 v3 v4 v5_7 σ)
set_option maxRecDepth 100000 in
set_option maxHeartbeats 4000000 in
theorem bX7_firstTrade_28 {x : Cx} {z : Sx} (X : XG x z RX7 cX7_firstTrade 6 4 95) (E : XE x z) (hr : XR x (some .int)) (hZ : z.2.2.2.1 = kdC) (N : Nat) (h : Nat) (hh : z.2.2.2.1 h = (7, 0)) (rc28 : Nat → Int32 → Int32 → Int32 → Mem → Option (Int32 × Mem)) (hc28 : ∀ (v1 : Nat) (v2 : Int32) (v3 : Int32) (v4 : Int32) (hk1 : z.2.2.2.1 v1 = (0, 0)) (σ : Mem), VK x z 6 (BQ QI x z) 28 [(0, .ref (z.2.2.1 h)), (1, .ref (z.2.2.1 v1)), (2, .int v2), (3, .int v3), (4, .int v4)] [] σ (rc28 v1 v2 v3 v4 σ)) (v1 : Nat) (v2 : Int32) (v3 : Int32) (v4 : Int32) (hk1 : z.2.2.2.1 v1 = (0, 0)) (σ : Mem) : VK x z 6 (BQ QI x z) 28 [(0, .ref (z.2.2.1 h)), (1, .ref (z.2.2.1 v1)), (2, .int v2), (3, .int v3), (4, .int v4)] [] σ (fX7_firstTrade_b28 N h rc28 v1 v2 v3 v4 σ) := by
  unfold fX7_firstTrade_b28
  refine V_iload 4 X dX7_firstTrade_28 rfl ?_
  refine V_aload_n 1 X dX7_firstTrade_30 rfl rfl ?_
  refine V_getI 1 X dX7_firstTrade_31 co0 hk1 (by decide) rfl wfX7_37 ?_
  refine V_icmp_ge (tgt := 157) X dX7_firstTrade_34 (by decide) ?_ ?_
  · refine V_iconst (v := -1) X dX7_firstTrade_157 (by decide) ?_
    exact V_iret X E hr dX7_firstTrade_158
  · refine V_iload 4 X dX7_firstTrade_37 rfl ?_
    refine V_iconst (v := 1) X dX7_firstTrade_39 (by decide) ?_
    refine V_iadd X dX7_firstTrade_40 ?_
    refine V_istoreG (L' := fun v5_7 => [(5, .int v5_7), (0, .ref (z.2.2.1 h)), (1, .ref (z.2.2.1 v1)), (2, .int v2), (3, .int v3), (4, .int v4)]) X dX7_firstTrade_41 (by decide) (fun _ => rfl) (fun v5_7 => ?_)
    refine V_sub [1, 2, 3, 4, 5, 0] rfl ?_
    exact lX7_firstTrade_43 X E hr hZ N h hh rc28 hc28 N v1 v2 v3 v4 v5_7 hk1 σ
def fX7_firstTrade_l28 (N : Nat) (h : Nat) : Nat → Nat → Int32 → Int32 → Int32 → Mem → Option (Int32 × Mem)
  | 0 => fun _ _ _ _ _ => none
  | n + 1 => fX7_firstTrade_b28 N h (fX7_firstTrade_l28 N h n)
theorem lX7_firstTrade_28 {x : Cx} {z : Sx} (X : XG x z RX7 cX7_firstTrade 6 4 95) (E : XE x z) (hr : XR x (some .int)) (hZ : z.2.2.2.1 = kdC) (N : Nat) (h : Nat) (hh : z.2.2.2.1 h = (7, 0)) (n : Nat) (v1 : Nat) (v2 : Int32) (v3 : Int32) (v4 : Int32) (hk1 : z.2.2.2.1 v1 = (0, 0)) (σ : Mem) : VK x z 6 (BQ QI x z) 28 [(0, .ref (z.2.2.1 h)), (1, .ref (z.2.2.1 v1)), (2, .int v2), (3, .int v3), (4, .int v4)] [] σ (fX7_firstTrade_l28 N h n v1 v2 v3 v4 σ) := by
  induction n generalizing v1 v2 v3 v4 hk1 σ with
  | zero => exact V_none
  | succ n ih => exact bX7_firstTrade_28 X E hr hZ N h hh (fX7_firstTrade_l28 N h n) ih v1 v2 v3 v4 hk1 σ
def fX7_firstTrade_b24 (N : Nat) (h : Nat) (v1 : Nat) (v2 : Int32) (t0 : Int32) (σ : Mem) : Option (Int32 × Mem) :=
  lt_ t0 (fun v3_5 => lt_ 0 (fun v4_6 => fX7_firstTrade_l28 N h N v1 v2 v3_5 v4_6 σ))
set_option maxRecDepth 100000 in
set_option maxHeartbeats 4000000 in
theorem bX7_firstTrade_24 {x : Cx} {z : Sx} (X : XG x z RX7 cX7_firstTrade 6 4 95) (E : XE x z) (hr : XR x (some .int)) (hZ : z.2.2.2.1 = kdC) (N : Nat) (h : Nat) (hh : z.2.2.2.1 h = (7, 0)) (v1 : Nat) (v2 : Int32) (t0 : Int32) (hk1 : z.2.2.2.1 v1 = (0, 0)) (σ : Mem) : VK x z 6 (BQ QI x z) 24 [(0, .ref (z.2.2.1 h)), (1, .ref (z.2.2.1 v1)), (2, .int v2)] [.int t0] σ (fX7_firstTrade_b24 N h v1 v2 t0 σ) := by
  unfold fX7_firstTrade_b24
  refine V_istore_nG (L' := fun v3_5 => [(3, .int v3_5), (0, .ref (z.2.2.1 h)), (1, .ref (z.2.2.1 v1)), (2, .int v2)]) X dX7_firstTrade_24 rfl (by decide) (fun _ => rfl) (fun v3_5 => ?_)
  refine V_iconst (v := 0) X dX7_firstTrade_25 (by decide) ?_
  refine V_istoreG (L' := fun v4_6 => [(4, .int v4_6), (3, .int v3_5), (0, .ref (z.2.2.1 h)), (1, .ref (z.2.2.1 v1)), (2, .int v2)]) X dX7_firstTrade_26 (by decide) (fun _ => rfl) (fun v4_6 => ?_)
  refine V_sub [2, 3, 4, 1, 0] rfl ?_
  exact lX7_firstTrade_28 X E hr hZ N h hh N v1 v2 v3_5 v4_6 hk1 σ
def fX7_firstTrade (N : Nat) (h : Nat) (v1 : Nat) (v2 : Int32) (σ : Mem) : Option (Int32 × Mem) :=
  bd (fX2_enter N (h + 2) v1 σ) (fun r1 s2 => bd (fX2_vote N (h + 2) v2 s2) (fun r3 s4 => if r3 ≤ 0 then fX7_firstTrade_b24 N h v1 v2 0 s4 else fX7_firstTrade_b24 N h v1 v2 1 s4))
set_option maxRecDepth 100000 in
set_option maxHeartbeats 4000000 in
theorem bX7_firstTrade_0 {x : Cx} {z : Sx} (X : XG x z RX7 cX7_firstTrade 6 4 95) (E : XE x z) (hr : XR x (some .int)) (hZ : z.2.2.2.1 = kdC) (N : Nat) (h : Nat) (hh : z.2.2.2.1 h = (7, 0)) (v1 : Nat) (v2 : Int32) (hk1 : z.2.2.2.1 v1 = (0, 0)) (σ : Mem) : VK x z 6 (BQ QI x z) 0 [(0, .ref (z.2.2.1 h)), (1, .ref (z.2.2.1 v1)), (2, .int v2)] [] σ (fX7_firstTrade N h v1 v2 σ) := by
  unfold fX7_firstTrade
  refine V_aload_n 0 X dX7_firstTrade_0 rfl rfl ?_
  refine V_getR (k1 := (h + 2)) 1 X dX7_firstTrade_1 co7 hh (by decide) rfl rfl wfX7_18 ?_
  refine V_aload_n 1 X dX7_firstTrade_4 rfl rfl ?_
  refine V_callV [.ref (z.2.2.1 v1)] [] X E dX7_firstTrade_5 (kX2_enter x.2.1 z hZ N (h + 2) (kt7_1 hZ hh) v1 hk1 σ) co2 (kt7_1 hZ hh) gcX7_22 hyX2_enter rfl ⟨by decide, by decide⟩ rfl (Nat.le_of_ble_eq_true rfl) (fun r1 s2 => ?_)
  refine V_aload_n 0 X dX7_firstTrade_8 rfl rfl ?_
  refine V_getR (k1 := (h + 2)) 1 X dX7_firstTrade_9 co7 hh (by decide) rfl rfl wfX7_18 ?_
  refine V_iload_n 2 X dX7_firstTrade_12 rfl rfl ?_
  refine V_callI [.int v2] [] X E dX7_firstTrade_13 (kX2_vote x.2.1 z hZ N (h + 2) (kt7_1 hZ hh) v2 s2) co2 (kt7_1 hZ hh) gcX7_30 hyX2_vote rfl ⟨by decide, by decide⟩ rfl (Nat.le_of_ble_eq_true rfl) (fun r3 s4 => ?_)
  refine V_if_le (tgt := 23) X dX7_firstTrade_16 (by decide) ?_ ?_
  · refine V_iconst (v := 0) X dX7_firstTrade_23 (by decide) ?_
    refine V_sub [0, 1, 2] rfl ?_
    exact bX7_firstTrade_24 X E hr hZ N h hh v1 v2 0 hk1 s4
  · refine V_iconst (v := 1) X dX7_firstTrade_19 (by decide) ?_
    refine V_goto (tgt := 24) X dX7_firstTrade_20 (by decide) ?_
    refine V_sub [0, 1, 2] rfl ?_
    exact bX7_firstTrade_24 X E hr hZ N h hh v1 v2 1 hk1 s4
theorem kX7_firstTrade (l : Launch) (z : Sx) (hZ : z.2.2.2.1 = kdC) (N : Nat) (h : Nat) (hh : z.2.2.2.1 h = (7, 0)) (v1 : Nat) (v2 : Int32) (hk1 : z.2.2.2.1 v1 = (0, 0)) (σ : Mem) : Ct QI yX7_firstTrade cX7_firstTrade 6 (some .int) 4 95 l z [.ref (z.2.2.1 h), .ref (z.2.2.1 v1), .int v2] σ (fX7_firstTrade N h v1 v2 σ) := by
  refine Ct_of (by decide +kernel) (Nat.le_of_ble_eq_true rfl) rfl ?_
  intro x _ X E hr
  exact bX7_firstTrade_0 X E hr hZ N h hh v1 v2 hk1 σ
def fX11_trade (N : Nat) (h : Nat) (v1 : Int32) (v2 : Int32) (σ : Mem) : Option (Int32 × Mem) :=
  bd (fX11_asked N h v1 v2 σ) (fun or1 s2 => mqK (0, 0) or1 (some ((-1), s2)) (fun r1 => bd (fX7_firstTrade N (h + 236) r1 v2 s2) (fun r4 s5 => some (r4, s5))))
set_option maxRecDepth 100000 in
set_option maxHeartbeats 4000000 in
theorem bX11_trade_0 {x : Cx} {z : Sx} (X : XG x z RX11 cX11_trade 4 5 120) (E : XE x z) (hr : XR x (some .int)) (hZ : z.2.2.2.1 = kdC) (N : Nat) (h : Nat) (hh : z.2.2.2.1 h = (11, 0)) (v1 : Int32) (v2 : Int32) (σ : Mem) : VK x z 4 (BQ QI x z) 0 [(0, .ref (z.2.2.1 h)), (1, .int v1), (2, .int v2)] [] σ (fX11_trade N h v1 v2 σ) := by
  unfold fX11_trade
  refine V_aload_n 0 X dX11_trade_0 rfl rfl ?_
  refine V_iload_n 1 X dX11_trade_1 rfl rfl ?_
  refine V_iload_n 2 X dX11_trade_2 rfl rfl ?_
  refine V_callQC (K := (0, 0)) [.int v1, .int v2] [] X E hZ dX11_trade_3 (kX11_asked x.2.1 z hZ N h hh v1 v2 σ) co11 hh gcX11_115 hyX11_asked rfl ⟨by decide, by decide⟩ rfl (Nat.le_of_ble_eq_true rfl) (fun s2 => ?_) (fun r1 s2 hb3 => ?_)
  · refine V_astore_nN (L' := [(3, .null), (0, .ref (z.2.2.1 h)), (1, .int v1), (2, .int v2)]) X dX11_trade_6 rfl (by decide) rfl ?_
    refine V_aload_nN 0 X dX11_trade_7 rfl rfl ?_
    refine V_ifnonnullN X dX11_trade_8 ?_
    refine V_iconst (v := -1) X dX11_trade_11 (by decide) ?_
    refine V_goto (tgt := 24) X dX11_trade_12 (by decide) ?_
    exact V_iret X E hr dX11_trade_24
  · refine V_astore_n (L' := [(3, .ref (z.2.2.1 r1)), (0, .ref (z.2.2.1 h)), (1, .int v1), (2, .int v2)]) X dX11_trade_6 rfl (by decide) rfl ?_
    refine V_aload_n 0 X dX11_trade_7 rfl rfl ?_
    refine V_ifnonnull (tgt := 15) X dX11_trade_8 (by decide) ?_
    refine V_aload_n 1 X dX11_trade_15 rfl rfl ?_
    refine V_getR (k1 := (h + 236)) 7 X dX11_trade_16 co11 hh (by decide) rfl rfl wfX11_55 ?_
    refine V_aload_n 0 X dX11_trade_19 rfl rfl ?_
    refine V_iload_n 3 X dX11_trade_20 rfl rfl ?_
    refine V_callI [.ref (z.2.2.1 r1), .int v2] [] X E dX11_trade_21 (kX7_firstTrade x.2.1 z hZ N (h + 236) (kt11_7 hZ hh) r1 v2 hb3 s2) co7 (kt11_7 hZ hh) gcX11_335 hyX7_firstTrade rfl ⟨by decide, by decide⟩ rfl (Nat.le_of_ble_eq_true rfl) (fun r4 s5 => ?_)
    exact V_iret X E hr dX11_trade_24
theorem kX11_trade (l : Launch) (z : Sx) (hZ : z.2.2.2.1 = kdC) (N : Nat) (h : Nat) (hh : z.2.2.2.1 h = (11, 0)) (v1 : Int32) (v2 : Int32) (σ : Mem) : Ct QI yX11_trade cX11_trade 4 (some .int) 5 120 l z [.ref (z.2.2.1 h), .int v1, .int v2] σ (fX11_trade N h v1 v2 σ) := by
  refine Ct_of (by decide +kernel) (Nat.le_of_ble_eq_true rfl) rfl ?_
  intro x _ X E hr
  exact bX11_trade_0 X E hr hZ N h hh v1 v2 σ
def fX3_makeOaken_b39 (N : Nat) (h : Nat) (rc2 : Nat → Int32 → Int32 → Mem → Option (Unit × Mem)) (v1 : Nat) (v2 : Int32) (v3 : Int32) (t0 : Int32) (t1 : Int32) (t2 : Nat) (σ : Mem) : Option (Unit × Mem) :=
  gd (inb t1 8) (lt_ (pI σ t2 t1.toNatClampNeg t0) (fun s2 => lt_ (v3 + 1) (fun v3_3 => rc2 v1 v2 v3_3 s2)))
set_option maxRecDepth 100000 in
set_option maxHeartbeats 4000000 in
theorem bX3_makeOaken_39 {x : Cx} {z : Sx} (X : XG x z RX3 cX3_makeOaken 4 0 0) (E : XE x z) (hr : XR x none) (hZ : z.2.2.2.1 = kdC) (N : Nat) (h : Nat) (hh : z.2.2.2.1 h = (3, 0)) (rc2 : Nat → Int32 → Int32 → Mem → Option (Unit × Mem)) (hc2 : ∀ (v1 : Nat) (v2 : Int32) (v3 : Int32) (hk1 : z.2.2.2.1 v1 = (0, 0)) (σ : Mem), VK x z 4 (BQ QV x z) 2 [(0, .ref (z.2.2.1 h)), (1, .ref (z.2.2.1 v1)), (2, .int v2), (3, .int v3)] [] σ (rc2 v1 v2 v3 σ)) (v1 : Nat) (v2 : Int32) (v3 : Int32) (t0 : Int32) (t1 : Int32) (t2 : Nat) (hk1 : z.2.2.2.1 v1 = (0, 0)) (hkt2 : z.2.2.2.1 t2 = (50, 8)) (σ : Mem) : VK x z 4 (BQ QV x z) 39 [(0, .ref (z.2.2.1 h)), (1, .ref (z.2.2.1 v1)), (2, .int v2), (3, .int v3)] [.int t0, .int t1, .ref (z.2.2.1 t2)] σ (fX3_makeOaken_b39 N h rc2 v1 v2 v3 t0 t1 t2 σ) := by
  unfold fX3_makeOaken_b39
  refine V_iastG X dX3_makeOaken_39 hkt2 (fun s2 => ?_)
  refine V_iincG (L' := fun v3_3 => [(3, .int v3_3), (0, .ref (z.2.2.1 h)), (1, .ref (z.2.2.1 v1)), (2, .int v2)]) 3 X dX3_makeOaken_40 rfl rfl (by decide) (fun _ => rfl) (fun v3_3 => ?_)
  refine V_goto (tgt := 2) X dX3_makeOaken_43 (by decide) ?_
  refine V_sub [1, 2, 3, 0] rfl ?_
  exact hc2 v1 v2 v3_3 hk1 s2
def fX3_makeOaken_b2 (N : Nat) (h : Nat) (rc2 : Nat → Int32 → Int32 → Mem → Option (Unit × Mem)) (v1 : Nat) (v2 : Int32) (v3 : Int32) (σ : Mem) : Option (Unit × Mem) :=
  if (σ.1 v1 0) ≤ v3 then some ((), σ) else if ((v2 >>> (v3 &&& 31)) &&& 1) = 0 then gd (inb v3 8) (fX3_makeOaken_b39 N h rc2 v1 v2 v3 (σ.1 (v1 + 2) v3.toNatClampNeg) v3 (((h + 2) + 1) + 2) σ) else fX3_makeOaken_b39 N h rc2 v1 v2 v3 0 v3 (((h + 2) + 1) + 2) σ
set_option maxRecDepth 100000 in
set_option maxHeartbeats 4000000 in
theorem bX3_makeOaken_2 {x : Cx} {z : Sx} (X : XG x z RX3 cX3_makeOaken 4 0 0) (E : XE x z) (hr : XR x none) (hZ : z.2.2.2.1 = kdC) (N : Nat) (h : Nat) (hh : z.2.2.2.1 h = (3, 0)) (rc2 : Nat → Int32 → Int32 → Mem → Option (Unit × Mem)) (hc2 : ∀ (v1 : Nat) (v2 : Int32) (v3 : Int32) (hk1 : z.2.2.2.1 v1 = (0, 0)) (σ : Mem), VK x z 4 (BQ QV x z) 2 [(0, .ref (z.2.2.1 h)), (1, .ref (z.2.2.1 v1)), (2, .int v2), (3, .int v3)] [] σ (rc2 v1 v2 v3 σ)) (v1 : Nat) (v2 : Int32) (v3 : Int32) (hk1 : z.2.2.2.1 v1 = (0, 0)) (σ : Mem) : VK x z 4 (BQ QV x z) 2 [(0, .ref (z.2.2.1 h)), (1, .ref (z.2.2.1 v1)), (2, .int v2), (3, .int v3)] [] σ (fX3_makeOaken_b2 N h rc2 v1 v2 v3 σ) := by
  unfold fX3_makeOaken_b2
  refine V_iload_n 3 X dX3_makeOaken_2 rfl rfl ?_
  refine V_aload_n 1 X dX3_makeOaken_3 rfl rfl ?_
  refine V_getI 0 X dX3_makeOaken_4 co0 hk1 (by decide) rfl wfX3_44 ?_
  refine V_icmp_ge (tgt := 46) X dX3_makeOaken_7 (by decide) ?_ ?_
  · exact V_vret X E hr dX3_makeOaken_46
  · refine V_aload_n 0 X dX3_makeOaken_10 rfl rfl ?_
    refine V_getR (k1 := (h + 2)) 1 X dX3_makeOaken_11 co3 hh (by decide) rfl rfl wfX3_18 ?_
    refine V_getR (k1 := ((h + 2) + 1)) 0 X dX3_makeOaken_14 co2 (kt3_1 hZ hh) (by decide) rfl rfl wfX3_40 ?_
    refine V_getR (k1 := (((h + 2) + 1) + 2)) 4 X dX3_makeOaken_17 co0 (kt2_0 hZ (kt3_1 hZ hh)) (by decide) rfl rfl wfX3_87 ?_
    refine V_iload_n 3 X dX3_makeOaken_20 rfl rfl ?_
    refine V_iload_n 2 X dX3_makeOaken_21 rfl rfl ?_
    refine V_iload_n 3 X dX3_makeOaken_22 rfl rfl ?_
    refine V_ishr X dX3_makeOaken_23 ?_
    refine V_iconst (v := 1) X dX3_makeOaken_24 (by decide) ?_
    refine V_iand X dX3_makeOaken_25 ?_
    refine V_if_eq (tgt := 33) X dX3_makeOaken_26 (by decide) ?_ ?_
    · refine V_aload_n 1 X dX3_makeOaken_33 rfl rfl ?_
      refine V_getR (k1 := (v1 + 2)) 4 X dX3_makeOaken_34 co0 hk1 (by decide) rfl rfl wfX3_87 ?_
      refine V_iload_n 3 X dX3_makeOaken_37 rfl rfl ?_
      refine V_iald X dX3_makeOaken_38 (kt0_4 hZ hk1) ?_
      refine V_sub [0, 1, 2, 3] rfl ?_
      exact bX3_makeOaken_39 X E hr hZ N h hh rc2 hc2 v1 v2 v3 (σ.1 (v1 + 2) v3.toNatClampNeg) v3 (((h + 2) + 1) + 2) hk1 (kt0_4 hZ (kt2_0 hZ (kt3_1 hZ hh))) σ
    · refine V_iconst (v := 0) X dX3_makeOaken_29 (by decide) ?_
      refine V_goto (tgt := 39) X dX3_makeOaken_30 (by decide) ?_
      refine V_sub [0, 1, 2, 3] rfl ?_
      exact bX3_makeOaken_39 X E hr hZ N h hh rc2 hc2 v1 v2 v3 0 v3 (((h + 2) + 1) + 2) hk1 (kt0_4 hZ (kt2_0 hZ (kt3_1 hZ hh))) σ
def fX3_makeOaken_l2 (N : Nat) (h : Nat) : Nat → Nat → Int32 → Int32 → Mem → Option (Unit × Mem)
  | 0 => fun _ _ _ _ => none
  | n + 1 => fX3_makeOaken_b2 N h (fX3_makeOaken_l2 N h n)
theorem lX3_makeOaken_2 {x : Cx} {z : Sx} (X : XG x z RX3 cX3_makeOaken 4 0 0) (E : XE x z) (hr : XR x none) (hZ : z.2.2.2.1 = kdC) (N : Nat) (h : Nat) (hh : z.2.2.2.1 h = (3, 0)) (n : Nat) (v1 : Nat) (v2 : Int32) (v3 : Int32) (hk1 : z.2.2.2.1 v1 = (0, 0)) (σ : Mem) : VK x z 4 (BQ QV x z) 2 [(0, .ref (z.2.2.1 h)), (1, .ref (z.2.2.1 v1)), (2, .int v2), (3, .int v3)] [] σ (fX3_makeOaken_l2 N h n v1 v2 v3 σ) := by
  induction n generalizing v1 v2 v3 hk1 σ with
  | zero => exact V_none
  | succ n ih => exact bX3_makeOaken_2 X E hr hZ N h hh (fX3_makeOaken_l2 N h n) ih v1 v2 v3 hk1 σ
def fX3_makeOaken (N : Nat) (h : Nat) (v1 : Nat) (v2 : Int32) (σ : Mem) : Option (Unit × Mem) :=
  lt_ 0 (fun v3_1 => fX3_makeOaken_l2 N h N v1 v2 v3_1 σ)
set_option maxRecDepth 100000 in
set_option maxHeartbeats 4000000 in
theorem bX3_makeOaken_0 {x : Cx} {z : Sx} (X : XG x z RX3 cX3_makeOaken 4 0 0) (E : XE x z) (hr : XR x none) (hZ : z.2.2.2.1 = kdC) (N : Nat) (h : Nat) (hh : z.2.2.2.1 h = (3, 0)) (v1 : Nat) (v2 : Int32) (hk1 : z.2.2.2.1 v1 = (0, 0)) (σ : Mem) : VK x z 4 (BQ QV x z) 0 [(0, .ref (z.2.2.1 h)), (1, .ref (z.2.2.1 v1)), (2, .int v2)] [] σ (fX3_makeOaken N h v1 v2 σ) := by
  unfold fX3_makeOaken
  refine V_iconst (v := 0) X dX3_makeOaken_0 (by decide) ?_
  refine V_istore_nG (L' := fun v3_1 => [(3, .int v3_1), (0, .ref (z.2.2.1 h)), (1, .ref (z.2.2.1 v1)), (2, .int v2)]) X dX3_makeOaken_1 rfl (by decide) (fun _ => rfl) (fun v3_1 => ?_)
  refine V_sub [1, 2, 3, 0] rfl ?_
  exact lX3_makeOaken_2 X E hr hZ N h hh N v1 v2 v3_1 hk1 σ
theorem kX3_makeOaken (l : Launch) (z : Sx) (hZ : z.2.2.2.1 = kdC) (N : Nat) (h : Nat) (hh : z.2.2.2.1 h = (3, 0)) (v1 : Nat) (v2 : Int32) (hk1 : z.2.2.2.1 v1 = (0, 0)) (σ : Mem) : Ct QV yX3_makeOaken cX3_makeOaken 4 none 0 0 l z [.ref (z.2.2.1 h), .ref (z.2.2.1 v1), .int v2] σ (fX3_makeOaken N h v1 v2 σ) := by
  refine Ct_of (by decide +kernel) (Nat.le_of_ble_eq_true rfl) rfl ?_
  intro x _ X E hr
  exact bX3_makeOaken_0 X E hr hZ N h hh v1 v2 hk1 σ
def fX3_fewestOaken_b95 (N : Nat) (h : Nat) (rc35 : Nat → Int32 → Int32 → Int32 → Int32 → Int32 → Mem → Option (Int32 × Mem)) (v1 : Nat) (v2 : Int32) (v3 : Int32) (v4 : Int32) (v5 : Int32) (v6 : Int32) (σ : Mem) : Option (Int32 × Mem) :=
  lt_ (v6 + 1) (fun v6_16 => rc35 v1 v2 v3 v4 v5 v6_16 σ)
set_option maxRecDepth 100000 in
set_option maxHeartbeats 4000000 in
theorem bX3_fewestOaken_95 {x : Cx} {z : Sx} (X : XG x z RX3 cX3_fewestOaken 8 4 95) (E : XE x z) (hr : XR x (some .int)) (hZ : z.2.2.2.1 = kdC) (N : Nat) (h : Nat) (hh : z.2.2.2.1 h = (3, 0)) (rc35 : Nat → Int32 → Int32 → Int32 → Int32 → Int32 → Mem → Option (Int32 × Mem)) (hc35 : ∀ (v1 : Nat) (v2 : Int32) (v3 : Int32) (v4 : Int32) (v5 : Int32) (v6 : Int32) (hk1 : z.2.2.2.1 v1 = (0, 0)) (σ : Mem), VK x z 8 (BQ QI x z) 35 [(0, .ref (z.2.2.1 h)), (1, .ref (z.2.2.1 v1)), (2, .int v2), (3, .int v3), (4, .int v4), (5, .int v5), (6, .int v6)] [] σ (rc35 v1 v2 v3 v4 v5 v6 σ)) (v1 : Nat) (v2 : Int32) (v3 : Int32) (v4 : Int32) (v5 : Int32) (v6 : Int32) (hk1 : z.2.2.2.1 v1 = (0, 0)) (σ : Mem) : VK x z 8 (BQ QI x z) 95 [(0, .ref (z.2.2.1 h)), (1, .ref (z.2.2.1 v1)), (2, .int v2), (3, .int v3), (4, .int v4), (5, .int v5), (6, .int v6)] [] σ (fX3_fewestOaken_b95 N h rc35 v1 v2 v3 v4 v5 v6 σ) := by
  unfold fX3_fewestOaken_b95
  refine V_iincG (L' := fun v6_16 => [(6, .int v6_16), (0, .ref (z.2.2.1 h)), (1, .ref (z.2.2.1 v1)), (2, .int v2), (3, .int v3), (4, .int v4), (5, .int v5)]) 6 X dX3_fewestOaken_95 rfl rfl (by decide) (fun _ => rfl) (fun v6_16 => ?_)
  refine V_goto (tgt := 35) X dX3_fewestOaken_98 (by decide) ?_
  refine V_sub [1, 2, 3, 4, 5, 6, 0] rfl ?_
  exact hc35 v1 v2 v3 v4 v5 v6_16 hk1 σ
def fX3_fewestOaken_b83 (N : Nat) (h : Nat) (rc35 : Nat → Int32 → Int32 → Int32 → Int32 → Int32 → Mem → Option (Int32 × Mem)) (v1 : Nat) (v2 : Int32) (v3 : Int32) (v4 : Int32) (v5 : Int32) (v6 : Int32) (v7 : Int32) (t0 : Int32) (σ : Mem) : Option (Int32 × Mem) :=
  if t0 = v3 then fX3_fewestOaken_b95 N h rc35 v1 v2 v3 v4 v5 v6 σ else lt_ v6 (fun v4_17 => lt_ v7 (fun v5_18 => fX3_fewestOaken_b95 N h rc35 v1 v2 v3 v4_17 v5_18 v6 σ))
set_option maxRecDepth 100000 in
set_option maxHeartbeats 4000000 in
theorem bX3_fewestOaken_83 {x : Cx} {z : Sx} (X : XG x z RX3 cX3_fewestOaken 8 4 95) (E : XE x z) (hr : XR x (some .int)) (hZ : z.2.2.2.1 = kdC) (N : Nat) (h : Nat) (hh : z.2.2.2.1 h = (3, 0)) (rc35 : Nat → Int32 → Int32 → Int32 → Int32 → Int32 → Mem → Option (Int32 × Mem)) (hc35 : ∀ (v1 : Nat) (v2 : Int32) (v3 : Int32) (v4 : Int32) (v5 : Int32) (v6 : Int32) (hk1 : z.2.2.2.1 v1 = (0, 0)) (σ : Mem), VK x z 8 (BQ QI x z) 35 [(0, .ref (z.2.2.1 h)), (1, .ref (z.2.2.1 v1)), (2, .int v2), (3, .int v3), (4, .int v4), (5, .int v5), (6, .int v6)] [] σ (rc35 v1 v2 v3 v4 v5 v6 σ)) (v1 : Nat) (v2 : Int32) (v3 : Int32) (v4 : Int32) (v5 : Int32) (v6 : Int32) (v7 : Int32) (t0 : Int32) (hk1 : z.2.2.2.1 v1 = (0, 0)) (σ : Mem) : VK x z 8 (BQ QI x z) 83 [(0, .ref (z.2.2.1 h)), (1, .ref (z.2.2.1 v1)), (2, .int v2), (3, .int v3), (4, .int v4), (5, .int v5), (6, .int v6), (7, .int v7)] [.int t0] σ (fX3_fewestOaken_b83 N h rc35 v1 v2 v3 v4 v5 v6 v7 t0 σ) := by
  unfold fX3_fewestOaken_b83
  refine V_iload_n 3 X dX3_fewestOaken_83 rfl rfl ?_
  refine V_icmp_eq (tgt := 95) X dX3_fewestOaken_84 (by decide) ?_ ?_
  · refine V_sub [0, 1, 2, 3, 4, 5, 6] rfl ?_
    exact bX3_fewestOaken_95 X E hr hZ N h hh rc35 hc35 v1 v2 v3 v4 v5 v6 hk1 σ
  · refine V_iload 6 X dX3_fewestOaken_87 rfl ?_
    refine V_istoreG (L' := fun v4_17 => [(4, .int v4_17), (0, .ref (z.2.2.1 h)), (1, .ref (z.2.2.1 v1)), (2, .int v2), (3, .int v3), (5, .int v5), (6, .int v6), (7, .int v7)]) X dX3_fewestOaken_89 (by decide) (fun _ => rfl) (fun v4_17 => ?_)
    refine V_iload 7 X dX3_fewestOaken_91 rfl ?_
    refine V_istoreG (L' := fun v5_18 => [(5, .int v5_18), (4, .int v4_17), (0, .ref (z.2.2.1 h)), (1, .ref (z.2.2.1 v1)), (2, .int v2), (3, .int v3), (6, .int v6), (7, .int v7)]) X dX3_fewestOaken_93 (by decide) (fun _ => rfl) (fun v5_18 => ?_)
    refine V_sub [2, 3, 4, 5, 1, 0, 6] rfl ?_
    exact bX3_fewestOaken_95 X E hr hZ N h hh rc35 hc35 v1 v2 v3 v4_17 v5_18 v6 hk1 σ
def fX3_fewestOaken_b35 (N : Nat) (h : Nat) (rc35 : Nat → Int32 → Int32 → Int32 → Int32 → Int32 → Mem → Option (Int32 × Mem)) (v1 : Nat) (v2 : Int32) (v3 : Int32) (v4 : Int32) (v5 : Int32) (v6 : Int32) (σ : Mem) : Option (Int32 × Mem) :=
  if ((1 : Int32) <<< ((σ.1 v1 0) &&& 31)) ≤ v6 then some (v4, σ) else bd (fJ6_bitCount_0f7a4 N v6 σ) (fun r9 s10 => lt_ r9 (fun v7_11 => if v5 ≤ v7_11 then fX3_fewestOaken_b95 N h rc35 v1 v2 v3 v4 v5 v6 s10 else bd (fX3_makeOaken N h v1 v6 s10) (fun r12 s13 => bd (fX2_vote N (h + 2) v2 s13) (fun r14 s15 => if r14 ≤ 0 then fX3_fewestOaken_b83 N h rc35 v1 v2 v3 v4 v5 v6 v7_11 0 s15 else fX3_fewestOaken_b83 N h rc35 v1 v2 v3 v4 v5 v6 v7_11 1 s15))))
set_option maxRecDepth 100000 in
set_option maxHeartbeats 4000000 in
theorem bX3_fewestOaken_35 {x : Cx} {z : Sx} (X : XG x z RX3 cX3_fewestOaken 8 4 95) (E : XE x z) (hr : XR x (some .int)) (hZ : z.2.2.2.1 = kdC) (N : Nat) (h : Nat) (hh : z.2.2.2.1 h = (3, 0)) (rc35 : Nat → Int32 → Int32 → Int32 → Int32 → Int32 → Mem → Option (Int32 × Mem)) (hc35 : ∀ (v1 : Nat) (v2 : Int32) (v3 : Int32) (v4 : Int32) (v5 : Int32) (v6 : Int32) (hk1 : z.2.2.2.1 v1 = (0, 0)) (σ : Mem), VK x z 8 (BQ QI x z) 35 [(0, .ref (z.2.2.1 h)), (1, .ref (z.2.2.1 v1)), (2, .int v2), (3, .int v3), (4, .int v4), (5, .int v5), (6, .int v6)] [] σ (rc35 v1 v2 v3 v4 v5 v6 σ)) (v1 : Nat) (v2 : Int32) (v3 : Int32) (v4 : Int32) (v5 : Int32) (v6 : Int32) (hk1 : z.2.2.2.1 v1 = (0, 0)) (σ : Mem) : VK x z 8 (BQ QI x z) 35 [(0, .ref (z.2.2.1 h)), (1, .ref (z.2.2.1 v1)), (2, .int v2), (3, .int v3), (4, .int v4), (5, .int v5), (6, .int v6)] [] σ (fX3_fewestOaken_b35 N h rc35 v1 v2 v3 v4 v5 v6 σ) := by
  unfold fX3_fewestOaken_b35
  refine V_iload 6 X dX3_fewestOaken_35 rfl ?_
  refine V_iconst (v := 1) X dX3_fewestOaken_37 (by decide) ?_
  refine V_aload_n 1 X dX3_fewestOaken_38 rfl rfl ?_
  refine V_getI 0 X dX3_fewestOaken_39 co0 hk1 (by decide) rfl wfX3_44 ?_
  refine V_ishl X dX3_fewestOaken_42 ?_
  refine V_icmp_ge (tgt := 101) X dX3_fewestOaken_43 (by decide) ?_ ?_
  · refine V_iload 4 X dX3_fewestOaken_101 rfl ?_
    exact V_iret X E hr dX3_fewestOaken_103
  · refine V_iload 6 X dX3_fewestOaken_46 rfl ?_
    refine V_calSI [.int v6] [] X E dX3_fewestOaken_48 (kJ6_bitCount_0f7a4 x.2.1 z hZ N v6 σ) gcX3_78 hyJ6_bitCount_0f7a4 rfl ⟨by decide, by decide⟩ rfl (Nat.le_of_ble_eq_true rfl) (fun r9 s10 => ?_)
    refine V_istoreG (L' := fun v7_11 => [(7, .int v7_11), (0, .ref (z.2.2.1 h)), (1, .ref (z.2.2.1 v1)), (2, .int v2), (3, .int v3), (4, .int v4), (5, .int v5), (6, .int v6)]) X dX3_fewestOaken_51 (by decide) (fun _ => rfl) (fun v7_11 => ?_)
    refine V_iload 0 X dX3_fewestOaken_53 rfl ?_
    refine V_iload 6 X dX3_fewestOaken_55 rfl ?_
    refine V_icmp_ge (tgt := 95) X dX3_fewestOaken_57 (by decide) ?_ ?_
    · refine V_sub [1, 2, 3, 4, 5, 6, 7] rfl ?_
      exact bX3_fewestOaken_95 X E hr hZ N h hh rc35 hc35 v1 v2 v3 v4 v5 v6 hk1 s10
    · refine V_aload_n 1 X dX3_fewestOaken_60 rfl rfl ?_
      refine V_aload_n 2 X dX3_fewestOaken_61 rfl rfl ?_
      refine V_iload 7 X dX3_fewestOaken_62 rfl ?_
      refine V_callV [.ref (z.2.2.1 v1), .int v6] [] X E dX3_fewestOaken_64 (kX3_makeOaken x.2.1 z hZ N h hh v1 v6 hk1 s10) co3 hh gcX3_83 hyX3_makeOaken rfl ⟨by decide, by decide⟩ rfl (Nat.le_of_ble_eq_true rfl) (fun r12 s13 => ?_)
      refine V_aload_n 1 X dX3_fewestOaken_67 rfl rfl ?_
      refine V_getR (k1 := (h + 2)) 1 X dX3_fewestOaken_68 co3 hh (by decide) rfl rfl wfX3_18 ?_
      refine V_iload_n 3 X dX3_fewestOaken_71 rfl rfl ?_
      refine V_callI [.int v2] [] X E dX3_fewestOaken_72 (kX2_vote x.2.1 z hZ N (h + 2) (kt3_1 hZ hh) v2 s13) co2 (kt3_1 hZ hh) gcX3_30 hyX2_vote rfl ⟨by decide, by decide⟩ rfl (Nat.le_of_ble_eq_true rfl) (fun r14 s15 => ?_)
      refine V_if_le (tgt := 82) X dX3_fewestOaken_75 (by decide) ?_ ?_
      · refine V_iconst (v := 0) X dX3_fewestOaken_82 (by decide) ?_
        refine V_sub [1, 2, 3, 4, 5, 6, 7, 0] rfl ?_
        exact bX3_fewestOaken_83 X E hr hZ N h hh rc35 hc35 v1 v2 v3 v4 v5 v6 v7_11 0 hk1 s15
      · refine V_iconst (v := 1) X dX3_fewestOaken_78 (by decide) ?_
        refine V_goto (tgt := 83) X dX3_fewestOaken_79 (by decide) ?_
        refine V_sub [1, 2, 3, 4, 5, 6, 7, 0] rfl ?_
        exact bX3_fewestOaken_83 X E hr hZ N h hh rc35 hc35 v1 v2 v3 v4 v5 v6 v7_11 1 hk1 s15
def fX3_fewestOaken_l35 (N : Nat) (h : Nat) : Nat → Nat → Int32 → Int32 → Int32 → Int32 → Int32 → Mem → Option (Int32 × Mem)
  | 0 => fun _ _ _ _ _ _ _ => none
  | n + 1 => fX3_fewestOaken_b35 N h (fX3_fewestOaken_l35 N h n)
theorem lX3_fewestOaken_35 {x : Cx} {z : Sx} (X : XG x z RX3 cX3_fewestOaken 8 4 95) (E : XE x z) (hr : XR x (some .int)) (hZ : z.2.2.2.1 = kdC) (N : Nat) (h : Nat) (hh : z.2.2.2.1 h = (3, 0)) (n : Nat) (v1 : Nat) (v2 : Int32) (v3 : Int32) (v4 : Int32) (v5 : Int32) (v6 : Int32) (hk1 : z.2.2.2.1 v1 = (0, 0)) (σ : Mem) : VK x z 8 (BQ QI x z) 35 [(0, .ref (z.2.2.1 h)), (1, .ref (z.2.2.1 v1)), (2, .int v2), (3, .int v3), (4, .int v4), (5, .int v5), (6, .int v6)] [] σ (fX3_fewestOaken_l35 N h n v1 v2 v3 v4 v5 v6 σ) := by
  induction n generalizing v1 v2 v3 v4 v5 v6 hk1 σ with
  | zero => exact V_none
  | succ n ih => exact bX3_fewestOaken_35 X E hr hZ N h hh (fX3_fewestOaken_l35 N h n) ih v1 v2 v3 v4 v5 v6 hk1 σ
def fX3_fewestOaken_b24 (N : Nat) (h : Nat) (v1 : Nat) (v2 : Int32) (t0 : Int32) (σ : Mem) : Option (Int32 × Mem) :=
  lt_ t0 (fun v3_5 => lt_ (-1) (fun v4_6 => lt_ 9 (fun v5_7 => lt_ 1 (fun v6_8 => fX3_fewestOaken_l35 N h N v1 v2 v3_5 v4_6 v5_7 v6_8 σ))))
set_option maxRecDepth 100000 in
set_option maxHeartbeats 4000000 in
theorem bX3_fewestOaken_24 {x : Cx} {z : Sx} (X : XG x z RX3 cX3_fewestOaken 8 4 95) (E : XE x z) (hr : XR x (some .int)) (hZ : z.2.2.2.1 = kdC) (N : Nat) (h : Nat) (hh : z.2.2.2.1 h = (3, 0)) (v1 : Nat) (v2 : Int32) (t0 : Int32) (hk1 : z.2.2.2.1 v1 = (0, 0)) (σ : Mem) : VK x z 8 (BQ QI x z) 24 [(0, .ref (z.2.2.1 h)), (1, .ref (z.2.2.1 v1)), (2, .int v2)] [.int t0] σ (fX3_fewestOaken_b24 N h v1 v2 t0 σ) := by
  unfold fX3_fewestOaken_b24
  refine V_istore_nG (L' := fun v3_5 => [(3, .int v3_5), (0, .ref (z.2.2.1 h)), (1, .ref (z.2.2.1 v1)), (2, .int v2)]) X dX3_fewestOaken_24 rfl (by decide) (fun _ => rfl) (fun v3_5 => ?_)
  refine V_iconst (v := -1) X dX3_fewestOaken_25 (by decide) ?_
  refine V_istoreG (L' := fun v4_6 => [(4, .int v4_6), (3, .int v3_5), (0, .ref (z.2.2.1 h)), (1, .ref (z.2.2.1 v1)), (2, .int v2)]) X dX3_fewestOaken_26 (by decide) (fun _ => rfl) (fun v4_6 => ?_)
  refine V_bipush (v := 9) X dX3_fewestOaken_28 (by decide) ?_
  refine V_istoreG (L' := fun v5_7 => [(5, .int v5_7), (4, .int v4_6), (3, .int v3_5), (0, .ref (z.2.2.1 h)), (1, .ref (z.2.2.1 v1)), (2, .int v2)]) X dX3_fewestOaken_30 (by decide) (fun _ => rfl) (fun v5_7 => ?_)
  refine V_iconst (v := 1) X dX3_fewestOaken_32 (by decide) ?_
  refine V_istoreG (L' := fun v6_8 => [(6, .int v6_8), (5, .int v5_7), (4, .int v4_6), (3, .int v3_5), (0, .ref (z.2.2.1 h)), (1, .ref (z.2.2.1 v1)), (2, .int v2)]) X dX3_fewestOaken_33 (by decide) (fun _ => rfl) (fun v6_8 => ?_)
  refine V_sub [4, 5, 6, 3, 2, 1, 0] rfl ?_
  exact lX3_fewestOaken_35 X E hr hZ N h hh N v1 v2 v3_5 v4_6 v5_7 v6_8 hk1 σ
def fX3_fewestOaken (N : Nat) (h : Nat) (v1 : Nat) (v2 : Int32) (σ : Mem) : Option (Int32 × Mem) :=
  bd (fX2_enter N (h + 2) v1 σ) (fun r1 s2 => bd (fX2_vote N (h + 2) v2 s2) (fun r3 s4 => if r3 ≤ 0 then fX3_fewestOaken_b24 N h v1 v2 0 s4 else fX3_fewestOaken_b24 N h v1 v2 1 s4))
set_option maxRecDepth 100000 in
set_option maxHeartbeats 4000000 in
theorem bX3_fewestOaken_0 {x : Cx} {z : Sx} (X : XG x z RX3 cX3_fewestOaken 8 4 95) (E : XE x z) (hr : XR x (some .int)) (hZ : z.2.2.2.1 = kdC) (N : Nat) (h : Nat) (hh : z.2.2.2.1 h = (3, 0)) (v1 : Nat) (v2 : Int32) (hk1 : z.2.2.2.1 v1 = (0, 0)) (σ : Mem) : VK x z 8 (BQ QI x z) 0 [(0, .ref (z.2.2.1 h)), (1, .ref (z.2.2.1 v1)), (2, .int v2)] [] σ (fX3_fewestOaken N h v1 v2 σ) := by
  unfold fX3_fewestOaken
  refine V_aload_n 0 X dX3_fewestOaken_0 rfl rfl ?_
  refine V_getR (k1 := (h + 2)) 1 X dX3_fewestOaken_1 co3 hh (by decide) rfl rfl wfX3_18 ?_
  refine V_aload_n 1 X dX3_fewestOaken_4 rfl rfl ?_
  refine V_callV [.ref (z.2.2.1 v1)] [] X E dX3_fewestOaken_5 (kX2_enter x.2.1 z hZ N (h + 2) (kt3_1 hZ hh) v1 hk1 σ) co2 (kt3_1 hZ hh) gcX3_22 hyX2_enter rfl ⟨by decide, by decide⟩ rfl (Nat.le_of_ble_eq_true rfl) (fun r1 s2 => ?_)
  refine V_aload_n 0 X dX3_fewestOaken_8 rfl rfl ?_
  refine V_getR (k1 := (h + 2)) 1 X dX3_fewestOaken_9 co3 hh (by decide) rfl rfl wfX3_18 ?_
  refine V_iload_n 2 X dX3_fewestOaken_12 rfl rfl ?_
  refine V_callI [.int v2] [] X E dX3_fewestOaken_13 (kX2_vote x.2.1 z hZ N (h + 2) (kt3_1 hZ hh) v2 s2) co2 (kt3_1 hZ hh) gcX3_30 hyX2_vote rfl ⟨by decide, by decide⟩ rfl (Nat.le_of_ble_eq_true rfl) (fun r3 s4 => ?_)
  refine V_if_le (tgt := 23) X dX3_fewestOaken_16 (by decide) ?_ ?_
  · refine V_iconst (v := 0) X dX3_fewestOaken_23 (by decide) ?_
    refine V_sub [0, 1, 2] rfl ?_
    exact bX3_fewestOaken_24 X E hr hZ N h hh v1 v2 0 hk1 s4
  · refine V_iconst (v := 1) X dX3_fewestOaken_19 (by decide) ?_
    refine V_goto (tgt := 24) X dX3_fewestOaken_20 (by decide) ?_
    refine V_sub [0, 1, 2] rfl ?_
    exact bX3_fewestOaken_24 X E hr hZ N h hh v1 v2 1 hk1 s4
theorem kX3_fewestOaken (l : Launch) (z : Sx) (hZ : z.2.2.2.1 = kdC) (N : Nat) (h : Nat) (hh : z.2.2.2.1 h = (3, 0)) (v1 : Nat) (v2 : Int32) (hk1 : z.2.2.2.1 v1 = (0, 0)) (σ : Mem) : Ct QI yX3_fewestOaken cX3_fewestOaken 8 (some .int) 4 95 l z [.ref (z.2.2.1 h), .ref (z.2.2.1 v1), .int v2] σ (fX3_fewestOaken N h v1 v2 σ) := by
  refine Ct_of (by decide +kernel) (Nat.le_of_ble_eq_true rfl) rfl ?_
  intro x _ X E hr
  exact bX3_fewestOaken_0 X E hr hZ N h hh v1 v2 hk1 σ
def fX11_oaken (N : Nat) (h : Nat) (v1 : Int32) (v2 : Int32) (σ : Mem) : Option (Int32 × Mem) :=
  bd (fX11_asked N h v1 v2 σ) (fun or1 s2 => mqK (0, 0) or1 (some ((-1), s2)) (fun r1 => bd (fX3_fewestOaken N (h + 251) r1 v2 s2) (fun r4 s5 => some (r4, s5))))
set_option maxRecDepth 100000 in
set_option maxHeartbeats 4000000 in
theorem bX11_oaken_0 {x : Cx} {z : Sx} (X : XG x z RX11 cX11_oaken 4 5 122) (E : XE x z) (hr : XR x (some .int)) (hZ : z.2.2.2.1 = kdC) (N : Nat) (h : Nat) (hh : z.2.2.2.1 h = (11, 0)) (v1 : Int32) (v2 : Int32) (σ : Mem) : VK x z 4 (BQ QI x z) 0 [(0, .ref (z.2.2.1 h)), (1, .int v1), (2, .int v2)] [] σ (fX11_oaken N h v1 v2 σ) := by
  unfold fX11_oaken
  refine V_aload_n 0 X dX11_oaken_0 rfl rfl ?_
  refine V_iload_n 1 X dX11_oaken_1 rfl rfl ?_
  refine V_iload_n 2 X dX11_oaken_2 rfl rfl ?_
  refine V_callQC (K := (0, 0)) [.int v1, .int v2] [] X E hZ dX11_oaken_3 (kX11_asked x.2.1 z hZ N h hh v1 v2 σ) co11 hh gcX11_115 hyX11_asked rfl ⟨by decide, by decide⟩ rfl (Nat.le_of_ble_eq_true rfl) (fun s2 => ?_) (fun r1 s2 hb3 => ?_)
  · refine V_astore_nN (L' := [(3, .null), (0, .ref (z.2.2.1 h)), (1, .int v1), (2, .int v2)]) X dX11_oaken_6 rfl (by decide) rfl ?_
    refine V_aload_nN 0 X dX11_oaken_7 rfl rfl ?_
    refine V_ifnonnullN X dX11_oaken_8 ?_
    refine V_iconst (v := -1) X dX11_oaken_11 (by decide) ?_
    refine V_goto (tgt := 24) X dX11_oaken_12 (by decide) ?_
    exact V_iret X E hr dX11_oaken_24
  · refine V_astore_n (L' := [(3, .ref (z.2.2.1 r1)), (0, .ref (z.2.2.1 h)), (1, .int v1), (2, .int v2)]) X dX11_oaken_6 rfl (by decide) rfl ?_
    refine V_aload_n 0 X dX11_oaken_7 rfl rfl ?_
    refine V_ifnonnull (tgt := 15) X dX11_oaken_8 (by decide) ?_
    refine V_aload_n 1 X dX11_oaken_15 rfl rfl ?_
    refine V_getR (k1 := (h + 251)) 8 X dX11_oaken_16 co11 hh (by decide) rfl rfl wfX11_62 ?_
    refine V_aload_n 0 X dX11_oaken_19 rfl rfl ?_
    refine V_iload_n 3 X dX11_oaken_20 rfl rfl ?_
    refine V_callI [.ref (z.2.2.1 r1), .int v2] [] X E dX11_oaken_21 (kX3_fewestOaken x.2.1 z hZ N (h + 251) (kt11_8 hZ hh) r1 v2 hb3 s2) co3 (kt11_8 hZ hh) gcX11_338 hyX3_fewestOaken rfl ⟨by decide, by decide⟩ rfl (Nat.le_of_ble_eq_true rfl) (fun r4 s5 => ?_)
    exact V_iret X E hr dX11_oaken_24
theorem kX11_oaken (l : Launch) (z : Sx) (hZ : z.2.2.2.1 = kdC) (N : Nat) (h : Nat) (hh : z.2.2.2.1 h = (11, 0)) (v1 : Int32) (v2 : Int32) (σ : Mem) : Ct QI yX11_oaken cX11_oaken 4 (some .int) 5 122 l z [.ref (z.2.2.1 h), .int v1, .int v2] σ (fX11_oaken N h v1 v2 σ) := by
  refine Ct_of (by decide +kernel) (Nat.le_of_ble_eq_true rfl) rfl ?_
  intro x _ X E hr
  exact bX11_oaken_0 X E hr hZ N h hh v1 v2 σ
def fX10_oneStepFurther_b52 (N : Nat) (rc6 : Int64 → Int64 → Int64 → Int32 → Mem → Option (Int64 × Mem)) (v0 : Int64) (v2 : Int64) (v4 : Int64) (v6 : Int32) (σ : Mem) : Option (Int64 × Mem) :=
  lt_ (v6 + 1) (fun v6_8 => rc6 v0 v2 v4 v6_8 σ)
set_option maxRecDepth 100000 in
set_option maxHeartbeats 4000000 in
theorem bX10_oneStepFurther_52 {x : Cx} {z : Sx} (X : XG x z RX10 cX10_oneStepFurther 8 1 22) (E : XE x z) (hr : XR x (some .long)) (hZ : z.2.2.2.1 = kdC) (N : Nat) (rc6 : Int64 → Int64 → Int64 → Int32 → Mem → Option (Int64 × Mem)) (hc6 : ∀ (v0 : Int64) (v2 : Int64) (v4 : Int64) (v6 : Int32) (σ : Mem), VK x z 8 (BQ QL x z) 6 [(0, .long v0), (2, .long v2), (4, .long v4), (6, .int v6)] [] σ (rc6 v0 v2 v4 v6 σ)) (v0 : Int64) (v2 : Int64) (v4 : Int64) (v6 : Int32) (σ : Mem) : VK x z 8 (BQ QL x z) 52 [(0, .long v0), (2, .long v2), (4, .long v4), (6, .int v6)] [] σ (fX10_oneStepFurther_b52 N rc6 v0 v2 v4 v6 σ) := by
  unfold fX10_oneStepFurther_b52
  refine V_iincG (L' := fun v6_8 => [(6, .int v6_8), (0, .long v0), (2, .long v2), (4, .long v4)]) 3 X dX10_oneStepFurther_52 rfl rfl (by decide) (fun _ => rfl) (fun v6_8 => ?_)
  refine V_goto (tgt := 6) X dX10_oneStepFurther_55 (by decide) ?_
  refine V_sub [1, 2, 3, 0] rfl ?_
  exact hc6 v0 v2 v4 v6_8 σ
def fX10_oneStepFurther_b16 (N : Nat) (rc6 : Int64 → Int64 → Int64 → Int32 → Mem → Option (Int64 × Mem)) (rc16 : Int64 → Int64 → Int64 → Int32 → Int32 → Mem → Option (Int64 × Mem)) (v0 : Int64) (v2 : Int64) (v4 : Int64) (v6 : Int32) (v7 : Int32) (σ : Mem) : Option (Int64 × Mem) :=
  if 6 ≤ v7 then fX10_oneStepFurther_b52 N rc6 v0 v2 v4 v6 σ else bd (fX10_isIn N v0 v6 σ) (fun r4 s5 => if r4 = 0 then fX10_oneStepFurther_b52 N rc6 v0 v2 v4 v6 s5 else lt_ (v4 ||| ((1 : Int64) <<< (((v6 ^^^ ((1 : Int32) <<< (v7 &&& 31))) : Int32).toInt64 &&& 63))) (fun v4_6 => lt_ (v7 + 1) (fun v7_7 => rc16 v0 v2 v4_6 v6 v7_7 s5)))
set_option maxRecDepth 100000 in
set_option maxHeartbeats 4000000 in
theorem bX10_oneStepFurther_16 {x : Cx} {z : Sx} (X : XG x z RX10 cX10_oneStepFurther 8 1 22) (E : XE x z) (hr : XR x (some .long)) (hZ : z.2.2.2.1 = kdC) (N : Nat) (rc6 : Int64 → Int64 → Int64 → Int32 → Mem → Option (Int64 × Mem)) (hc6 : ∀ (v0 : Int64) (v2 : Int64) (v4 : Int64) (v6 : Int32) (σ : Mem), VK x z 8 (BQ QL x z) 6 [(0, .long v0), (2, .long v2), (4, .long v4), (6, .int v6)] [] σ (rc6 v0 v2 v4 v6 σ)) (rc16 : Int64 → Int64 → Int64 → Int32 → Int32 → Mem → Option (Int64 × Mem)) (hc16 : ∀ (v0 : Int64) (v2 : Int64) (v4 : Int64) (v6 : Int32) (v7 : Int32) (σ : Mem), VK x z 8 (BQ QL x z) 16 [(0, .long v0), (2, .long v2), (4, .long v4), (6, .int v6), (7, .int v7)] [] σ (rc16 v0 v2 v4 v6 v7 σ)) (v0 : Int64) (v2 : Int64) (v4 : Int64) (v6 : Int32) (v7 : Int32) (σ : Mem) : VK x z 8 (BQ QL x z) 16 [(0, .long v0), (2, .long v2), (4, .long v4), (6, .int v6), (7, .int v7)] [] σ (fX10_oneStepFurther_b16 N rc6 rc16 v0 v2 v4 v6 v7 σ) := by
  unfold fX10_oneStepFurther_b16
  refine V_iload 4 X dX10_oneStepFurther_16 rfl ?_
  refine V_bipush (v := 6) X dX10_oneStepFurther_18 (by decide) ?_
  refine V_icmp_ge (tgt := 52) X dX10_oneStepFurther_20 (by decide) ?_ ?_
  · refine V_sub [0, 1, 2, 3] rfl ?_
    exact bX10_oneStepFurther_52 X E hr hZ N rc6 hc6 v0 v2 v4 v6 σ
  · refine V_lload_n 0 X dX10_oneStepFurther_23 rfl rfl ?_
    refine V_iload 3 X dX10_oneStepFurther_24 rfl ?_
    refine V_calSI [.long v0, .int v6] [] X E dX10_oneStepFurther_26 (kX10_isIn x.2.1 z hZ N v0 v6 σ) gcX10_56 hyX10_isIn rfl ⟨by decide, by decide⟩ rfl (Nat.le_of_ble_eq_true rfl) (fun r4 s5 => ?_)
    refine V_if_eq (tgt := 52) X dX10_oneStepFurther_29 (by decide) ?_ ?_
    · refine V_sub [0, 1, 2, 3] rfl ?_
      exact bX10_oneStepFurther_52 X E hr hZ N rc6 hc6 v0 v2 v4 v6 s5
    · refine V_lload 2 X dX10_oneStepFurther_32 rfl ?_
      refine V_lconst (v := 1) X dX10_oneStepFurther_34 (by decide) ?_
      refine V_iload 3 X dX10_oneStepFurther_35 rfl ?_
      refine V_iconst (v := 1) X dX10_oneStepFurther_37 (by decide) ?_
      refine V_iload 4 X dX10_oneStepFurther_38 rfl ?_
      refine V_ishl X dX10_oneStepFurther_40 ?_
      refine V_ixor X dX10_oneStepFurther_41 ?_
      refine V_lshl X dX10_oneStepFurther_42 ?_
      refine V_lor X dX10_oneStepFurther_43 ?_
      refine V_lstoreG (L' := fun v4_6 => [(4, .long v4_6), (0, .long v0), (2, .long v2), (6, .int v6), (7, .int v7)]) X dX10_oneStepFurther_44 (by decide) (fun _ => rfl) (fun v4_6 => ?_)
      refine V_iincG (L' := fun v7_7 => [(7, .int v7_7), (4, .long v4_6), (0, .long v0), (2, .long v2), (6, .int v6)]) 4 X dX10_oneStepFurther_46 rfl rfl (by decide) (fun _ => rfl) (fun v7_7 => ?_)
      refine V_goto (tgt := 16) X dX10_oneStepFurther_49 (by decide) ?_
      refine V_sub [2, 3, 1, 4, 0] rfl ?_
      exact hc16 v0 v2 v4_6 v6 v7_7 s5
def fX10_oneStepFurther_l16 (N : Nat) (rc6 : Int64 → Int64 → Int64 → Int32 → Mem → Option (Int64 × Mem)) : Nat → Int64 → Int64 → Int64 → Int32 → Int32 → Mem → Option (Int64 × Mem)
  | 0 => fun _ _ _ _ _ _ => none
  | n + 1 => fX10_oneStepFurther_b16 N rc6 (fX10_oneStepFurther_l16 N rc6 n)
theorem lX10_oneStepFurther_16 {x : Cx} {z : Sx} (X : XG x z RX10 cX10_oneStepFurther 8 1 22) (E : XE x z) (hr : XR x (some .long)) (hZ : z.2.2.2.1 = kdC) (N : Nat) (rc6 : Int64 → Int64 → Int64 → Int32 → Mem → Option (Int64 × Mem)) (hc6 : ∀ (v0 : Int64) (v2 : Int64) (v4 : Int64) (v6 : Int32) (σ : Mem), VK x z 8 (BQ QL x z) 6 [(0, .long v0), (2, .long v2), (4, .long v4), (6, .int v6)] [] σ (rc6 v0 v2 v4 v6 σ)) (n : Nat) (v0 : Int64) (v2 : Int64) (v4 : Int64) (v6 : Int32) (v7 : Int32) (σ : Mem) : VK x z 8 (BQ QL x z) 16 [(0, .long v0), (2, .long v2), (4, .long v4), (6, .int v6), (7, .int v7)] [] σ (fX10_oneStepFurther_l16 N rc6 n v0 v2 v4 v6 v7 σ) := by
  induction n generalizing v0 v2 v4 v6 v7 σ with
  | zero => exact V_none
  | succ n ih => exact bX10_oneStepFurther_16 X E hr hZ N rc6 hc6 (fX10_oneStepFurther_l16 N rc6 n) ih v0 v2 v4 v6 v7 σ
def fX10_oneStepFurther_b6 (N : Nat) (rc6 : Int64 → Int64 → Int64 → Int32 → Mem → Option (Int64 × Mem)) (v0 : Int64) (v2 : Int64) (v4 : Int64) (v6 : Int32) (σ : Mem) : Option (Int64 × Mem) :=
  if 64 ≤ v6 then some ((v4 &&& v2), σ) else lt_ 0 (fun v7_3 => fX10_oneStepFurther_l16 N rc6 N v0 v2 v4 v6 v7_3 σ)
set_option maxRecDepth 100000 in
set_option maxHeartbeats 4000000 in
theorem bX10_oneStepFurther_6 {x : Cx} {z : Sx} (X : XG x z RX10 cX10_oneStepFurther 8 1 22) (E : XE x z) (hr : XR x (some .long)) (hZ : z.2.2.2.1 = kdC) (N : Nat) (rc6 : Int64 → Int64 → Int64 → Int32 → Mem → Option (Int64 × Mem)) (hc6 : ∀ (v0 : Int64) (v2 : Int64) (v4 : Int64) (v6 : Int32) (σ : Mem), VK x z 8 (BQ QL x z) 6 [(0, .long v0), (2, .long v2), (4, .long v4), (6, .int v6)] [] σ (rc6 v0 v2 v4 v6 σ)) (v0 : Int64) (v2 : Int64) (v4 : Int64) (v6 : Int32) (σ : Mem) : VK x z 8 (BQ QL x z) 6 [(0, .long v0), (2, .long v2), (4, .long v4), (6, .int v6)] [] σ (fX10_oneStepFurther_b6 N rc6 v0 v2 v4 v6 σ) := by
  unfold fX10_oneStepFurther_b6
  refine V_iload 3 X dX10_oneStepFurther_6 rfl ?_
  refine V_bipush (v := 64) X dX10_oneStepFurther_8 (by decide) ?_
  refine V_icmp_ge (tgt := 58) X dX10_oneStepFurther_10 (by decide) ?_ ?_
  · refine V_lload 2 X dX10_oneStepFurther_58 rfl ?_
    refine V_lload_n 1 X dX10_oneStepFurther_60 rfl rfl ?_
    refine V_land X dX10_oneStepFurther_61 ?_
    exact V_lret X E hr dX10_oneStepFurther_62
  · refine V_iconst (v := 0) X dX10_oneStepFurther_13 (by decide) ?_
    refine V_istoreG (L' := fun v7_3 => [(7, .int v7_3), (0, .long v0), (2, .long v2), (4, .long v4), (6, .int v6)]) X dX10_oneStepFurther_14 (by decide) (fun _ => rfl) (fun v7_3 => ?_)
    refine V_sub [1, 2, 3, 4, 0] rfl ?_
    exact lX10_oneStepFurther_16 X E hr hZ N rc6 hc6 N v0 v2 v4 v6 v7_3 σ
def fX10_oneStepFurther_l6 (N : Nat) : Nat → Int64 → Int64 → Int64 → Int32 → Mem → Option (Int64 × Mem)
  | 0 => fun _ _ _ _ _ => none
  | n + 1 => fX10_oneStepFurther_b6 N (fX10_oneStepFurther_l6 N n)
theorem lX10_oneStepFurther_6 {x : Cx} {z : Sx} (X : XG x z RX10 cX10_oneStepFurther 8 1 22) (E : XE x z) (hr : XR x (some .long)) (hZ : z.2.2.2.1 = kdC) (N : Nat) (n : Nat) (v0 : Int64) (v2 : Int64) (v4 : Int64) (v6 : Int32) (σ : Mem) : VK x z 8 (BQ QL x z) 6 [(0, .long v0), (2, .long v2), (4, .long v4), (6, .int v6)] [] σ (fX10_oneStepFurther_l6 N n v0 v2 v4 v6 σ) := by
  induction n generalizing v0 v2 v4 v6 σ with
  | zero => exact V_none
  | succ n ih => exact bX10_oneStepFurther_6 X E hr hZ N (fX10_oneStepFurther_l6 N n) ih v0 v2 v4 v6 σ
def fX10_oneStepFurther (N : Nat) (v0 : Int64) (v2 : Int64) (σ : Mem) : Option (Int64 × Mem) :=
  lt_ v0 (fun v4_1 => lt_ 0 (fun v6_2 => fX10_oneStepFurther_l6 N N v0 v2 v4_1 v6_2 σ))
set_option maxRecDepth 100000 in
set_option maxHeartbeats 4000000 in
theorem bX10_oneStepFurther_0 {x : Cx} {z : Sx} (X : XG x z RX10 cX10_oneStepFurther 8 1 22) (E : XE x z) (hr : XR x (some .long)) (hZ : z.2.2.2.1 = kdC) (N : Nat) (v0 : Int64) (v2 : Int64) (σ : Mem) : VK x z 8 (BQ QL x z) 0 [(0, .long v0), (2, .long v2)] [] σ (fX10_oneStepFurther N v0 v2 σ) := by
  unfold fX10_oneStepFurther
  refine V_lload_n 0 X dX10_oneStepFurther_0 rfl rfl ?_
  refine V_lstoreG (L' := fun v4_1 => [(4, .long v4_1), (0, .long v0), (2, .long v2)]) X dX10_oneStepFurther_1 (by decide) (fun _ => rfl) (fun v4_1 => ?_)
  refine V_iconst (v := 0) X dX10_oneStepFurther_3 (by decide) ?_
  refine V_istoreG (L' := fun v6_2 => [(6, .int v6_2), (4, .long v4_1), (0, .long v0), (2, .long v2)]) X dX10_oneStepFurther_4 (by decide) (fun _ => rfl) (fun v6_2 => ?_)
  refine V_sub [2, 3, 1, 0] rfl ?_
  exact lX10_oneStepFurther_6 X E hr hZ N N v0 v2 v4_1 v6_2 σ
theorem kX10_oneStepFurther (l : Launch) (z : Sx) (hZ : z.2.2.2.1 = kdC) (N : Nat) (v0 : Int64) (v2 : Int64) (σ : Mem) : Ct QL yX10_oneStepFurther cX10_oneStepFurther 8 (some .long) 1 22 l z [.long v0, .long v2] σ (fX10_oneStepFurther N v0 v2 σ) := by
  refine Ct_of (by decide +kernel) (Nat.le_of_ble_eq_true rfl) rfl ?_
  intro x _ X E hr
  exact bX10_oneStepFurther_0 X E hr hZ N v0 v2 σ
def fX10_stepsWithin_b10 (N : Nat) (rc10 : Int64 → Int32 → Int64 → Int32 → Mem → Option (Int32 × Mem)) (v0 : Int64) (v3 : Int32) (v4 : Int64) (v6 : Int32) (σ : Mem) : Option (Int32 × Mem) :=
  if 64 ≤ v6 then some ((-1), σ) else bd (fX10_isIn N v4 v3 σ) (fun r3 s4 => if r3 = 0 then bd (fX10_oneStepFurther N v4 v0 s4) (fun r5 s6 => lt_ r5 (fun v4_7 => lt_ (v6 + 1) (fun v6_8 => rc10 v0 v3 v4_7 v6_8 s6))) else some (v6, s4))
set_option maxRecDepth 100000 in
set_option maxHeartbeats 4000000 in
theorem bX10_stepsWithin_10 {x : Cx} {z : Sx} (X : XG x z RX10 cX10_stepsWithin 7 2 49) (E : XE x z) (hr : XR x (some .int)) (hZ : z.2.2.2.1 = kdC) (N : Nat) (rc10 : Int64 → Int32 → Int64 → Int32 → Mem → Option (Int32 × Mem)) (hc10 : ∀ (v0 : Int64) (v3 : Int32) (v4 : Int64) (v6 : Int32) (σ : Mem), VK x z 7 (BQ QI x z) 10 [(0, .long v0), (3, .int v3), (4, .long v4), (6, .int v6)] [] σ (rc10 v0 v3 v4 v6 σ)) (v0 : Int64) (v3 : Int32) (v4 : Int64) (v6 : Int32) (σ : Mem) : VK x z 7 (BQ QI x z) 10 [(0, .long v0), (3, .int v3), (4, .long v4), (6, .int v6)] [] σ (fX10_stepsWithin_b10 N rc10 v0 v3 v4 v6 σ) := by
  unfold fX10_stepsWithin_b10
  refine V_iload 3 X dX10_stepsWithin_10 rfl ?_
  refine V_bipush (v := 64) X dX10_stepsWithin_12 (by decide) ?_
  refine V_icmp_ge (tgt := 43) X dX10_stepsWithin_14 (by decide) ?_ ?_
  · refine V_iconst (v := -1) X dX10_stepsWithin_43 (by decide) ?_
    exact V_iret X E hr dX10_stepsWithin_44
  · refine V_lload 2 X dX10_stepsWithin_17 rfl ?_
    refine V_iload_n 1 X dX10_stepsWithin_19 rfl rfl ?_
    refine V_calSI [.long v4, .int v3] [] X E dX10_stepsWithin_20 (kX10_isIn x.2.1 z hZ N v4 v3 σ) gcX10_56 hyX10_isIn rfl ⟨by decide, by decide⟩ rfl (Nat.le_of_ble_eq_true rfl) (fun r3 s4 => ?_)
    refine V_if_eq (tgt := 29) X dX10_stepsWithin_23 (by decide) ?_ ?_
    · refine V_lload 2 X dX10_stepsWithin_29 rfl ?_
      refine V_lload_n 0 X dX10_stepsWithin_31 rfl rfl ?_
      refine V_calSL [.long v4, .long v0] [] X E dX10_stepsWithin_32 (kX10_oneStepFurther x.2.1 z hZ N v4 v0 s4) gcX10_64 hyX10_oneStepFurther rfl ⟨by decide, by decide⟩ rfl (Nat.le_of_ble_eq_true rfl) (fun r5 s6 => ?_)
      refine V_lstoreG (L' := fun v4_7 => [(4, .long v4_7), (0, .long v0), (3, .int v3), (6, .int v6)]) X dX10_stepsWithin_35 (by decide) (fun _ => rfl) (fun v4_7 => ?_)
      refine V_iincG (L' := fun v6_8 => [(6, .int v6_8), (4, .long v4_7), (0, .long v0), (3, .int v3)]) 3 X dX10_stepsWithin_37 rfl rfl (by decide) (fun _ => rfl) (fun v6_8 => ?_)
      refine V_goto (tgt := 10) X dX10_stepsWithin_40 (by decide) ?_
      refine V_sub [2, 3, 1, 0] rfl ?_
      exact hc10 v0 v3 v4_7 v6_8 s6
    · refine V_iload 3 X dX10_stepsWithin_26 rfl ?_
      exact V_iret X E hr dX10_stepsWithin_28
def fX10_stepsWithin_l10 (N : Nat) : Nat → Int64 → Int32 → Int64 → Int32 → Mem → Option (Int32 × Mem)
  | 0 => fun _ _ _ _ _ => none
  | n + 1 => fX10_stepsWithin_b10 N (fX10_stepsWithin_l10 N n)
theorem lX10_stepsWithin_10 {x : Cx} {z : Sx} (X : XG x z RX10 cX10_stepsWithin 7 2 49) (E : XE x z) (hr : XR x (some .int)) (hZ : z.2.2.2.1 = kdC) (N : Nat) (n : Nat) (v0 : Int64) (v3 : Int32) (v4 : Int64) (v6 : Int32) (σ : Mem) : VK x z 7 (BQ QI x z) 10 [(0, .long v0), (3, .int v3), (4, .long v4), (6, .int v6)] [] σ (fX10_stepsWithin_l10 N n v0 v3 v4 v6 σ) := by
  induction n generalizing v0 v3 v4 v6 σ with
  | zero => exact V_none
  | succ n ih => exact bX10_stepsWithin_10 X E hr hZ N (fX10_stepsWithin_l10 N n) ih v0 v3 v4 v6 σ
def fX10_stepsWithin (N : Nat) (v0 : Int64) (v2 : Int32) (v3 : Int32) (σ : Mem) : Option (Int32 × Mem) :=
  lt_ (((1 : Int64) <<< ((v2 : Int32).toInt64 &&& 63)) &&& v0) (fun v4_1 => lt_ 0 (fun v6_2 => fX10_stepsWithin_l10 N N v0 v3 v4_1 v6_2 σ))
set_option maxRecDepth 100000 in
set_option maxHeartbeats 4000000 in
theorem bX10_stepsWithin_0 {x : Cx} {z : Sx} (X : XG x z RX10 cX10_stepsWithin 7 2 49) (E : XE x z) (hr : XR x (some .int)) (hZ : z.2.2.2.1 = kdC) (N : Nat) (v0 : Int64) (v2 : Int32) (v3 : Int32) (σ : Mem) : VK x z 7 (BQ QI x z) 0 [(0, .long v0), (2, .int v2), (3, .int v3)] [] σ (fX10_stepsWithin N v0 v2 v3 σ) := by
  unfold fX10_stepsWithin
  refine V_lconst (v := 1) X dX10_stepsWithin_0 (by decide) ?_
  refine V_iload_n 1 X dX10_stepsWithin_1 rfl rfl ?_
  refine V_lshl X dX10_stepsWithin_2 ?_
  refine V_lload_n 0 X dX10_stepsWithin_3 rfl rfl ?_
  refine V_land X dX10_stepsWithin_4 ?_
  refine V_lstoreG (L' := fun v4_1 => [(4, .long v4_1), (0, .long v0), (2, .int v2), (3, .int v3)]) X dX10_stepsWithin_5 (by decide) (fun _ => rfl) (fun v4_1 => ?_)
  refine V_iconst (v := 0) X dX10_stepsWithin_7 (by decide) ?_
  refine V_istoreG (L' := fun v6_2 => [(6, .int v6_2), (4, .long v4_1), (0, .long v0), (2, .int v2), (3, .int v3)]) X dX10_stepsWithin_8 (by decide) (fun _ => rfl) (fun v6_2 => ?_)
  refine V_sub [2, 4, 1, 0] rfl ?_
  exact lX10_stepsWithin_10 X E hr hZ N N v0 v3 v4_1 v6_2 σ
theorem kX10_stepsWithin (l : Launch) (z : Sx) (hZ : z.2.2.2.1 = kdC) (N : Nat) (v0 : Int64) (v2 : Int32) (v3 : Int32) (σ : Mem) : Ct QI yX10_stepsWithin cX10_stepsWithin 7 (some .int) 2 49 l z [.long v0, .int v2, .int v3] σ (fX10_stepsWithin N v0 v2 v3 σ) := by
  refine Ct_of (by decide +kernel) (Nat.le_of_ble_eq_true rfl) rfl ?_
  intro x _ X E hr
  exact bX10_stepsWithin_0 X E hr hZ N v0 v2 v3 σ
def fX11_walk (N : Nat) (h : Nat) (v1 : Int32) (v2 : Int32) (v3 : Int32) (σ : Mem) : Option (Int32 × Mem) :=
  bd (fX11_asked N h v1 v2 σ) (fun or1 s2 => mqK (0, 0) or1 (some ((-1), s2)) (fun r1 => bd (fX11_isMotion N v3 s2) (fun r4 s5 => if r4 = 0 then some ((-1), s5) else bd (fX10_carriedSet N (h + 220) r1 s5) (fun r6 s7 => bd (fX10_stepsWithin N r6 v2 v3 s7) (fun r8 s9 => some (r8, s9))))))
set_option maxRecDepth 100000 in
set_option maxHeartbeats 4000000 in
theorem bX11_walk_0 {x : Cx} {z : Sx} (X : XG x z RX11 cX11_walk 5 5 119) (E : XE x z) (hr : XR x (some .int)) (hZ : z.2.2.2.1 = kdC) (N : Nat) (h : Nat) (hh : z.2.2.2.1 h = (11, 0)) (v1 : Int32) (v2 : Int32) (v3 : Int32) (σ : Mem) : VK x z 5 (BQ QI x z) 0 [(0, .ref (z.2.2.1 h)), (1, .int v1), (2, .int v2), (3, .int v3)] [] σ (fX11_walk N h v1 v2 v3 σ) := by
  unfold fX11_walk
  refine V_aload_n 0 X dX11_walk_0 rfl rfl ?_
  refine V_iload_n 1 X dX11_walk_1 rfl rfl ?_
  refine V_iload_n 2 X dX11_walk_2 rfl rfl ?_
  refine V_callQC (K := (0, 0)) [.int v1, .int v2] [] X E hZ dX11_walk_3 (kX11_asked x.2.1 z hZ N h hh v1 v2 σ) co11 hh gcX11_115 hyX11_asked rfl ⟨by decide, by decide⟩ rfl (Nat.le_of_ble_eq_true rfl) (fun s2 => ?_) (fun r1 s2 hb3 => ?_)
  · refine V_astoreN (L' := [(4, .null), (0, .ref (z.2.2.1 h)), (1, .int v1), (2, .int v2), (3, .int v3)]) X dX11_walk_6 (by decide) rfl ?_
    refine V_aloadN 0 X dX11_walk_8 rfl ?_
    refine V_ifnullN (tgt := 20) X dX11_walk_10 (by decide) ?_
    refine V_iconst (v := -1) X dX11_walk_20 (by decide) ?_
    exact V_iret X E hr dX11_walk_21
  · refine V_astore (L' := [(4, .ref (z.2.2.1 r1)), (0, .ref (z.2.2.1 h)), (1, .int v1), (2, .int v2), (3, .int v3)]) X dX11_walk_6 (by decide) rfl ?_
    refine V_aload 0 X dX11_walk_8 rfl ?_
    refine V_ifnull X dX11_walk_10 ?_
    refine V_iload_n 4 X dX11_walk_13 rfl rfl ?_
    refine V_calSI [.int v3] [] X E dX11_walk_14 (kX11_isMotion x.2.1 z hZ N v3 s2) gcX11_280 hyX11_isMotion rfl ⟨by decide, by decide⟩ rfl (Nat.le_of_ble_eq_true rfl) (fun r4 s5 => ?_)
    refine V_if_ne (tgt := 22) X dX11_walk_17 (by decide) ?_ ?_
    · refine V_aload_n 1 X dX11_walk_22 rfl rfl ?_
      refine V_getR (k1 := (h + 220)) 6 X dX11_walk_23 co11 hh (by decide) rfl rfl wfX11_48 ?_
      refine V_aload 0 X dX11_walk_26 rfl ?_
      refine V_callL [.ref (z.2.2.1 r1)] [] X E dX11_walk_28 (kX10_carriedSet x.2.1 z hZ N (h + 220) (kt11_6 hZ hh) r1 hb3 s5) co10 (kt11_6 hZ hh) gcX11_158 hyX10_carriedSet rfl ⟨by decide, by decide⟩ rfl (Nat.le_of_ble_eq_true rfl) (fun r6 s7 => ?_)
      refine V_iload_n 3 X dX11_walk_31 rfl rfl ?_
      refine V_iload_n 4 X dX11_walk_32 rfl rfl ?_
      refine V_calSI [.long r6, .int v2, .int v3] [] X E dX11_walk_33 (kX10_stepsWithin x.2.1 z hZ N r6 v2 v3 s7) gcX11_341 hyX10_stepsWithin rfl ⟨by decide, by decide⟩ rfl (Nat.le_of_ble_eq_true rfl) (fun r8 s9 => ?_)
      exact V_iret X E hr dX11_walk_36
    · refine V_iconst (v := -1) X dX11_walk_20 (by decide) ?_
      exact V_iret X E hr dX11_walk_21
theorem kX11_walk (l : Launch) (z : Sx) (hZ : z.2.2.2.1 = kdC) (N : Nat) (h : Nat) (hh : z.2.2.2.1 h = (11, 0)) (v1 : Int32) (v2 : Int32) (v3 : Int32) (σ : Mem) : Ct QI yX11_walk cX11_walk 5 (some .int) 5 119 l z [.ref (z.2.2.1 h), .int v1, .int v2, .int v3] σ (fX11_walk N h v1 v2 v3 σ) := by
  refine Ct_of (by decide +kernel) (Nat.le_of_ble_eq_true rfl) rfl ?_
  intro x _ X E hr
  exact bX11_walk_0 X E hr hZ N h hh v1 v2 v3 σ
