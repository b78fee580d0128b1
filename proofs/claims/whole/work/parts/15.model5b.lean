def fX12_worded_b70 (N : Nat) (rc26 : Int32 → Int32 → Int32 → Mem → Option (Int32 × Mem)) (v2 : Int32) (v3 : Int32) (v4 : Int32) (σ : Mem) : Option (Int32 × Mem) :=
  lt_ (v4 + 1) (fun v4_13 => rc26 v2 v3 v4_13 σ)
set_option maxRecDepth 100000 in
set_option maxHeartbeats 4000000 in
theorem bX12_worded_70 {x : Cx} {z : Sx} (X : XG x z RX12 cX12_worded 5 5 113) (E : XE x z) (hr : XR x (some .int)) (hZ : z.2.2.2.1 = kdM) (N : Nat) (rc26 : Int32 → Int32 → Int32 → Mem → Option (Int32 × Mem)) (hc26 : ∀ (v2 : Int32) (v3 : Int32) (v4 : Int32) (σ : Mem), VK x z 5 (BQ QI x z) 26 [(0, .ref (z.2.2.1 0)), (2, .int v2), (3, .int v3), (4, .int v4)] [] σ (rc26 v2 v3 v4 σ)) (v2 : Int32) (v3 : Int32) (v4 : Int32) (σ : Mem) : VK x z 5 (BQ QI x z) 70 [(0, .ref (z.2.2.1 0)), (2, .int v2), (3, .int v3), (4, .int v4)] [] σ (fX12_worded_b70 N rc26 v2 v3 v4 σ) := by
  unfold fX12_worded_b70
  refine V_iincG (L' := fun v4_13 => [(4, .int v4_13), (0, .ref (z.2.2.1 0)), (2, .int v2), (3, .int v3)]) 3 X dX12_worded_70 rfl rfl (by decide) (fun _ => rfl) (fun v4_13 => ?_)
  refine V_goto (tgt := 26) X dX12_worded_73 (by decide) ?_
  refine V_sub [1, 2, 3, 0] rfl ?_
  exact hc26 v2 v3 v4_13 σ
def fX12_worded_b58 (N : Nat) (rc26 : Int32 → Int32 → Int32 → Mem → Option (Int32 × Mem)) (v2 : Int32) (v3 : Int32) (v4 : Int32) (σ : Mem) : Option (Int32 × Mem) :=
  bd (fX12_answers N v4 σ) (fun r14 s15 => if r14 = 0 then fX12_worded_b70 N rc26 v2 v3 v4 s15 else lt_ v4 (fun v3_16 => fX12_worded_b70 N rc26 v2 v3_16 v4 s15))
set_option maxRecDepth 100000 in
set_option maxHeartbeats 4000000 in
theorem bX12_worded_58 {x : Cx} {z : Sx} (X : XG x z RX12 cX12_worded 5 5 113) (E : XE x z) (hr : XR x (some .int)) (hZ : z.2.2.2.1 = kdM) (N : Nat) (rc26 : Int32 → Int32 → Int32 → Mem → Option (Int32 × Mem)) (hc26 : ∀ (v2 : Int32) (v3 : Int32) (v4 : Int32) (σ : Mem), VK x z 5 (BQ QI x z) 26 [(0, .ref (z.2.2.1 0)), (2, .int v2), (3, .int v3), (4, .int v4)] [] σ (rc26 v2 v3 v4 σ)) (v2 : Int32) (v3 : Int32) (v4 : Int32) (σ : Mem) : VK x z 5 (BQ QI x z) 58 [(0, .ref (z.2.2.1 0)), (2, .int v2), (3, .int v3), (4, .int v4)] [] σ (fX12_worded_b58 N rc26 v2 v3 v4 σ) := by
  unfold fX12_worded_b58
  refine V_aload_n 0 X dX12_worded_58 rfl rfl ?_
  refine V_iload 3 X dX12_worded_59 rfl ?_
  refine V_callI [.int v4] [] X E dX12_worded_61 (kX12_answers x.2.1 z hZ N v4 σ) co12 (kM hZ 0 _ rfl) gcX12_216 hyX12_answers rfl ⟨by decide, by decide⟩ rfl (Nat.le_of_ble_eq_true rfl) (fun r14 s15 => ?_)
  refine V_if_eq (tgt := 70) X dX12_worded_64 (by decide) ?_ ?_
  · refine V_sub [0, 1, 2, 3] rfl ?_
    exact bX12_worded_70 X E hr hZ N rc26 hc26 v2 v3 v4 s15
  · refine V_iload 3 X dX12_worded_67 rfl ?_
    refine V_istore_nG (L' := fun v3_16 => [(3, .int v3_16), (0, .ref (z.2.2.1 0)), (2, .int v2), (4, .int v4)]) X dX12_worded_69 rfl (by decide) (fun _ => rfl) (fun v3_16 => ?_)
    refine V_sub [1, 2, 0, 3] rfl ?_
    exact bX12_worded_70 X E hr hZ N rc26 hc26 v2 v3_16 v4 s15
def fX12_worded_b26 (N : Nat) (rc26 : Int32 → Int32 → Int32 → Mem → Option (Int32 × Mem)) (v2 : Int32) (v3 : Int32) (v4 : Int32) (σ : Mem) : Option (Int32 × Mem) :=
  if 64 ≤ v4 then some (v3, σ) else if (v4 &&& v2) = v2 then if v3 = (-1) then fX12_worded_b58 N rc26 v2 v3 v4 σ else bd (fX12_bitsOf N v4 σ) (fun r9 s10 => bd (fX12_bitsOf N v3 s10) (fun r11 s12 => if r11 ≤ r9 then fX12_worded_b70 N rc26 v2 v3 v4 s12 else fX12_worded_b58 N rc26 v2 v3 v4 s12)) else fX12_worded_b70 N rc26 v2 v3 v4 σ
set_option maxRecDepth 100000 in
set_option maxHeartbeats 4000000 in
theorem bX12_worded_26 {x : Cx} {z : Sx} (X : XG x z RX12 cX12_worded 5 5 113) (E : XE x z) (hr : XR x (some .int)) (hZ : z.2.2.2.1 = kdM) (N : Nat) (rc26 : Int32 → Int32 → Int32 → Mem → Option (Int32 × Mem)) (hc26 : ∀ (v2 : Int32) (v3 : Int32) (v4 : Int32) (σ : Mem), VK x z 5 (BQ QI x z) 26 [(0, .ref (z.2.2.1 0)), (2, .int v2), (3, .int v3), (4, .int v4)] [] σ (rc26 v2 v3 v4 σ)) (v2 : Int32) (v3 : Int32) (v4 : Int32) (σ : Mem) : VK x z 5 (BQ QI x z) 26 [(0, .ref (z.2.2.1 0)), (2, .int v2), (3, .int v3), (4, .int v4)] [] σ (fX12_worded_b26 N rc26 v2 v3 v4 σ) := by
  unfold fX12_worded_b26
  refine V_iload 3 X dX12_worded_26 rfl ?_
  refine V_bipush (v := 64) X dX12_worded_28 (by decide) ?_
  refine V_icmp_ge (tgt := 76) X dX12_worded_30 (by decide) ?_ ?_
  · refine V_iload_n 2 X dX12_worded_76 rfl rfl ?_
    exact V_iret X E hr dX12_worded_77
  · refine V_iload 3 X dX12_worded_33 rfl ?_
    refine V_iload_n 1 X dX12_worded_35 rfl rfl ?_
    refine V_iand X dX12_worded_36 ?_
    refine V_iload_n 1 X dX12_worded_37 rfl rfl ?_
    refine V_icmp_ne (tgt := 70) X dX12_worded_38 (by decide) ?_ ?_
    · refine V_sub [0, 1, 2, 3] rfl ?_
      exact bX12_worded_70 X E hr hZ N rc26 hc26 v2 v3 v4 σ
    · refine V_iload_n 2 X dX12_worded_41 rfl rfl ?_
      refine V_iconst (v := -1) X dX12_worded_42 (by decide) ?_
      refine V_icmp_eq (tgt := 58) X dX12_worded_43 (by decide) ?_ ?_
      · refine V_sub [0, 1, 2, 3] rfl ?_
        exact bX12_worded_58 X E hr hZ N rc26 hc26 v2 v3 v4 σ
      · refine V_iload 3 X dX12_worded_46 rfl ?_
        refine V_calSI [.int v4] [] X E dX12_worded_48 (kX12_bitsOf x.2.1 z hZ N v4 σ) gcX12_195 hyX12_bitsOf rfl ⟨by decide, by decide⟩ rfl (Nat.le_of_ble_eq_true rfl) (fun r9 s10 => ?_)
        refine V_iload_n 2 X dX12_worded_51 rfl rfl ?_
        refine V_calSI [.int v3] [.int r9] X E dX12_worded_52 (kX12_bitsOf x.2.1 z hZ N v3 s10) gcX12_195 hyX12_bitsOf rfl ⟨by decide, by decide⟩ rfl (Nat.le_of_ble_eq_true rfl) (fun r11 s12 => ?_)
        refine V_icmp_ge (tgt := 70) X dX12_worded_55 (by decide) ?_ ?_
        · refine V_sub [0, 1, 2, 3] rfl ?_
          exact bX12_worded_70 X E hr hZ N rc26 hc26 v2 v3 v4 s12
        · refine V_sub [0, 1, 2, 3] rfl ?_
          exact bX12_worded_58 X E hr hZ N rc26 hc26 v2 v3 v4 s12
def fX12_worded_l26 (N : Nat) : Nat → Int32 → Int32 → Int32 → Mem → Option (Int32 × Mem)
  | 0 => fun _ _ _ _ => none
  | n + 1 => fX12_worded_b26 N (fX12_worded_l26 N n)
theorem lX12_worded_26 {x : Cx} {z : Sx} (X : XG x z RX12 cX12_worded 5 5 113) (E : XE x z) (hr : XR x (some .int)) (hZ : z.2.2.2.1 = kdM) (N : Nat) (n : Nat) (v2 : Int32) (v3 : Int32) (v4 : Int32) (σ : Mem) : VK x z 5 (BQ QI x z) 26 [(0, .ref (z.2.2.1 0)), (2, .int v2), (3, .int v3), (4, .int v4)] [] σ (fX12_worded_l26 N n v2 v3 v4 σ) := by
  induction n generalizing v2 v3 v4 σ with
  | zero => exact V_none
  | succ n ih => exact bX12_worded_26 X E hr hZ N (fX12_worded_l26 N n) ih v2 v3 v4 σ
def fX12_worded (N : Nat) (v1 : Int32) (v2 : Int32) (σ : Mem) : Option (Int32 × Mem) :=
  bd (fX12_isChamber N v1 σ) (fun r1 s2 => if r1 = 0 then some ((-1), s2) else bd (fX12_isMotion N v2 s2) (fun r3 s4 => if r3 = 0 then some ((-1), s4) else bd (fX12_asTold N s4) (fun r5 s6 => lt_ (-1) (fun v3_7 => lt_ 0 (fun v4_8 => fX12_worded_l26 N N v2 v3_7 v4_8 s6)))))
set_option maxRecDepth 100000 in
set_option maxHeartbeats 4000000 in
theorem bX12_worded_0 {x : Cx} {z : Sx} (X : XG x z RX12 cX12_worded 5 5 113) (E : XE x z) (hr : XR x (some .int)) (hZ : z.2.2.2.1 = kdM) (N : Nat) (v1 : Int32) (v2 : Int32) (σ : Mem) : VK x z 5 (BQ QI x z) 0 [(0, .ref (z.2.2.1 0)), (1, .int v1), (2, .int v2)] [] σ (fX12_worded N v1 v2 σ) := by
  unfold fX12_worded
  refine V_aload_n 0 X dX12_worded_0 rfl rfl ?_
  refine V_iload_n 1 X dX12_worded_1 rfl rfl ?_
  refine V_callI [.int v1] [] X E dX12_worded_2 (kX12_isChamber x.2.1 z hZ N v1 σ) co12 (kM hZ 0 _ rfl) gcX12_165 hyX12_isChamber rfl ⟨by decide, by decide⟩ rfl (Nat.le_of_ble_eq_true rfl) (fun r1 s2 => ?_)
  refine V_if_eq (tgt := 15) X dX12_worded_5 (by decide) ?_ ?_
  · refine V_iconst (v := -1) X dX12_worded_15 (by decide) ?_
    exact V_iret X E hr dX12_worded_16
  · refine V_iload_n 2 X dX12_worded_8 rfl rfl ?_
    refine V_calSI [.int v2] [] X E dX12_worded_9 (kX12_isMotion x.2.1 z hZ N v2 s2) gcX12_210 hyX12_isMotion rfl ⟨by decide, by decide⟩ rfl (Nat.le_of_ble_eq_true rfl) (fun r3 s4 => ?_)
    refine V_if_ne (tgt := 17) X dX12_worded_12 (by decide) ?_ ?_
    · refine V_aload_n 0 X dX12_worded_17 rfl rfl ?_
      refine V_callV [] [] X E dX12_worded_18 (kX12_asTold x.2.1 z hZ N s4) co12 (kM hZ 0 _ rfl) gcX12_213 hyX12_asTold rfl ⟨by decide, by decide⟩ rfl (Nat.le_of_ble_eq_true rfl) (fun r5 s6 => ?_)
      refine V_iconst (v := -1) X dX12_worded_21 (by decide) ?_
      refine V_istore_nG (L' := fun v3_7 => [(3, .int v3_7), (0, .ref (z.2.2.1 0)), (1, .int v1), (2, .int v2)]) X dX12_worded_22 rfl (by decide) (fun _ => rfl) (fun v3_7 => ?_)
      refine V_iconst (v := 0) X dX12_worded_23 (by decide) ?_
      refine V_istoreG (L' := fun v4_8 => [(4, .int v4_8), (3, .int v3_7), (0, .ref (z.2.2.1 0)), (1, .int v1), (2, .int v2)]) X dX12_worded_24 (by decide) (fun _ => rfl) (fun v4_8 => ?_)
      refine V_sub [2, 4, 1, 0] rfl ?_
      exact lX12_worded_26 X E hr hZ N N v2 v3_7 v4_8 s6
    · refine V_iconst (v := -1) X dX12_worded_15 (by decide) ?_
      exact V_iret X E hr dX12_worded_16
theorem kX12_worded (l : Launch) (z : Sx) (hZ : z.2.2.2.1 = kdM) (N : Nat) (v1 : Int32) (v2 : Int32) (σ : Mem) : Ct QI yX12_worded cX12_worded 5 (some .int) 5 113 l z [.ref (z.2.2.1 0), .int v1, .int v2] σ (fX12_worded N v1 v2 σ) := by
  refine Ct_of (by decide +kernel) (Nat.le_of_ble_eq_true rfl) rfl ?_
  intro x _ X E hr
  exact bX12_worded_0 X E hr hZ N v1 v2 σ
def fX12_clear_b61 (N : Nat) (rc24 : Int32 → Int32 → Int32 → Mem → Option (Int32 × Mem)) (v2 : Int32) (v3 : Int32) (v4 : Int32) (σ : Mem) : Option (Int32 × Mem) :=
  lt_ (v4 + 1) (fun v4_10 => rc24 v2 v3 v4_10 σ)
set_option maxRecDepth 100000 in
set_option maxHeartbeats 4000000 in
theorem bX12_clear_61 {x : Cx} {z : Sx} (X : XG x z RX12 cX12_clear 5 5 113) (E : XE x z) (hr : XR x (some .int)) (hZ : z.2.2.2.1 = kdM) (N : Nat) (rc24 : Int32 → Int32 → Int32 → Mem → Option (Int32 × Mem)) (hc24 : ∀ (v2 : Int32) (v3 : Int32) (v4 : Int32) (σ : Mem), VK x z 5 (BQ QI x z) 24 [(0, .ref (z.2.2.1 0)), (2, .int v2), (3, .int v3), (4, .int v4)] [] σ (rc24 v2 v3 v4 σ)) (v2 : Int32) (v3 : Int32) (v4 : Int32) (σ : Mem) : VK x z 5 (BQ QI x z) 61 [(0, .ref (z.2.2.1 0)), (2, .int v2), (3, .int v3), (4, .int v4)] [] σ (fX12_clear_b61 N rc24 v2 v3 v4 σ) := by
  unfold fX12_clear_b61
  refine V_iincG (L' := fun v4_10 => [(4, .int v4_10), (0, .ref (z.2.2.1 0)), (2, .int v2), (3, .int v3)]) 3 X dX12_clear_61 rfl rfl (by decide) (fun _ => rfl) (fun v4_10 => ?_)
  refine V_goto (tgt := 24) X dX12_clear_64 (by decide) ?_
  refine V_sub [1, 2, 3, 0] rfl ?_
  exact hc24 v2 v3 v4_10 σ
def fX12_clear_b24 (N : Nat) (rc24 : Int32 → Int32 → Int32 → Mem → Option (Int32 × Mem)) (v2 : Int32) (v3 : Int32) (v4 : Int32) (σ : Mem) : Option (Int32 × Mem) :=
  if 64 ≤ v4 then if v2 = (-1) then some (v3, σ) else some ((-1), σ) else bd (fX12_answers N v4 σ) (fun r7 s8 => if r7 = 0 then fX12_clear_b61 N rc24 v2 v3 v4 s8 else if (s8.1 0 22) ≤ 0 then if v3 = v2 then some (v4, s8) else lt_ (v3 + 1) (fun v3_9 => fX12_clear_b61 N rc24 v2 v3_9 v4 s8) else fX12_clear_b61 N rc24 v2 v3 v4 s8)
set_option maxRecDepth 100000 in
set_option maxHeartbeats 4000000 in
theorem bX12_clear_24 {x : Cx} {z : Sx} (X : XG x z RX12 cX12_clear 5 5 113) (E : XE x z) (hr : XR x (some .int)) (hZ : z.2.2.2.1 = kdM) (N : Nat) (rc24 : Int32 → Int32 → Int32 → Mem → Option (Int32 × Mem)) (hc24 : ∀ (v2 : Int32) (v3 : Int32) (v4 : Int32) (σ : Mem), VK x z 5 (BQ QI x z) 24 [(0, .ref (z.2.2.1 0)), (2, .int v2), (3, .int v3), (4, .int v4)] [] σ (rc24 v2 v3 v4 σ)) (v2 : Int32) (v3 : Int32) (v4 : Int32) (σ : Mem) : VK x z 5 (BQ QI x z) 24 [(0, .ref (z.2.2.1 0)), (2, .int v2), (3, .int v3), (4, .int v4)] [] σ (fX12_clear_b24 N rc24 v2 v3 v4 σ) := by
  unfold fX12_clear_b24
  refine V_iload 3 X dX12_clear_24 rfl ?_
  refine V_bipush (v := 64) X dX12_clear_26 (by decide) ?_
  refine V_icmp_ge (tgt := 67) X dX12_clear_28 (by decide) ?_ ?_
  · refine V_iload_n 1 X dX12_clear_67 rfl rfl ?_
    refine V_iconst (v := -1) X dX12_clear_68 (by decide) ?_
    refine V_icmp_ne (tgt := 76) X dX12_clear_69 (by decide) ?_ ?_
    · refine V_iconst (v := -1) X dX12_clear_76 (by decide) ?_
      exact V_iret X E hr dX12_clear_77
    · refine V_iload_n 2 X dX12_clear_72 rfl rfl ?_
      refine V_goto (tgt := 77) X dX12_clear_73 (by decide) ?_
      exact V_iret X E hr dX12_clear_77
  · refine V_aload_n 0 X dX12_clear_31 rfl rfl ?_
    refine V_iload 3 X dX12_clear_32 rfl ?_
    refine V_callI [.int v4] [] X E dX12_clear_34 (kX12_answers x.2.1 z hZ N v4 σ) co12 (kM hZ 0 _ rfl) gcX12_216 hyX12_answers rfl ⟨by decide, by decide⟩ rfl (Nat.le_of_ble_eq_true rfl) (fun r7 s8 => ?_)
    refine V_if_eq (tgt := 61) X dX12_clear_37 (by decide) ?_ ?_
    · refine V_sub [0, 1, 2, 3] rfl ?_
      exact bX12_clear_61 X E hr hZ N rc24 hc24 v2 v3 v4 s8
    · refine V_aload_n 0 X dX12_clear_40 rfl rfl ?_
      refine V_getI 22 X dX12_clear_41 co12 (kM hZ 0 _ rfl) (by decide) rfl wfX12_204 ?_
      refine V_if_le (tgt := 50) X dX12_clear_44 (by decide) ?_ ?_
      · refine V_iload_n 2 X dX12_clear_50 rfl rfl ?_
        refine V_iload_n 1 X dX12_clear_51 rfl rfl ?_
        refine V_icmp_ne (tgt := 58) X dX12_clear_52 (by decide) ?_ ?_
        · refine V_iincG (L' := fun v3_9 => [(3, .int v3_9), (0, .ref (z.2.2.1 0)), (2, .int v2), (4, .int v4)]) 2 X dX12_clear_58 rfl rfl (by decide) (fun _ => rfl) (fun v3_9 => ?_)
          refine V_sub [1, 2, 0, 3] rfl ?_
          exact bX12_clear_61 X E hr hZ N rc24 hc24 v2 v3_9 v4 s8
        · refine V_iload 3 X dX12_clear_55 rfl ?_
          exact V_iret X E hr dX12_clear_57
      · refine V_goto (tgt := 61) X dX12_clear_47 (by decide) ?_
        refine V_sub [0, 1, 2, 3] rfl ?_
        exact bX12_clear_61 X E hr hZ N rc24 hc24 v2 v3 v4 s8
def fX12_clear_l24 (N : Nat) : Nat → Int32 → Int32 → Int32 → Mem → Option (Int32 × Mem)
  | 0 => fun _ _ _ _ => none
  | n + 1 => fX12_clear_b24 N (fX12_clear_l24 N n)
theorem lX12_clear_24 {x : Cx} {z : Sx} (X : XG x z RX12 cX12_clear 5 5 113) (E : XE x z) (hr : XR x (some .int)) (hZ : z.2.2.2.1 = kdM) (N : Nat) (n : Nat) (v2 : Int32) (v3 : Int32) (v4 : Int32) (σ : Mem) : VK x z 5 (BQ QI x z) 24 [(0, .ref (z.2.2.1 0)), (2, .int v2), (3, .int v3), (4, .int v4)] [] σ (fX12_clear_l24 N n v2 v3 v4 σ) := by
  induction n generalizing v2 v3 v4 σ with
  | zero => exact V_none
  | succ n ih => exact bX12_clear_24 X E hr hZ N (fX12_clear_l24 N n) ih v2 v3 v4 σ
def fX12_clear (N : Nat) (v1 : Int32) (v2 : Int32) (σ : Mem) : Option (Int32 × Mem) :=
  bd (fX12_isChamber N v1 σ) (fun r1 s2 => if r1 = 0 then some ((-1), s2) else if (-1) ≤ v2 then bd (fX12_asTold N s2) (fun r3 s4 => lt_ 0 (fun v3_5 => lt_ 0 (fun v4_6 => fX12_clear_l24 N N v2 v3_5 v4_6 s4))) else some ((-1), s2))
set_option maxRecDepth 100000 in
set_option maxHeartbeats 4000000 in
theorem bX12_clear_0 {x : Cx} {z : Sx} (X : XG x z RX12 cX12_clear 5 5 113) (E : XE x z) (hr : XR x (some .int)) (hZ : z.2.2.2.1 = kdM) (N : Nat) (v1 : Int32) (v2 : Int32) (σ : Mem) : VK x z 5 (BQ QI x z) 0 [(0, .ref (z.2.2.1 0)), (1, .int v1), (2, .int v2)] [] σ (fX12_clear N v1 v2 σ) := by
  unfold fX12_clear
  refine V_aload_n 0 X dX12_clear_0 rfl rfl ?_
  refine V_iload_n 1 X dX12_clear_1 rfl rfl ?_
  refine V_callI [.int v1] [] X E dX12_clear_2 (kX12_isChamber x.2.1 z hZ N v1 σ) co12 (kM hZ 0 _ rfl) gcX12_165 hyX12_isChamber rfl ⟨by decide, by decide⟩ rfl (Nat.le_of_ble_eq_true rfl) (fun r1 s2 => ?_)
  refine V_if_eq (tgt := 13) X dX12_clear_5 (by decide) ?_ ?_
  · refine V_iconst (v := -1) X dX12_clear_13 (by decide) ?_
    exact V_iret X E hr dX12_clear_14
  · refine V_iload_n 2 X dX12_clear_8 rfl rfl ?_
    refine V_iconst (v := -1) X dX12_clear_9 (by decide) ?_
    refine V_icmp_ge (tgt := 15) X dX12_clear_10 (by decide) ?_ ?_
    · refine V_aload_n 0 X dX12_clear_15 rfl rfl ?_
      refine V_callV [] [] X E dX12_clear_16 (kX12_asTold x.2.1 z hZ N s2) co12 (kM hZ 0 _ rfl) gcX12_213 hyX12_asTold rfl ⟨by decide, by decide⟩ rfl (Nat.le_of_ble_eq_true rfl) (fun r3 s4 => ?_)
      refine V_iconst (v := 0) X dX12_clear_19 (by decide) ?_
      refine V_istore_nG (L' := fun v3_5 => [(3, .int v3_5), (0, .ref (z.2.2.1 0)), (1, .int v1), (2, .int v2)]) X dX12_clear_20 rfl (by decide) (fun _ => rfl) (fun v3_5 => ?_)
      refine V_iconst (v := 0) X dX12_clear_21 (by decide) ?_
      refine V_istoreG (L' := fun v4_6 => [(4, .int v4_6), (3, .int v3_5), (0, .ref (z.2.2.1 0)), (1, .int v1), (2, .int v2)]) X dX12_clear_22 (by decide) (fun _ => rfl) (fun v4_6 => ?_)
      refine V_sub [2, 4, 1, 0] rfl ?_
      exact lX12_clear_24 X E hr hZ N N v2 v3_5 v4_6 s4
    · refine V_iconst (v := -1) X dX12_clear_13 (by decide) ?_
      exact V_iret X E hr dX12_clear_14
theorem kX12_clear (l : Launch) (z : Sx) (hZ : z.2.2.2.1 = kdM) (N : Nat) (v1 : Int32) (v2 : Int32) (σ : Mem) : Ct QI yX12_clear cX12_clear 5 (some .int) 5 113 l z [.ref (z.2.2.1 0), .int v1, .int v2] σ (fX12_clear N v1 v2 σ) := by
  refine Ct_of (by decide +kernel) (Nat.le_of_ble_eq_true rfl) rfl ?_
  intro x _ X E hr
  exact bX12_clear_0 X E hr hZ N v1 v2 σ
def fX12_kin_b81 (N : Nat) (rc36 : Int32 → Int32 → Int32 → Int32 → Mem → Option (Int32 × Mem)) (v2 : Int32) (v3 : Int32) (v5 : Int32) (t0 : Int32) (t1 : Int32) (σ : Mem) : Option (Int32 × Mem) :=
  lt_ (t1 + t0) (fun v4_13 => lt_ (v5 + 1) (fun v5_14 => rc36 v2 v3 v4_13 v5_14 σ))
set_option maxRecDepth 100000 in
set_option maxHeartbeats 4000000 in
theorem bX12_kin_81 {x : Cx} {z : Sx} (X : XG x z RX12 cX12_kin 6 5 113) (E : XE x z) (hr : XR x (some .int)) (hZ : z.2.2.2.1 = kdM) (N : Nat) (rc36 : Int32 → Int32 → Int32 → Int32 → Mem → Option (Int32 × Mem)) (hc36 : ∀ (v2 : Int32) (v3 : Int32) (v4 : Int32) (v5 : Int32) (σ : Mem), VK x z 6 (BQ QI x z) 36 [(0, .ref (z.2.2.1 0)), (2, .int v2), (3, .int v3), (4, .int v4), (5, .int v5)] [] σ (rc36 v2 v3 v4 v5 σ)) (v2 : Int32) (v3 : Int32) (v5 : Int32) (t0 : Int32) (t1 : Int32) (σ : Mem) : VK x z 6 (BQ QI x z) 81 [(0, .ref (z.2.2.1 0)), (2, .int v2), (3, .int v3), (5, .int v5)] [.int t0, .int t1] σ (fX12_kin_b81 N rc36 v2 v3 v5 t0 t1 σ) := by
  unfold fX12_kin_b81
  refine V_iadd X dX12_kin_81 ?_
  refine V_istoreG (L' := fun v4_13 => [(4, .int v4_13), (0, .ref (z.2.2.1 0)), (2, .int v2), (3, .int v3), (5, .int v5)]) X dX12_kin_82 (by decide) (fun _ => rfl) (fun v4_13 => ?_)
  refine V_iincG (L' := fun v5_14 => [(5, .int v5_14), (4, .int v4_13), (0, .ref (z.2.2.1 0)), (2, .int v2), (3, .int v3)]) 4 X dX12_kin_84 rfl rfl (by decide) (fun _ => rfl) (fun v5_14 => ?_)
  refine V_goto (tgt := 36) X dX12_kin_87 (by decide) ?_
  refine V_sub [2, 3, 4, 1, 0] rfl ?_
  exact hc36 v2 v3 v4_13 v5_14 σ
def fX12_kin_b80 (N : Nat) (rc36 : Int32 → Int32 → Int32 → Int32 → Mem → Option (Int32 × Mem)) (v2 : Int32) (v3 : Int32) (v5 : Int32) (t0 : Int32) (σ : Mem) : Option (Int32 × Mem) :=
  fX12_kin_b81 N rc36 v2 v3 v5 0 t0 σ
set_option maxRecDepth 100000 in
set_option maxHeartbeats 4000000 in
theorem bX12_kin_80 {x : Cx} {z : Sx} (X : XG x z RX12 cX12_kin 6 5 113) (E : XE x z) (hr : XR x (some .int)) (hZ : z.2.2.2.1 = kdM) (N : Nat) (rc36 : Int32 → Int32 → Int32 → Int32 → Mem → Option (Int32 × Mem)) (hc36 : ∀ (v2 : Int32) (v3 : Int32) (v4 : Int32) (v5 : Int32) (σ : Mem), VK x z 6 (BQ QI x z) 36 [(0, .ref (z.2.2.1 0)), (2, .int v2), (3, .int v3), (4, .int v4), (5, .int v5)] [] σ (rc36 v2 v3 v4 v5 σ)) (v2 : Int32) (v3 : Int32) (v5 : Int32) (t0 : Int32) (σ : Mem) : VK x z 6 (BQ QI x z) 80 [(0, .ref (z.2.2.1 0)), (2, .int v2), (3, .int v3), (5, .int v5)] [.int t0] σ (fX12_kin_b80 N rc36 v2 v3 v5 t0 σ) := by
  unfold fX12_kin_b80
  refine V_iconst (v := 0) X dX12_kin_80 (by decide) ?_
  refine V_sub [0, 1, 2, 3] rfl ?_
  exact bX12_kin_81 X E hr hZ N rc36 hc36 v2 v3 v5 0 t0 σ
def fX12_kin_b36 (N : Nat) (rc36 : Int32 → Int32 → Int32 → Int32 → Mem → Option (Int32 × Mem)) (v2 : Int32) (v3 : Int32) (v4 : Int32) (v5 : Int32) (σ : Mem) : Option (Int32 × Mem) :=
  if 64 ≤ v5 then some (v4, σ) else bd (fX12_answers N v5 σ) (fun r11 s12 => gd (inb v2 8) (if (s12.1 7 v2.toNatClampNeg) = 0 then fX12_kin_b80 N rc36 v2 v3 v5 v4 s12 else gd (inb v2 8) (gd (inb v3 8) (if (s12.1 7 v2.toNatClampNeg) = (s12.1 7 v3.toNatClampNeg) then fX12_kin_b81 N rc36 v2 v3 v5 1 v4 s12 else fX12_kin_b80 N rc36 v2 v3 v5 v4 s12))))
set_option maxRecDepth 100000 in
set_option maxHeartbeats 4000000 in
theorem bX12_kin_36 {x : Cx} {z : Sx} (X : XG x z RX12 cX12_kin 6 5 113) (E : XE x z) (hr : XR x (some .int)) (hZ : z.2.2.2.1 = kdM) (N : Nat) (rc36 : Int32 → Int32 → Int32 → Int32 → Mem → Option (Int32 × Mem)) (hc36 : ∀ (v2 : Int32) (v3 : Int32) (v4 : Int32) (v5 : Int32) (σ : Mem), VK x z 6 (BQ QI x z) 36 [(0, .ref (z.2.2.1 0)), (2, .int v2), (3, .int v3), (4, .int v4), (5, .int v5)] [] σ (rc36 v2 v3 v4 v5 σ)) (v2 : Int32) (v3 : Int32) (v4 : Int32) (v5 : Int32) (σ : Mem) : VK x z 6 (BQ QI x z) 36 [(0, .ref (z.2.2.1 0)), (2, .int v2), (3, .int v3), (4, .int v4), (5, .int v5)] [] σ (fX12_kin_b36 N rc36 v2 v3 v4 v5 σ) := by
  unfold fX12_kin_b36
  refine V_iload 4 X dX12_kin_36 rfl ?_
  refine V_bipush (v := 64) X dX12_kin_38 (by decide) ?_
  refine V_icmp_ge (tgt := 90) X dX12_kin_40 (by decide) ?_ ?_
  · refine V_iload 3 X dX12_kin_90 rfl ?_
    exact V_iret X E hr dX12_kin_92
  · refine V_aload_n 0 X dX12_kin_43 rfl rfl ?_
    refine V_iload 4 X dX12_kin_44 rfl ?_
    refine V_callI [.int v5] [] X E dX12_kin_46 (kX12_answers x.2.1 z hZ N v5 σ) co12 (kM hZ 0 _ rfl) gcX12_216 hyX12_answers rfl ⟨by decide, by decide⟩ rfl (Nat.le_of_ble_eq_true rfl) (fun r11 s12 => ?_)
    refine V_pop X dX12_kin_49 rfl ?_
    refine V_iload 3 X dX12_kin_50 rfl ?_
    refine V_aload_n 0 X dX12_kin_52 rfl rfl ?_
    refine V_getR (k1 := 7) 20 X dX12_kin_53 co12 (kM hZ 0 _ rfl) (by decide) rfl rfl wfX12_29 ?_
    refine V_iload_n 1 X dX12_kin_56 rfl rfl ?_
    refine V_iald X dX12_kin_57 (kM hZ 7 _ rfl) ?_
    refine V_if_eq (tgt := 80) X dX12_kin_58 (by decide) ?_ ?_
    · refine V_sub [0, 1, 2, 4] rfl ?_
      exact bX12_kin_80 X E hr hZ N rc36 hc36 v2 v3 v5 v4 s12
    · refine V_aload_n 0 X dX12_kin_61 rfl rfl ?_
      refine V_getR (k1 := 7) 20 X dX12_kin_62 co12 (kM hZ 0 _ rfl) (by decide) rfl rfl wfX12_29 ?_
      refine V_iload_n 1 X dX12_kin_65 rfl rfl ?_
      refine V_iald X dX12_kin_66 (kM hZ 7 _ rfl) ?_
      refine V_aload_n 0 X dX12_kin_67 rfl rfl ?_
      refine V_getR (k1 := 7) 20 X dX12_kin_68 co12 (kM hZ 0 _ rfl) (by decide) rfl rfl wfX12_29 ?_
      refine V_iload_n 2 X dX12_kin_71 rfl rfl ?_
      refine V_iald X dX12_kin_72 (kM hZ 7 _ rfl) ?_
      refine V_icmp_ne (tgt := 80) X dX12_kin_73 (by decide) ?_ ?_
      · refine V_sub [0, 1, 2, 4] rfl ?_
        exact bX12_kin_80 X E hr hZ N rc36 hc36 v2 v3 v5 v4 s12
      · refine V_iconst (v := 1) X dX12_kin_76 (by decide) ?_
        refine V_goto (tgt := 81) X dX12_kin_77 (by decide) ?_
        refine V_sub [0, 1, 2, 4] rfl ?_
        exact bX12_kin_81 X E hr hZ N rc36 hc36 v2 v3 v5 1 v4 s12
def fX12_kin_l36 (N : Nat) : Nat → Int32 → Int32 → Int32 → Int32 → Mem → Option (Int32 × Mem)
  | 0 => fun _ _ _ _ _ => none
  | n + 1 => fX12_kin_b36 N (fX12_kin_l36 N n)
theorem lX12_kin_36 {x : Cx} {z : Sx} (X : XG x z RX12 cX12_kin 6 5 113) (E : XE x z) (hr : XR x (some .int)) (hZ : z.2.2.2.1 = kdM) (N : Nat) (n : Nat) (v2 : Int32) (v3 : Int32) (v4 : Int32) (v5 : Int32) (σ : Mem) : VK x z 6 (BQ QI x z) 36 [(0, .ref (z.2.2.1 0)), (2, .int v2), (3, .int v3), (4, .int v4), (5, .int v5)] [] σ (fX12_kin_l36 N n v2 v3 v4 v5 σ) := by
  induction n generalizing v2 v3 v4 v5 σ with
  | zero => exact V_none
  | succ n ih => exact bX12_kin_36 X E hr hZ N (fX12_kin_l36 N n) ih v2 v3 v4 v5 σ
def fX12_kin (N : Nat) (v1 : Int32) (v2 : Int32) (v3 : Int32) (σ : Mem) : Option (Int32 × Mem) :=
  bd (fX12_isChamber N v1 σ) (fun r1 s2 => if r1 = 0 then some ((-1), s2) else bd (fX12_isPiece N v2 s2) (fun r3 s4 => if r3 = 0 then some ((-1), s4) else bd (fX12_isPiece N v3 s4) (fun r5 s6 => if r5 = 0 then some ((-1), s6) else bd (fX12_asTold N s6) (fun r7 s8 => lt_ 0 (fun v4_9 => lt_ 0 (fun v5_10 => fX12_kin_l36 N N v2 v3 v4_9 v5_10 s8))))))
set_option maxRecDepth 100000 in
set_option maxHeartbeats 4000000 in
theorem bX12_kin_0 {x : Cx} {z : Sx} (X : XG x z RX12 cX12_kin 6 5 113) (E : XE x z) (hr : XR x (some .int)) (hZ : z.2.2.2.1 = kdM) (N : Nat) (v1 : Int32) (v2 : Int32) (v3 : Int32) (σ : Mem) : VK x z 6 (BQ QI x z) 0 [(0, .ref (z.2.2.1 0)), (1, .int v1), (2, .int v2), (3, .int v3)] [] σ (fX12_kin N v1 v2 v3 σ) := by
  unfold fX12_kin
  refine V_aload_n 0 X dX12_kin_0 rfl rfl ?_
  refine V_iload_n 1 X dX12_kin_1 rfl rfl ?_
  refine V_callI [.int v1] [] X E dX12_kin_2 (kX12_isChamber x.2.1 z hZ N v1 σ) co12 (kM hZ 0 _ rfl) gcX12_165 hyX12_isChamber rfl ⟨by decide, by decide⟩ rfl (Nat.le_of_ble_eq_true rfl) (fun r1 s2 => ?_)
  refine V_if_eq (tgt := 24) X dX12_kin_5 (by decide) ?_ ?_
  · refine V_iconst (v := -1) X dX12_kin_24 (by decide) ?_
    exact V_iret X E hr dX12_kin_25
  · refine V_aload_n 0 X dX12_kin_8 rfl rfl ?_
    refine V_iload_n 2 X dX12_kin_9 rfl rfl ?_
    refine V_callI [.int v2] [] X E dX12_kin_10 (kX12_isPiece x.2.1 z hZ N v2 s2) co12 (kM hZ 0 _ rfl) gcX12_168 hyX12_isPiece rfl ⟨by decide, by decide⟩ rfl (Nat.le_of_ble_eq_true rfl) (fun r3 s4 => ?_)
    refine V_if_eq (tgt := 24) X dX12_kin_13 (by decide) ?_ ?_
    · refine V_iconst (v := -1) X dX12_kin_24 (by decide) ?_
      exact V_iret X E hr dX12_kin_25
    · refine V_aload_n 0 X dX12_kin_16 rfl rfl ?_
      refine V_iload_n 3 X dX12_kin_17 rfl rfl ?_
      refine V_callI [.int v3] [] X E dX12_kin_18 (kX12_isPiece x.2.1 z hZ N v3 s4) co12 (kM hZ 0 _ rfl) gcX12_168 hyX12_isPiece rfl ⟨by decide, by decide⟩ rfl (Nat.le_of_ble_eq_true rfl) (fun r5 s6 => ?_)
      refine V_if_ne (tgt := 26) X dX12_kin_21 (by decide) ?_ ?_
      · refine V_aload_n 0 X dX12_kin_26 rfl rfl ?_
        refine V_callV [] [] X E dX12_kin_27 (kX12_asTold x.2.1 z hZ N s6) co12 (kM hZ 0 _ rfl) gcX12_213 hyX12_asTold rfl ⟨by decide, by decide⟩ rfl (Nat.le_of_ble_eq_true rfl) (fun r7 s8 => ?_)
        refine V_iconst (v := 0) X dX12_kin_30 (by decide) ?_
        refine V_istoreG (L' := fun v4_9 => [(4, .int v4_9), (0, .ref (z.2.2.1 0)), (1, .int v1), (2, .int v2), (3, .int v3)]) X dX12_kin_31 (by decide) (fun _ => rfl) (fun v4_9 => ?_)
        refine V_iconst (v := 0) X dX12_kin_33 (by decide) ?_
        refine V_istoreG (L' := fun v5_10 => [(5, .int v5_10), (4, .int v4_9), (0, .ref (z.2.2.1 0)), (1, .int v1), (2, .int v2), (3, .int v3)]) X dX12_kin_34 (by decide) (fun _ => rfl) (fun v5_10 => ?_)
        refine V_sub [2, 4, 5, 1, 0] rfl ?_
        exact lX12_kin_36 X E hr hZ N N v2 v3 v4_9 v5_10 s8
      · refine V_iconst (v := -1) X dX12_kin_24 (by decide) ?_
        exact V_iret X E hr dX12_kin_25
theorem kX12_kin (l : Launch) (z : Sx) (hZ : z.2.2.2.1 = kdM) (N : Nat) (v1 : Int32) (v2 : Int32) (v3 : Int32) (σ : Mem) : Ct QI yX12_kin cX12_kin 6 (some .int) 5 113 l z [.ref (z.2.2.1 0), .int v1, .int v2, .int v3] σ (fX12_kin N v1 v2 v3 σ) := by
  refine Ct_of (by decide +kernel) (Nat.le_of_ble_eq_true rfl) rfl ?_
  intro x _ X E hr
  exact bX12_kin_0 X E hr hZ N v1 v2 v3 σ
def fX12_trade_b45 (N : Nat) (rc30 : Int32 → Int32 → Int32 → Mem → Option (Int32 × Mem)) (rc45 : Int32 → Int32 → Int32 → Int32 → Mem → Option (Int32 × Mem)) (v2 : Int32) (v3 : Int32) (v4 : Int32) (v5 : Int32) (σ : Mem) : Option (Int32 × Mem) :=
  if (σ.1 0 13) ≤ v5 then lt_ (v4 + 1) (fun v4_12 => rc30 v2 v3 v4_12 σ) else bd (fX12_ofPerson N v5 1 σ) (fun r13 s14 => gd (inb v4 6) (lt_ (pI s14 6 v4.toNatClampNeg r13) (fun s15 => bd (fX12_ofPerson N v4 1 s15) (fun r16 s17 => gd (inb v5 6) (lt_ (pI s17 6 v5.toNatClampNeg r16) (fun s18 => bd (fX12_answers N v2 s18) (fun r19 s20 => if r19 = v3 then bd (fX12_ofPerson N v4 1 s20) (fun r21 s22 => gd (inb v4 6) (lt_ (pI s22 6 v4.toNatClampNeg r21) (fun s23 => bd (fX12_ofPerson N v5 1 s23) (fun r24 s25 => gd (inb v5 6) (lt_ (pI s25 6 v5.toNatClampNeg r24) (fun s26 => lt_ (v5 + 1) (fun v5_27 => rc45 v2 v3 v4 v5_27 s26))))))) else some (((10 * v4) + v5), s20))))))))
set_option maxRecDepth 100000 in
set_option maxHeartbeats 4000000 in
theorem bX12_trade_45 {x : Cx} {z : Sx} (X : XG x z RX12 cX12_trade 6 5 113) (E : XE x z) (hr : XR x (some .int)) (hZ : z.2.2.2.1 = kdM) (N : Nat) (rc30 : Int32 → Int32 → Int32 → Mem → Option (Int32 × Mem)) (hc30 : ∀ (v2 : Int32) (v3 : Int32) (v4 : Int32) (σ : Mem), VK x z 6 (BQ QI x z) 30 [(0, .ref (z.2.2.1 0)), (2, .int v2), (3, .int v3), (4, .int v4)] [] σ (rc30 v2 v3 v4 σ)) (rc45 : Int32 → Int32 → Int32 → Int32 → Mem → Option (Int32 × Mem)) (hc45 : ∀ (v2 : Int32) (v3 : Int32) (v4 : Int32) (v5 : Int32) (σ : Mem), VK x z 6 (BQ QI x z) 45 [(0, .ref (z.2.2.1 0)), (2, .int v2), (3, .int v3), (4, .int v4), (5, .int v5)] [] σ (rc45 v2 v3 v4 v5 σ)) (v2 : Int32) (v3 : Int32) (v4 : Int32) (v5 : Int32) (σ : Mem) : VK x z 6 (BQ QI x z) 45 [(0, .ref (z.2.2.1 0)), (2, .int v2), (3, .int v3), (4, .int v4), (5, .int v5)] [] σ (fX12_trade_b45 N rc30 rc45 v2 v3 v4 v5 σ) := by
  unfold fX12_trade_b45
  refine V_iload 4 X dX12_trade_45 rfl ?_
  refine V_aload_n 0 X dX12_trade_47 rfl rfl ?_
  refine V_getI 13 X dX12_trade_48 co12 (kM hZ 0 _ rfl) (by decide) rfl wfX12_162 ?_
  refine V_icmp_ge (tgt := 134) X dX12_trade_51 (by decide) ?_ ?_
  · refine V_iincG (L' := fun v4_12 => [(4, .int v4_12), (0, .ref (z.2.2.1 0)), (2, .int v2), (3, .int v3), (5, .int v5)]) 3 X dX12_trade_134 rfl rfl (by decide) (fun _ => rfl) (fun v4_12 => ?_)
    refine V_goto (tgt := 30) X dX12_trade_137 (by decide) ?_
    refine V_sub [1, 2, 3, 0] rfl ?_
    exact hc30 v2 v3 v4_12 σ
  · refine V_aload_n 0 X dX12_trade_54 rfl rfl ?_
    refine V_getR (k1 := 6) 19 X dX12_trade_55 co12 (kM hZ 0 _ rfl) (by decide) rfl rfl wfX12_26 ?_
    refine V_iload 3 X dX12_trade_58 rfl ?_
    refine V_aload_n 0 X dX12_trade_60 rfl rfl ?_
    refine V_iload 4 X dX12_trade_61 rfl ?_
    refine V_iconst (v := 1) X dX12_trade_63 (by decide) ?_
    refine V_callI [.int v5, .int 1] [.int v4, .ref (z.2.2.1 6)] X E dX12_trade_64 (kX12_ofPerson x.2.1 z hZ N v5 1 σ) co12 (kM hZ 0 _ rfl) gcX12_177 hyX12_ofPerson rfl ⟨by decide, by decide⟩ rfl (Nat.le_of_ble_eq_true rfl) (fun r13 s14 => ?_)
    refine V_iastG X dX12_trade_67 (kM hZ 6 _ rfl) (fun s15 => ?_)
    refine V_aload_n 0 X dX12_trade_68 rfl rfl ?_
    refine V_getR (k1 := 6) 19 X dX12_trade_69 co12 (kM hZ 0 _ rfl) (by decide) rfl rfl wfX12_26 ?_
    refine V_iload 4 X dX12_trade_72 rfl ?_
    refine V_aload_n 0 X dX12_trade_74 rfl rfl ?_
    refine V_iload 3 X dX12_trade_75 rfl ?_
    refine V_iconst (v := 1) X dX12_trade_77 (by decide) ?_
    refine V_callI [.int v4, .int 1] [.int v5, .ref (z.2.2.1 6)] X E dX12_trade_78 (kX12_ofPerson x.2.1 z hZ N v4 1 s15) co12 (kM hZ 0 _ rfl) gcX12_177 hyX12_ofPerson rfl ⟨by decide, by decide⟩ rfl (Nat.le_of_ble_eq_true rfl) (fun r16 s17 => ?_)
    refine V_iastG X dX12_trade_81 (kM hZ 6 _ rfl) (fun s18 => ?_)
    refine V_aload_n 0 X dX12_trade_82 rfl rfl ?_
    refine V_iload_n 1 X dX12_trade_83 rfl rfl ?_
    refine V_callI [.int v2] [] X E dX12_trade_84 (kX12_answers x.2.1 z hZ N v2 s18) co12 (kM hZ 0 _ rfl) gcX12_216 hyX12_answers rfl ⟨by decide, by decide⟩ rfl (Nat.le_of_ble_eq_true rfl) (fun r19 s20 => ?_)
    refine V_iload_n 2 X dX12_trade_87 rfl rfl ?_
    refine V_icmp_eq (tgt := 100) X dX12_trade_88 (by decide) ?_ ?_
    · refine V_aload_n 0 X dX12_trade_100 rfl rfl ?_
      refine V_getR (k1 := 6) 19 X dX12_trade_101 co12 (kM hZ 0 _ rfl) (by decide) rfl rfl wfX12_26 ?_
      refine V_iload 3 X dX12_trade_104 rfl ?_
      refine V_aload_n 0 X dX12_trade_106 rfl rfl ?_
      refine V_iload 3 X dX12_trade_107 rfl ?_
      refine V_iconst (v := 1) X dX12_trade_109 (by decide) ?_
      refine V_callI [.int v4, .int 1] [.int v4, .ref (z.2.2.1 6)] X E dX12_trade_110 (kX12_ofPerson x.2.1 z hZ N v4 1 s20) co12 (kM hZ 0 _ rfl) gcX12_177 hyX12_ofPerson rfl ⟨by decide, by decide⟩ rfl (Nat.le_of_ble_eq_true rfl) (fun r21 s22 => ?_)
      refine V_iastG X dX12_trade_113 (kM hZ 6 _ rfl) (fun s23 => ?_)
      refine V_aload_n 0 X dX12_trade_114 rfl rfl ?_
      refine V_getR (k1 := 6) 19 X dX12_trade_115 co12 (kM hZ 0 _ rfl) (by decide) rfl rfl wfX12_26 ?_
      refine V_iload 4 X dX12_trade_118 rfl ?_
      refine V_aload_n 0 X dX12_trade_120 rfl rfl ?_
      refine V_iload 4 X dX12_trade_121 rfl ?_
      refine V_iconst (v := 1) X dX12_trade_123 (by decide) ?_
      refine V_callI [.int v5, .int 1] [.int v5, .ref (z.2.2.1 6)] X E dX12_trade_124 (kX12_ofPerson x.2.1 z hZ N v5 1 s23) co12 (kM hZ 0 _ rfl) gcX12_177 hyX12_ofPerson rfl ⟨by decide, by decide⟩ rfl (Nat.le_of_ble_eq_true rfl) (fun r24 s25 => ?_)
      refine V_iastG X dX12_trade_127 (kM hZ 6 _ rfl) (fun s26 => ?_)
      refine V_iincG (L' := fun v5_27 => [(5, .int v5_27), (0, .ref (z.2.2.1 0)), (2, .int v2), (3, .int v3), (4, .int v4)]) 4 X dX12_trade_128 rfl rfl (by decide) (fun _ => rfl) (fun v5_27 => ?_)
      refine V_goto (tgt := 45) X dX12_trade_131 (by decide) ?_
      refine V_sub [1, 2, 3, 4, 0] rfl ?_
      exact hc45 v2 v3 v4 v5_27 s26
    · refine V_bipush (v := 10) X dX12_trade_91 (by decide) ?_
      refine V_iload 3 X dX12_trade_93 rfl ?_
      refine V_imul X dX12_trade_95 ?_
      refine V_iload 4 X dX12_trade_96 rfl ?_
      refine V_iadd X dX12_trade_98 ?_
      exact V_iret X E hr dX12_trade_99
def fX12_trade_l45 (N : Nat) (rc30 : Int32 → Int32 → Int32 → Mem → Option (Int32 × Mem)) : Nat → Int32 → Int32 → Int32 → Int32 → Mem → Option (Int32 × Mem)
  | 0 => fun _ _ _ _ _ => none
  | n + 1 => fX12_trade_b45 N rc30 (fX12_trade_l45 N rc30 n)
theorem lX12_trade_45 {x : Cx} {z : Sx} (X : XG x z RX12 cX12_trade 6 5 113) (E : XE x z) (hr : XR x (some .int)) (hZ : z.2.2.2.1 = kdM) (N : Nat) (rc30 : Int32 → Int32 → Int32 → Mem → Option (Int32 × Mem)) (hc30 : ∀ (v2 : Int32) (v3 : Int32) (v4 : Int32) (σ : Mem), VK x z 6 (BQ QI x z) 30 [(0, .ref (z.2.2.1 0)), (2, .int v2), (3, .int v3), (4, .int v4)] [] σ (rc30 v2 v3 v4 σ)) (n : Nat) (v2 : Int32) (v3 : Int32) (v4 : Int32) (v5 : Int32) (σ : Mem) : VK x z 6 (BQ QI x z) 45 [(0, .ref (z.2.2.1 0)), (2, .int v2), (3, .int v3), (4, .int v4), (5, .int v5)] [] σ (fX12_trade_l45 N rc30 n v2 v3 v4 v5 σ) := by
  induction n generalizing v2 v3 v4 v5 σ with
  | zero => exact V_none
  | succ n ih => exact bX12_trade_45 X E hr hZ N rc30 hc30 (fX12_trade_l45 N rc30 n) ih v2 v3 v4 v5 σ
def fX12_trade_b30 (N : Nat) (rc30 : Int32 → Int32 → Int32 → Mem → Option (Int32 × Mem)) (v2 : Int32) (v3 : Int32) (v4 : Int32) (σ : Mem) : Option (Int32 × Mem) :=
  if (σ.1 0 13) ≤ v4 then some ((-1), σ) else lt_ (v4 + 1) (fun v5_11 => fX12_trade_l45 N rc30 N v2 v3 v4 v5_11 σ)
set_option maxRecDepth 100000 in
set_option maxHeartbeats 4000000 in
theorem bX12_trade_30 {x : Cx} {z : Sx} (X : XG x z RX12 cX12_trade 6 5 113) (E : XE x z) (hr : XR x (some .int)) (hZ : z.2.2.2.1 = kdM) (N : Nat) (rc30 : Int32 → Int32 → Int32 → Mem → Option (Int32 × Mem)) (hc30 : ∀ (v2 : Int32) (v3 : Int32) (v4 : Int32) (σ : Mem), VK x z 6 (BQ QI x z) 30 [(0, .ref (z.2.2.1 0)), (2, .int v2), (3, .int v3), (4, .int v4)] [] σ (rc30 v2 v3 v4 σ)) (v2 : Int32) (v3 : Int32) (v4 : Int32) (σ : Mem) : VK x z 6 (BQ QI x z) 30 [(0, .ref (z.2.2.1 0)), (2, .int v2), (3, .int v3), (4, .int v4)] [] σ (fX12_trade_b30 N rc30 v2 v3 v4 σ) := by
  unfold fX12_trade_b30
  refine V_iload 3 X dX12_trade_30 rfl ?_
  refine V_aload_n 0 X dX12_trade_32 rfl rfl ?_
  refine V_getI 13 X dX12_trade_33 co12 (kM hZ 0 _ rfl) (by decide) rfl wfX12_162 ?_
  refine V_icmp_ge (tgt := 140) X dX12_trade_36 (by decide) ?_ ?_
  · refine V_iconst (v := -1) X dX12_trade_140 (by decide) ?_
    exact V_iret X E hr dX12_trade_141
  · refine V_iload 3 X dX12_trade_39 rfl ?_
    refine V_iconst (v := 1) X dX12_trade_41 (by decide) ?_
    refine V_iadd X dX12_trade_42 ?_
    refine V_istoreG (L' := fun v5_11 => [(5, .int v5_11), (0, .ref (z.2.2.1 0)), (2, .int v2), (3, .int v3), (4, .int v4)]) X dX12_trade_43 (by decide) (fun _ => rfl) (fun v5_11 => ?_)
    refine V_sub [1, 2, 3, 4, 0] rfl ?_
    exact lX12_trade_45 X E hr hZ N rc30 hc30 N v2 v3 v4 v5_11 σ
def fX12_trade_l30 (N : Nat) : Nat → Int32 → Int32 → Int32 → Mem → Option (Int32 × Mem)
  | 0 => fun _ _ _ _ => none
  | n + 1 => fX12_trade_b30 N (fX12_trade_l30 N n)
theorem lX12_trade_30 {x : Cx} {z : Sx} (X : XG x z RX12 cX12_trade 6 5 113) (E : XE x z) (hr : XR x (some .int)) (hZ : z.2.2.2.1 = kdM) (N : Nat) (n : Nat) (v2 : Int32) (v3 : Int32) (v4 : Int32) (σ : Mem) : VK x z 6 (BQ QI x z) 30 [(0, .ref (z.2.2.1 0)), (2, .int v2), (3, .int v3), (4, .int v4)] [] σ (fX12_trade_l30 N n v2 v3 v4 σ) := by
  induction n generalizing v2 v3 v4 σ with
  | zero => exact V_none
  | succ n ih => exact bX12_trade_30 X E hr hZ N (fX12_trade_l30 N n) ih v2 v3 v4 σ
def fX12_trade (N : Nat) (v1 : Int32) (v2 : Int32) (σ : Mem) : Option (Int32 × Mem) :=
  bd (fX12_isChamber N v1 σ) (fun r1 s2 => if r1 = 0 then some ((-1), s2) else bd (fX12_isMotion N v2 s2) (fun r3 s4 => if r3 = 0 then some ((-1), s4) else bd (fX12_asTold N s4) (fun r5 s6 => bd (fX12_answers N v2 s6) (fun r7 s8 => lt_ r7 (fun v3_9 => lt_ 0 (fun v4_10 => fX12_trade_l30 N N v2 v3_9 v4_10 s8))))))
set_option maxRecDepth 100000 in
set_option maxHeartbeats 4000000 in
theorem bX12_trade_0 {x : Cx} {z : Sx} (X : XG x z RX12 cX12_trade 6 5 113) (E : XE x z) (hr : XR x (some .int)) (hZ : z.2.2.2.1 = kdM) (N : Nat) (v1 : Int32) (v2 : Int32) (σ : Mem) : VK x z 6 (BQ QI x z) 0 [(0, .ref (z.2.2.1 0)), (1, .int v1), (2, .int v2)] [] σ (fX12_trade N v1 v2 σ) := by
  unfold fX12_trade
  refine V_aload_n 0 X dX12_trade_0 rfl rfl ?_
  refine V_iload_n 1 X dX12_trade_1 rfl rfl ?_
  refine V_callI [.int v1] [] X E dX12_trade_2 (kX12_isChamber x.2.1 z hZ N v1 σ) co12 (kM hZ 0 _ rfl) gcX12_165 hyX12_isChamber rfl ⟨by decide, by decide⟩ rfl (Nat.le_of_ble_eq_true rfl) (fun r1 s2 => ?_)
  refine V_if_eq (tgt := 15) X dX12_trade_5 (by decide) ?_ ?_
  · refine V_iconst (v := -1) X dX12_trade_15 (by decide) ?_
    exact V_iret X E hr dX12_trade_16
  · refine V_iload_n 2 X dX12_trade_8 rfl rfl ?_
    refine V_calSI [.int v2] [] X E dX12_trade_9 (kX12_isMotion x.2.1 z hZ N v2 s2) gcX12_210 hyX12_isMotion rfl ⟨by decide, by decide⟩ rfl (Nat.le_of_ble_eq_true rfl) (fun r3 s4 => ?_)
    refine V_if_ne (tgt := 17) X dX12_trade_12 (by decide) ?_ ?_
    · refine V_aload_n 0 X dX12_trade_17 rfl rfl ?_
      refine V_callV [] [] X E dX12_trade_18 (kX12_asTold x.2.1 z hZ N s4) co12 (kM hZ 0 _ rfl) gcX12_213 hyX12_asTold rfl ⟨by decide, by decide⟩ rfl (Nat.le_of_ble_eq_true rfl) (fun r5 s6 => ?_)
      refine V_aload_n 0 X dX12_trade_21 rfl rfl ?_
      refine V_iload_n 2 X dX12_trade_22 rfl rfl ?_
      refine V_callI [.int v2] [] X E dX12_trade_23 (kX12_answers x.2.1 z hZ N v2 s6) co12 (kM hZ 0 _ rfl) gcX12_216 hyX12_answers rfl ⟨by decide, by decide⟩ rfl (Nat.le_of_ble_eq_true rfl) (fun r7 s8 => ?_)
      refine V_istore_nG (L' := fun v3_9 => [(3, .int v3_9), (0, .ref (z.2.2.1 0)), (1, .int v1), (2, .int v2)]) X dX12_trade_26 rfl (by decide) (fun _ => rfl) (fun v3_9 => ?_)
      refine V_iconst (v := 0) X dX12_trade_27 (by decide) ?_
      refine V_istoreG (L' := fun v4_10 => [(4, .int v4_10), (3, .int v3_9), (0, .ref (z.2.2.1 0)), (1, .int v1), (2, .int v2)]) X dX12_trade_28 (by decide) (fun _ => rfl) (fun v4_10 => ?_)
      refine V_sub [2, 4, 1, 0] rfl ?_
      exact lX12_trade_30 X E hr hZ N N v2 v3_9 v4_10 s8
    · refine V_iconst (v := -1) X dX12_trade_15 (by decide) ?_
      exact V_iret X E hr dX12_trade_16
theorem kX12_trade (l : Launch) (z : Sx) (hZ : z.2.2.2.1 = kdM) (N : Nat) (v1 : Int32) (v2 : Int32) (σ : Mem) : Ct QI yX12_trade cX12_trade 6 (some .int) 5 113 l z [.ref (z.2.2.1 0), .int v1, .int v2] σ (fX12_trade N v1 v2 σ) := by
  refine Ct_of (by decide +kernel) (Nat.le_of_ble_eq_true rfl) rfl ?_
  intro x _ X E hr
  exact bX12_trade_0 X E hr hZ N v1 v2 σ
def fX12_oaken_b82 (N : Nat) (rc33 : Int32 → Int32 → Int32 → Int32 → Mem → Option (Int32 × Mem)) (v2 : Int32) (v3 : Int32) (v4 : Int32) (v5 : Int32) (σ : Mem) : Option (Int32 × Mem) :=
  lt_ (v5 + 1) (fun v5_20 => rc33 v2 v3 v4 v5_20 σ)
set_option maxRecDepth 100000 in
set_option maxHeartbeats 4000000 in
theorem bX12_oaken_82 {x : Cx} {z : Sx} (X : XG x z RX12 cX12_oaken 6 5 113) (E : XE x z) (hr : XR x (some .int)) (hZ : z.2.2.2.1 = kdM) (N : Nat) (rc33 : Int32 → Int32 → Int32 → Int32 → Mem → Option (Int32 × Mem)) (hc33 : ∀ (v2 : Int32) (v3 : Int32) (v4 : Int32) (v5 : Int32) (σ : Mem), VK x z 6 (BQ QI x z) 33 [(0, .ref (z.2.2.1 0)), (2, .int v2), (3, .int v3), (4, .int v4), (5, .int v5)] [] σ (rc33 v2 v3 v4 v5 σ)) (v2 : Int32) (v3 : Int32) (v4 : Int32) (v5 : Int32) (σ : Mem) : VK x z 6 (BQ QI x z) 82 [(0, .ref (z.2.2.1 0)), (2, .int v2), (3, .int v3), (4, .int v4), (5, .int v5)] [] σ (fX12_oaken_b82 N rc33 v2 v3 v4 v5 σ) := by
  unfold fX12_oaken_b82
  refine V_iincG (L' := fun v5_20 => [(5, .int v5_20), (0, .ref (z.2.2.1 0)), (2, .int v2), (3, .int v3), (4, .int v4)]) 4 X dX12_oaken_82 rfl rfl (by decide) (fun _ => rfl) (fun v5_20 => ?_)
  refine V_goto (tgt := 33) X dX12_oaken_85 (by decide) ?_
  refine V_sub [1, 2, 3, 4, 0] rfl ?_
  exact hc33 v2 v3 v4 v5_20 σ
def fX12_oaken_b69 (N : Nat) (rc33 : Int32 → Int32 → Int32 → Int32 → Mem → Option (Int32 × Mem)) (v2 : Int32) (v3 : Int32) (v4 : Int32) (v5 : Int32) (σ : Mem) : Option (Int32 × Mem) :=
  bd (fX12_answers N v2 σ) (fun r17 s18 => if r17 = v3 then fX12_oaken_b82 N rc33 v2 v3 v4 v5 s18 else lt_ v5 (fun v4_19 => fX12_oaken_b82 N rc33 v2 v3 v4_19 v5 s18))
set_option maxRecDepth 100000 in
set_option maxHeartbeats 4000000 in
theorem bX12_oaken_69 {x : Cx} {z : Sx} (X : XG x z RX12 cX12_oaken 6 5 113) (E : XE x z) (hr : XR x (some .int)) (hZ : z.2.2.2.1 = kdM) (N : Nat) (rc33 : Int32 → Int32 → Int32 → Int32 → Mem → Option (Int32 × Mem)) (hc33 : ∀ (v2 : Int32) (v3 : Int32) (v4 : Int32) (v5 : Int32) (σ : Mem), VK x z 6 (BQ QI x z) 33 [(0, .ref (z.2.2.1 0)), (2, .int v2), (3, .int v3), (4, .int v4), (5, .int v5)] [] σ (rc33 v2 v3 v4 v5 σ)) (v2 : Int32) (v3 : Int32) (v4 : Int32) (v5 : Int32) (σ : Mem) : VK x z 6 (BQ QI x z) 69 [(0, .ref (z.2.2.1 0)), (2, .int v2), (3, .int v3), (4, .int v4), (5, .int v5)] [] σ (fX12_oaken_b69 N rc33 v2 v3 v4 v5 σ) := by
  unfold fX12_oaken_b69
  refine V_aload_n 0 X dX12_oaken_69 rfl rfl ?_
  refine V_iload_n 1 X dX12_oaken_70 rfl rfl ?_
  refine V_callI [.int v2] [] X E dX12_oaken_71 (kX12_answers x.2.1 z hZ N v2 σ) co12 (kM hZ 0 _ rfl) gcX12_216 hyX12_answers rfl ⟨by decide, by decide⟩ rfl (Nat.le_of_ble_eq_true rfl) (fun r17 s18 => ?_)
  refine V_iload_n 2 X dX12_oaken_74 rfl rfl ?_
  refine V_icmp_eq (tgt := 82) X dX12_oaken_75 (by decide) ?_ ?_
  · refine V_sub [0, 1, 2, 3, 4] rfl ?_
    exact bX12_oaken_82 X E hr hZ N rc33 hc33 v2 v3 v4 v5 s18
  · refine V_iload 4 X dX12_oaken_78 rfl ?_
    refine V_istoreG (L' := fun v4_19 => [(4, .int v4_19), (0, .ref (z.2.2.1 0)), (2, .int v2), (3, .int v3), (5, .int v5)]) X dX12_oaken_80 (by decide) (fun _ => rfl) (fun v4_19 => ?_)
    refine V_sub [1, 2, 3, 0, 4] rfl ?_
    exact bX12_oaken_82 X E hr hZ N rc33 hc33 v2 v3 v4_19 v5 s18
def fX12_oaken_b33 (N : Nat) (rc33 : Int32 → Int32 → Int32 → Int32 → Mem → Option (Int32 × Mem)) (v2 : Int32) (v3 : Int32) (v4 : Int32) (v5 : Int32) (σ : Mem) : Option (Int32 × Mem) :=
  if (1 <<< ((σ.1 0 12) &&& 31)) ≤ v5 then some (v4, σ) else lt_ (pI σ 0 16 v5) (fun s12 => if v4 = (-1) then fX12_oaken_b69 N rc33 v2 v3 v4 v5 s12 else bd (fX12_bitsOf N v5 s12) (fun r13 s14 => bd (fX12_bitsOf N v4 s14) (fun r15 s16 => if r15 ≤ r13 then fX12_oaken_b82 N rc33 v2 v3 v4 v5 s16 else fX12_oaken_b69 N rc33 v2 v3 v4 v5 s16)))
set_option maxRecDepth 100000 in
set_option maxHeartbeats 4000000 in
theorem bX12_oaken_33 {x : Cx} {z : Sx} (X : XG x z RX12 cX12_oaken 6 5 113) (E : XE x z) (hr : XR x (some .int)) (hZ : z.2.2.2.1 = kdM) (N : Nat) (rc33 : Int32 → Int32 → Int32 → Int32 → Mem → Option (Int32 × Mem)) (hc33 : ∀ (v2 : Int32) (v3 : Int32) (v4 : Int32) (v5 : Int32) (σ : Mem), VK x z 6 (BQ QI x z) 33 [(0, .ref (z.2.2.1 0)), (2, .int v2), (3, .int v3), (4, .int v4), (5, .int v5)] [] σ (rc33 v2 v3 v4 v5 σ)) (v2 : Int32) (v3 : Int32) (v4 : Int32) (v5 : Int32) (σ : Mem) : VK x z 6 (BQ QI x z) 33 [(0, .ref (z.2.2.1 0)), (2, .int v2), (3, .int v3), (4, .int v4), (5, .int v5)] [] σ (fX12_oaken_b33 N rc33 v2 v3 v4 v5 σ) := by
  unfold fX12_oaken_b33
  refine V_iload 4 X dX12_oaken_33 rfl ?_
  refine V_iconst (v := 1) X dX12_oaken_35 (by decide) ?_
  refine V_aload_n 0 X dX12_oaken_36 rfl rfl ?_
  refine V_getI 12 X dX12_oaken_37 co12 (kM hZ 0 _ rfl) (by decide) rfl wfX12_159 ?_
  refine V_ishl X dX12_oaken_40 ?_
  refine V_icmp_ge (tgt := 88) X dX12_oaken_41 (by decide) ?_ ?_
  · refine V_iload 3 X dX12_oaken_88 rfl ?_
    exact V_iret X E hr dX12_oaken_90
  · refine V_aload_n 0 X dX12_oaken_44 rfl rfl ?_
    refine V_iload 4 X dX12_oaken_45 rfl ?_
    refine V_putIG 16 X dX12_oaken_47 co12 (kM hZ 0 _ rfl) (by decide) rfl wfX12_186 rfl rfl rfl (fun s12 => ?_)
    refine V_iload 3 X dX12_oaken_50 rfl ?_
    refine V_iconst (v := -1) X dX12_oaken_52 (by decide) ?_
    refine V_icmp_eq (tgt := 69) X dX12_oaken_53 (by decide) ?_ ?_
    · refine V_sub [0, 1, 2, 3, 4] rfl ?_
      exact bX12_oaken_69 X E hr hZ N rc33 hc33 v2 v3 v4 v5 s12
    · refine V_iload 4 X dX12_oaken_56 rfl ?_
      refine V_calSI [.int v5] [] X E dX12_oaken_58 (kX12_bitsOf x.2.1 z hZ N v5 s12) gcX12_195 hyX12_bitsOf rfl ⟨by decide, by decide⟩ rfl (Nat.le_of_ble_eq_true rfl) (fun r13 s14 => ?_)
      refine V_iload 3 X dX12_oaken_61 rfl ?_
      refine V_calSI [.int v4] [.int r13] X E dX12_oaken_63 (kX12_bitsOf x.2.1 z hZ N v4 s14) gcX12_195 hyX12_bitsOf rfl ⟨by decide, by decide⟩ rfl (Nat.le_of_ble_eq_true rfl) (fun r15 s16 => ?_)
      refine V_icmp_ge (tgt := 82) X dX12_oaken_66 (by decide) ?_ ?_
      · refine V_sub [0, 1, 2, 3, 4] rfl ?_
        exact bX12_oaken_82 X E hr hZ N rc33 hc33 v2 v3 v4 v5 s16
      · refine V_sub [0, 1, 2, 3, 4] rfl ?_
        exact bX12_oaken_69 X E hr hZ N rc33 hc33 v2 v3 v4 v5 s16
def fX12_oaken_l33 (N : Nat) : Nat → Int32 → Int32 → Int32 → Int32 → Mem → Option (Int32 × Mem)
  | 0 => fun _ _ _ _ _ => none
  | n + 1 => fX12_oaken_b33 N (fX12_oaken_l33 N n)
theorem lX12_oaken_33 {x : Cx} {z : Sx} (X : XG x z RX12 cX12_oaken 6 5 113) (E : XE x z) (hr : XR x (some .int)) (hZ : z.2.2.2.1 = kdM) (N : Nat) (n : Nat) (v2 : Int32) (v3 : Int32) (v4 : Int32) (v5 : Int32) (σ : Mem) : VK x z 6 (BQ QI x z) 33 [(0, .ref (z.2.2.1 0)), (2, .int v2), (3, .int v3), (4, .int v4), (5, .int v5)] [] σ (fX12_oaken_l33 N n v2 v3 v4 v5 σ) := by
  induction n generalizing v2 v3 v4 v5 σ with
  | zero => exact V_none
  | succ n ih => exact bX12_oaken_33 X E hr hZ N (fX12_oaken_l33 N n) ih v2 v3 v4 v5 σ
def fX12_oaken (N : Nat) (v1 : Int32) (v2 : Int32) (σ : Mem) : Option (Int32 × Mem) :=
  bd (fX12_isChamber N v1 σ) (fun r1 s2 => if r1 = 0 then some ((-1), s2) else bd (fX12_isMotion N v2 s2) (fun r3 s4 => if r3 = 0 then some ((-1), s4) else bd (fX12_asTold N s4) (fun r5 s6 => bd (fX12_answers N v2 s6) (fun r7 s8 => lt_ r7 (fun v3_9 => lt_ (-1) (fun v4_10 => lt_ 1 (fun v5_11 => fX12_oaken_l33 N N v2 v3_9 v4_10 v5_11 s8)))))))
set_option maxRecDepth 100000 in
set_option maxHeartbeats 4000000 in
theorem bX12_oaken_0 {x : Cx} {z : Sx} (X : XG x z RX12 cX12_oaken 6 5 113) (E : XE x z) (hr : XR x (some .int)) (hZ : z.2.2.2.1 = kdM) (N : Nat) (v1 : Int32) (v2 : Int32) (σ : Mem) : VK x z 6 (BQ QI x z) 0 [(0, .ref (z.2.2.1 0)), (1, .int v1), (2, .int v2)] [] σ (fX12_oaken N v1 v2 σ) := by
  unfold fX12_oaken
  refine V_aload_n 0 X dX12_oaken_0 rfl rfl ?_
  refine V_iload_n 1 X dX12_oaken_1 rfl rfl ?_
  refine V_callI [.int v1] [] X E dX12_oaken_2 (kX12_isChamber x.2.1 z hZ N v1 σ) co12 (kM hZ 0 _ rfl) gcX12_165 hyX12_isChamber rfl ⟨by decide, by decide⟩ rfl (Nat.le_of_ble_eq_true rfl) (fun r1 s2 => ?_)
  refine V_if_eq (tgt := 15) X dX12_oaken_5 (by decide) ?_ ?_
  · refine V_iconst (v := -1) X dX12_oaken_15 (by decide) ?_
    exact V_iret X E hr dX12_oaken_16
  · refine V_iload_n 2 X dX12_oaken_8 rfl rfl ?_
    refine V_calSI [.int v2] [] X E dX12_oaken_9 (kX12_isMotion x.2.1 z hZ N v2 s2) gcX12_210 hyX12_isMotion rfl ⟨by decide, by decide⟩ rfl (Nat.le_of_ble_eq_true rfl) (fun r3 s4 => ?_)
    refine V_if_ne (tgt := 17) X dX12_oaken_12 (by decide) ?_ ?_
    · refine V_aload_n 0 X dX12_oaken_17 rfl rfl ?_
      refine V_callV [] [] X E dX12_oaken_18 (kX12_asTold x.2.1 z hZ N s4) co12 (kM hZ 0 _ rfl) gcX12_213 hyX12_asTold rfl ⟨by decide, by decide⟩ rfl (Nat.le_of_ble_eq_true rfl) (fun r5 s6 => ?_)
      refine V_aload_n 0 X dX12_oaken_21 rfl rfl ?_
      refine V_iload_n 2 X dX12_oaken_22 rfl rfl ?_
      refine V_callI [.int v2] [] X E dX12_oaken_23 (kX12_answers x.2.1 z hZ N v2 s6) co12 (kM hZ 0 _ rfl) gcX12_216 hyX12_answers rfl ⟨by decide, by decide⟩ rfl (Nat.le_of_ble_eq_true rfl) (fun r7 s8 => ?_)
      refine V_istore_nG (L' := fun v3_9 => [(3, .int v3_9), (0, .ref (z.2.2.1 0)), (1, .int v1), (2, .int v2)]) X dX12_oaken_26 rfl (by decide) (fun _ => rfl) (fun v3_9 => ?_)
      refine V_iconst (v := -1) X dX12_oaken_27 (by decide) ?_
      refine V_istoreG (L' := fun v4_10 => [(4, .int v4_10), (3, .int v3_9), (0, .ref (z.2.2.1 0)), (1, .int v1), (2, .int v2)]) X dX12_oaken_28 (by decide) (fun _ => rfl) (fun v4_10 => ?_)
      refine V_iconst (v := 1) X dX12_oaken_30 (by decide) ?_
      refine V_istoreG (L' := fun v5_11 => [(5, .int v5_11), (4, .int v4_10), (3, .int v3_9), (0, .ref (z.2.2.1 0)), (1, .int v1), (2, .int v2)]) X dX12_oaken_31 (by decide) (fun _ => rfl) (fun v5_11 => ?_)
      refine V_sub [3, 5, 2, 1, 0] rfl ?_
      exact lX12_oaken_33 X E hr hZ N N v2 v3_9 v4_10 v5_11 s8
    · refine V_iconst (v := -1) X dX12_oaken_15 (by decide) ?_
      exact V_iret X E hr dX12_oaken_16
theorem kX12_oaken (l : Launch) (z : Sx) (hZ : z.2.2.2.1 = kdM) (N : Nat) (v1 : Int32) (v2 : Int32) (σ : Mem) : Ct QI yX12_oaken cX12_oaken 6 (some .int) 5 113 l z [.ref (z.2.2.1 0), .int v1, .int v2] σ (fX12_oaken N v1 v2 σ) := by
  refine Ct_of (by decide +kernel) (Nat.le_of_ble_eq_true rfl) rfl ?_
  intro x _ X E hr
  exact bX12_oaken_0 X E hr hZ N v1 v2 σ
def fX12_loudestOf_b43 (N : Nat) (rc15 : Int32 → Int32 → Int32 → Mem → Option (Int32 × Mem)) (v1 : Int32) (v3 : Int32) (t0 : Int32) (σ : Mem) : Option (Int32 × Mem) :=
  lt_ t0 (fun v2_7 => lt_ (v3 + 1) (fun v3_8 => rc15 v1 v2_7 v3_8 σ))
set_option maxRecDepth 100000 in
set_option maxHeartbeats 4000000 in
theorem bX12_loudestOf_43 {x : Cx} {z : Sx} (X : XG x z RX12 cX12_loudestOf 4 3 68) (E : XE x z) (hr : XR x (some .int)) (hZ : z.2.2.2.1 = kdM) (N : Nat) (rc15 : Int32 → Int32 → Int32 → Mem → Option (Int32 × Mem)) (hc15 : ∀ (v1 : Int32) (v2 : Int32) (v3 : Int32) (σ : Mem), VK x z 4 (BQ QI x z) 15 [(0, .ref (z.2.2.1 0)), (1, .int v1), (2, .int v2), (3, .int v3)] [] σ (rc15 v1 v2 v3 σ)) (v1 : Int32) (v3 : Int32) (t0 : Int32) (σ : Mem) : VK x z 4 (BQ QI x z) 43 [(0, .ref (z.2.2.1 0)), (1, .int v1), (3, .int v3)] [.int t0] σ (fX12_loudestOf_b43 N rc15 v1 v3 t0 σ) := by
  unfold fX12_loudestOf_b43
  refine V_istore_nG (L' := fun v2_7 => [(2, .int v2_7), (0, .ref (z.2.2.1 0)), (1, .int v1), (3, .int v3)]) X dX12_loudestOf_43 rfl (by decide) (fun _ => rfl) (fun v2_7 => ?_)
  refine V_iincG (L' := fun v3_8 => [(3, .int v3_8), (2, .int v2_7), (0, .ref (z.2.2.1 0)), (1, .int v1)]) 3 X dX12_loudestOf_44 rfl rfl (by decide) (fun _ => rfl) (fun v3_8 => ?_)
  refine V_goto (tgt := 15) X dX12_loudestOf_47 (by decide) ?_
  refine V_sub [2, 3, 1, 0] rfl ?_
  exact hc15 v1 v2_7 v3_8 σ
def fX12_loudestOf_b15 (N : Nat) (rc15 : Int32 → Int32 → Int32 → Mem → Option (Int32 × Mem)) (v1 : Int32) (v2 : Int32) (v3 : Int32) (σ : Mem) : Option (Int32 × Mem) :=
  if (σ.1 0 12) ≤ v3 then some (v2, σ) else bd (fX12_loudOf N v3 v1 σ) (fun r3 s4 => bd (fX12_loudOf N v2 v1 s4) (fun r5 s6 => if r3 ≤ r5 then fX12_loudestOf_b43 N rc15 v1 v3 v2 s6 else fX12_loudestOf_b43 N rc15 v1 v3 v3 s6))
set_option maxRecDepth 100000 in
set_option maxHeartbeats 4000000 in
theorem bX12_loudestOf_15 {x : Cx} {z : Sx} (X : XG x z RX12 cX12_loudestOf 4 3 68) (E : XE x z) (hr : XR x (some .int)) (hZ : z.2.2.2.1 = kdM) (N : Nat) (rc15 : Int32 → Int32 → Int32 → Mem → Option (Int32 × Mem)) (hc15 : ∀ (v1 : Int32) (v2 : Int32) (v3 : Int32) (σ : Mem), VK x z 4 (BQ QI x z) 15 [(0, .ref (z.2.2.1 0)), (1, .int v1), (2, .int v2), (3, .int v3)] [] σ (rc15 v1 v2 v3 σ)) (v1 : Int32) (v2 : Int32) (v3 : Int32) (σ : Mem) : VK x z 4 (BQ QI x z) 15 [(0, .ref (z.2.2.1 0)), (1, .int v1), (2, .int v2), (3, .int v3)] [] σ (fX12_loudestOf_b15 N rc15 v1 v2 v3 σ) := by
  unfold fX12_loudestOf_b15
  refine V_iload_n 3 X dX12_loudestOf_15 rfl rfl ?_
  refine V_aload_n 0 X dX12_loudestOf_16 rfl rfl ?_
  refine V_getI 12 X dX12_loudestOf_17 co12 (kM hZ 0 _ rfl) (by decide) rfl wfX12_159 ?_
  refine V_icmp_ge (tgt := 50) X dX12_loudestOf_20 (by decide) ?_ ?_
  · refine V_iload_n 2 X dX12_loudestOf_50 rfl rfl ?_
    exact V_iret X E hr dX12_loudestOf_51
  · refine V_aload_n 0 X dX12_loudestOf_23 rfl rfl ?_
    refine V_iload_n 3 X dX12_loudestOf_24 rfl rfl ?_
    refine V_iload_n 1 X dX12_loudestOf_25 rfl rfl ?_
    refine V_callI [.int v3, .int v1] [] X E dX12_loudestOf_26 (kX12_loudOf x.2.1 z hZ N v3 v1 σ) co12 (kM hZ 0 _ rfl) gcX12_198 hyX12_loudOf rfl ⟨by decide, by decide⟩ rfl (Nat.le_of_ble_eq_true rfl) (fun r3 s4 => ?_)
    refine V_aload_n 0 X dX12_loudestOf_29 rfl rfl ?_
    refine V_iload_n 2 X dX12_loudestOf_30 rfl rfl ?_
    refine V_iload_n 1 X dX12_loudestOf_31 rfl rfl ?_
    refine V_callI [.int v2, .int v1] [.int r3] X E dX12_loudestOf_32 (kX12_loudOf x.2.1 z hZ N v2 v1 s4) co12 (kM hZ 0 _ rfl) gcX12_198 hyX12_loudOf rfl ⟨by decide, by decide⟩ rfl (Nat.le_of_ble_eq_true rfl) (fun r5 s6 => ?_)
    refine V_icmp_le (tgt := 42) X dX12_loudestOf_35 (by decide) ?_ ?_
    · refine V_iload_n 2 X dX12_loudestOf_42 rfl rfl ?_
      refine V_sub [0, 1, 3] rfl ?_
      exact bX12_loudestOf_43 X E hr hZ N rc15 hc15 v1 v3 v2 s6
    · refine V_iload_n 3 X dX12_loudestOf_38 rfl rfl ?_
      refine V_goto (tgt := 43) X dX12_loudestOf_39 (by decide) ?_
      refine V_sub [0, 1, 3] rfl ?_
      exact bX12_loudestOf_43 X E hr hZ N rc15 hc15 v1 v3 v3 s6
def fX12_loudestOf_l15 (N : Nat) : Nat → Int32 → Int32 → Int32 → Mem → Option (Int32 × Mem)
  | 0 => fun _ _ _ _ => none
  | n + 1 => fX12_loudestOf_b15 N (fX12_loudestOf_l15 N n)
theorem lX12_loudestOf_15 {x : Cx} {z : Sx} (X : XG x z RX12 cX12_loudestOf 4 3 68) (E : XE x z) (hr : XR x (some .int)) (hZ : z.2.2.2.1 = kdM) (N : Nat) (n : Nat) (v1 : Int32) (v2 : Int32) (v3 : Int32) (σ : Mem) : VK x z 4 (BQ QI x z) 15 [(0, .ref (z.2.2.1 0)), (1, .int v1), (2, .int v2), (3, .int v3)] [] σ (fX12_loudestOf_l15 N n v1 v2 v3 σ) := by
  induction n generalizing v1 v2 v3 σ with
  | zero => exact V_none
  | succ n ih => exact bX12_loudestOf_15 X E hr hZ N (fX12_loudestOf_l15 N n) ih v1 v2 v3 σ
def fX12_loudestOf_b12 (N : Nat) (v1 : Int32) (t0 : Int32) (σ : Mem) : Option (Int32 × Mem) :=
  lt_ t0 (fun v2_1 => lt_ 1 (fun v3_2 => fX12_loudestOf_l15 N N v1 v2_1 v3_2 σ))
set_option maxRecDepth 100000 in
set_option maxHeartbeats 4000000 in
theorem bX12_loudestOf_12 {x : Cx} {z : Sx} (X : XG x z RX12 cX12_loudestOf 4 3 68) (E : XE x z) (hr : XR x (some .int)) (hZ : z.2.2.2.1 = kdM) (N : Nat) (v1 : Int32) (t0 : Int32) (σ : Mem) : VK x z 4 (BQ QI x z) 12 [(0, .ref (z.2.2.1 0)), (1, .int v1)] [.int t0] σ (fX12_loudestOf_b12 N v1 t0 σ) := by
  unfold fX12_loudestOf_b12
  refine V_istore_nG (L' := fun v2_1 => [(2, .int v2_1), (0, .ref (z.2.2.1 0)), (1, .int v1)]) X dX12_loudestOf_12 rfl (by decide) (fun _ => rfl) (fun v2_1 => ?_)
  refine V_iconst (v := 1) X dX12_loudestOf_13 (by decide) ?_
  refine V_istore_nG (L' := fun v3_2 => [(3, .int v3_2), (2, .int v2_1), (0, .ref (z.2.2.1 0)), (1, .int v1)]) X dX12_loudestOf_14 rfl (by decide) (fun _ => rfl) (fun v3_2 => ?_)
  refine V_sub [2, 3, 1, 0] rfl ?_
  exact lX12_loudestOf_15 X E hr hZ N N v1 v2_1 v3_2 σ
def fX12_loudestOf (N : Nat) (v1 : Int32) (σ : Mem) : Option (Int32 × Mem) :=
  if (σ.1 0 12) = 0 then fX12_loudestOf_b12 N v1 (-1) σ else fX12_loudestOf_b12 N v1 0 σ
set_option maxRecDepth 100000 in
set_option maxHeartbeats 4000000 in
theorem bX12_loudestOf_0 {x : Cx} {z : Sx} (X : XG x z RX12 cX12_loudestOf 4 3 68) (E : XE x z) (hr : XR x (some .int)) (hZ : z.2.2.2.1 = kdM) (N : Nat) (v1 : Int32) (σ : Mem) : VK x z 4 (BQ QI x z) 0 [(0, .ref (z.2.2.1 0)), (1, .int v1)] [] σ (fX12_loudestOf N v1 σ) := by
  unfold fX12_loudestOf
  refine V_aload_n 0 X dX12_loudestOf_0 rfl rfl ?_
  refine V_getI 12 X dX12_loudestOf_1 co12 (kM hZ 0 _ rfl) (by decide) rfl wfX12_159 ?_
  refine V_if_ne (tgt := 11) X dX12_loudestOf_4 (by decide) ?_ ?_
  · refine V_iconst (v := 0) X dX12_loudestOf_11 (by decide) ?_
    refine V_sub [0, 1] rfl ?_
    exact bX12_loudestOf_12 X E hr hZ N v1 0 σ
  · refine V_iconst (v := -1) X dX12_loudestOf_7 (by decide) ?_
    refine V_goto (tgt := 12) X dX12_loudestOf_8 (by decide) ?_
    refine V_sub [0, 1] rfl ?_
    exact bX12_loudestOf_12 X E hr hZ N v1 (-1) σ
theorem kX12_loudestOf (l : Launch) (z : Sx) (hZ : z.2.2.2.1 = kdM) (N : Nat) (v1 : Int32) (σ : Mem) : Ct QI yX12_loudestOf cX12_loudestOf 4 (some .int) 3 68 l z [.ref (z.2.2.1 0), .int v1] σ (fX12_loudestOf N v1 σ) := by
  refine Ct_of (by decide +kernel) (Nat.le_of_ble_eq_true rfl) rfl ?_
  intro x _ X E hr
  exact bX12_loudestOf_0 X E hr hZ N v1 σ
def fX12_hinge_b81 (N : Nat) (rc44 : Int32 → Int32 → Int32 → Int32 → Mem → Option (Int32 × Mem)) (v2 : Int32) (v4 : Int32) (v6 : Int32) (t0 : Int32) (t1 : Int32) (σ : Mem) : Option (Int32 × Mem) :=
  lt_ (t1 ||| t0) (fun v5_17 => lt_ (v6 + 1) (fun v6_18 => rc44 v2 v4 v5_17 v6_18 σ))
set_option maxRecDepth 100000 in
set_option maxHeartbeats 4000000 in
theorem bX12_hinge_81 {x : Cx} {z : Sx} (X : XG x z RX12 cX12_hinge 7 5 113) (E : XE x z) (hr : XR x (some .int)) (hZ : z.2.2.2.1 = kdM) (N : Nat) (rc44 : Int32 → Int32 → Int32 → Int32 → Mem → Option (Int32 × Mem)) (hc44 : ∀ (v2 : Int32) (v4 : Int32) (v5 : Int32) (v6 : Int32) (σ : Mem), VK x z 7 (BQ QI x z) 44 [(0, .ref (z.2.2.1 0)), (2, .int v2), (4, .int v4), (5, .int v5), (6, .int v6)] [] σ (rc44 v2 v4 v5 v6 σ)) (v2 : Int32) (v4 : Int32) (v6 : Int32) (t0 : Int32) (t1 : Int32) (σ : Mem) : VK x z 7 (BQ QI x z) 81 [(0, .ref (z.2.2.1 0)), (2, .int v2), (4, .int v4), (6, .int v6)] [.int t0, .int t1] σ (fX12_hinge_b81 N rc44 v2 v4 v6 t0 t1 σ) := by
  unfold fX12_hinge_b81
  refine V_ior X dX12_hinge_81 ?_
  refine V_istoreG (L' := fun v5_17 => [(5, .int v5_17), (0, .ref (z.2.2.1 0)), (2, .int v2), (4, .int v4), (6, .int v6)]) X dX12_hinge_82 (by decide) (fun _ => rfl) (fun v5_17 => ?_)
  refine V_iincG (L' := fun v6_18 => [(6, .int v6_18), (5, .int v5_17), (0, .ref (z.2.2.1 0)), (2, .int v2), (4, .int v4)]) 4 X dX12_hinge_84 rfl rfl (by decide) (fun _ => rfl) (fun v6_18 => ?_)
  refine V_goto (tgt := 44) X dX12_hinge_87 (by decide) ?_
  refine V_sub [2, 3, 4, 1, 0] rfl ?_
  exact hc44 v2 v4 v5_17 v6_18 σ
def fX12_hinge_b44 (N : Nat) (rc44 : Int32 → Int32 → Int32 → Int32 → Mem → Option (Int32 × Mem)) (v2 : Int32) (v4 : Int32) (v5 : Int32) (v6 : Int32) (σ : Mem) : Option (Int32 × Mem) :=
  if (σ.1 0 12) ≤ v6 then some (v5, σ) else lt_ (pI σ 0 15 (1 <<< (v6 &&& 31))) (fun s14 => bd (fX12_answers N v2 s14) (fun r15 s16 => if r15 = v4 then fX12_hinge_b81 N rc44 v2 v4 v6 0 v5 s16 else fX12_hinge_b81 N rc44 v2 v4 v6 (1 <<< (v6 &&& 31)) v5 s16))
set_option maxRecDepth 100000 in
set_option maxHeartbeats 4000000 in
theorem bX12_hinge_44 {x : Cx} {z : Sx} (X : XG x z RX12 cX12_hinge 7 5 113) (E : XE x z) (hr : XR x (some .int)) (hZ : z.2.2.2.1 = kdM) (N : Nat) (rc44 : Int32 → Int32 → Int32 → Int32 → Mem → Option (Int32 × Mem)) (hc44 : ∀ (v2 : Int32) (v4 : Int32) (v5 : Int32) (v6 : Int32) (σ : Mem), VK x z 7 (BQ QI x z) 44 [(0, .ref (z.2.2.1 0)), (2, .int v2), (4, .int v4), (5, .int v5), (6, .int v6)] [] σ (rc44 v2 v4 v5 v6 σ)) (v2 : Int32) (v4 : Int32) (v5 : Int32) (v6 : Int32) (σ : Mem) : VK x z 7 (BQ QI x z) 44 [(0, .ref (z.2.2.1 0)), (2, .int v2), (4, .int v4), (5, .int v5), (6, .int v6)] [] σ (fX12_hinge_b44 N rc44 v2 v4 v5 v6 σ) := by
  unfold fX12_hinge_b44
  refine V_iload 4 X dX12_hinge_44 rfl ?_
  refine V_aload_n 0 X dX12_hinge_46 rfl rfl ?_
  refine V_getI 12 X dX12_hinge_47 co12 (kM hZ 0 _ rfl) (by decide) rfl wfX12_159 ?_
  refine V_icmp_ge (tgt := 90) X dX12_hinge_50 (by decide) ?_ ?_
  · refine V_iload 3 X dX12_hinge_90 rfl ?_
    exact V_iret X E hr dX12_hinge_92
  · refine V_aload_n 0 X dX12_hinge_53 rfl rfl ?_
    refine V_iconst (v := 1) X dX12_hinge_54 (by decide) ?_
    refine V_iload 4 X dX12_hinge_55 rfl ?_
    refine V_ishl X dX12_hinge_57 ?_
    refine V_putIG 15 X dX12_hinge_58 co12 (kM hZ 0 _ rfl) (by decide) rfl wfX12_183 rfl rfl rfl (fun s14 => ?_)
    refine V_iload 3 X dX12_hinge_61 rfl ?_
    refine V_aload_n 0 X dX12_hinge_63 rfl rfl ?_
    refine V_iload_n 1 X dX12_hinge_64 rfl rfl ?_
    refine V_callI [.int v2] [.int v5] X E dX12_hinge_65 (kX12_answers x.2.1 z hZ N v2 s14) co12 (kM hZ 0 _ rfl) gcX12_216 hyX12_answers rfl ⟨by decide, by decide⟩ rfl (Nat.le_of_ble_eq_true rfl) (fun r15 s16 => ?_)
    refine V_iload 2 X dX12_hinge_68 rfl ?_
    refine V_icmp_eq (tgt := 80) X dX12_hinge_70 (by decide) ?_ ?_
    · refine V_iconst (v := 0) X dX12_hinge_80 (by decide) ?_
      refine V_sub [0, 1, 2, 4] rfl ?_
      exact bX12_hinge_81 X E hr hZ N rc44 hc44 v2 v4 v6 0 v5 s16
    · refine V_iconst (v := 1) X dX12_hinge_73 (by decide) ?_
      refine V_iload 4 X dX12_hinge_74 rfl ?_
      refine V_ishl X dX12_hinge_76 ?_
      refine V_goto (tgt := 81) X dX12_hinge_77 (by decide) ?_
      refine V_sub [0, 1, 2, 4] rfl ?_
      exact bX12_hinge_81 X E hr hZ N rc44 hc44 v2 v4 v6 (1 <<< (v6 &&& 31)) v5 s16
def fX12_hinge_l44 (N : Nat) : Nat → Int32 → Int32 → Int32 → Int32 → Mem → Option (Int32 × Mem)
  | 0 => fun _ _ _ _ _ => none
  | n + 1 => fX12_hinge_b44 N (fX12_hinge_l44 N n)
theorem lX12_hinge_44 {x : Cx} {z : Sx} (X : XG x z RX12 cX12_hinge 7 5 113) (E : XE x z) (hr : XR x (some .int)) (hZ : z.2.2.2.1 = kdM) (N : Nat) (n : Nat) (v2 : Int32) (v4 : Int32) (v5 : Int32) (v6 : Int32) (σ : Mem) : VK x z 7 (BQ QI x z) 44 [(0, .ref (z.2.2.1 0)), (2, .int v2), (4, .int v4), (5, .int v5), (6, .int v6)] [] σ (fX12_hinge_l44 N n v2 v4 v5 v6 σ) := by
  induction n generalizing v2 v4 v5 v6 σ with
  | zero => exact V_none
  | succ n ih => exact bX12_hinge_44 X E hr hZ N (fX12_hinge_l44 N n) ih v2 v4 v5 v6 σ
def fX12_hinge (N : Nat) (v1 : Int32) (v2 : Int32) (v3 : Int32) (σ : Mem) : Option (Int32 × Mem) :=
  bd (fX12_isChamber N v1 σ) (fun r1 s2 => if r1 = 0 then some ((-1), s2) else bd (fX12_isMotion N v2 s2) (fun r3 s4 => if r3 = 0 then some ((-1), s4) else bd (fX12_asTold N s4) (fun r5 s6 => if v3 = 0 then bd (fX12_answers N v2 s6) (fun r7 s8 => lt_ r7 (fun v4_9 => lt_ 0 (fun v5_10 => lt_ 0 (fun v6_11 => fX12_hinge_l44 N N v2 v4_9 v5_10 v6_11 s8)))) else bd (fX12_loudestOf N v2 s6) (fun r12 s13 => some (r12, s13)))))
set_option maxRecDepth 100000 in
set_option maxHeartbeats 4000000 in
theorem bX12_hinge_0 {x : Cx} {z : Sx} (X : XG x z RX12 cX12_hinge 7 5 113) (E : XE x z) (hr : XR x (some .int)) (hZ : z.2.2.2.1 = kdM) (N : Nat) (v1 : Int32) (v2 : Int32) (v3 : Int32) (σ : Mem) : VK x z 7 (BQ QI x z) 0 [(0, .ref (z.2.2.1 0)), (1, .int v1), (2, .int v2), (3, .int v3)] [] σ (fX12_hinge N v1 v2 v3 σ) := by
  unfold fX12_hinge
  refine V_aload_n 0 X dX12_hinge_0 rfl rfl ?_
  refine V_iload_n 1 X dX12_hinge_1 rfl rfl ?_
  refine V_callI [.int v1] [] X E dX12_hinge_2 (kX12_isChamber x.2.1 z hZ N v1 σ) co12 (kM hZ 0 _ rfl) gcX12_165 hyX12_isChamber rfl ⟨by decide, by decide⟩ rfl (Nat.le_of_ble_eq_true rfl) (fun r1 s2 => ?_)
  refine V_if_eq (tgt := 15) X dX12_hinge_5 (by decide) ?_ ?_
  · refine V_iconst (v := -1) X dX12_hinge_15 (by decide) ?_
    exact V_iret X E hr dX12_hinge_16
  · refine V_iload_n 2 X dX12_hinge_8 rfl rfl ?_
    refine V_calSI [.int v2] [] X E dX12_hinge_9 (kX12_isMotion x.2.1 z hZ N v2 s2) gcX12_210 hyX12_isMotion rfl ⟨by decide, by decide⟩ rfl (Nat.le_of_ble_eq_true rfl) (fun r3 s4 => ?_)
    refine V_if_ne (tgt := 17) X dX12_hinge_12 (by decide) ?_ ?_
    · refine V_aload_n 0 X dX12_hinge_17 rfl rfl ?_
      refine V_callV [] [] X E dX12_hinge_18 (kX12_asTold x.2.1 z hZ N s4) co12 (kM hZ 0 _ rfl) gcX12_213 hyX12_asTold rfl ⟨by decide, by decide⟩ rfl (Nat.le_of_ble_eq_true rfl) (fun r5 s6 => ?_)
      refine V_iload_n 3 X dX12_hinge_21 rfl rfl ?_
      refine V_if_eq (tgt := 31) X dX12_hinge_22 (by decide) ?_ ?_
      · refine V_aload_n 0 X dX12_hinge_31 rfl rfl ?_
        refine V_iload_n 2 X dX12_hinge_32 rfl rfl ?_
        refine V_callI [.int v2] [] X E dX12_hinge_33 (kX12_answers x.2.1 z hZ N v2 s6) co12 (kM hZ 0 _ rfl) gcX12_216 hyX12_answers rfl ⟨by decide, by decide⟩ rfl (Nat.le_of_ble_eq_true rfl) (fun r7 s8 => ?_)
        refine V_istoreG (L' := fun v4_9 => [(4, .int v4_9), (0, .ref (z.2.2.1 0)), (1, .int v1), (2, .int v2), (3, .int v3)]) X dX12_hinge_36 (by decide) (fun _ => rfl) (fun v4_9 => ?_)
        refine V_iconst (v := 0) X dX12_hinge_38 (by decide) ?_
        refine V_istoreG (L' := fun v5_10 => [(5, .int v5_10), (4, .int v4_9), (0, .ref (z.2.2.1 0)), (1, .int v1), (2, .int v2), (3, .int v3)]) X dX12_hinge_39 (by decide) (fun _ => rfl) (fun v5_10 => ?_)
        refine V_iconst (v := 0) X dX12_hinge_41 (by decide) ?_
        refine V_istoreG (L' := fun v6_11 => [(6, .int v6_11), (5, .int v5_10), (4, .int v4_9), (0, .ref (z.2.2.1 0)), (1, .int v1), (2, .int v2), (3, .int v3)]) X dX12_hinge_42 (by decide) (fun _ => rfl) (fun v6_11 => ?_)
        refine V_sub [3, 5, 2, 1, 0] rfl ?_
        exact lX12_hinge_44 X E hr hZ N N v2 v4_9 v5_10 v6_11 s8
      · refine V_aload_n 0 X dX12_hinge_25 rfl rfl ?_
        refine V_iload_n 2 X dX12_hinge_26 rfl rfl ?_
        refine V_callI [.int v2] [] X E dX12_hinge_27 (kX12_loudestOf x.2.1 z hZ N v2 s6) co12 (kM hZ 0 _ rfl) gcX12_294 hyX12_loudestOf rfl ⟨by decide, by decide⟩ rfl (Nat.le_of_ble_eq_true rfl) (fun r12 s13 => ?_)
        exact V_iret X E hr dX12_hinge_30
    · refine V_iconst (v := -1) X dX12_hinge_15 (by decide) ?_
      exact V_iret X E hr dX12_hinge_16
theorem kX12_hinge (l : Launch) (z : Sx) (hZ : z.2.2.2.1 = kdM) (N : Nat) (v1 : Int32) (v2 : Int32) (v3 : Int32) (σ : Mem) : Ct QI yX12_hinge cX12_hinge 7 (some .int) 5 113 l z [.ref (z.2.2.1 0), .int v1, .int v2, .int v3] σ (fX12_hinge N v1 v2 v3 σ) := by
  refine Ct_of (by decide +kernel) (Nat.le_of_ble_eq_true rfl) rfl ?_
  intro x _ X E hr
  exact bX12_hinge_0 X E hr hZ N v1 v2 v3 σ
def fX12_walk_b158 (N : Nat) (rc70 : Int32 → Int32 → Mem → Option (Int32 × Mem)) (rc80 : Int32 → Int32 → Int32 → Mem → Option (Int32 × Mem)) (v3 : Int32) (v4 : Int32) (v5 : Int32) (σ : Mem) : Option (Int32 × Mem) :=
  lt_ (v5 + 1) (fun v5_23 => rc80 v3 v4 v5_23 σ)
set_option maxRecDepth 100000 in
set_option maxHeartbeats 4000000 in
theorem bX12_walk_158 {x : Cx} {z : Sx} (X : XG x z RX12 cX12_walk 8 5 113) (E : XE x z) (hr : XR x (some .int)) (hZ : z.2.2.2.1 = kdM) (N : Nat) (rc70 : Int32 → Int32 → Mem → Option (Int32 × Mem)) (hc70 : ∀ (v3 : Int32) (v4 : Int32) (σ : Mem), VK x z 8 (BQ QI x z) 70 [(0, .ref (z.2.2.1 0)), (3, .int v3), (4, .int v4)] [] σ (rc70 v3 v4 σ)) (rc80 : Int32 → Int32 → Int32 → Mem → Option (Int32 × Mem)) (hc80 : ∀ (v3 : Int32) (v4 : Int32) (v5 : Int32) (σ : Mem), VK x z 8 (BQ QI x z) 80 [(0, .ref (z.2.2.1 0)), (3, .int v3), (4, .int v4), (5, .int v5)] [] σ (rc80 v3 v4 v5 σ)) (v3 : Int32) (v4 : Int32) (v5 : Int32) (σ : Mem) : VK x z 8 (BQ QI x z) 158 [(0, .ref (z.2.2.1 0)), (3, .int v3), (4, .int v4), (5, .int v5)] [] σ (fX12_walk_b158 N rc70 rc80 v3 v4 v5 σ) := by
  unfold fX12_walk_b158
  refine V_iincG (L' := fun v5_23 => [(5, .int v5_23), (0, .ref (z.2.2.1 0)), (3, .int v3), (4, .int v4)]) 3 X dX12_walk_158 rfl rfl (by decide) (fun _ => rfl) (fun v5_23 => ?_)
  refine V_goto (tgt := 80) X dX12_walk_161 (by decide) ?_
  refine V_sub [1, 2, 3, 0] rfl ?_
  exact hc80 v3 v4 v5_23 σ
def fX12_walk_b152 (N : Nat) (rc70 : Int32 → Int32 → Mem → Option (Int32 × Mem)) (rc80 : Int32 → Int32 → Int32 → Mem → Option (Int32 × Mem)) (rc105 : Int32 → Int32 → Int32 → Int32 → Mem → Option (Int32 × Mem)) (v3 : Int32) (v4 : Int32) (v5 : Int32) (v6 : Int32) (σ : Mem) : Option (Int32 × Mem) :=
  lt_ (v6 + 1) (fun v6_24 => rc105 v3 v4 v5 v6_24 σ)
set_option maxRecDepth 100000 in
set_option maxHeartbeats 4000000 in
theorem bX12_walk_152 {x : Cx} {z : Sx} (X : XG x z RX12 cX12_walk 8 5 113) (E : XE x z) (hr : XR x (some .int)) (hZ : z.2.2.2.1 = kdM) (N : Nat) (rc70 : Int32 → Int32 → Mem → Option (Int32 × Mem)) (hc70 : ∀ (v3 : Int32) (v4 : Int32) (σ : Mem), VK x z 8 (BQ QI x z) 70 [(0, .ref (z.2.2.1 0)), (3, .int v3), (4, .int v4)] [] σ (rc70 v3 v4 σ)) (rc80 : Int32 → Int32 → Int32 → Mem → Option (Int32 × Mem)) (hc80 : ∀ (v3 : Int32) (v4 : Int32) (v5 : Int32) (σ : Mem), VK x z 8 (BQ QI x z) 80 [(0, .ref (z.2.2.1 0)), (3, .int v3), (4, .int v4), (5, .int v5)] [] σ (rc80 v3 v4 v5 σ)) (rc105 : Int32 → Int32 → Int32 → Int32 → Mem → Option (Int32 × Mem)) (hc105 : ∀ (v3 : Int32) (v4 : Int32) (v5 : Int32) (v6 : Int32) (σ : Mem), VK x z 8 (BQ QI x z) 105 [(0, .ref (z.2.2.1 0)), (3, .int v3), (4, .int v4), (5, .int v5), (6, .int v6)] [] σ (rc105 v3 v4 v5 v6 σ)) (v3 : Int32) (v4 : Int32) (v5 : Int32) (v6 : Int32) (σ : Mem) : VK x z 8 (BQ QI x z) 152 [(0, .ref (z.2.2.1 0)), (3, .int v3), (4, .int v4), (5, .int v5), (6, .int v6)] [] σ (fX12_walk_b152 N rc70 rc80 rc105 v3 v4 v5 v6 σ) := by
  unfold fX12_walk_b152
  refine V_iincG (L' := fun v6_24 => [(6, .int v6_24), (0, .ref (z.2.2.1 0)), (3, .int v3), (4, .int v4), (5, .int v5)]) 4 X dX12_walk_152 rfl rfl (by decide) (fun _ => rfl) (fun v6_24 => ?_)
  refine V_goto (tgt := 105) X dX12_walk_155 (by decide) ?_
  refine V_sub [1, 2, 3, 4, 0] rfl ?_
  exact hc105 v3 v4 v5 v6_24 σ
def fX12_walk_b105 (N : Nat) (rc70 : Int32 → Int32 → Mem → Option (Int32 × Mem)) (rc80 : Int32 → Int32 → Int32 → Mem → Option (Int32 × Mem)) (rc105 : Int32 → Int32 → Int32 → Int32 → Mem → Option (Int32 × Mem)) (v3 : Int32) (v4 : Int32) (v5 : Int32) (v6 : Int32) (σ : Mem) : Option (Int32 × Mem) :=
  if 6 ≤ v6 then fX12_walk_b158 N rc70 rc80 v3 v4 v5 σ else lt_ (v5 ^^^ (1 <<< (v6 &&& 31))) (fun v7_19 => gd (inb v7_19 64) (if (σ.1 12 v7_19.toNatClampNeg) = (-1) then bd (fX12_answers N v7_19 σ) (fun r20 s21 => if r20 = 0 then fX12_walk_b152 N rc70 rc80 rc105 v3 v4 v5 v6 s21 else gd (inb v7_19 64) (lt_ (pI s21 12 v7_19.toNatClampNeg (v4 + 1)) (fun s22 => fX12_walk_b152 N rc70 rc80 rc105 v3 v4 v5 v6 s22))) else fX12_walk_b152 N rc70 rc80 rc105 v3 v4 v5 v6 σ))
set_option maxRecDepth 100000 in
set_option maxHeartbeats 4000000 in
theorem bX12_walk_105 {x : Cx} {z : Sx} (X : XG x z RX12 cX12_walk 8 5 113) (E : XE x z) (hr : XR x (some .int)) (hZ : z.2.2.2.1 = kdM) (N : Nat) (rc70 : Int32 → Int32 → Mem → Option (Int32 × Mem)) (hc70 : ∀ (v3 : Int32) (v4 : Int32) (σ : Mem), VK x z 8 (BQ QI x z) 70 [(0, .ref (z.2.2.1 0)), (3, .int v3), (4, .int v4)] [] σ (rc70 v3 v4 σ)) (rc80 : Int32 → Int32 → Int32 → Mem → Option (Int32 × Mem)) (hc80 : ∀ (v3 : Int32) (v4 : Int32) (v5 : Int32) (σ : Mem), VK x z 8 (BQ QI x z) 80 [(0, .ref (z.2.2.1 0)), (3, .int v3), (4, .int v4), (5, .int v5)] [] σ (rc80 v3 v4 v5 σ)) (rc105 : Int32 → Int32 → Int32 → Int32 → Mem → Option (Int32 × Mem)) (hc105 : ∀ (v3 : Int32) (v4 : Int32) (v5 : Int32) (v6 : Int32) (σ : Mem), VK x z 8 (BQ QI x z) 105 [(0, .ref (z.2.2.1 0)), (3, .int v3), (4, .int v4), (5, .int v5), (6, .int v6)] [] σ (rc105 v3 v4 v5 v6 σ)) (v3 : Int32) (v4 : Int32) (v5 : Int32) (v6 : Int32) (σ : Mem) : VK x z 8 (BQ QI x z) 105 [(0, .ref (z.2.2.1 0)), (3, .int v3), (4, .int v4), (5, .int v5), (6, .int v6)] [] σ (fX12_walk_b105 N rc70 rc80 rc105 v3 v4 v5 v6 σ) := by
  unfold fX12_walk_b105
  refine V_iload 4 X dX12_walk_105 rfl ?_
  refine V_bipush (v := 6) X dX12_walk_107 (by decide) ?_
  refine V_icmp_ge (tgt := 158) X dX12_walk_109 (by decide) ?_ ?_
  · refine V_sub [0, 1, 2, 3] rfl ?_
    exact bX12_walk_158 X E hr hZ N rc70 hc70 rc80 hc80 v3 v4 v5 σ
  · refine V_iload 3 X dX12_walk_112 rfl ?_
    refine V_iconst (v := 1) X dX12_walk_114 (by decide) ?_
    refine V_iload 4 X dX12_walk_115 rfl ?_
    refine V_ishl X dX12_walk_117 ?_
    refine V_ixor X dX12_walk_118 ?_
    refine V_istoreG (L' := fun v7_19 => [(7, .int v7_19), (0, .ref (z.2.2.1 0)), (3, .int v3), (4, .int v4), (5, .int v5), (6, .int v6)]) X dX12_walk_119 (by decide) (fun _ => rfl) (fun v7_19 => ?_)
    refine V_aload_n 1 X dX12_walk_121 rfl rfl ?_
    refine V_getR (k1 := 12) 31 X dX12_walk_122 co12 (kM hZ 0 _ rfl) (by decide) rfl rfl wfX12_44 ?_
    refine V_iload 0 X dX12_walk_125 rfl ?_
    refine V_iald X dX12_walk_127 (kM hZ 12 _ rfl) ?_
    refine V_iconst (v := -1) X dX12_walk_128 (by decide) ?_
    refine V_icmp_ne (tgt := 152) X dX12_walk_129 (by decide) ?_ ?_
    · refine V_sub [1, 2, 3, 4, 5] rfl ?_
      exact bX12_walk_152 X E hr hZ N rc70 hc70 rc80 hc80 rc105 hc105 v3 v4 v5 v6 σ
    · refine V_aload_n 1 X dX12_walk_132 rfl rfl ?_
      refine V_iload 0 X dX12_walk_133 rfl ?_
      refine V_callI [.int v7_19] [] X E dX12_walk_135 (kX12_answers x.2.1 z hZ N v7_19 σ) co12 (kM hZ 0 _ rfl) gcX12_216 hyX12_answers rfl ⟨by decide, by decide⟩ rfl (Nat.le_of_ble_eq_true rfl) (fun r20 s21 => ?_)
      refine V_if_eq (tgt := 152) X dX12_walk_138 (by decide) ?_ ?_
      · refine V_sub [1, 2, 3, 4, 5] rfl ?_
        exact bX12_walk_152 X E hr hZ N rc70 hc70 rc80 hc80 rc105 hc105 v3 v4 v5 v6 s21
      · refine V_aload_n 1 X dX12_walk_141 rfl rfl ?_
        refine V_getR (k1 := 12) 31 X dX12_walk_142 co12 (kM hZ 0 _ rfl) (by decide) rfl rfl wfX12_44 ?_
        refine V_iload 0 X dX12_walk_145 rfl ?_
        refine V_iload 3 X dX12_walk_147 rfl ?_
        refine V_iconst (v := 1) X dX12_walk_149 (by decide) ?_
        refine V_iadd X dX12_walk_150 ?_
        refine V_iastG X dX12_walk_151 (kM hZ 12 _ rfl) (fun s22 => ?_)
        refine V_sub [1, 2, 3, 4, 5] rfl ?_
        exact bX12_walk_152 X E hr hZ N rc70 hc70 rc80 hc80 rc105 hc105 v3 v4 v5 v6 s22
def fX12_walk_l105 (N : Nat) (rc70 : Int32 → Int32 → Mem → Option (Int32 × Mem)) (rc80 : Int32 → Int32 → Int32 → Mem → Option (Int32 × Mem)) : Nat → Int32 → Int32 → Int32 → Int32 → Mem → Option (Int32 × Mem)
  | 0 => fun _ _ _ _ _ => none
  | n + 1 => fX12_walk_b105 N rc70 rc80 (fX12_walk_l105 N rc70 rc80 n)
theorem lX12_walk_105 {x : Cx} {z : Sx} (X : XG x z RX12 cX12_walk 8 5 113) (E : XE x z) (hr : XR x (some .int)) (hZ : z.2.2.2.1 = kdM) (N : Nat) (rc70 : Int32 → Int32 → Mem → Option (Int32 × Mem)) (hc70 : ∀ (v3 : Int32) (v4 : Int32) (σ : Mem), VK x z 8 (BQ QI x z) 70 [(0, .ref (z.2.2.1 0)), (3, .int v3), (4, .int v4)] [] σ (rc70 v3 v4 σ)) (rc80 : Int32 → Int32 → Int32 → Mem → Option (Int32 × Mem)) (hc80 : ∀ (v3 : Int32) (v4 : Int32) (v5 : Int32) (σ : Mem), VK x z 8 (BQ QI x z) 80 [(0, .ref (z.2.2.1 0)), (3, .int v3), (4, .int v4), (5, .int v5)] [] σ (rc80 v3 v4 v5 σ)) (n : Nat) (v3 : Int32) (v4 : Int32) (v5 : Int32) (v6 : Int32) (σ : Mem) : VK x z 8 (BQ QI x z) 105 [(0, .ref (z.2.2.1 0)), (3, .int v3), (4, .int v4), (5, .int v5), (6, .int v6)] [] σ (fX12_walk_l105 N rc70 rc80 n v3 v4 v5 v6 σ) := by
  induction n generalizing v3 v4 v5 v6 σ with
  | zero => exact V_none
  | succ n ih => exact bX12_walk_105 X E hr hZ N rc70 hc70 rc80 hc80 (fX12_walk_l105 N rc70 rc80 n) ih v3 v4 v5 v6 σ
def fX12_walk_b80 (N : Nat) (rc70 : Int32 → Int32 → Mem → Option (Int32 × Mem)) (rc80 : Int32 → Int32 → Int32 → Mem → Option (Int32 × Mem)) (v3 : Int32) (v4 : Int32) (v5 : Int32) (σ : Mem) : Option (Int32 × Mem) :=
  if 64 ≤ v5 then lt_ (v4 + 1) (fun v4_17 => rc70 v3 v4_17 σ) else gd (inb v5 64) (if (σ.1 12 v5.toNatClampNeg) = v4 then lt_ 0 (fun v6_18 => fX12_walk_l105 N rc70 rc80 N v3 v4 v5 v6_18 σ) else fX12_walk_b158 N rc70 rc80 v3 v4 v5 σ)
set_option maxRecDepth 100000 in
set_option maxHeartbeats 4000000 in
theorem bX12_walk_80 {x : Cx} {z : Sx} (X : XG x z RX12 cX12_walk 8 5 113) (E : XE x z) (hr : XR x (some .int)) (hZ : z.2.2.2.1 = kdM) (N : Nat) (rc70 : Int32 → Int32 → Mem → Option (Int32 × Mem)) (hc70 : ∀ (v3 : Int32) (v4 : Int32) (σ : Mem), VK x z 8 (BQ QI x z) 70 [(0, .ref (z.2.2.1 0)), (3, .int v3), (4, .int v4)] [] σ (rc70 v3 v4 σ)) (rc80 : Int32 → Int32 → Int32 → Mem → Option (Int32 × Mem)) (hc80 : ∀ (v3 : Int32) (v4 : Int32) (v5 : Int32) (σ : Mem), VK x z 8 (BQ QI x z) 80 [(0, .ref (z.2.2.1 0)), (3, .int v3), (4, .int v4), (5, .int v5)] [] σ (rc80 v3 v4 v5 σ)) (v3 : Int32) (v4 : Int32) (v5 : Int32) (σ : Mem) : VK x z 8 (BQ QI x z) 80 [(0, .ref (z.2.2.1 0)), (3, .int v3), (4, .int v4), (5, .int v5)] [] σ (fX12_walk_b80 N rc70 rc80 v3 v4 v5 σ) := by
  unfold fX12_walk_b80
  refine V_iload 3 X dX12_walk_80 rfl ?_
  refine V_bipush (v := 64) X dX12_walk_82 (by decide) ?_
  refine V_icmp_ge (tgt := 164) X dX12_walk_84 (by decide) ?_ ?_
  · refine V_iincG (L' := fun v4_17 => [(4, .int v4_17), (0, .ref (z.2.2.1 0)), (3, .int v3), (5, .int v5)]) 2 X dX12_walk_164 rfl rfl (by decide) (fun _ => rfl) (fun v4_17 => ?_)
    refine V_goto (tgt := 70) X dX12_walk_167 (by decide) ?_
    refine V_sub [1, 2, 0] rfl ?_
    exact hc70 v3 v4_17 σ
  · refine V_aload_n 0 X dX12_walk_87 rfl rfl ?_
    refine V_getR (k1 := 12) 31 X dX12_walk_88 co12 (kM hZ 0 _ rfl) (by decide) rfl rfl wfX12_44 ?_
    refine V_iload 3 X dX12_walk_91 rfl ?_
    refine V_iald X dX12_walk_93 (kM hZ 12 _ rfl) ?_
    refine V_iload 2 X dX12_walk_94 rfl ?_
    refine V_icmp_eq (tgt := 102) X dX12_walk_96 (by decide) ?_ ?_
    · refine V_iconst (v := 0) X dX12_walk_102 (by decide) ?_
      refine V_istoreG (L' := fun v6_18 => [(6, .int v6_18), (0, .ref (z.2.2.1 0)), (3, .int v3), (4, .int v4), (5, .int v5)]) X dX12_walk_103 (by decide) (fun _ => rfl) (fun v6_18 => ?_)
      refine V_sub [1, 2, 3, 4, 0] rfl ?_
      exact lX12_walk_105 X E hr hZ N rc70 hc70 rc80 hc80 N v3 v4 v5 v6_18 σ
    · refine V_goto (tgt := 158) X dX12_walk_99 (by decide) ?_
      refine V_sub [0, 1, 2, 3] rfl ?_
      exact bX12_walk_158 X E hr hZ N rc70 hc70 rc80 hc80 v3 v4 v5 σ
def fX12_walk_l80 (N : Nat) (rc70 : Int32 → Int32 → Mem → Option (Int32 × Mem)) : Nat → Int32 → Int32 → Int32 → Mem → Option (Int32 × Mem)
  | 0 => fun _ _ _ _ => none
  | n + 1 => fX12_walk_b80 N rc70 (fX12_walk_l80 N rc70 n)
theorem lX12_walk_80 {x : Cx} {z : Sx} (X : XG x z RX12 cX12_walk 8 5 113) (E : XE x z) (hr : XR x (some .int)) (hZ : z.2.2.2.1 = kdM) (N : Nat) (rc70 : Int32 → Int32 → Mem → Option (Int32 × Mem)) (hc70 : ∀ (v3 : Int32) (v4 : Int32) (σ : Mem), VK x z 8 (BQ QI x z) 70 [(0, .ref (z.2.2.1 0)), (3, .int v3), (4, .int v4)] [] σ (rc70 v3 v4 σ)) (n : Nat) (v3 : Int32) (v4 : Int32) (v5 : Int32) (σ : Mem) : VK x z 8 (BQ QI x z) 80 [(0, .ref (z.2.2.1 0)), (3, .int v3), (4, .int v4), (5, .int v5)] [] σ (fX12_walk_l80 N rc70 n v3 v4 v5 σ) := by
  induction n generalizing v3 v4 v5 σ with
  | zero => exact V_none
  | succ n ih => exact bX12_walk_80 X E hr hZ N rc70 hc70 (fX12_walk_l80 N rc70 n) ih v3 v4 v5 σ
def fX12_walk_b70 (N : Nat) (rc70 : Int32 → Int32 → Mem → Option (Int32 × Mem)) (v3 : Int32) (v4 : Int32) (σ : Mem) : Option (Int32 × Mem) :=
  if 64 ≤ v4 then gd (inb v3 64) (some ((σ.1 12 v3.toNatClampNeg), σ)) else lt_ 0 (fun v5_16 => fX12_walk_l80 N rc70 N v3 v4 v5_16 σ)
set_option maxRecDepth 100000 in
set_option maxHeartbeats 4000000 in
theorem bX12_walk_70 {x : Cx} {z : Sx} (X : XG x z RX12 cX12_walk 8 5 113) (E : XE x z) (hr : XR x (some .int)) (hZ : z.2.2.2.1 = kdM) (N : Nat) (rc70 : Int32 → Int32 → Mem → Option (Int32 × Mem)) (hc70 : ∀ (v3 : Int32) (v4 : Int32) (σ : Mem), VK x z 8 (BQ QI x z) 70 [(0, .ref (z.2.2.1 0)), (3, .int v3), (4, .int v4)] [] σ (rc70 v3 v4 σ)) (v3 : Int32) (v4 : Int32) (σ : Mem) : VK x z 8 (BQ QI x z) 70 [(0, .ref (z.2.2.1 0)), (3, .int v3), (4, .int v4)] [] σ (fX12_walk_b70 N rc70 v3 v4 σ) := by
  unfold fX12_walk_b70
  refine V_iload 2 X dX12_walk_70 rfl ?_
  refine V_bipush (v := 64) X dX12_walk_72 (by decide) ?_
  refine V_icmp_ge (tgt := 170) X dX12_walk_74 (by decide) ?_ ?_
  · refine V_aload_n 0 X dX12_walk_170 rfl rfl ?_
    refine V_getR (k1 := 12) 31 X dX12_walk_171 co12 (kM hZ 0 _ rfl) (by decide) rfl rfl wfX12_44 ?_
    refine V_iload_n 1 X dX12_walk_174 rfl rfl ?_
    refine V_iald X dX12_walk_175 (kM hZ 12 _ rfl) ?_
    exact V_iret X E hr dX12_walk_176
  · refine V_iconst (v := 0) X dX12_walk_77 (by decide) ?_
    refine V_istoreG (L' := fun v5_16 => [(5, .int v5_16), (0, .ref (z.2.2.1 0)), (3, .int v3), (4, .int v4)]) X dX12_walk_78 (by decide) (fun _ => rfl) (fun v5_16 => ?_)
    refine V_sub [1, 2, 3, 0] rfl ?_
    exact lX12_walk_80 X E hr hZ N rc70 hc70 N v3 v4 v5_16 σ
def fX12_walk_l70 (N : Nat) : Nat → Int32 → Int32 → Mem → Option (Int32 × Mem)
  | 0 => fun _ _ _ => none
  | n + 1 => fX12_walk_b70 N (fX12_walk_l70 N n)
theorem lX12_walk_70 {x : Cx} {z : Sx} (X : XG x z RX12 cX12_walk 8 5 113) (E : XE x z) (hr : XR x (some .int)) (hZ : z.2.2.2.1 = kdM) (N : Nat) (n : Nat) (v3 : Int32) (v4 : Int32) (σ : Mem) : VK x z 8 (BQ QI x z) 70 [(0, .ref (z.2.2.1 0)), (3, .int v3), (4, .int v4)] [] σ (fX12_walk_l70 N n v3 v4 σ) := by
  induction n generalizing v3 v4 σ with
  | zero => exact V_none
  | succ n ih => exact bX12_walk_70 X E hr hZ N (fX12_walk_l70 N n) ih v3 v4 σ
def fX12_walk_b67 (N : Nat) (v3 : Int32) (σ : Mem) : Option (Int32 × Mem) :=
  lt_ 0 (fun v4_15 => fX12_walk_l70 N N v3 v4_15 σ)
set_option maxRecDepth 100000 in
set_option maxHeartbeats 4000000 in
theorem bX12_walk_67 {x : Cx} {z : Sx} (X : XG x z RX12 cX12_walk 8 5 113) (E : XE x z) (hr : XR x (some .int)) (hZ : z.2.2.2.1 = kdM) (N : Nat) (v3 : Int32) (σ : Mem) : VK x z 8 (BQ QI x z) 67 [(0, .ref (z.2.2.1 0)), (3, .int v3)] [] σ (fX12_walk_b67 N v3 σ) := by
  unfold fX12_walk_b67
  refine V_iconst (v := 0) X dX12_walk_67 (by decide) ?_
  refine V_istoreG (L' := fun v4_15 => [(4, .int v4_15), (0, .ref (z.2.2.1 0)), (3, .int v3)]) X dX12_walk_68 (by decide) (fun _ => rfl) (fun v4_15 => ?_)
  refine V_sub [1, 2, 0] rfl ?_
  exact lX12_walk_70 X E hr hZ N N v3 v4_15 σ
def fX12_walk_b31 (N : Nat) (rc31 : Int32 → Int32 → Int32 → Mem → Option (Int32 × Mem)) (v2 : Int32) (v3 : Int32) (v4 : Int32) (σ : Mem) : Option (Int32 × Mem) :=
  if 64 ≤ v4 then bd (fX12_answers N v2 σ) (fun r10 s11 => if r10 = 0 then fX12_walk_b67 N v3 s11 else gd (inb v2 64) (lt_ (pI s11 12 v2.toNatClampNeg 0) (fun s12 => fX12_walk_b67 N v3 s12))) else gd (inb v4 64) (lt_ (pI σ 12 v4.toNatClampNeg (-1)) (fun s13 => lt_ (v4 + 1) (fun v4_14 => rc31 v2 v3 v4_14 s13)))
set_option maxRecDepth 100000 in
set_option maxHeartbeats 4000000 in
theorem bX12_walk_31 {x : Cx} {z : Sx} (X : XG x z RX12 cX12_walk 8 5 113) (E : XE x z) (hr : XR x (some .int)) (hZ : z.2.2.2.1 = kdM) (N : Nat) (rc31 : Int32 → Int32 → Int32 → Mem → Option (Int32 × Mem)) (hc31 : ∀ (v2 : Int32) (v3 : Int32) (v4 : Int32) (σ : Mem), VK x z 8 (BQ QI x z) 31 [(0, .ref (z.2.2.1 0)), (2, .int v2), (3, .int v3), (4, .int v4)] [] σ (rc31 v2 v3 v4 σ)) (v2 : Int32) (v3 : Int32) (v4 : Int32) (σ : Mem) : VK x z 8 (BQ QI x z) 31 [(0, .ref (z.2.2.1 0)), (2, .int v2), (3, .int v3), (4, .int v4)] [] σ (fX12_walk_b31 N rc31 v2 v3 v4 σ) := by
  unfold fX12_walk_b31
  refine V_iload 3 X dX12_walk_31 rfl ?_
  refine V_bipush (v := 64) X dX12_walk_33 (by decide) ?_
  refine V_icmp_ge (tgt := 52) X dX12_walk_35 (by decide) ?_ ?_
  · refine V_aload_n 0 X dX12_walk_52 rfl rfl ?_
    refine V_iload_n 1 X dX12_walk_53 rfl rfl ?_
    refine V_callI [.int v2] [] X E dX12_walk_54 (kX12_answers x.2.1 z hZ N v2 σ) co12 (kM hZ 0 _ rfl) gcX12_216 hyX12_answers rfl ⟨by decide, by decide⟩ rfl (Nat.le_of_ble_eq_true rfl) (fun r10 s11 => ?_)
    refine V_if_eq (tgt := 67) X dX12_walk_57 (by decide) ?_ ?_
    · refine V_sub [0, 2] rfl ?_
      exact bX12_walk_67 X E hr hZ N v3 s11
    · refine V_aload_n 0 X dX12_walk_60 rfl rfl ?_
      refine V_getR (k1 := 12) 31 X dX12_walk_61 co12 (kM hZ 0 _ rfl) (by decide) rfl rfl wfX12_44 ?_
      refine V_iload_n 1 X dX12_walk_64 rfl rfl ?_
      refine V_iconst (v := 0) X dX12_walk_65 (by decide) ?_
      refine V_iastG X dX12_walk_66 (kM hZ 12 _ rfl) (fun s12 => ?_)
      refine V_sub [0, 2] rfl ?_
      exact bX12_walk_67 X E hr hZ N v3 s12
  · refine V_aload_n 0 X dX12_walk_38 rfl rfl ?_
    refine V_getR (k1 := 12) 31 X dX12_walk_39 co12 (kM hZ 0 _ rfl) (by decide) rfl rfl wfX12_44 ?_
    refine V_iload 3 X dX12_walk_42 rfl ?_
    refine V_iconst (v := -1) X dX12_walk_44 (by decide) ?_
    refine V_iastG X dX12_walk_45 (kM hZ 12 _ rfl) (fun s13 => ?_)
    refine V_iincG (L' := fun v4_14 => [(4, .int v4_14), (0, .ref (z.2.2.1 0)), (2, .int v2), (3, .int v3)]) 3 X dX12_walk_46 rfl rfl (by decide) (fun _ => rfl) (fun v4_14 => ?_)
    refine V_goto (tgt := 31) X dX12_walk_49 (by decide) ?_
    refine V_sub [1, 2, 3, 0] rfl ?_
    exact hc31 v2 v3 v4_14 s13
def fX12_walk_l31 (N : Nat) : Nat → Int32 → Int32 → Int32 → Mem → Option (Int32 × Mem)
  | 0 => fun _ _ _ _ => none
  | n + 1 => fX12_walk_b31 N (fX12_walk_l31 N n)
theorem lX12_walk_31 {x : Cx} {z : Sx} (X : XG x z RX12 cX12_walk 8 5 113) (E : XE x z) (hr : XR x (some .int)) (hZ : z.2.2.2.1 = kdM) (N : Nat) (n : Nat) (v2 : Int32) (v3 : Int32) (v4 : Int32) (σ : Mem) : VK x z 8 (BQ QI x z) 31 [(0, .ref (z.2.2.1 0)), (2, .int v2), (3, .int v3), (4, .int v4)] [] σ (fX12_walk_l31 N n v2 v3 v4 σ) := by
  induction n generalizing v2 v3 v4 σ with
  | zero => exact V_none
  | succ n ih => exact bX12_walk_31 X E hr hZ N (fX12_walk_l31 N n) ih v2 v3 v4 σ
def fX12_walk (N : Nat) (v1 : Int32) (v2 : Int32) (v3 : Int32) (σ : Mem) : Option (Int32 × Mem) :=
  bd (fX12_isChamber N v1 σ) (fun r1 s2 => if r1 = 0 then some ((-1), s2) else bd (fX12_isMotion N v2 s2) (fun r3 s4 => if r3 = 0 then some ((-1), s4) else bd (fX12_isMotion N v3 s4) (fun r5 s6 => if r5 = 0 then some ((-1), s6) else bd (fX12_asTold N s6) (fun r7 s8 => lt_ 0 (fun v4_9 => fX12_walk_l31 N N v2 v3 v4_9 s8)))))
set_option maxRecDepth 100000 in
set_option maxHeartbeats 4000000 in
theorem bX12_walk_0 {x : Cx} {z : Sx} (X : XG x z RX12 cX12_walk 8 5 113) (E : XE x z) (hr : XR x (some .int)) (hZ : z.2.2.2.1 = kdM) (N : Nat) (v1 : Int32) (v2 : Int32) (v3 : Int32) (σ : Mem) : VK x z 8 (BQ QI x z) 0 [(0, .ref (z.2.2.1 0)), (1, .int v1), (2, .int v2), (3, .int v3)] [] σ (fX12_walk N v1 v2 v3 σ) := by
  unfold fX12_walk
  refine V_aload_n 0 X dX12_walk_0 rfl rfl ?_
  refine V_iload_n 1 X dX12_walk_1 rfl rfl ?_
  refine V_callI [.int v1] [] X E dX12_walk_2 (kX12_isChamber x.2.1 z hZ N v1 σ) co12 (kM hZ 0 _ rfl) gcX12_165 hyX12_isChamber rfl ⟨by decide, by decide⟩ rfl (Nat.le_of_ble_eq_true rfl) (fun r1 s2 => ?_)
  refine V_if_eq (tgt := 22) X dX12_walk_5 (by decide) ?_ ?_
  · refine V_iconst (v := -1) X dX12_walk_22 (by decide) ?_
    exact V_iret X E hr dX12_walk_23
  · refine V_iload_n 2 X dX12_walk_8 rfl rfl ?_
    refine V_calSI [.int v2] [] X E dX12_walk_9 (kX12_isMotion x.2.1 z hZ N v2 s2) gcX12_210 hyX12_isMotion rfl ⟨by decide, by decide⟩ rfl (Nat.le_of_ble_eq_true rfl) (fun r3 s4 => ?_)
    refine V_if_eq (tgt := 22) X dX12_walk_12 (by decide) ?_ ?_
    · refine V_iconst (v := -1) X dX12_walk_22 (by decide) ?_
      exact V_iret X E hr dX12_walk_23
    · refine V_iload_n 3 X dX12_walk_15 rfl rfl ?_
      refine V_calSI [.int v3] [] X E dX12_walk_16 (kX12_isMotion x.2.1 z hZ N v3 s4) gcX12_210 hyX12_isMotion rfl ⟨by decide, by decide⟩ rfl (Nat.le_of_ble_eq_true rfl) (fun r5 s6 => ?_)
      refine V_if_ne (tgt := 24) X dX12_walk_19 (by decide) ?_ ?_
      · refine V_aload_n 0 X dX12_walk_24 rfl rfl ?_
        refine V_callV [] [] X E dX12_walk_25 (kX12_asTold x.2.1 z hZ N s6) co12 (kM hZ 0 _ rfl) gcX12_213 hyX12_asTold rfl ⟨by decide, by decide⟩ rfl (Nat.le_of_ble_eq_true rfl) (fun r7 s8 => ?_)
        refine V_iconst (v := 0) X dX12_walk_28 (by decide) ?_
        refine V_istoreG (L' := fun v4_9 => [(4, .int v4_9), (0, .ref (z.2.2.1 0)), (1, .int v1), (2, .int v2), (3, .int v3)]) X dX12_walk_29 (by decide) (fun _ => rfl) (fun v4_9 => ?_)
        refine V_sub [1, 3, 4, 0] rfl ?_
        exact lX12_walk_31 X E hr hZ N N v2 v3 v4_9 s8
      · refine V_iconst (v := -1) X dX12_walk_22 (by decide) ?_
        exact V_iret X E hr dX12_walk_23
theorem kX12_walk (l : Launch) (z : Sx) (hZ : z.2.2.2.1 = kdM) (N : Nat) (v1 : Int32) (v2 : Int32) (v3 : Int32) (σ : Mem) : Ct QI yX12_walk cX12_walk 8 (some .int) 5 113 l z [.ref (z.2.2.1 0), .int v1, .int v2, .int v3] σ (fX12_walk N v1 v2 v3 σ) := by
  refine Ct_of (by decide +kernel) (Nat.le_of_ble_eq_true rfl) rfl ?_
  intro x _ X E hr
  exact bX12_walk_0 X E hr hZ N v1 v2 v3 σ
def fX12_place_b118 (N : Nat) (rc40 : Int32 → Int32 → Int32 → Int32 → Int32 → Int32 → Mem → Option (Int32 × Mem)) (v2 : Int32) (v3 : Int32) (v4 : Int32) (v5 : Int32) (v6 : Int32) (v7 : Int32) (σ : Mem) : Option (Int32 × Mem) :=
  lt_ (v7 + 1) (fun v7_17 => rc40 v2 v3 v4 v5 v6 v7_17 σ)
set_option maxRecDepth 100000 in
set_option maxHeartbeats 4000000 in
theorem bX12_place_118 {x : Cx} {z : Sx} (X : XG x z RX12 cX12_place 8 5 113) (E : XE x z) (hr : XR x (some .int)) (hZ : z.2.2.2.1 = kdM) (N : Nat) (rc40 : Int32 → Int32 → Int32 → Int32 → Int32 → Int32 → Mem → Option (Int32 × Mem)) (hc40 : ∀ (v2 : Int32) (v3 : Int32) (v4 : Int32) (v5 : Int32) (v6 : Int32) (v7 : Int32) (σ : Mem), VK x z 8 (BQ QI x z) 40 [(0, .ref (z.2.2.1 0)), (2, .int v2), (3, .int v3), (4, .int v4), (5, .int v5), (6, .int v6), (7, .int v7)] [] σ (rc40 v2 v3 v4 v5 v6 v7 σ)) (v2 : Int32) (v3 : Int32) (v4 : Int32) (v5 : Int32) (v6 : Int32) (v7 : Int32) (σ : Mem) : VK x z 8 (BQ QI x z) 118 [(0, .ref (z.2.2.1 0)), (2, .int v2), (3, .int v3), (4, .int v4), (5, .int v5), (6, .int v6), (7, .int v7)] [] σ (fX12_place_b118 N rc40 v2 v3 v4 v5 v6 v7 σ) := by
  unfold fX12_place_b118
  refine V_iincG (L' := fun v7_17 => [(7, .int v7_17), (0, .ref (z.2.2.1 0)), (2, .int v2), (3, .int v3), (4, .int v4), (5, .int v5), (6, .int v6)]) 6 X dX12_place_118 rfl rfl (by decide) (fun _ => rfl) (fun v7_17 => ?_)
  refine V_goto (tgt := 40) X dX12_place_121 (by decide) ?_
  refine V_sub [1, 2, 3, 4, 5, 6, 0] rfl ?_
  exact hc40 v2 v3 v4 v5 v6 v7_17 σ
def fX12_place_b103 (N : Nat) (rc40 : Int32 → Int32 → Int32 → Int32 → Int32 → Int32 → Mem → Option (Int32 × Mem)) (v2 : Int32) (v3 : Int32) (v4 : Int32) (v7 : Int32) (σ : Mem) : Option (Int32 × Mem) :=
  lt_ v7 (fun v5_18 => lt_ ((σ.1 0 21) - (σ.1 0 22)) (fun v6_19 => fX12_place_b118 N rc40 v2 v3 v4 v5_18 v6_19 v7 σ))
set_option maxRecDepth 100000 in
set_option maxHeartbeats 4000000 in
theorem bX12_place_103 {x : Cx} {z : Sx} (X : XG x z RX12 cX12_place 8 5 113) (E : XE x z) (hr : XR x (some .int)) (hZ : z.2.2.2.1 = kdM) (N : Nat) (rc40 : Int32 → Int32 → Int32 → Int32 → Int32 → Int32 → Mem → Option (Int32 × Mem)) (hc40 : ∀ (v2 : Int32) (v3 : Int32) (v4 : Int32) (v5 : Int32) (v6 : Int32) (v7 : Int32) (σ : Mem), VK x z 8 (BQ QI x z) 40 [(0, .ref (z.2.2.1 0)), (2, .int v2), (3, .int v3), (4, .int v4), (5, .int v5), (6, .int v6), (7, .int v7)] [] σ (rc40 v2 v3 v4 v5 v6 v7 σ)) (v2 : Int32) (v3 : Int32) (v4 : Int32) (v7 : Int32) (σ : Mem) : VK x z 8 (BQ QI x z) 103 [(0, .ref (z.2.2.1 0)), (2, .int v2), (3, .int v3), (4, .int v4), (7, .int v7)] [] σ (fX12_place_b103 N rc40 v2 v3 v4 v7 σ) := by
  unfold fX12_place_b103
  refine V_iload 4 X dX12_place_103 rfl ?_
  refine V_istoreG (L' := fun v5_18 => [(5, .int v5_18), (0, .ref (z.2.2.1 0)), (2, .int v2), (3, .int v3), (4, .int v4), (7, .int v7)]) X dX12_place_105 (by decide) (fun _ => rfl) (fun v5_18 => ?_)
  refine V_aload_n 1 X dX12_place_107 rfl rfl ?_
  refine V_getI 21 X dX12_place_108 co12 (kM hZ 0 _ rfl) (by decide) rfl wfX12_201 ?_
  refine V_aload_n 1 X dX12_place_111 rfl rfl ?_
  refine V_getI 22 X dX12_place_112 co12 (kM hZ 0 _ rfl) (by decide) rfl wfX12_204 ?_
  refine V_isub X dX12_place_115 ?_
  refine V_istoreG (L' := fun v6_19 => [(6, .int v6_19), (5, .int v5_18), (0, .ref (z.2.2.1 0)), (2, .int v2), (3, .int v3), (4, .int v4), (7, .int v7)]) X dX12_place_116 (by decide) (fun _ => rfl) (fun v6_19 => ?_)
  refine V_sub [2, 3, 4, 5, 1, 0, 6] rfl ?_
  exact bX12_place_118 X E hr hZ N rc40 hc40 v2 v3 v4 v5_18 v6_19 v7 σ
def fX12_place_b66 (N : Nat) (rc40 : Int32 → Int32 → Int32 → Int32 → Int32 → Int32 → Mem → Option (Int32 × Mem)) (v2 : Int32) (v3 : Int32) (v4 : Int32) (v5 : Int32) (v6 : Int32) (v7 : Int32) (σ : Mem) : Option (Int32 × Mem) :=
  gd (inb v3 6) (lt_ (pI σ 6 v3.toNatClampNeg v7) (fun s14 => bd (fX12_answers N v2 s14) (fun r15 s16 => if v5 = (-1) then fX12_place_b103 N rc40 v2 v3 v4 v7 s16 else if v6 < ((s16.1 0 21) - (s16.1 0 22)) then fX12_place_b103 N rc40 v2 v3 v4 v7 s16 else fX12_place_b118 N rc40 v2 v3 v4 v5 v6 v7 s16)))
set_option maxRecDepth 100000 in
set_option maxHeartbeats 4000000 in
theorem bX12_place_66 {x : Cx} {z : Sx} (X : XG x z RX12 cX12_place 8 5 113) (E : XE x z) (hr : XR x (some .int)) (hZ : z.2.2.2.1 = kdM) (N : Nat) (rc40 : Int32 → Int32 → Int32 → Int32 → Int32 → Int32 → Mem → Option (Int32 × Mem)) (hc40 : ∀ (v2 : Int32) (v3 : Int32) (v4 : Int32) (v5 : Int32) (v6 : Int32) (v7 : Int32) (σ : Mem), VK x z 8 (BQ QI x z) 40 [(0, .ref (z.2.2.1 0)), (2, .int v2), (3, .int v3), (4, .int v4), (5, .int v5), (6, .int v6), (7, .int v7)] [] σ (rc40 v2 v3 v4 v5 v6 v7 σ)) (v2 : Int32) (v3 : Int32) (v4 : Int32) (v5 : Int32) (v6 : Int32) (v7 : Int32) (σ : Mem) : VK x z 8 (BQ QI x z) 66 [(0, .ref (z.2.2.1 0)), (2, .int v2), (3, .int v3), (4, .int v4), (5, .int v5), (6, .int v6), (7, .int v7)] [] σ (fX12_place_b66 N rc40 v2 v3 v4 v5 v6 v7 σ) := by
  unfold fX12_place_b66
  refine V_aload_n 0 X dX12_place_66 rfl rfl ?_
  refine V_getR (k1 := 6) 19 X dX12_place_67 co12 (kM hZ 0 _ rfl) (by decide) rfl rfl wfX12_26 ?_
  refine V_iload_n 2 X dX12_place_70 rfl rfl ?_
  refine V_iload 6 X dX12_place_71 rfl ?_
  refine V_iastG X dX12_place_73 (kM hZ 6 _ rfl) (fun s14 => ?_)
  refine V_aload_n 0 X dX12_place_74 rfl rfl ?_
  refine V_iload_n 1 X dX12_place_75 rfl rfl ?_
  refine V_callI [.int v2] [] X E dX12_place_76 (kX12_answers x.2.1 z hZ N v2 s14) co12 (kM hZ 0 _ rfl) gcX12_216 hyX12_answers rfl ⟨by decide, by decide⟩ rfl (Nat.le_of_ble_eq_true rfl) (fun r15 s16 => ?_)
  refine V_pop X dX12_place_79 rfl ?_
  refine V_iload 4 X dX12_place_80 rfl ?_
  refine V_iconst (v := -1) X dX12_place_82 (by decide) ?_
  refine V_icmp_eq (tgt := 103) X dX12_place_83 (by decide) ?_ ?_
  · refine V_sub [0, 1, 2, 3, 6] rfl ?_
    exact bX12_place_103 X E hr hZ N rc40 hc40 v2 v3 v4 v7 s16
  · refine V_aload_n 0 X dX12_place_86 rfl rfl ?_
    refine V_getI 21 X dX12_place_87 co12 (kM hZ 0 _ rfl) (by decide) rfl wfX12_201 ?_
    refine V_aload_n 0 X dX12_place_90 rfl rfl ?_
    refine V_getI 22 X dX12_place_91 co12 (kM hZ 0 _ rfl) (by decide) rfl wfX12_204 ?_
    refine V_isub X dX12_place_94 ?_
    refine V_iload 5 X dX12_place_95 rfl ?_
    refine V_icmp_gt (tgt := 103) X dX12_place_97 (by decide) ?_ ?_
    · refine V_sub [0, 1, 2, 3, 6] rfl ?_
      exact bX12_place_103 X E hr hZ N rc40 hc40 v2 v3 v4 v7 s16
    · refine V_goto (tgt := 118) X dX12_place_100 (by decide) ?_
      refine V_sub [0, 1, 2, 3, 4, 5, 6] rfl ?_
      exact bX12_place_118 X E hr hZ N rc40 hc40 v2 v3 v4 v5 v6 v7 s16
def fX12_place_b40 (N : Nat) (rc40 : Int32 → Int32 → Int32 → Int32 → Int32 → Int32 → Mem → Option (Int32 × Mem)) (v2 : Int32) (v3 : Int32) (v4 : Int32) (v5 : Int32) (v6 : Int32) (v7 : Int32) (σ : Mem) : Option (Int32 × Mem) :=
  if 8 < v7 then if v4 = 0 then some (v5, σ) else some (v6, σ) else if v7 = 8 then fX12_place_b66 N rc40 v2 v3 v4 v5 v6 v7 σ else bd (fX12_isPiece N v7 σ) (fun r12 s13 => if r12 = 0 then fX12_place_b118 N rc40 v2 v3 v4 v5 v6 v7 s13 else fX12_place_b66 N rc40 v2 v3 v4 v5 v6 v7 s13)
set_option maxRecDepth 100000 in
set_option maxHeartbeats 4000000 in
theorem bX12_place_40 {x : Cx} {z : Sx} (X : XG x z RX12 cX12_place 8 5 113) (E : XE x z) (hr : XR x (some .int)) (hZ : z.2.2.2.1 = kdM) (N : Nat) (rc40 : Int32 → Int32 → Int32 → Int32 → Int32 → Int32 → Mem → Option (Int32 × Mem)) (hc40 : ∀ (v2 : Int32) (v3 : Int32) (v4 : Int32) (v5 : Int32) (v6 : Int32) (v7 : Int32) (σ : Mem), VK x z 8 (BQ QI x z) 40 [(0, .ref (z.2.2.1 0)), (2, .int v2), (3, .int v3), (4, .int v4), (5, .int v5), (6, .int v6), (7, .int v7)] [] σ (rc40 v2 v3 v4 v5 v6 v7 σ)) (v2 : Int32) (v3 : Int32) (v4 : Int32) (v5 : Int32) (v6 : Int32) (v7 : Int32) (σ : Mem) : VK x z 8 (BQ QI x z) 40 [(0, .ref (z.2.2.1 0)), (2, .int v2), (3, .int v3), (4, .int v4), (5, .int v5), (6, .int v6), (7, .int v7)] [] σ (fX12_place_b40 N rc40 v2 v3 v4 v5 v6 v7 σ) := by
  unfold fX12_place_b40
  refine V_iload 6 X dX12_place_40 rfl ?_
  refine V_bipush (v := 8) X dX12_place_42 (by decide) ?_
  refine V_icmp_gt (tgt := 124) X dX12_place_44 (by decide) ?_ ?_
  · refine V_iload 3 X dX12_place_124 rfl ?_
    refine V_if_eq (tgt := 134) X dX12_place_126 (by decide) ?_ ?_
    · refine V_iload 4 X dX12_place_134 rfl ?_
      exact V_iret X E hr dX12_place_136
    · refine V_iload 5 X dX12_place_129 rfl ?_
      refine V_goto (tgt := 136) X dX12_place_131 (by decide) ?_
      exact V_iret X E hr dX12_place_136
  · refine V_iload 6 X dX12_place_47 rfl ?_
    refine V_bipush (v := 8) X dX12_place_49 (by decide) ?_
    refine V_icmp_eq (tgt := 66) X dX12_place_51 (by decide) ?_ ?_
    · refine V_sub [0, 1, 2, 3, 4, 5, 6] rfl ?_
      exact bX12_place_66 X E hr hZ N rc40 hc40 v2 v3 v4 v5 v6 v7 σ
    · refine V_aload_n 0 X dX12_place_54 rfl rfl ?_
      refine V_iload 6 X dX12_place_55 rfl ?_
      refine V_callI [.int v7] [] X E dX12_place_57 (kX12_isPiece x.2.1 z hZ N v7 σ) co12 (kM hZ 0 _ rfl) gcX12_168 hyX12_isPiece rfl ⟨by decide, by decide⟩ rfl (Nat.le_of_ble_eq_true rfl) (fun r12 s13 => ?_)
      refine V_if_ne (tgt := 66) X dX12_place_60 (by decide) ?_ ?_
      · refine V_sub [0, 1, 2, 3, 4, 5, 6] rfl ?_
        exact bX12_place_66 X E hr hZ N rc40 hc40 v2 v3 v4 v5 v6 v7 s13
      · refine V_goto (tgt := 118) X dX12_place_63 (by decide) ?_
        refine V_sub [0, 1, 2, 3, 4, 5, 6] rfl ?_
        exact bX12_place_118 X E hr hZ N rc40 hc40 v2 v3 v4 v5 v6 v7 s13
def fX12_place_l40 (N : Nat) : Nat → Int32 → Int32 → Int32 → Int32 → Int32 → Int32 → Mem → Option (Int32 × Mem)
  | 0 => fun _ _ _ _ _ _ _ => none
  | n + 1 => fX12_place_b40 N (fX12_place_l40 N n)
theorem lX12_place_40 {x : Cx} {z : Sx} (X : XG x z RX12 cX12_place 8 5 113) (E : XE x z) (hr : XR x (some .int)) (hZ : z.2.2.2.1 = kdM) (N : Nat) (n : Nat) (v2 : Int32) (v3 : Int32) (v4 : Int32) (v5 : Int32) (v6 : Int32) (v7 : Int32) (σ : Mem) : VK x z 8 (BQ QI x z) 40 [(0, .ref (z.2.2.1 0)), (2, .int v2), (3, .int v3), (4, .int v4), (5, .int v5), (6, .int v6), (7, .int v7)] [] σ (fX12_place_l40 N n v2 v3 v4 v5 v6 v7 σ) := by
  induction n generalizing v2 v3 v4 v5 v6 v7 σ with
  | zero => exact V_none
  | succ n ih => exact bX12_place_40 X E hr hZ N (fX12_place_l40 N n) ih v2 v3 v4 v5 v6 v7 σ
def fX12_place (N : Nat) (v1 : Int32) (v2 : Int32) (v3 : Int32) (v4 : Int32) (σ : Mem) : Option (Int32 × Mem) :=
  bd (fX12_isChamber N v1 σ) (fun r1 s2 => if r1 = 0 then some ((-1000), s2) else bd (fX12_isMotion N v2 s2) (fun r3 s4 => if r3 = 0 then some ((-1000), s4) else bd (fX12_isPerson N v3 s4) (fun r5 s6 => if r5 = 0 then some ((-1000), s6) else bd (fX12_asTold N s6) (fun r7 s8 => lt_ (-1) (fun v5_9 => lt_ 0 (fun v6_10 => lt_ 0 (fun v7_11 => fX12_place_l40 N N v2 v3 v4 v5_9 v6_10 v7_11 s8)))))))
set_option maxRecDepth 100000 in
set_option maxHeartbeats 4000000 in
theorem bX12_place_0 {x : Cx} {z : Sx} (X : XG x z RX12 cX12_place 8 5 113) (E : XE x z) (hr : XR x (some .int)) (hZ : z.2.2.2.1 = kdM) (N : Nat) (v1 : Int32) (v2 : Int32) (v3 : Int32) (v4 : Int32) (σ : Mem) : VK x z 8 (BQ QI x z) 0 [(0, .ref (z.2.2.1 0)), (1, .int v1), (2, .int v2), (3, .int v3), (4, .int v4)] [] σ (fX12_place N v1 v2 v3 v4 σ) := by
  unfold fX12_place
  refine V_aload_n 0 X dX12_place_0 rfl rfl ?_
  refine V_iload_n 1 X dX12_place_1 rfl rfl ?_
  refine V_callI [.int v1] [] X E dX12_place_2 (kX12_isChamber x.2.1 z hZ N v1 σ) co12 (kM hZ 0 _ rfl) gcX12_165 hyX12_isChamber rfl ⟨by decide, by decide⟩ rfl (Nat.le_of_ble_eq_true rfl) (fun r1 s2 => ?_)
  refine V_if_eq (tgt := 23) X dX12_place_5 (by decide) ?_ ?_
  · refine V_sipush (v := -1000) X dX12_place_23 (by decide) ?_
    exact V_iret X E hr dX12_place_26
  · refine V_iload_n 2 X dX12_place_8 rfl rfl ?_
    refine V_calSI [.int v2] [] X E dX12_place_9 (kX12_isMotion x.2.1 z hZ N v2 s2) gcX12_210 hyX12_isMotion rfl ⟨by decide, by decide⟩ rfl (Nat.le_of_ble_eq_true rfl) (fun r3 s4 => ?_)
    refine V_if_eq (tgt := 23) X dX12_place_12 (by decide) ?_ ?_
    · refine V_sipush (v := -1000) X dX12_place_23 (by decide) ?_
      exact V_iret X E hr dX12_place_26
    · refine V_aload_n 0 X dX12_place_15 rfl rfl ?_
      refine V_iload_n 3 X dX12_place_16 rfl rfl ?_
      refine V_callI [.int v3] [] X E dX12_place_17 (kX12_isPerson x.2.1 z hZ N v3 s4) co12 (kM hZ 0 _ rfl) gcX12_174 hyX12_isPerson rfl ⟨by decide, by decide⟩ rfl (Nat.le_of_ble_eq_true rfl) (fun r5 s6 => ?_)
      refine V_if_ne (tgt := 27) X dX12_place_20 (by decide) ?_ ?_
      · refine V_aload_n 0 X dX12_place_27 rfl rfl ?_
        refine V_callV [] [] X E dX12_place_28 (kX12_asTold x.2.1 z hZ N s6) co12 (kM hZ 0 _ rfl) gcX12_213 hyX12_asTold rfl ⟨by decide, by decide⟩ rfl (Nat.le_of_ble_eq_true rfl) (fun r7 s8 => ?_)
        refine V_iconst (v := -1) X dX12_place_31 (by decide) ?_
        refine V_istoreG (L' := fun v5_9 => [(5, .int v5_9), (0, .ref (z.2.2.1 0)), (1, .int v1), (2, .int v2), (3, .int v3), (4, .int v4)]) X dX12_place_32 (by decide) (fun _ => rfl) (fun v5_9 => ?_)
        refine V_iconst (v := 0) X dX12_place_34 (by decide) ?_
        refine V_istoreG (L' := fun v6_10 => [(6, .int v6_10), (5, .int v5_9), (0, .ref (z.2.2.1 0)), (1, .int v1), (2, .int v2), (3, .int v3), (4, .int v4)]) X dX12_place_35 (by decide) (fun _ => rfl) (fun v6_10 => ?_)
        refine V_iconst (v := 0) X dX12_place_37 (by decide) ?_
        refine V_istoreG (L' := fun v7_11 => [(7, .int v7_11), (6, .int v6_10), (5, .int v5_9), (0, .ref (z.2.2.1 0)), (1, .int v1), (2, .int v2), (3, .int v3), (4, .int v4)]) X dX12_place_38 (by decide) (fun _ => rfl) (fun v7_11 => ?_)
        refine V_sub [3, 5, 6, 7, 2, 1, 0] rfl ?_
        exact lX12_place_40 X E hr hZ N N v2 v3 v4 v5_9 v6_10 v7_11 s8
      · refine V_sipush (v := -1000) X dX12_place_23 (by decide) ?_
        exact V_iret X E hr dX12_place_26
theorem kX12_place (l : Launch) (z : Sx) (hZ : z.2.2.2.1 = kdM) (N : Nat) (v1 : Int32) (v2 : Int32) (v3 : Int32) (v4 : Int32) (σ : Mem) : Ct QI yX12_place cX12_place 8 (some .int) 5 113 l z [.ref (z.2.2.1 0), .int v1, .int v2, .int v3, .int v4] σ (fX12_place N v1 v2 v3 v4 σ) := by
  refine Ct_of (by decide +kernel) (Nat.le_of_ble_eq_true rfl) rfl ?_
  intro x _ X E hr
  exact bX12_place_0 X E hr hZ N v1 v2 v3 v4 σ
def fX12_sitsDown_b122 (N : Nat) (rc30 : Int32 → Int32 → Mem → Option (Int32 × Mem)) (rc46 : Int32 → Int32 → Int32 → Int32 → Int32 → Mem → Option (Int32 × Mem)) (v1 : Int32) (v2 : Int32) (v3 : Int32) (v4 : Int32) (v5 : Int32) (σ : Mem) : Option (Int32 × Mem) :=
  lt_ (v5 + 1) (fun v5_19 => rc46 v1 v2 v3 v4 v5_19 σ)
set_option maxRecDepth 100000 in
set_option maxHeartbeats 4000000 in
theorem bX12_sitsDown_122 {x : Cx} {z : Sx} (X : XG x z RX12 cX12_sitsDown 6 5 113) (E : XE x z) (hr : XR x (some .int)) (hZ : z.2.2.2.1 = kdM) (N : Nat) (rc30 : Int32 → Int32 → Mem → Option (Int32 × Mem)) (hc30 : ∀ (v1 : Int32) (v2 : Int32) (σ : Mem), VK x z 6 (BQ QI x z) 30 [(0, .ref (z.2.2.1 0)), (1, .int v1), (2, .int v2)] [] σ (rc30 v1 v2 σ)) (rc46 : Int32 → Int32 → Int32 → Int32 → Int32 → Mem → Option (Int32 × Mem)) (hc46 : ∀ (v1 : Int32) (v2 : Int32) (v3 : Int32) (v4 : Int32) (v5 : Int32) (σ : Mem), VK x z 6 (BQ QI x z) 46 [(0, .ref (z.2.2.1 0)), (1, .int v1), (2, .int v2), (3, .int v3), (4, .int v4), (5, .int v5)] [] σ (rc46 v1 v2 v3 v4 v5 σ)) (v1 : Int32) (v2 : Int32) (v3 : Int32) (v4 : Int32) (v5 : Int32) (σ : Mem) : VK x z 6 (BQ QI x z) 122 [(0, .ref (z.2.2.1 0)), (1, .int v1), (2, .int v2), (3, .int v3), (4, .int v4), (5, .int v5)] [] σ (fX12_sitsDown_b122 N rc30 rc46 v1 v2 v3 v4 v5 σ) := by
  unfold fX12_sitsDown_b122
  refine V_iincG (L' := fun v5_19 => [(5, .int v5_19), (0, .ref (z.2.2.1 0)), (1, .int v1), (2, .int v2), (3, .int v3), (4, .int v4)]) 5 X dX12_sitsDown_122 rfl rfl (by decide) (fun _ => rfl) (fun v5_19 => ?_)
  refine V_goto (tgt := 46) X dX12_sitsDown_125 (by decide) ?_
  refine V_sub [1, 2, 3, 4, 5, 0] rfl ?_
  exact hc46 v1 v2 v3 v4 v5_19 σ
def fX12_sitsDown_b108 (N : Nat) (rc30 : Int32 → Int32 → Mem → Option (Int32 × Mem)) (rc46 : Int32 → Int32 → Int32 → Int32 → Int32 → Mem → Option (Int32 × Mem)) (v1 : Int32) (v2 : Int32) (v5 : Int32) (σ : Mem) : Option (Int32 × Mem) :=
  lt_ v5 (fun v3_20 => lt_ ((σ.1 0 21) - (σ.1 0 22)) (fun v4_21 => fX12_sitsDown_b122 N rc30 rc46 v1 v2 v3_20 v4_21 v5 σ))
set_option maxRecDepth 100000 in
set_option maxHeartbeats 4000000 in
theorem bX12_sitsDown_108 {x : Cx} {z : Sx} (X : XG x z RX12 cX12_sitsDown 6 5 113) (E : XE x z) (hr : XR x (some .int)) (hZ : z.2.2.2.1 = kdM) (N : Nat) (rc30 : Int32 → Int32 → Mem → Option (Int32 × Mem)) (hc30 : ∀ (v1 : Int32) (v2 : Int32) (σ : Mem), VK x z 6 (BQ QI x z) 30 [(0, .ref (z.2.2.1 0)), (1, .int v1), (2, .int v2)] [] σ (rc30 v1 v2 σ)) (rc46 : Int32 → Int32 → Int32 → Int32 → Int32 → Mem → Option (Int32 × Mem)) (hc46 : ∀ (v1 : Int32) (v2 : Int32) (v3 : Int32) (v4 : Int32) (v5 : Int32) (σ : Mem), VK x z 6 (BQ QI x z) 46 [(0, .ref (z.2.2.1 0)), (1, .int v1), (2, .int v2), (3, .int v3), (4, .int v4), (5, .int v5)] [] σ (rc46 v1 v2 v3 v4 v5 σ)) (v1 : Int32) (v2 : Int32) (v5 : Int32) (σ : Mem) : VK x z 6 (BQ QI x z) 108 [(0, .ref (z.2.2.1 0)), (1, .int v1), (2, .int v2), (5, .int v5)] [] σ (fX12_sitsDown_b108 N rc30 rc46 v1 v2 v5 σ) := by
  unfold fX12_sitsDown_b108
  refine V_iload 3 X dX12_sitsDown_108 rfl ?_
  refine V_istore_nG (L' := fun v3_20 => [(3, .int v3_20), (0, .ref (z.2.2.1 0)), (1, .int v1), (2, .int v2), (5, .int v5)]) X dX12_sitsDown_110 rfl (by decide) (fun _ => rfl) (fun v3_20 => ?_)
  refine V_aload_n 1 X dX12_sitsDown_111 rfl rfl ?_
  refine V_getI 21 X dX12_sitsDown_112 co12 (kM hZ 0 _ rfl) (by decide) rfl wfX12_201 ?_
  refine V_aload_n 1 X dX12_sitsDown_115 rfl rfl ?_
  refine V_getI 22 X dX12_sitsDown_116 co12 (kM hZ 0 _ rfl) (by decide) rfl wfX12_204 ?_
  refine V_isub X dX12_sitsDown_119 ?_
  refine V_istoreG (L' := fun v4_21 => [(4, .int v4_21), (3, .int v3_20), (0, .ref (z.2.2.1 0)), (1, .int v1), (2, .int v2), (5, .int v5)]) X dX12_sitsDown_120 (by decide) (fun _ => rfl) (fun v4_21 => ?_)
  refine V_sub [2, 3, 4, 1, 0, 5] rfl ?_
  exact bX12_sitsDown_122 X E hr hZ N rc30 hc30 rc46 hc46 v1 v2 v3_20 v4_21 v5 σ
def fX12_sitsDown_b72 (N : Nat) (rc30 : Int32 → Int32 → Mem → Option (Int32 × Mem)) (rc46 : Int32 → Int32 → Int32 → Int32 → Int32 → Mem → Option (Int32 × Mem)) (v1 : Int32) (v2 : Int32) (v3 : Int32) (v4 : Int32) (v5 : Int32) (σ : Mem) : Option (Int32 × Mem) :=
  gd (inb v2 6) (lt_ (pI σ 6 v2.toNatClampNeg v5) (fun s16 => bd (fX12_answers N v1 s16) (fun r17 s18 => if v3 = (-1) then fX12_sitsDown_b108 N rc30 rc46 v1 v2 v5 s18 else if v4 < ((s18.1 0 21) - (s18.1 0 22)) then fX12_sitsDown_b108 N rc30 rc46 v1 v2 v5 s18 else fX12_sitsDown_b122 N rc30 rc46 v1 v2 v3 v4 v5 s18)))
set_option maxRecDepth 100000 in
set_option maxHeartbeats 4000000 in
theorem bX12_sitsDown_72 {x : Cx} {z : Sx} (X : XG x z RX12 cX12_sitsDown 6 5 113) (E : XE x z) (hr : XR x (some .int)) (hZ : z.2.2.2.1 = kdM) (N : Nat) (rc30 : Int32 → Int32 → Mem → Option (Int32 × Mem)) (hc30 : ∀ (v1 : Int32) (v2 : Int32) (σ : Mem), VK x z 6 (BQ QI x z) 30 [(0, .ref (z.2.2.1 0)), (1, .int v1), (2, .int v2)] [] σ (rc30 v1 v2 σ)) (rc46 : Int32 → Int32 → Int32 → Int32 → Int32 → Mem → Option (Int32 × Mem)) (hc46 : ∀ (v1 : Int32) (v2 : Int32) (v3 : Int32) (v4 : Int32) (v5 : Int32) (σ : Mem), VK x z 6 (BQ QI x z) 46 [(0, .ref (z.2.2.1 0)), (1, .int v1), (2, .int v2), (3, .int v3), (4, .int v4), (5, .int v5)] [] σ (rc46 v1 v2 v3 v4 v5 σ)) (v1 : Int32) (v2 : Int32) (v3 : Int32) (v4 : Int32) (v5 : Int32) (σ : Mem) : VK x z 6 (BQ QI x z) 72 [(0, .ref (z.2.2.1 0)), (1, .int v1), (2, .int v2), (3, .int v3), (4, .int v4), (5, .int v5)] [] σ (fX12_sitsDown_b72 N rc30 rc46 v1 v2 v3 v4 v5 σ) := by
  unfold fX12_sitsDown_b72
  refine V_aload_n 0 X dX12_sitsDown_72 rfl rfl ?_
  refine V_getR (k1 := 6) 19 X dX12_sitsDown_73 co12 (kM hZ 0 _ rfl) (by decide) rfl rfl wfX12_26 ?_
  refine V_iload_n 2 X dX12_sitsDown_76 rfl rfl ?_
  refine V_iload 5 X dX12_sitsDown_77 rfl ?_
  refine V_iastG X dX12_sitsDown_79 (kM hZ 6 _ rfl) (fun s16 => ?_)
  refine V_aload_n 0 X dX12_sitsDown_80 rfl rfl ?_
  refine V_iload_n 1 X dX12_sitsDown_81 rfl rfl ?_
  refine V_callI [.int v1] [] X E dX12_sitsDown_82 (kX12_answers x.2.1 z hZ N v1 s16) co12 (kM hZ 0 _ rfl) gcX12_216 hyX12_answers rfl ⟨by decide, by decide⟩ rfl (Nat.le_of_ble_eq_true rfl) (fun r17 s18 => ?_)
  refine V_pop X dX12_sitsDown_85 rfl ?_
  refine V_iload_n 3 X dX12_sitsDown_86 rfl rfl ?_
  refine V_iconst (v := -1) X dX12_sitsDown_87 (by decide) ?_
  refine V_icmp_eq (tgt := 108) X dX12_sitsDown_88 (by decide) ?_ ?_
  · refine V_sub [0, 1, 2, 5] rfl ?_
    exact bX12_sitsDown_108 X E hr hZ N rc30 hc30 rc46 hc46 v1 v2 v5 s18
  · refine V_aload_n 0 X dX12_sitsDown_91 rfl rfl ?_
    refine V_getI 21 X dX12_sitsDown_92 co12 (kM hZ 0 _ rfl) (by decide) rfl wfX12_201 ?_
    refine V_aload_n 0 X dX12_sitsDown_95 rfl rfl ?_
    refine V_getI 22 X dX12_sitsDown_96 co12 (kM hZ 0 _ rfl) (by decide) rfl wfX12_204 ?_
    refine V_isub X dX12_sitsDown_99 ?_
    refine V_iload 4 X dX12_sitsDown_100 rfl ?_
    refine V_icmp_gt (tgt := 108) X dX12_sitsDown_102 (by decide) ?_ ?_
    · refine V_sub [0, 1, 2, 5] rfl ?_
      exact bX12_sitsDown_108 X E hr hZ N rc30 hc30 rc46 hc46 v1 v2 v5 s18
    · refine V_goto (tgt := 122) X dX12_sitsDown_105 (by decide) ?_
      refine V_sub [0, 1, 2, 3, 4, 5] rfl ?_
      exact bX12_sitsDown_122 X E hr hZ N rc30 hc30 rc46 hc46 v1 v2 v3 v4 v5 s18
def fX12_sitsDown_b46 (N : Nat) (rc30 : Int32 → Int32 → Mem → Option (Int32 × Mem)) (rc46 : Int32 → Int32 → Int32 → Int32 → Int32 → Mem → Option (Int32 × Mem)) (v1 : Int32) (v2 : Int32) (v3 : Int32) (v4 : Int32) (v5 : Int32) (σ : Mem) : Option (Int32 × Mem) :=
  if 8 < v5 then gd (inb v2 6) (lt_ (pI σ 6 v2.toNatClampNeg v3) (fun s12 => lt_ (v2 + 1) (fun v2_13 => rc30 v1 v2_13 s12))) else if v5 = 8 then fX12_sitsDown_b72 N rc30 rc46 v1 v2 v3 v4 v5 σ else bd (fX12_isPiece N v5 σ) (fun r14 s15 => if r14 = 0 then fX12_sitsDown_b122 N rc30 rc46 v1 v2 v3 v4 v5 s15 else fX12_sitsDown_b72 N rc30 rc46 v1 v2 v3 v4 v5 s15)
set_option maxRecDepth 100000 in
set_option maxHeartbeats 4000000 in
theorem bX12_sitsDown_46 {x : Cx} {z : Sx} (X : XG x z RX12 cX12_sitsDown 6 5 113) (E : XE x z) (hr : XR x (some .int)) (hZ : z.2.2.2.1 = kdM) (N : Nat) (rc30 : Int32 → Int32 → Mem → Option (Int32 × Mem)) (hc30 : ∀ (v1 : Int32) (v2 : Int32) (σ : Mem), VK x z 6 (BQ QI x z) 30 [(0, .ref (z.2.2.1 0)), (1, .int v1), (2, .int v2)] [] σ (rc30 v1 v2 σ)) (rc46 : Int32 → Int32 → Int32 → Int32 → Int32 → Mem → Option (Int32 × Mem)) (hc46 : ∀ (v1 : Int32) (v2 : Int32) (v3 : Int32) (v4 : Int32) (v5 : Int32) (σ : Mem), VK x z 6 (BQ QI x z) 46 [(0, .ref (z.2.2.1 0)), (1, .int v1), (2, .int v2), (3, .int v3), (4, .int v4), (5, .int v5)] [] σ (rc46 v1 v2 v3 v4 v5 σ)) (v1 : Int32) (v2 : Int32) (v3 : Int32) (v4 : Int32) (v5 : Int32) (σ : Mem) : VK x z 6 (BQ QI x z) 46 [(0, .ref (z.2.2.1 0)), (1, .int v1), (2, .int v2), (3, .int v3), (4, .int v4), (5, .int v5)] [] σ (fX12_sitsDown_b46 N rc30 rc46 v1 v2 v3 v4 v5 σ) := by
  unfold fX12_sitsDown_b46
  refine V_iload 5 X dX12_sitsDown_46 rfl ?_
  refine V_bipush (v := 8) X dX12_sitsDown_48 (by decide) ?_
  refine V_icmp_gt (tgt := 128) X dX12_sitsDown_50 (by decide) ?_ ?_
  · refine V_aload_n 0 X dX12_sitsDown_128 rfl rfl ?_
    refine V_getR (k1 := 6) 19 X dX12_sitsDown_129 co12 (kM hZ 0 _ rfl) (by decide) rfl rfl wfX12_26 ?_
    refine V_iload_n 2 X dX12_sitsDown_132 rfl rfl ?_
    refine V_iload_n 3 X dX12_sitsDown_133 rfl rfl ?_
    refine V_iastG X dX12_sitsDown_134 (kM hZ 6 _ rfl) (fun s12 => ?_)
    refine V_iincG (L' := fun v2_13 => [(2, .int v2_13), (0, .ref (z.2.2.1 0)), (1, .int v1), (3, .int v3), (4, .int v4), (5, .int v5)]) 2 X dX12_sitsDown_135 rfl rfl (by decide) (fun _ => rfl) (fun v2_13 => ?_)
    refine V_goto (tgt := 30) X dX12_sitsDown_138 (by decide) ?_
    refine V_sub [1, 2, 0] rfl ?_
    exact hc30 v1 v2_13 s12
  · refine V_iload 5 X dX12_sitsDown_53 rfl ?_
    refine V_bipush (v := 8) X dX12_sitsDown_55 (by decide) ?_
    refine V_icmp_eq (tgt := 72) X dX12_sitsDown_57 (by decide) ?_ ?_
    · refine V_sub [0, 1, 2, 3, 4, 5] rfl ?_
      exact bX12_sitsDown_72 X E hr hZ N rc30 hc30 rc46 hc46 v1 v2 v3 v4 v5 σ
    · refine V_aload_n 0 X dX12_sitsDown_60 rfl rfl ?_
      refine V_iload 5 X dX12_sitsDown_61 rfl ?_
      refine V_callI [.int v5] [] X E dX12_sitsDown_63 (kX12_isPiece x.2.1 z hZ N v5 σ) co12 (kM hZ 0 _ rfl) gcX12_168 hyX12_isPiece rfl ⟨by decide, by decide⟩ rfl (Nat.le_of_ble_eq_true rfl) (fun r14 s15 => ?_)
      refine V_if_ne (tgt := 72) X dX12_sitsDown_66 (by decide) ?_ ?_
      · refine V_sub [0, 1, 2, 3, 4, 5] rfl ?_
        exact bX12_sitsDown_72 X E hr hZ N rc30 hc30 rc46 hc46 v1 v2 v3 v4 v5 s15
      · refine V_goto (tgt := 122) X dX12_sitsDown_69 (by decide) ?_
        refine V_sub [0, 1, 2, 3, 4, 5] rfl ?_
        exact bX12_sitsDown_122 X E hr hZ N rc30 hc30 rc46 hc46 v1 v2 v3 v4 v5 s15
def fX12_sitsDown_l46 (N : Nat) (rc30 : Int32 → Int32 → Mem → Option (Int32 × Mem)) : Nat → Int32 → Int32 → Int32 → Int32 → Int32 → Mem → Option (Int32 × Mem)
  | 0 => fun _ _ _ _ _ _ => none
  | n + 1 => fX12_sitsDown_b46 N rc30 (fX12_sitsDown_l46 N rc30 n)
theorem lX12_sitsDown_46 {x : Cx} {z : Sx} (X : XG x z RX12 cX12_sitsDown 6 5 113) (E : XE x z) (hr : XR x (some .int)) (hZ : z.2.2.2.1 = kdM) (N : Nat) (rc30 : Int32 → Int32 → Mem → Option (Int32 × Mem)) (hc30 : ∀ (v1 : Int32) (v2 : Int32) (σ : Mem), VK x z 6 (BQ QI x z) 30 [(0, .ref (z.2.2.1 0)), (1, .int v1), (2, .int v2)] [] σ (rc30 v1 v2 σ)) (n : Nat) (v1 : Int32) (v2 : Int32) (v3 : Int32) (v4 : Int32) (v5 : Int32) (σ : Mem) : VK x z 6 (BQ QI x z) 46 [(0, .ref (z.2.2.1 0)), (1, .int v1), (2, .int v2), (3, .int v3), (4, .int v4), (5, .int v5)] [] σ (fX12_sitsDown_l46 N rc30 n v1 v2 v3 v4 v5 σ) := by
  induction n generalizing v1 v2 v3 v4 v5 σ with
  | zero => exact V_none
  | succ n ih => exact bX12_sitsDown_46 X E hr hZ N rc30 hc30 (fX12_sitsDown_l46 N rc30 n) ih v1 v2 v3 v4 v5 σ
def fX12_sitsDown_b30 (N : Nat) (rc30 : Int32 → Int32 → Mem → Option (Int32 × Mem)) (v1 : Int32) (v2 : Int32) (σ : Mem) : Option (Int32 × Mem) :=
  if (σ.1 0 13) ≤ v2 then bd (fX12_answers N v1 σ) (fun r7 s8 => some (((s8.1 0 21) - (s8.1 0 22)), s8)) else lt_ (-1) (fun v3_9 => lt_ 0 (fun v4_10 => lt_ 0 (fun v5_11 => fX12_sitsDown_l46 N rc30 N v1 v2 v3_9 v4_10 v5_11 σ)))
set_option maxRecDepth 100000 in
set_option maxHeartbeats 4000000 in
theorem bX12_sitsDown_30 {x : Cx} {z : Sx} (X : XG x z RX12 cX12_sitsDown 6 5 113) (E : XE x z) (hr : XR x (some .int)) (hZ : z.2.2.2.1 = kdM) (N : Nat) (rc30 : Int32 → Int32 → Mem → Option (Int32 × Mem)) (hc30 : ∀ (v1 : Int32) (v2 : Int32) (σ : Mem), VK x z 6 (BQ QI x z) 30 [(0, .ref (z.2.2.1 0)), (1, .int v1), (2, .int v2)] [] σ (rc30 v1 v2 σ)) (v1 : Int32) (v2 : Int32) (σ : Mem) : VK x z 6 (BQ QI x z) 30 [(0, .ref (z.2.2.1 0)), (1, .int v1), (2, .int v2)] [] σ (fX12_sitsDown_b30 N rc30 v1 v2 σ) := by
  unfold fX12_sitsDown_b30
  refine V_iload_n 2 X dX12_sitsDown_30 rfl rfl ?_
  refine V_aload_n 0 X dX12_sitsDown_31 rfl rfl ?_
  refine V_getI 13 X dX12_sitsDown_32 co12 (kM hZ 0 _ rfl) (by decide) rfl wfX12_162 ?_
  refine V_icmp_ge (tgt := 141) X dX12_sitsDown_35 (by decide) ?_ ?_
  · refine V_aload_n 0 X dX12_sitsDown_141 rfl rfl ?_
    refine V_iload_n 1 X dX12_sitsDown_142 rfl rfl ?_
    refine V_callI [.int v1] [] X E dX12_sitsDown_143 (kX12_answers x.2.1 z hZ N v1 σ) co12 (kM hZ 0 _ rfl) gcX12_216 hyX12_answers rfl ⟨by decide, by decide⟩ rfl (Nat.le_of_ble_eq_true rfl) (fun r7 s8 => ?_)
    refine V_pop X dX12_sitsDown_146 rfl ?_
    refine V_aload_n 0 X dX12_sitsDown_147 rfl rfl ?_
    refine V_getI 21 X dX12_sitsDown_148 co12 (kM hZ 0 _ rfl) (by decide) rfl wfX12_201 ?_
    refine V_aload_n 0 X dX12_sitsDown_151 rfl rfl ?_
    refine V_getI 22 X dX12_sitsDown_152 co12 (kM hZ 0 _ rfl) (by decide) rfl wfX12_204 ?_
    refine V_isub X dX12_sitsDown_155 ?_
    exact V_iret X E hr dX12_sitsDown_156
  · refine V_iconst (v := -1) X dX12_sitsDown_38 (by decide) ?_
    refine V_istore_nG (L' := fun v3_9 => [(3, .int v3_9), (0, .ref (z.2.2.1 0)), (1, .int v1), (2, .int v2)]) X dX12_sitsDown_39 rfl (by decide) (fun _ => rfl) (fun v3_9 => ?_)
    refine V_iconst (v := 0) X dX12_sitsDown_40 (by decide) ?_
    refine V_istoreG (L' := fun v4_10 => [(4, .int v4_10), (3, .int v3_9), (0, .ref (z.2.2.1 0)), (1, .int v1), (2, .int v2)]) X dX12_sitsDown_41 (by decide) (fun _ => rfl) (fun v4_10 => ?_)
    refine V_iconst (v := 0) X dX12_sitsDown_43 (by decide) ?_
    refine V_istoreG (L' := fun v5_11 => [(5, .int v5_11), (4, .int v4_10), (3, .int v3_9), (0, .ref (z.2.2.1 0)), (1, .int v1), (2, .int v2)]) X dX12_sitsDown_44 (by decide) (fun _ => rfl) (fun v5_11 => ?_)
    refine V_sub [3, 4, 5, 2, 1, 0] rfl ?_
    exact lX12_sitsDown_46 X E hr hZ N rc30 hc30 N v1 v2 v3_9 v4_10 v5_11 σ
def fX12_sitsDown_l30 (N : Nat) : Nat → Int32 → Int32 → Mem → Option (Int32 × Mem)
  | 0 => fun _ _ _ => none
  | n + 1 => fX12_sitsDown_b30 N (fX12_sitsDown_l30 N n)
theorem lX12_sitsDown_30 {x : Cx} {z : Sx} (X : XG x z RX12 cX12_sitsDown 6 5 113) (E : XE x z) (hr : XR x (some .int)) (hZ : z.2.2.2.1 = kdM) (N : Nat) (n : Nat) (v1 : Int32) (v2 : Int32) (σ : Mem) : VK x z 6 (BQ QI x z) 30 [(0, .ref (z.2.2.1 0)), (1, .int v1), (2, .int v2)] [] σ (fX12_sitsDown_l30 N n v1 v2 σ) := by
  induction n generalizing v1 v2 σ with
  | zero => exact V_none
  | succ n ih => exact bX12_sitsDown_30 X E hr hZ N (fX12_sitsDown_l30 N n) ih v1 v2 σ
def fX12_sitsDown_b6 (N : Nat) (rc6 : Int32 → Int32 → Mem → Option (Int32 × Mem)) (v1 : Int32) (v2 : Int32) (σ : Mem) : Option (Int32 × Mem) :=
  if (σ.1 0 13) ≤ v2 then lt_ 0 (fun v2_4 => fX12_sitsDown_l30 N N v1 v2_4 σ) else gd (inb v2 6) (lt_ (pI σ 6 v2.toNatClampNeg 8) (fun s5 => lt_ (v2 + 1) (fun v2_6 => rc6 v1 v2_6 s5)))
set_option maxRecDepth 100000 in
set_option maxHeartbeats 4000000 in
theorem bX12_sitsDown_6 {x : Cx} {z : Sx} (X : XG x z RX12 cX12_sitsDown 6 5 113) (E : XE x z) (hr : XR x (some .int)) (hZ : z.2.2.2.1 = kdM) (N : Nat) (rc6 : Int32 → Int32 → Mem → Option (Int32 × Mem)) (hc6 : ∀ (v1 : Int32) (v2 : Int32) (σ : Mem), VK x z 6 (BQ QI x z) 6 [(0, .ref (z.2.2.1 0)), (1, .int v1), (2, .int v2)] [] σ (rc6 v1 v2 σ)) (v1 : Int32) (v2 : Int32) (σ : Mem) : VK x z 6 (BQ QI x z) 6 [(0, .ref (z.2.2.1 0)), (1, .int v1), (2, .int v2)] [] σ (fX12_sitsDown_b6 N rc6 v1 v2 σ) := by
  unfold fX12_sitsDown_b6
  refine V_iload_n 2 X dX12_sitsDown_6 rfl rfl ?_
  refine V_aload_n 0 X dX12_sitsDown_7 rfl rfl ?_
  refine V_getI 13 X dX12_sitsDown_8 co12 (kM hZ 0 _ rfl) (by decide) rfl wfX12_162 ?_
  refine V_icmp_ge (tgt := 28) X dX12_sitsDown_11 (by decide) ?_ ?_
  · refine V_iconst (v := 0) X dX12_sitsDown_28 (by decide) ?_
    refine V_istore_nG (L' := fun v2_4 => [(2, .int v2_4), (0, .ref (z.2.2.1 0)), (1, .int v1)]) X dX12_sitsDown_29 rfl (by decide) (fun _ => rfl) (fun v2_4 => ?_)
    refine V_sub [1, 2, 0] rfl ?_
    exact lX12_sitsDown_30 X E hr hZ N N v1 v2_4 σ
  · refine V_aload_n 0 X dX12_sitsDown_14 rfl rfl ?_
    refine V_getR (k1 := 6) 19 X dX12_sitsDown_15 co12 (kM hZ 0 _ rfl) (by decide) rfl rfl wfX12_26 ?_
    refine V_iload_n 2 X dX12_sitsDown_18 rfl rfl ?_
    refine V_bipush (v := 8) X dX12_sitsDown_19 (by decide) ?_
    refine V_iastG X dX12_sitsDown_21 (kM hZ 6 _ rfl) (fun s5 => ?_)
    refine V_iincG (L' := fun v2_6 => [(2, .int v2_6), (0, .ref (z.2.2.1 0)), (1, .int v1)]) 2 X dX12_sitsDown_22 rfl rfl (by decide) (fun _ => rfl) (fun v2_6 => ?_)
    refine V_goto (tgt := 6) X dX12_sitsDown_25 (by decide) ?_
    refine V_sub [1, 2, 0] rfl ?_
    exact hc6 v1 v2_6 s5
def fX12_sitsDown_l6 (N : Nat) : Nat → Int32 → Int32 → Mem → Option (Int32 × Mem)
  | 0 => fun _ _ _ => none
  | n + 1 => fX12_sitsDown_b6 N (fX12_sitsDown_l6 N n)
theorem lX12_sitsDown_6 {x : Cx} {z : Sx} (X : XG x z RX12 cX12_sitsDown 6 5 113) (E : XE x z) (hr : XR x (some .int)) (hZ : z.2.2.2.1 = kdM) (N : Nat) (n : Nat) (v1 : Int32) (v2 : Int32) (σ : Mem) : VK x z 6 (BQ QI x z) 6 [(0, .ref (z.2.2.1 0)), (1, .int v1), (2, .int v2)] [] σ (fX12_sitsDown_l6 N n v1 v2 σ) := by
  induction n generalizing v1 v2 σ with
  | zero => exact V_none
  | succ n ih => exact bX12_sitsDown_6 X E hr hZ N (fX12_sitsDown_l6 N n) ih v1 v2 σ
def fX12_sitsDown (N : Nat) (v1 : Int32) (σ : Mem) : Option (Int32 × Mem) :=
  bd (fX12_asTold N σ) (fun r1 s2 => lt_ 0 (fun v2_3 => fX12_sitsDown_l6 N N v1 v2_3 s2))
set_option maxRecDepth 100000 in
set_option maxHeartbeats 4000000 in
theorem bX12_sitsDown_0 {x : Cx} {z : Sx} (X : XG x z RX12 cX12_sitsDown 6 5 113) (E : XE x z) (hr : XR x (some .int)) (hZ : z.2.2.2.1 = kdM) (N : Nat) (v1 : Int32) (σ : Mem) : VK x z 6 (BQ QI x z) 0 [(0, .ref (z.2.2.1 0)), (1, .int v1)] [] σ (fX12_sitsDown N v1 σ) := by
  unfold fX12_sitsDown
  refine V_aload_n 0 X dX12_sitsDown_0 rfl rfl ?_
  refine V_callV [] [] X E dX12_sitsDown_1 (kX12_asTold x.2.1 z hZ N σ) co12 (kM hZ 0 _ rfl) gcX12_213 hyX12_asTold rfl ⟨by decide, by decide⟩ rfl (Nat.le_of_ble_eq_true rfl) (fun r1 s2 => ?_)
  refine V_iconst (v := 0) X dX12_sitsDown_4 (by decide) ?_
  refine V_istore_nG (L' := fun v2_3 => [(2, .int v2_3), (0, .ref (z.2.2.1 0)), (1, .int v1)]) X dX12_sitsDown_5 rfl (by decide) (fun _ => rfl) (fun v2_3 => ?_)
  refine V_sub [1, 2, 0] rfl ?_
  exact lX12_sitsDown_6 X E hr hZ N N v1 v2_3 s2
theorem kX12_sitsDown (l : Launch) (z : Sx) (hZ : z.2.2.2.1 = kdM) (N : Nat) (v1 : Int32) (σ : Mem) : Ct QI yX12_sitsDown cX12_sitsDown 6 (some .int) 5 113 l z [.ref (z.2.2.1 0), .int v1] σ (fX12_sitsDown N v1 σ) := by
  refine Ct_of (by decide +kernel) (Nat.le_of_ble_eq_true rfl) rfl ?_
  intro x _ X E hr
  exact bX12_sitsDown_0 X E hr hZ N v1 σ
def fX12_greedy_b32 (N : Nat) (v2 : Int32) (v3 : Int32) (σ : Mem) : Option (Int32 × Mem) :=
  bd (fX12_sitsDown N v2 σ) (fun r7 s8 => lt_ r7 (fun v4_9 => if v3 = (-1) then some (v4_9, s8) else gd (inb v3 6) (some ((s8.1 6 v3.toNatClampNeg), s8))))
set_option maxRecDepth 100000 in
set_option maxHeartbeats 4000000 in
theorem bX12_greedy_32 {x : Cx} {z : Sx} (X : XG x z RX12 cX12_greedy 5 6 138) (E : XE x z) (hr : XR x (some .int)) (hZ : z.2.2.2.1 = kdM) (N : Nat) (v2 : Int32) (v3 : Int32) (σ : Mem) : VK x z 5 (BQ QI x z) 32 [(0, .ref (z.2.2.1 0)), (2, .int v2), (3, .int v3)] [] σ (fX12_greedy_b32 N v2 v3 σ) := by
  unfold fX12_greedy_b32
  refine V_aload_n 0 X dX12_greedy_32 rfl rfl ?_
  refine V_iload_n 1 X dX12_greedy_33 rfl rfl ?_
  refine V_callI [.int v2] [] X E dX12_greedy_34 (kX12_sitsDown x.2.1 z hZ N v2 σ) co12 (kM hZ 0 _ rfl) gcX12_297 hyX12_sitsDown rfl ⟨by decide, by decide⟩ rfl (Nat.le_of_ble_eq_true rfl) (fun r7 s8 => ?_)
  refine V_istoreG (L' := fun v4_9 => [(4, .int v4_9), (0, .ref (z.2.2.1 0)), (2, .int v2), (3, .int v3)]) X dX12_greedy_37 (by decide) (fun _ => rfl) (fun v4_9 => ?_)
  refine V_iload_n 3 X dX12_greedy_39 rfl rfl ?_
  refine V_iconst (v := -1) X dX12_greedy_40 (by decide) ?_
  refine V_icmp_ne (tgt := 49) X dX12_greedy_41 (by decide) ?_ ?_
  · refine V_aload_n 1 X dX12_greedy_49 rfl rfl ?_
    refine V_getR (k1 := 6) 19 X dX12_greedy_50 co12 (kM hZ 0 _ rfl) (by decide) rfl rfl wfX12_26 ?_
    refine V_iload_n 3 X dX12_greedy_53 rfl rfl ?_
    refine V_iald X dX12_greedy_54 (kM hZ 6 _ rfl) ?_
    exact V_iret X E hr dX12_greedy_55
  · refine V_iload 0 X dX12_greedy_44 rfl ?_
    refine V_goto (tgt := 55) X dX12_greedy_46 (by decide) ?_
    exact V_iret X E hr dX12_greedy_55
def fX12_greedy (N : Nat) (v1 : Int32) (v2 : Int32) (v3 : Int32) (σ : Mem) : Option (Int32 × Mem) :=
  bd (fX12_isChamber N v1 σ) (fun r1 s2 => if r1 = 0 then some ((-1000), s2) else bd (fX12_isMotion N v2 s2) (fun r3 s4 => if r3 = 0 then some ((-1000), s4) else if v3 = (-1) then fX12_greedy_b32 N v2 v3 s4 else bd (fX12_isPerson N v3 s4) (fun r5 s6 => if r5 = 0 then some ((-1000), s6) else fX12_greedy_b32 N v2 v3 s6)))
set_option maxRecDepth 100000 in
set_option maxHeartbeats 4000000 in
theorem bX12_greedy_0 {x : Cx} {z : Sx} (X : XG x z RX12 cX12_greedy 5 6 138) (E : XE x z) (hr : XR x (some .int)) (hZ : z.2.2.2.1 = kdM) (N : Nat) (v1 : Int32) (v2 : Int32) (v3 : Int32) (σ : Mem) : VK x z 5 (BQ QI x z) 0 [(0, .ref (z.2.2.1 0)), (1, .int v1), (2, .int v2), (3, .int v3)] [] σ (fX12_greedy N v1 v2 v3 σ) := by
  unfold fX12_greedy
  refine V_aload_n 0 X dX12_greedy_0 rfl rfl ?_
  refine V_iload_n 1 X dX12_greedy_1 rfl rfl ?_
  refine V_callI [.int v1] [] X E dX12_greedy_2 (kX12_isChamber x.2.1 z hZ N v1 σ) co12 (kM hZ 0 _ rfl) gcX12_165 hyX12_isChamber rfl ⟨by decide, by decide⟩ rfl (Nat.le_of_ble_eq_true rfl) (fun r1 s2 => ?_)
  refine V_if_eq (tgt := 28) X dX12_greedy_5 (by decide) ?_ ?_
  · refine V_sipush (v := -1000) X dX12_greedy_28 (by decide) ?_
    exact V_iret X E hr dX12_greedy_31
  · refine V_iload_n 2 X dX12_greedy_8 rfl rfl ?_
    refine V_calSI [.int v2] [] X E dX12_greedy_9 (kX12_isMotion x.2.1 z hZ N v2 s2) gcX12_210 hyX12_isMotion rfl ⟨by decide, by decide⟩ rfl (Nat.le_of_ble_eq_true rfl) (fun r3 s4 => ?_)
    refine V_if_eq (tgt := 28) X dX12_greedy_12 (by decide) ?_ ?_
    · refine V_sipush (v := -1000) X dX12_greedy_28 (by decide) ?_
      exact V_iret X E hr dX12_greedy_31
    · refine V_iload_n 3 X dX12_greedy_15 rfl rfl ?_
      refine V_iconst (v := -1) X dX12_greedy_16 (by decide) ?_
      refine V_icmp_eq (tgt := 32) X dX12_greedy_17 (by decide) ?_ ?_
      · refine V_sub [0, 2, 3] rfl ?_
        exact bX12_greedy_32 X E hr hZ N v2 v3 s4
      · refine V_aload_n 0 X dX12_greedy_20 rfl rfl ?_
        refine V_iload_n 3 X dX12_greedy_21 rfl rfl ?_
        refine V_callI [.int v3] [] X E dX12_greedy_22 (kX12_isPerson x.2.1 z hZ N v3 s4) co12 (kM hZ 0 _ rfl) gcX12_174 hyX12_isPerson rfl ⟨by decide, by decide⟩ rfl (Nat.le_of_ble_eq_true rfl) (fun r5 s6 => ?_)
        refine V_if_ne (tgt := 32) X dX12_greedy_25 (by decide) ?_ ?_
        · refine V_sub [0, 2, 3] rfl ?_
          exact bX12_greedy_32 X E hr hZ N v2 v3 s6
        · refine V_sipush (v := -1000) X dX12_greedy_28 (by decide) ?_
          exact V_iret X E hr dX12_greedy_31
theorem kX12_greedy (l : Launch) (z : Sx) (hZ : z.2.2.2.1 = kdM) (N : Nat) (v1 : Int32) (v2 : Int32) (v3 : Int32) (σ : Mem) : Ct QI yX12_greedy cX12_greedy 5 (some .int) 6 138 l z [.ref (z.2.2.1 0), .int v1, .int v2, .int v3] σ (fX12_greedy N v1 v2 v3 σ) := by
  refine Ct_of (by decide +kernel) (Nat.le_of_ble_eq_true rfl) rfl ?_
  intro x _ X E hr
  exact bX12_greedy_0 X E hr hZ N v1 v2 v3 σ
def fX12_pick (N : Nat) (v0 : Int32) (v1 : Int32) (v2 : Int32) (v3 : Int32) (σ : Mem) : Option (Int32 × Mem) :=
  if v3 = 0 then some (v0, σ) else if v3 = 1 then some (v1, σ) else some (v2, σ)
set_option maxRecDepth 100000 in
set_option maxHeartbeats 4000000 in
theorem bX12_pick_0 {x : Cx} {z : Sx} (X : XG x z RX12 cX12_pick 4 0 0) (E : XE x z) (hr : XR x (some .int)) (hZ : z.2.2.2.1 = kdM) (N : Nat) (v0 : Int32) (v1 : Int32) (v2 : Int32) (v3 : Int32) (σ : Mem) : VK x z 4 (BQ QI x z) 0 [(0, .int v0), (1, .int v1), (2, .int v2), (3, .int v3)] [] σ (fX12_pick N v0 v1 v2 v3 σ) := by
  unfold fX12_pick
  refine V_iload_n 3 X dX12_pick_0 rfl rfl ?_
  refine V_if_ne (tgt := 8) X dX12_pick_1 (by decide) ?_ ?_
  · refine V_iload_n 3 X dX12_pick_8 rfl rfl ?_
    refine V_iconst (v := 1) X dX12_pick_9 (by decide) ?_
    refine V_icmp_ne (tgt := 17) X dX12_pick_10 (by decide) ?_ ?_
    · refine V_iload_n 2 X dX12_pick_17 rfl rfl ?_
      exact V_iret X E hr dX12_pick_18
    · refine V_iload_n 1 X dX12_pick_13 rfl rfl ?_
      refine V_goto (tgt := 18) X dX12_pick_14 (by decide) ?_
      exact V_iret X E hr dX12_pick_18
  · refine V_iload_n 0 X dX12_pick_4 rfl rfl ?_
    refine V_goto (tgt := 18) X dX12_pick_5 (by decide) ?_
    exact V_iret X E hr dX12_pick_18
theorem kX12_pick (l : Launch) (z : Sx) (hZ : z.2.2.2.1 = kdM) (N : Nat) (v0 : Int32) (v1 : Int32) (v2 : Int32) (v3 : Int32) (σ : Mem) : Ct QI yX12_pick cX12_pick 4 (some .int) 0 0 l z [.int v0, .int v1, .int v2, .int v3] σ (fX12_pick N v0 v1 v2 v3 σ) := by
  refine Ct_of (by decide +kernel) (Nat.le_of_ble_eq_true rfl) rfl ?_
  intro x _ X E hr
  exact bX12_pick_0 X E hr hZ N v0 v1 v2 v3 σ
def fX12_agendaOf (N : Nat) (v1 : Int32) (v2 : Int32) (v3 : Int32) (σ : Mem) : Option (Int32 × Mem) :=
  bd (fX12_begins N σ) (fun r1 s2 => bd (fX12_puts N v1 s2) (fun r3 s4 => bd (fX12_puts N v2 s4) (fun r5 s6 => bd (fX12_puts N v3 s6) (fun r7 s8 => some ((s8.1 0 25), s8)))))
set_option maxRecDepth 100000 in
set_option maxHeartbeats 4000000 in
theorem bX12_agendaOf_0 {x : Cx} {z : Sx} (X : XG x z RX12 cX12_agendaOf 4 6 136) (E : XE x z) (hr : XR x (some .int)) (hZ : z.2.2.2.1 = kdM) (N : Nat) (v1 : Int32) (v2 : Int32) (v3 : Int32) (σ : Mem) : VK x z 4 (BQ QI x z) 0 [(0, .ref (z.2.2.1 0)), (1, .int v1), (2, .int v2), (3, .int v3)] [] σ (fX12_agendaOf N v1 v2 v3 σ) := by
  unfold fX12_agendaOf
  refine V_aload_n 0 X dX12_agendaOf_0 rfl rfl ?_
  refine V_callV [] [] X E dX12_agendaOf_1 (kX12_begins x.2.1 z hZ N σ) co12 (kM hZ 0 _ rfl) gcX12_255 hyX12_begins rfl ⟨by decide, by decide⟩ rfl (Nat.le_of_ble_eq_true rfl) (fun r1 s2 => ?_)
  refine V_aload_n 0 X dX12_agendaOf_4 rfl rfl ?_
  refine V_iload_n 1 X dX12_agendaOf_5 rfl rfl ?_
  refine V_callV [.int v1] [] X E dX12_agendaOf_6 (kX12_puts x.2.1 z hZ N v1 s2) co12 (kM hZ 0 _ rfl) gcX12_234 hyX12_puts rfl ⟨by decide, by decide⟩ rfl (Nat.le_of_ble_eq_true rfl) (fun r3 s4 => ?_)
  refine V_aload_n 0 X dX12_agendaOf_9 rfl rfl ?_
  refine V_iload_n 2 X dX12_agendaOf_10 rfl rfl ?_
  refine V_callV [.int v2] [] X E dX12_agendaOf_11 (kX12_puts x.2.1 z hZ N v2 s4) co12 (kM hZ 0 _ rfl) gcX12_234 hyX12_puts rfl ⟨by decide, by decide⟩ rfl (Nat.le_of_ble_eq_true rfl) (fun r5 s6 => ?_)
  refine V_aload_n 0 X dX12_agendaOf_14 rfl rfl ?_
  refine V_iload_n 3 X dX12_agendaOf_15 rfl rfl ?_
  refine V_callV [.int v3] [] X E dX12_agendaOf_16 (kX12_puts x.2.1 z hZ N v3 s6) co12 (kM hZ 0 _ rfl) gcX12_234 hyX12_puts rfl ⟨by decide, by decide⟩ rfl (Nat.le_of_ble_eq_true rfl) (fun r7 s8 => ?_)
  refine V_aload_n 0 X dX12_agendaOf_19 rfl rfl ?_
  refine V_getI 25 X dX12_agendaOf_20 co12 (kM hZ 0 _ rfl) (by decide) rfl wfX12_228 ?_
  exact V_iret X E hr dX12_agendaOf_23
theorem kX12_agendaOf (l : Launch) (z : Sx) (hZ : z.2.2.2.1 = kdM) (N : Nat) (v1 : Int32) (v2 : Int32) (v3 : Int32) (σ : Mem) : Ct QI yX12_agendaOf cX12_agendaOf 4 (some .int) 6 136 l z [.ref (z.2.2.1 0), .int v1, .int v2, .int v3] σ (fX12_agendaOf N v1 v2 v3 σ) := by
  refine Ct_of (by decide +kernel) (Nat.le_of_ble_eq_true rfl) rfl ?_
  intro x _ X E hr
  exact bX12_agendaOf_0 X E hr hZ N v1 v2 v3 σ
