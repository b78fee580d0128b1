def fX12_image_b20 (N : Nat) (rc20 : Int32 → Int32 → Mem → Option (Int32 × Mem)) (v1 : Int32) (v2 : Int32) (σ : Mem) : Option (Int32 × Mem) :=
  if 1044 ≤ v2 then some (1, σ) else gd (inb v2 4176) (gd (inb ((1044 * (v1 + 1)) + v2) 4176) (lt_ (pI σ 1 ((1044 * (v1 + 1)) + v2).toNatClampNeg (σ.1 1 v2.toNatClampNeg)) (fun s5 => lt_ (v2 + 1) (fun v2_6 => rc20 v1 v2_6 s5))))
set_option maxRecDepth 100000 in
set_option maxHeartbeats 4000000 in
theorem bX12_image_20 {x : Cx} {z : Sx} (X : XG x z RX12 cX12_image 3 1 22) (E : XE x z) (hr : XR x (some .boolean)) (hZ : z.2.2.2.1 = kdM) (N : Nat) (rc20 : Int32 → Int32 → Mem → Option (Int32 × Mem)) (hc20 : ∀ (v1 : Int32) (v2 : Int32) (σ : Mem), VK x z 3 (BQ QI x z) 20 [(0, .ref (z.2.2.1 0)), (1, .int v1), (2, .int v2)] [] σ (rc20 v1 v2 σ)) (v1 : Int32) (v2 : Int32) (σ : Mem) : VK x z 3 (BQ QI x z) 20 [(0, .ref (z.2.2.1 0)), (1, .int v1), (2, .int v2)] [] σ (fX12_image_b20 N rc20 v1 v2 σ) := by
  unfold fX12_image_b20
  refine V_iload_n 2 X dX12_image_20 rfl rfl ?_
  refine V_sipush (v := 1044) X dX12_image_21 (by decide) ?_
  refine V_icmp_ge (tgt := 53) X dX12_image_24 (by decide) ?_ ?_
  · refine V_iconst (v := 1) X dX12_image_53 (by decide) ?_
    exact V_zret X E hr dX12_image_54 (by decide)
  · refine V_aload_n 0 X dX12_image_27 rfl rfl ?_
    refine V_getR (k1 := 1) 0 X dX12_image_28 co12 (kM hZ 0 _ rfl) (by decide) rfl rfl wfX12_7 ?_
    refine V_sipush (v := 1044) X dX12_image_31 (by decide) ?_
    refine V_iload_n 1 X dX12_image_34 rfl rfl ?_
    refine V_iconst (v := 1) X dX12_image_35 (by decide) ?_
    refine V_iadd X dX12_image_36 ?_
    refine V_imul X dX12_image_37 ?_
    refine V_iload_n 2 X dX12_image_38 rfl rfl ?_
    refine V_iadd X dX12_image_39 ?_
    refine V_aload_n 0 X dX12_image_40 rfl rfl ?_
    refine V_getR (k1 := 1) 0 X dX12_image_41 co12 (kM hZ 0 _ rfl) (by decide) rfl rfl wfX12_7 ?_
    refine V_iload_n 2 X dX12_image_44 rfl rfl ?_
    refine V_iald X dX12_image_45 (kM hZ 1 _ rfl) ?_
    refine V_iastG X dX12_image_46 (kM hZ 1 _ rfl) (fun s5 => ?_)
    refine V_iincG (L' := fun v2_6 => [(2, .int v2_6), (0, .ref (z.2.2.1 0)), (1, .int v1)]) 2 X dX12_image_47 rfl rfl (by decide) (fun _ => rfl) (fun v2_6 => ?_)
    refine V_goto (tgt := 20) X dX12_image_50 (by decide) ?_
    refine V_sub [1, 2, 0] rfl ?_
    exact hc20 v1 v2_6 s5
def fX12_image_l20 (N : Nat) : Nat → Int32 → Int32 → Mem → Option (Int32 × Mem)
  | 0 => fun _ _ _ => none
  | n + 1 => fX12_image_b20 N (fX12_image_l20 N n)
theorem lX12_image_20 {x : Cx} {z : Sx} (X : XG x z RX12 cX12_image 3 1 22) (E : XE x z) (hr : XR x (some .boolean)) (hZ : z.2.2.2.1 = kdM) (N : Nat) (n : Nat) (v1 : Int32) (v2 : Int32) (σ : Mem) : VK x z 3 (BQ QI x z) 20 [(0, .ref (z.2.2.1 0)), (1, .int v1), (2, .int v2)] [] σ (fX12_image_l20 N n v1 v2 σ) := by
  induction n generalizing v1 v2 σ with
  | zero => exact V_none
  | succ n ih => exact bX12_image_20 X E hr hZ N (fX12_image_l20 N n) ih v1 v2 σ
def fX12_image (N : Nat) (v1 : Int32) (σ : Mem) : Option (Int32 × Mem) :=
  bd (fX12_isIn N v1 0 2 σ) (fun r1 s2 => if r1 = 0 then some (0, s2) else gd (inb v1 3) (lt_ (pI s2 2 v1.toNatClampNeg (vp_nar .boolean 1)) (fun s3 => lt_ 0 (fun v2_4 => fX12_image_l20 N N v1 v2_4 s3))))
set_option maxRecDepth 100000 in
set_option maxHeartbeats 4000000 in
theorem bX12_image_0 {x : Cx} {z : Sx} (X : XG x z RX12 cX12_image 3 1 22) (E : XE x z) (hr : XR x (some .boolean)) (hZ : z.2.2.2.1 = kdM) (N : Nat) (v1 : Int32) (σ : Mem) : VK x z 3 (BQ QI x z) 0 [(0, .ref (z.2.2.1 0)), (1, .int v1)] [] σ (fX12_image N v1 σ) := by
  unfold fX12_image
  refine V_iload_n 1 X dX12_image_0 rfl rfl ?_
  refine V_iconst (v := 0) X dX12_image_1 (by decide) ?_
  refine V_iconst (v := 2) X dX12_image_2 (by decide) ?_
  refine V_calSI [.int v1, .int 0, .int 2] [] X E dX12_image_3 (kX12_isIn x.2.1 z hZ N v1 0 2 σ) gcX12_106 hyX12_isIn rfl ⟨by decide, by decide⟩ rfl (Nat.le_of_ble_eq_true rfl) (fun r1 s2 => ?_)
  refine V_if_ne (tgt := 11) X dX12_image_6 (by decide) ?_ ?_
  · refine V_aload_n 0 X dX12_image_11 rfl rfl ?_
    refine V_getR (k1 := 2) 1 X dX12_image_12 co12 (kM hZ 0 _ rfl) (by decide) rfl rfl wfX12_13 ?_
    refine V_iload_n 1 X dX12_image_15 rfl rfl ?_
    refine V_iconst (v := 1) X dX12_image_16 (by decide) ?_
    refine V_zastG X dX12_image_17 (kM hZ 2 _ rfl) (fun s3 => ?_)
    refine V_iconst (v := 0) X dX12_image_18 (by decide) ?_
    refine V_istore_nG (L' := fun v2_4 => [(2, .int v2_4), (0, .ref (z.2.2.1 0)), (1, .int v1)]) X dX12_image_19 rfl (by decide) (fun _ => rfl) (fun v2_4 => ?_)
    refine V_sub [1, 2, 0] rfl ?_
    exact lX12_image_20 X E hr hZ N N v1 v2_4 s3
  · refine V_iconst (v := 0) X dX12_image_9 (by decide) ?_
    exact V_zret X E hr dX12_image_10 (by decide)
theorem kX12_image (l : Launch) (z : Sx) (hZ : z.2.2.2.1 = kdM) (N : Nat) (v1 : Int32) (σ : Mem) : Ct QI yX12_image cX12_image 3 (some .boolean) 1 22 l z [.ref (z.2.2.1 0), .int v1] σ (fX12_image N v1 σ) := by
  refine Ct_of (by decide +kernel) (Nat.le_of_ble_eq_true rfl) rfl ?_
  intro x _ X E hr
  exact bX12_image_0 X E hr hZ N v1 σ
def fX12_again_b22 (N : Nat) (rc22 : Int32 → Int32 → Mem → Option (Int32 × Mem)) (v1 : Int32) (v2 : Int32) (σ : Mem) : Option (Int32 × Mem) :=
  if 1044 ≤ v2 then some (1, σ) else gd (inb ((1044 * (v1 + 1)) + v2) 4176) (gd (inb v2 4176) (lt_ (pI σ 1 v2.toNatClampNeg (σ.1 1 ((1044 * (v1 + 1)) + v2).toNatClampNeg)) (fun s4 => lt_ (v2 + 1) (fun v2_5 => rc22 v1 v2_5 s4))))
set_option maxRecDepth 100000 in
set_option maxHeartbeats 4000000 in
theorem bX12_again_22 {x : Cx} {z : Sx} (X : XG x z RX12 cX12_again 3 1 22) (E : XE x z) (hr : XR x (some .boolean)) (hZ : z.2.2.2.1 = kdM) (N : Nat) (rc22 : Int32 → Int32 → Mem → Option (Int32 × Mem)) (hc22 : ∀ (v1 : Int32) (v2 : Int32) (σ : Mem), VK x z 3 (BQ QI x z) 22 [(0, .ref (z.2.2.1 0)), (1, .int v1), (2, .int v2)] [] σ (rc22 v1 v2 σ)) (v1 : Int32) (v2 : Int32) (σ : Mem) : VK x z 3 (BQ QI x z) 22 [(0, .ref (z.2.2.1 0)), (1, .int v1), (2, .int v2)] [] σ (fX12_again_b22 N rc22 v1 v2 σ) := by
  unfold fX12_again_b22
  refine V_iload_n 2 X dX12_again_22 rfl rfl ?_
  refine V_sipush (v := 1044) X dX12_again_23 (by decide) ?_
  refine V_icmp_ge (tgt := 55) X dX12_again_26 (by decide) ?_ ?_
  · refine V_iconst (v := 1) X dX12_again_55 (by decide) ?_
    exact V_zret X E hr dX12_again_56 (by decide)
  · refine V_aload_n 0 X dX12_again_29 rfl rfl ?_
    refine V_getR (k1 := 1) 0 X dX12_again_30 co12 (kM hZ 0 _ rfl) (by decide) rfl rfl wfX12_7 ?_
    refine V_iload_n 2 X dX12_again_33 rfl rfl ?_
    refine V_aload_n 0 X dX12_again_34 rfl rfl ?_
    refine V_getR (k1 := 1) 0 X dX12_again_35 co12 (kM hZ 0 _ rfl) (by decide) rfl rfl wfX12_7 ?_
    refine V_sipush (v := 1044) X dX12_again_38 (by decide) ?_
    refine V_iload_n 1 X dX12_again_41 rfl rfl ?_
    refine V_iconst (v := 1) X dX12_again_42 (by decide) ?_
    refine V_iadd X dX12_again_43 ?_
    refine V_imul X dX12_again_44 ?_
    refine V_iload_n 2 X dX12_again_45 rfl rfl ?_
    refine V_iadd X dX12_again_46 ?_
    refine V_iald X dX12_again_47 (kM hZ 1 _ rfl) ?_
    refine V_iastG X dX12_again_48 (kM hZ 1 _ rfl) (fun s4 => ?_)
    refine V_iincG (L' := fun v2_5 => [(2, .int v2_5), (0, .ref (z.2.2.1 0)), (1, .int v1)]) 2 X dX12_again_49 rfl rfl (by decide) (fun _ => rfl) (fun v2_5 => ?_)
    refine V_goto (tgt := 22) X dX12_again_52 (by decide) ?_
    refine V_sub [1, 2, 0] rfl ?_
    exact hc22 v1 v2_5 s4
def fX12_again_l22 (N : Nat) : Nat → Int32 → Int32 → Mem → Option (Int32 × Mem)
  | 0 => fun _ _ _ => none
  | n + 1 => fX12_again_b22 N (fX12_again_l22 N n)
theorem lX12_again_22 {x : Cx} {z : Sx} (X : XG x z RX12 cX12_again 3 1 22) (E : XE x z) (hr : XR x (some .boolean)) (hZ : z.2.2.2.1 = kdM) (N : Nat) (n : Nat) (v1 : Int32) (v2 : Int32) (σ : Mem) : VK x z 3 (BQ QI x z) 22 [(0, .ref (z.2.2.1 0)), (1, .int v1), (2, .int v2)] [] σ (fX12_again_l22 N n v1 v2 σ) := by
  induction n generalizing v1 v2 σ with
  | zero => exact V_none
  | succ n ih => exact bX12_again_22 X E hr hZ N (fX12_again_l22 N n) ih v1 v2 σ
def fX12_again (N : Nat) (v1 : Int32) (σ : Mem) : Option (Int32 × Mem) :=
  bd (fX12_isIn N v1 0 2 σ) (fun r1 s2 => if r1 = 0 then some (0, s2) else gd (inb v1 3) (if (s2.1 2 v1.toNatClampNeg) = 0 then some (0, s2) else lt_ 0 (fun v2_3 => fX12_again_l22 N N v1 v2_3 s2)))
set_option maxRecDepth 100000 in
set_option maxHeartbeats 4000000 in
theorem bX12_again_0 {x : Cx} {z : Sx} (X : XG x z RX12 cX12_again 3 1 22) (E : XE x z) (hr : XR x (some .boolean)) (hZ : z.2.2.2.1 = kdM) (N : Nat) (v1 : Int32) (σ : Mem) : VK x z 3 (BQ QI x z) 0 [(0, .ref (z.2.2.1 0)), (1, .int v1)] [] σ (fX12_again N v1 σ) := by
  unfold fX12_again
  refine V_iload_n 1 X dX12_again_0 rfl rfl ?_
  refine V_iconst (v := 0) X dX12_again_1 (by decide) ?_
  refine V_iconst (v := 2) X dX12_again_2 (by decide) ?_
  refine V_calSI [.int v1, .int 0, .int 2] [] X E dX12_again_3 (kX12_isIn x.2.1 z hZ N v1 0 2 σ) gcX12_106 hyX12_isIn rfl ⟨by decide, by decide⟩ rfl (Nat.le_of_ble_eq_true rfl) (fun r1 s2 => ?_)
  refine V_if_eq (tgt := 18) X dX12_again_6 (by decide) ?_ ?_
  · refine V_iconst (v := 0) X dX12_again_18 (by decide) ?_
    exact V_zret X E hr dX12_again_19 (by decide)
  · refine V_aload_n 0 X dX12_again_9 rfl rfl ?_
    refine V_getR (k1 := 2) 1 X dX12_again_10 co12 (kM hZ 0 _ rfl) (by decide) rfl rfl wfX12_13 ?_
    refine V_iload_n 1 X dX12_again_13 rfl rfl ?_
    refine V_zald X dX12_again_14 (kM hZ 2 _ rfl) ?_
    refine V_if_ne (tgt := 20) X dX12_again_15 (by decide) ?_ ?_
    · refine V_iconst (v := 0) X dX12_again_20 (by decide) ?_
      refine V_istore_nG (L' := fun v2_3 => [(2, .int v2_3), (0, .ref (z.2.2.1 0)), (1, .int v1)]) X dX12_again_21 rfl (by decide) (fun _ => rfl) (fun v2_3 => ?_)
      refine V_sub [1, 2, 0] rfl ?_
      exact lX12_again_22 X E hr hZ N N v1 v2_3 s2
    · refine V_iconst (v := 0) X dX12_again_18 (by decide) ?_
      exact V_zret X E hr dX12_again_19 (by decide)
theorem kX12_again (l : Launch) (z : Sx) (hZ : z.2.2.2.1 = kdM) (N : Nat) (v1 : Int32) (σ : Mem) : Ct QI yX12_again cX12_again 3 (some .boolean) 1 22 l z [.ref (z.2.2.1 0), .int v1] σ (fX12_again N v1 σ) := by
  refine Ct_of (by decide +kernel) (Nat.le_of_ble_eq_true rfl) rfl ?_
  intro x _ X E hr
  exact bX12_again_0 X E hr hZ N v1 σ
