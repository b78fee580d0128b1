def fX12_feed_b73 (N : Nat) (rc20 : Int32 → Int32 → Int32 → Int32 → Int32 → Int32 → Mem → Option (Int32 × Mem)) (v1 : Int32) (v2 : Int32) (v3 : Int32) (v4 : Int32) (v5 : Int32) (v6 : Int32) (t0 : Int32) (σ : Mem) : Option (Int32 × Mem) :=
  lt_ t0 (fun v7_2 => gd (inb 4 4176) (gd (inb (10 + (σ.1 1 (4 : Int32).toNatClampNeg)) 4176) (lt_ (pI σ 1 (10 + (σ.1 1 (4 : Int32).toNatClampNeg)).toNatClampNeg ((v7_2 >>> ((24 - (8 * (rmI v6 4))) &&& 31)) &&& 255)) (fun s3 => gd (inb 4 4176) (gd (inb 4 4176) (lt_ (pI s3 1 (4 : Int32).toNatClampNeg ((s3.1 1 (4 : Int32).toNatClampNeg) + 1)) (fun s4 => lt_ (v6 + 1) (fun v6_5 => rc20 v1 v2 v3 v4 v5 v6_5 s4))))))))
set_option maxRecDepth 100000 in
set_option maxHeartbeats 4000000 in
theorem bX12_feed_73 {x : Cx} {z : Sx} (X : XG x z RX12 cX12_feed 8 0 0) (E : XE x z) (hr : XR x (some .int)) (hZ : z.2.2.2.1 = kdM) (N : Nat) (rc20 : Int32 → Int32 → Int32 → Int32 → Int32 → Int32 → Mem → Option (Int32 × Mem)) (hc20 : ∀ (v1 : Int32) (v2 : Int32) (v3 : Int32) (v4 : Int32) (v5 : Int32) (v6 : Int32) (σ : Mem), VK x z 8 (BQ QI x z) 20 [(0, .ref (z.2.2.1 0)), (1, .int v1), (2, .int v2), (3, .int v3), (4, .int v4), (5, .int v5), (6, .int v6)] [] σ (rc20 v1 v2 v3 v4 v5 v6 σ)) (v1 : Int32) (v2 : Int32) (v3 : Int32) (v4 : Int32) (v5 : Int32) (v6 : Int32) (t0 : Int32) (σ : Mem) : VK x z 8 (BQ QI x z) 73 [(0, .ref (z.2.2.1 0)), (1, .int v1), (2, .int v2), (3, .int v3), (4, .int v4), (5, .int v5), (6, .int v6)] [.int t0] σ (fX12_feed_b73 N rc20 v1 v2 v3 v4 v5 v6 t0 σ) := by
  unfold fX12_feed_b73
  refine V_istoreG (L' := fun v7_2 => [(7, .int v7_2), (0, .ref (z.2.2.1 0)), (1, .int v1), (2, .int v2), (3, .int v3), (4, .int v4), (5, .int v5), (6, .int v6)]) X dX12_feed_73 (by decide) (fun _ => rfl) (fun v7_2 => ?_)
  refine V_aload_n 1 X dX12_feed_75 rfl rfl ?_
  refine V_getR (k1 := 1) 0 X dX12_feed_76 co12 (kM hZ 0 _ rfl) (by decide) rfl rfl wfX12_7 ?_
  refine V_bipush (v := 10) X dX12_feed_79 (by decide) ?_
  refine V_aload_n 1 X dX12_feed_81 rfl rfl ?_
  refine V_getR (k1 := 1) 0 X dX12_feed_82 co12 (kM hZ 0 _ rfl) (by decide) rfl rfl wfX12_7 ?_
  refine V_iconst (v := 4) X dX12_feed_85 (by decide) ?_
  refine V_iald X dX12_feed_86 (kM hZ 1 _ rfl) ?_
  refine V_iadd X dX12_feed_87 ?_
  refine V_iload 0 X dX12_feed_88 rfl ?_
  refine V_bipush (v := 24) X dX12_feed_90 (by decide) ?_
  refine V_bipush (v := 8) X dX12_feed_92 (by decide) ?_
  refine V_iload 7 X dX12_feed_94 rfl ?_
  refine V_iconst (v := 4) X dX12_feed_96 (by decide) ?_
  refine V_iremKG X dX12_feed_97 (by decide) ?_
  refine V_imul X dX12_feed_98 ?_
  refine V_isub X dX12_feed_99 ?_
  refine V_ishr X dX12_feed_100 ?_
  refine V_sipush (v := 255) X dX12_feed_101 (by decide) ?_
  refine V_iand X dX12_feed_104 ?_
  refine V_iastG X dX12_feed_105 (kM hZ 1 _ rfl) (fun s3 => ?_)
  refine V_aload_n 1 X dX12_feed_106 rfl rfl ?_
  refine V_getR (k1 := 1) 0 X dX12_feed_107 co12 (kM hZ 0 _ rfl) (by decide) rfl rfl wfX12_7 ?_
  refine V_iconst (v := 4) X dX12_feed_110 (by decide) ?_
  refine V_dup2 X dX12_feed_111 rfl rfl ?_
  refine V_iald X dX12_feed_112 (kM hZ 1 _ rfl) ?_
  refine V_iconst (v := 1) X dX12_feed_113 (by decide) ?_
  refine V_iadd X dX12_feed_114 ?_
  refine V_iastG X dX12_feed_115 (kM hZ 1 _ rfl) (fun s4 => ?_)
  refine V_iincG (L' := fun v6_5 => [(6, .int v6_5), (7, .int v7_2), (0, .ref (z.2.2.1 0)), (1, .int v1), (2, .int v2), (3, .int v3), (4, .int v4), (5, .int v5)]) 7 X dX12_feed_116 rfl rfl (by decide) (fun _ => rfl) (fun v6_5 => ?_)
  refine V_goto (tgt := 20) X dX12_feed_119 (by decide) ?_
  refine V_sub [2, 3, 4, 5, 6, 7, 0] rfl ?_
  exact hc20 v1 v2 v3 v4 v5 v6_5 s4
def fX12_feed_b20 (N : Nat) (rc20 : Int32 → Int32 → Int32 → Int32 → Int32 → Int32 → Mem → Option (Int32 × Mem)) (v1 : Int32) (v2 : Int32) (v3 : Int32) (v4 : Int32) (v5 : Int32) (v6 : Int32) (σ : Mem) : Option (Int32 × Mem) :=
  if 20 ≤ v6 then gd (inb 4 4176) (some ((σ.1 1 (4 : Int32).toNatClampNeg), σ)) else if 4 ≤ v6 then if 8 ≤ v6 then if 12 ≤ v6 then if 16 ≤ v6 then fX12_feed_b73 N rc20 v1 v2 v3 v4 v5 v6 v5 σ else fX12_feed_b73 N rc20 v1 v2 v3 v4 v5 v6 v4 σ else fX12_feed_b73 N rc20 v1 v2 v3 v4 v5 v6 v3 σ else fX12_feed_b73 N rc20 v1 v2 v3 v4 v5 v6 v2 σ else fX12_feed_b73 N rc20 v1 v2 v3 v4 v5 v6 v1 σ
set_option maxRecDepth 100000 in
set_option maxHeartbeats 4000000 in
theorem bX12_feed_20 {x : Cx} {z : Sx} (X : XG x z RX12 cX12_feed 8 0 0) (E : XE x z) (hr : XR x (some .int)) (hZ : z.2.2.2.1 = kdM) (N : Nat) (rc20 : Int32 → Int32 → Int32 → Int32 → Int32 → Int32 → Mem → Option (Int32 × Mem)) (hc20 : ∀ (v1 : Int32) (v2 : Int32) (v3 : Int32) (v4 : Int32) (v5 : Int32) (v6 : Int32) (σ : Mem), VK x z 8 (BQ QI x z) 20 [(0, .ref (z.2.2.1 0)), (1, .int v1), (2, .int v2), (3, .int v3), (4, .int v4), (5, .int v5), (6, .int v6)] [] σ (rc20 v1 v2 v3 v4 v5 v6 σ)) (v1 : Int32) (v2 : Int32) (v3 : Int32) (v4 : Int32) (v5 : Int32) (v6 : Int32) (σ : Mem) : VK x z 8 (BQ QI x z) 20 [(0, .ref (z.2.2.1 0)), (1, .int v1), (2, .int v2), (3, .int v3), (4, .int v4), (5, .int v5), (6, .int v6)] [] σ (fX12_feed_b20 N rc20 v1 v2 v3 v4 v5 v6 σ) := by
  unfold fX12_feed_b20
  refine V_iload 6 X dX12_feed_20 rfl ?_
  refine V_bipush (v := 20) X dX12_feed_22 (by decide) ?_
  refine V_icmp_ge (tgt := 122) X dX12_feed_24 (by decide) ?_ ?_
  · refine V_aload_n 0 X dX12_feed_122 rfl rfl ?_
    refine V_getR (k1 := 1) 0 X dX12_feed_123 co12 (kM hZ 0 _ rfl) (by decide) rfl rfl wfX12_7 ?_
    refine V_iconst (v := 4) X dX12_feed_126 (by decide) ?_
    refine V_iald X dX12_feed_127 (kM hZ 1 _ rfl) ?_
    exact V_iret X E hr dX12_feed_128
  · refine V_iload 6 X dX12_feed_27 rfl ?_
    refine V_iconst (v := 4) X dX12_feed_29 (by decide) ?_
    refine V_icmp_ge (tgt := 37) X dX12_feed_30 (by decide) ?_ ?_
    · refine V_iload 6 X dX12_feed_37 rfl ?_
      refine V_bipush (v := 8) X dX12_feed_39 (by decide) ?_
      refine V_icmp_ge (tgt := 48) X dX12_feed_41 (by decide) ?_ ?_
      · refine V_iload 6 X dX12_feed_48 rfl ?_
        refine V_bipush (v := 12) X dX12_feed_50 (by decide) ?_
        refine V_icmp_ge (tgt := 59) X dX12_feed_52 (by decide) ?_ ?_
        · refine V_iload 6 X dX12_feed_59 rfl ?_
          refine V_bipush (v := 16) X dX12_feed_61 (by decide) ?_
          refine V_icmp_ge (tgt := 71) X dX12_feed_63 (by decide) ?_ ?_
          · refine V_iload 5 X dX12_feed_71 rfl ?_
            refine V_sub [0, 1, 2, 3, 4, 5, 6] rfl ?_
            exact bX12_feed_73 X E hr hZ N rc20 hc20 v1 v2 v3 v4 v5 v6 v5 σ
          · refine V_iload 4 X dX12_feed_66 rfl ?_
            refine V_goto (tgt := 73) X dX12_feed_68 (by decide) ?_
            refine V_sub [0, 1, 2, 3, 4, 5, 6] rfl ?_
            exact bX12_feed_73 X E hr hZ N rc20 hc20 v1 v2 v3 v4 v5 v6 v4 σ
        · refine V_iload_n 3 X dX12_feed_55 rfl rfl ?_
          refine V_goto (tgt := 73) X dX12_feed_56 (by decide) ?_
          refine V_sub [0, 1, 2, 3, 4, 5, 6] rfl ?_
          exact bX12_feed_73 X E hr hZ N rc20 hc20 v1 v2 v3 v4 v5 v6 v3 σ
      · refine V_iload_n 2 X dX12_feed_44 rfl rfl ?_
        refine V_goto (tgt := 73) X dX12_feed_45 (by decide) ?_
        refine V_sub [0, 1, 2, 3, 4, 5, 6] rfl ?_
        exact bX12_feed_73 X E hr hZ N rc20 hc20 v1 v2 v3 v4 v5 v6 v2 σ
    · refine V_iload_n 1 X dX12_feed_33 rfl rfl ?_
      refine V_goto (tgt := 73) X dX12_feed_34 (by decide) ?_
      refine V_sub [0, 1, 2, 3, 4, 5, 6] rfl ?_
      exact bX12_feed_73 X E hr hZ N rc20 hc20 v1 v2 v3 v4 v5 v6 v1 σ
def fX12_feed_l20 (N : Nat) : Nat → Int32 → Int32 → Int32 → Int32 → Int32 → Int32 → Mem → Option (Int32 × Mem)
  | 0 => fun _ _ _ _ _ _ _ => none
  | n + 1 => fX12_feed_b20 N (fX12_feed_l20 N n)
theorem lX12_feed_20 {x : Cx} {z : Sx} (X : XG x z RX12 cX12_feed 8 0 0) (E : XE x z) (hr : XR x (some .int)) (hZ : z.2.2.2.1 = kdM) (N : Nat) (n : Nat) (v1 : Int32) (v2 : Int32) (v3 : Int32) (v4 : Int32) (v5 : Int32) (v6 : Int32) (σ : Mem) : VK x z 8 (BQ QI x z) 20 [(0, .ref (z.2.2.1 0)), (1, .int v1), (2, .int v2), (3, .int v3), (4, .int v4), (5, .int v5), (6, .int v6)] [] σ (fX12_feed_l20 N n v1 v2 v3 v4 v5 v6 σ) := by
  induction n generalizing v1 v2 v3 v4 v5 v6 σ with
  | zero => exact V_none
  | succ n ih => exact bX12_feed_20 X E hr hZ N (fX12_feed_l20 N n) ih v1 v2 v3 v4 v5 v6 σ
def fX12_feed (N : Nat) (v1 : Int32) (v2 : Int32) (v3 : Int32) (v4 : Int32) (v5 : Int32) (σ : Mem) : Option (Int32 × Mem) :=
  gd (inb 4 4176) (if ((σ.1 1 (4 : Int32).toNatClampNeg) + 20) ≤ 600 then lt_ 0 (fun v6_1 => fX12_feed_l20 N N v1 v2 v3 v4 v5 v6_1 σ) else some ((-1), σ))
set_option maxRecDepth 100000 in
set_option maxHeartbeats 4000000 in
theorem bX12_feed_0 {x : Cx} {z : Sx} (X : XG x z RX12 cX12_feed 8 0 0) (E : XE x z) (hr : XR x (some .int)) (hZ : z.2.2.2.1 = kdM) (N : Nat) (v1 : Int32) (v2 : Int32) (v3 : Int32) (v4 : Int32) (v5 : Int32) (σ : Mem) : VK x z 8 (BQ QI x z) 0 [(0, .ref (z.2.2.1 0)), (1, .int v1), (2, .int v2), (3, .int v3), (4, .int v4), (5, .int v5)] [] σ (fX12_feed N v1 v2 v3 v4 v5 σ) := by
  unfold fX12_feed
  refine V_aload_n 0 X dX12_feed_0 rfl rfl ?_
  refine V_getR (k1 := 1) 0 X dX12_feed_1 co12 (kM hZ 0 _ rfl) (by decide) rfl rfl wfX12_7 ?_
  refine V_iconst (v := 4) X dX12_feed_4 (by decide) ?_
  refine V_iald X dX12_feed_5 (kM hZ 1 _ rfl) ?_
  refine V_bipush (v := 20) X dX12_feed_6 (by decide) ?_
  refine V_iadd X dX12_feed_8 ?_
  refine V_sipush (v := 600) X dX12_feed_9 (by decide) ?_
  refine V_icmp_le (tgt := 17) X dX12_feed_12 (by decide) ?_ ?_
  · refine V_iconst (v := 0) X dX12_feed_17 (by decide) ?_
    refine V_istoreG (L' := fun v6_1 => [(6, .int v6_1), (0, .ref (z.2.2.1 0)), (1, .int v1), (2, .int v2), (3, .int v3), (4, .int v4), (5, .int v5)]) X dX12_feed_18 (by decide) (fun _ => rfl) (fun v6_1 => ?_)
    refine V_sub [1, 2, 3, 4, 5, 6, 0] rfl ?_
    exact lX12_feed_20 X E hr hZ N N v1 v2 v3 v4 v5 v6_1 σ
  · refine V_iconst (v := -1) X dX12_feed_15 (by decide) ?_
    exact V_iret X E hr dX12_feed_16
theorem kX12_feed (l : Launch) (z : Sx) (hZ : z.2.2.2.1 = kdM) (N : Nat) (v1 : Int32) (v2 : Int32) (v3 : Int32) (v4 : Int32) (v5 : Int32) (σ : Mem) : Ct QI yX12_feed cX12_feed 8 (some .int) 0 0 l z [.ref (z.2.2.1 0), .int v1, .int v2, .int v3, .int v4, .int v5] σ (fX12_feed N v1 v2 v3 v4 v5 σ) := by
  refine Ct_of (by decide +kernel) (Nat.le_of_ble_eq_true rfl) rfl ?_
  intro x _ X E hr
  exact bX12_feed_0 X E hr hZ N v1 v2 v3 v4 v5 σ
def fX12_end (N : Nat) (v1 : Int32) (σ : Mem) : Option (Int32 × Mem) :=
  if v1 < 0 then some ((-1), σ) else gd (inb 4 4176) (if v1 ≤ (σ.1 1 (4 : Int32).toNatClampNeg) then gd (inb 4 4176) (lt_ (pI σ 1 (4 : Int32).toNatClampNeg v1) (fun s1 => some (v1, s1))) else some ((-1), σ))
set_option maxRecDepth 100000 in
set_option maxHeartbeats 4000000 in
theorem bX12_end_0 {x : Cx} {z : Sx} (X : XG x z RX12 cX12_end 2 0 0) (E : XE x z) (hr : XR x (some .int)) (hZ : z.2.2.2.1 = kdM) (N : Nat) (v1 : Int32) (σ : Mem) : VK x z 2 (BQ QI x z) 0 [(0, .ref (z.2.2.1 0)), (1, .int v1)] [] σ (fX12_end N v1 σ) := by
  unfold fX12_end
  refine V_iload_n 1 X dX12_end_0 rfl rfl ?_
  refine V_if_lt (tgt := 14) X dX12_end_1 (by decide) ?_ ?_
  · refine V_iconst (v := -1) X dX12_end_14 (by decide) ?_
    exact V_iret X E hr dX12_end_15
  · refine V_iload_n 1 X dX12_end_4 rfl rfl ?_
    refine V_aload_n 0 X dX12_end_5 rfl rfl ?_
    refine V_getR (k1 := 1) 0 X dX12_end_6 co12 (kM hZ 0 _ rfl) (by decide) rfl rfl wfX12_7 ?_
    refine V_iconst (v := 4) X dX12_end_9 (by decide) ?_
    refine V_iald X dX12_end_10 (kM hZ 1 _ rfl) ?_
    refine V_icmp_le (tgt := 16) X dX12_end_11 (by decide) ?_ ?_
    · refine V_aload_n 0 X dX12_end_16 rfl rfl ?_
      refine V_getR (k1 := 1) 0 X dX12_end_17 co12 (kM hZ 0 _ rfl) (by decide) rfl rfl wfX12_7 ?_
      refine V_iconst (v := 4) X dX12_end_20 (by decide) ?_
      refine V_iload_n 1 X dX12_end_21 rfl rfl ?_
      refine V_iastG X dX12_end_22 (kM hZ 1 _ rfl) (fun s1 => ?_)
      refine V_iload_n 1 X dX12_end_23 rfl rfl ?_
      exact V_iret X E hr dX12_end_24
    · refine V_iconst (v := -1) X dX12_end_14 (by decide) ?_
      exact V_iret X E hr dX12_end_15
theorem kX12_end (l : Launch) (z : Sx) (hZ : z.2.2.2.1 = kdM) (N : Nat) (v1 : Int32) (σ : Mem) : Ct QI yX12_end cX12_end 2 (some .int) 0 0 l z [.ref (z.2.2.1 0), .int v1] σ (fX12_end N v1 σ) := by
  refine Ct_of (by decide +kernel) (Nat.le_of_ble_eq_true rfl) rfl ?_
  intro x _ X E hr
  exact bX12_end_0 X E hr hZ N v1 σ
def fX12_isIn (N : Nat) (v0 : Int32) (v1 : Int32) (v2 : Int32) (σ : Mem) : Option (Int32 × Mem) :=
  if v0 < v1 then some (0, σ) else if v2 < v0 then some (0, σ) else some (1, σ)
set_option maxRecDepth 100000 in
set_option maxHeartbeats 4000000 in
theorem bX12_isIn_0 {x : Cx} {z : Sx} (X : XG x z RX12 cX12_isIn 3 0 0) (E : XE x z) (hr : XR x (some .boolean)) (hZ : z.2.2.2.1 = kdM) (N : Nat) (v0 : Int32) (v1 : Int32) (v2 : Int32) (σ : Mem) : VK x z 3 (BQ QI x z) 0 [(0, .int v0), (1, .int v1), (2, .int v2)] [] σ (fX12_isIn N v0 v1 v2 σ) := by
  unfold fX12_isIn
  refine V_iload_n 0 X dX12_isIn_0 rfl rfl ?_
  refine V_iload_n 1 X dX12_isIn_1 rfl rfl ?_
  refine V_icmp_lt (tgt := 14) X dX12_isIn_2 (by decide) ?_ ?_
  · refine V_iconst (v := 0) X dX12_isIn_14 (by decide) ?_
    exact V_zret X E hr dX12_isIn_15 (by decide)
  · refine V_iload_n 0 X dX12_isIn_5 rfl rfl ?_
    refine V_iload_n 2 X dX12_isIn_6 rfl rfl ?_
    refine V_icmp_gt (tgt := 14) X dX12_isIn_7 (by decide) ?_ ?_
    · refine V_iconst (v := 0) X dX12_isIn_14 (by decide) ?_
      exact V_zret X E hr dX12_isIn_15 (by decide)
    · refine V_iconst (v := 1) X dX12_isIn_10 (by decide) ?_
      refine V_goto (tgt := 15) X dX12_isIn_11 (by decide) ?_
      exact V_zret X E hr dX12_isIn_15 (by decide)
theorem kX12_isIn (l : Launch) (z : Sx) (hZ : z.2.2.2.1 = kdM) (N : Nat) (v0 : Int32) (v1 : Int32) (v2 : Int32) (σ : Mem) : Ct QI yX12_isIn cX12_isIn 3 (some .boolean) 0 0 l z [.int v0, .int v1, .int v2] σ (fX12_isIn N v0 v1 v2 σ) := by
  refine Ct_of (by decide +kernel) (Nat.le_of_ble_eq_true rfl) rfl ?_
  intro x _ X E hr
  exact bX12_isIn_0 X E hr hZ N v0 v1 v2 σ
def fX12_isOf (N : Nat) (v1 : Int32) (v2 : Int32) (σ : Mem) : Option (Int32 × Mem) :=
  gd (inb v1 4176) (bd (fX12_isIn N v2 0 ((σ.1 1 v1.toNatClampNeg) - 1) σ) (fun r1 s2 => gd (decide (r1 = 0 ∨ r1 = 1)) (some (r1, s2))))
set_option maxRecDepth 100000 in
set_option maxHeartbeats 4000000 in
theorem bX12_isOf_0 {x : Cx} {z : Sx} (X : XG x z RX12 cX12_isOf 3 1 22) (E : XE x z) (hr : XR x (some .boolean)) (hZ : z.2.2.2.1 = kdM) (N : Nat) (v1 : Int32) (v2 : Int32) (σ : Mem) : VK x z 3 (BQ QI x z) 0 [(0, .ref (z.2.2.1 0)), (1, .int v1), (2, .int v2)] [] σ (fX12_isOf N v1 v2 σ) := by
  unfold fX12_isOf
  refine V_iload_n 2 X dX12_isOf_0 rfl rfl ?_
  refine V_iconst (v := 0) X dX12_isOf_1 (by decide) ?_
  refine V_aload_n 0 X dX12_isOf_2 rfl rfl ?_
  refine V_getR (k1 := 1) 0 X dX12_isOf_3 co12 (kM hZ 0 _ rfl) (by decide) rfl rfl wfX12_7 ?_
  refine V_iload_n 1 X dX12_isOf_6 rfl rfl ?_
  refine V_iald X dX12_isOf_7 (kM hZ 1 _ rfl) ?_
  refine V_iconst (v := 1) X dX12_isOf_8 (by decide) ?_
  refine V_isub X dX12_isOf_9 ?_
  refine V_calSI [.int v2, .int 0, .int ((σ.1 1 v1.toNatClampNeg) - 1)] [] X E dX12_isOf_10 (kX12_isIn x.2.1 z hZ N v2 0 ((σ.1 1 v1.toNatClampNeg) - 1) σ) gcX12_106 hyX12_isIn rfl ⟨by decide, by decide⟩ rfl (Nat.le_of_ble_eq_true rfl) (fun r1 s2 => ?_)
  exact V_zretG X E hr dX12_isOf_13
theorem kX12_isOf (l : Launch) (z : Sx) (hZ : z.2.2.2.1 = kdM) (N : Nat) (v1 : Int32) (v2 : Int32) (σ : Mem) : Ct QI yX12_isOf cX12_isOf 3 (some .boolean) 1 22 l z [.ref (z.2.2.1 0), .int v1, .int v2] σ (fX12_isOf N v1 v2 σ) := by
  refine Ct_of (by decide +kernel) (Nat.le_of_ble_eq_true rfl) rfl ?_
  intro x _ X E hr
  exact bX12_isOf_0 X E hr hZ N v1 v2 σ
def fX12_byteAt (N : Nat) (v1 : Int32) (σ : Mem) : Option (Int32 × Mem) :=
  if (σ.1 0 2) ≤ v1 then some ((-1), σ) else gd (inb (10 + v1) 4176) (some ((σ.1 1 (10 + v1).toNatClampNeg), σ))
set_option maxRecDepth 100000 in
set_option maxHeartbeats 4000000 in
theorem bX12_byteAt_0 {x : Cx} {z : Sx} (X : XG x z RX12 cX12_byteAt 2 0 0) (E : XE x z) (hr : XR x (some .int)) (hZ : z.2.2.2.1 = kdM) (N : Nat) (v1 : Int32) (σ : Mem) : VK x z 2 (BQ QI x z) 0 [(0, .ref (z.2.2.1 0)), (1, .int v1)] [] σ (fX12_byteAt N v1 σ) := by
  unfold fX12_byteAt
  refine V_iload_n 1 X dX12_byteAt_0 rfl rfl ?_
  refine V_aload_n 0 X dX12_byteAt_1 rfl rfl ?_
  refine V_getI 2 X dX12_byteAt_2 co12 (kM hZ 0 _ rfl) (by decide) rfl wfX12_51 ?_
  refine V_icmp_ge (tgt := 20) X dX12_byteAt_5 (by decide) ?_ ?_
  · refine V_iconst (v := -1) X dX12_byteAt_20 (by decide) ?_
    exact V_iret X E hr dX12_byteAt_21
  · refine V_aload_n 0 X dX12_byteAt_8 rfl rfl ?_
    refine V_getR (k1 := 1) 0 X dX12_byteAt_9 co12 (kM hZ 0 _ rfl) (by decide) rfl rfl wfX12_7 ?_
    refine V_bipush (v := 10) X dX12_byteAt_12 (by decide) ?_
    refine V_iload_n 1 X dX12_byteAt_14 rfl rfl ?_
    refine V_iadd X dX12_byteAt_15 ?_
    refine V_iald X dX12_byteAt_16 (kM hZ 1 _ rfl) ?_
    refine V_goto (tgt := 21) X dX12_byteAt_17 (by decide) ?_
    exact V_iret X E hr dX12_byteAt_21
theorem kX12_byteAt (l : Launch) (z : Sx) (hZ : z.2.2.2.1 = kdM) (N : Nat) (v1 : Int32) (σ : Mem) : Ct QI yX12_byteAt cX12_byteAt 2 (some .int) 0 0 l z [.ref (z.2.2.1 0), .int v1] σ (fX12_byteAt N v1 σ) := by
  refine Ct_of (by decide +kernel) (Nat.le_of_ble_eq_true rfl) rfl ?_
  intro x _ X E hr
  exact bX12_byteAt_0 X E hr hZ N v1 σ
def fX12_isLetter (N : Nat) (v0 : Int32) (σ : Mem) : Option (Int32 × Mem) :=
  if v0 < 97 then some (0, σ) else if 122 < v0 then some (0, σ) else some (1, σ)
set_option maxRecDepth 100000 in
set_option maxHeartbeats 4000000 in
theorem bX12_isLetter_0 {x : Cx} {z : Sx} (X : XG x z RX12 cX12_isLetter 1 0 0) (E : XE x z) (hr : XR x (some .boolean)) (hZ : z.2.2.2.1 = kdM) (N : Nat) (v0 : Int32) (σ : Mem) : VK x z 1 (BQ QI x z) 0 [(0, .int v0)] [] σ (fX12_isLetter N v0 σ) := by
  unfold fX12_isLetter
  refine V_iload_n 0 X dX12_isLetter_0 rfl rfl ?_
  refine V_bipush (v := 97) X dX12_isLetter_1 (by decide) ?_
  refine V_icmp_lt (tgt := 16) X dX12_isLetter_3 (by decide) ?_ ?_
  · refine V_iconst (v := 0) X dX12_isLetter_16 (by decide) ?_
    exact V_zret X E hr dX12_isLetter_17 (by decide)
  · refine V_iload_n 0 X dX12_isLetter_6 rfl rfl ?_
    refine V_bipush (v := 122) X dX12_isLetter_7 (by decide) ?_
    refine V_icmp_gt (tgt := 16) X dX12_isLetter_9 (by decide) ?_ ?_
    · refine V_iconst (v := 0) X dX12_isLetter_16 (by decide) ?_
      exact V_zret X E hr dX12_isLetter_17 (by decide)
    · refine V_iconst (v := 1) X dX12_isLetter_12 (by decide) ?_
      refine V_goto (tgt := 17) X dX12_isLetter_13 (by decide) ?_
      exact V_zret X E hr dX12_isLetter_17 (by decide)
theorem kX12_isLetter (l : Launch) (z : Sx) (hZ : z.2.2.2.1 = kdM) (N : Nat) (v0 : Int32) (σ : Mem) : Ct QI yX12_isLetter cX12_isLetter 1 (some .boolean) 0 0 l z [.int v0] σ (fX12_isLetter N v0 σ) := by
  refine Ct_of (by decide +kernel) (Nat.le_of_ble_eq_true rfl) rfl ?_
  intro x _ X E hr
  exact bX12_isLetter_0 X E hr hZ N v0 σ
def fX12_four (N : Nat) (v0 : Int32) (v1 : Int32) (v2 : Int32) (v3 : Int32) (σ : Mem) : Option (Int64 × Mem) :=
  some ((((((((v0 * 32) + v1) * 32) + v2) * 32) + v3) : Int32).toInt64, σ)
set_option maxRecDepth 100000 in
set_option maxHeartbeats 4000000 in
theorem bX12_four_0 {x : Cx} {z : Sx} (X : XG x z RX12 cX12_four 4 0 0) (E : XE x z) (hr : XR x (some .long)) (hZ : z.2.2.2.1 = kdM) (N : Nat) (v0 : Int32) (v1 : Int32) (v2 : Int32) (v3 : Int32) (σ : Mem) : VK x z 4 (BQ QL x z) 0 [(0, .int v0), (1, .int v1), (2, .int v2), (3, .int v3)] [] σ (fX12_four N v0 v1 v2 v3 σ) := by
  unfold fX12_four
  refine V_iload_n 0 X dX12_four_0 rfl rfl ?_
  refine V_bipush (v := 32) X dX12_four_1 (by decide) ?_
  refine V_imul X dX12_four_3 ?_
  refine V_iload_n 1 X dX12_four_4 rfl rfl ?_
  refine V_iadd X dX12_four_5 ?_
  refine V_bipush (v := 32) X dX12_four_6 (by decide) ?_
  refine V_imul X dX12_four_8 ?_
  refine V_iload_n 2 X dX12_four_9 rfl rfl ?_
  refine V_iadd X dX12_four_10 ?_
  refine V_bipush (v := 32) X dX12_four_11 (by decide) ?_
  refine V_imul X dX12_four_13 ?_
  refine V_iload_n 3 X dX12_four_14 rfl rfl ?_
  refine V_iadd X dX12_four_15 ?_
  refine V_i2l X dX12_four_16 ?_
  exact V_lret X E hr dX12_four_17
theorem kX12_four (l : Launch) (z : Sx) (hZ : z.2.2.2.1 = kdM) (N : Nat) (v0 : Int32) (v1 : Int32) (v2 : Int32) (v3 : Int32) (σ : Mem) : Ct QL yX12_four cX12_four 4 (some .long) 0 0 l z [.int v0, .int v1, .int v2, .int v3] σ (fX12_four N v0 v1 v2 v3 σ) := by
  refine Ct_of (by decide +kernel) (Nat.le_of_ble_eq_true rfl) rfl ?_
  intro x _ X E hr
  exact bX12_four_0 X E hr hZ N v0 v1 v2 v3 σ
def fX12_eight (N : Nat) (v0 : Int32) (v1 : Int32) (v2 : Int32) (v3 : Int32) (v4 : Int32) (v5 : Int32) (v6 : Int32) (v7 : Int32) (σ : Mem) : Option (Int64 × Mem) :=
  bd (fX12_four N v0 v1 v2 v3 σ) (fun r1 s2 => bd (fX12_four N v4 v5 v6 v7 s2) (fun r3 s4 => some (((r1 * 1048576) + r3), s4)))
set_option maxRecDepth 100000 in
set_option maxHeartbeats 4000000 in
theorem bX12_eight_0 {x : Cx} {z : Sx} (X : XG x z RX12 cX12_eight 8 1 23) (E : XE x z) (hr : XR x (some .long)) (hZ : z.2.2.2.1 = kdM) (N : Nat) (v0 : Int32) (v1 : Int32) (v2 : Int32) (v3 : Int32) (v4 : Int32) (v5 : Int32) (v6 : Int32) (v7 : Int32) (σ : Mem) : VK x z 8 (BQ QL x z) 0 [(0, .int v0), (1, .int v1), (2, .int v2), (3, .int v3), (4, .int v4), (5, .int v5), (6, .int v6), (7, .int v7)] [] σ (fX12_eight N v0 v1 v2 v3 v4 v5 v6 v7 σ) := by
  unfold fX12_eight
  refine V_iload_n 0 X dX12_eight_0 rfl rfl ?_
  refine V_iload_n 1 X dX12_eight_1 rfl rfl ?_
  refine V_iload_n 2 X dX12_eight_2 rfl rfl ?_
  refine V_iload_n 3 X dX12_eight_3 rfl rfl ?_
  refine V_calSL [.int v0, .int v1, .int v2, .int v3] [] X E dX12_eight_4 (kX12_four x.2.1 z hZ N v0 v1 v2 v3 σ) gcX12_55 hyX12_four rfl ⟨by decide, by decide⟩ rfl (Nat.le_of_ble_eq_true rfl) (fun r1 s2 => ?_)
  refine V_ldc2 (v := 1048576) X dX12_eight_7 csX12_59 ?_
  refine V_lmul X dX12_eight_10 ?_
  refine V_iload 4 X dX12_eight_11 rfl ?_
  refine V_iload 5 X dX12_eight_13 rfl ?_
  refine V_iload 6 X dX12_eight_15 rfl ?_
  refine V_iload 7 X dX12_eight_17 rfl ?_
  refine V_calSL [.int v4, .int v5, .int v6, .int v7] [.long (r1 * 1048576)] X E dX12_eight_19 (kX12_four x.2.1 z hZ N v4 v5 v6 v7 s2) gcX12_55 hyX12_four rfl ⟨by decide, by decide⟩ rfl (Nat.le_of_ble_eq_true rfl) (fun r3 s4 => ?_)
  refine V_ladd X dX12_eight_22 ?_
  exact V_lret X E hr dX12_eight_23
theorem kX12_eight (l : Launch) (z : Sx) (hZ : z.2.2.2.1 = kdM) (N : Nat) (v0 : Int32) (v1 : Int32) (v2 : Int32) (v3 : Int32) (v4 : Int32) (v5 : Int32) (v6 : Int32) (v7 : Int32) (σ : Mem) : Ct QL yX12_eight cX12_eight 8 (some .long) 1 23 l z [.int v0, .int v1, .int v2, .int v3, .int v4, .int v5, .int v6, .int v7] σ (fX12_eight N v0 v1 v2 v3 v4 v5 v6 v7 σ) := by
  refine Ct_of (by decide +kernel) (Nat.le_of_ble_eq_true rfl) rfl ?_
  intro x _ X E hr
  exact bX12_eight_0 X E hr hZ N v0 v1 v2 v3 v4 v5 v6 v7 σ
def fX12_wordOf (N : Nat) (v0 : Int64) (σ : Mem) : Option (Int32 × Mem) :=
  bd (fX12_eight N 0 0 0 2 5 14 3 8 σ) (fun r1 s2 => if (lg_cmp v0 r1) = 0 then some (1, s2) else bd (fX12_eight N 0 0 0 19 20 15 15 12 s2) (fun r3 s4 => if (lg_cmp v0 r3) = 0 then some (2, s4) else bd (fX12_eight N 0 0 0 3 8 1 9 18 s4) (fun r5 s6 => if (lg_cmp v0 r5) = 0 then some (3, s6) else bd (fX12_eight N 0 0 0 20 1 2 12 5 s6) (fun r7 s8 => if (lg_cmp v0 r7) = 0 then some (4, s8) else bd (fX12_four N 19 9 20 19 s8) (fun r9 s10 => if (lg_cmp v0 r9) = 0 then some (5, s10) else bd (fX12_eight N 0 0 19 20 1 14 4 19 s10) (fun r11 s12 => if (lg_cmp v0 r11) = 0 then some (6, s12) else bd (fX12_four N 4 1 13 16 s12) (fun r13 s14 => if (lg_cmp v0 r13) = 0 then some (7, s14) else bd (fX12_four N 0 15 1 11 s14) (fun r15 s16 => if (lg_cmp v0 r15) = 0 then some (8, s16) else bd (fX12_eight N 0 0 23 1 12 14 21 20 s16) (fun r17 s18 => if (lg_cmp v0 r17) = 0 then some (9, s18) else bd (fX12_four N 16 9 14 5 s18) (fun r19 s20 => if (lg_cmp v0 r19) = 0 then some (10, s20) else bd (fX12_eight N 0 0 13 15 20 9 15 14 s20) (fun r21 s22 => if (lg_cmp v0 r21) = 0 then some (11, s22) else bd (fX12_eight N 0 0 0 19 20 1 14 4 s22) (fun r23 s24 => if (lg_cmp v0 r23) = 0 then some (12, s24) else bd (fX12_four N 0 23 1 24 s24) (fun r25 s26 => if (lg_cmp v0 r25) = 0 then some (13, s26) else bd (fX12_four N 0 19 5 20 s26) (fun r27 s28 => if (lg_cmp v0 r27) = 0 then some (14, s28) else bd (fX12_four N 0 19 9 20 s28) (fun r29 s30 => if (lg_cmp v0 r29) = 0 then some (15, s30) else bd (fX12_four N 0 23 5 20 s30) (fun r31 s32 => if (lg_cmp v0 r31) = 0 then some (16, s32) else bd (fX12_four N 0 4 18 25 s32) (fun r33 s34 => if (lg_cmp v0 r33) = 0 then some (17, s34) else bd (fX12_eight N 0 0 0 14 9 7 8 20 s34) (fun r35 s36 => if (lg_cmp v0 r35) = 0 then some (18, s36) else bd (fX12_eight N 0 0 0 19 20 9 12 12 s36) (fun r37 s38 => if (lg_cmp v0 r37) = 0 then some (19, s38) else bd (fX12_eight N 0 0 19 15 21 14 4 19 s38) (fun r39 s40 => if (lg_cmp v0 r39) = 0 then some (20, s40) else some (99, s40)))))))))))))))))))))
set_option maxRecDepth 100000 in
set_option maxHeartbeats 4000000 in
theorem bX12_wordOf_0 {x : Cx} {z : Sx} (X : XG x z RX12 cX12_wordOf 2 2 50) (E : XE x z) (hr : XR x (some .int)) (hZ : z.2.2.2.1 = kdM) (N : Nat) (v0 : Int64) (σ : Mem) : VK x z 2 (BQ QI x z) 0 [(0, .long v0)] [] σ (fX12_wordOf N v0 σ) := by
  unfold fX12_wordOf
  refine V_lload_n 0 X dX12_wordOf_0 rfl rfl ?_
  refine V_iconst (v := 0) X dX12_wordOf_1 (by decide) ?_
  refine V_iconst (v := 0) X dX12_wordOf_2 (by decide) ?_
  refine V_iconst (v := 0) X dX12_wordOf_3 (by decide) ?_
  refine V_iconst (v := 2) X dX12_wordOf_4 (by decide) ?_
  refine V_iconst (v := 5) X dX12_wordOf_5 (by decide) ?_
  refine V_bipush (v := 14) X dX12_wordOf_6 (by decide) ?_
  refine V_iconst (v := 3) X dX12_wordOf_8 (by decide) ?_
  refine V_bipush (v := 8) X dX12_wordOf_9 (by decide) ?_
  refine V_calSL [.int 0, .int 0, .int 0, .int 2, .int 5, .int 14, .int 3, .int 8] [.long v0] X E dX12_wordOf_11 (kX12_eight x.2.1 z hZ N 0 0 0 2 5 14 3 8 σ) gcX12_61 hyX12_eight rfl ⟨by decide, by decide⟩ rfl (Nat.le_of_ble_eq_true rfl) (fun r1 s2 => ?_)
  refine V_lcmp X dX12_wordOf_14 ?_
  refine V_if_ne (tgt := 20) X dX12_wordOf_15 (by decide) ?_ ?_
  · refine V_lload_n 0 X dX12_wordOf_20 rfl rfl ?_
    refine V_iconst (v := 0) X dX12_wordOf_21 (by decide) ?_
    refine V_iconst (v := 0) X dX12_wordOf_22 (by decide) ?_
    refine V_iconst (v := 0) X dX12_wordOf_23 (by decide) ?_
    refine V_bipush (v := 19) X dX12_wordOf_24 (by decide) ?_
    refine V_bipush (v := 20) X dX12_wordOf_26 (by decide) ?_
    refine V_bipush (v := 15) X dX12_wordOf_28 (by decide) ?_
    refine V_bipush (v := 15) X dX12_wordOf_30 (by decide) ?_
    refine V_bipush (v := 12) X dX12_wordOf_32 (by decide) ?_
    refine V_calSL [.int 0, .int 0, .int 0, .int 19, .int 20, .int 15, .int 15, .int 12] [.long v0] X E dX12_wordOf_34 (kX12_eight x.2.1 z hZ N 0 0 0 19 20 15 15 12 s2) gcX12_61 hyX12_eight rfl ⟨by decide, by decide⟩ rfl (Nat.le_of_ble_eq_true rfl) (fun r3 s4 => ?_)
    refine V_lcmp X dX12_wordOf_37 ?_
    refine V_if_ne (tgt := 43) X dX12_wordOf_38 (by decide) ?_ ?_
    · refine V_lload_n 0 X dX12_wordOf_43 rfl rfl ?_
      refine V_iconst (v := 0) X dX12_wordOf_44 (by decide) ?_
      refine V_iconst (v := 0) X dX12_wordOf_45 (by decide) ?_
      refine V_iconst (v := 0) X dX12_wordOf_46 (by decide) ?_
      refine V_iconst (v := 3) X dX12_wordOf_47 (by decide) ?_
      refine V_bipush (v := 8) X dX12_wordOf_48 (by decide) ?_
      refine V_iconst (v := 1) X dX12_wordOf_50 (by decide) ?_
      refine V_bipush (v := 9) X dX12_wordOf_51 (by decide) ?_
      refine V_bipush (v := 18) X dX12_wordOf_53 (by decide) ?_
      refine V_calSL [.int 0, .int 0, .int 0, .int 3, .int 8, .int 1, .int 9, .int 18] [.long v0] X E dX12_wordOf_55 (kX12_eight x.2.1 z hZ N 0 0 0 3 8 1 9 18 s4) gcX12_61 hyX12_eight rfl ⟨by decide, by decide⟩ rfl (Nat.le_of_ble_eq_true rfl) (fun r5 s6 => ?_)
      refine V_lcmp X dX12_wordOf_58 ?_
      refine V_if_ne (tgt := 64) X dX12_wordOf_59 (by decide) ?_ ?_
      · refine V_lload_n 0 X dX12_wordOf_64 rfl rfl ?_
        refine V_iconst (v := 0) X dX12_wordOf_65 (by decide) ?_
        refine V_iconst (v := 0) X dX12_wordOf_66 (by decide) ?_
        refine V_iconst (v := 0) X dX12_wordOf_67 (by decide) ?_
        refine V_bipush (v := 20) X dX12_wordOf_68 (by decide) ?_
        refine V_iconst (v := 1) X dX12_wordOf_70 (by decide) ?_
        refine V_iconst (v := 2) X dX12_wordOf_71 (by decide) ?_
        refine V_bipush (v := 12) X dX12_wordOf_72 (by decide) ?_
        refine V_iconst (v := 5) X dX12_wordOf_74 (by decide) ?_
        refine V_calSL [.int 0, .int 0, .int 0, .int 20, .int 1, .int 2, .int 12, .int 5] [.long v0] X E dX12_wordOf_75 (kX12_eight x.2.1 z hZ N 0 0 0 20 1 2 12 5 s6) gcX12_61 hyX12_eight rfl ⟨by decide, by decide⟩ rfl (Nat.le_of_ble_eq_true rfl) (fun r7 s8 => ?_)
        refine V_lcmp X dX12_wordOf_78 ?_
        refine V_if_ne (tgt := 84) X dX12_wordOf_79 (by decide) ?_ ?_
        · refine V_lload_n 0 X dX12_wordOf_84 rfl rfl ?_
          refine V_bipush (v := 19) X dX12_wordOf_85 (by decide) ?_
          refine V_bipush (v := 9) X dX12_wordOf_87 (by decide) ?_
          refine V_bipush (v := 20) X dX12_wordOf_89 (by decide) ?_
          refine V_bipush (v := 19) X dX12_wordOf_91 (by decide) ?_
          refine V_calSL [.int 19, .int 9, .int 20, .int 19] [.long v0] X E dX12_wordOf_93 (kX12_four x.2.1 z hZ N 19 9 20 19 s8) gcX12_55 hyX12_four rfl ⟨by decide, by decide⟩ rfl (Nat.le_of_ble_eq_true rfl) (fun r9 s10 => ?_)
          refine V_lcmp X dX12_wordOf_96 ?_
          refine V_if_ne (tgt := 102) X dX12_wordOf_97 (by decide) ?_ ?_
          · refine V_lload_n 0 X dX12_wordOf_102 rfl rfl ?_
            refine V_iconst (v := 0) X dX12_wordOf_103 (by decide) ?_
            refine V_iconst (v := 0) X dX12_wordOf_104 (by decide) ?_
            refine V_bipush (v := 19) X dX12_wordOf_105 (by decide) ?_
            refine V_bipush (v := 20) X dX12_wordOf_107 (by decide) ?_
            refine V_iconst (v := 1) X dX12_wordOf_109 (by decide) ?_
            refine V_bipush (v := 14) X dX12_wordOf_110 (by decide) ?_
            refine V_iconst (v := 4) X dX12_wordOf_112 (by decide) ?_
            refine V_bipush (v := 19) X dX12_wordOf_113 (by decide) ?_
            refine V_calSL [.int 0, .int 0, .int 19, .int 20, .int 1, .int 14, .int 4, .int 19] [.long v0] X E dX12_wordOf_115 (kX12_eight x.2.1 z hZ N 0 0 19 20 1 14 4 19 s10) gcX12_61 hyX12_eight rfl ⟨by decide, by decide⟩ rfl (Nat.le_of_ble_eq_true rfl) (fun r11 s12 => ?_)
            refine V_lcmp X dX12_wordOf_118 ?_
            refine V_if_ne (tgt := 125) X dX12_wordOf_119 (by decide) ?_ ?_
            · refine V_lload_n 0 X dX12_wordOf_125 rfl rfl ?_
              refine V_iconst (v := 4) X dX12_wordOf_126 (by decide) ?_
              refine V_iconst (v := 1) X dX12_wordOf_127 (by decide) ?_
              refine V_bipush (v := 13) X dX12_wordOf_128 (by decide) ?_
              refine V_bipush (v := 16) X dX12_wordOf_130 (by decide) ?_
              refine V_calSL [.int 4, .int 1, .int 13, .int 16] [.long v0] X E dX12_wordOf_132 (kX12_four x.2.1 z hZ N 4 1 13 16 s12) gcX12_55 hyX12_four rfl ⟨by decide, by decide⟩ rfl (Nat.le_of_ble_eq_true rfl) (fun r13 s14 => ?_)
              refine V_lcmp X dX12_wordOf_135 ?_
              refine V_if_ne (tgt := 142) X dX12_wordOf_136 (by decide) ?_ ?_
              · refine V_lload_n 0 X dX12_wordOf_142 rfl rfl ?_
                refine V_iconst (v := 0) X dX12_wordOf_143 (by decide) ?_
                refine V_bipush (v := 15) X dX12_wordOf_144 (by decide) ?_
                refine V_iconst (v := 1) X dX12_wordOf_146 (by decide) ?_
                refine V_bipush (v := 11) X dX12_wordOf_147 (by decide) ?_
                refine V_calSL [.int 0, .int 15, .int 1, .int 11] [.long v0] X E dX12_wordOf_149 (kX12_four x.2.1 z hZ N 0 15 1 11 s14) gcX12_55 hyX12_four rfl ⟨by decide, by decide⟩ rfl (Nat.le_of_ble_eq_true rfl) (fun r15 s16 => ?_)
                refine V_lcmp X dX12_wordOf_152 ?_
                refine V_if_ne (tgt := 159) X dX12_wordOf_153 (by decide) ?_ ?_
                · refine V_lload_n 0 X dX12_wordOf_159 rfl rfl ?_
                  refine V_iconst (v := 0) X dX12_wordOf_160 (by decide) ?_
                  refine V_iconst (v := 0) X dX12_wordOf_161 (by decide) ?_
                  refine V_bipush (v := 23) X dX12_wordOf_162 (by decide) ?_
                  refine V_iconst (v := 1) X dX12_wordOf_164 (by decide) ?_
                  refine V_bipush (v := 12) X dX12_wordOf_165 (by decide) ?_
                  refine V_bipush (v := 14) X dX12_wordOf_167 (by decide) ?_
                  refine V_bipush (v := 21) X dX12_wordOf_169 (by decide) ?_
                  refine V_bipush (v := 20) X dX12_wordOf_171 (by decide) ?_
                  refine V_calSL [.int 0, .int 0, .int 23, .int 1, .int 12, .int 14, .int 21, .int 20] [.long v0] X E dX12_wordOf_173 (kX12_eight x.2.1 z hZ N 0 0 23 1 12 14 21 20 s16) gcX12_61 hyX12_eight rfl ⟨by decide, by decide⟩ rfl (Nat.le_of_ble_eq_true rfl) (fun r17 s18 => ?_)
                  refine V_lcmp X dX12_wordOf_176 ?_
                  refine V_if_ne (tgt := 183) X dX12_wordOf_177 (by decide) ?_ ?_
                  · refine V_lload_n 0 X dX12_wordOf_183 rfl rfl ?_
                    refine V_bipush (v := 16) X dX12_wordOf_184 (by decide) ?_
                    refine V_bipush (v := 9) X dX12_wordOf_186 (by decide) ?_
                    refine V_bipush (v := 14) X dX12_wordOf_188 (by decide) ?_
                    refine V_iconst (v := 5) X dX12_wordOf_190 (by decide) ?_
                    refine V_calSL [.int 16, .int 9, .int 14, .int 5] [.long v0] X E dX12_wordOf_191 (kX12_four x.2.1 z hZ N 16 9 14 5 s18) gcX12_55 hyX12_four rfl ⟨by decide, by decide⟩ rfl (Nat.le_of_ble_eq_true rfl) (fun r19 s20 => ?_)
                    refine V_lcmp X dX12_wordOf_194 ?_
                    refine V_if_ne (tgt := 201) X dX12_wordOf_195 (by decide) ?_ ?_
                    · refine V_lload_n 0 X dX12_wordOf_201 rfl rfl ?_
                      refine V_iconst (v := 0) X dX12_wordOf_202 (by decide) ?_
                      refine V_iconst (v := 0) X dX12_wordOf_203 (by decide) ?_
                      refine V_bipush (v := 13) X dX12_wordOf_204 (by decide) ?_
                      refine V_bipush (v := 15) X dX12_wordOf_206 (by decide) ?_
                      refine V_bipush (v := 20) X dX12_wordOf_208 (by decide) ?_
                      refine V_bipush (v := 9) X dX12_wordOf_210 (by decide) ?_
                      refine V_bipush (v := 15) X dX12_wordOf_212 (by decide) ?_
                      refine V_bipush (v := 14) X dX12_wordOf_214 (by decide) ?_
                      refine V_calSL [.int 0, .int 0, .int 13, .int 15, .int 20, .int 9, .int 15, .int 14] [.long v0] X E dX12_wordOf_216 (kX12_eight x.2.1 z hZ N 0 0 13 15 20 9 15 14 s20) gcX12_61 hyX12_eight rfl ⟨by decide, by decide⟩ rfl (Nat.le_of_ble_eq_true rfl) (fun r21 s22 => ?_)
                      refine V_lcmp X dX12_wordOf_219 ?_
                      refine V_if_ne (tgt := 226) X dX12_wordOf_220 (by decide) ?_ ?_
                      · refine V_lload_n 0 X dX12_wordOf_226 rfl rfl ?_
                        refine V_iconst (v := 0) X dX12_wordOf_227 (by decide) ?_
                        refine V_iconst (v := 0) X dX12_wordOf_228 (by decide) ?_
                        refine V_iconst (v := 0) X dX12_wordOf_229 (by decide) ?_
                        refine V_bipush (v := 19) X dX12_wordOf_230 (by decide) ?_
                        refine V_bipush (v := 20) X dX12_wordOf_232 (by decide) ?_
                        refine V_iconst (v := 1) X dX12_wordOf_234 (by decide) ?_
                        refine V_bipush (v := 14) X dX12_wordOf_235 (by decide) ?_
                        refine V_iconst (v := 4) X dX12_wordOf_237 (by decide) ?_
                        refine V_calSL [.int 0, .int 0, .int 0, .int 19, .int 20, .int 1, .int 14, .int 4] [.long v0] X E dX12_wordOf_238 (kX12_eight x.2.1 z hZ N 0 0 0 19 20 1 14 4 s22) gcX12_61 hyX12_eight rfl ⟨by decide, by decide⟩ rfl (Nat.le_of_ble_eq_true rfl) (fun r23 s24 => ?_)
                        refine V_lcmp X dX12_wordOf_241 ?_
                        refine V_if_ne (tgt := 248) X dX12_wordOf_242 (by decide) ?_ ?_
                        · refine V_lload_n 0 X dX12_wordOf_248 rfl rfl ?_
                          refine V_iconst (v := 0) X dX12_wordOf_249 (by decide) ?_
                          refine V_bipush (v := 23) X dX12_wordOf_250 (by decide) ?_
                          refine V_iconst (v := 1) X dX12_wordOf_252 (by decide) ?_
                          refine V_bipush (v := 24) X dX12_wordOf_253 (by decide) ?_
                          refine V_calSL [.int 0, .int 23, .int 1, .int 24] [.long v0] X E dX12_wordOf_255 (kX12_four x.2.1 z hZ N 0 23 1 24 s24) gcX12_55 hyX12_four rfl ⟨by decide, by decide⟩ rfl (Nat.le_of_ble_eq_true rfl) (fun r25 s26 => ?_)
                          refine V_lcmp X dX12_wordOf_258 ?_
                          refine V_if_ne (tgt := 265) X dX12_wordOf_259 (by decide) ?_ ?_
                          · refine V_lload_n 0 X dX12_wordOf_265 rfl rfl ?_
                            refine V_iconst (v := 0) X dX12_wordOf_266 (by decide) ?_
                            refine V_bipush (v := 19) X dX12_wordOf_267 (by decide) ?_
                            refine V_iconst (v := 5) X dX12_wordOf_269 (by decide) ?_
                            refine V_bipush (v := 20) X dX12_wordOf_270 (by decide) ?_
                            refine V_calSL [.int 0, .int 19, .int 5, .int 20] [.long v0] X E dX12_wordOf_272 (kX12_four x.2.1 z hZ N 0 19 5 20 s26) gcX12_55 hyX12_four rfl ⟨by decide, by decide⟩ rfl (Nat.le_of_ble_eq_true rfl) (fun r27 s28 => ?_)
                            refine V_lcmp X dX12_wordOf_275 ?_
                            refine V_if_ne (tgt := 282) X dX12_wordOf_276 (by decide) ?_ ?_
                            · refine V_lload_n 0 X dX12_wordOf_282 rfl rfl ?_
                              refine V_iconst (v := 0) X dX12_wordOf_283 (by decide) ?_
                              refine V_bipush (v := 19) X dX12_wordOf_284 (by decide) ?_
                              refine V_bipush (v := 9) X dX12_wordOf_286 (by decide) ?_
                              refine V_bipush (v := 20) X dX12_wordOf_288 (by decide) ?_
                              refine V_calSL [.int 0, .int 19, .int 9, .int 20] [.long v0] X E dX12_wordOf_290 (kX12_four x.2.1 z hZ N 0 19 9 20 s28) gcX12_55 hyX12_four rfl ⟨by decide, by decide⟩ rfl (Nat.le_of_ble_eq_true rfl) (fun r29 s30 => ?_)
                              refine V_lcmp X dX12_wordOf_293 ?_
                              refine V_if_ne (tgt := 300) X dX12_wordOf_294 (by decide) ?_ ?_
                              · refine V_lload_n 0 X dX12_wordOf_300 rfl rfl ?_
                                refine V_iconst (v := 0) X dX12_wordOf_301 (by decide) ?_
                                refine V_bipush (v := 23) X dX12_wordOf_302 (by decide) ?_
                                refine V_iconst (v := 5) X dX12_wordOf_304 (by decide) ?_
                                refine V_bipush (v := 20) X dX12_wordOf_305 (by decide) ?_
                                refine V_calSL [.int 0, .int 23, .int 5, .int 20] [.long v0] X E dX12_wordOf_307 (kX12_four x.2.1 z hZ N 0 23 5 20 s30) gcX12_55 hyX12_four rfl ⟨by decide, by decide⟩ rfl (Nat.le_of_ble_eq_true rfl) (fun r31 s32 => ?_)
                                refine V_lcmp X dX12_wordOf_310 ?_
                                refine V_if_ne (tgt := 317) X dX12_wordOf_311 (by decide) ?_ ?_
                                · refine V_lload_n 0 X dX12_wordOf_317 rfl rfl ?_
                                  refine V_iconst (v := 0) X dX12_wordOf_318 (by decide) ?_
                                  refine V_iconst (v := 4) X dX12_wordOf_319 (by decide) ?_
                                  refine V_bipush (v := 18) X dX12_wordOf_320 (by decide) ?_
                                  refine V_bipush (v := 25) X dX12_wordOf_322 (by decide) ?_
                                  refine V_calSL [.int 0, .int 4, .int 18, .int 25] [.long v0] X E dX12_wordOf_324 (kX12_four x.2.1 z hZ N 0 4 18 25 s32) gcX12_55 hyX12_four rfl ⟨by decide, by decide⟩ rfl (Nat.le_of_ble_eq_true rfl) (fun r33 s34 => ?_)
                                  refine V_lcmp X dX12_wordOf_327 ?_
                                  refine V_if_ne (tgt := 334) X dX12_wordOf_328 (by decide) ?_ ?_
                                  · refine V_lload_n 0 X dX12_wordOf_334 rfl rfl ?_
                                    refine V_iconst (v := 0) X dX12_wordOf_335 (by decide) ?_
                                    refine V_iconst (v := 0) X dX12_wordOf_336 (by decide) ?_
                                    refine V_iconst (v := 0) X dX12_wordOf_337 (by decide) ?_
                                    refine V_bipush (v := 14) X dX12_wordOf_338 (by decide) ?_
                                    refine V_bipush (v := 9) X dX12_wordOf_340 (by decide) ?_
                                    refine V_bipush (v := 7) X dX12_wordOf_342 (by decide) ?_
                                    refine V_bipush (v := 8) X dX12_wordOf_344 (by decide) ?_
                                    refine V_bipush (v := 20) X dX12_wordOf_346 (by decide) ?_
                                    refine V_calSL [.int 0, .int 0, .int 0, .int 14, .int 9, .int 7, .int 8, .int 20] [.long v0] X E dX12_wordOf_348 (kX12_eight x.2.1 z hZ N 0 0 0 14 9 7 8 20 s34) gcX12_61 hyX12_eight rfl ⟨by decide, by decide⟩ rfl (Nat.le_of_ble_eq_true rfl) (fun r35 s36 => ?_)
                                    refine V_lcmp X dX12_wordOf_351 ?_
                                    refine V_if_ne (tgt := 358) X dX12_wordOf_352 (by decide) ?_ ?_
                                    · refine V_lload_n 0 X dX12_wordOf_358 rfl rfl ?_
                                      refine V_iconst (v := 0) X dX12_wordOf_359 (by decide) ?_
                                      refine V_iconst (v := 0) X dX12_wordOf_360 (by decide) ?_
                                      refine V_iconst (v := 0) X dX12_wordOf_361 (by decide) ?_
                                      refine V_bipush (v := 19) X dX12_wordOf_362 (by decide) ?_
                                      refine V_bipush (v := 20) X dX12_wordOf_364 (by decide) ?_
                                      refine V_bipush (v := 9) X dX12_wordOf_366 (by decide) ?_
                                      refine V_bipush (v := 12) X dX12_wordOf_368 (by decide) ?_
                                      refine V_bipush (v := 12) X dX12_wordOf_370 (by decide) ?_
                                      refine V_calSL [.int 0, .int 0, .int 0, .int 19, .int 20, .int 9, .int 12, .int 12] [.long v0] X E dX12_wordOf_372 (kX12_eight x.2.1 z hZ N 0 0 0 19 20 9 12 12 s36) gcX12_61 hyX12_eight rfl ⟨by decide, by decide⟩ rfl (Nat.le_of_ble_eq_true rfl) (fun r37 s38 => ?_)
                                      refine V_lcmp X dX12_wordOf_375 ?_
                                      refine V_if_ne (tgt := 382) X dX12_wordOf_376 (by decide) ?_ ?_
                                      · refine V_lload_n 0 X dX12_wordOf_382 rfl rfl ?_
                                        refine V_iconst (v := 0) X dX12_wordOf_383 (by decide) ?_
                                        refine V_iconst (v := 0) X dX12_wordOf_384 (by decide) ?_
                                        refine V_bipush (v := 19) X dX12_wordOf_385 (by decide) ?_
                                        refine V_bipush (v := 15) X dX12_wordOf_387 (by decide) ?_
                                        refine V_bipush (v := 21) X dX12_wordOf_389 (by decide) ?_
                                        refine V_bipush (v := 14) X dX12_wordOf_391 (by decide) ?_
                                        refine V_iconst (v := 4) X dX12_wordOf_393 (by decide) ?_
                                        refine V_bipush (v := 19) X dX12_wordOf_394 (by decide) ?_
                                        refine V_calSL [.int 0, .int 0, .int 19, .int 15, .int 21, .int 14, .int 4, .int 19] [.long v0] X E dX12_wordOf_396 (kX12_eight x.2.1 z hZ N 0 0 19 15 21 14 4 19 s38) gcX12_61 hyX12_eight rfl ⟨by decide, by decide⟩ rfl (Nat.le_of_ble_eq_true rfl) (fun r39 s40 => ?_)
                                        refine V_lcmp X dX12_wordOf_399 ?_
                                        refine V_if_ne (tgt := 408) X dX12_wordOf_400 (by decide) ?_ ?_
                                        · refine V_bipush (v := 99) X dX12_wordOf_408 (by decide) ?_
                                          exact V_iret X E hr dX12_wordOf_410
                                        · refine V_bipush (v := 20) X dX12_wordOf_403 (by decide) ?_
                                          refine V_goto (tgt := 410) X dX12_wordOf_405 (by decide) ?_
                                          exact V_iret X E hr dX12_wordOf_410
                                      · refine V_bipush (v := 19) X dX12_wordOf_379 (by decide) ?_
                                        exact V_iret X E hr dX12_wordOf_381
                                    · refine V_bipush (v := 18) X dX12_wordOf_355 (by decide) ?_
                                      exact V_iret X E hr dX12_wordOf_357
                                  · refine V_bipush (v := 17) X dX12_wordOf_331 (by decide) ?_
                                    exact V_iret X E hr dX12_wordOf_333
                                · refine V_bipush (v := 16) X dX12_wordOf_314 (by decide) ?_
                                  exact V_iret X E hr dX12_wordOf_316
                              · refine V_bipush (v := 15) X dX12_wordOf_297 (by decide) ?_
                                exact V_iret X E hr dX12_wordOf_299
                            · refine V_bipush (v := 14) X dX12_wordOf_279 (by decide) ?_
                              exact V_iret X E hr dX12_wordOf_281
                          · refine V_bipush (v := 13) X dX12_wordOf_262 (by decide) ?_
                            exact V_iret X E hr dX12_wordOf_264
                        · refine V_bipush (v := 12) X dX12_wordOf_245 (by decide) ?_
                          exact V_iret X E hr dX12_wordOf_247
                      · refine V_bipush (v := 11) X dX12_wordOf_223 (by decide) ?_
                        exact V_iret X E hr dX12_wordOf_225
                    · refine V_bipush (v := 10) X dX12_wordOf_198 (by decide) ?_
                      exact V_iret X E hr dX12_wordOf_200
                  · refine V_bipush (v := 9) X dX12_wordOf_180 (by decide) ?_
                    exact V_iret X E hr dX12_wordOf_182
                · refine V_bipush (v := 8) X dX12_wordOf_156 (by decide) ?_
                  exact V_iret X E hr dX12_wordOf_158
              · refine V_bipush (v := 7) X dX12_wordOf_139 (by decide) ?_
                exact V_iret X E hr dX12_wordOf_141
            · refine V_bipush (v := 6) X dX12_wordOf_122 (by decide) ?_
              exact V_iret X E hr dX12_wordOf_124
          · refine V_iconst (v := 5) X dX12_wordOf_100 (by decide) ?_
            exact V_iret X E hr dX12_wordOf_101
        · refine V_iconst (v := 4) X dX12_wordOf_82 (by decide) ?_
          exact V_iret X E hr dX12_wordOf_83
      · refine V_iconst (v := 3) X dX12_wordOf_62 (by decide) ?_
        exact V_iret X E hr dX12_wordOf_63
    · refine V_iconst (v := 2) X dX12_wordOf_41 (by decide) ?_
      exact V_iret X E hr dX12_wordOf_42
  · refine V_iconst (v := 1) X dX12_wordOf_18 (by decide) ?_
    exact V_iret X E hr dX12_wordOf_19
theorem kX12_wordOf (l : Launch) (z : Sx) (hZ : z.2.2.2.1 = kdM) (N : Nat) (v0 : Int64) (σ : Mem) : Ct QI yX12_wordOf cX12_wordOf 2 (some .int) 2 50 l z [.long v0] σ (fX12_wordOf N v0 σ) := by
  refine Ct_of (by decide +kernel) (Nat.le_of_ble_eq_true rfl) rfl ?_
  intro x _ X E hr
  exact bX12_wordOf_0 X E hr hZ N v0 σ
def fX12_isDigit (N : Nat) (v0 : Int32) (σ : Mem) : Option (Int32 × Mem) :=
  if v0 < 48 then some (0, σ) else if 57 < v0 then some (0, σ) else some (1, σ)
set_option maxRecDepth 100000 in
set_option maxHeartbeats 4000000 in
theorem bX12_isDigit_0 {x : Cx} {z : Sx} (X : XG x z RX12 cX12_isDigit 1 0 0) (E : XE x z) (hr : XR x (some .boolean)) (hZ : z.2.2.2.1 = kdM) (N : Nat) (v0 : Int32) (σ : Mem) : VK x z 1 (BQ QI x z) 0 [(0, .int v0)] [] σ (fX12_isDigit N v0 σ) := by
  unfold fX12_isDigit
  refine V_iload_n 0 X dX12_isDigit_0 rfl rfl ?_
  refine V_bipush (v := 48) X dX12_isDigit_1 (by decide) ?_
  refine V_icmp_lt (tgt := 16) X dX12_isDigit_3 (by decide) ?_ ?_
  · refine V_iconst (v := 0) X dX12_isDigit_16 (by decide) ?_
    exact V_zret X E hr dX12_isDigit_17 (by decide)
  · refine V_iload_n 0 X dX12_isDigit_6 rfl rfl ?_
    refine V_bipush (v := 57) X dX12_isDigit_7 (by decide) ?_
    refine V_icmp_gt (tgt := 16) X dX12_isDigit_9 (by decide) ?_ ?_
    · refine V_iconst (v := 0) X dX12_isDigit_16 (by decide) ?_
      exact V_zret X E hr dX12_isDigit_17 (by decide)
    · refine V_iconst (v := 1) X dX12_isDigit_12 (by decide) ?_
      refine V_goto (tgt := 17) X dX12_isDigit_13 (by decide) ?_
      exact V_zret X E hr dX12_isDigit_17 (by decide)
theorem kX12_isDigit (l : Launch) (z : Sx) (hZ : z.2.2.2.1 = kdM) (N : Nat) (v0 : Int32) (σ : Mem) : Ct QI yX12_isDigit cX12_isDigit 1 (some .boolean) 0 0 l z [.int v0] σ (fX12_isDigit N v0 σ) := by
  refine Ct_of (by decide +kernel) (Nat.le_of_ble_eq_true rfl) rfl ?_
  intro x _ X E hr
  exact bX12_isDigit_0 X E hr hZ N v0 σ
def fX12_advance_b308 (N : Nat) (t0 : Int32) (σ : Mem) : Option (Unit × Mem) :=
  lt_ (pI σ 0 5 t0) (fun s18 => some ((), s18))
set_option maxRecDepth 100000 in
set_option maxHeartbeats 4000000 in
theorem bX12_advance_308 {x : Cx} {z : Sx} (X : XG x z RX12 cX12_advance 4 3 71) (E : XE x z) (hr : XR x none) (hZ : z.2.2.2.1 = kdM) (N : Nat) (t0 : Int32) (σ : Mem) : VK x z 4 (BQ QV x z) 308 [(0, .ref (z.2.2.1 0))] [.int t0, .ref (z.2.2.1 0)] σ (fX12_advance_b308 N t0 σ) := by
  unfold fX12_advance_b308
  refine V_putIG 5 X dX12_advance_308 co12 (kM hZ 0 _ rfl) (by decide) rfl wfX12_75 rfl rfl rfl (fun s18 => ?_)
  exact V_vret X E hr dX12_advance_311
def fX12_advance_b280 (N : Nat) (t0 : Int32) (σ : Mem) : Option (Unit × Mem) :=
  lt_ (pI σ 0 5 t0) (fun s35 => some ((), s35))
set_option maxRecDepth 100000 in
set_option maxHeartbeats 4000000 in
theorem bX12_advance_280 {x : Cx} {z : Sx} (X : XG x z RX12 cX12_advance 4 3 71) (E : XE x z) (hr : XR x none) (hZ : z.2.2.2.1 = kdM) (N : Nat) (t0 : Int32) (σ : Mem) : VK x z 4 (BQ QV x z) 280 [(0, .ref (z.2.2.1 0))] [.int t0, .ref (z.2.2.1 0)] σ (fX12_advance_b280 N t0 σ) := by
  unfold fX12_advance_b280
  refine V_putIG 5 X dX12_advance_280 co12 (kM hZ 0 _ rfl) (by decide) rfl wfX12_75 rfl rfl rfl (fun s35 => ?_)
  refine V_goto (tgt := 311) X dX12_advance_283 (by decide) ?_
  exact V_vret X E hr dX12_advance_311
def fX12_advance_b248 (N : Nat) (rc198 : Mem → Option (Unit × Mem)) (σ : Mem) : Option (Unit × Mem) :=
  lt_ (pI σ 0 3 ((σ.1 0 3) + 1)) (fun s36 => rc198 s36)
set_option maxRecDepth 100000 in
set_option maxHeartbeats 4000000 in
theorem bX12_advance_248 {x : Cx} {z : Sx} (X : XG x z RX12 cX12_advance 4 3 71) (E : XE x z) (hr : XR x none) (hZ : z.2.2.2.1 = kdM) (N : Nat) (rc198 : Mem → Option (Unit × Mem)) (hc198 : ∀ (σ : Mem), VK x z 4 (BQ QV x z) 198 [(0, .ref (z.2.2.1 0))] [] σ (rc198 σ)) (σ : Mem) : VK x z 4 (BQ QV x z) 248 [(0, .ref (z.2.2.1 0))] [] σ (fX12_advance_b248 N rc198 σ) := by
  unfold fX12_advance_b248
  refine V_aload_n 0 X dX12_advance_248 rfl rfl ?_
  refine V_dup X dX12_advance_249 rfl ?_
  refine V_getI 3 X dX12_advance_250 co12 (kM hZ 0 _ rfl) (by decide) rfl wfX12_65 ?_
  refine V_iconst (v := 1) X dX12_advance_253 (by decide) ?_
  refine V_iadd X dX12_advance_254 ?_
  refine V_putIG 3 X dX12_advance_255 co12 (kM hZ 0 _ rfl) (by decide) rfl wfX12_65 rfl rfl rfl (fun s36 => ?_)
  refine V_goto (tgt := 198) X dX12_advance_258 (by decide) ?_
  refine V_sub [0] rfl ?_
  exact hc198 s36
def fX12_advance_b198 (N : Nat) (rc198 : Mem → Option (Unit × Mem)) (σ : Mem) : Option (Unit × Mem) :=
  bd (fX12_byteAt N (σ.1 0 3) σ) (fun r19 s20 => bd (fX12_isDigit N r19 s20) (fun r21 s22 => if r21 = 0 then if ((s22.1 0 3) - (s22.1 0 4)) ≤ 2 then fX12_advance_b280 N 1 s22 else fX12_advance_b280 N 4 s22 else if 2 ≤ ((s22.1 0 3) - (s22.1 0 4)) then fX12_advance_b248 N rc198 s22 else bd (fX12_byteAt N (s22.1 0 3) s22) (fun r23 s24 => lt_ (pI s24 0 6 (((10 * (s22.1 0 6)) + r23) - 48)) (fun s25 => fX12_advance_b248 N rc198 s25))))
set_option maxRecDepth 100000 in
set_option maxHeartbeats 4000000 in
theorem bX12_advance_198 {x : Cx} {z : Sx} (X : XG x z RX12 cX12_advance 4 3 71) (E : XE x z) (hr : XR x none) (hZ : z.2.2.2.1 = kdM) (N : Nat) (rc198 : Mem → Option (Unit × Mem)) (hc198 : ∀ (σ : Mem), VK x z 4 (BQ QV x z) 198 [(0, .ref (z.2.2.1 0))] [] σ (rc198 σ)) (σ : Mem) : VK x z 4 (BQ QV x z) 198 [(0, .ref (z.2.2.1 0))] [] σ (fX12_advance_b198 N rc198 σ) := by
  unfold fX12_advance_b198
  refine V_aload_n 0 X dX12_advance_198 rfl rfl ?_
  refine V_aload_n 0 X dX12_advance_199 rfl rfl ?_
  refine V_getI 3 X dX12_advance_200 co12 (kM hZ 0 _ rfl) (by decide) rfl wfX12_65 ?_
  refine V_callI [.int (σ.1 0 3)] [] X E dX12_advance_203 (kX12_byteAt x.2.1 z hZ N (σ.1 0 3) σ) co12 (kM hZ 0 _ rfl) gcX12_68 hyX12_byteAt rfl ⟨by decide, by decide⟩ rfl (Nat.le_of_ble_eq_true rfl) (fun r19 s20 => ?_)
  refine V_calSI [.int r19] [] X E dX12_advance_206 (kX12_isDigit x.2.1 z hZ N r19 s20) gcX12_93 hyX12_isDigit rfl ⟨by decide, by decide⟩ rfl (Nat.le_of_ble_eq_true rfl) (fun r21 s22 => ?_)
  refine V_if_eq (tgt := 261) X dX12_advance_209 (by decide) ?_ ?_
  · refine V_aload_n 0 X dX12_advance_261 rfl rfl ?_
    refine V_aload_n 0 X dX12_advance_262 rfl rfl ?_
    refine V_getI 3 X dX12_advance_263 co12 (kM hZ 0 _ rfl) (by decide) rfl wfX12_65 ?_
    refine V_aload_n 0 X dX12_advance_266 rfl rfl ?_
    refine V_getI 4 X dX12_advance_267 co12 (kM hZ 0 _ rfl) (by decide) rfl wfX12_72 ?_
    refine V_isub X dX12_advance_270 ?_
    refine V_iconst (v := 2) X dX12_advance_271 (by decide) ?_
    refine V_icmp_le (tgt := 279) X dX12_advance_272 (by decide) ?_ ?_
    · refine V_iconst (v := 1) X dX12_advance_279 (by decide) ?_
      refine V_sub [0] rfl ?_
      exact bX12_advance_280 X E hr hZ N 1 s22
    · refine V_iconst (v := 4) X dX12_advance_275 (by decide) ?_
      refine V_goto (tgt := 280) X dX12_advance_276 (by decide) ?_
      refine V_sub [0] rfl ?_
      exact bX12_advance_280 X E hr hZ N 4 s22
  · refine V_aload_n 0 X dX12_advance_212 rfl rfl ?_
    refine V_getI 3 X dX12_advance_213 co12 (kM hZ 0 _ rfl) (by decide) rfl wfX12_65 ?_
    refine V_aload_n 0 X dX12_advance_216 rfl rfl ?_
    refine V_getI 4 X dX12_advance_217 co12 (kM hZ 0 _ rfl) (by decide) rfl wfX12_72 ?_
    refine V_isub X dX12_advance_220 ?_
    refine V_iconst (v := 2) X dX12_advance_221 (by decide) ?_
    refine V_icmp_ge (tgt := 248) X dX12_advance_222 (by decide) ?_ ?_
    · refine V_sub [0] rfl ?_
      exact bX12_advance_248 X E hr hZ N rc198 hc198 s22
    · refine V_aload_n 0 X dX12_advance_225 rfl rfl ?_
      refine V_bipush (v := 10) X dX12_advance_226 (by decide) ?_
      refine V_aload_n 0 X dX12_advance_228 rfl rfl ?_
      refine V_getI 6 X dX12_advance_229 co12 (kM hZ 0 _ rfl) (by decide) rfl wfX12_96 ?_
      refine V_imul X dX12_advance_232 ?_
      refine V_aload_n 0 X dX12_advance_233 rfl rfl ?_
      refine V_aload_n 0 X dX12_advance_234 rfl rfl ?_
      refine V_getI 3 X dX12_advance_235 co12 (kM hZ 0 _ rfl) (by decide) rfl wfX12_65 ?_
      refine V_callI [.int (s22.1 0 3)] [.int (10 * (s22.1 0 6)), .ref (z.2.2.1 0)] X E dX12_advance_238 (kX12_byteAt x.2.1 z hZ N (s22.1 0 3) s22) co12 (kM hZ 0 _ rfl) gcX12_68 hyX12_byteAt rfl ⟨by decide, by decide⟩ rfl (Nat.le_of_ble_eq_true rfl) (fun r23 s24 => ?_)
      refine V_iadd X dX12_advance_241 ?_
      refine V_bipush (v := 48) X dX12_advance_242 (by decide) ?_
      refine V_isub X dX12_advance_244 ?_
      refine V_putIG 6 X dX12_advance_245 co12 (kM hZ 0 _ rfl) (by decide) rfl wfX12_96 rfl rfl rfl (fun s25 => ?_)
      refine V_sub [0] rfl ?_
      exact bX12_advance_248 X E hr hZ N rc198 hc198 s25
def fX12_advance_l198 (N : Nat) : Nat → Mem → Option (Unit × Mem)
  | 0 => fun  _ => none
  | n + 1 => fX12_advance_b198 N (fX12_advance_l198 N n)
theorem lX12_advance_198 {x : Cx} {z : Sx} (X : XG x z RX12 cX12_advance 4 3 71) (E : XE x z) (hr : XR x none) (hZ : z.2.2.2.1 = kdM) (N : Nat) (n : Nat) (σ : Mem) : VK x z 4 (BQ QV x z) 198 [(0, .ref (z.2.2.1 0))] [] σ (fX12_advance_l198 N n σ) := by
  induction n generalizing σ with
  | zero => exact V_none
  | succ n ih => exact bX12_advance_198 X E hr hZ N (fX12_advance_l198 N n) ih σ
def fX12_advance_b180 (N : Nat) (t0 : Int32) (σ : Mem) : Option (Unit × Mem) :=
  lt_ (pI σ 0 5 t0) (fun s39 => some ((), s39))
set_option maxRecDepth 100000 in
set_option maxHeartbeats 4000000 in
theorem bX12_advance_180 {x : Cx} {z : Sx} (X : XG x z RX12 cX12_advance 4 3 71) (E : XE x z) (hr : XR x none) (hZ : z.2.2.2.1 = kdM) (N : Nat) (t0 : Int32) (σ : Mem) : VK x z 4 (BQ QV x z) 180 [(0, .ref (z.2.2.1 0))] [.int t0, .ref (z.2.2.1 0)] σ (fX12_advance_b180 N t0 σ) := by
  unfold fX12_advance_b180
  refine V_putIG 5 X dX12_advance_180 co12 (kM hZ 0 _ rfl) (by decide) rfl wfX12_75 rfl rfl rfl (fun s39 => ?_)
  refine V_goto (tgt := 311) X dX12_advance_183 (by decide) ?_
  exact V_vret X E hr dX12_advance_311
def fX12_advance_b162 (N : Nat) (t0 : Int32) (σ : Mem) : Option (Unit × Mem) :=
  lt_ (pI σ 0 7 t0) (fun s37 => if (s37.1 0 7) = 99 then fX12_advance_b180 N 4 s37 else fX12_advance_b180 N 3 s37)
set_option maxRecDepth 100000 in
set_option maxHeartbeats 4000000 in
theorem bX12_advance_162 {x : Cx} {z : Sx} (X : XG x z RX12 cX12_advance 4 3 71) (E : XE x z) (hr : XR x none) (hZ : z.2.2.2.1 = kdM) (N : Nat) (t0 : Int32) (σ : Mem) : VK x z 4 (BQ QV x z) 162 [(0, .ref (z.2.2.1 0))] [.int t0, .ref (z.2.2.1 0)] σ (fX12_advance_b162 N t0 σ) := by
  unfold fX12_advance_b162
  refine V_putIG 7 X dX12_advance_162 co12 (kM hZ 0 _ rfl) (by decide) rfl wfX12_90 rfl rfl rfl (fun s37 => ?_)
  refine V_aload_n 0 X dX12_advance_165 rfl rfl ?_
  refine V_aload_n 0 X dX12_advance_166 rfl rfl ?_
  refine V_getI 7 X dX12_advance_167 co12 (kM hZ 0 _ rfl) (by decide) rfl wfX12_90 ?_
  refine V_bipush (v := 99) X dX12_advance_170 (by decide) ?_
  refine V_icmp_ne (tgt := 179) X dX12_advance_172 (by decide) ?_ ?_
  · refine V_iconst (v := 3) X dX12_advance_179 (by decide) ?_
    refine V_sub [0] rfl ?_
    exact bX12_advance_180 X E hr hZ N 3 s37
  · refine V_iconst (v := 4) X dX12_advance_175 (by decide) ?_
    refine V_goto (tgt := 180) X dX12_advance_176 (by decide) ?_
    refine V_sub [0] rfl ?_
    exact bX12_advance_180 X E hr hZ N 4 s37
def fX12_advance_b125 (N : Nat) (rc77 : Int64 → Mem → Option (Unit × Mem)) (v2 : Int64) (σ : Mem) : Option (Unit × Mem) :=
  lt_ (pI σ 0 3 ((σ.1 0 3) + 1)) (fun s38 => rc77 v2 s38)
set_option maxRecDepth 100000 in
set_option maxHeartbeats 4000000 in
theorem bX12_advance_125 {x : Cx} {z : Sx} (X : XG x z RX12 cX12_advance 4 3 71) (E : XE x z) (hr : XR x none) (hZ : z.2.2.2.1 = kdM) (N : Nat) (rc77 : Int64 → Mem → Option (Unit × Mem)) (hc77 : ∀ (v2 : Int64) (σ : Mem), VK x z 4 (BQ QV x z) 77 [(0, .ref (z.2.2.1 0)), (2, .long v2)] [] σ (rc77 v2 σ)) (v2 : Int64) (σ : Mem) : VK x z 4 (BQ QV x z) 125 [(0, .ref (z.2.2.1 0)), (2, .long v2)] [] σ (fX12_advance_b125 N rc77 v2 σ) := by
  unfold fX12_advance_b125
  refine V_aload_n 0 X dX12_advance_125 rfl rfl ?_
  refine V_dup X dX12_advance_126 rfl ?_
  refine V_getI 3 X dX12_advance_127 co12 (kM hZ 0 _ rfl) (by decide) rfl wfX12_65 ?_
  refine V_iconst (v := 1) X dX12_advance_130 (by decide) ?_
  refine V_iadd X dX12_advance_131 ?_
  refine V_putIG 3 X dX12_advance_132 co12 (kM hZ 0 _ rfl) (by decide) rfl wfX12_65 rfl rfl rfl (fun s38 => ?_)
  refine V_goto (tgt := 77) X dX12_advance_135 (by decide) ?_
  refine V_sub [0, 1] rfl ?_
  exact hc77 v2 s38
def fX12_advance_b77 (N : Nat) (rc77 : Int64 → Mem → Option (Unit × Mem)) (v2 : Int64) (σ : Mem) : Option (Unit × Mem) :=
  bd (fX12_byteAt N (σ.1 0 3) σ) (fun r26 s27 => bd (fX12_isLetter N r26 s27) (fun r28 s29 => if r28 = 0 then if ((s29.1 0 3) - (s29.1 0 4)) ≤ 8 then bd (fX12_wordOf N v2 s29) (fun r30 s31 => fX12_advance_b162 N r30 s31) else fX12_advance_b162 N 99 s29 else if 8 ≤ ((s29.1 0 3) - (s29.1 0 4)) then fX12_advance_b125 N rc77 v2 s29 else bd (fX12_byteAt N (s29.1 0 3) s29) (fun r32 s33 => lt_ (((32 * v2) + ((r32 : Int32).toInt64)) - 96) (fun v2_34 => fX12_advance_b125 N rc77 v2_34 s33))))
set_option maxRecDepth 100000 in
set_option maxHeartbeats 4000000 in
theorem bX12_advance_77 {x : Cx} {z : Sx} (X : XG x z RX12 cX12_advance 4 3 71) (E : XE x z) (hr : XR x none) (hZ : z.2.2.2.1 = kdM) (N : Nat) (rc77 : Int64 → Mem → Option (Unit × Mem)) (hc77 : ∀ (v2 : Int64) (σ : Mem), VK x z 4 (BQ QV x z) 77 [(0, .ref (z.2.2.1 0)), (2, .long v2)] [] σ (rc77 v2 σ)) (v2 : Int64) (σ : Mem) : VK x z 4 (BQ QV x z) 77 [(0, .ref (z.2.2.1 0)), (2, .long v2)] [] σ (fX12_advance_b77 N rc77 v2 σ) := by
  unfold fX12_advance_b77
  refine V_aload_n 0 X dX12_advance_77 rfl rfl ?_
  refine V_aload_n 0 X dX12_advance_78 rfl rfl ?_
  refine V_getI 3 X dX12_advance_79 co12 (kM hZ 0 _ rfl) (by decide) rfl wfX12_65 ?_
  refine V_callI [.int (σ.1 0 3)] [] X E dX12_advance_82 (kX12_byteAt x.2.1 z hZ N (σ.1 0 3) σ) co12 (kM hZ 0 _ rfl) gcX12_68 hyX12_byteAt rfl ⟨by decide, by decide⟩ rfl (Nat.le_of_ble_eq_true rfl) (fun r26 s27 => ?_)
  refine V_calSI [.int r26] [] X E dX12_advance_85 (kX12_isLetter x.2.1 z hZ N r26 s27) gcX12_78 hyX12_isLetter rfl ⟨by decide, by decide⟩ rfl (Nat.le_of_ble_eq_true rfl) (fun r28 s29 => ?_)
  refine V_if_eq (tgt := 138) X dX12_advance_88 (by decide) ?_ ?_
  · refine V_aload_n 0 X dX12_advance_138 rfl rfl ?_
    refine V_aload_n 0 X dX12_advance_139 rfl rfl ?_
    refine V_getI 3 X dX12_advance_140 co12 (kM hZ 0 _ rfl) (by decide) rfl wfX12_65 ?_
    refine V_aload_n 0 X dX12_advance_143 rfl rfl ?_
    refine V_getI 4 X dX12_advance_144 co12 (kM hZ 0 _ rfl) (by decide) rfl wfX12_72 ?_
    refine V_isub X dX12_advance_147 ?_
    refine V_bipush (v := 8) X dX12_advance_148 (by decide) ?_
    refine V_icmp_le (tgt := 158) X dX12_advance_150 (by decide) ?_ ?_
    · refine V_lload_n 1 X dX12_advance_158 rfl rfl ?_
      refine V_calSI [.long v2] [.ref (z.2.2.1 0)] X E dX12_advance_159 (kX12_wordOf x.2.1 z hZ N v2 s29) gcX12_86 hyX12_wordOf rfl ⟨by decide, by decide⟩ rfl (Nat.le_of_ble_eq_true rfl) (fun r30 s31 => ?_)
      refine V_sub [0] rfl ?_
      exact bX12_advance_162 X E hr hZ N r30 s31
    · refine V_bipush (v := 99) X dX12_advance_153 (by decide) ?_
      refine V_goto (tgt := 162) X dX12_advance_155 (by decide) ?_
      refine V_sub [0] rfl ?_
      exact bX12_advance_162 X E hr hZ N 99 s29
  · refine V_aload_n 0 X dX12_advance_91 rfl rfl ?_
    refine V_getI 3 X dX12_advance_92 co12 (kM hZ 0 _ rfl) (by decide) rfl wfX12_65 ?_
    refine V_aload_n 0 X dX12_advance_95 rfl rfl ?_
    refine V_getI 4 X dX12_advance_96 co12 (kM hZ 0 _ rfl) (by decide) rfl wfX12_72 ?_
    refine V_isub X dX12_advance_99 ?_
    refine V_bipush (v := 8) X dX12_advance_100 (by decide) ?_
    refine V_icmp_ge (tgt := 125) X dX12_advance_102 (by decide) ?_ ?_
    · refine V_sub [0, 1] rfl ?_
      exact bX12_advance_125 X E hr hZ N rc77 hc77 v2 s29
    · refine V_ldc2 (v := 32) X dX12_advance_105 csX12_82 ?_
      refine V_lload_n 1 X dX12_advance_108 rfl rfl ?_
      refine V_lmul X dX12_advance_109 ?_
      refine V_aload_n 0 X dX12_advance_110 rfl rfl ?_
      refine V_aload_n 0 X dX12_advance_111 rfl rfl ?_
      refine V_getI 3 X dX12_advance_112 co12 (kM hZ 0 _ rfl) (by decide) rfl wfX12_65 ?_
      refine V_callI [.int (s29.1 0 3)] [.long (32 * v2)] X E dX12_advance_115 (kX12_byteAt x.2.1 z hZ N (s29.1 0 3) s29) co12 (kM hZ 0 _ rfl) gcX12_68 hyX12_byteAt rfl ⟨by decide, by decide⟩ rfl (Nat.le_of_ble_eq_true rfl) (fun r32 s33 => ?_)
      refine V_i2l X dX12_advance_118 ?_
      refine V_ladd X dX12_advance_119 ?_
      refine V_ldc2 (v := 96) X dX12_advance_120 csX12_84 ?_
      refine V_lsub X dX12_advance_123 ?_
      refine V_lstore_nG (L' := fun v2_34 => [(2, .long v2_34), (0, .ref (z.2.2.1 0))]) X dX12_advance_124 rfl (by decide) (fun _ => rfl) (fun v2_34 => ?_)
      refine V_sub [1, 0] rfl ?_
      exact bX12_advance_125 X E hr hZ N rc77 hc77 v2_34 s33
def fX12_advance_l77 (N : Nat) : Nat → Int64 → Mem → Option (Unit × Mem)
  | 0 => fun _ _ => none
  | n + 1 => fX12_advance_b77 N (fX12_advance_l77 N n)
theorem lX12_advance_77 {x : Cx} {z : Sx} (X : XG x z RX12 cX12_advance 4 3 71) (E : XE x z) (hr : XR x none) (hZ : z.2.2.2.1 = kdM) (N : Nat) (n : Nat) (v2 : Int64) (σ : Mem) : VK x z 4 (BQ QV x z) 77 [(0, .ref (z.2.2.1 0)), (2, .long v2)] [] σ (fX12_advance_l77 N n v2 σ) := by
  induction n generalizing v2 σ with
  | zero => exact V_none
  | succ n ih => exact bX12_advance_77 X E hr hZ N (fX12_advance_l77 N n) ih v2 σ
def fX12_advance_b26 (N : Nat) (rc0 : Mem → Option (Unit × Mem)) (σ : Mem) : Option (Unit × Mem) :=
  lt_ (pI σ 0 3 ((σ.1 0 3) + 1)) (fun s17 => rc0 s17)
set_option maxRecDepth 100000 in
set_option maxHeartbeats 4000000 in
theorem bX12_advance_26 {x : Cx} {z : Sx} (X : XG x z RX12 cX12_advance 4 3 71) (E : XE x z) (hr : XR x none) (hZ : z.2.2.2.1 = kdM) (N : Nat) (rc0 : Mem → Option (Unit × Mem)) (hc0 : ∀ (σ : Mem), VK x z 4 (BQ QV x z) 0 [(0, .ref (z.2.2.1 0))] [] σ (rc0 σ)) (σ : Mem) : VK x z 4 (BQ QV x z) 26 [(0, .ref (z.2.2.1 0))] [] σ (fX12_advance_b26 N rc0 σ) := by
  unfold fX12_advance_b26
  refine V_aload_n 0 X dX12_advance_26 rfl rfl ?_
  refine V_dup X dX12_advance_27 rfl ?_
  refine V_getI 3 X dX12_advance_28 co12 (kM hZ 0 _ rfl) (by decide) rfl wfX12_65 ?_
  refine V_iconst (v := 1) X dX12_advance_31 (by decide) ?_
  refine V_iadd X dX12_advance_32 ?_
  refine V_putIG 3 X dX12_advance_33 co12 (kM hZ 0 _ rfl) (by decide) rfl wfX12_65 rfl rfl rfl (fun s17 => ?_)
  refine V_goto (tgt := 0) X dX12_advance_36 (by decide) ?_
  refine V_sub [0] rfl ?_
  exact hc0 s17
def fX12_advance_b0 (N : Nat) (rc0 : Mem → Option (Unit × Mem)) (σ : Mem) : Option (Unit × Mem) :=
  bd (fX12_byteAt N (σ.1 0 3) σ) (fun r1 s2 => if r1 = 10 then fX12_advance_b26 N rc0 s2 else bd (fX12_byteAt N (s2.1 0 3) s2) (fun r3 s4 => if r3 = 32 then fX12_advance_b26 N rc0 s4 else lt_ (pI s4 0 4 (s4.1 0 3)) (fun s5 => bd (fX12_byteAt N (s5.1 0 3) s5) (fun r6 s7 => lt_ r6 (fun v1_8 => if 0 ≤ v1_8 then bd (fX12_isLetter N v1_8 s7) (fun r9 s10 => if r9 = 0 then bd (fX12_isDigit N v1_8 s10) (fun r11 s12 => if r11 = 0 then lt_ (pI s12 0 3 ((s12.1 0 3) + 1)) (fun s13 => if v1_8 = 59 then fX12_advance_b308 N 2 s13 else fX12_advance_b308 N 4 s13) else lt_ (pI s12 0 6 0) (fun s14 => fX12_advance_l198 N N s14)) else lt_ 0 (fun v2_15 => fX12_advance_l77 N N v2_15 s10)) else lt_ (pI s7 0 5 0) (fun s16 => some ((), s16)))))))
set_option maxRecDepth 100000 in
set_option maxHeartbeats 4000000 in
theorem bX12_advance_0 {x : Cx} {z : Sx} (X : XG x z RX12 cX12_advance 4 3 71) (E : XE x z) (hr : XR x none) (hZ : z.2.2.2.1 = kdM) (N : Nat) (rc0 : Mem → Option (Unit × Mem)) (hc0 : ∀ (σ : Mem), VK x z 4 (BQ QV x z) 0 [(0, .ref (z.2.2.1 0))] [] σ (rc0 σ)) (σ : Mem) : VK x z 4 (BQ QV x z) 0 [(0, .ref (z.2.2.1 0))] [] σ (fX12_advance_b0 N rc0 σ) := by
  unfold fX12_advance_b0
  refine V_aload_n 0 X dX12_advance_0 rfl rfl ?_
  refine V_aload_n 0 X dX12_advance_1 rfl rfl ?_
  refine V_getI 3 X dX12_advance_2 co12 (kM hZ 0 _ rfl) (by decide) rfl wfX12_65 ?_
  refine V_callI [.int (σ.1 0 3)] [] X E dX12_advance_5 (kX12_byteAt x.2.1 z hZ N (σ.1 0 3) σ) co12 (kM hZ 0 _ rfl) gcX12_68 hyX12_byteAt rfl ⟨by decide, by decide⟩ rfl (Nat.le_of_ble_eq_true rfl) (fun r1 s2 => ?_)
  refine V_bipush (v := 10) X dX12_advance_8 (by decide) ?_
  refine V_icmp_eq (tgt := 26) X dX12_advance_10 (by decide) ?_ ?_
  · refine V_sub [0] rfl ?_
    exact bX12_advance_26 X E hr hZ N rc0 hc0 s2
  · refine V_aload_n 0 X dX12_advance_13 rfl rfl ?_
    refine V_aload_n 0 X dX12_advance_14 rfl rfl ?_
    refine V_getI 3 X dX12_advance_15 co12 (kM hZ 0 _ rfl) (by decide) rfl wfX12_65 ?_
    refine V_callI [.int (s2.1 0 3)] [] X E dX12_advance_18 (kX12_byteAt x.2.1 z hZ N (s2.1 0 3) s2) co12 (kM hZ 0 _ rfl) gcX12_68 hyX12_byteAt rfl ⟨by decide, by decide⟩ rfl (Nat.le_of_ble_eq_true rfl) (fun r3 s4 => ?_)
    refine V_bipush (v := 32) X dX12_advance_21 (by decide) ?_
    refine V_icmp_ne (tgt := 39) X dX12_advance_23 (by decide) ?_ ?_
    · refine V_aload_n 0 X dX12_advance_39 rfl rfl ?_
      refine V_aload_n 0 X dX12_advance_40 rfl rfl ?_
      refine V_getI 3 X dX12_advance_41 co12 (kM hZ 0 _ rfl) (by decide) rfl wfX12_65 ?_
      refine V_putIG 4 X dX12_advance_44 co12 (kM hZ 0 _ rfl) (by decide) rfl wfX12_72 rfl rfl rfl (fun s5 => ?_)
      refine V_aload_n 0 X dX12_advance_47 rfl rfl ?_
      refine V_aload_n 0 X dX12_advance_48 rfl rfl ?_
      refine V_getI 3 X dX12_advance_49 co12 (kM hZ 0 _ rfl) (by decide) rfl wfX12_65 ?_
      refine V_callI [.int (s5.1 0 3)] [] X E dX12_advance_52 (kX12_byteAt x.2.1 z hZ N (s5.1 0 3) s5) co12 (kM hZ 0 _ rfl) gcX12_68 hyX12_byteAt rfl ⟨by decide, by decide⟩ rfl (Nat.le_of_ble_eq_true rfl) (fun r6 s7 => ?_)
      refine V_istore_nG (L' := fun v1_8 => [(1, .int v1_8), (0, .ref (z.2.2.1 0))]) X dX12_advance_55 rfl (by decide) (fun _ => rfl) (fun v1_8 => ?_)
      refine V_iload_n 0 X dX12_advance_56 rfl rfl ?_
      refine V_if_ge (tgt := 68) X dX12_advance_57 (by decide) ?_ ?_
      · refine V_iload_n 0 X dX12_advance_68 rfl rfl ?_
        refine V_calSI [.int v1_8] [] X E dX12_advance_69 (kX12_isLetter x.2.1 z hZ N v1_8 s7) gcX12_78 hyX12_isLetter rfl ⟨by decide, by decide⟩ rfl (Nat.le_of_ble_eq_true rfl) (fun r9 s10 => ?_)
        refine V_if_eq (tgt := 186) X dX12_advance_72 (by decide) ?_ ?_
        · refine V_iload_n 0 X dX12_advance_186 rfl rfl ?_
          refine V_calSI [.int v1_8] [] X E dX12_advance_187 (kX12_isDigit x.2.1 z hZ N v1_8 s10) gcX12_93 hyX12_isDigit rfl ⟨by decide, by decide⟩ rfl (Nat.le_of_ble_eq_true rfl) (fun r11 s12 => ?_)
          refine V_if_eq (tgt := 286) X dX12_advance_190 (by decide) ?_ ?_
          · refine V_aload_n 1 X dX12_advance_286 rfl rfl ?_
            refine V_dup X dX12_advance_287 rfl ?_
            refine V_getI 3 X dX12_advance_288 co12 (kM hZ 0 _ rfl) (by decide) rfl wfX12_65 ?_
            refine V_iconst (v := 1) X dX12_advance_291 (by decide) ?_
            refine V_iadd X dX12_advance_292 ?_
            refine V_putIG 3 X dX12_advance_293 co12 (kM hZ 0 _ rfl) (by decide) rfl wfX12_65 rfl rfl rfl (fun s13 => ?_)
            refine V_aload_n 1 X dX12_advance_296 rfl rfl ?_
            refine V_iload_n 0 X dX12_advance_297 rfl rfl ?_
            refine V_bipush (v := 59) X dX12_advance_298 (by decide) ?_
            refine V_icmp_ne (tgt := 307) X dX12_advance_300 (by decide) ?_ ?_
            · refine V_iconst (v := 4) X dX12_advance_307 (by decide) ?_
              refine V_sub [1] rfl ?_
              exact bX12_advance_308 X E hr hZ N 4 s13
            · refine V_iconst (v := 2) X dX12_advance_303 (by decide) ?_
              refine V_goto (tgt := 308) X dX12_advance_304 (by decide) ?_
              refine V_sub [1] rfl ?_
              exact bX12_advance_308 X E hr hZ N 2 s13
          · refine V_aload_n 1 X dX12_advance_193 rfl rfl ?_
            refine V_iconst (v := 0) X dX12_advance_194 (by decide) ?_
            refine V_putIG 6 X dX12_advance_195 co12 (kM hZ 0 _ rfl) (by decide) rfl wfX12_96 rfl rfl rfl (fun s14 => ?_)
            refine V_sub [1] rfl ?_
            exact lX12_advance_198 X E hr hZ N N s14
        · refine V_lconst (v := 0) X dX12_advance_75 (by decide) ?_
          refine V_lstore_nG (L' := fun v2_15 => [(2, .long v2_15), (1, .int v1_8), (0, .ref (z.2.2.1 0))]) X dX12_advance_76 rfl (by decide) (fun _ => rfl) (fun v2_15 => ?_)
          refine V_sub [2, 0] rfl ?_
          exact lX12_advance_77 X E hr hZ N N v2_15 s10
      · refine V_aload_n 1 X dX12_advance_60 rfl rfl ?_
        refine V_iconst (v := 0) X dX12_advance_61 (by decide) ?_
        refine V_putIG 5 X dX12_advance_62 co12 (kM hZ 0 _ rfl) (by decide) rfl wfX12_75 rfl rfl rfl (fun s16 => ?_)
        refine V_goto (tgt := 311) X dX12_advance_65 (by decide) ?_
        exact V_vret X E hr dX12_advance_311
    · refine V_sub [0] rfl ?_
      exact bX12_advance_26 X E hr hZ N rc0 hc0 s4
def fX12_advance_l0 (N : Nat) : Nat → Mem → Option (Unit × Mem)
  | 0 => fun  _ => none
  | n + 1 => fX12_advance_b0 N (fX12_advance_l0 N n)
theorem lX12_advance_0 {x : Cx} {z : Sx} (X : XG x z RX12 cX12_advance 4 3 71) (E : XE x z) (hr : XR x none) (hZ : z.2.2.2.1 = kdM) (N : Nat) (n : Nat) (σ : Mem) : VK x z 4 (BQ QV x z) 0 [(0, .ref (z.2.2.1 0))] [] σ (fX12_advance_l0 N n σ) := by
  induction n generalizing σ with
  | zero => exact V_none
  | succ n ih => exact bX12_advance_0 X E hr hZ N (fX12_advance_l0 N n) ih σ
def fX12_advance (N : Nat) (σ : Mem) : Option (Unit × Mem) := fX12_advance_l0 N N σ
theorem kX12_advance (l : Launch) (z : Sx) (hZ : z.2.2.2.1 = kdM) (N : Nat) (σ : Mem) : Ct QV yX12_advance cX12_advance 4 none 3 71 l z [.ref (z.2.2.1 0)] σ (fX12_advance N σ) := by
  refine Ct_of (by decide +kernel) (Nat.le_of_ble_eq_true rfl) rfl ?_
  intro x _ X E hr
  exact lX12_advance_0 X E hr hZ N N σ
def fX12_ends (N : Nat) (σ : Mem) : Option (Unit × Mem) :=
  if (σ.1 0 8) = 0 then lt_ (pI σ 0 8 1) (fun s1 => gd (inb 5 4176) (lt_ (pI s1 1 (5 : Int32).toNatClampNeg 1) (fun s2 => gd (inb 6 4176) (lt_ (pI s2 1 (6 : Int32).toNatClampNeg (s2.1 0 4)) (fun s3 => some ((), s3)))))) else some ((), σ)
set_option maxRecDepth 100000 in
set_option maxHeartbeats 4000000 in
theorem bX12_ends_0 {x : Cx} {z : Sx} (X : XG x z RX12 cX12_ends 1 0 0) (E : XE x z) (hr : XR x none) (hZ : z.2.2.2.1 = kdM) (N : Nat) (σ : Mem) : VK x z 1 (BQ QV x z) 0 [(0, .ref (z.2.2.1 0))] [] σ (fX12_ends N σ) := by
  unfold fX12_ends
  refine V_aload_n 0 X dX12_ends_0 rfl rfl ?_
  refine V_getI 8 X dX12_ends_1 co12 (kM hZ 0 _ rfl) (by decide) rfl wfX12_99 ?_
  refine V_if_eq (tgt := 8) X dX12_ends_4 (by decide) ?_ ?_
  · refine V_aload_n 0 X dX12_ends_8 rfl rfl ?_
    refine V_iconst (v := 1) X dX12_ends_9 (by decide) ?_
    refine V_putIG 8 X dX12_ends_10 co12 (kM hZ 0 _ rfl) (by decide) rfl wfX12_99 rfl (by decide) rfl (fun s1 => ?_)
    refine V_aload_n 0 X dX12_ends_13 rfl rfl ?_
    refine V_getR (k1 := 1) 0 X dX12_ends_14 co12 (kM hZ 0 _ rfl) (by decide) rfl rfl wfX12_7 ?_
    refine V_iconst (v := 5) X dX12_ends_17 (by decide) ?_
    refine V_iconst (v := 1) X dX12_ends_18 (by decide) ?_
    refine V_iastG X dX12_ends_19 (kM hZ 1 _ rfl) (fun s2 => ?_)
    refine V_aload_n 0 X dX12_ends_20 rfl rfl ?_
    refine V_getR (k1 := 1) 0 X dX12_ends_21 co12 (kM hZ 0 _ rfl) (by decide) rfl rfl wfX12_7 ?_
    refine V_bipush (v := 6) X dX12_ends_24 (by decide) ?_
    refine V_aload_n 0 X dX12_ends_26 rfl rfl ?_
    refine V_getI 4 X dX12_ends_27 co12 (kM hZ 0 _ rfl) (by decide) rfl wfX12_72 ?_
    refine V_iastG X dX12_ends_30 (kM hZ 1 _ rfl) (fun s3 => ?_)
    exact V_vret X E hr dX12_ends_31
  · exact V_vret X E hr dX12_ends_7
theorem kX12_ends (l : Launch) (z : Sx) (hZ : z.2.2.2.1 = kdM) (N : Nat) (σ : Mem) : Ct QV yX12_ends cX12_ends 1 none 0 0 l z [.ref (z.2.2.1 0)] σ (fX12_ends N σ) := by
  refine Ct_of (by decide +kernel) (Nat.le_of_ble_eq_true rfl) rfl ?_
  intro x _ X E hr
  exact bX12_ends_0 X E hr hZ N σ
def fX12_wordIn_b27 (N : Nat) (σ : Mem) : Option (Int32 × Mem) :=
  bd (fX12_ends N σ) (fun r6 s7 => some (0, s7))
set_option maxRecDepth 100000 in
set_option maxHeartbeats 4000000 in
theorem bX12_wordIn_27 {x : Cx} {z : Sx} (X : XG x z RX12 cX12_wordIn 4 4 94) (E : XE x z) (hr : XR x (some .int)) (hZ : z.2.2.2.1 = kdM) (N : Nat) (σ : Mem) : VK x z 4 (BQ QI x z) 27 [(0, .ref (z.2.2.1 0))] [] σ (fX12_wordIn_b27 N σ) := by
  unfold fX12_wordIn_b27
  refine V_aload_n 0 X dX12_wordIn_27 rfl rfl ?_
  refine V_callV [] [] X E dX12_wordIn_28 (kX12_ends x.2.1 z hZ N σ) co12 (kM hZ 0 _ rfl) gcX12_103 hyX12_ends rfl ⟨by decide, by decide⟩ rfl (Nat.le_of_ble_eq_true rfl) (fun r6 s7 => ?_)
  refine V_iconst (v := 0) X dX12_wordIn_31 (by decide) ?_
  exact V_iret X E hr dX12_wordIn_32
def fX12_wordIn (N : Nat) (v1 : Int32) (v2 : Int32) (σ : Mem) : Option (Int32 × Mem) :=
  if (σ.1 0 8) = 0 then if (σ.1 0 5) = 3 then bd (fX12_isIn N (σ.1 0 7) v1 v2 σ) (fun r1 s2 => if r1 = 0 then fX12_wordIn_b27 N s2 else lt_ (s2.1 0 7) (fun v3_3 => bd (fX12_advance N s2) (fun r4 s5 => some (v3_3, s5)))) else fX12_wordIn_b27 N σ else fX12_wordIn_b27 N σ
set_option maxRecDepth 100000 in
set_option maxHeartbeats 4000000 in
theorem bX12_wordIn_0 {x : Cx} {z : Sx} (X : XG x z RX12 cX12_wordIn 4 4 94) (E : XE x z) (hr : XR x (some .int)) (hZ : z.2.2.2.1 = kdM) (N : Nat) (v1 : Int32) (v2 : Int32) (σ : Mem) : VK x z 4 (BQ QI x z) 0 [(0, .ref (z.2.2.1 0)), (1, .int v1), (2, .int v2)] [] σ (fX12_wordIn N v1 v2 σ) := by
  unfold fX12_wordIn
  refine V_aload_n 0 X dX12_wordIn_0 rfl rfl ?_
  refine V_getI 8 X dX12_wordIn_1 co12 (kM hZ 0 _ rfl) (by decide) rfl wfX12_99 ?_
  refine V_if_ne (tgt := 27) X dX12_wordIn_4 (by decide) ?_ ?_
  · refine V_sub [0] rfl ?_
    exact bX12_wordIn_27 X E hr hZ N σ
  · refine V_aload_n 0 X dX12_wordIn_7 rfl rfl ?_
    refine V_getI 5 X dX12_wordIn_8 co12 (kM hZ 0 _ rfl) (by decide) rfl wfX12_75 ?_
    refine V_iconst (v := 3) X dX12_wordIn_11 (by decide) ?_
    refine V_icmp_ne (tgt := 27) X dX12_wordIn_12 (by decide) ?_ ?_
    · refine V_sub [0] rfl ?_
      exact bX12_wordIn_27 X E hr hZ N σ
    · refine V_aload_n 0 X dX12_wordIn_15 rfl rfl ?_
      refine V_getI 7 X dX12_wordIn_16 co12 (kM hZ 0 _ rfl) (by decide) rfl wfX12_90 ?_
      refine V_iload_n 1 X dX12_wordIn_19 rfl rfl ?_
      refine V_iload_n 2 X dX12_wordIn_20 rfl rfl ?_
      refine V_calSI [.int (σ.1 0 7), .int v1, .int v2] [] X E dX12_wordIn_21 (kX12_isIn x.2.1 z hZ N (σ.1 0 7) v1 v2 σ) gcX12_106 hyX12_isIn rfl ⟨by decide, by decide⟩ rfl (Nat.le_of_ble_eq_true rfl) (fun r1 s2 => ?_)
      refine V_if_ne (tgt := 33) X dX12_wordIn_24 (by decide) ?_ ?_
      · refine V_aload_n 0 X dX12_wordIn_33 rfl rfl ?_
        refine V_getI 7 X dX12_wordIn_34 co12 (kM hZ 0 _ rfl) (by decide) rfl wfX12_90 ?_
        refine V_istore_nG (L' := fun v3_3 => [(3, .int v3_3), (0, .ref (z.2.2.1 0)), (1, .int v1), (2, .int v2)]) X dX12_wordIn_37 rfl (by decide) (fun _ => rfl) (fun v3_3 => ?_)
        refine V_aload_n 1 X dX12_wordIn_38 rfl rfl ?_
        refine V_callV [] [] X E dX12_wordIn_39 (kX12_advance x.2.1 z hZ N s2) co12 (kM hZ 0 _ rfl) gcX12_114 hyX12_advance rfl ⟨by decide, by decide⟩ rfl (Nat.le_of_ble_eq_true rfl) (fun r4 s5 => ?_)
        refine V_iload_n 0 X dX12_wordIn_42 rfl rfl ?_
        exact V_iret X E hr dX12_wordIn_43
      · refine V_sub [0] rfl ?_
        exact bX12_wordIn_27 X E hr hZ N s2
theorem kX12_wordIn (l : Launch) (z : Sx) (hZ : z.2.2.2.1 = kdM) (N : Nat) (v1 : Int32) (v2 : Int32) (σ : Mem) : Ct QI yX12_wordIn cX12_wordIn 4 (some .int) 4 94 l z [.ref (z.2.2.1 0), .int v1, .int v2] σ (fX12_wordIn N v1 v2 σ) := by
  refine Ct_of (by decide +kernel) (Nat.le_of_ble_eq_true rfl) rfl ?_
  intro x _ X E hr
  exact bX12_wordIn_0 X E hr hZ N v1 v2 σ
def fX12_also_b49 (N : Nat) (v1 : Int32) (v2 : Int32) (σ : Mem) : Option (Unit × Mem) :=
  gd (inb 5 4176) (lt_ (pI σ 1 (5 : Int32).toNatClampNeg v1) (fun s1 => gd (inb 6 4176) (lt_ (pI s1 1 (6 : Int32).toNatClampNeg v2) (fun s2 => some ((), s2)))))
set_option maxRecDepth 100000 in
set_option maxHeartbeats 4000000 in
theorem bX12_also_49 {x : Cx} {z : Sx} (X : XG x z RX12 cX12_also 3 0 0) (E : XE x z) (hr : XR x none) (hZ : z.2.2.2.1 = kdM) (N : Nat) (v1 : Int32) (v2 : Int32) (σ : Mem) : VK x z 3 (BQ QV x z) 49 [(0, .ref (z.2.2.1 0)), (1, .int v1), (2, .int v2)] [] σ (fX12_also_b49 N v1 v2 σ) := by
  unfold fX12_also_b49
  refine V_aload_n 0 X dX12_also_49 rfl rfl ?_
  refine V_getR (k1 := 1) 0 X dX12_also_50 co12 (kM hZ 0 _ rfl) (by decide) rfl rfl wfX12_7 ?_
  refine V_iconst (v := 5) X dX12_also_53 (by decide) ?_
  refine V_iload_n 1 X dX12_also_54 rfl rfl ?_
  refine V_iastG X dX12_also_55 (kM hZ 1 _ rfl) (fun s1 => ?_)
  refine V_aload_n 0 X dX12_also_56 rfl rfl ?_
  refine V_getR (k1 := 1) 0 X dX12_also_57 co12 (kM hZ 0 _ rfl) (by decide) rfl rfl wfX12_7 ?_
  refine V_bipush (v := 6) X dX12_also_60 (by decide) ?_
  refine V_iload_n 2 X dX12_also_62 rfl rfl ?_
  refine V_iastG X dX12_also_63 (kM hZ 1 _ rfl) (fun s2 => ?_)
  exact V_vret X E hr dX12_also_64
def fX12_also (N : Nat) (v1 : Int32) (v2 : Int32) (σ : Mem) : Option (Unit × Mem) :=
  if (σ.1 0 8) = 0 then gd (inb 5 4176) (if (σ.1 1 (5 : Int32).toNatClampNeg) = 0 then fX12_also_b49 N v1 v2 σ else gd (inb 6 4176) (if (σ.1 1 (6 : Int32).toNatClampNeg) < v2 then some ((), σ) else gd (inb 6 4176) (if (σ.1 1 (6 : Int32).toNatClampNeg) = v2 then gd (inb 5 4176) (if v1 < (σ.1 1 (5 : Int32).toNatClampNeg) then fX12_also_b49 N v1 v2 σ else some ((), σ)) else fX12_also_b49 N v1 v2 σ))) else some ((), σ)
set_option maxRecDepth 100000 in
set_option maxHeartbeats 4000000 in
theorem bX12_also_0 {x : Cx} {z : Sx} (X : XG x z RX12 cX12_also 3 0 0) (E : XE x z) (hr : XR x none) (hZ : z.2.2.2.1 = kdM) (N : Nat) (v1 : Int32) (v2 : Int32) (σ : Mem) : VK x z 3 (BQ QV x z) 0 [(0, .ref (z.2.2.1 0)), (1, .int v1), (2, .int v2)] [] σ (fX12_also N v1 v2 σ) := by
  unfold fX12_also
  refine V_aload_n 0 X dX12_also_0 rfl rfl ?_
  refine V_getI 8 X dX12_also_1 co12 (kM hZ 0 _ rfl) (by decide) rfl wfX12_99 ?_
  refine V_if_ne (tgt := 48) X dX12_also_4 (by decide) ?_ ?_
  · exact V_vret X E hr dX12_also_48
  · refine V_aload_n 0 X dX12_also_7 rfl rfl ?_
    refine V_getR (k1 := 1) 0 X dX12_also_8 co12 (kM hZ 0 _ rfl) (by decide) rfl rfl wfX12_7 ?_
    refine V_iconst (v := 5) X dX12_also_11 (by decide) ?_
    refine V_iald X dX12_also_12 (kM hZ 1 _ rfl) ?_
    refine V_if_eq (tgt := 49) X dX12_also_13 (by decide) ?_ ?_
    · refine V_sub [0, 1, 2] rfl ?_
      exact bX12_also_49 X E hr hZ N v1 v2 σ
    · refine V_aload_n 0 X dX12_also_16 rfl rfl ?_
      refine V_getR (k1 := 1) 0 X dX12_also_17 co12 (kM hZ 0 _ rfl) (by decide) rfl rfl wfX12_7 ?_
      refine V_bipush (v := 6) X dX12_also_20 (by decide) ?_
      refine V_iald X dX12_also_22 (kM hZ 1 _ rfl) ?_
      refine V_iload_n 2 X dX12_also_23 rfl rfl ?_
      refine V_icmp_lt (tgt := 48) X dX12_also_24 (by decide) ?_ ?_
      · exact V_vret X E hr dX12_also_48
      · refine V_aload_n 0 X dX12_also_27 rfl rfl ?_
        refine V_getR (k1 := 1) 0 X dX12_also_28 co12 (kM hZ 0 _ rfl) (by decide) rfl rfl wfX12_7 ?_
        refine V_bipush (v := 6) X dX12_also_31 (by decide) ?_
        refine V_iald X dX12_also_33 (kM hZ 1 _ rfl) ?_
        refine V_iload_n 2 X dX12_also_34 rfl rfl ?_
        refine V_icmp_ne (tgt := 49) X dX12_also_35 (by decide) ?_ ?_
        · refine V_sub [0, 1, 2] rfl ?_
          exact bX12_also_49 X E hr hZ N v1 v2 σ
        · refine V_aload_n 0 X dX12_also_38 rfl rfl ?_
          refine V_getR (k1 := 1) 0 X dX12_also_39 co12 (kM hZ 0 _ rfl) (by decide) rfl rfl wfX12_7 ?_
          refine V_iconst (v := 5) X dX12_also_42 (by decide) ?_
          refine V_iald X dX12_also_43 (kM hZ 1 _ rfl) ?_
          refine V_iload_n 1 X dX12_also_44 rfl rfl ?_
          refine V_icmp_gt (tgt := 49) X dX12_also_45 (by decide) ?_ ?_
          · refine V_sub [0, 1, 2] rfl ?_
            exact bX12_also_49 X E hr hZ N v1 v2 σ
          · exact V_vret X E hr dX12_also_48
theorem kX12_also (l : Launch) (z : Sx) (hZ : z.2.2.2.1 = kdM) (N : Nat) (v1 : Int32) (v2 : Int32) (σ : Mem) : Ct QV yX12_also cX12_also 3 none 0 0 l z [.ref (z.2.2.1 0), .int v1, .int v2] σ (fX12_also N v1 v2 σ) := by
  refine Ct_of (by decide +kernel) (Nat.le_of_ble_eq_true rfl) rfl ?_
  intro x _ X E hr
  exact bX12_also_0 X E hr hZ N v1 v2 σ
def fX12_numbered_b44 (N : Nat) (v1 : Int32) (v2 : Int32) (v3 : Int32) (σ : Mem) : Option (Int32 × Mem) :=
  bd (fX12_advance N σ) (fun r8 s9 => bd (fX12_isIn N v3 v1 v2 s9) (fun r10 s11 => if r10 = 0 then some (v1, s11) else some (v3, s11)))
set_option maxRecDepth 100000 in
set_option maxHeartbeats 4000000 in
theorem bX12_numbered_44 {x : Cx} {z : Sx} (X : XG x z RX12 cX12_numbered 4 4 94) (E : XE x z) (hr : XR x (some .int)) (hZ : z.2.2.2.1 = kdM) (N : Nat) (v1 : Int32) (v2 : Int32) (v3 : Int32) (σ : Mem) : VK x z 4 (BQ QI x z) 44 [(0, .ref (z.2.2.1 0)), (1, .int v1), (2, .int v2), (3, .int v3)] [] σ (fX12_numbered_b44 N v1 v2 v3 σ) := by
  unfold fX12_numbered_b44
  refine V_aload_n 0 X dX12_numbered_44 rfl rfl ?_
  refine V_callV [] [] X E dX12_numbered_45 (kX12_advance x.2.1 z hZ N σ) co12 (kM hZ 0 _ rfl) gcX12_114 hyX12_advance rfl ⟨by decide, by decide⟩ rfl (Nat.le_of_ble_eq_true rfl) (fun r8 s9 => ?_)
  refine V_iload_n 3 X dX12_numbered_48 rfl rfl ?_
  refine V_iload_n 1 X dX12_numbered_49 rfl rfl ?_
  refine V_iload_n 2 X dX12_numbered_50 rfl rfl ?_
  refine V_calSI [.int v3, .int v1, .int v2] [] X E dX12_numbered_51 (kX12_isIn x.2.1 z hZ N v3 v1 v2 s9) gcX12_106 hyX12_isIn rfl ⟨by decide, by decide⟩ rfl (Nat.le_of_ble_eq_true rfl) (fun r10 s11 => ?_)
  refine V_if_eq (tgt := 61) X dX12_numbered_54 (by decide) ?_ ?_
  · refine V_iload_n 1 X dX12_numbered_61 rfl rfl ?_
    exact V_iret X E hr dX12_numbered_62
  · refine V_iload_n 3 X dX12_numbered_57 rfl rfl ?_
    refine V_goto (tgt := 62) X dX12_numbered_58 (by decide) ?_
    exact V_iret X E hr dX12_numbered_62
def fX12_numbered_b15 (N : Nat) (v1 : Int32) (σ : Mem) : Option (Int32 × Mem) :=
  bd (fX12_ends N σ) (fun r6 s7 => some (v1, s7))
set_option maxRecDepth 100000 in
set_option maxHeartbeats 4000000 in
theorem bX12_numbered_15 {x : Cx} {z : Sx} (X : XG x z RX12 cX12_numbered 4 4 94) (E : XE x z) (hr : XR x (some .int)) (hZ : z.2.2.2.1 = kdM) (N : Nat) (v1 : Int32) (σ : Mem) : VK x z 4 (BQ QI x z) 15 [(0, .ref (z.2.2.1 0)), (1, .int v1)] [] σ (fX12_numbered_b15 N v1 σ) := by
  unfold fX12_numbered_b15
  refine V_aload_n 0 X dX12_numbered_15 rfl rfl ?_
  refine V_callV [] [] X E dX12_numbered_16 (kX12_ends x.2.1 z hZ N σ) co12 (kM hZ 0 _ rfl) gcX12_103 hyX12_ends rfl ⟨by decide, by decide⟩ rfl (Nat.le_of_ble_eq_true rfl) (fun r6 s7 => ?_)
  refine V_iload_n 1 X dX12_numbered_19 rfl rfl ?_
  exact V_iret X E hr dX12_numbered_20
def fX12_numbered (N : Nat) (v1 : Int32) (v2 : Int32) (σ : Mem) : Option (Int32 × Mem) :=
  if (σ.1 0 8) = 0 then if (σ.1 0 5) = 1 then lt_ (σ.1 0 6) (fun v3_1 => bd (fX12_isIn N v3_1 v1 v2 σ) (fun r2 s3 => if r2 = 0 then bd (fX12_also N 2 (s3.1 0 4) s3) (fun r4 s5 => fX12_numbered_b44 N v1 v2 v3_1 s5) else fX12_numbered_b44 N v1 v2 v3_1 s3)) else fX12_numbered_b15 N v1 σ else fX12_numbered_b15 N v1 σ
set_option maxRecDepth 100000 in
set_option maxHeartbeats 4000000 in
theorem bX12_numbered_0 {x : Cx} {z : Sx} (X : XG x z RX12 cX12_numbered 4 4 94) (E : XE x z) (hr : XR x (some .int)) (hZ : z.2.2.2.1 = kdM) (N : Nat) (v1 : Int32) (v2 : Int32) (σ : Mem) : VK x z 4 (BQ QI x z) 0 [(0, .ref (z.2.2.1 0)), (1, .int v1), (2, .int v2)] [] σ (fX12_numbered N v1 v2 σ) := by
  unfold fX12_numbered
  refine V_aload_n 0 X dX12_numbered_0 rfl rfl ?_
  refine V_getI 8 X dX12_numbered_1 co12 (kM hZ 0 _ rfl) (by decide) rfl wfX12_99 ?_
  refine V_if_ne (tgt := 15) X dX12_numbered_4 (by decide) ?_ ?_
  · refine V_sub [0, 1] rfl ?_
    exact bX12_numbered_15 X E hr hZ N v1 σ
  · refine V_aload_n 0 X dX12_numbered_7 rfl rfl ?_
    refine V_getI 5 X dX12_numbered_8 co12 (kM hZ 0 _ rfl) (by decide) rfl wfX12_75 ?_
    refine V_iconst (v := 1) X dX12_numbered_11 (by decide) ?_
    refine V_icmp_eq (tgt := 21) X dX12_numbered_12 (by decide) ?_ ?_
    · refine V_aload_n 0 X dX12_numbered_21 rfl rfl ?_
      refine V_getI 6 X dX12_numbered_22 co12 (kM hZ 0 _ rfl) (by decide) rfl wfX12_96 ?_
      refine V_istore_nG (L' := fun v3_1 => [(3, .int v3_1), (0, .ref (z.2.2.1 0)), (1, .int v1), (2, .int v2)]) X dX12_numbered_25 rfl (by decide) (fun _ => rfl) (fun v3_1 => ?_)
      refine V_iload_n 0 X dX12_numbered_26 rfl rfl ?_
      refine V_iload_n 2 X dX12_numbered_27 rfl rfl ?_
      refine V_iload_n 3 X dX12_numbered_28 rfl rfl ?_
      refine V_calSI [.int v3_1, .int v1, .int v2] [] X E dX12_numbered_29 (kX12_isIn x.2.1 z hZ N v3_1 v1 v2 σ) gcX12_106 hyX12_isIn rfl ⟨by decide, by decide⟩ rfl (Nat.le_of_ble_eq_true rfl) (fun r2 s3 => ?_)
      refine V_if_ne (tgt := 44) X dX12_numbered_32 (by decide) ?_ ?_
      · refine V_sub [1, 2, 3, 0] rfl ?_
        exact bX12_numbered_44 X E hr hZ N v1 v2 v3_1 s3
      · refine V_aload_n 1 X dX12_numbered_35 rfl rfl ?_
        refine V_iconst (v := 2) X dX12_numbered_36 (by decide) ?_
        refine V_aload_n 1 X dX12_numbered_37 rfl rfl ?_
        refine V_getI 4 X dX12_numbered_38 co12 (kM hZ 0 _ rfl) (by decide) rfl wfX12_72 ?_
        refine V_callV [.int 2, .int (s3.1 0 4)] [] X E dX12_numbered_41 (kX12_also x.2.1 z hZ N 2 (s3.1 0 4) s3) co12 (kM hZ 0 _ rfl) gcX12_110 hyX12_also rfl ⟨by decide, by decide⟩ rfl (Nat.le_of_ble_eq_true rfl) (fun r4 s5 => ?_)
        refine V_sub [1, 2, 3, 0] rfl ?_
        exact bX12_numbered_44 X E hr hZ N v1 v2 v3_1 s5
    · refine V_sub [0, 1] rfl ?_
      exact bX12_numbered_15 X E hr hZ N v1 σ
theorem kX12_numbered (l : Launch) (z : Sx) (hZ : z.2.2.2.1 = kdM) (N : Nat) (v1 : Int32) (v2 : Int32) (σ : Mem) : Ct QI yX12_numbered cX12_numbered 4 (some .int) 4 94 l z [.ref (z.2.2.1 0), .int v1, .int v2] σ (fX12_numbered N v1 v2 σ) := by
  refine Ct_of (by decide +kernel) (Nat.le_of_ble_eq_true rfl) rfl ?_
  intro x _ X E hr
  exact bX12_numbered_0 X E hr hZ N v1 v2 σ
