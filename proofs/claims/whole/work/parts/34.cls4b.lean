def fX5_hear_b105 (N : Nat) (h : Nat) (rc105 : Int32 → Mem → Option (Unit × Mem)) (v2 : Int32) (σ : Mem) : Option (Unit × Mem) :=
  if (σ.1 h 3) ≤ v2 then some ((), σ) else bd (fX5_countSwings N h v2 σ) (fun r9 s10 => gd (inb v2 8) (lt_ (pI s10 (h + 1) v2.toNatClampNeg r9) (fun s11 => lt_ (v2 + 1) (fun v2_12 => rc105 v2_12 s11))))
set_option maxRecDepth 100000 in
set_option maxHeartbeats 4000000 in
theorem bX5_hear_105 {x : Cx} {z : Sx} (X : XG x z RX5 cX5_hear 5 3 67) (E : XE x z) (hr : XR x none) (hZ : z.2.2.2.1 = kdC) (N : Nat) (h : Nat) (hh : z.2.2.2.1 h = (5, 0)) (rc105 : Int32 → Mem → Option (Unit × Mem)) (hc105 : ∀ (v2 : Int32) (σ : Mem), VK x z 5 (BQ QV x z) 105 [(0, .ref (z.2.2.1 h)), (2, .int v2)] [] σ (rc105 v2 σ)) (v2 : Int32) (σ : Mem) : VK x z 5 (BQ QV x z) 105 [(0, .ref (z.2.2.1 h)), (2, .int v2)] [] σ (fX5_hear_b105 N h rc105 v2 σ) := by
  unfold fX5_hear_b105
  refine V_iload_n 1 X dX5_hear_105 rfl rfl ?_
  refine V_aload_n 0 X dX5_hear_106 rfl rfl ?_
  refine V_getI 3 X dX5_hear_107 co5 hh (by decide) rfl wfX5_27 ?_
  refine V_icmp_ge (tgt := 130) X dX5_hear_110 (by decide) ?_ ?_
  · exact V_vret X E hr dX5_hear_130
  · refine V_aload_n 0 X dX5_hear_113 rfl rfl ?_
    refine V_getR (k1 := (h + 1)) 0 X dX5_hear_114 co5 hh (by decide) rfl rfl wfX5_9 ?_
    refine V_iload_n 1 X dX5_hear_117 rfl rfl ?_
    refine V_aload_n 0 X dX5_hear_118 rfl rfl ?_
    refine V_iload_n 1 X dX5_hear_119 rfl rfl ?_
    refine V_callI [.int v2] [.int v2, .ref (z.2.2.1 (h + 1))] X E dX5_hear_120 (kX5_countSwings x.2.1 z hZ N h hh v2 σ) co5 hh gcX5_35 hyX5_countSwings rfl ⟨by decide, by decide⟩ rfl (Nat.le_of_ble_eq_true rfl) (fun r9 s10 => ?_)
    refine V_iastG X dX5_hear_123 (kt5_0 hZ hh) (fun s11 => ?_)
    refine V_iincG (L' := fun v2_12 => [(2, .int v2_12), (0, .ref (z.2.2.1 h))]) 1 X dX5_hear_124 rfl rfl (by decide) (fun _ => rfl) (fun v2_12 => ?_)
    refine V_goto (tgt := 105) X dX5_hear_127 (by decide) ?_
    refine V_sub [1, 0] rfl ?_
    exact hc105 v2_12 s11
def fX5_hear_l105 (N : Nat) (h : Nat) : Nat → Int32 → Mem → Option (Unit × Mem)
  | 0 => fun _ _ => none
  | n + 1 => fX5_hear_b105 N h (fX5_hear_l105 N h n)
theorem lX5_hear_105 {x : Cx} {z : Sx} (X : XG x z RX5 cX5_hear 5 3 67) (E : XE x z) (hr : XR x none) (hZ : z.2.2.2.1 = kdC) (N : Nat) (h : Nat) (hh : z.2.2.2.1 h = (5, 0)) (n : Nat) (v2 : Int32) (σ : Mem) : VK x z 5 (BQ QV x z) 105 [(0, .ref (z.2.2.1 h)), (2, .int v2)] [] σ (fX5_hear_l105 N h n v2 σ) := by
  induction n generalizing v2 σ with
  | zero => exact V_none
  | succ n ih => exact bX5_hear_105 X E hr hZ N h hh (fX5_hear_l105 N h n) ih v2 σ
def fX5_hear_b47 (N : Nat) (h : Nat) (rc20 : Nat → Int32 → Mem → Option (Unit × Mem)) (rc47 : Nat → Int32 → Int32 → Int32 → Mem → Option (Unit × Mem)) (v1 : Nat) (v2 : Int32) (v3 : Int32) (v4 : Int32) (σ : Mem) : Option (Unit × Mem) :=
  if v3 ≤ v4 then lt_ (v2 + 1) (fun v2_13 => rc20 v1 v2_13 σ) else gd (inb v4 256) (gd (inb v2 8) (gd (inb (v3 + v4) 256) (lt_ (pI σ (h + 3) (v3 + v4).toNatClampNeg ((σ.1 (h + 3) v4.toNatClampNeg) + (σ.1 (h + 2) v2.toNatClampNeg))) (fun s14 => lt_ (v4 + 1) (fun v4_15 => rc47 v1 v2 v3 v4_15 s14)))))
set_option maxRecDepth 100000 in
set_option maxHeartbeats 4000000 in
theorem bX5_hear_47 {x : Cx} {z : Sx} (X : XG x z RX5 cX5_hear 5 3 67) (E : XE x z) (hr : XR x none) (hZ : z.2.2.2.1 = kdC) (N : Nat) (h : Nat) (hh : z.2.2.2.1 h = (5, 0)) (rc20 : Nat → Int32 → Mem → Option (Unit × Mem)) (hc20 : ∀ (v1 : Nat) (v2 : Int32) (hk1 : z.2.2.2.1 v1 = (0, 0)) (σ : Mem), VK x z 5 (BQ QV x z) 20 [(0, .ref (z.2.2.1 h)), (1, .ref (z.2.2.1 v1)), (2, .int v2)] [] σ (rc20 v1 v2 σ)) (rc47 : Nat → Int32 → Int32 → Int32 → Mem → Option (Unit × Mem)) (hc47 : ∀ (v1 : Nat) (v2 : Int32) (v3 : Int32) (v4 : Int32) (hk1 : z.2.2.2.1 v1 = (0, 0)) (σ : Mem), VK x z 5 (BQ QV x z) 47 [(0, .ref (z.2.2.1 h)), (1, .ref (z.2.2.1 v1)), (2, .int v2), (3, .int v3), (4, .int v4)] [] σ (rc47 v1 v2 v3 v4 σ)) (v1 : Nat) (v2 : Int32) (v3 : Int32) (v4 : Int32) (hk1 : z.2.2.2.1 v1 = (0, 0)) (σ : Mem) : VK x z 5 (BQ QV x z) 47 [(0, .ref (z.2.2.1 h)), (1, .ref (z.2.2.1 v1)), (2, .int v2), (3, .int v3), (4, .int v4)] [] σ (fX5_hear_b47 N h rc20 rc47 v1 v2 v3 v4 σ) := by
  unfold fX5_hear_b47
  refine V_iload 4 X dX5_hear_47 rfl ?_
  refine V_iload_n 3 X dX5_hear_49 rfl rfl ?_
  refine V_icmp_ge (tgt := 82) X dX5_hear_50 (by decide) ?_ ?_
  · refine V_iincG (L' := fun v2_13 => [(2, .int v2_13), (0, .ref (z.2.2.1 h)), (1, .ref (z.2.2.1 v1)), (3, .int v3), (4, .int v4)]) 2 X dX5_hear_82 rfl rfl (by decide) (fun _ => rfl) (fun v2_13 => ?_)
    refine V_goto (tgt := 20) X dX5_hear_85 (by decide) ?_
    refine V_sub [1, 2, 0] rfl ?_
    exact hc20 v1 v2_13 hk1 σ
  · refine V_aload_n 0 X dX5_hear_53 rfl rfl ?_
    refine V_getR (k1 := (h + 3)) 2 X dX5_hear_54 co5 hh (by decide) rfl rfl wfX5_18 ?_
    refine V_iload_n 3 X dX5_hear_57 rfl rfl ?_
    refine V_iload 4 X dX5_hear_58 rfl ?_
    refine V_iadd X dX5_hear_60 ?_
    refine V_aload_n 0 X dX5_hear_61 rfl rfl ?_
    refine V_getR (k1 := (h + 3)) 2 X dX5_hear_62 co5 hh (by decide) rfl rfl wfX5_18 ?_
    refine V_iload 4 X dX5_hear_65 rfl ?_
    refine V_iald X dX5_hear_67 (kt5_2 hZ hh) ?_
    refine V_aload_n 0 X dX5_hear_68 rfl rfl ?_
    refine V_getR (k1 := (h + 2)) 1 X dX5_hear_69 co5 hh (by decide) rfl rfl wfX5_15 ?_
    refine V_iload_n 2 X dX5_hear_72 rfl rfl ?_
    refine V_iald X dX5_hear_73 (kt5_1 hZ hh) ?_
    refine V_iadd X dX5_hear_74 ?_
    refine V_iastG X dX5_hear_75 (kt5_2 hZ hh) (fun s14 => ?_)
    refine V_iincG (L' := fun v4_15 => [(4, .int v4_15), (0, .ref (z.2.2.1 h)), (1, .ref (z.2.2.1 v1)), (2, .int v2), (3, .int v3)]) 4 X dX5_hear_76 rfl rfl (by decide) (fun _ => rfl) (fun v4_15 => ?_)
    refine V_goto (tgt := 47) X dX5_hear_79 (by decide) ?_
    refine V_sub [1, 2, 3, 4, 0] rfl ?_
    exact hc47 v1 v2 v3 v4_15 hk1 s14
def fX5_hear_l47 (N : Nat) (h : Nat) (rc20 : Nat → Int32 → Mem → Option (Unit × Mem)) : Nat → Nat → Int32 → Int32 → Int32 → Mem → Option (Unit × Mem)
  | 0 => fun _ _ _ _ _ => none
  | n + 1 => fX5_hear_b47 N h rc20 (fX5_hear_l47 N h rc20 n)
theorem lX5_hear_47 {x : Cx} {z : Sx} (X : XG x z RX5 cX5_hear 5 3 67) (E : XE x z) (hr : XR x none) (hZ : z.2.2.2.1 = kdC) (N : Nat) (h : Nat) (hh : z.2.2.2.1 h = (5, 0)) (rc20 : Nat → Int32 → Mem → Option (Unit × Mem)) (hc20 : ∀ (v1 : Nat) (v2 : Int32) (hk1 : z.2.2.2.1 v1 = (0, 0)) (σ : Mem), VK x z 5 (BQ QV x z) 20 [(0, .ref (z.2.2.1 h)), (1, .ref (z.2.2.1 v1)), (2, .int v2)] [] σ (rc20 v1 v2 σ)) (n : Nat) (v1 : Nat) (v2 : Int32) (v3 : Int32) (v4 : Int32) (hk1 : z.2.2.2.1 v1 = (0, 0)) (σ : Mem) : VK x z 5 (BQ QV x z) 47 [(0, .ref (z.2.2.1 h)), (1, .ref (z.2.2.1 v1)), (2, .int v2), (3, .int v3), (4, .int v4)] [] σ (fX5_hear_l47 N h rc20 n v1 v2 v3 v4 σ) := by
  induction n generalizing v1 v2 v3 v4 hk1 σ with
  | zero => exact V_none
  | succ n ih => exact bX5_hear_47 X E hr hZ N h hh rc20 hc20 (fX5_hear_l47 N h rc20 n) ih v1 v2 v3 v4 hk1 σ
def fX5_hear_b20 (N : Nat) (h : Nat) (rc20 : Nat → Int32 → Mem → Option (Unit × Mem)) (v1 : Nat) (v2 : Int32) (σ : Mem) : Option (Unit × Mem) :=
  if (σ.1 h 3) ≤ v2 then gd (inb ((σ.1 h 4) - 1) 256) (lt_ (pI σ h 5 (σ.1 (h + 3) ((σ.1 h 4) - 1).toNatClampNeg)) (fun s4 => lt_ 0 (fun v2_5 => fX5_hear_l105 N h N v2_5 s4))) else gd (inb v2 8) (gd (inb v2 8) (lt_ (pI σ (h + 2) v2.toNatClampNeg (σ.1 (v1 + 6) v2.toNatClampNeg)) (fun s6 => lt_ ((1 : Int32) <<< (v2 &&& 31)) (fun v3_7 => lt_ 0 (fun v4_8 => fX5_hear_l47 N h rc20 N v1 v2 v3_7 v4_8 s6)))))
set_option maxRecDepth 100000 in
set_option maxHeartbeats 4000000 in
theorem bX5_hear_20 {x : Cx} {z : Sx} (X : XG x z RX5 cX5_hear 5 3 67) (E : XE x z) (hr : XR x none) (hZ : z.2.2.2.1 = kdC) (N : Nat) (h : Nat) (hh : z.2.2.2.1 h = (5, 0)) (rc20 : Nat → Int32 → Mem → Option (Unit × Mem)) (hc20 : ∀ (v1 : Nat) (v2 : Int32) (hk1 : z.2.2.2.1 v1 = (0, 0)) (σ : Mem), VK x z 5 (BQ QV x z) 20 [(0, .ref (z.2.2.1 h)), (1, .ref (z.2.2.1 v1)), (2, .int v2)] [] σ (rc20 v1 v2 σ)) (v1 : Nat) (v2 : Int32) (hk1 : z.2.2.2.1 v1 = (0, 0)) (σ : Mem) : VK x z 5 (BQ QV x z) 20 [(0, .ref (z.2.2.1 h)), (1, .ref (z.2.2.1 v1)), (2, .int v2)] [] σ (fX5_hear_b20 N h rc20 v1 v2 σ) := by
  unfold fX5_hear_b20
  refine V_iload_n 2 X dX5_hear_20 rfl rfl ?_
  refine V_aload_n 0 X dX5_hear_21 rfl rfl ?_
  refine V_getI 3 X dX5_hear_22 co5 hh (by decide) rfl wfX5_27 ?_
  refine V_icmp_ge (tgt := 88) X dX5_hear_25 (by decide) ?_ ?_
  · refine V_aload_n 0 X dX5_hear_88 rfl rfl ?_
    refine V_aload_n 0 X dX5_hear_89 rfl rfl ?_
    refine V_getR (k1 := (h + 3)) 2 X dX5_hear_90 co5 hh (by decide) rfl rfl wfX5_18 ?_
    refine V_aload_n 0 X dX5_hear_93 rfl rfl ?_
    refine V_getI 4 X dX5_hear_94 co5 hh (by decide) rfl wfX5_28 ?_
    refine V_iconst (v := 1) X dX5_hear_97 (by decide) ?_
    refine V_isub X dX5_hear_98 ?_
    refine V_iald X dX5_hear_99 (kt5_2 hZ hh) ?_
    refine V_putIG 5 X dX5_hear_100 co5 hh (by decide) rfl wfX5_32 rfl rfl rfl (fun s4 => ?_)
    refine V_iconst (v := 0) X dX5_hear_103 (by decide) ?_
    refine V_istore_nG (L' := fun v2_5 => [(2, .int v2_5), (0, .ref (z.2.2.1 h)), (1, .ref (z.2.2.1 v1))]) X dX5_hear_104 rfl (by decide) (fun _ => rfl) (fun v2_5 => ?_)
    refine V_sub [1, 0] rfl ?_
    exact lX5_hear_105 X E hr hZ N h hh N v2_5 s4
  · refine V_aload_n 0 X dX5_hear_28 rfl rfl ?_
    refine V_getR (k1 := (h + 2)) 1 X dX5_hear_29 co5 hh (by decide) rfl rfl wfX5_15 ?_
    refine V_iload_n 2 X dX5_hear_32 rfl rfl ?_
    refine V_aload_n 1 X dX5_hear_33 rfl rfl ?_
    refine V_getR (k1 := (v1 + 6)) 8 X dX5_hear_34 co0 hk1 (by decide) rfl rfl wfX5_31 ?_
    refine V_iload_n 2 X dX5_hear_37 rfl rfl ?_
    refine V_iald X dX5_hear_38 (kt0_8 hZ hk1) ?_
    refine V_iastG X dX5_hear_39 (kt5_1 hZ hh) (fun s6 => ?_)
    refine V_iconst (v := 1) X dX5_hear_40 (by decide) ?_
    refine V_iload_n 2 X dX5_hear_41 rfl rfl ?_
    refine V_ishl X dX5_hear_42 ?_
    refine V_istore_nG (L' := fun v3_7 => [(3, .int v3_7), (0, .ref (z.2.2.1 h)), (1, .ref (z.2.2.1 v1)), (2, .int v2)]) X dX5_hear_43 rfl (by decide) (fun _ => rfl) (fun v3_7 => ?_)
    refine V_iconst (v := 0) X dX5_hear_44 (by decide) ?_
    refine V_istoreG (L' := fun v4_8 => [(4, .int v4_8), (3, .int v3_7), (0, .ref (z.2.2.1 h)), (1, .ref (z.2.2.1 v1)), (2, .int v2)]) X dX5_hear_45 (by decide) (fun _ => rfl) (fun v4_8 => ?_)
    refine V_sub [2, 3, 4, 1, 0] rfl ?_
    exact lX5_hear_47 X E hr hZ N h hh rc20 hc20 N v1 v2 v3_7 v4_8 hk1 s6
def fX5_hear_l20 (N : Nat) (h : Nat) : Nat → Nat → Int32 → Mem → Option (Unit × Mem)
  | 0 => fun _ _ _ => none
  | n + 1 => fX5_hear_b20 N h (fX5_hear_l20 N h n)
theorem lX5_hear_20 {x : Cx} {z : Sx} (X : XG x z RX5 cX5_hear 5 3 67) (E : XE x z) (hr : XR x none) (hZ : z.2.2.2.1 = kdC) (N : Nat) (h : Nat) (hh : z.2.2.2.1 h = (5, 0)) (n : Nat) (v1 : Nat) (v2 : Int32) (hk1 : z.2.2.2.1 v1 = (0, 0)) (σ : Mem) : VK x z 5 (BQ QV x z) 20 [(0, .ref (z.2.2.1 h)), (1, .ref (z.2.2.1 v1)), (2, .int v2)] [] σ (fX5_hear_l20 N h n v1 v2 σ) := by
  induction n generalizing v1 v2 hk1 σ with
  | zero => exact V_none
  | succ n ih => exact bX5_hear_20 X E hr hZ N h hh (fX5_hear_l20 N h n) ih v1 v2 hk1 σ
def fX5_hear (N : Nat) (h : Nat) (v1 : Nat) (σ : Mem) : Option (Unit × Mem) :=
  lt_ (pI σ h 3 (σ.1 v1 0)) (fun s1 => lt_ (pI s1 h 4 ((1 : Int32) <<< ((s1.1 h 3) &&& 31))) (fun s2 => lt_ 0 (fun v2_3 => fX5_hear_l20 N h N v1 v2_3 s2)))
set_option maxRecDepth 100000 in
set_option maxHeartbeats 4000000 in
theorem bX5_hear_0 {x : Cx} {z : Sx} (X : XG x z RX5 cX5_hear 5 3 67) (E : XE x z) (hr : XR x none) (hZ : z.2.2.2.1 = kdC) (N : Nat) (h : Nat) (hh : z.2.2.2.1 h = (5, 0)) (v1 : Nat) (hk1 : z.2.2.2.1 v1 = (0, 0)) (σ : Mem) : VK x z 5 (BQ QV x z) 0 [(0, .ref (z.2.2.1 h)), (1, .ref (z.2.2.1 v1))] [] σ (fX5_hear N h v1 σ) := by
  unfold fX5_hear
  refine V_aload_n 0 X dX5_hear_0 rfl rfl ?_
  refine V_aload_n 1 X dX5_hear_1 rfl rfl ?_
  refine V_getI 0 X dX5_hear_2 co0 hk1 (by decide) rfl wfX5_21 ?_
  refine V_putIG 3 X dX5_hear_5 co5 hh (by decide) rfl wfX5_27 rfl rfl rfl (fun s1 => ?_)
  refine V_aload_n 0 X dX5_hear_8 rfl rfl ?_
  refine V_iconst (v := 1) X dX5_hear_9 (by decide) ?_
  refine V_aload_n 0 X dX5_hear_10 rfl rfl ?_
  refine V_getI 3 X dX5_hear_11 co5 hh (by decide) rfl wfX5_27 ?_
  refine V_ishl X dX5_hear_14 ?_
  refine V_putIG 4 X dX5_hear_15 co5 hh (by decide) rfl wfX5_28 rfl rfl rfl (fun s2 => ?_)
  refine V_iconst (v := 0) X dX5_hear_18 (by decide) ?_
  refine V_istore_nG (L' := fun v2_3 => [(2, .int v2_3), (0, .ref (z.2.2.1 h)), (1, .ref (z.2.2.1 v1))]) X dX5_hear_19 rfl (by decide) (fun _ => rfl) (fun v2_3 => ?_)
  refine V_sub [1, 2, 0] rfl ?_
  exact lX5_hear_20 X E hr hZ N h hh N v1 v2_3 hk1 s2
theorem kX5_hear (l : Launch) (z : Sx) (hZ : z.2.2.2.1 = kdC) (N : Nat) (h : Nat) (hh : z.2.2.2.1 h = (5, 0)) (v1 : Nat) (hk1 : z.2.2.2.1 v1 = (0, 0)) (σ : Mem) : Ct QV yX5_hear cX5_hear 5 none 3 67 l z [.ref (z.2.2.1 h), .ref (z.2.2.1 v1)] σ (fX5_hear N h v1 σ) := by
  refine Ct_of (by decide +kernel) (Nat.le_of_ble_eq_true rfl) rfl ?_
  intro x _ X E hr
  exact bX5_hear_0 X E hr hZ N h hh v1 hk1 σ
def fX5_leastSet_b40 (N : Nat) (h : Nat) (rc7 : Int32 → Int32 → Int32 → Mem → Option (Int32 × Mem)) (v1 : Int32) (v2 : Int32) (v3 : Int32) (σ : Mem) : Option (Int32 × Mem) :=
  lt_ (v3 + 1) (fun v3_11 => rc7 v1 v2 v3_11 σ)
set_option maxRecDepth 100000 in
set_option maxHeartbeats 4000000 in
theorem bX5_leastSet_40 {x : Cx} {z : Sx} (X : XG x z RX5 cX5_leastSet 5 1 21) (E : XE x z) (hr : XR x (some .int)) (hZ : z.2.2.2.1 = kdC) (N : Nat) (h : Nat) (hh : z.2.2.2.1 h = (5, 0)) (rc7 : Int32 → Int32 → Int32 → Mem → Option (Int32 × Mem)) (hc7 : ∀ (v1 : Int32) (v2 : Int32) (v3 : Int32) (σ : Mem), VK x z 5 (BQ QI x z) 7 [(0, .ref (z.2.2.1 h)), (1, .int v1), (2, .int v2), (3, .int v3)] [] σ (rc7 v1 v2 v3 σ)) (v1 : Int32) (v2 : Int32) (v3 : Int32) (σ : Mem) : VK x z 5 (BQ QI x z) 40 [(0, .ref (z.2.2.1 h)), (1, .int v1), (2, .int v2), (3, .int v3)] [] σ (fX5_leastSet_b40 N h rc7 v1 v2 v3 σ) := by
  unfold fX5_leastSet_b40
  refine V_iincG (L' := fun v3_11 => [(3, .int v3_11), (0, .ref (z.2.2.1 h)), (1, .int v1), (2, .int v2)]) 3 X dX5_leastSet_40 rfl rfl (by decide) (fun _ => rfl) (fun v3_11 => ?_)
  refine V_goto (tgt := 7) X dX5_leastSet_43 (by decide) ?_
  refine V_sub [1, 2, 3, 0] rfl ?_
  exact hc7 v1 v2 v3_11 σ
def fX5_leastSet_b7 (N : Nat) (h : Nat) (rc7 : Int32 → Int32 → Int32 → Mem → Option (Int32 × Mem)) (v1 : Int32) (v2 : Int32) (v3 : Int32) (σ : Mem) : Option (Int32 × Mem) :=
  if (σ.1 h 4) ≤ v3 then some (v1, σ) else bd (fJ6_bitCount_0f7a4 N v3 σ) (fun r4 s5 => lt_ r4 (fun v4_6 => if v2 ≤ v4_6 then fX5_leastSet_b40 N h rc7 v1 v2 v3 s5 else bd (fX5_wins N h v3 s5) (fun r7 s8 => if r7 = 0 then fX5_leastSet_b40 N h rc7 v1 v2 v3 s8 else lt_ v3 (fun v1_9 => lt_ v4_6 (fun v2_10 => fX5_leastSet_b40 N h rc7 v1_9 v2_10 v3 s8)))))
set_option maxRecDepth 100000 in
set_option maxHeartbeats 4000000 in
theorem bX5_leastSet_7 {x : Cx} {z : Sx} (X : XG x z RX5 cX5_leastSet 5 1 21) (E : XE x z) (hr : XR x (some .int)) (hZ : z.2.2.2.1 = kdC) (N : Nat) (h : Nat) (hh : z.2.2.2.1 h = (5, 0)) (rc7 : Int32 → Int32 → Int32 → Mem → Option (Int32 × Mem)) (hc7 : ∀ (v1 : Int32) (v2 : Int32) (v3 : Int32) (σ : Mem), VK x z 5 (BQ QI x z) 7 [(0, .ref (z.2.2.1 h)), (1, .int v1), (2, .int v2), (3, .int v3)] [] σ (rc7 v1 v2 v3 σ)) (v1 : Int32) (v2 : Int32) (v3 : Int32) (σ : Mem) : VK x z 5 (BQ QI x z) 7 [(0, .ref (z.2.2.1 h)), (1, .int v1), (2, .int v2), (3, .int v3)] [] σ (fX5_leastSet_b7 N h rc7 v1 v2 v3 σ) := by
  unfold fX5_leastSet_b7
  refine V_iload_n 3 X dX5_leastSet_7 rfl rfl ?_
  refine V_aload_n 0 X dX5_leastSet_8 rfl rfl ?_
  refine V_getI 4 X dX5_leastSet_9 co5 hh (by decide) rfl wfX5_28 ?_
  refine V_icmp_ge (tgt := 46) X dX5_leastSet_12 (by decide) ?_ ?_
  · refine V_iload_n 1 X dX5_leastSet_46 rfl rfl ?_
    exact V_iret X E hr dX5_leastSet_47
  · refine V_iload_n 3 X dX5_leastSet_15 rfl rfl ?_
    refine V_calSI [.int v3] [] X E dX5_leastSet_16 (kJ6_bitCount_0f7a4 x.2.1 z hZ N v3 σ) gcX5_50 hyJ6_bitCount_0f7a4 rfl ⟨by decide, by decide⟩ rfl (Nat.le_of_ble_eq_true rfl) (fun r4 s5 => ?_)
    refine V_istoreG (L' := fun v4_6 => [(4, .int v4_6), (0, .ref (z.2.2.1 h)), (1, .int v1), (2, .int v2), (3, .int v3)]) X dX5_leastSet_19 (by decide) (fun _ => rfl) (fun v4_6 => ?_)
    refine V_iload 0 X dX5_leastSet_21 rfl ?_
    refine V_iload_n 3 X dX5_leastSet_23 rfl rfl ?_
    refine V_icmp_ge (tgt := 40) X dX5_leastSet_24 (by decide) ?_ ?_
    · refine V_sub [1, 2, 3, 4] rfl ?_
      exact bX5_leastSet_40 X E hr hZ N h hh rc7 hc7 v1 v2 v3 s5
    · refine V_aload_n 1 X dX5_leastSet_27 rfl rfl ?_
      refine V_iload_n 4 X dX5_leastSet_28 rfl rfl ?_
      refine V_callI [.int v3] [] X E dX5_leastSet_29 (kX5_wins x.2.1 z hZ N h hh v3 s5) co5 hh gcX5_39 hyX5_wins rfl ⟨by decide, by decide⟩ rfl (Nat.le_of_ble_eq_true rfl) (fun r7 s8 => ?_)
      refine V_if_eq (tgt := 40) X dX5_leastSet_32 (by decide) ?_ ?_
      · refine V_sub [1, 2, 3, 4] rfl ?_
        exact bX5_leastSet_40 X E hr hZ N h hh rc7 hc7 v1 v2 v3 s8
      · refine V_iload_n 4 X dX5_leastSet_35 rfl rfl ?_
        refine V_istore_nG (L' := fun v1_9 => [(1, .int v1_9), (4, .int v4_6), (0, .ref (z.2.2.1 h)), (2, .int v2), (3, .int v3)]) X dX5_leastSet_36 rfl (by decide) (fun _ => rfl) (fun v1_9 => ?_)
        refine V_iload 1 X dX5_leastSet_37 rfl ?_
        refine V_istore_nG (L' := fun v2_10 => [(2, .int v2_10), (1, .int v1_9), (4, .int v4_6), (0, .ref (z.2.2.1 h)), (3, .int v3)]) X dX5_leastSet_39 rfl (by decide) (fun _ => rfl) (fun v2_10 => ?_)
        refine V_sub [3, 1, 0, 4] rfl ?_
        exact bX5_leastSet_40 X E hr hZ N h hh rc7 hc7 v1_9 v2_10 v3 s8
def fX5_leastSet_l7 (N : Nat) (h : Nat) : Nat → Int32 → Int32 → Int32 → Mem → Option (Int32 × Mem)
  | 0 => fun _ _ _ _ => none
  | n + 1 => fX5_leastSet_b7 N h (fX5_leastSet_l7 N h n)
theorem lX5_leastSet_7 {x : Cx} {z : Sx} (X : XG x z RX5 cX5_leastSet 5 1 21) (E : XE x z) (hr : XR x (some .int)) (hZ : z.2.2.2.1 = kdC) (N : Nat) (h : Nat) (hh : z.2.2.2.1 h = (5, 0)) (n : Nat) (v1 : Int32) (v2 : Int32) (v3 : Int32) (σ : Mem) : VK x z 5 (BQ QI x z) 7 [(0, .ref (z.2.2.1 h)), (1, .int v1), (2, .int v2), (3, .int v3)] [] σ (fX5_leastSet_l7 N h n v1 v2 v3 σ) := by
  induction n generalizing v1 v2 v3 σ with
  | zero => exact V_none
  | succ n ih => exact bX5_leastSet_7 X E hr hZ N h hh (fX5_leastSet_l7 N h n) ih v1 v2 v3 σ
def fX5_leastSet (N : Nat) (h : Nat) (σ : Mem) : Option (Int32 × Mem) :=
  lt_ 0 (fun v1_1 => lt_ 9 (fun v2_2 => lt_ 0 (fun v3_3 => fX5_leastSet_l7 N h N v1_1 v2_2 v3_3 σ)))
set_option maxRecDepth 100000 in
set_option maxHeartbeats 4000000 in
theorem bX5_leastSet_0 {x : Cx} {z : Sx} (X : XG x z RX5 cX5_leastSet 5 1 21) (E : XE x z) (hr : XR x (some .int)) (hZ : z.2.2.2.1 = kdC) (N : Nat) (h : Nat) (hh : z.2.2.2.1 h = (5, 0)) (σ : Mem) : VK x z 5 (BQ QI x z) 0 [(0, .ref (z.2.2.1 h))] [] σ (fX5_leastSet N h σ) := by
  unfold fX5_leastSet
  refine V_iconst (v := 0) X dX5_leastSet_0 (by decide) ?_
  refine V_istore_nG (L' := fun v1_1 => [(1, .int v1_1), (0, .ref (z.2.2.1 h))]) X dX5_leastSet_1 rfl (by decide) (fun _ => rfl) (fun v1_1 => ?_)
  refine V_bipush (v := 9) X dX5_leastSet_2 (by decide) ?_
  refine V_istore_nG (L' := fun v2_2 => [(2, .int v2_2), (1, .int v1_1), (0, .ref (z.2.2.1 h))]) X dX5_leastSet_4 rfl (by decide) (fun _ => rfl) (fun v2_2 => ?_)
  refine V_iconst (v := 0) X dX5_leastSet_5 (by decide) ?_
  refine V_istore_nG (L' := fun v3_3 => [(3, .int v3_3), (2, .int v2_2), (1, .int v1_1), (0, .ref (z.2.2.1 h))]) X dX5_leastSet_6 rfl (by decide) (fun _ => rfl) (fun v3_3 => ?_)
  refine V_sub [3, 2, 1, 0] rfl ?_
  exact lX5_leastSet_7 X E hr hZ N h hh N v1_1 v2_2 v3_3 σ
theorem kX5_leastSet (l : Launch) (z : Sx) (hZ : z.2.2.2.1 = kdC) (N : Nat) (h : Nat) (hh : z.2.2.2.1 h = (5, 0)) (σ : Mem) : Ct QI yX5_leastSet cX5_leastSet 5 (some .int) 1 21 l z [.ref (z.2.2.1 h)] σ (fX5_leastSet N h σ) := by
  refine Ct_of (by decide +kernel) (Nat.le_of_ble_eq_true rfl) rfl ?_
  intro x _ X E hr
  exact bX5_leastSet_0 X E hr hZ N h hh σ
def fX11_leastTerms_b66 (N : Nat) (v5 : Int64) (t0 : Int64) (σ : Mem) : Option (Int64 × Mem) :=
  gd (!(decide (v5 = 0))) (some ((t0 / v5), σ))
set_option maxRecDepth 100000 in
set_option maxHeartbeats 4000000 in
theorem bX11_leastTerms_66 {x : Cx} {z : Sx} (X : XG x z RX11 cX11_leastTerms 12 0 0) (E : XE x z) (hr : XR x (some .long)) (hZ : z.2.2.2.1 = kdC) (N : Nat) (v5 : Int64) (t0 : Int64) (σ : Mem) : VK x z 12 (BQ QL x z) 66 [(5, .long v5)] [.long t0] σ (fX11_leastTerms_b66 N v5 t0 σ) := by
  unfold fX11_leastTerms_b66
  refine V_lload 0 X dX11_leastTerms_66 rfl ?_
  refine V_ldiv X dX11_leastTerms_68 ?_
  exact V_lret X E hr dX11_leastTerms_69
def fX11_leastTerms_b45 (N : Nat) (v0 : Int64) (v2 : Int64) (v4 : Int32) (v5 : Int64) (σ : Mem) : Option (Int64 × Mem) :=
  if (lg_cmp v5 0) = 0 then some ((-1), σ) else if v4 = 0 then fX11_leastTerms_b66 N v5 v0 σ else fX11_leastTerms_b66 N v5 v2 σ
set_option maxRecDepth 100000 in
set_option maxHeartbeats 4000000 in
theorem bX11_leastTerms_45 {x : Cx} {z : Sx} (X : XG x z RX11 cX11_leastTerms 12 0 0) (E : XE x z) (hr : XR x (some .long)) (hZ : z.2.2.2.1 = kdC) (N : Nat) (v0 : Int64) (v2 : Int64) (v4 : Int32) (v5 : Int64) (σ : Mem) : VK x z 12 (BQ QL x z) 45 [(0, .long v0), (2, .long v2), (4, .int v4), (5, .long v5)] [] σ (fX11_leastTerms_b45 N v0 v2 v4 v5 σ) := by
  unfold fX11_leastTerms_b45
  refine V_lload 3 X dX11_leastTerms_45 rfl ?_
  refine V_lconst (v := 0) X dX11_leastTerms_47 (by decide) ?_
  refine V_lcmp X dX11_leastTerms_48 ?_
  refine V_if_ne (tgt := 56) X dX11_leastTerms_49 (by decide) ?_ ?_
  · refine V_iload 2 X dX11_leastTerms_56 rfl ?_
    refine V_if_eq (tgt := 65) X dX11_leastTerms_58 (by decide) ?_ ?_
    · refine V_lload_n 0 X dX11_leastTerms_65 rfl rfl ?_
      refine V_sub [3] rfl ?_
      exact bX11_leastTerms_66 X E hr hZ N v5 v0 σ
    · refine V_lload_n 1 X dX11_leastTerms_61 rfl rfl ?_
      refine V_goto (tgt := 66) X dX11_leastTerms_62 (by decide) ?_
      refine V_sub [3] rfl ?_
      exact bX11_leastTerms_66 X E hr hZ N v5 v2 σ
  · refine V_ldc2 (v := -1) X dX11_leastTerms_52 csX11_209 ?_
    exact V_lret X E hr dX11_leastTerms_55
def fX11_leastTerms_b9 (N : Nat) (rc9 : Int64 → Int64 → Int32 → Int64 → Int64 → Int32 → Mem → Option (Int64 × Mem)) (v0 : Int64) (v2 : Int64) (v4 : Int32) (v5 : Int64) (v7 : Int64) (v9 : Int32) (σ : Mem) : Option (Int64 × Mem) :=
  if 200 ≤ v9 then fX11_leastTerms_b45 N v0 v2 v4 v5 σ else if (lg_cmp v7 0) = 0 then fX11_leastTerms_b45 N v0 v2 v4 v5 σ else gd (!(decide (v7 = 0))) (lt_ (rmL v5 v7) (fun v10_4 => lt_ v7 (fun v5_5 => lt_ v10_4 (fun v7_6 => lt_ (v9 + 1) (fun v9_7 => rc9 v0 v2 v4 v5_5 v7_6 v9_7 σ)))))
set_option maxRecDepth 100000 in
set_option maxHeartbeats 4000000 in
theorem bX11_leastTerms_9 {x : Cx} {z : Sx} (X : XG x z RX11 cX11_leastTerms 12 0 0) (E : XE x z) (hr : XR x (some .long)) (hZ : z.2.2.2.1 = kdC) (N : Nat) (rc9 : Int64 → Int64 → Int32 → Int64 → Int64 → Int32 → Mem → Option (Int64 × Mem)) (hc9 : ∀ (v0 : Int64) (v2 : Int64) (v4 : Int32) (v5 : Int64) (v7 : Int64) (v9 : Int32) (σ : Mem), VK x z 12 (BQ QL x z) 9 [(0, .long v0), (2, .long v2), (4, .int v4), (5, .long v5), (7, .long v7), (9, .int v9)] [] σ (rc9 v0 v2 v4 v5 v7 v9 σ)) (v0 : Int64) (v2 : Int64) (v4 : Int32) (v5 : Int64) (v7 : Int64) (v9 : Int32) (σ : Mem) : VK x z 12 (BQ QL x z) 9 [(0, .long v0), (2, .long v2), (4, .int v4), (5, .long v5), (7, .long v7), (9, .int v9)] [] σ (fX11_leastTerms_b9 N rc9 v0 v2 v4 v5 v7 v9 σ) := by
  unfold fX11_leastTerms_b9
  refine V_iload 5 X dX11_leastTerms_9 rfl ?_
  refine V_sipush (v := 200) X dX11_leastTerms_11 (by decide) ?_
  refine V_icmp_ge (tgt := 45) X dX11_leastTerms_14 (by decide) ?_ ?_
  · refine V_sub [0, 1, 2, 3] rfl ?_
    exact bX11_leastTerms_45 X E hr hZ N v0 v2 v4 v5 σ
  · refine V_lload 4 X dX11_leastTerms_17 rfl ?_
    refine V_lconst (v := 0) X dX11_leastTerms_19 (by decide) ?_
    refine V_lcmp X dX11_leastTerms_20 ?_
    refine V_if_eq (tgt := 45) X dX11_leastTerms_21 (by decide) ?_ ?_
    · refine V_sub [0, 1, 2, 3] rfl ?_
      exact bX11_leastTerms_45 X E hr hZ N v0 v2 v4 v5 σ
    · refine V_lload 3 X dX11_leastTerms_24 rfl ?_
      refine V_lload 4 X dX11_leastTerms_26 rfl ?_
      refine V_lremG X dX11_leastTerms_28 ?_
      refine V_lstoreG (L' := fun v10_4 => [(10, .long v10_4), (0, .long v0), (2, .long v2), (4, .int v4), (5, .long v5), (7, .long v7), (9, .int v9)]) X dX11_leastTerms_29 (by decide) (fun _ => rfl) (fun v10_4 => ?_)
      refine V_lload 5 X dX11_leastTerms_31 rfl ?_
      refine V_lstoreG (L' := fun v5_5 => [(5, .long v5_5), (10, .long v10_4), (0, .long v0), (2, .long v2), (4, .int v4), (7, .long v7), (9, .int v9)]) X dX11_leastTerms_33 (by decide) (fun _ => rfl) (fun v5_5 => ?_)
      refine V_lload 1 X dX11_leastTerms_35 rfl ?_
      refine V_lstoreG (L' := fun v7_6 => [(7, .long v7_6), (5, .long v5_5), (10, .long v10_4), (0, .long v0), (2, .long v2), (4, .int v4), (9, .int v9)]) X dX11_leastTerms_37 (by decide) (fun _ => rfl) (fun v7_6 => ?_)
      refine V_iincG (L' := fun v9_7 => [(9, .int v9_7), (7, .long v7_6), (5, .long v5_5), (10, .long v10_4), (0, .long v0), (2, .long v2), (4, .int v4)]) 6 X dX11_leastTerms_39 rfl rfl (by decide) (fun _ => rfl) (fun v9_7 => ?_)
      refine V_goto (tgt := 9) X dX11_leastTerms_42 (by decide) ?_
      refine V_sub [4, 5, 6, 2, 1, 0] rfl ?_
      exact hc9 v0 v2 v4 v5_5 v7_6 v9_7 σ
def fX11_leastTerms_l9 (N : Nat) : Nat → Int64 → Int64 → Int32 → Int64 → Int64 → Int32 → Mem → Option (Int64 × Mem)
  | 0 => fun _ _ _ _ _ _ _ => none
  | n + 1 => fX11_leastTerms_b9 N (fX11_leastTerms_l9 N n)
theorem lX11_leastTerms_9 {x : Cx} {z : Sx} (X : XG x z RX11 cX11_leastTerms 12 0 0) (E : XE x z) (hr : XR x (some .long)) (hZ : z.2.2.2.1 = kdC) (N : Nat) (n : Nat) (v0 : Int64) (v2 : Int64) (v4 : Int32) (v5 : Int64) (v7 : Int64) (v9 : Int32) (σ : Mem) : VK x z 12 (BQ QL x z) 9 [(0, .long v0), (2, .long v2), (4, .int v4), (5, .long v5), (7, .long v7), (9, .int v9)] [] σ (fX11_leastTerms_l9 N n v0 v2 v4 v5 v7 v9 σ) := by
  induction n generalizing v0 v2 v4 v5 v7 v9 σ with
  | zero => exact V_none
  | succ n ih => exact bX11_leastTerms_9 X E hr hZ N (fX11_leastTerms_l9 N n) ih v0 v2 v4 v5 v7 v9 σ
def fX11_leastTerms (N : Nat) (v0 : Int64) (v2 : Int64) (v4 : Int32) (σ : Mem) : Option (Int64 × Mem) :=
  lt_ v2 (fun v5_1 => lt_ v0 (fun v7_2 => lt_ 0 (fun v9_3 => fX11_leastTerms_l9 N N v0 v2 v4 v5_1 v7_2 v9_3 σ)))
set_option maxRecDepth 100000 in
set_option maxHeartbeats 4000000 in
theorem bX11_leastTerms_0 {x : Cx} {z : Sx} (X : XG x z RX11 cX11_leastTerms 12 0 0) (E : XE x z) (hr : XR x (some .long)) (hZ : z.2.2.2.1 = kdC) (N : Nat) (v0 : Int64) (v2 : Int64) (v4 : Int32) (σ : Mem) : VK x z 12 (BQ QL x z) 0 [(0, .long v0), (2, .long v2), (4, .int v4)] [] σ (fX11_leastTerms N v0 v2 v4 σ) := by
  unfold fX11_leastTerms
  refine V_lload_n 1 X dX11_leastTerms_0 rfl rfl ?_
  refine V_lstoreG (L' := fun v5_1 => [(5, .long v5_1), (0, .long v0), (2, .long v2), (4, .int v4)]) X dX11_leastTerms_1 (by decide) (fun _ => rfl) (fun v5_1 => ?_)
  refine V_lload_n 1 X dX11_leastTerms_3 rfl rfl ?_
  refine V_lstoreG (L' := fun v7_2 => [(7, .long v7_2), (5, .long v5_1), (0, .long v0), (2, .long v2), (4, .int v4)]) X dX11_leastTerms_4 (by decide) (fun _ => rfl) (fun v7_2 => ?_)
  refine V_iconst (v := 0) X dX11_leastTerms_6 (by decide) ?_
  refine V_istoreG (L' := fun v9_3 => [(9, .int v9_3), (7, .long v7_2), (5, .long v5_1), (0, .long v0), (2, .long v2), (4, .int v4)]) X dX11_leastTerms_7 (by decide) (fun _ => rfl) (fun v9_3 => ?_)
  refine V_sub [3, 4, 5, 2, 1, 0] rfl ?_
  exact lX11_leastTerms_9 X E hr hZ N N v0 v2 v4 v5_1 v7_2 v9_3 σ
theorem kX11_leastTerms (l : Launch) (z : Sx) (hZ : z.2.2.2.1 = kdC) (N : Nat) (v0 : Int64) (v2 : Int64) (v4 : Int32) (σ : Mem) : Ct QL yX11_leastTerms cX11_leastTerms 12 (some .long) 0 0 l z [.long v0, .long v2, .int v4] σ (fX11_leastTerms N v0 v2 v4 σ) := by
  refine Ct_of (by decide +kernel) (Nat.le_of_ble_eq_true rfl) rfl ?_
  intro x _ X E hr
  exact bX11_leastTerms_0 X E hr hZ N v0 v2 v4 σ
def fX10_carryingDamps_b50 (N : Nat) (h : Nat) (rc13 : Int32 → Int32 → Int32 → Mem → Option (Int32 × Mem)) (v2 : Int32) (v3 : Int32) (v4 : Int32) (σ : Mem) : Option (Int32 × Mem) :=
  lt_ (v4 + 1) (fun v4_9 => rc13 v2 v3 v4_9 σ)
set_option maxRecDepth 100000 in
set_option maxHeartbeats 4000000 in
theorem bX10_carryingDamps_50 {x : Cx} {z : Sx} (X : XG x z RX10 cX10_carryingDamps 5 4 95) (E : XE x z) (hr : XR x (some .int)) (hZ : z.2.2.2.1 = kdC) (N : Nat) (h : Nat) (hh : z.2.2.2.1 h = (10, 0)) (rc13 : Int32 → Int32 → Int32 → Mem → Option (Int32 × Mem)) (hc13 : ∀ (v2 : Int32) (v3 : Int32) (v4 : Int32) (σ : Mem), VK x z 5 (BQ QI x z) 13 [(0, .ref (z.2.2.1 h)), (2, .int v2), (3, .int v3), (4, .int v4)] [] σ (rc13 v2 v3 v4 σ)) (v2 : Int32) (v3 : Int32) (v4 : Int32) (σ : Mem) : VK x z 5 (BQ QI x z) 50 [(0, .ref (z.2.2.1 h)), (2, .int v2), (3, .int v3), (4, .int v4)] [] σ (fX10_carryingDamps_b50 N h rc13 v2 v3 v4 σ) := by
  unfold fX10_carryingDamps_b50
  refine V_iincG (L' := fun v4_9 => [(4, .int v4_9), (0, .ref (z.2.2.1 h)), (2, .int v2), (3, .int v3)]) 3 X dX10_carryingDamps_50 rfl rfl (by decide) (fun _ => rfl) (fun v4_9 => ?_)
  refine V_goto (tgt := 13) X dX10_carryingDamps_53 (by decide) ?_
  refine V_sub [1, 2, 3, 0] rfl ?_
  exact hc13 v2 v3 v4_9 σ
def fX10_carryingDamps_b13 (N : Nat) (h : Nat) (rc13 : Int32 → Int32 → Int32 → Mem → Option (Int32 × Mem)) (v2 : Int32) (v3 : Int32) (v4 : Int32) (σ : Mem) : Option (Int32 × Mem) :=
  if 9 < v4 then some (v3, σ) else lt_ (pI σ ((h + 1) + 1) 2 v4) (fun s5 => bd (fX2_vote N (h + 1) v2 s5) (fun r6 s7 => if r6 ≤ 0 then fX10_carryingDamps_b50 N h rc13 v2 v3 v4 s7 else lt_ (v3 ||| ((1 : Int32) <<< (v4 &&& 31))) (fun v3_8 => fX10_carryingDamps_b50 N h rc13 v2 v3_8 v4 s7)))
set_option maxRecDepth 100000 in
set_option maxHeartbeats 4000000 in
theorem bX10_carryingDamps_13 {x : Cx} {z : Sx} (X : XG x z RX10 cX10_carryingDamps 5 4 95) (E : XE x z) (hr : XR x (some .int)) (hZ : z.2.2.2.1 = kdC) (N : Nat) (h : Nat) (hh : z.2.2.2.1 h = (10, 0)) (rc13 : Int32 → Int32 → Int32 → Mem → Option (Int32 × Mem)) (hc13 : ∀ (v2 : Int32) (v3 : Int32) (v4 : Int32) (σ : Mem), VK x z 5 (BQ QI x z) 13 [(0, .ref (z.2.2.1 h)), (2, .int v2), (3, .int v3), (4, .int v4)] [] σ (rc13 v2 v3 v4 σ)) (v2 : Int32) (v3 : Int32) (v4 : Int32) (σ : Mem) : VK x z 5 (BQ QI x z) 13 [(0, .ref (z.2.2.1 h)), (2, .int v2), (3, .int v3), (4, .int v4)] [] σ (fX10_carryingDamps_b13 N h rc13 v2 v3 v4 σ) := by
  unfold fX10_carryingDamps_b13
  refine V_iload 3 X dX10_carryingDamps_13 rfl ?_
  refine V_bipush (v := 9) X dX10_carryingDamps_15 (by decide) ?_
  refine V_icmp_gt (tgt := 56) X dX10_carryingDamps_17 (by decide) ?_ ?_
  · refine V_iload_n 2 X dX10_carryingDamps_56 rfl rfl ?_
    exact V_iret X E hr dX10_carryingDamps_57
  · refine V_aload_n 0 X dX10_carryingDamps_20 rfl rfl ?_
    refine V_getR (k1 := (h + 1)) 0 X dX10_carryingDamps_21 co10 hh (by decide) rfl rfl wfX10_12 ?_
    refine V_getR (k1 := ((h + 1) + 1)) 0 X dX10_carryingDamps_24 co2 (kt10_0 hZ hh) (by decide) rfl rfl wfX10_68 ?_
    refine V_iload 3 X dX10_carryingDamps_27 rfl ?_
    refine V_putIG 2 X dX10_carryingDamps_29 co0 (kt2_0 hZ (kt10_0 hZ hh)) (by decide) rfl wfX10_72 rfl rfl rfl (fun s5 => ?_)
    refine V_aload_n 0 X dX10_carryingDamps_32 rfl rfl ?_
    refine V_getR (k1 := (h + 1)) 0 X dX10_carryingDamps_33 co10 hh (by decide) rfl rfl wfX10_12 ?_
    refine V_iload_n 1 X dX10_carryingDamps_36 rfl rfl ?_
    refine V_callI [.int v2] [] X E dX10_carryingDamps_37 (kX2_vote x.2.1 z hZ N (h + 1) (kt10_0 hZ hh) v2 s5) co2 (kt10_0 hZ hh) gcX10_29 hyX2_vote rfl ⟨by decide, by decide⟩ rfl (Nat.le_of_ble_eq_true rfl) (fun r6 s7 => ?_)
    refine V_if_le (tgt := 50) X dX10_carryingDamps_40 (by decide) ?_ ?_
    · refine V_sub [0, 1, 2, 3] rfl ?_
      exact bX10_carryingDamps_50 X E hr hZ N h hh rc13 hc13 v2 v3 v4 s7
    · refine V_iload_n 2 X dX10_carryingDamps_43 rfl rfl ?_
      refine V_iconst (v := 1) X dX10_carryingDamps_44 (by decide) ?_
      refine V_iload 3 X dX10_carryingDamps_45 rfl ?_
      refine V_ishl X dX10_carryingDamps_47 ?_
      refine V_ior X dX10_carryingDamps_48 ?_
      refine V_istore_nG (L' := fun v3_8 => [(3, .int v3_8), (0, .ref (z.2.2.1 h)), (2, .int v2), (4, .int v4)]) X dX10_carryingDamps_49 rfl (by decide) (fun _ => rfl) (fun v3_8 => ?_)
      refine V_sub [1, 2, 0, 3] rfl ?_
      exact bX10_carryingDamps_50 X E hr hZ N h hh rc13 hc13 v2 v3_8 v4 s7
def fX10_carryingDamps_l13 (N : Nat) (h : Nat) : Nat → Int32 → Int32 → Int32 → Mem → Option (Int32 × Mem)
  | 0 => fun _ _ _ _ => none
  | n + 1 => fX10_carryingDamps_b13 N h (fX10_carryingDamps_l13 N h n)
theorem lX10_carryingDamps_13 {x : Cx} {z : Sx} (X : XG x z RX10 cX10_carryingDamps 5 4 95) (E : XE x z) (hr : XR x (some .int)) (hZ : z.2.2.2.1 = kdC) (N : Nat) (h : Nat) (hh : z.2.2.2.1 h = (10, 0)) (n : Nat) (v2 : Int32) (v3 : Int32) (v4 : Int32) (σ : Mem) : VK x z 5 (BQ QI x z) 13 [(0, .ref (z.2.2.1 h)), (2, .int v2), (3, .int v3), (4, .int v4)] [] σ (fX10_carryingDamps_l13 N h n v2 v3 v4 σ) := by
  induction n generalizing v2 v3 v4 σ with
  | zero => exact V_none
  | succ n ih => exact bX10_carryingDamps_13 X E hr hZ N h hh (fX10_carryingDamps_l13 N h n) ih v2 v3 v4 σ
def fX10_carryingDamps (N : Nat) (h : Nat) (v1 : Nat) (v2 : Int32) (σ : Mem) : Option (Int32 × Mem) :=
  bd (fX2_enter N (h + 1) v1 σ) (fun r1 s2 => lt_ 0 (fun v3_3 => lt_ 0 (fun v4_4 => fX10_carryingDamps_l13 N h N v2 v3_3 v4_4 s2)))
set_option maxRecDepth 100000 in
set_option maxHeartbeats 4000000 in
theorem bX10_carryingDamps_0 {x : Cx} {z : Sx} (X : XG x z RX10 cX10_carryingDamps 5 4 95) (E : XE x z) (hr : XR x (some .int)) (hZ : z.2.2.2.1 = kdC) (N : Nat) (h : Nat) (hh : z.2.2.2.1 h = (10, 0)) (v1 : Nat) (v2 : Int32) (hk1 : z.2.2.2.1 v1 = (0, 0)) (σ : Mem) : VK x z 5 (BQ QI x z) 0 [(0, .ref (z.2.2.1 h)), (1, .ref (z.2.2.1 v1)), (2, .int v2)] [] σ (fX10_carryingDamps N h v1 v2 σ) := by
  unfold fX10_carryingDamps
  refine V_aload_n 0 X dX10_carryingDamps_0 rfl rfl ?_
  refine V_getR (k1 := (h + 1)) 0 X dX10_carryingDamps_1 co10 hh (by decide) rfl rfl wfX10_12 ?_
  refine V_aload_n 1 X dX10_carryingDamps_4 rfl rfl ?_
  refine V_callV [.ref (z.2.2.1 v1)] [] X E dX10_carryingDamps_5 (kX2_enter x.2.1 z hZ N (h + 1) (kt10_0 hZ hh) v1 hk1 σ) co2 (kt10_0 hZ hh) gcX10_25 hyX2_enter rfl ⟨by decide, by decide⟩ rfl (Nat.le_of_ble_eq_true rfl) (fun r1 s2 => ?_)
  refine V_iconst (v := 0) X dX10_carryingDamps_8 (by decide) ?_
  refine V_istore_nG (L' := fun v3_3 => [(3, .int v3_3), (0, .ref (z.2.2.1 h)), (1, .ref (z.2.2.1 v1)), (2, .int v2)]) X dX10_carryingDamps_9 rfl (by decide) (fun _ => rfl) (fun v3_3 => ?_)
  refine V_iconst (v := 0) X dX10_carryingDamps_10 (by decide) ?_
  refine V_istoreG (L' := fun v4_4 => [(4, .int v4_4), (3, .int v3_3), (0, .ref (z.2.2.1 h)), (1, .ref (z.2.2.1 v1)), (2, .int v2)]) X dX10_carryingDamps_11 (by decide) (fun _ => rfl) (fun v4_4 => ?_)
  refine V_sub [2, 4, 1, 0] rfl ?_
  exact lX10_carryingDamps_13 X E hr hZ N h hh N v2 v3_3 v4_4 s2
theorem kX10_carryingDamps (l : Launch) (z : Sx) (hZ : z.2.2.2.1 = kdC) (N : Nat) (h : Nat) (hh : z.2.2.2.1 h = (10, 0)) (v1 : Nat) (v2 : Int32) (hk1 : z.2.2.2.1 v1 = (0, 0)) (σ : Mem) : Ct QI yX10_carryingDamps cX10_carryingDamps 5 (some .int) 4 95 l z [.ref (z.2.2.1 h), .ref (z.2.2.1 v1), .int v2] σ (fX10_carryingDamps N h v1 v2 σ) := by
  refine Ct_of (by decide +kernel) (Nat.le_of_ble_eq_true rfl) rfl ?_
  intro x _ X E hr
  exact bX10_carryingDamps_0 X E hr hZ N h hh v1 v2 hk1 σ
def fJ7_fill_d0a16_b6 (N : Nat) (rc6 : Nat → Int64 → Int32 → Int32 → Mem → Option (Unit × Mem)) (v0 : Nat) (v1 : Int64) (v3 : Int32) (v4 : Int32) (σ : Mem) : Option (Unit × Mem) :=
  if v4 ≤ v3 then some ((), σ) else gd (inb v3 10) (lt_ (pL σ v0 v3.toNatClampNeg v1) (fun s3 => lt_ (v3 + 1) (fun v3_4 => rc6 v0 v1 v3_4 v4 s3)))
set_option maxRecDepth 100000 in
set_option maxHeartbeats 4000000 in
theorem bJ7_fill_d0a16_6 {x : Cx} {z : Sx} (X : XG x z RJ7 cJ7_fill_d0a16 5 0 0) (E : XE x z) (hr : XR x none) (hZ : z.2.2.2.1 = kdC) (N : Nat) (rc6 : Nat → Int64 → Int32 → Int32 → Mem → Option (Unit × Mem)) (hc6 : ∀ (v0 : Nat) (v1 : Int64) (v3 : Int32) (v4 : Int32) (hk0 : z.2.2.2.1 v0 = (53, 10)) (σ : Mem), VK x z 5 (BQ QV x z) 6 [(0, .ref (z.2.2.1 v0)), (1, .long v1), (3, .int v3), (4, .int v4)] [] σ (rc6 v0 v1 v3 v4 σ)) (v0 : Nat) (v1 : Int64) (v3 : Int32) (v4 : Int32) (hk0 : z.2.2.2.1 v0 = (53, 10)) (σ : Mem) : VK x z 5 (BQ QV x z) 6 [(0, .ref (z.2.2.1 v0)), (1, .long v1), (3, .int v3), (4, .int v4)] [] σ (fJ7_fill_d0a16_b6 N rc6 v0 v1 v3 v4 σ) := by
  unfold fJ7_fill_d0a16_b6
  refine V_iload_n 2 X dJ7_fill_d0a16_6 rfl rfl ?_
  refine V_iload 3 X dJ7_fill_d0a16_7 rfl ?_
  refine V_icmp_ge (tgt := 22) X dJ7_fill_d0a16_9 (by decide) ?_ ?_
  · exact V_vret X E hr dJ7_fill_d0a16_22
  · refine V_aload_n 0 X dJ7_fill_d0a16_12 rfl rfl ?_
    refine V_iload_n 2 X dJ7_fill_d0a16_13 rfl rfl ?_
    refine V_lload_n 1 X dJ7_fill_d0a16_14 rfl rfl ?_
    refine V_lastG X dJ7_fill_d0a16_15 hk0 (fun s3 => ?_)
    refine V_iincG (L' := fun v3_4 => [(3, .int v3_4), (0, .ref (z.2.2.1 v0)), (1, .long v1), (4, .int v4)]) 2 X dJ7_fill_d0a16_16 rfl rfl (by decide) (fun _ => rfl) (fun v3_4 => ?_)
    refine V_goto (tgt := 6) X dJ7_fill_d0a16_19 (by decide) ?_
    refine V_sub [1, 2, 0, 3] rfl ?_
    exact hc6 v0 v1 v3_4 v4 hk0 s3
def fJ7_fill_d0a16_l6 (N : Nat) : Nat → Nat → Int64 → Int32 → Int32 → Mem → Option (Unit × Mem)
  | 0 => fun _ _ _ _ _ => none
  | n + 1 => fJ7_fill_d0a16_b6 N (fJ7_fill_d0a16_l6 N n)
theorem lJ7_fill_d0a16_6 {x : Cx} {z : Sx} (X : XG x z RJ7 cJ7_fill_d0a16 5 0 0) (E : XE x z) (hr : XR x none) (hZ : z.2.2.2.1 = kdC) (N : Nat) (n : Nat) (v0 : Nat) (v1 : Int64) (v3 : Int32) (v4 : Int32) (hk0 : z.2.2.2.1 v0 = (53, 10)) (σ : Mem) : VK x z 5 (BQ QV x z) 6 [(0, .ref (z.2.2.1 v0)), (1, .long v1), (3, .int v3), (4, .int v4)] [] σ (fJ7_fill_d0a16_l6 N n v0 v1 v3 v4 σ) := by
  induction n generalizing v0 v1 v3 v4 hk0 σ with
  | zero => exact V_none
  | succ n ih => exact bJ7_fill_d0a16_6 X E hr hZ N (fJ7_fill_d0a16_l6 N n) ih v0 v1 v3 v4 hk0 σ
def fJ7_fill_d0a16 (N : Nat) (v0 : Nat) (v1 : Int64) (σ : Mem) : Option (Unit × Mem) :=
  lt_ 0 (fun v3_1 => lt_ 10 (fun v4_2 => fJ7_fill_d0a16_l6 N N v0 v1 v3_1 v4_2 σ))
set_option maxRecDepth 100000 in
set_option maxHeartbeats 4000000 in
theorem bJ7_fill_d0a16_0 {x : Cx} {z : Sx} (X : XG x z RJ7 cJ7_fill_d0a16 5 0 0) (E : XE x z) (hr : XR x none) (hZ : z.2.2.2.1 = kdC) (N : Nat) (v0 : Nat) (v1 : Int64) (hk0 : z.2.2.2.1 v0 = (53, 10)) (σ : Mem) : VK x z 5 (BQ QV x z) 0 [(0, .ref (z.2.2.1 v0)), (1, .long v1)] [] σ (fJ7_fill_d0a16 N v0 v1 σ) := by
  unfold fJ7_fill_d0a16
  refine V_iconst (v := 0) X dJ7_fill_d0a16_0 (by decide) ?_
  refine V_istore_nG (L' := fun v3_1 => [(3, .int v3_1), (0, .ref (z.2.2.1 v0)), (1, .long v1)]) X dJ7_fill_d0a16_1 rfl (by decide) (fun _ => rfl) (fun v3_1 => ?_)
  refine V_aload_n 1 X dJ7_fill_d0a16_2 rfl rfl ?_
  refine V_alen53 (v := 10) X dJ7_fill_d0a16_3 hk0 (by decide) ?_
  refine V_istoreG (L' := fun v4_2 => [(4, .int v4_2), (3, .int v3_1), (0, .ref (z.2.2.1 v0)), (1, .long v1)]) X dJ7_fill_d0a16_4 (by decide) (fun _ => rfl) (fun v4_2 => ?_)
  refine V_sub [2, 3, 1, 0] rfl ?_
  exact lJ7_fill_d0a16_6 X E hr hZ N N v0 v1 v3_1 v4_2 hk0 σ
theorem kJ7_fill_d0a16 (l : Launch) (z : Sx) (hZ : z.2.2.2.1 = kdC) (N : Nat) (v0 : Nat) (v1 : Int64) (hk0 : z.2.2.2.1 v0 = (53, 10)) (σ : Mem) : Ct QV yJ7_fill_d0a16 cJ7_fill_d0a16 5 none 0 0 l z [.ref (z.2.2.1 v0), .long v1] σ (fJ7_fill_d0a16 N v0 v1 σ) := by
  refine Ct_of (by decide +kernel) (Nat.le_of_ble_eq_true rfl) rfl ?_
  intro x _ X E hr
  exact bJ7_fill_d0a16_0 X E hr hZ N v0 v1 hk0 σ
def fX10_passDay_b10 (N : Nat) (h : Nat) (rc10 : Int32 → Int32 → Mem → Option (Unit × Mem)) (v1 : Int32) (v2 : Int32) (σ : Mem) : Option (Unit × Mem) :=
  if 9 < v2 then gd (decide (kdC (σ.1 h 1).toNatClampNeg = (53, 10))) (gd (decide (kdC (σ.1 h 2).toNatClampNeg = (53, 10))) (lt_ (pI σ h 1 (Int32.ofNat ((σ.1 h 2).toNatClampNeg))) (fun s7 => lt_ (pI s7 h 2 (Int32.ofNat ((σ.1 h 1).toNatClampNeg))) (fun s8 => some ((), s8))))) else gd (decide (kdC (σ.1 h 2).toNatClampNeg = (53, 10))) (gd (inb (mnI 9 (v2 + 1)) 10) (gd (decide (kdC (σ.1 h 1).toNatClampNeg = (53, 10))) (gd (inb v2 10) (gd (inb (mnI 9 (v2 + 1)) 10) (lt_ (pL σ ((σ.1 h 2).toNatClampNeg) (mnI 9 (v2 + 1)).toNatClampNeg ((σ.2 ((σ.1 h 2).toNatClampNeg) (mnI 9 (v2 + 1)).toNatClampNeg) + ((σ.2 ((σ.1 h 1).toNatClampNeg) v2.toNatClampNeg) * ((v1 : Int32).toInt64)))) (fun s11 => gd (decide (kdC (s11.1 h 2).toNatClampNeg = (53, 10))) (gd (inb (mxI 0 (v2 - 1)) 10) (gd (decide (kdC (s11.1 h 1).toNatClampNeg = (53, 10))) (gd (inb v2 10) (gd (inb (mxI 0 (v2 - 1)) 10) (lt_ (pL s11 ((s11.1 h 2).toNatClampNeg) (mxI 0 (v2 - 1)).toNatClampNeg ((s11.2 ((s11.1 h 2).toNatClampNeg) (mxI 0 (v2 - 1)).toNatClampNeg) + ((s11.2 ((s11.1 h 1).toNatClampNeg) v2.toNatClampNeg) * (((10 - v1) : Int32).toInt64)))) (fun s14 => lt_ (v2 + 1) (fun v2_15 => rc10 v1 v2_15 s14)))))))))))))
set_option maxRecDepth 100000 in
set_option maxHeartbeats 4000000 in
theorem bX10_passDay_10 {x : Cx} {z : Sx} (X : XG x z RX10 cX10_passDay 3 1 26) (E : XE x z) (hr : XR x none) (hZ : z.2.2.2.1 = kdC) (N : Nat) (h : Nat) (hh : z.2.2.2.1 h = (10, 0)) (rc10 : Int32 → Int32 → Mem → Option (Unit × Mem)) (hc10 : ∀ (v1 : Int32) (v2 : Int32) (σ : Mem), VK x z 3 (BQ QV x z) 10 [(0, .ref (z.2.2.1 h)), (1, .int v1), (2, .int v2)] [] σ (rc10 v1 v2 σ)) (v1 : Int32) (v2 : Int32) (σ : Mem) : VK x z 3 (BQ QV x z) 10 [(0, .ref (z.2.2.1 h)), (1, .int v1), (2, .int v2)] [] σ (fX10_passDay_b10 N h rc10 v1 v2 σ) := by
  unfold fX10_passDay_b10
  refine V_iload_n 2 X dX10_passDay_10 rfl rfl ?_
  refine V_bipush (v := 9) X dX10_passDay_11 (by decide) ?_
  refine V_icmp_gt (tgt := 74) X dX10_passDay_13 (by decide) ?_ ?_
  · refine V_aload_n 0 X dX10_passDay_74 rfl rfl ?_
    refine V_getQC (K := (53, 10)) 1 X hZ dX10_passDay_75 co10 hh (by decide) rfl wfX10_18 (fun hq5 => ?_)
    refine V_astore_n (L' := [(2, .ref (z.2.2.1 ((σ.1 h 1).toNatClampNeg))), (0, .ref (z.2.2.1 h)), (1, .int v1)]) X dX10_passDay_78 rfl (by decide) rfl ?_
    refine V_aload_n 1 X dX10_passDay_79 rfl rfl ?_
    refine V_aload_n 1 X dX10_passDay_80 rfl rfl ?_
    refine V_getQC (K := (53, 10)) 2 X hZ dX10_passDay_81 co10 hh (by decide) rfl wfX10_22 (fun hq6 => ?_)
    refine V_putQG 1 X dX10_passDay_84 co10 hh (kbl (xz X) hq6 (by decide)) (by decide) rfl wfX10_18 rfl (fun _ => rfl) (fun _ => rfl) (fun s7 => ?_)
    refine V_aload_n 1 X dX10_passDay_87 rfl rfl ?_
    refine V_aload_n 0 X dX10_passDay_88 rfl rfl ?_
    refine V_putQG 2 X dX10_passDay_89 co10 hh (kbl (xz X) hq5 (by decide)) (by decide) rfl wfX10_22 rfl (fun _ => rfl) (fun _ => rfl) (fun s8 => ?_)
    exact V_vret X E hr dX10_passDay_92
  · refine V_aload_n 0 X dX10_passDay_16 rfl rfl ?_
    refine V_getQC (K := (53, 10)) 2 X hZ dX10_passDay_17 co10 hh (by decide) rfl wfX10_22 (fun hq9 => ?_)
    refine V_bipush (v := 9) X dX10_passDay_20 (by decide) ?_
    refine V_iload_n 2 X dX10_passDay_22 rfl rfl ?_
    refine V_iconst (v := 1) X dX10_passDay_23 (by decide) ?_
    refine V_iadd X dX10_passDay_24 ?_
    refine V_mmin X dX10_passDay_25 mtX10_89 mtS_min mtI mtC_min (by decide) (Nat.le_of_ble_eq_true rfl) ?_
    refine V_dup2 X dX10_passDay_28 rfl rfl ?_
    refine V_lald X dX10_passDay_29 hq9 ?_
    refine V_aload_n 0 X dX10_passDay_30 rfl rfl ?_
    refine V_getQC (K := (53, 10)) 1 X hZ dX10_passDay_31 co10 hh (by decide) rfl wfX10_18 (fun hq10 => ?_)
    refine V_iload_n 2 X dX10_passDay_34 rfl rfl ?_
    refine V_lald X dX10_passDay_35 hq10 ?_
    refine V_iload_n 1 X dX10_passDay_36 rfl rfl ?_
    refine V_i2l X dX10_passDay_37 ?_
    refine V_lmul X dX10_passDay_38 ?_
    refine V_ladd X dX10_passDay_39 ?_
    refine V_lastG X dX10_passDay_40 hq9 (fun s11 => ?_)
    refine V_aload_n 0 X dX10_passDay_41 rfl rfl ?_
    refine V_getQC (K := (53, 10)) 2 X hZ dX10_passDay_42 co10 hh (by decide) rfl wfX10_22 (fun hq12 => ?_)
    refine V_iconst (v := 0) X dX10_passDay_45 (by decide) ?_
    refine V_iload_n 2 X dX10_passDay_46 rfl rfl ?_
    refine V_iconst (v := 1) X dX10_passDay_47 (by decide) ?_
    refine V_isub X dX10_passDay_48 ?_
    refine V_mmax X dX10_passDay_49 mtX10_95 mtS_max mtI mtC_max (by decide) (Nat.le_of_ble_eq_true rfl) ?_
    refine V_dup2 X dX10_passDay_52 rfl rfl ?_
    refine V_lald X dX10_passDay_53 hq12 ?_
    refine V_aload_n 0 X dX10_passDay_54 rfl rfl ?_
    refine V_getQC (K := (53, 10)) 1 X hZ dX10_passDay_55 co10 hh (by decide) rfl wfX10_18 (fun hq13 => ?_)
    refine V_iload_n 2 X dX10_passDay_58 rfl rfl ?_
    refine V_lald X dX10_passDay_59 hq13 ?_
    refine V_bipush (v := 10) X dX10_passDay_60 (by decide) ?_
    refine V_iload_n 1 X dX10_passDay_62 rfl rfl ?_
    refine V_isub X dX10_passDay_63 ?_
    refine V_i2l X dX10_passDay_64 ?_
    refine V_lmul X dX10_passDay_65 ?_
    refine V_ladd X dX10_passDay_66 ?_
    refine V_lastG X dX10_passDay_67 hq12 (fun s14 => ?_)
    refine V_iincG (L' := fun v2_15 => [(2, .int v2_15), (0, .ref (z.2.2.1 h)), (1, .int v1)]) 2 X dX10_passDay_68 rfl rfl (by decide) (fun _ => rfl) (fun v2_15 => ?_)
    refine V_goto (tgt := 10) X dX10_passDay_71 (by decide) ?_
    refine V_sub [1, 2, 0] rfl ?_
    exact hc10 v1 v2_15 s14
def fX10_passDay_l10 (N : Nat) (h : Nat) : Nat → Int32 → Int32 → Mem → Option (Unit × Mem)
  | 0 => fun _ _ _ => none
  | n + 1 => fX10_passDay_b10 N h (fX10_passDay_l10 N h n)
theorem lX10_passDay_10 {x : Cx} {z : Sx} (X : XG x z RX10 cX10_passDay 3 1 26) (E : XE x z) (hr : XR x none) (hZ : z.2.2.2.1 = kdC) (N : Nat) (h : Nat) (hh : z.2.2.2.1 h = (10, 0)) (n : Nat) (v1 : Int32) (v2 : Int32) (σ : Mem) : VK x z 3 (BQ QV x z) 10 [(0, .ref (z.2.2.1 h)), (1, .int v1), (2, .int v2)] [] σ (fX10_passDay_l10 N h n v1 v2 σ) := by
  induction n generalizing v1 v2 σ with
  | zero => exact V_none
  | succ n ih => exact bX10_passDay_10 X E hr hZ N h hh (fX10_passDay_l10 N h n) ih v1 v2 σ
def fX10_passDay (N : Nat) (h : Nat) (v1 : Int32) (σ : Mem) : Option (Unit × Mem) :=
  gd (decide (kdC (σ.1 h 2).toNatClampNeg = (53, 10))) (bd (fJ7_fill_d0a16 N ((σ.1 h 2).toNatClampNeg) 0 σ) (fun r2 s3 => lt_ 0 (fun v2_4 => fX10_passDay_l10 N h N v1 v2_4 s3)))
set_option maxRecDepth 100000 in
set_option maxHeartbeats 4000000 in
theorem bX10_passDay_0 {x : Cx} {z : Sx} (X : XG x z RX10 cX10_passDay 3 1 26) (E : XE x z) (hr : XR x none) (hZ : z.2.2.2.1 = kdC) (N : Nat) (h : Nat) (hh : z.2.2.2.1 h = (10, 0)) (v1 : Int32) (σ : Mem) : VK x z 3 (BQ QV x z) 0 [(0, .ref (z.2.2.1 h)), (1, .int v1)] [] σ (fX10_passDay N h v1 σ) := by
  unfold fX10_passDay
  refine V_aload_n 0 X dX10_passDay_0 rfl rfl ?_
  refine V_getQC (K := (53, 10)) 2 X hZ dX10_passDay_1 co10 hh (by decide) rfl wfX10_22 (fun hq1 => ?_)
  refine V_lconst (v := 0) X dX10_passDay_4 (by decide) ?_
  refine V_calSV [.ref (z.2.2.1 ((σ.1 h 2).toNatClampNeg)), .long 0] [] X E dX10_passDay_5 (kJ7_fill_d0a16 x.2.1 z hZ N ((σ.1 h 2).toNatClampNeg) 0 hq1 σ) gcX10_79 hyJ7_fill_d0a16 rfl ⟨by decide, by decide⟩ rfl (Nat.le_of_ble_eq_true rfl) (fun r2 s3 => ?_)
  refine V_iconst (v := 0) X dX10_passDay_8 (by decide) ?_
  refine V_istore_nG (L' := fun v2_4 => [(2, .int v2_4), (0, .ref (z.2.2.1 h)), (1, .int v1)]) X dX10_passDay_9 rfl (by decide) (fun _ => rfl) (fun v2_4 => ?_)
  refine V_sub [1, 2, 0] rfl ?_
  exact lX10_passDay_10 X E hr hZ N h hh N v1 v2_4 s3
theorem kX10_passDay (l : Launch) (z : Sx) (hZ : z.2.2.2.1 = kdC) (N : Nat) (h : Nat) (hh : z.2.2.2.1 h = (10, 0)) (v1 : Int32) (σ : Mem) : Ct QV yX10_passDay cX10_passDay 3 none 1 26 l z [.ref (z.2.2.1 h), .int v1] σ (fX10_passDay N h v1 σ) := by
  refine Ct_of (by decide +kernel) (Nat.le_of_ble_eq_true rfl) rfl ?_
  intro x _ X E hr
  exact bX10_passDay_0 X E hr hZ N h hh v1 σ
def fX10_chancesBehind_b98 (N : Nat) (h : Nat) (rc69 : Int32 → Int64 → Int32 → Mem → Option (Int64 × Mem)) (v5 : Int32) (v6 : Int64) (v8 : Int32) (σ : Mem) : Option (Int64 × Mem) :=
  lt_ (v8 + 1) (fun v8_17 => rc69 v5 v6 v8_17 σ)
set_option maxRecDepth 100000 in
set_option maxHeartbeats 4000000 in
theorem bX10_chancesBehind_98 {x : Cx} {z : Sx} (X : XG x z RX10 cX10_chancesBehind 9 5 119) (E : XE x z) (hr : XR x (some .long)) (hZ : z.2.2.2.1 = kdC) (N : Nat) (h : Nat) (hh : z.2.2.2.1 h = (10, 0)) (rc69 : Int32 → Int64 → Int32 → Mem → Option (Int64 × Mem)) (hc69 : ∀ (v5 : Int32) (v6 : Int64) (v8 : Int32) (σ : Mem), VK x z 9 (BQ QL x z) 69 [(0, .ref (z.2.2.1 h)), (5, .int v5), (6, .long v6), (8, .int v8)] [] σ (rc69 v5 v6 v8 σ)) (v5 : Int32) (v6 : Int64) (v8 : Int32) (σ : Mem) : VK x z 9 (BQ QL x z) 98 [(0, .ref (z.2.2.1 h)), (5, .int v5), (6, .long v6), (8, .int v8)] [] σ (fX10_chancesBehind_b98 N h rc69 v5 v6 v8 σ) := by
  unfold fX10_chancesBehind_b98
  refine V_iincG (L' := fun v8_17 => [(8, .int v8_17), (0, .ref (z.2.2.1 h)), (5, .int v5), (6, .long v6)]) 3 X dX10_chancesBehind_98 rfl rfl (by decide) (fun _ => rfl) (fun v8_17 => ?_)
  refine V_goto (tgt := 69) X dX10_chancesBehind_101 (by decide) ?_
  refine V_sub [1, 2, 3, 0] rfl ?_
  exact hc69 v5 v6 v8_17 σ
def fX10_chancesBehind_b69 (N : Nat) (h : Nat) (rc69 : Int32 → Int64 → Int32 → Mem → Option (Int64 × Mem)) (v5 : Int32) (v6 : Int64) (v8 : Int32) (σ : Mem) : Option (Int64 × Mem) :=
  if 9 < v8 then some (v6, σ) else if ((v5 >>> (v8 &&& 31)) &&& 1) = 0 then fX10_chancesBehind_b98 N h rc69 v5 v6 v8 σ else gd (decide (kdC (σ.1 h 1).toNatClampNeg = (53, 10))) (gd (inb v8 10) (lt_ (v6 + (σ.2 ((σ.1 h 1).toNatClampNeg) v8.toNatClampNeg)) (fun v6_16 => fX10_chancesBehind_b98 N h rc69 v5 v6_16 v8 σ)))
set_option maxRecDepth 100000 in
set_option maxHeartbeats 4000000 in
theorem bX10_chancesBehind_69 {x : Cx} {z : Sx} (X : XG x z RX10 cX10_chancesBehind 9 5 119) (E : XE x z) (hr : XR x (some .long)) (hZ : z.2.2.2.1 = kdC) (N : Nat) (h : Nat) (hh : z.2.2.2.1 h = (10, 0)) (rc69 : Int32 → Int64 → Int32 → Mem → Option (Int64 × Mem)) (hc69 : ∀ (v5 : Int32) (v6 : Int64) (v8 : Int32) (σ : Mem), VK x z 9 (BQ QL x z) 69 [(0, .ref (z.2.2.1 h)), (5, .int v5), (6, .long v6), (8, .int v8)] [] σ (rc69 v5 v6 v8 σ)) (v5 : Int32) (v6 : Int64) (v8 : Int32) (σ : Mem) : VK x z 9 (BQ QL x z) 69 [(0, .ref (z.2.2.1 h)), (5, .int v5), (6, .long v6), (8, .int v8)] [] σ (fX10_chancesBehind_b69 N h rc69 v5 v6 v8 σ) := by
  unfold fX10_chancesBehind_b69
  refine V_iload 3 X dX10_chancesBehind_69 rfl ?_
  refine V_bipush (v := 9) X dX10_chancesBehind_71 (by decide) ?_
  refine V_icmp_gt (tgt := 104) X dX10_chancesBehind_73 (by decide) ?_ ?_
  · refine V_lload 2 X dX10_chancesBehind_104 rfl ?_
    exact V_lret X E hr dX10_chancesBehind_106
  · refine V_iload 1 X dX10_chancesBehind_76 rfl ?_
    refine V_iload 3 X dX10_chancesBehind_78 rfl ?_
    refine V_ishr X dX10_chancesBehind_80 ?_
    refine V_iconst (v := 1) X dX10_chancesBehind_81 (by decide) ?_
    refine V_iand X dX10_chancesBehind_82 ?_
    refine V_if_eq (tgt := 98) X dX10_chancesBehind_83 (by decide) ?_ ?_
    · refine V_sub [0, 1, 2, 3] rfl ?_
      exact bX10_chancesBehind_98 X E hr hZ N h hh rc69 hc69 v5 v6 v8 σ
    · refine V_lload 2 X dX10_chancesBehind_86 rfl ?_
      refine V_aload_n 0 X dX10_chancesBehind_88 rfl rfl ?_
      refine V_getQC (K := (53, 10)) 1 X hZ dX10_chancesBehind_89 co10 hh (by decide) rfl wfX10_18 (fun hq15 => ?_)
      refine V_iload 3 X dX10_chancesBehind_92 rfl ?_
      refine V_lald X dX10_chancesBehind_94 hq15 ?_
      refine V_ladd X dX10_chancesBehind_95 ?_
      refine V_lstoreG (L' := fun v6_16 => [(6, .long v6_16), (0, .ref (z.2.2.1 h)), (5, .int v5), (8, .int v8)]) X dX10_chancesBehind_96 (by decide) (fun _ => rfl) (fun v6_16 => ?_)
      refine V_sub [1, 2, 0, 3] rfl ?_
      exact bX10_chancesBehind_98 X E hr hZ N h hh rc69 hc69 v5 v6_16 v8 σ
def fX10_chancesBehind_l69 (N : Nat) (h : Nat) : Nat → Int32 → Int64 → Int32 → Mem → Option (Int64 × Mem)
  | 0 => fun _ _ _ _ => none
  | n + 1 => fX10_chancesBehind_b69 N h (fX10_chancesBehind_l69 N h n)
theorem lX10_chancesBehind_69 {x : Cx} {z : Sx} (X : XG x z RX10 cX10_chancesBehind 9 5 119) (E : XE x z) (hr : XR x (some .long)) (hZ : z.2.2.2.1 = kdC) (N : Nat) (h : Nat) (hh : z.2.2.2.1 h = (10, 0)) (n : Nat) (v5 : Int32) (v6 : Int64) (v8 : Int32) (σ : Mem) : VK x z 9 (BQ QL x z) 69 [(0, .ref (z.2.2.1 h)), (5, .int v5), (6, .long v6), (8, .int v8)] [] σ (fX10_chancesBehind_l69 N h n v5 v6 v8 σ) := by
  induction n generalizing v5 v6 v8 σ with
  | zero => exact V_none
  | succ n ih => exact bX10_chancesBehind_69 X E hr hZ N h hh (fX10_chancesBehind_l69 N h n) ih v5 v6 v8 σ
def fX10_chancesBehind_b45 (N : Nat) (h : Nat) (rc45 : Int32 → Int32 → Int32 → Int32 → Mem → Option (Int64 × Mem)) (v3 : Int32) (v4 : Int32) (v5 : Int32) (v6 : Int32) (σ : Mem) : Option (Int64 × Mem) :=
  if v3 ≤ v6 then lt_ 0 (fun v6_10 => lt_ 0 (fun v8_11 => fX10_chancesBehind_l69 N h N v5 v6_10 v8_11 σ)) else bd (fX10_passDay N h v4 σ) (fun r12 s13 => lt_ (v6 + 1) (fun v6_14 => rc45 v3 v4 v5 v6_14 s13))
set_option maxRecDepth 100000 in
set_option maxHeartbeats 4000000 in
theorem bX10_chancesBehind_45 {x : Cx} {z : Sx} (X : XG x z RX10 cX10_chancesBehind 9 5 119) (E : XE x z) (hr : XR x (some .long)) (hZ : z.2.2.2.1 = kdC) (N : Nat) (h : Nat) (hh : z.2.2.2.1 h = (10, 0)) (rc45 : Int32 → Int32 → Int32 → Int32 → Mem → Option (Int64 × Mem)) (hc45 : ∀ (v3 : Int32) (v4 : Int32) (v5 : Int32) (v6 : Int32) (σ : Mem), VK x z 9 (BQ QL x z) 45 [(0, .ref (z.2.2.1 h)), (3, .int v3), (4, .int v4), (5, .int v5), (6, .int v6)] [] σ (rc45 v3 v4 v5 v6 σ)) (v3 : Int32) (v4 : Int32) (v5 : Int32) (v6 : Int32) (σ : Mem) : VK x z 9 (BQ QL x z) 45 [(0, .ref (z.2.2.1 h)), (3, .int v3), (4, .int v4), (5, .int v5), (6, .int v6)] [] σ (fX10_chancesBehind_b45 N h rc45 v3 v4 v5 v6 σ) := by
  unfold fX10_chancesBehind_b45
  refine V_iload 4 X dX10_chancesBehind_45 rfl ?_
  refine V_iload_n 1 X dX10_chancesBehind_47 rfl rfl ?_
  refine V_icmp_ge (tgt := 63) X dX10_chancesBehind_48 (by decide) ?_ ?_
  · refine V_lconst (v := 0) X dX10_chancesBehind_63 (by decide) ?_
    refine V_lstoreG (L' := fun v6_10 => [(6, .long v6_10), (0, .ref (z.2.2.1 h)), (3, .int v3), (4, .int v4), (5, .int v5)]) X dX10_chancesBehind_64 (by decide) (fun _ => rfl) (fun v6_10 => ?_)
    refine V_iconst (v := 0) X dX10_chancesBehind_66 (by decide) ?_
    refine V_istoreG (L' := fun v8_11 => [(8, .int v8_11), (6, .long v6_10), (0, .ref (z.2.2.1 h)), (3, .int v3), (4, .int v4), (5, .int v5)]) X dX10_chancesBehind_67 (by decide) (fun _ => rfl) (fun v8_11 => ?_)
    refine V_sub [2, 5, 1, 0] rfl ?_
    exact lX10_chancesBehind_69 X E hr hZ N h hh N v5 v6_10 v8_11 σ
  · refine V_aload_n 0 X dX10_chancesBehind_51 rfl rfl ?_
    refine V_iload 2 X dX10_chancesBehind_52 rfl ?_
    refine V_callV [.int v4] [] X E dX10_chancesBehind_54 (kX10_passDay x.2.1 z hZ N h hh v4 σ) co10 hh gcX10_85 hyX10_passDay rfl ⟨by decide, by decide⟩ rfl (Nat.le_of_ble_eq_true rfl) (fun r12 s13 => ?_)
    refine V_iincG (L' := fun v6_14 => [(6, .int v6_14), (0, .ref (z.2.2.1 h)), (3, .int v3), (4, .int v4), (5, .int v5)]) 4 X dX10_chancesBehind_57 rfl rfl (by decide) (fun _ => rfl) (fun v6_14 => ?_)
    refine V_goto (tgt := 45) X dX10_chancesBehind_60 (by decide) ?_
    refine V_sub [1, 2, 3, 4, 0] rfl ?_
    exact hc45 v3 v4 v5 v6_14 s13
def fX10_chancesBehind_l45 (N : Nat) (h : Nat) : Nat → Int32 → Int32 → Int32 → Int32 → Mem → Option (Int64 × Mem)
  | 0 => fun _ _ _ _ _ => none
  | n + 1 => fX10_chancesBehind_b45 N h (fX10_chancesBehind_l45 N h n)
theorem lX10_chancesBehind_45 {x : Cx} {z : Sx} (X : XG x z RX10 cX10_chancesBehind 9 5 119) (E : XE x z) (hr : XR x (some .long)) (hZ : z.2.2.2.1 = kdC) (N : Nat) (h : Nat) (hh : z.2.2.2.1 h = (10, 0)) (n : Nat) (v3 : Int32) (v4 : Int32) (v5 : Int32) (v6 : Int32) (σ : Mem) : VK x z 9 (BQ QL x z) 45 [(0, .ref (z.2.2.1 h)), (3, .int v3), (4, .int v4), (5, .int v5), (6, .int v6)] [] σ (fX10_chancesBehind_l45 N h n v3 v4 v5 v6 σ) := by
  induction n generalizing v3 v4 v5 v6 σ with
  | zero => exact V_none
  | succ n ih => exact bX10_chancesBehind_45 X E hr hZ N h hh (fX10_chancesBehind_l45 N h n) ih v3 v4 v5 v6 σ
def fX10_chancesBehind_b42 (N : Nat) (h : Nat) (v3 : Int32) (v4 : Int32) (v5 : Int32) (σ : Mem) : Option (Int64 × Mem) :=
  lt_ 0 (fun v6_9 => fX10_chancesBehind_l45 N h N v3 v4 v5 v6_9 σ)
set_option maxRecDepth 100000 in
set_option maxHeartbeats 4000000 in
theorem bX10_chancesBehind_42 {x : Cx} {z : Sx} (X : XG x z RX10 cX10_chancesBehind 9 5 119) (E : XE x z) (hr : XR x (some .long)) (hZ : z.2.2.2.1 = kdC) (N : Nat) (h : Nat) (hh : z.2.2.2.1 h = (10, 0)) (v3 : Int32) (v4 : Int32) (v5 : Int32) (σ : Mem) : VK x z 9 (BQ QL x z) 42 [(0, .ref (z.2.2.1 h)), (3, .int v3), (4, .int v4), (5, .int v5)] [] σ (fX10_chancesBehind_b42 N h v3 v4 v5 σ) := by
  unfold fX10_chancesBehind_b42
  refine V_iconst (v := 0) X dX10_chancesBehind_42 (by decide) ?_
  refine V_istoreG (L' := fun v6_9 => [(6, .int v6_9), (0, .ref (z.2.2.1 h)), (3, .int v3), (4, .int v4), (5, .int v5)]) X dX10_chancesBehind_43 (by decide) (fun _ => rfl) (fun v6_9 => ?_)
  refine V_sub [1, 2, 3, 4, 0] rfl ?_
  exact lX10_chancesBehind_45 X E hr hZ N h hh N v3 v4 v5 v6_9 σ
def fX10_chancesBehind (N : Nat) (h : Nat) (v1 : Nat) (v2 : Int32) (v3 : Int32) (v4 : Int32) (σ : Mem) : Option (Int64 × Mem) :=
  bd (fX10_carryingDamps N h v1 v2 σ) (fun r1 s2 => lt_ r1 (fun v5_3 => gd (decide (kdC (s2.1 h 1).toNatClampNeg = (53, 10))) (bd (fJ7_fill_d0a16 N ((s2.1 h 1).toNatClampNeg) 0 s2) (fun r5 s6 => if (s6.1 v1 2) < 0 then fX10_chancesBehind_b42 N h v3 v4 v5_3 s6 else if 9 < (s6.1 v1 2) then fX10_chancesBehind_b42 N h v3 v4 v5_3 s6 else gd (decide (kdC (s6.1 h 1).toNatClampNeg = (53, 10))) (gd (inb (s6.1 v1 2) 10) (lt_ (pL s6 ((s6.1 h 1).toNatClampNeg) (s6.1 v1 2).toNatClampNeg 1) (fun s8 => fX10_chancesBehind_b42 N h v3 v4 v5_3 s8)))))))
set_option maxRecDepth 100000 in
set_option maxHeartbeats 4000000 in
theorem bX10_chancesBehind_0 {x : Cx} {z : Sx} (X : XG x z RX10 cX10_chancesBehind 9 5 119) (E : XE x z) (hr : XR x (some .long)) (hZ : z.2.2.2.1 = kdC) (N : Nat) (h : Nat) (hh : z.2.2.2.1 h = (10, 0)) (v1 : Nat) (v2 : Int32) (v3 : Int32) (v4 : Int32) (hk1 : z.2.2.2.1 v1 = (0, 0)) (σ : Mem) : VK x z 9 (BQ QL x z) 0 [(0, .ref (z.2.2.1 h)), (1, .ref (z.2.2.1 v1)), (2, .int v2), (3, .int v3), (4, .int v4)] [] σ (fX10_chancesBehind N h v1 v2 v3 v4 σ) := by
  unfold fX10_chancesBehind
  refine V_aload_n 0 X dX10_chancesBehind_0 rfl rfl ?_
  refine V_aload_n 1 X dX10_chancesBehind_1 rfl rfl ?_
  refine V_iload_n 2 X dX10_chancesBehind_2 rfl rfl ?_
  refine V_callI [.ref (z.2.2.1 v1), .int v2] [] X E dX10_chancesBehind_3 (kX10_carryingDamps x.2.1 z hZ N h hh v1 v2 hk1 σ) co10 hh gcX10_75 hyX10_carryingDamps rfl ⟨by decide, by decide⟩ rfl (Nat.le_of_ble_eq_true rfl) (fun r1 s2 => ?_)
  refine V_istoreG (L' := fun v5_3 => [(5, .int v5_3), (0, .ref (z.2.2.1 h)), (1, .ref (z.2.2.1 v1)), (2, .int v2), (3, .int v3), (4, .int v4)]) X dX10_chancesBehind_6 (by decide) (fun _ => rfl) (fun v5_3 => ?_)
  refine V_aload_n 1 X dX10_chancesBehind_8 rfl rfl ?_
  refine V_getQC (K := (53, 10)) 1 X hZ dX10_chancesBehind_9 co10 hh (by decide) rfl wfX10_18 (fun hq4 => ?_)
  refine V_lconst (v := 0) X dX10_chancesBehind_12 (by decide) ?_
  refine V_calSV [.ref (z.2.2.1 ((s2.1 h 1).toNatClampNeg)), .long 0] [] X E dX10_chancesBehind_13 (kJ7_fill_d0a16 x.2.1 z hZ N ((s2.1 h 1).toNatClampNeg) 0 hq4 s2) gcX10_79 hyJ7_fill_d0a16 rfl ⟨by decide, by decide⟩ rfl (Nat.le_of_ble_eq_true rfl) (fun r5 s6 => ?_)
  refine V_aload_n 2 X dX10_chancesBehind_16 rfl rfl ?_
  refine V_getI 2 X dX10_chancesBehind_17 co0 hk1 (by decide) rfl wfX10_72 ?_
  refine V_if_lt (tgt := 42) X dX10_chancesBehind_20 (by decide) ?_ ?_
  · refine V_sub [1, 4, 5, 0] rfl ?_
    exact bX10_chancesBehind_42 X E hr hZ N h hh v3 v4 v5_3 s6
  · refine V_aload_n 2 X dX10_chancesBehind_23 rfl rfl ?_
    refine V_getI 2 X dX10_chancesBehind_24 co0 hk1 (by decide) rfl wfX10_72 ?_
    refine V_bipush (v := 9) X dX10_chancesBehind_27 (by decide) ?_
    refine V_icmp_gt (tgt := 42) X dX10_chancesBehind_29 (by decide) ?_ ?_
    · refine V_sub [1, 4, 5, 0] rfl ?_
      exact bX10_chancesBehind_42 X E hr hZ N h hh v3 v4 v5_3 s6
    · refine V_aload_n 1 X dX10_chancesBehind_32 rfl rfl ?_
      refine V_getQC (K := (53, 10)) 1 X hZ dX10_chancesBehind_33 co10 hh (by decide) rfl wfX10_18 (fun hq7 => ?_)
      refine V_aload_n 2 X dX10_chancesBehind_36 rfl rfl ?_
      refine V_getI 2 X dX10_chancesBehind_37 co0 hk1 (by decide) rfl wfX10_72 ?_
      refine V_lconst (v := 1) X dX10_chancesBehind_40 (by decide) ?_
      refine V_lastG X dX10_chancesBehind_41 hq7 (fun s8 => ?_)
      refine V_sub [1, 4, 5, 0] rfl ?_
      exact bX10_chancesBehind_42 X E hr hZ N h hh v3 v4 v5_3 s8
theorem kX10_chancesBehind (l : Launch) (z : Sx) (hZ : z.2.2.2.1 = kdC) (N : Nat) (h : Nat) (hh : z.2.2.2.1 h = (10, 0)) (v1 : Nat) (v2 : Int32) (v3 : Int32) (v4 : Int32) (hk1 : z.2.2.2.1 v1 = (0, 0)) (σ : Mem) : Ct QL yX10_chancesBehind cX10_chancesBehind 9 (some .long) 5 119 l z [.ref (z.2.2.1 h), .ref (z.2.2.1 v1), .int v2, .int v3, .int v4] σ (fX10_chancesBehind N h v1 v2 v3 v4 σ) := by
  refine Ct_of (by decide +kernel) (Nat.le_of_ble_eq_true rfl) rfl ?_
  intro x _ X E hr
  exact bX10_chancesBehind_0 X E hr hZ N h hh v1 v2 v3 v4 hk1 σ
def fX11_powerOfTen_b4 (N : Nat) (rc4 : Int32 → Int64 → Int32 → Mem → Option (Int64 × Mem)) (v0 : Int32) (v1 : Int64) (v3 : Int32) (σ : Mem) : Option (Int64 × Mem) :=
  if v0 ≤ v3 then some (v1, σ) else lt_ (v1 * 10) (fun v1_3 => lt_ (v3 + 1) (fun v3_4 => rc4 v0 v1_3 v3_4 σ))
set_option maxRecDepth 100000 in
set_option maxHeartbeats 4000000 in
theorem bX11_powerOfTen_4 {x : Cx} {z : Sx} (X : XG x z RX11 cX11_powerOfTen 4 0 0) (E : XE x z) (hr : XR x (some .long)) (hZ : z.2.2.2.1 = kdC) (N : Nat) (rc4 : Int32 → Int64 → Int32 → Mem → Option (Int64 × Mem)) (hc4 : ∀ (v0 : Int32) (v1 : Int64) (v3 : Int32) (σ : Mem), VK x z 4 (BQ QL x z) 4 [(0, .int v0), (1, .long v1), (3, .int v3)] [] σ (rc4 v0 v1 v3 σ)) (v0 : Int32) (v1 : Int64) (v3 : Int32) (σ : Mem) : VK x z 4 (BQ QL x z) 4 [(0, .int v0), (1, .long v1), (3, .int v3)] [] σ (fX11_powerOfTen_b4 N rc4 v0 v1 v3 σ) := by
  unfold fX11_powerOfTen_b4
  refine V_iload_n 2 X dX11_powerOfTen_4 rfl rfl ?_
  refine V_iload_n 0 X dX11_powerOfTen_5 rfl rfl ?_
  refine V_icmp_ge (tgt := 21) X dX11_powerOfTen_6 (by decide) ?_ ?_
  · refine V_lload_n 1 X dX11_powerOfTen_21 rfl rfl ?_
    exact V_lret X E hr dX11_powerOfTen_22
  · refine V_lload_n 1 X dX11_powerOfTen_9 rfl rfl ?_
    refine V_ldc2 (v := 10) X dX11_powerOfTen_10 csX11_367 ?_
    refine V_lmul X dX11_powerOfTen_13 ?_
    refine V_lstore_nG (L' := fun v1_3 => [(1, .long v1_3), (0, .int v0), (3, .int v3)]) X dX11_powerOfTen_14 rfl (by decide) (fun _ => rfl) (fun v1_3 => ?_)
    refine V_iincG (L' := fun v3_4 => [(3, .int v3_4), (1, .long v1_3), (0, .int v0)]) 2 X dX11_powerOfTen_15 rfl rfl (by decide) (fun _ => rfl) (fun v3_4 => ?_)
    refine V_goto (tgt := 4) X dX11_powerOfTen_18 (by decide) ?_
    refine V_sub [2, 1, 0] rfl ?_
    exact hc4 v0 v1_3 v3_4 σ
def fX11_powerOfTen_l4 (N : Nat) : Nat → Int32 → Int64 → Int32 → Mem → Option (Int64 × Mem)
  | 0 => fun _ _ _ _ => none
  | n + 1 => fX11_powerOfTen_b4 N (fX11_powerOfTen_l4 N n)
theorem lX11_powerOfTen_4 {x : Cx} {z : Sx} (X : XG x z RX11 cX11_powerOfTen 4 0 0) (E : XE x z) (hr : XR x (some .long)) (hZ : z.2.2.2.1 = kdC) (N : Nat) (n : Nat) (v0 : Int32) (v1 : Int64) (v3 : Int32) (σ : Mem) : VK x z 4 (BQ QL x z) 4 [(0, .int v0), (1, .long v1), (3, .int v3)] [] σ (fX11_powerOfTen_l4 N n v0 v1 v3 σ) := by
  induction n generalizing v0 v1 v3 σ with
  | zero => exact V_none
  | succ n ih => exact bX11_powerOfTen_4 X E hr hZ N (fX11_powerOfTen_l4 N n) ih v0 v1 v3 σ
def fX11_powerOfTen (N : Nat) (v0 : Int32) (σ : Mem) : Option (Int64 × Mem) :=
  lt_ 1 (fun v1_1 => lt_ 0 (fun v3_2 => fX11_powerOfTen_l4 N N v0 v1_1 v3_2 σ))
set_option maxRecDepth 100000 in
set_option maxHeartbeats 4000000 in
theorem bX11_powerOfTen_0 {x : Cx} {z : Sx} (X : XG x z RX11 cX11_powerOfTen 4 0 0) (E : XE x z) (hr : XR x (some .long)) (hZ : z.2.2.2.1 = kdC) (N : Nat) (v0 : Int32) (σ : Mem) : VK x z 4 (BQ QL x z) 0 [(0, .int v0)] [] σ (fX11_powerOfTen N v0 σ) := by
  unfold fX11_powerOfTen
  refine V_lconst (v := 1) X dX11_powerOfTen_0 (by decide) ?_
  refine V_lstore_nG (L' := fun v1_1 => [(1, .long v1_1), (0, .int v0)]) X dX11_powerOfTen_1 rfl (by decide) (fun _ => rfl) (fun v1_1 => ?_)
  refine V_iconst (v := 0) X dX11_powerOfTen_2 (by decide) ?_
  refine V_istore_nG (L' := fun v3_2 => [(3, .int v3_2), (1, .long v1_1), (0, .int v0)]) X dX11_powerOfTen_3 rfl (by decide) (fun _ => rfl) (fun v3_2 => ?_)
  refine V_sub [2, 1, 0] rfl ?_
  exact lX11_powerOfTen_4 X E hr hZ N N v0 v1_1 v3_2 σ
theorem kX11_powerOfTen (l : Launch) (z : Sx) (hZ : z.2.2.2.1 = kdC) (N : Nat) (v0 : Int32) (σ : Mem) : Ct QL yX11_powerOfTen cX11_powerOfTen 4 (some .long) 0 0 l z [.int v0] σ (fX11_powerOfTen N v0 σ) := by
  refine Ct_of (by decide +kernel) (Nat.le_of_ble_eq_true rfl) rfl ?_
  intro x _ X E hr
  exact bX11_powerOfTen_0 X E hr hZ N v0 σ
def fX11_weather (N : Nat) (h : Nat) (v1 : Int32) (v2 : Int32) (v3 : Int32) (v4 : Int32) (v5 : Int32) (σ : Mem) : Option (Int64 × Mem) :=
  bd (fX11_asked N h v1 v2 σ) (fun or1 s2 => mqK (0, 0) or1 (some ((-1), s2)) (fun r1 => if v3 < 0 then some ((-1), s2) else if 9 < v3 then some ((-1), s2) else if v4 < 0 then some ((-1), s2) else if v4 ≤ 10 then bd (fX10_chancesBehind N (h + 220) r1 v2 v3 v4 s2) (fun r4 s5 => bd (fX11_powerOfTen N v3 s5) (fun r6 s7 => bd (fX11_leastTerms N r4 r6 v5 s7) (fun r8 s9 => some (r8, s9)))) else some ((-1), s2)))
set_option maxRecDepth 100000 in
set_option maxHeartbeats 4000000 in
theorem bX11_weather_0 {x : Cx} {z : Sx} (X : XG x z RX11 cX11_weather 7 6 147) (E : XE x z) (hr : XR x (some .long)) (hZ : z.2.2.2.1 = kdC) (N : Nat) (h : Nat) (hh : z.2.2.2.1 h = (11, 0)) (v1 : Int32) (v2 : Int32) (v3 : Int32) (v4 : Int32) (v5 : Int32) (σ : Mem) : VK x z 7 (BQ QL x z) 0 [(0, .ref (z.2.2.1 h)), (1, .int v1), (2, .int v2), (3, .int v3), (4, .int v4), (5, .int v5)] [] σ (fX11_weather N h v1 v2 v3 v4 v5 σ) := by
  unfold fX11_weather
  refine V_aload_n 0 X dX11_weather_0 rfl rfl ?_
  refine V_iload_n 1 X dX11_weather_1 rfl rfl ?_
  refine V_iload_n 2 X dX11_weather_2 rfl rfl ?_
  refine V_callQC (K := (0, 0)) [.int v1, .int v2] [] X E hZ dX11_weather_3 (kX11_asked x.2.1 z hZ N h hh v1 v2 σ) co11 hh gcX11_115 hyX11_asked rfl ⟨by decide, by decide⟩ rfl (Nat.le_of_ble_eq_true rfl) (fun s2 => ?_) (fun r1 s2 hb3 => ?_)
  · refine V_astoreN (L' := [(6, .null), (0, .ref (z.2.2.1 h)), (1, .int v1), (2, .int v2), (3, .int v3), (4, .int v4), (5, .int v5)]) X dX11_weather_6 (by decide) rfl ?_
    refine V_aloadN 0 X dX11_weather_8 rfl ?_
    refine V_ifnullN (tgt := 35) X dX11_weather_10 (by decide) ?_
    refine V_ldc2 (v := -1) X dX11_weather_35 csX11_209 ?_
    exact V_lret X E hr dX11_weather_38
  · refine V_astore (L' := [(6, .ref (z.2.2.1 r1)), (0, .ref (z.2.2.1 h)), (1, .int v1), (2, .int v2), (3, .int v3), (4, .int v4), (5, .int v5)]) X dX11_weather_6 (by decide) rfl ?_
    refine V_aload 0 X dX11_weather_8 rfl ?_
    refine V_ifnull X dX11_weather_10 ?_
    refine V_iload_n 4 X dX11_weather_13 rfl rfl ?_
    refine V_if_lt (tgt := 35) X dX11_weather_14 (by decide) ?_ ?_
    · refine V_ldc2 (v := -1) X dX11_weather_35 csX11_209 ?_
      exact V_lret X E hr dX11_weather_38
    · refine V_iload_n 4 X dX11_weather_17 rfl rfl ?_
      refine V_bipush (v := 9) X dX11_weather_18 (by decide) ?_
      refine V_icmp_gt (tgt := 35) X dX11_weather_20 (by decide) ?_ ?_
      · refine V_ldc2 (v := -1) X dX11_weather_35 csX11_209 ?_
        exact V_lret X E hr dX11_weather_38
      · refine V_iload 5 X dX11_weather_23 rfl ?_
        refine V_if_lt (tgt := 35) X dX11_weather_25 (by decide) ?_ ?_
        · refine V_ldc2 (v := -1) X dX11_weather_35 csX11_209 ?_
          exact V_lret X E hr dX11_weather_38
        · refine V_iload 5 X dX11_weather_28 rfl ?_
          refine V_bipush (v := 10) X dX11_weather_30 (by decide) ?_
          refine V_icmp_le (tgt := 39) X dX11_weather_32 (by decide) ?_ ?_
          · refine V_aload_n 1 X dX11_weather_39 rfl rfl ?_
            refine V_getR (k1 := (h + 220)) 6 X dX11_weather_40 co11 hh (by decide) rfl rfl wfX11_48 ?_
            refine V_aload 0 X dX11_weather_43 rfl ?_
            refine V_iload_n 3 X dX11_weather_45 rfl rfl ?_
            refine V_iload_n 4 X dX11_weather_46 rfl rfl ?_
            refine V_iload 5 X dX11_weather_47 rfl ?_
            refine V_callL [.ref (z.2.2.1 r1), .int v2, .int v3, .int v4] [] X E dX11_weather_49 (kX10_chancesBehind x.2.1 z hZ N (h + 220) (kt11_6 hZ hh) r1 v2 v3 v4 hb3 s2) co10 (kt11_6 hZ hh) gcX11_211 hyX10_chancesBehind rfl ⟨by decide, by decide⟩ rfl (Nat.le_of_ble_eq_true rfl) (fun r4 s5 => ?_)
            refine V_iload_n 4 X dX11_weather_52 rfl rfl ?_
            refine V_calSL [.int v3] [.long r4] X E dX11_weather_53 (kX11_powerOfTen x.2.1 z hZ N v3 s5) gcX11_215 hyX11_powerOfTen rfl ⟨by decide, by decide⟩ rfl (Nat.le_of_ble_eq_true rfl) (fun r6 s7 => ?_)
            refine V_iload 6 X dX11_weather_56 rfl ?_
            refine V_calSL [.long r4, .long r6, .int v5] [] X E dX11_weather_58 (kX11_leastTerms x.2.1 z hZ N r4 r6 v5 s7) gcX11_219 hyX11_leastTerms rfl ⟨by decide, by decide⟩ rfl (Nat.le_of_ble_eq_true rfl) (fun r8 s9 => ?_)
            exact V_lret X E hr dX11_weather_61
          · refine V_ldc2 (v := -1) X dX11_weather_35 csX11_209 ?_
            exact V_lret X E hr dX11_weather_38
theorem kX11_weather (l : Launch) (z : Sx) (hZ : z.2.2.2.1 = kdC) (N : Nat) (h : Nat) (hh : z.2.2.2.1 h = (11, 0)) (v1 : Int32) (v2 : Int32) (v3 : Int32) (v4 : Int32) (v5 : Int32) (σ : Mem) : Ct QL yX11_weather cX11_weather 7 (some .long) 6 147 l z [.ref (z.2.2.1 h), .int v1, .int v2, .int v3, .int v4, .int v5] σ (fX11_weather N h v1 v2 v3 v4 v5 σ) := by
  refine Ct_of (by decide +kernel) (Nat.le_of_ble_eq_true rfl) rfl ?_
  intro x _ X E hr
  exact bX11_weather_0 X E hr hZ N h hh v1 v2 v3 v4 v5 σ
def fX9_logAt (N : Nat) (h : Nat) (v1 : Int32) (σ : Mem) : Option (Option Nat × Mem) :=
  bd (fX9_isThere N h 2 v1 σ) (fun r1 s2 => if r1 = 0 then some (none, s2) else gd (inb v1 2) (some (some (raE 62 (h + 5) v1.toNatClampNeg), s2)))
set_option maxRecDepth 100000 in
set_option maxHeartbeats 4000000 in
theorem bX9_logAt_0 {x : Cx} {z : Sx} (X : XG x z RX9 cX9_logAt 2 1 22) (E : XE x z) (hr : XR x (some (.object "FurnitureVotes$Log"))) (hZ : z.2.2.2.1 = kdC) (N : Nat) (h : Nat) (hh : z.2.2.2.1 h = (9, 0)) (v1 : Int32) (σ : Mem) : VK x z 2 (BQ QQ x z) 0 [(0, .ref (z.2.2.1 h)), (1, .int v1)] [] σ (fX9_logAt N h v1 σ) := by
  unfold fX9_logAt
  refine V_aload_n 0 X dX9_logAt_0 rfl rfl ?_
  refine V_iconst (v := 2) X dX9_logAt_1 (by decide) ?_
  refine V_iload_n 1 X dX9_logAt_2 rfl rfl ?_
  refine V_callI [.int 2, .int v1] [] X E dX9_logAt_3 (kX9_isThere x.2.1 z hZ N h hh 2 v1 σ) co9 hh gcX9_77 hyX9_isThere rfl ⟨by decide, by decide⟩ rfl (Nat.le_of_ble_eq_true rfl) (fun r1 s2 => ?_)
  refine V_if_eq (tgt := 18) X dX9_logAt_6 (by decide) ?_ ?_
  · refine V_null X dX9_logAt_18 ?_
    exact V_aretN X E hr dX9_logAt_19
  · refine V_aload_n 0 X dX9_logAt_9 rfl rfl ?_
    refine V_getR (k1 := (h + 5)) 7 X dX9_logAt_10 co9 hh (by decide) rfl rfl wfX9_37 ?_
    refine V_iload_n 1 X dX9_logAt_13 rfl rfl ?_
    refine V_aald62 X dX9_logAt_14 (kt9_7 hZ hh) (fun hi3 => ?_)
    refine V_goto (tgt := 19) X dX9_logAt_15 (by decide) ?_
    exact V_aret X E hr dX9_logAt_19
theorem kX9_logAt (l : Launch) (z : Sx) (hZ : z.2.2.2.1 = kdC) (N : Nat) (h : Nat) (hh : z.2.2.2.1 h = (9, 0)) (v1 : Int32) (σ : Mem) : Ct QQ yX9_logAt cX9_logAt 2 (some (.object "FurnitureVotes$Log")) 1 22 l z [.ref (z.2.2.1 h), .int v1] σ (fX9_logAt N h v1 σ) := by
  refine Ct_of (by decide +kernel) (Nat.le_of_ble_eq_true rfl) rfl ?_
  intro x _ X E hr
  exact bX9_logAt_0 X E hr hZ N h hh v1 σ
def fX4_tell (N : Nat) (h : Nat) (v1 : Int32) (v2 : Int32) (σ : Mem) : Option (Int32 × Mem) :=
  if v1 = (-1) then if v2 = 0 then some ((σ.1 h 0), σ) else some ((-2), σ) else if v1 < 0 then some ((-2), σ) else if v1 < (σ.1 h 0) then if v2 = 0 then gd (inb v1 8) (some ((σ.1 (h + 1) v1.toNatClampNeg), σ)) else if v2 = 1 then gd (inb v1 8) (some ((σ.1 (h + 2) v1.toNatClampNeg), σ)) else if v2 = 2 then gd (inb v1 8) (some ((σ.1 (h + 3) v1.toNatClampNeg), σ)) else if v2 = 3 then gd (inb v1 8) (some ((σ.1 (h + 4) v1.toNatClampNeg), σ)) else some ((-2), σ) else some ((-2), σ)
set_option maxRecDepth 100000 in
set_option maxHeartbeats 4000000 in
theorem bX4_tell_0 {x : Cx} {z : Sx} (X : XG x z RX4 cX4_tell 3 0 0) (E : XE x z) (hr : XR x (some .int)) (hZ : z.2.2.2.1 = kdC) (N : Nat) (h : Nat) (hh : z.2.2.2.1 h = (4, 0)) (v1 : Int32) (v2 : Int32) (σ : Mem) : VK x z 3 (BQ QI x z) 0 [(0, .ref (z.2.2.1 h)), (1, .int v1), (2, .int v2)] [] σ (fX4_tell N h v1 v2 σ) := by
  unfold fX4_tell
  refine V_iload_n 1 X dX4_tell_0 rfl rfl ?_
  refine V_iconst (v := -1) X dX4_tell_1 (by decide) ?_
  refine V_icmp_ne (tgt := 19) X dX4_tell_2 (by decide) ?_ ?_
  · refine V_iload_n 1 X dX4_tell_19 rfl rfl ?_
    refine V_if_lt (tgt := 31) X dX4_tell_20 (by decide) ?_ ?_
    · refine V_bipush (v := -2) X dX4_tell_31 (by decide) ?_
      exact V_iret X E hr dX4_tell_33
    · refine V_iload_n 1 X dX4_tell_23 rfl rfl ?_
      refine V_aload_n 0 X dX4_tell_24 rfl rfl ?_
      refine V_getI 0 X dX4_tell_25 co4 hh (by decide) rfl wfX4_24 ?_
      refine V_icmp_lt (tgt := 34) X dX4_tell_28 (by decide) ?_ ?_
      · refine V_iload_n 2 X dX4_tell_34 rfl rfl ?_
        refine V_split (c := 0) (fun n35_0 => ?_) (fun n35_0 => ?_)
        · refine V_tabAt (c := 0) (tgt := 64) X dX4_tell_35 n35_0 (by decide) (by decide) (by rfl) (by decide) ?_
          refine V_aload_n 0 X dX4_tell_64 rfl rfl ?_
          refine V_getR (k1 := (h + 1)) 1 X dX4_tell_65 co4 hh (by decide) rfl rfl wfX4_9 ?_
          refine V_iload_n 1 X dX4_tell_68 rfl rfl ?_
          refine V_iald X dX4_tell_69 (kt4_1 hZ hh) ?_
          exact V_iret X E hr dX4_tell_70
        refine V_split (c := 1) (fun n35_1 => ?_) (fun n35_1 => ?_)
        · refine V_tabAt (c := 1) (tgt := 71) X dX4_tell_35 n35_1 (by decide) (by decide) (by rfl) (by decide) ?_
          refine V_aload_n 0 X dX4_tell_71 rfl rfl ?_
          refine V_getR (k1 := (h + 2)) 2 X dX4_tell_72 co4 hh (by decide) rfl rfl wfX4_15 ?_
          refine V_iload_n 1 X dX4_tell_75 rfl rfl ?_
          refine V_iald X dX4_tell_76 (kt4_2 hZ hh) ?_
          exact V_iret X E hr dX4_tell_77
        refine V_split (c := 2) (fun n35_2 => ?_) (fun n35_2 => ?_)
        · refine V_tabAt (c := 2) (tgt := 78) X dX4_tell_35 n35_2 (by decide) (by decide) (by rfl) (by decide) ?_
          refine V_aload_n 0 X dX4_tell_78 rfl rfl ?_
          refine V_getR (k1 := (h + 3)) 3 X dX4_tell_79 co4 hh (by decide) rfl rfl wfX4_18 ?_
          refine V_iload_n 1 X dX4_tell_82 rfl rfl ?_
          refine V_iald X dX4_tell_83 (kt4_3 hZ hh) ?_
          exact V_iret X E hr dX4_tell_84
        refine V_split (c := 3) (fun n35_3 => ?_) (fun n35_3 => ?_)
        · refine V_tabAt (c := 3) (tgt := 85) X dX4_tell_35 n35_3 (by decide) (by decide) (by rfl) (by decide) ?_
          refine V_aload_n 0 X dX4_tell_85 rfl rfl ?_
          refine V_getR (k1 := (h + 4)) 4 X dX4_tell_86 co4 hh (by decide) rfl rfl wfX4_21 ?_
          refine V_iload_n 1 X dX4_tell_89 rfl rfl ?_
          refine V_iald X dX4_tell_90 (kt4_4 hZ hh) ?_
          exact V_iret X E hr dX4_tell_91
        refine V_tabDef (tgt := 92) X dX4_tell_35 (swOut (a := v2) (fun q q1 q2 => by rcases (show q = 0 ∨ q = 1 ∨ q = 2 ∨ q = 3 by omega) with rfl | rfl | rfl | rfl <;> first | exact sw_ne n35_0 (by decide) | exact sw_ne n35_1 (by decide) | exact sw_ne n35_2 (by decide) | exact sw_ne n35_3 (by decide))) (by decide) ?_
        refine V_bipush (v := -2) X dX4_tell_92 (by decide) ?_
        exact V_iret X E hr dX4_tell_94
      · refine V_bipush (v := -2) X dX4_tell_31 (by decide) ?_
        exact V_iret X E hr dX4_tell_33
  · refine V_iload_n 2 X dX4_tell_5 rfl rfl ?_
    refine V_if_ne (tgt := 16) X dX4_tell_6 (by decide) ?_ ?_
    · refine V_bipush (v := -2) X dX4_tell_16 (by decide) ?_
      exact V_iret X E hr dX4_tell_18
    · refine V_aload_n 0 X dX4_tell_9 rfl rfl ?_
      refine V_getI 0 X dX4_tell_10 co4 hh (by decide) rfl wfX4_24 ?_
      refine V_goto (tgt := 18) X dX4_tell_13 (by decide) ?_
      exact V_iret X E hr dX4_tell_18
theorem kX4_tell (l : Launch) (z : Sx) (hZ : z.2.2.2.1 = kdC) (N : Nat) (h : Nat) (hh : z.2.2.2.1 h = (4, 0)) (v1 : Int32) (v2 : Int32) (σ : Mem) : Ct QI yX4_tell cX4_tell 3 (some .int) 0 0 l z [.ref (z.2.2.1 h), .int v1, .int v2] σ (fX4_tell N h v1 v2 σ) := by
  refine Ct_of (by decide +kernel) (Nat.le_of_ble_eq_true rfl) rfl ?_
  intro x _ X E hr
  exact bX4_tell_0 X E hr hZ N h hh v1 v2 σ
def fX11_fact (N : Nat) (h : Nat) (v1 : Int32) (v2 : Int32) (v3 : Int32) (σ : Mem) : Option (Int32 × Mem) :=
  bd (fX9_logAt N (h + 1) v1 σ) (fun or1 s2 => mqK (4, 0) or1 (some ((-2), s2)) (fun r1 => bd (fX4_tell N r1 v2 v3 s2) (fun r4 s5 => some (r4, s5))))
set_option maxRecDepth 100000 in
set_option maxHeartbeats 4000000 in
theorem bX11_fact_0 {x : Cx} {z : Sx} (X : XG x z RX11 cX11_fact 5 2 43) (E : XE x z) (hr : XR x (some .int)) (hZ : z.2.2.2.1 = kdC) (N : Nat) (h : Nat) (hh : z.2.2.2.1 h = (11, 0)) (v1 : Int32) (v2 : Int32) (v3 : Int32) (σ : Mem) : VK x z 5 (BQ QI x z) 0 [(0, .ref (z.2.2.1 h)), (1, .int v1), (2, .int v2), (3, .int v3)] [] σ (fX11_fact N h v1 v2 v3 σ) := by
  unfold fX11_fact
  refine V_aload_n 0 X dX11_fact_0 rfl rfl ?_
  refine V_getR (k1 := (h + 1)) 0 X dX11_fact_1 co11 hh (by decide) rfl rfl wfX11_10 ?_
  refine V_iload_n 1 X dX11_fact_4 rfl rfl ?_
  refine V_callQC (K := (4, 0)) [.int v1] [] X E hZ dX11_fact_5 (kX9_logAt x.2.1 z hZ N (h + 1) (kt11_0 hZ hh) v1 σ) co9 (kt11_0 hZ hh) gcX11_223 hyX9_logAt rfl ⟨by decide, by decide⟩ rfl (Nat.le_of_ble_eq_true rfl) (fun s2 => ?_) (fun r1 s2 hb3 => ?_)
  · refine V_astoreN (L' := [(4, .null), (0, .ref (z.2.2.1 h)), (1, .int v1), (2, .int v2), (3, .int v3)]) X dX11_fact_8 (by decide) rfl ?_
    refine V_aloadN 0 X dX11_fact_10 rfl ?_
    refine V_ifnonnullN X dX11_fact_12 ?_
    refine V_bipush (v := -2) X dX11_fact_15 (by decide) ?_
    refine V_goto (tgt := 27) X dX11_fact_17 (by decide) ?_
    exact V_iret X E hr dX11_fact_27
  · refine V_astore (L' := [(4, .ref (z.2.2.1 r1)), (0, .ref (z.2.2.1 h)), (1, .int v1), (2, .int v2), (3, .int v3)]) X dX11_fact_8 (by decide) rfl ?_
    refine V_aload 0 X dX11_fact_10 rfl ?_
    refine V_ifnonnull (tgt := 20) X dX11_fact_12 (by decide) ?_
    refine V_aload 0 X dX11_fact_20 rfl ?_
    refine V_iload_n 3 X dX11_fact_22 rfl rfl ?_
    refine V_iload_n 4 X dX11_fact_23 rfl rfl ?_
    refine V_callI [.int v2, .int v3] [] X E dX11_fact_24 (kX4_tell x.2.1 z hZ N r1 hb3 v2 v3 s2) co4 hb3 gcX11_227 hyX4_tell rfl ⟨by decide, by decide⟩ rfl (Nat.le_of_ble_eq_true rfl) (fun r4 s5 => ?_)
    exact V_iret X E hr dX11_fact_27
theorem kX11_fact (l : Launch) (z : Sx) (hZ : z.2.2.2.1 = kdC) (N : Nat) (h : Nat) (hh : z.2.2.2.1 h = (11, 0)) (v1 : Int32) (v2 : Int32) (v3 : Int32) (σ : Mem) : Ct QI yX11_fact cX11_fact 5 (some .int) 2 43 l z [.ref (z.2.2.1 h), .int v1, .int v2, .int v3] σ (fX11_fact N h v1 v2 v3 σ) := by
  refine Ct_of (by decide +kernel) (Nat.le_of_ble_eq_true rfl) rfl ?_
  intro x _ X E hr
  exact bX11_fact_0 X E hr hZ N h hh v1 v2 v3 σ
def fX4_loudness (N : Nat) (v0 : Int32) (v1 : Int32) (v2 : Int32) (v3 : Int32) (σ : Mem) : Option (Int32 × Mem) :=
  some (((v1 + (v2 * v0)) + (3 * v3)), σ)
set_option maxRecDepth 100000 in
set_option maxHeartbeats 4000000 in
theorem bX4_loudness_0 {x : Cx} {z : Sx} (X : XG x z RX4 cX4_loudness 4 0 0) (E : XE x z) (hr : XR x (some .int)) (hZ : z.2.2.2.1 = kdC) (N : Nat) (v0 : Int32) (v1 : Int32) (v2 : Int32) (v3 : Int32) (σ : Mem) : VK x z 4 (BQ QI x z) 0 [(0, .int v0), (1, .int v1), (2, .int v2), (3, .int v3)] [] σ (fX4_loudness N v0 v1 v2 v3 σ) := by
  unfold fX4_loudness
  refine V_iload_n 1 X dX4_loudness_0 rfl rfl ?_
  refine V_iload_n 2 X dX4_loudness_1 rfl rfl ?_
  refine V_iload_n 0 X dX4_loudness_2 rfl rfl ?_
  refine V_imul X dX4_loudness_3 ?_
  refine V_iadd X dX4_loudness_4 ?_
  refine V_iconst (v := 3) X dX4_loudness_5 (by decide) ?_
  refine V_iload_n 3 X dX4_loudness_6 rfl rfl ?_
  refine V_imul X dX4_loudness_7 ?_
  refine V_iadd X dX4_loudness_8 ?_
  exact V_iret X E hr dX4_loudness_9
theorem kX4_loudness (l : Launch) (z : Sx) (hZ : z.2.2.2.1 = kdC) (N : Nat) (v0 : Int32) (v1 : Int32) (v2 : Int32) (v3 : Int32) (σ : Mem) : Ct QI yX4_loudness cX4_loudness 4 (some .int) 0 0 l z [.int v0, .int v1, .int v2, .int v3] σ (fX4_loudness N v0 v1 v2 v3 σ) := by
  refine Ct_of (by decide +kernel) (Nat.le_of_ble_eq_true rfl) rfl ?_
  intro x _ X E hr
  exact bX4_loudness_0 X E hr hZ N v0 v1 v2 v3 σ
def fX4_mostLimit_b49 (N : Nat) (h : Nat) (rc5 : Int32 → Int32 → Int32 → Mem → Option (Int32 × Mem)) (v1 : Int32) (v2 : Int32) (v3 : Int32) (σ : Mem) : Option (Int32 × Mem) :=
  lt_ (v3 + 1) (fun v3_6 => rc5 v1 v2 v3_6 σ)
set_option maxRecDepth 100000 in
set_option maxHeartbeats 4000000 in
theorem bX4_mostLimit_49 {x : Cx} {z : Sx} (X : XG x z RX4 cX4_mostLimit 4 1 26) (E : XE x z) (hr : XR x (some .int)) (hZ : z.2.2.2.1 = kdC) (N : Nat) (h : Nat) (hh : z.2.2.2.1 h = (4, 0)) (rc5 : Int32 → Int32 → Int32 → Mem → Option (Int32 × Mem)) (hc5 : ∀ (v1 : Int32) (v2 : Int32) (v3 : Int32) (σ : Mem), VK x z 4 (BQ QI x z) 5 [(0, .ref (z.2.2.1 h)), (1, .int v1), (2, .int v2), (3, .int v3)] [] σ (rc5 v1 v2 v3 σ)) (v1 : Int32) (v2 : Int32) (v3 : Int32) (σ : Mem) : VK x z 4 (BQ QI x z) 49 [(0, .ref (z.2.2.1 h)), (1, .int v1), (2, .int v2), (3, .int v3)] [] σ (fX4_mostLimit_b49 N h rc5 v1 v2 v3 σ) := by
  unfold fX4_mostLimit_b49
  refine V_iincG (L' := fun v3_6 => [(3, .int v3_6), (0, .ref (z.2.2.1 h)), (1, .int v1), (2, .int v2)]) 3 X dX4_mostLimit_49 rfl rfl (by decide) (fun _ => rfl) (fun v3_6 => ?_)
  refine V_goto (tgt := 5) X dX4_mostLimit_52 (by decide) ?_
  refine V_sub [1, 2, 3, 0] rfl ?_
  exact hc5 v1 v2 v3_6 σ
def fX4_mostLimit_b5 (N : Nat) (h : Nat) (rc5 : Int32 → Int32 → Int32 → Mem → Option (Int32 × Mem)) (v1 : Int32) (v2 : Int32) (v3 : Int32) (σ : Mem) : Option (Int32 × Mem) :=
  if (σ.1 h 0) ≤ v3 then some (v2, σ) else gd (inb v3 8) (if (σ.1 (h + 1) v3.toNatClampNeg) = 0 then fX4_mostLimit_b49 N h rc5 v1 v2 v3 σ else gd (inb v3 8) (gd (inb v3 8) (gd (inb v3 8) (bd (fX4_loudness N v1 (σ.1 (h + 2) v3.toNatClampNeg) (σ.1 (h + 3) v3.toNatClampNeg) (σ.1 (h + 4) v3.toNatClampNeg) σ) (fun r3 s4 => lt_ (mnI v2 r3) (fun v2_5 => fX4_mostLimit_b49 N h rc5 v1 v2_5 v3 s4))))))
set_option maxRecDepth 100000 in
set_option maxHeartbeats 4000000 in
theorem bX4_mostLimit_5 {x : Cx} {z : Sx} (X : XG x z RX4 cX4_mostLimit 4 1 26) (E : XE x z) (hr : XR x (some .int)) (hZ : z.2.2.2.1 = kdC) (N : Nat) (h : Nat) (hh : z.2.2.2.1 h = (4, 0)) (rc5 : Int32 → Int32 → Int32 → Mem → Option (Int32 × Mem)) (hc5 : ∀ (v1 : Int32) (v2 : Int32) (v3 : Int32) (σ : Mem), VK x z 4 (BQ QI x z) 5 [(0, .ref (z.2.2.1 h)), (1, .int v1), (2, .int v2), (3, .int v3)] [] σ (rc5 v1 v2 v3 σ)) (v1 : Int32) (v2 : Int32) (v3 : Int32) (σ : Mem) : VK x z 4 (BQ QI x z) 5 [(0, .ref (z.2.2.1 h)), (1, .int v1), (2, .int v2), (3, .int v3)] [] σ (fX4_mostLimit_b5 N h rc5 v1 v2 v3 σ) := by
  unfold fX4_mostLimit_b5
  refine V_iload_n 3 X dX4_mostLimit_5 rfl rfl ?_
  refine V_aload_n 0 X dX4_mostLimit_6 rfl rfl ?_
  refine V_getI 0 X dX4_mostLimit_7 co4 hh (by decide) rfl wfX4_24 ?_
  refine V_icmp_ge (tgt := 55) X dX4_mostLimit_10 (by decide) ?_ ?_
  · refine V_iload_n 2 X dX4_mostLimit_55 rfl rfl ?_
    exact V_iret X E hr dX4_mostLimit_56
  · refine V_aload_n 0 X dX4_mostLimit_13 rfl rfl ?_
    refine V_getR (k1 := (h + 1)) 1 X dX4_mostLimit_14 co4 hh (by decide) rfl rfl wfX4_9 ?_
    refine V_iload_n 3 X dX4_mostLimit_17 rfl rfl ?_
    refine V_iald X dX4_mostLimit_18 (kt4_1 hZ hh) ?_
    refine V_if_eq (tgt := 49) X dX4_mostLimit_19 (by decide) ?_ ?_
    · refine V_sub [0, 1, 2, 3] rfl ?_
      exact bX4_mostLimit_49 X E hr hZ N h hh rc5 hc5 v1 v2 v3 σ
    · refine V_iload_n 2 X dX4_mostLimit_22 rfl rfl ?_
      refine V_iload_n 1 X dX4_mostLimit_23 rfl rfl ?_
      refine V_aload_n 0 X dX4_mostLimit_24 rfl rfl ?_
      refine V_getR (k1 := (h + 2)) 2 X dX4_mostLimit_25 co4 hh (by decide) rfl rfl wfX4_15 ?_
      refine V_iload_n 3 X dX4_mostLimit_28 rfl rfl ?_
      refine V_iald X dX4_mostLimit_29 (kt4_2 hZ hh) ?_
      refine V_aload_n 0 X dX4_mostLimit_30 rfl rfl ?_
      refine V_getR (k1 := (h + 3)) 3 X dX4_mostLimit_31 co4 hh (by decide) rfl rfl wfX4_18 ?_
      refine V_iload_n 3 X dX4_mostLimit_34 rfl rfl ?_
      refine V_iald X dX4_mostLimit_35 (kt4_3 hZ hh) ?_
      refine V_aload_n 0 X dX4_mostLimit_36 rfl rfl ?_
      refine V_getR (k1 := (h + 4)) 4 X dX4_mostLimit_37 co4 hh (by decide) rfl rfl wfX4_21 ?_
      refine V_iload_n 3 X dX4_mostLimit_40 rfl rfl ?_
      refine V_iald X dX4_mostLimit_41 (kt4_4 hZ hh) ?_
      refine V_calSI [.int v1, .int (σ.1 (h + 2) v3.toNatClampNeg), .int (σ.1 (h + 3) v3.toNatClampNeg), .int (σ.1 (h + 4) v3.toNatClampNeg)] [.int v2] X E dX4_mostLimit_42 (kX4_loudness x.2.1 z hZ N v1 (σ.1 (h + 2) v3.toNatClampNeg) (σ.1 (h + 3) v3.toNatClampNeg) (σ.1 (h + 4) v3.toNatClampNeg) σ) gcX4_28 hyX4_loudness rfl ⟨by decide, by decide⟩ rfl (Nat.le_of_ble_eq_true rfl) (fun r3 s4 => ?_)
      refine V_mmin X dX4_mostLimit_45 mtX4_38 mtS_min mtI mtC_min (by decide) (Nat.le_of_ble_eq_true rfl) ?_
      refine V_istore_nG (L' := fun v2_5 => [(2, .int v2_5), (0, .ref (z.2.2.1 h)), (1, .int v1), (3, .int v3)]) X dX4_mostLimit_48 rfl (by decide) (fun _ => rfl) (fun v2_5 => ?_)
      refine V_sub [1, 2, 0, 3] rfl ?_
      exact bX4_mostLimit_49 X E hr hZ N h hh rc5 hc5 v1 v2_5 v3 s4
def fX4_mostLimit_l5 (N : Nat) (h : Nat) : Nat → Int32 → Int32 → Int32 → Mem → Option (Int32 × Mem)
  | 0 => fun _ _ _ _ => none
  | n + 1 => fX4_mostLimit_b5 N h (fX4_mostLimit_l5 N h n)
theorem lX4_mostLimit_5 {x : Cx} {z : Sx} (X : XG x z RX4 cX4_mostLimit 4 1 26) (E : XE x z) (hr : XR x (some .int)) (hZ : z.2.2.2.1 = kdC) (N : Nat) (h : Nat) (hh : z.2.2.2.1 h = (4, 0)) (n : Nat) (v1 : Int32) (v2 : Int32) (v3 : Int32) (σ : Mem) : VK x z 4 (BQ QI x z) 5 [(0, .ref (z.2.2.1 h)), (1, .int v1), (2, .int v2), (3, .int v3)] [] σ (fX4_mostLimit_l5 N h n v1 v2 v3 σ) := by
  induction n generalizing v1 v2 v3 σ with
  | zero => exact V_none
  | succ n ih => exact bX4_mostLimit_5 X E hr hZ N h hh (fX4_mostLimit_l5 N h n) ih v1 v2 v3 σ
def fX4_mostLimit (N : Nat) (h : Nat) (v1 : Int32) (σ : Mem) : Option (Int32 × Mem) :=
  lt_ 99 (fun v2_1 => lt_ 0 (fun v3_2 => fX4_mostLimit_l5 N h N v1 v2_1 v3_2 σ))
set_option maxRecDepth 100000 in
set_option maxHeartbeats 4000000 in
theorem bX4_mostLimit_0 {x : Cx} {z : Sx} (X : XG x z RX4 cX4_mostLimit 4 1 26) (E : XE x z) (hr : XR x (some .int)) (hZ : z.2.2.2.1 = kdC) (N : Nat) (h : Nat) (hh : z.2.2.2.1 h = (4, 0)) (v1 : Int32) (σ : Mem) : VK x z 4 (BQ QI x z) 0 [(0, .ref (z.2.2.1 h)), (1, .int v1)] [] σ (fX4_mostLimit N h v1 σ) := by
  unfold fX4_mostLimit
  refine V_bipush (v := 99) X dX4_mostLimit_0 (by decide) ?_
  refine V_istore_nG (L' := fun v2_1 => [(2, .int v2_1), (0, .ref (z.2.2.1 h)), (1, .int v1)]) X dX4_mostLimit_2 rfl (by decide) (fun _ => rfl) (fun v2_1 => ?_)
  refine V_iconst (v := 0) X dX4_mostLimit_3 (by decide) ?_
  refine V_istore_nG (L' := fun v3_2 => [(3, .int v3_2), (2, .int v2_1), (0, .ref (z.2.2.1 h)), (1, .int v1)]) X dX4_mostLimit_4 rfl (by decide) (fun _ => rfl) (fun v3_2 => ?_)
  refine V_sub [2, 3, 1, 0] rfl ?_
  exact lX4_mostLimit_5 X E hr hZ N h hh N v1 v2_1 v3_2 σ
theorem kX4_mostLimit (l : Launch) (z : Sx) (hZ : z.2.2.2.1 = kdC) (N : Nat) (h : Nat) (hh : z.2.2.2.1 h = (4, 0)) (v1 : Int32) (σ : Mem) : Ct QI yX4_mostLimit cX4_mostLimit 4 (some .int) 1 26 l z [.ref (z.2.2.1 h), .int v1] σ (fX4_mostLimit N h v1 σ) := by
  refine Ct_of (by decide +kernel) (Nat.le_of_ble_eq_true rfl) rfl ?_
  intro x _ X E hr
  exact bX4_mostLimit_0 X E hr hZ N h hh v1 σ
def fX4_leastLimit_b50 (N : Nat) (h : Nat) (rc4 : Int32 → Int32 → Int32 → Mem → Option (Int32 × Mem)) (v1 : Int32) (v2 : Int32) (v3 : Int32) (σ : Mem) : Option (Int32 × Mem) :=
  lt_ (v3 + 1) (fun v3_6 => rc4 v1 v2 v3_6 σ)
set_option maxRecDepth 100000 in
set_option maxHeartbeats 4000000 in
theorem bX4_leastLimit_50 {x : Cx} {z : Sx} (X : XG x z RX4 cX4_leastLimit 4 1 26) (E : XE x z) (hr : XR x (some .int)) (hZ : z.2.2.2.1 = kdC) (N : Nat) (h : Nat) (hh : z.2.2.2.1 h = (4, 0)) (rc4 : Int32 → Int32 → Int32 → Mem → Option (Int32 × Mem)) (hc4 : ∀ (v1 : Int32) (v2 : Int32) (v3 : Int32) (σ : Mem), VK x z 4 (BQ QI x z) 4 [(0, .ref (z.2.2.1 h)), (1, .int v1), (2, .int v2), (3, .int v3)] [] σ (rc4 v1 v2 v3 σ)) (v1 : Int32) (v2 : Int32) (v3 : Int32) (σ : Mem) : VK x z 4 (BQ QI x z) 50 [(0, .ref (z.2.2.1 h)), (1, .int v1), (2, .int v2), (3, .int v3)] [] σ (fX4_leastLimit_b50 N h rc4 v1 v2 v3 σ) := by
  unfold fX4_leastLimit_b50
  refine V_iincG (L' := fun v3_6 => [(3, .int v3_6), (0, .ref (z.2.2.1 h)), (1, .int v1), (2, .int v2)]) 3 X dX4_leastLimit_50 rfl rfl (by decide) (fun _ => rfl) (fun v3_6 => ?_)
  refine V_goto (tgt := 4) X dX4_leastLimit_53 (by decide) ?_
  refine V_sub [1, 2, 3, 0] rfl ?_
  exact hc4 v1 v2 v3_6 σ
def fX4_leastLimit_b4 (N : Nat) (h : Nat) (rc4 : Int32 → Int32 → Int32 → Mem → Option (Int32 × Mem)) (v1 : Int32) (v2 : Int32) (v3 : Int32) (σ : Mem) : Option (Int32 × Mem) :=
  if (σ.1 h 0) ≤ v3 then some (v2, σ) else gd (inb v3 8) (if (σ.1 (h + 1) v3.toNatClampNeg) = 0 then gd (inb v3 8) (gd (inb v3 8) (gd (inb v3 8) (bd (fX4_loudness N v1 (σ.1 (h + 2) v3.toNatClampNeg) (σ.1 (h + 3) v3.toNatClampNeg) (σ.1 (h + 4) v3.toNatClampNeg) σ) (fun r3 s4 => lt_ (mxI v2 (r3 + 1)) (fun v2_5 => fX4_leastLimit_b50 N h rc4 v1 v2_5 v3 s4))))) else fX4_leastLimit_b50 N h rc4 v1 v2 v3 σ)
set_option maxRecDepth 100000 in
set_option maxHeartbeats 4000000 in
theorem bX4_leastLimit_4 {x : Cx} {z : Sx} (X : XG x z RX4 cX4_leastLimit 4 1 26) (E : XE x z) (hr : XR x (some .int)) (hZ : z.2.2.2.1 = kdC) (N : Nat) (h : Nat) (hh : z.2.2.2.1 h = (4, 0)) (rc4 : Int32 → Int32 → Int32 → Mem → Option (Int32 × Mem)) (hc4 : ∀ (v1 : Int32) (v2 : Int32) (v3 : Int32) (σ : Mem), VK x z 4 (BQ QI x z) 4 [(0, .ref (z.2.2.1 h)), (1, .int v1), (2, .int v2), (3, .int v3)] [] σ (rc4 v1 v2 v3 σ)) (v1 : Int32) (v2 : Int32) (v3 : Int32) (σ : Mem) : VK x z 4 (BQ QI x z) 4 [(0, .ref (z.2.2.1 h)), (1, .int v1), (2, .int v2), (3, .int v3)] [] σ (fX4_leastLimit_b4 N h rc4 v1 v2 v3 σ) := by
  unfold fX4_leastLimit_b4
  refine V_iload_n 3 X dX4_leastLimit_4 rfl rfl ?_
  refine V_aload_n 0 X dX4_leastLimit_5 rfl rfl ?_
  refine V_getI 0 X dX4_leastLimit_6 co4 hh (by decide) rfl wfX4_24 ?_
  refine V_icmp_ge (tgt := 56) X dX4_leastLimit_9 (by decide) ?_ ?_
  · refine V_iload_n 2 X dX4_leastLimit_56 rfl rfl ?_
    exact V_iret X E hr dX4_leastLimit_57
  · refine V_aload_n 0 X dX4_leastLimit_12 rfl rfl ?_
    refine V_getR (k1 := (h + 1)) 1 X dX4_leastLimit_13 co4 hh (by decide) rfl rfl wfX4_9 ?_
    refine V_iload_n 3 X dX4_leastLimit_16 rfl rfl ?_
    refine V_iald X dX4_leastLimit_17 (kt4_1 hZ hh) ?_
    refine V_if_ne (tgt := 50) X dX4_leastLimit_18 (by decide) ?_ ?_
    · refine V_sub [0, 1, 2, 3] rfl ?_
      exact bX4_leastLimit_50 X E hr hZ N h hh rc4 hc4 v1 v2 v3 σ
    · refine V_iload_n 2 X dX4_leastLimit_21 rfl rfl ?_
      refine V_iload_n 1 X dX4_leastLimit_22 rfl rfl ?_
      refine V_aload_n 0 X dX4_leastLimit_23 rfl rfl ?_
      refine V_getR (k1 := (h + 2)) 2 X dX4_leastLimit_24 co4 hh (by decide) rfl rfl wfX4_15 ?_
      refine V_iload_n 3 X dX4_leastLimit_27 rfl rfl ?_
      refine V_iald X dX4_leastLimit_28 (kt4_2 hZ hh) ?_
      refine V_aload_n 0 X dX4_leastLimit_29 rfl rfl ?_
      refine V_getR (k1 := (h + 3)) 3 X dX4_leastLimit_30 co4 hh (by decide) rfl rfl wfX4_18 ?_
      refine V_iload_n 3 X dX4_leastLimit_33 rfl rfl ?_
      refine V_iald X dX4_leastLimit_34 (kt4_3 hZ hh) ?_
      refine V_aload_n 0 X dX4_leastLimit_35 rfl rfl ?_
      refine V_getR (k1 := (h + 4)) 4 X dX4_leastLimit_36 co4 hh (by decide) rfl rfl wfX4_21 ?_
      refine V_iload_n 3 X dX4_leastLimit_39 rfl rfl ?_
      refine V_iald X dX4_leastLimit_40 (kt4_4 hZ hh) ?_
      refine V_calSI [.int v1, .int (σ.1 (h + 2) v3.toNatClampNeg), .int (σ.1 (h + 3) v3.toNatClampNeg), .int (σ.1 (h + 4) v3.toNatClampNeg)] [.int v2] X E dX4_leastLimit_41 (kX4_loudness x.2.1 z hZ N v1 (σ.1 (h + 2) v3.toNatClampNeg) (σ.1 (h + 3) v3.toNatClampNeg) (σ.1 (h + 4) v3.toNatClampNeg) σ) gcX4_28 hyX4_loudness rfl ⟨by decide, by decide⟩ rfl (Nat.le_of_ble_eq_true rfl) (fun r3 s4 => ?_)
      refine V_iconst (v := 1) X dX4_leastLimit_44 (by decide) ?_
      refine V_iadd X dX4_leastLimit_45 ?_
      refine V_mmax X dX4_leastLimit_46 mtX4_32 mtS_max mtI mtC_max (by decide) (Nat.le_of_ble_eq_true rfl) ?_
      refine V_istore_nG (L' := fun v2_5 => [(2, .int v2_5), (0, .ref (z.2.2.1 h)), (1, .int v1), (3, .int v3)]) X dX4_leastLimit_49 rfl (by decide) (fun _ => rfl) (fun v2_5 => ?_)
      refine V_sub [1, 2, 0, 3] rfl ?_
      exact bX4_leastLimit_50 X E hr hZ N h hh rc4 hc4 v1 v2_5 v3 s4
def fX4_leastLimit_l4 (N : Nat) (h : Nat) : Nat → Int32 → Int32 → Int32 → Mem → Option (Int32 × Mem)
  | 0 => fun _ _ _ _ => none
  | n + 1 => fX4_leastLimit_b4 N h (fX4_leastLimit_l4 N h n)
theorem lX4_leastLimit_4 {x : Cx} {z : Sx} (X : XG x z RX4 cX4_leastLimit 4 1 26) (E : XE x z) (hr : XR x (some .int)) (hZ : z.2.2.2.1 = kdC) (N : Nat) (h : Nat) (hh : z.2.2.2.1 h = (4, 0)) (n : Nat) (v1 : Int32) (v2 : Int32) (v3 : Int32) (σ : Mem) : VK x z 4 (BQ QI x z) 4 [(0, .ref (z.2.2.1 h)), (1, .int v1), (2, .int v2), (3, .int v3)] [] σ (fX4_leastLimit_l4 N h n v1 v2 v3 σ) := by
  induction n generalizing v1 v2 v3 σ with
  | zero => exact V_none
  | succ n ih => exact bX4_leastLimit_4 X E hr hZ N h hh (fX4_leastLimit_l4 N h n) ih v1 v2 v3 σ
def fX4_leastLimit (N : Nat) (h : Nat) (v1 : Int32) (σ : Mem) : Option (Int32 × Mem) :=
  lt_ 1 (fun v2_1 => lt_ 0 (fun v3_2 => fX4_leastLimit_l4 N h N v1 v2_1 v3_2 σ))
set_option maxRecDepth 100000 in
set_option maxHeartbeats 4000000 in
theorem bX4_leastLimit_0 {x : Cx} {z : Sx} (X : XG x z RX4 cX4_leastLimit 4 1 26) (E : XE x z) (hr : XR x (some .int)) (hZ : z.2.2.2.1 = kdC) (N : Nat) (h : Nat) (hh : z.2.2.2.1 h = (4, 0)) (v1 : Int32) (σ : Mem) : VK x z 4 (BQ QI x z) 0 [(0, .ref (z.2.2.1 h)), (1, .int v1)] [] σ (fX4_leastLimit N h v1 σ) := by
  unfold fX4_leastLimit
  refine V_iconst (v := 1) X dX4_leastLimit_0 (by decide) ?_
  refine V_istore_nG (L' := fun v2_1 => [(2, .int v2_1), (0, .ref (z.2.2.1 h)), (1, .int v1)]) X dX4_leastLimit_1 rfl (by decide) (fun _ => rfl) (fun v2_1 => ?_)
  refine V_iconst (v := 0) X dX4_leastLimit_2 (by decide) ?_
  refine V_istore_nG (L' := fun v3_2 => [(3, .int v3_2), (2, .int v2_1), (0, .ref (z.2.2.1 h)), (1, .int v1)]) X dX4_leastLimit_3 rfl (by decide) (fun _ => rfl) (fun v3_2 => ?_)
  refine V_sub [2, 3, 1, 0] rfl ?_
  exact lX4_leastLimit_4 X E hr hZ N h hh N v1 v2_1 v3_2 σ
theorem kX4_leastLimit (l : Launch) (z : Sx) (hZ : z.2.2.2.1 = kdC) (N : Nat) (h : Nat) (hh : z.2.2.2.1 h = (4, 0)) (v1 : Int32) (σ : Mem) : Ct QI yX4_leastLimit cX4_leastLimit 4 (some .int) 1 26 l z [.ref (z.2.2.1 h), .int v1] σ (fX4_leastLimit N h v1 σ) := by
  refine Ct_of (by decide +kernel) (Nat.le_of_ble_eq_true rfl) rfl ?_
  intro x _ X E hr
  exact bX4_leastLimit_0 X E hr hZ N h hh v1 σ
def fX4_fittingOf (N : Nat) (h : Nat) (v1 : Int32) (σ : Mem) : Option (Int32 × Mem) :=
  bd (fX4_mostLimit N h v1 σ) (fun r1 s2 => bd (fX4_leastLimit N h v1 s2) (fun r3 s4 => some ((mxI 0 ((r1 - r3) + 1)), s4)))
set_option maxRecDepth 100000 in
set_option maxHeartbeats 4000000 in
theorem bX4_fittingOf_0 {x : Cx} {z : Sx} (X : XG x z RX4 cX4_fittingOf 2 2 49) (E : XE x z) (hr : XR x (some .int)) (hZ : z.2.2.2.1 = kdC) (N : Nat) (h : Nat) (hh : z.2.2.2.1 h = (4, 0)) (v1 : Int32) (σ : Mem) : VK x z 2 (BQ QI x z) 0 [(0, .ref (z.2.2.1 h)), (1, .int v1)] [] σ (fX4_fittingOf N h v1 σ) := by
  unfold fX4_fittingOf
  refine V_iconst (v := 0) X dX4_fittingOf_0 (by decide) ?_
  refine V_aload_n 0 X dX4_fittingOf_1 rfl rfl ?_
  refine V_iload_n 1 X dX4_fittingOf_2 rfl rfl ?_
  refine V_callI [.int v1] [.int 0] X E dX4_fittingOf_3 (kX4_mostLimit x.2.1 z hZ N h hh v1 σ) co4 hh gcX4_41 hyX4_mostLimit rfl ⟨by decide, by decide⟩ rfl (Nat.le_of_ble_eq_true rfl) (fun r1 s2 => ?_)
  refine V_aload_n 0 X dX4_fittingOf_6 rfl rfl ?_
  refine V_iload_n 1 X dX4_fittingOf_7 rfl rfl ?_
  refine V_callI [.int v1] [.int r1, .int 0] X E dX4_fittingOf_8 (kX4_leastLimit x.2.1 z hZ N h hh v1 s2) co4 hh gcX4_45 hyX4_leastLimit rfl ⟨by decide, by decide⟩ rfl (Nat.le_of_ble_eq_true rfl) (fun r3 s4 => ?_)
  refine V_isub X dX4_fittingOf_11 ?_
  refine V_iconst (v := 1) X dX4_fittingOf_12 (by decide) ?_
  refine V_iadd X dX4_fittingOf_13 ?_
  refine V_mmax X dX4_fittingOf_14 mtX4_32 mtS_max mtI mtC_max (by decide) (Nat.le_of_ble_eq_true rfl) ?_
  exact V_iret X E hr dX4_fittingOf_17
theorem kX4_fittingOf (l : Launch) (z : Sx) (hZ : z.2.2.2.1 = kdC) (N : Nat) (h : Nat) (hh : z.2.2.2.1 h = (4, 0)) (v1 : Int32) (σ : Mem) : Ct QI yX4_fittingOf cX4_fittingOf 2 (some .int) 2 49 l z [.ref (z.2.2.1 h), .int v1] σ (fX4_fittingOf N h v1 σ) := by
  refine Ct_of (by decide +kernel) (Nat.le_of_ble_eq_true rfl) rfl ?_
  intro x _ X E hr
  exact bX4_fittingOf_0 X E hr hZ N h hh v1 σ
def fX4_fitting_b4 (N : Nat) (h : Nat) (rc4 : Int32 → Int32 → Mem → Option (Int32 × Mem)) (v1 : Int32) (v2 : Int32) (σ : Mem) : Option (Int32 × Mem) :=
  if 3 ≤ v2 then some (v1, σ) else bd (fX4_fittingOf N h v2 σ) (fun r3 s4 => lt_ (v1 + r3) (fun v1_5 => lt_ (v2 + 1) (fun v2_6 => rc4 v1_5 v2_6 s4)))
set_option maxRecDepth 100000 in
set_option maxHeartbeats 4000000 in
theorem bX4_fitting_4 {x : Cx} {z : Sx} (X : XG x z RX4 cX4_fitting 3 3 70) (E : XE x z) (hr : XR x (some .int)) (hZ : z.2.2.2.1 = kdC) (N : Nat) (h : Nat) (hh : z.2.2.2.1 h = (4, 0)) (rc4 : Int32 → Int32 → Mem → Option (Int32 × Mem)) (hc4 : ∀ (v1 : Int32) (v2 : Int32) (σ : Mem), VK x z 3 (BQ QI x z) 4 [(0, .ref (z.2.2.1 h)), (1, .int v1), (2, .int v2)] [] σ (rc4 v1 v2 σ)) (v1 : Int32) (v2 : Int32) (σ : Mem) : VK x z 3 (BQ QI x z) 4 [(0, .ref (z.2.2.1 h)), (1, .int v1), (2, .int v2)] [] σ (fX4_fitting_b4 N h rc4 v1 v2 σ) := by
  unfold fX4_fitting_b4
  refine V_iload_n 2 X dX4_fitting_4 rfl rfl ?_
  refine V_iconst (v := 3) X dX4_fitting_5 (by decide) ?_
  refine V_icmp_ge (tgt := 23) X dX4_fitting_6 (by decide) ?_ ?_
  · refine V_iload_n 1 X dX4_fitting_23 rfl rfl ?_
    exact V_iret X E hr dX4_fitting_24
  · refine V_iload_n 1 X dX4_fitting_9 rfl rfl ?_
    refine V_aload_n 0 X dX4_fitting_10 rfl rfl ?_
    refine V_iload_n 2 X dX4_fitting_11 rfl rfl ?_
    refine V_callI [.int v2] [.int v1] X E dX4_fitting_12 (kX4_fittingOf x.2.1 z hZ N h hh v2 σ) co4 hh gcX4_48 hyX4_fittingOf rfl ⟨by decide, by decide⟩ rfl (Nat.le_of_ble_eq_true rfl) (fun r3 s4 => ?_)
    refine V_iadd X dX4_fitting_15 ?_
    refine V_istore_nG (L' := fun v1_5 => [(1, .int v1_5), (0, .ref (z.2.2.1 h)), (2, .int v2)]) X dX4_fitting_16 rfl (by decide) (fun _ => rfl) (fun v1_5 => ?_)
    refine V_iincG (L' := fun v2_6 => [(2, .int v2_6), (1, .int v1_5), (0, .ref (z.2.2.1 h))]) 2 X dX4_fitting_17 rfl rfl (by decide) (fun _ => rfl) (fun v2_6 => ?_)
    refine V_goto (tgt := 4) X dX4_fitting_20 (by decide) ?_
    refine V_sub [2, 1, 0] rfl ?_
    exact hc4 v1_5 v2_6 s4
def fX4_fitting_l4 (N : Nat) (h : Nat) : Nat → Int32 → Int32 → Mem → Option (Int32 × Mem)
  | 0 => fun _ _ _ => none
  | n + 1 => fX4_fitting_b4 N h (fX4_fitting_l4 N h n)
theorem lX4_fitting_4 {x : Cx} {z : Sx} (X : XG x z RX4 cX4_fitting 3 3 70) (E : XE x z) (hr : XR x (some .int)) (hZ : z.2.2.2.1 = kdC) (N : Nat) (h : Nat) (hh : z.2.2.2.1 h = (4, 0)) (n : Nat) (v1 : Int32) (v2 : Int32) (σ : Mem) : VK x z 3 (BQ QI x z) 4 [(0, .ref (z.2.2.1 h)), (1, .int v1), (2, .int v2)] [] σ (fX4_fitting_l4 N h n v1 v2 σ) := by
  induction n generalizing v1 v2 σ with
  | zero => exact V_none
  | succ n ih => exact bX4_fitting_4 X E hr hZ N h hh (fX4_fitting_l4 N h n) ih v1 v2 σ
def fX4_fitting (N : Nat) (h : Nat) (σ : Mem) : Option (Int32 × Mem) :=
  lt_ 0 (fun v1_1 => lt_ 0 (fun v2_2 => fX4_fitting_l4 N h N v1_1 v2_2 σ))
set_option maxRecDepth 100000 in
set_option maxHeartbeats 4000000 in
theorem bX4_fitting_0 {x : Cx} {z : Sx} (X : XG x z RX4 cX4_fitting 3 3 70) (E : XE x z) (hr : XR x (some .int)) (hZ : z.2.2.2.1 = kdC) (N : Nat) (h : Nat) (hh : z.2.2.2.1 h = (4, 0)) (σ : Mem) : VK x z 3 (BQ QI x z) 0 [(0, .ref (z.2.2.1 h))] [] σ (fX4_fitting N h σ) := by
  unfold fX4_fitting
  refine V_iconst (v := 0) X dX4_fitting_0 (by decide) ?_
  refine V_istore_nG (L' := fun v1_1 => [(1, .int v1_1), (0, .ref (z.2.2.1 h))]) X dX4_fitting_1 rfl (by decide) (fun _ => rfl) (fun v1_1 => ?_)
  refine V_iconst (v := 0) X dX4_fitting_2 (by decide) ?_
  refine V_istore_nG (L' := fun v2_2 => [(2, .int v2_2), (1, .int v1_1), (0, .ref (z.2.2.1 h))]) X dX4_fitting_3 rfl (by decide) (fun _ => rfl) (fun v2_2 => ?_)
  refine V_sub [2, 1, 0] rfl ?_
  exact lX4_fitting_4 X E hr hZ N h hh N v1_1 v2_2 σ
theorem kX4_fitting (l : Launch) (z : Sx) (hZ : z.2.2.2.1 = kdC) (N : Nat) (h : Nat) (hh : z.2.2.2.1 h = (4, 0)) (σ : Mem) : Ct QI yX4_fitting cX4_fitting 3 (some .int) 3 70 l z [.ref (z.2.2.1 h)] σ (fX4_fitting N h σ) := by
  refine Ct_of (by decide +kernel) (Nat.le_of_ble_eq_true rfl) rfl ?_
  intro x _ X E hr
  exact bX4_fitting_0 X E hr hZ N h hh σ
def fX4_sureWood_b26 (N : Nat) (h : Nat) (rc4 : Int32 → Int32 → Mem → Option (Int32 × Mem)) (v1 : Int32) (v2 : Int32) (σ : Mem) : Option (Int32 × Mem) :=
  lt_ (v2 + 1) (fun v2_6 => rc4 v1 v2_6 σ)
set_option maxRecDepth 100000 in
set_option maxHeartbeats 4000000 in
theorem bX4_sureWood_26 {x : Cx} {z : Sx} (X : XG x z RX4 cX4_sureWood 3 3 70) (E : XE x z) (hr : XR x (some .int)) (hZ : z.2.2.2.1 = kdC) (N : Nat) (h : Nat) (hh : z.2.2.2.1 h = (4, 0)) (rc4 : Int32 → Int32 → Mem → Option (Int32 × Mem)) (hc4 : ∀ (v1 : Int32) (v2 : Int32) (σ : Mem), VK x z 3 (BQ QI x z) 4 [(0, .ref (z.2.2.1 h)), (1, .int v1), (2, .int v2)] [] σ (rc4 v1 v2 σ)) (v1 : Int32) (v2 : Int32) (σ : Mem) : VK x z 3 (BQ QI x z) 26 [(0, .ref (z.2.2.1 h)), (1, .int v1), (2, .int v2)] [] σ (fX4_sureWood_b26 N h rc4 v1 v2 σ) := by
  unfold fX4_sureWood_b26
  refine V_iincG (L' := fun v2_6 => [(2, .int v2_6), (0, .ref (z.2.2.1 h)), (1, .int v1)]) 2 X dX4_sureWood_26 rfl rfl (by decide) (fun _ => rfl) (fun v2_6 => ?_)
  refine V_goto (tgt := 4) X dX4_sureWood_29 (by decide) ?_
  refine V_sub [1, 2, 0] rfl ?_
  exact hc4 v1 v2_6 σ
def fX4_sureWood_b4 (N : Nat) (h : Nat) (rc4 : Int32 → Int32 → Mem → Option (Int32 × Mem)) (v1 : Int32) (v2 : Int32) (σ : Mem) : Option (Int32 × Mem) :=
  if 3 ≤ v2 then some (v1, σ) else bd (fX4_fittingOf N h v2 σ) (fun r3 s4 => if r3 ≤ 0 then fX4_sureWood_b26 N h rc4 v1 v2 s4 else if v1 = (-1) then lt_ v2 (fun v1_5 => fX4_sureWood_b26 N h rc4 v1_5 v2 s4) else some ((-1), s4))
set_option maxRecDepth 100000 in
set_option maxHeartbeats 4000000 in
theorem bX4_sureWood_4 {x : Cx} {z : Sx} (X : XG x z RX4 cX4_sureWood 3 3 70) (E : XE x z) (hr : XR x (some .int)) (hZ : z.2.2.2.1 = kdC) (N : Nat) (h : Nat) (hh : z.2.2.2.1 h = (4, 0)) (rc4 : Int32 → Int32 → Mem → Option (Int32 × Mem)) (hc4 : ∀ (v1 : Int32) (v2 : Int32) (σ : Mem), VK x z 3 (BQ QI x z) 4 [(0, .ref (z.2.2.1 h)), (1, .int v1), (2, .int v2)] [] σ (rc4 v1 v2 σ)) (v1 : Int32) (v2 : Int32) (σ : Mem) : VK x z 3 (BQ QI x z) 4 [(0, .ref (z.2.2.1 h)), (1, .int v1), (2, .int v2)] [] σ (fX4_sureWood_b4 N h rc4 v1 v2 σ) := by
  unfold fX4_sureWood_b4
  refine V_iload_n 2 X dX4_sureWood_4 rfl rfl ?_
  refine V_iconst (v := 3) X dX4_sureWood_5 (by decide) ?_
  refine V_icmp_ge (tgt := 32) X dX4_sureWood_6 (by decide) ?_ ?_
  · refine V_iload_n 1 X dX4_sureWood_32 rfl rfl ?_
    exact V_iret X E hr dX4_sureWood_33
  · refine V_aload_n 0 X dX4_sureWood_9 rfl rfl ?_
    refine V_iload_n 2 X dX4_sureWood_10 rfl rfl ?_
    refine V_callI [.int v2] [] X E dX4_sureWood_11 (kX4_fittingOf x.2.1 z hZ N h hh v2 σ) co4 hh gcX4_48 hyX4_fittingOf rfl ⟨by decide, by decide⟩ rfl (Nat.le_of_ble_eq_true rfl) (fun r3 s4 => ?_)
    refine V_if_le (tgt := 26) X dX4_sureWood_14 (by decide) ?_ ?_
    · refine V_sub [0, 1, 2] rfl ?_
      exact bX4_sureWood_26 X E hr hZ N h hh rc4 hc4 v1 v2 s4
    · refine V_iload_n 1 X dX4_sureWood_17 rfl rfl ?_
      refine V_iconst (v := -1) X dX4_sureWood_18 (by decide) ?_
      refine V_icmp_eq (tgt := 24) X dX4_sureWood_19 (by decide) ?_ ?_
      · refine V_iload_n 2 X dX4_sureWood_24 rfl rfl ?_
        refine V_istore_nG (L' := fun v1_5 => [(1, .int v1_5), (0, .ref (z.2.2.1 h)), (2, .int v2)]) X dX4_sureWood_25 rfl (by decide) (fun _ => rfl) (fun v1_5 => ?_)
        refine V_sub [1, 0, 2] rfl ?_
        exact bX4_sureWood_26 X E hr hZ N h hh rc4 hc4 v1_5 v2 s4
      · refine V_iconst (v := -1) X dX4_sureWood_22 (by decide) ?_
        exact V_iret X E hr dX4_sureWood_23
def fX4_sureWood_l4 (N : Nat) (h : Nat) : Nat → Int32 → Int32 → Mem → Option (Int32 × Mem)
  | 0 => fun _ _ _ => none
  | n + 1 => fX4_sureWood_b4 N h (fX4_sureWood_l4 N h n)
theorem lX4_sureWood_4 {x : Cx} {z : Sx} (X : XG x z RX4 cX4_sureWood 3 3 70) (E : XE x z) (hr : XR x (some .int)) (hZ : z.2.2.2.1 = kdC) (N : Nat) (h : Nat) (hh : z.2.2.2.1 h = (4, 0)) (n : Nat) (v1 : Int32) (v2 : Int32) (σ : Mem) : VK x z 3 (BQ QI x z) 4 [(0, .ref (z.2.2.1 h)), (1, .int v1), (2, .int v2)] [] σ (fX4_sureWood_l4 N h n v1 v2 σ) := by
  induction n generalizing v1 v2 σ with
  | zero => exact V_none
  | succ n ih => exact bX4_sureWood_4 X E hr hZ N h hh (fX4_sureWood_l4 N h n) ih v1 v2 σ
def fX4_sureWood (N : Nat) (h : Nat) (σ : Mem) : Option (Int32 × Mem) :=
  lt_ (-1) (fun v1_1 => lt_ 0 (fun v2_2 => fX4_sureWood_l4 N h N v1_1 v2_2 σ))
set_option maxRecDepth 100000 in
set_option maxHeartbeats 4000000 in
theorem bX4_sureWood_0 {x : Cx} {z : Sx} (X : XG x z RX4 cX4_sureWood 3 3 70) (E : XE x z) (hr : XR x (some .int)) (hZ : z.2.2.2.1 = kdC) (N : Nat) (h : Nat) (hh : z.2.2.2.1 h = (4, 0)) (σ : Mem) : VK x z 3 (BQ QI x z) 0 [(0, .ref (z.2.2.1 h))] [] σ (fX4_sureWood N h σ) := by
  unfold fX4_sureWood
  refine V_iconst (v := -1) X dX4_sureWood_0 (by decide) ?_
  refine V_istore_nG (L' := fun v1_1 => [(1, .int v1_1), (0, .ref (z.2.2.1 h))]) X dX4_sureWood_1 rfl (by decide) (fun _ => rfl) (fun v1_1 => ?_)
  refine V_iconst (v := 0) X dX4_sureWood_2 (by decide) ?_
  refine V_istore_nG (L' := fun v2_2 => [(2, .int v2_2), (1, .int v1_1), (0, .ref (z.2.2.1 h))]) X dX4_sureWood_3 rfl (by decide) (fun _ => rfl) (fun v2_2 => ?_)
  refine V_sub [2, 1, 0] rfl ?_
  exact lX4_sureWood_4 X E hr hZ N h hh N v1_1 v2_2 σ
theorem kX4_sureWood (l : Launch) (z : Sx) (hZ : z.2.2.2.1 = kdC) (N : Nat) (h : Nat) (hh : z.2.2.2.1 h = (4, 0)) (σ : Mem) : Ct QI yX4_sureWood cX4_sureWood 3 (some .int) 3 70 l z [.ref (z.2.2.1 h)] σ (fX4_sureWood N h σ) := by
  refine Ct_of (by decide +kernel) (Nat.le_of_ble_eq_true rfl) rfl ?_
  intro x _ X E hr
  exact bX4_sureWood_0 X E hr hZ N h hh σ
def fX4_sureLimit_b47 (N : Nat) (h : Nat) (rc4 : Int32 → Int32 → Mem → Option (Int32 × Mem)) (v1 : Int32) (v2 : Int32) (σ : Mem) : Option (Int32 × Mem) :=
  lt_ (v2 + 1) (fun v2_9 => rc4 v1 v2_9 σ)
set_option maxRecDepth 100000 in
set_option maxHeartbeats 4000000 in
theorem bX4_sureLimit_47 {x : Cx} {z : Sx} (X : XG x z RX4 cX4_sureLimit 5 3 70) (E : XE x z) (hr : XR x (some .int)) (hZ : z.2.2.2.1 = kdC) (N : Nat) (h : Nat) (hh : z.2.2.2.1 h = (4, 0)) (rc4 : Int32 → Int32 → Mem → Option (Int32 × Mem)) (hc4 : ∀ (v1 : Int32) (v2 : Int32) (σ : Mem), VK x z 5 (BQ QI x z) 4 [(0, .ref (z.2.2.1 h)), (1, .int v1), (2, .int v2)] [] σ (rc4 v1 v2 σ)) (v1 : Int32) (v2 : Int32) (σ : Mem) : VK x z 5 (BQ QI x z) 47 [(0, .ref (z.2.2.1 h)), (1, .int v1), (2, .int v2)] [] σ (fX4_sureLimit_b47 N h rc4 v1 v2 σ) := by
  unfold fX4_sureLimit_b47
  refine V_iincG (L' := fun v2_9 => [(2, .int v2_9), (0, .ref (z.2.2.1 h)), (1, .int v1)]) 2 X dX4_sureLimit_47 rfl rfl (by decide) (fun _ => rfl) (fun v2_9 => ?_)
  refine V_goto (tgt := 4) X dX4_sureLimit_50 (by decide) ?_
  refine V_sub [1, 2, 0] rfl ?_
  exact hc4 v1 v2_9 σ
def fX4_sureLimit_b44 (N : Nat) (h : Nat) (rc4 : Int32 → Int32 → Mem → Option (Int32 × Mem)) (v2 : Int32) (v4 : Int32) (σ : Mem) : Option (Int32 × Mem) :=
  lt_ v4 (fun v1_10 => fX4_sureLimit_b47 N h rc4 v1_10 v2 σ)
set_option maxRecDepth 100000 in
set_option maxHeartbeats 4000000 in
theorem bX4_sureLimit_44 {x : Cx} {z : Sx} (X : XG x z RX4 cX4_sureLimit 5 3 70) (E : XE x z) (hr : XR x (some .int)) (hZ : z.2.2.2.1 = kdC) (N : Nat) (h : Nat) (hh : z.2.2.2.1 h = (4, 0)) (rc4 : Int32 → Int32 → Mem → Option (Int32 × Mem)) (hc4 : ∀ (v1 : Int32) (v2 : Int32) (σ : Mem), VK x z 5 (BQ QI x z) 4 [(0, .ref (z.2.2.1 h)), (1, .int v1), (2, .int v2)] [] σ (rc4 v1 v2 σ)) (v2 : Int32) (v4 : Int32) (σ : Mem) : VK x z 5 (BQ QI x z) 44 [(0, .ref (z.2.2.1 h)), (2, .int v2), (4, .int v4)] [] σ (fX4_sureLimit_b44 N h rc4 v2 v4 σ) := by
  unfold fX4_sureLimit_b44
  refine V_iload 2 X dX4_sureLimit_44 rfl ?_
  refine V_istore_nG (L' := fun v1_10 => [(1, .int v1_10), (0, .ref (z.2.2.1 h)), (2, .int v2), (4, .int v4)]) X dX4_sureLimit_46 rfl (by decide) (fun _ => rfl) (fun v1_10 => ?_)
  refine V_sub [1, 0, 2] rfl ?_
  exact bX4_sureLimit_47 X E hr hZ N h hh rc4 hc4 v1_10 v2 σ
def fX4_sureLimit_b4 (N : Nat) (h : Nat) (rc4 : Int32 → Int32 → Mem → Option (Int32 × Mem)) (v1 : Int32) (v2 : Int32) (σ : Mem) : Option (Int32 × Mem) :=
  if 3 ≤ v2 then some (v1, σ) else bd (fX4_fittingOf N h v2 σ) (fun r3 s4 => lt_ r3 (fun v3_5 => if v3_5 ≤ 0 then fX4_sureLimit_b47 N h rc4 v1 v2 s4 else bd (fX4_leastLimit N h v2 s4) (fun r6 s7 => lt_ r6 (fun v4_8 => if 1 < v3_5 then some ((-1), s7) else if v1 = (-1) then fX4_sureLimit_b44 N h rc4 v2 v4_8 s7 else if v1 = v4_8 then fX4_sureLimit_b44 N h rc4 v2 v4_8 s7 else some ((-1), s7)))))
set_option maxRecDepth 100000 in
set_option maxHeartbeats 4000000 in
theorem bX4_sureLimit_4 {x : Cx} {z : Sx} (X : XG x z RX4 cX4_sureLimit 5 3 70) (E : XE x z) (hr : XR x (some .int)) (hZ : z.2.2.2.1 = kdC) (N : Nat) (h : Nat) (hh : z.2.2.2.1 h = (4, 0)) (rc4 : Int32 → Int32 → Mem → Option (Int32 × Mem)) (hc4 : ∀ (v1 : Int32) (v2 : Int32) (σ : Mem), VK x z 5 (BQ QI x z) 4 [(0, .ref (z.2.2.1 h)), (1, .int v1), (2, .int v2)] [] σ (rc4 v1 v2 σ)) (v1 : Int32) (v2 : Int32) (σ : Mem) : VK x z 5 (BQ QI x z) 4 [(0, .ref (z.2.2.1 h)), (1, .int v1), (2, .int v2)] [] σ (fX4_sureLimit_b4 N h rc4 v1 v2 σ) := by
  unfold fX4_sureLimit_b4
  refine V_iload_n 2 X dX4_sureLimit_4 rfl rfl ?_
  refine V_iconst (v := 3) X dX4_sureLimit_5 (by decide) ?_
  refine V_icmp_ge (tgt := 53) X dX4_sureLimit_6 (by decide) ?_ ?_
  · refine V_iload_n 1 X dX4_sureLimit_53 rfl rfl ?_
    exact V_iret X E hr dX4_sureLimit_54
  · refine V_aload_n 0 X dX4_sureLimit_9 rfl rfl ?_
    refine V_iload_n 2 X dX4_sureLimit_10 rfl rfl ?_
    refine V_callI [.int v2] [] X E dX4_sureLimit_11 (kX4_fittingOf x.2.1 z hZ N h hh v2 σ) co4 hh gcX4_48 hyX4_fittingOf rfl ⟨by decide, by decide⟩ rfl (Nat.le_of_ble_eq_true rfl) (fun r3 s4 => ?_)
    refine V_istore_nG (L' := fun v3_5 => [(3, .int v3_5), (0, .ref (z.2.2.1 h)), (1, .int v1), (2, .int v2)]) X dX4_sureLimit_14 rfl (by decide) (fun _ => rfl) (fun v3_5 => ?_)
    refine V_iload_n 0 X dX4_sureLimit_15 rfl rfl ?_
    refine V_if_le (tgt := 47) X dX4_sureLimit_16 (by decide) ?_ ?_
    · refine V_sub [1, 2, 3] rfl ?_
      exact bX4_sureLimit_47 X E hr hZ N h hh rc4 hc4 v1 v2 s4
    · refine V_aload_n 1 X dX4_sureLimit_19 rfl rfl ?_
      refine V_iload_n 3 X dX4_sureLimit_20 rfl rfl ?_
      refine V_callI [.int v2] [] X E dX4_sureLimit_21 (kX4_leastLimit x.2.1 z hZ N h hh v2 s4) co4 hh gcX4_45 hyX4_leastLimit rfl ⟨by decide, by decide⟩ rfl (Nat.le_of_ble_eq_true rfl) (fun r6 s7 => ?_)
      refine V_istoreG (L' := fun v4_8 => [(4, .int v4_8), (3, .int v3_5), (0, .ref (z.2.2.1 h)), (1, .int v1), (2, .int v2)]) X dX4_sureLimit_24 (by decide) (fun _ => rfl) (fun v4_8 => ?_)
      refine V_iload_n 1 X dX4_sureLimit_26 rfl rfl ?_
      refine V_iconst (v := 1) X dX4_sureLimit_27 (by decide) ?_
      refine V_icmp_gt (tgt := 42) X dX4_sureLimit_28 (by decide) ?_ ?_
      · refine V_iconst (v := -1) X dX4_sureLimit_42 (by decide) ?_
        exact V_iret X E hr dX4_sureLimit_43
      · refine V_iload_n 3 X dX4_sureLimit_31 rfl rfl ?_
        refine V_iconst (v := -1) X dX4_sureLimit_32 (by decide) ?_
        refine V_icmp_eq (tgt := 44) X dX4_sureLimit_33 (by decide) ?_ ?_
        · refine V_sub [2, 4, 0] rfl ?_
          exact bX4_sureLimit_44 X E hr hZ N h hh rc4 hc4 v2 v4_8 s7
        · refine V_iload_n 3 X dX4_sureLimit_36 rfl rfl ?_
          refine V_iload 0 X dX4_sureLimit_37 rfl ?_
          refine V_icmp_eq (tgt := 44) X dX4_sureLimit_39 (by decide) ?_ ?_
          · refine V_sub [2, 4, 0] rfl ?_
            exact bX4_sureLimit_44 X E hr hZ N h hh rc4 hc4 v2 v4_8 s7
          · refine V_iconst (v := -1) X dX4_sureLimit_42 (by decide) ?_
            exact V_iret X E hr dX4_sureLimit_43
def fX4_sureLimit_l4 (N : Nat) (h : Nat) : Nat → Int32 → Int32 → Mem → Option (Int32 × Mem)
  | 0 => fun _ _ _ => none
  | n + 1 => fX4_sureLimit_b4 N h (fX4_sureLimit_l4 N h n)
theorem lX4_sureLimit_4 {x : Cx} {z : Sx} (X : XG x z RX4 cX4_sureLimit 5 3 70) (E : XE x z) (hr : XR x (some .int)) (hZ : z.2.2.2.1 = kdC) (N : Nat) (h : Nat) (hh : z.2.2.2.1 h = (4, 0)) (n : Nat) (v1 : Int32) (v2 : Int32) (σ : Mem) : VK x z 5 (BQ QI x z) 4 [(0, .ref (z.2.2.1 h)), (1, .int v1), (2, .int v2)] [] σ (fX4_sureLimit_l4 N h n v1 v2 σ) := by
  induction n generalizing v1 v2 σ with
  | zero => exact V_none
  | succ n ih => exact bX4_sureLimit_4 X E hr hZ N h hh (fX4_sureLimit_l4 N h n) ih v1 v2 σ
def fX4_sureLimit (N : Nat) (h : Nat) (σ : Mem) : Option (Int32 × Mem) :=
  lt_ (-1) (fun v1_1 => lt_ 0 (fun v2_2 => fX4_sureLimit_l4 N h N v1_1 v2_2 σ))
set_option maxRecDepth 100000 in
set_option maxHeartbeats 4000000 in
theorem bX4_sureLimit_0 {x : Cx} {z : Sx} (X : XG x z RX4 cX4_sureLimit 5 3 70) (E : XE x z) (hr : XR x (some .int)) (hZ : z.2.2.2.1 = kdC) (N : Nat) (h : Nat) (hh : z.2.2.2.1 h = (4, 0)) (σ : Mem) : VK x z 5 (BQ QI x z) 0 [(0, .ref (z.2.2.1 h))] [] σ (fX4_sureLimit N h σ) := by
  unfold fX4_sureLimit
  refine V_iconst (v := -1) X dX4_sureLimit_0 (by decide) ?_
  refine V_istore_nG (L' := fun v1_1 => [(1, .int v1_1), (0, .ref (z.2.2.1 h))]) X dX4_sureLimit_1 rfl (by decide) (fun _ => rfl) (fun v1_1 => ?_)
  refine V_iconst (v := 0) X dX4_sureLimit_2 (by decide) ?_
  refine V_istore_nG (L' := fun v2_2 => [(2, .int v2_2), (1, .int v1_1), (0, .ref (z.2.2.1 h))]) X dX4_sureLimit_3 rfl (by decide) (fun _ => rfl) (fun v2_2 => ?_)
  refine V_sub [2, 1, 0] rfl ?_
  exact lX4_sureLimit_4 X E hr hZ N h hh N v1_1 v2_2 σ
theorem kX4_sureLimit (l : Launch) (z : Sx) (hZ : z.2.2.2.1 = kdC) (N : Nat) (h : Nat) (hh : z.2.2.2.1 h = (4, 0)) (σ : Mem) : Ct QI yX4_sureLimit cX4_sureLimit 5 (some .int) 3 70 l z [.ref (z.2.2.1 h)] σ (fX4_sureLimit N h σ) := by
  refine Ct_of (by decide +kernel) (Nat.le_of_ble_eq_true rfl) rfl ?_
  intro x _ X E hr
  exact bX4_sureLimit_0 X E hr hZ N h hh σ
def fX4_fittingAt_b4 (N : Nat) (h : Nat) (rc4 : Int32 → Int32 → Mem → Option (Int32 × Mem)) (v2 : Int32) (v3 : Int32) (σ : Mem) : Option (Int32 × Mem) :=
  if 3 ≤ v3 then some ((-2), σ) else bd (fX4_fittingOf N h v3 σ) (fun r3 s4 => lt_ r3 (fun v4_5 => if v4_5 ≤ v2 then lt_ (v2 - v4_5) (fun v2_6 => lt_ (v3 + 1) (fun v3_7 => rc4 v2_6 v3_7 s4)) else bd (fX4_leastLimit N h v3 s4) (fun r8 s9 => some (((((99 * v3) + r8) - 1) + v2), s9))))
set_option maxRecDepth 100000 in
set_option maxHeartbeats 4000000 in
theorem bX4_fittingAt_4 {x : Cx} {z : Sx} (X : XG x z RX4 cX4_fittingAt 5 3 70) (E : XE x z) (hr : XR x (some .int)) (hZ : z.2.2.2.1 = kdC) (N : Nat) (h : Nat) (hh : z.2.2.2.1 h = (4, 0)) (rc4 : Int32 → Int32 → Mem → Option (Int32 × Mem)) (hc4 : ∀ (v2 : Int32) (v3 : Int32) (σ : Mem), VK x z 5 (BQ QI x z) 4 [(0, .ref (z.2.2.1 h)), (2, .int v2), (3, .int v3)] [] σ (rc4 v2 v3 σ)) (v2 : Int32) (v3 : Int32) (σ : Mem) : VK x z 5 (BQ QI x z) 4 [(0, .ref (z.2.2.1 h)), (2, .int v2), (3, .int v3)] [] σ (fX4_fittingAt_b4 N h rc4 v2 v3 σ) := by
  unfold fX4_fittingAt_b4
  refine V_iload_n 2 X dX4_fittingAt_4 rfl rfl ?_
  refine V_iconst (v := 3) X dX4_fittingAt_5 (by decide) ?_
  refine V_icmp_ge (tgt := 48) X dX4_fittingAt_6 (by decide) ?_ ?_
  · refine V_bipush (v := -2) X dX4_fittingAt_48 (by decide) ?_
    exact V_iret X E hr dX4_fittingAt_50
  · refine V_aload_n 0 X dX4_fittingAt_9 rfl rfl ?_
    refine V_iload_n 2 X dX4_fittingAt_10 rfl rfl ?_
    refine V_callI [.int v3] [] X E dX4_fittingAt_11 (kX4_fittingOf x.2.1 z hZ N h hh v3 σ) co4 hh gcX4_48 hyX4_fittingOf rfl ⟨by decide, by decide⟩ rfl (Nat.le_of_ble_eq_true rfl) (fun r3 s4 => ?_)
    refine V_istoreG (L' := fun v4_5 => [(4, .int v4_5), (0, .ref (z.2.2.1 h)), (2, .int v2), (3, .int v3)]) X dX4_fittingAt_14 (by decide) (fun _ => rfl) (fun v4_5 => ?_)
    refine V_iload_n 2 X dX4_fittingAt_16 rfl rfl ?_
    refine V_iload 0 X dX4_fittingAt_17 rfl ?_
    refine V_icmp_ge (tgt := 37) X dX4_fittingAt_19 (by decide) ?_ ?_
    · refine V_iload_n 2 X dX4_fittingAt_37 rfl rfl ?_
      refine V_iload 0 X dX4_fittingAt_38 rfl ?_
      refine V_isub X dX4_fittingAt_40 ?_
      refine V_istore_nG (L' := fun v2_6 => [(2, .int v2_6), (4, .int v4_5), (0, .ref (z.2.2.1 h)), (3, .int v3)]) X dX4_fittingAt_41 rfl (by decide) (fun _ => rfl) (fun v2_6 => ?_)
      refine V_iincG (L' := fun v3_7 => [(3, .int v3_7), (2, .int v2_6), (4, .int v4_5), (0, .ref (z.2.2.1 h))]) 3 X dX4_fittingAt_42 rfl rfl (by decide) (fun _ => rfl) (fun v3_7 => ?_)
      refine V_goto (tgt := 4) X dX4_fittingAt_45 (by decide) ?_
      refine V_sub [3, 1, 0] rfl ?_
      exact hc4 v2_6 v3_7 s4
    · refine V_bipush (v := 99) X dX4_fittingAt_22 (by decide) ?_
      refine V_iload_n 3 X dX4_fittingAt_24 rfl rfl ?_
      refine V_imul X dX4_fittingAt_25 ?_
      refine V_aload_n 1 X dX4_fittingAt_26 rfl rfl ?_
      refine V_iload_n 3 X dX4_fittingAt_27 rfl rfl ?_
      refine V_callI [.int v3] [.int (99 * v3)] X E dX4_fittingAt_28 (kX4_leastLimit x.2.1 z hZ N h hh v3 s4) co4 hh gcX4_45 hyX4_leastLimit rfl ⟨by decide, by decide⟩ rfl (Nat.le_of_ble_eq_true rfl) (fun r8 s9 => ?_)
      refine V_iadd X dX4_fittingAt_31 ?_
      refine V_iconst (v := 1) X dX4_fittingAt_32 (by decide) ?_
      refine V_isub X dX4_fittingAt_33 ?_
      refine V_iload_n 2 X dX4_fittingAt_34 rfl rfl ?_
      refine V_iadd X dX4_fittingAt_35 ?_
      exact V_iret X E hr dX4_fittingAt_36
def fX4_fittingAt_l4 (N : Nat) (h : Nat) : Nat → Int32 → Int32 → Mem → Option (Int32 × Mem)
  | 0 => fun _ _ _ => none
  | n + 1 => fX4_fittingAt_b4 N h (fX4_fittingAt_l4 N h n)
theorem lX4_fittingAt_4 {x : Cx} {z : Sx} (X : XG x z RX4 cX4_fittingAt 5 3 70) (E : XE x z) (hr : XR x (some .int)) (hZ : z.2.2.2.1 = kdC) (N : Nat) (h : Nat) (hh : z.2.2.2.1 h = (4, 0)) (n : Nat) (v2 : Int32) (v3 : Int32) (σ : Mem) : VK x z 5 (BQ QI x z) 4 [(0, .ref (z.2.2.1 h)), (2, .int v2), (3, .int v3)] [] σ (fX4_fittingAt_l4 N h n v2 v3 σ) := by
  induction n generalizing v2 v3 σ with
  | zero => exact V_none
  | succ n ih => exact bX4_fittingAt_4 X E hr hZ N h hh (fX4_fittingAt_l4 N h n) ih v2 v3 σ
def fX4_fittingAt (N : Nat) (h : Nat) (v1 : Int32) (σ : Mem) : Option (Int32 × Mem) :=
  lt_ v1 (fun v2_1 => lt_ 0 (fun v3_2 => fX4_fittingAt_l4 N h N v2_1 v3_2 σ))
set_option maxRecDepth 100000 in
set_option maxHeartbeats 4000000 in
theorem bX4_fittingAt_0 {x : Cx} {z : Sx} (X : XG x z RX4 cX4_fittingAt 5 3 70) (E : XE x z) (hr : XR x (some .int)) (hZ : z.2.2.2.1 = kdC) (N : Nat) (h : Nat) (hh : z.2.2.2.1 h = (4, 0)) (v1 : Int32) (σ : Mem) : VK x z 5 (BQ QI x z) 0 [(0, .ref (z.2.2.1 h)), (1, .int v1)] [] σ (fX4_fittingAt N h v1 σ) := by
  unfold fX4_fittingAt
  refine V_iload_n 1 X dX4_fittingAt_0 rfl rfl ?_
  refine V_istore_nG (L' := fun v2_1 => [(2, .int v2_1), (0, .ref (z.2.2.1 h)), (1, .int v1)]) X dX4_fittingAt_1 rfl (by decide) (fun _ => rfl) (fun v2_1 => ?_)
  refine V_iconst (v := 0) X dX4_fittingAt_2 (by decide) ?_
  refine V_istore_nG (L' := fun v3_2 => [(3, .int v3_2), (2, .int v2_1), (0, .ref (z.2.2.1 h)), (1, .int v1)]) X dX4_fittingAt_3 rfl (by decide) (fun _ => rfl) (fun v3_2 => ?_)
  refine V_sub [2, 1, 0] rfl ?_
  exact lX4_fittingAt_4 X E hr hZ N h hh N v2_1 v3_2 σ
theorem kX4_fittingAt (l : Launch) (z : Sx) (hZ : z.2.2.2.1 = kdC) (N : Nat) (h : Nat) (hh : z.2.2.2.1 h = (4, 0)) (v1 : Int32) (σ : Mem) : Ct QI yX4_fittingAt cX4_fittingAt 5 (some .int) 3 70 l z [.ref (z.2.2.1 h), .int v1] σ (fX4_fittingAt N h v1 σ) := by
  refine Ct_of (by decide +kernel) (Nat.le_of_ble_eq_true rfl) rfl ?_
  intro x _ X E hr
  exact bX4_fittingAt_0 X E hr hZ N h hh v1 σ
def fX11_fits (N : Nat) (h : Nat) (v1 : Int32) (v2 : Int32) (σ : Mem) : Option (Int32 × Mem) :=
  bd (fX9_logAt N (h + 1) v1 σ) (fun or1 s2 => mqK (4, 0) or1 (some ((-2), s2)) (fun r1 => if v2 = 0 then bd (fX4_fitting N r1 s2) (fun r10 s11 => some (r10, s11)) else if v2 = 1 then bd (fX4_sureWood N r1 s2) (fun r8 s9 => some (r8, s9)) else if v2 = 2 then bd (fX4_sureLimit N r1 s2) (fun r6 s7 => some (r6, s7)) else if v2 < 10 then some ((-2), s2) else bd (fX4_fittingAt N r1 (v2 - 10) s2) (fun r4 s5 => some (r4, s5))))
set_option maxRecDepth 100000 in
set_option maxHeartbeats 4000000 in
theorem bX11_fits_0 {x : Cx} {z : Sx} (X : XG x z RX11 cX11_fits 4 4 94) (E : XE x z) (hr : XR x (some .int)) (hZ : z.2.2.2.1 = kdC) (N : Nat) (h : Nat) (hh : z.2.2.2.1 h = (11, 0)) (v1 : Int32) (v2 : Int32) (σ : Mem) : VK x z 4 (BQ QI x z) 0 [(0, .ref (z.2.2.1 h)), (1, .int v1), (2, .int v2)] [] σ (fX11_fits N h v1 v2 σ) := by
  unfold fX11_fits
  refine V_aload_n 0 X dX11_fits_0 rfl rfl ?_
  refine V_getR (k1 := (h + 1)) 0 X dX11_fits_1 co11 hh (by decide) rfl rfl wfX11_10 ?_
  refine V_iload_n 1 X dX11_fits_4 rfl rfl ?_
  refine V_callQC (K := (4, 0)) [.int v1] [] X E hZ dX11_fits_5 (kX9_logAt x.2.1 z hZ N (h + 1) (kt11_0 hZ hh) v1 σ) co9 (kt11_0 hZ hh) gcX11_223 hyX9_logAt rfl ⟨by decide, by decide⟩ rfl (Nat.le_of_ble_eq_true rfl) (fun s2 => ?_) (fun r1 s2 hb3 => ?_)
  · refine V_astore_nN (L' := [(3, .null), (0, .ref (z.2.2.1 h)), (1, .int v1), (2, .int v2)]) X dX11_fits_8 rfl (by decide) rfl ?_
    refine V_aload_nN 0 X dX11_fits_9 rfl rfl ?_
    refine V_ifnonnullN X dX11_fits_10 ?_
    refine V_bipush (v := -2) X dX11_fits_13 (by decide) ?_
    exact V_iret X E hr dX11_fits_15
  · refine V_astore_n (L' := [(3, .ref (z.2.2.1 r1)), (0, .ref (z.2.2.1 h)), (1, .int v1), (2, .int v2)]) X dX11_fits_8 rfl (by decide) rfl ?_
    refine V_aload_n 0 X dX11_fits_9 rfl rfl ?_
    refine V_ifnonnull (tgt := 16) X dX11_fits_10 (by decide) ?_
    refine V_iload_n 3 X dX11_fits_16 rfl rfl ?_
    refine V_if_ne (tgt := 25) X dX11_fits_17 (by decide) ?_ ?_
    · refine V_iload_n 3 X dX11_fits_25 rfl rfl ?_
      refine V_iconst (v := 1) X dX11_fits_26 (by decide) ?_
      refine V_icmp_ne (tgt := 35) X dX11_fits_27 (by decide) ?_ ?_
      · refine V_iload_n 3 X dX11_fits_35 rfl rfl ?_
        refine V_iconst (v := 2) X dX11_fits_36 (by decide) ?_
        refine V_icmp_ne (tgt := 45) X dX11_fits_37 (by decide) ?_ ?_
        · refine V_iload_n 3 X dX11_fits_45 rfl rfl ?_
          refine V_bipush (v := 10) X dX11_fits_46 (by decide) ?_
          refine V_icmp_lt (tgt := 62) X dX11_fits_48 (by decide) ?_ ?_
          · refine V_bipush (v := -2) X dX11_fits_62 (by decide) ?_
            exact V_iret X E hr dX11_fits_64
          · refine V_aload_n 0 X dX11_fits_51 rfl rfl ?_
            refine V_iload_n 3 X dX11_fits_52 rfl rfl ?_
            refine V_bipush (v := 10) X dX11_fits_53 (by decide) ?_
            refine V_isub X dX11_fits_55 ?_
            refine V_callI [.int (v2 - 10)] [] X E dX11_fits_56 (kX4_fittingAt x.2.1 z hZ N r1 hb3 (v2 - 10) s2) co4 hb3 gcX11_239 hyX4_fittingAt rfl ⟨by decide, by decide⟩ rfl (Nat.le_of_ble_eq_true rfl) (fun r4 s5 => ?_)
            refine V_goto (tgt := 64) X dX11_fits_59 (by decide) ?_
            exact V_iret X E hr dX11_fits_64
        · refine V_aload_n 0 X dX11_fits_40 rfl rfl ?_
          refine V_callI [] [] X E dX11_fits_41 (kX4_sureLimit x.2.1 z hZ N r1 hb3 s2) co4 hb3 gcX11_236 hyX4_sureLimit rfl ⟨by decide, by decide⟩ rfl (Nat.le_of_ble_eq_true rfl) (fun r6 s7 => ?_)
          exact V_iret X E hr dX11_fits_44
      · refine V_aload_n 0 X dX11_fits_30 rfl rfl ?_
        refine V_callI [] [] X E dX11_fits_31 (kX4_sureWood x.2.1 z hZ N r1 hb3 s2) co4 hb3 gcX11_233 hyX4_sureWood rfl ⟨by decide, by decide⟩ rfl (Nat.le_of_ble_eq_true rfl) (fun r8 s9 => ?_)
        exact V_iret X E hr dX11_fits_34
    · refine V_aload_n 0 X dX11_fits_20 rfl rfl ?_
      refine V_callI [] [] X E dX11_fits_21 (kX4_fitting x.2.1 z hZ N r1 hb3 s2) co4 hb3 gcX11_230 hyX4_fitting rfl ⟨by decide, by decide⟩ rfl (Nat.le_of_ble_eq_true rfl) (fun r10 s11 => ?_)
      exact V_iret X E hr dX11_fits_24
theorem kX11_fits (l : Launch) (z : Sx) (hZ : z.2.2.2.1 = kdC) (N : Nat) (h : Nat) (hh : z.2.2.2.1 h = (11, 0)) (v1 : Int32) (v2 : Int32) (σ : Mem) : Ct QI yX11_fits cX11_fits 4 (some .int) 4 94 l z [.ref (z.2.2.1 h), .int v1, .int v2] σ (fX11_fits N h v1 v2 σ) := by
  refine Ct_of (by decide +kernel) (Nat.le_of_ble_eq_true rfl) rfl ?_
  intro x _ X E hr
  exact bX11_fits_0 X E hr hZ N h hh v1 v2 σ
def fX4_soundingAt_b6 (N : Nat) (h : Nat) (rc6 : Int32 → Int32 → Int32 → Int32 → Int32 → Mem → Option (Int32 × Mem)) (v1 : Int32) (v2 : Int32) (v3 : Int32) (v4 : Int32) (v5 : Int32) (σ : Mem) : Option (Int32 × Mem) :=
  if 3 ≤ v5 then some (v4, σ) else bd (fX4_loudness N v5 v1 v2 v3 σ) (fun r3 s4 => lt_ r3 (fun v6_5 => bd (fX4_mostLimit N h v5 s4) (fun r6 s7 => lt_ (mnI v6_5 r6) (fun v7_8 => bd (fX4_leastLimit N h v5 s7) (fun r9 s10 => lt_ (v4 + (mxI 0 ((v7_8 - r9) + 1))) (fun v4_11 => lt_ (v5 + 1) (fun v5_12 => rc6 v1 v2 v3 v4_11 v5_12 s10)))))))
set_option maxRecDepth 100000 in
set_option maxHeartbeats 4000000 in
theorem bX4_soundingAt_6 {x : Cx} {z : Sx} (X : XG x z RX4 cX4_soundingAt 8 2 49) (E : XE x z) (hr : XR x (some .int)) (hZ : z.2.2.2.1 = kdC) (N : Nat) (h : Nat) (hh : z.2.2.2.1 h = (4, 0)) (rc6 : Int32 → Int32 → Int32 → Int32 → Int32 → Mem → Option (Int32 × Mem)) (hc6 : ∀ (v1 : Int32) (v2 : Int32) (v3 : Int32) (v4 : Int32) (v5 : Int32) (σ : Mem), VK x z 8 (BQ QI x z) 6 [(0, .ref (z.2.2.1 h)), (1, .int v1), (2, .int v2), (3, .int v3), (4, .int v4), (5, .int v5)] [] σ (rc6 v1 v2 v3 v4 v5 σ)) (v1 : Int32) (v2 : Int32) (v3 : Int32) (v4 : Int32) (v5 : Int32) (σ : Mem) : VK x z 8 (BQ QI x z) 6 [(0, .ref (z.2.2.1 h)), (1, .int v1), (2, .int v2), (3, .int v3), (4, .int v4), (5, .int v5)] [] σ (fX4_soundingAt_b6 N h rc6 v1 v2 v3 v4 v5 σ) := by
  unfold fX4_soundingAt_b6
  refine V_iload 5 X dX4_soundingAt_6 rfl ?_
  refine V_iconst (v := 3) X dX4_soundingAt_8 (by decide) ?_
  refine V_icmp_ge (tgt := 61) X dX4_soundingAt_9 (by decide) ?_ ?_
  · refine V_iload 4 X dX4_soundingAt_61 rfl ?_
    exact V_iret X E hr dX4_soundingAt_63
  · refine V_iload 5 X dX4_soundingAt_12 rfl ?_
    refine V_iload_n 1 X dX4_soundingAt_14 rfl rfl ?_
    refine V_iload_n 2 X dX4_soundingAt_15 rfl rfl ?_
    refine V_iload_n 3 X dX4_soundingAt_16 rfl rfl ?_
    refine V_calSI [.int v5, .int v1, .int v2, .int v3] [] X E dX4_soundingAt_17 (kX4_loudness x.2.1 z hZ N v5 v1 v2 v3 σ) gcX4_28 hyX4_loudness rfl ⟨by decide, by decide⟩ rfl (Nat.le_of_ble_eq_true rfl) (fun r3 s4 => ?_)
    refine V_istoreG (L' := fun v6_5 => [(6, .int v6_5), (0, .ref (z.2.2.1 h)), (1, .int v1), (2, .int v2), (3, .int v3), (4, .int v4), (5, .int v5)]) X dX4_soundingAt_20 (by decide) (fun _ => rfl) (fun v6_5 => ?_)
    refine V_iload 0 X dX4_soundingAt_22 rfl ?_
    refine V_aload_n 1 X dX4_soundingAt_24 rfl rfl ?_
    refine V_iload 6 X dX4_soundingAt_25 rfl ?_
    refine V_callI [.int v5] [.int v6_5] X E dX4_soundingAt_27 (kX4_mostLimit x.2.1 z hZ N h hh v5 s4) co4 hh gcX4_41 hyX4_mostLimit rfl ⟨by decide, by decide⟩ rfl (Nat.le_of_ble_eq_true rfl) (fun r6 s7 => ?_)
    refine V_mmin X dX4_soundingAt_30 mtX4_38 mtS_min mtI mtC_min (by decide) (Nat.le_of_ble_eq_true rfl) ?_
    refine V_istoreG (L' := fun v7_8 => [(7, .int v7_8), (6, .int v6_5), (0, .ref (z.2.2.1 h)), (1, .int v1), (2, .int v2), (3, .int v3), (4, .int v4), (5, .int v5)]) X dX4_soundingAt_33 (by decide) (fun _ => rfl) (fun v7_8 => ?_)
    refine V_iload 6 X dX4_soundingAt_35 rfl ?_
    refine V_iconst (v := 0) X dX4_soundingAt_37 (by decide) ?_
    refine V_iload 0 X dX4_soundingAt_38 rfl ?_
    refine V_aload_n 2 X dX4_soundingAt_40 rfl rfl ?_
    refine V_iload 7 X dX4_soundingAt_41 rfl ?_
    refine V_callI [.int v5] [.int v7_8, .int 0, .int v4] X E dX4_soundingAt_43 (kX4_leastLimit x.2.1 z hZ N h hh v5 s7) co4 hh gcX4_45 hyX4_leastLimit rfl ⟨by decide, by decide⟩ rfl (Nat.le_of_ble_eq_true rfl) (fun r9 s10 => ?_)
    refine V_isub X dX4_soundingAt_46 ?_
    refine V_iconst (v := 1) X dX4_soundingAt_47 (by decide) ?_
    refine V_iadd X dX4_soundingAt_48 ?_
    refine V_mmax X dX4_soundingAt_49 mtX4_32 mtS_max mtI mtC_max (by decide) (Nat.le_of_ble_eq_true rfl) ?_
    refine V_iadd X dX4_soundingAt_52 ?_
    refine V_istoreG (L' := fun v4_11 => [(4, .int v4_11), (7, .int v7_8), (6, .int v6_5), (0, .ref (z.2.2.1 h)), (1, .int v1), (2, .int v2), (3, .int v3), (5, .int v5)]) X dX4_soundingAt_53 (by decide) (fun _ => rfl) (fun v4_11 => ?_)
    refine V_iincG (L' := fun v5_12 => [(5, .int v5_12), (4, .int v4_11), (7, .int v7_8), (6, .int v6_5), (0, .ref (z.2.2.1 h)), (1, .int v1), (2, .int v2), (3, .int v3)]) 7 X dX4_soundingAt_55 rfl rfl (by decide) (fun _ => rfl) (fun v5_12 => ?_)
    refine V_goto (tgt := 6) X dX4_soundingAt_58 (by decide) ?_
    refine V_sub [4, 5, 6, 7, 1, 0] rfl ?_
    exact hc6 v1 v2 v3 v4_11 v5_12 s10
def fX4_soundingAt_l6 (N : Nat) (h : Nat) : Nat → Int32 → Int32 → Int32 → Int32 → Int32 → Mem → Option (Int32 × Mem)
  | 0 => fun _ _ _ _ _ _ => none
  | n + 1 => fX4_soundingAt_b6 N h (fX4_soundingAt_l6 N h n)
theorem lX4_soundingAt_6 {x : Cx} {z : Sx} (X : XG x z RX4 cX4_soundingAt 8 2 49) (E : XE x z) (hr : XR x (some .int)) (hZ : z.2.2.2.1 = kdC) (N : Nat) (h : Nat) (hh : z.2.2.2.1 h = (4, 0)) (n : Nat) (v1 : Int32) (v2 : Int32) (v3 : Int32) (v4 : Int32) (v5 : Int32) (σ : Mem) : VK x z 8 (BQ QI x z) 6 [(0, .ref (z.2.2.1 h)), (1, .int v1), (2, .int v2), (3, .int v3), (4, .int v4), (5, .int v5)] [] σ (fX4_soundingAt_l6 N h n v1 v2 v3 v4 v5 σ) := by
  induction n generalizing v1 v2 v3 v4 v5 σ with
  | zero => exact V_none
  | succ n ih => exact bX4_soundingAt_6 X E hr hZ N h hh (fX4_soundingAt_l6 N h n) ih v1 v2 v3 v4 v5 σ
def fX4_soundingAt (N : Nat) (h : Nat) (v1 : Int32) (v2 : Int32) (v3 : Int32) (σ : Mem) : Option (Int32 × Mem) :=
  lt_ 0 (fun v4_1 => lt_ 0 (fun v5_2 => fX4_soundingAt_l6 N h N v1 v2 v3 v4_1 v5_2 σ))
set_option maxRecDepth 100000 in
set_option maxHeartbeats 4000000 in
theorem bX4_soundingAt_0 {x : Cx} {z : Sx} (X : XG x z RX4 cX4_soundingAt 8 2 49) (E : XE x z) (hr : XR x (some .int)) (hZ : z.2.2.2.1 = kdC) (N : Nat) (h : Nat) (hh : z.2.2.2.1 h = (4, 0)) (v1 : Int32) (v2 : Int32) (v3 : Int32) (σ : Mem) : VK x z 8 (BQ QI x z) 0 [(0, .ref (z.2.2.1 h)), (1, .int v1), (2, .int v2), (3, .int v3)] [] σ (fX4_soundingAt N h v1 v2 v3 σ) := by
  unfold fX4_soundingAt
  refine V_iconst (v := 0) X dX4_soundingAt_0 (by decide) ?_
  refine V_istoreG (L' := fun v4_1 => [(4, .int v4_1), (0, .ref (z.2.2.1 h)), (1, .int v1), (2, .int v2), (3, .int v3)]) X dX4_soundingAt_1 (by decide) (fun _ => rfl) (fun v4_1 => ?_)
  refine V_iconst (v := 0) X dX4_soundingAt_3 (by decide) ?_
  refine V_istoreG (L' := fun v5_2 => [(5, .int v5_2), (4, .int v4_1), (0, .ref (z.2.2.1 h)), (1, .int v1), (2, .int v2), (3, .int v3)]) X dX4_soundingAt_4 (by decide) (fun _ => rfl) (fun v5_2 => ?_)
  refine V_sub [2, 3, 4, 5, 1, 0] rfl ?_
  exact lX4_soundingAt_6 X E hr hZ N h hh N v1 v2 v3 v4_1 v5_2 σ
theorem kX4_soundingAt (l : Launch) (z : Sx) (hZ : z.2.2.2.1 = kdC) (N : Nat) (h : Nat) (hh : z.2.2.2.1 h = (4, 0)) (v1 : Int32) (v2 : Int32) (v3 : Int32) (σ : Mem) : Ct QI yX4_soundingAt cX4_soundingAt 8 (some .int) 2 49 l z [.ref (z.2.2.1 h), .int v1, .int v2, .int v3] σ (fX4_soundingAt N h v1 v2 v3 σ) := by
  refine Ct_of (by decide +kernel) (Nat.le_of_ble_eq_true rfl) rfl ?_
  intro x _ X E hr
  exact bX4_soundingAt_0 X E hr hZ N h hh v1 v2 v3 σ
