def fX12_sleeps_b72 (N : Nat) (rc2 : Int32 → Mem → Option (Unit × Mem)) (v1 : Int32) (t0 : Int32) (t1 : Int32) (t2 : Int32) (σ : Mem) : Option (Unit × Mem) :=
  gd (inb t2 8) (lt_ (pI σ 5 t2.toNatClampNeg (t1 - t0)) (fun s6 => lt_ (v1 + 1) (fun v1_7 => rc2 v1_7 s6)))
set_option maxRecDepth 100000 in
set_option maxHeartbeats 4000000 in
theorem bX12_sleeps_72 {x : Cx} {z : Sx} (X : XG x z RX12 cX12_sleeps 3 1 22) (E : XE x z) (hr : XR x none) (hZ : z.2.2.2.1 = kdM) (N : Nat) (rc2 : Int32 → Mem → Option (Unit × Mem)) (hc2 : ∀ (v1 : Int32) (σ : Mem), VK x z 3 (BQ QV x z) 2 [(0, .ref (z.2.2.1 0)), (1, .int v1)] [] σ (rc2 v1 σ)) (v1 : Int32) (t0 : Int32) (t1 : Int32) (t2 : Int32) (σ : Mem) : VK x z 3 (BQ QV x z) 72 [(0, .ref (z.2.2.1 0)), (1, .int v1)] [.int t0, .int t1, .int t2, .ref (z.2.2.1 5)] σ (fX12_sleeps_b72 N rc2 v1 t0 t1 t2 σ) := by
  unfold fX12_sleeps_b72
  refine V_isub X dX12_sleeps_72 ?_
  refine V_iastG X dX12_sleeps_73 (kM hZ 5 _ rfl) (fun s6 => ?_)
  refine V_iincG (L' := fun v1_7 => [(1, .int v1_7), (0, .ref (z.2.2.1 0))]) 1 X dX12_sleeps_74 rfl rfl (by decide) (fun _ => rfl) (fun v1_7 => ?_)
  refine V_goto (tgt := 2) X dX12_sleeps_77 (by decide) ?_
  refine V_sub [1, 0] rfl ?_
  exact hc2 v1_7 s6
def fX12_sleeps_b50 (N : Nat) (rc2 : Int32 → Mem → Option (Unit × Mem)) (v1 : Int32) (t0 : Int32) (t1 : Int32) (σ : Mem) : Option (Unit × Mem) :=
  gd (inb t1 8) (lt_ (pI σ 4 t1.toNatClampNeg t0) (fun s5 => gd (inb v1 8) (gd (inb v1 8) (if (s5.1 5 v1.toNatClampNeg) ≤ 0 then fX12_sleeps_b72 N rc2 v1 0 (s5.1 5 v1.toNatClampNeg) v1 s5 else fX12_sleeps_b72 N rc2 v1 1 (s5.1 5 v1.toNatClampNeg) v1 s5))))
set_option maxRecDepth 100000 in
set_option maxHeartbeats 4000000 in
theorem bX12_sleeps_50 {x : Cx} {z : Sx} (X : XG x z RX12 cX12_sleeps 3 1 22) (E : XE x z) (hr : XR x none) (hZ : z.2.2.2.1 = kdM) (N : Nat) (rc2 : Int32 → Mem → Option (Unit × Mem)) (hc2 : ∀ (v1 : Int32) (σ : Mem), VK x z 3 (BQ QV x z) 2 [(0, .ref (z.2.2.1 0)), (1, .int v1)] [] σ (rc2 v1 σ)) (v1 : Int32) (t0 : Int32) (t1 : Int32) (σ : Mem) : VK x z 3 (BQ QV x z) 50 [(0, .ref (z.2.2.1 0)), (1, .int v1)] [.int t0, .int t1, .ref (z.2.2.1 4)] σ (fX12_sleeps_b50 N rc2 v1 t0 t1 σ) := by
  unfold fX12_sleeps_b50
  refine V_iastG X dX12_sleeps_50 (kM hZ 4 _ rfl) (fun s5 => ?_)
  refine V_aload_n 0 X dX12_sleeps_51 rfl rfl ?_
  refine V_getR (k1 := 5) 18 X dX12_sleeps_52 co12 (kM hZ 0 _ rfl) (by decide) rfl rfl wfX12_23 ?_
  refine V_iload_n 1 X dX12_sleeps_55 rfl rfl ?_
  refine V_dup2 X dX12_sleeps_56 rfl rfl ?_
  refine V_iald X dX12_sleeps_57 (kM hZ 5 _ rfl) ?_
  refine V_aload_n 0 X dX12_sleeps_58 rfl rfl ?_
  refine V_getR (k1 := 5) 18 X dX12_sleeps_59 co12 (kM hZ 0 _ rfl) (by decide) rfl rfl wfX12_23 ?_
  refine V_iload_n 1 X dX12_sleeps_62 rfl rfl ?_
  refine V_iald X dX12_sleeps_63 (kM hZ 5 _ rfl) ?_
  refine V_if_le (tgt := 71) X dX12_sleeps_64 (by decide) ?_ ?_
  · refine V_iconst (v := 0) X dX12_sleeps_71 (by decide) ?_
    refine V_sub [0, 1] rfl ?_
    exact bX12_sleeps_72 X E hr hZ N rc2 hc2 v1 0 (s5.1 5 v1.toNatClampNeg) v1 s5
  · refine V_iconst (v := 1) X dX12_sleeps_67 (by decide) ?_
    refine V_goto (tgt := 72) X dX12_sleeps_68 (by decide) ?_
    refine V_sub [0, 1] rfl ?_
    exact bX12_sleeps_72 X E hr hZ N rc2 hc2 v1 1 (s5.1 5 v1.toNatClampNeg) v1 s5
def fX12_sleeps_b31 (N : Nat) (rc2 : Int32 → Mem → Option (Unit × Mem)) (v1 : Int32) (t0 : Int32) (t1 : Int32) (σ : Mem) : Option (Unit × Mem) :=
  lt_ (t1 + t0) (fun v2_4 => if 99 ≤ v2_4 then fX12_sleeps_b50 N rc2 v1 99 v1 σ else fX12_sleeps_b50 N rc2 v1 v2_4 v1 σ)
set_option maxRecDepth 100000 in
set_option maxHeartbeats 4000000 in
theorem bX12_sleeps_31 {x : Cx} {z : Sx} (X : XG x z RX12 cX12_sleeps 3 1 22) (E : XE x z) (hr : XR x none) (hZ : z.2.2.2.1 = kdM) (N : Nat) (rc2 : Int32 → Mem → Option (Unit × Mem)) (hc2 : ∀ (v1 : Int32) (σ : Mem), VK x z 3 (BQ QV x z) 2 [(0, .ref (z.2.2.1 0)), (1, .int v1)] [] σ (rc2 v1 σ)) (v1 : Int32) (t0 : Int32) (t1 : Int32) (σ : Mem) : VK x z 3 (BQ QV x z) 31 [(0, .ref (z.2.2.1 0)), (1, .int v1)] [.int t0, .int t1] σ (fX12_sleeps_b31 N rc2 v1 t0 t1 σ) := by
  unfold fX12_sleeps_b31
  refine V_iadd X dX12_sleeps_31 ?_
  refine V_istore_nG (L' := fun v2_4 => [(2, .int v2_4), (0, .ref (z.2.2.1 0)), (1, .int v1)]) X dX12_sleeps_32 rfl (by decide) (fun _ => rfl) (fun v2_4 => ?_)
  refine V_aload_n 1 X dX12_sleeps_33 rfl rfl ?_
  refine V_getR (k1 := 4) 17 X dX12_sleeps_34 co12 (kM hZ 0 _ rfl) (by decide) rfl rfl wfX12_20 ?_
  refine V_iload_n 2 X dX12_sleeps_37 rfl rfl ?_
  refine V_iload_n 0 X dX12_sleeps_38 rfl rfl ?_
  refine V_bipush (v := 99) X dX12_sleeps_39 (by decide) ?_
  refine V_icmp_ge (tgt := 48) X dX12_sleeps_41 (by decide) ?_ ?_
  · refine V_bipush (v := 99) X dX12_sleeps_48 (by decide) ?_
    refine V_sub [1, 2] rfl ?_
    exact bX12_sleeps_50 X E hr hZ N rc2 hc2 v1 99 v1 σ
  · refine V_iload_n 0 X dX12_sleeps_44 rfl rfl ?_
    refine V_goto (tgt := 50) X dX12_sleeps_45 (by decide) ?_
    refine V_sub [1, 2] rfl ?_
    exact bX12_sleeps_50 X E hr hZ N rc2 hc2 v1 v2_4 v1 σ
def fX12_sleeps_b2 (N : Nat) (rc2 : Int32 → Mem → Option (Unit × Mem)) (v1 : Int32) (σ : Mem) : Option (Unit × Mem) :=
  if (σ.1 0 12) ≤ v1 then some ((), σ) else gd (inb v1 8) (bd (fX12_of N v1 1 σ) (fun r2 s3 => if r2 = 2 then fX12_sleeps_b31 N rc2 v1 2 (σ.1 4 v1.toNatClampNeg) s3 else fX12_sleeps_b31 N rc2 v1 1 (σ.1 4 v1.toNatClampNeg) s3))
set_option maxRecDepth 100000 in
set_option maxHeartbeats 4000000 in
theorem bX12_sleeps_2 {x : Cx} {z : Sx} (X : XG x z RX12 cX12_sleeps 3 1 22) (E : XE x z) (hr : XR x none) (hZ : z.2.2.2.1 = kdM) (N : Nat) (rc2 : Int32 → Mem → Option (Unit × Mem)) (hc2 : ∀ (v1 : Int32) (σ : Mem), VK x z 3 (BQ QV x z) 2 [(0, .ref (z.2.2.1 0)), (1, .int v1)] [] σ (rc2 v1 σ)) (v1 : Int32) (σ : Mem) : VK x z 3 (BQ QV x z) 2 [(0, .ref (z.2.2.1 0)), (1, .int v1)] [] σ (fX12_sleeps_b2 N rc2 v1 σ) := by
  unfold fX12_sleeps_b2
  refine V_iload_n 1 X dX12_sleeps_2 rfl rfl ?_
  refine V_aload_n 0 X dX12_sleeps_3 rfl rfl ?_
  refine V_getI 12 X dX12_sleeps_4 co12 (kM hZ 0 _ rfl) (by decide) rfl wfX12_159 ?_
  refine V_icmp_ge (tgt := 80) X dX12_sleeps_7 (by decide) ?_ ?_
  · exact V_vret X E hr dX12_sleeps_80
  · refine V_aload_n 0 X dX12_sleeps_10 rfl rfl ?_
    refine V_getR (k1 := 4) 17 X dX12_sleeps_11 co12 (kM hZ 0 _ rfl) (by decide) rfl rfl wfX12_20 ?_
    refine V_iload_n 1 X dX12_sleeps_14 rfl rfl ?_
    refine V_iald X dX12_sleeps_15 (kM hZ 4 _ rfl) ?_
    refine V_aload_n 0 X dX12_sleeps_16 rfl rfl ?_
    refine V_iload_n 1 X dX12_sleeps_17 rfl rfl ?_
    refine V_iconst (v := 1) X dX12_sleeps_18 (by decide) ?_
    refine V_callI [.int v1, .int 1] [.int (σ.1 4 v1.toNatClampNeg)] X E dX12_sleeps_19 (kX12_of x.2.1 z hZ N v1 1 σ) co12 (kM hZ 0 _ rfl) gcX12_171 hyX12_of rfl ⟨by decide, by decide⟩ rfl (Nat.le_of_ble_eq_true rfl) (fun r2 s3 => ?_)
    refine V_iconst (v := 2) X dX12_sleeps_22 (by decide) ?_
    refine V_icmp_ne (tgt := 30) X dX12_sleeps_23 (by decide) ?_ ?_
    · refine V_iconst (v := 1) X dX12_sleeps_30 (by decide) ?_
      refine V_sub [0, 1] rfl ?_
      exact bX12_sleeps_31 X E hr hZ N rc2 hc2 v1 1 (σ.1 4 v1.toNatClampNeg) s3
    · refine V_iconst (v := 2) X dX12_sleeps_26 (by decide) ?_
      refine V_goto (tgt := 31) X dX12_sleeps_27 (by decide) ?_
      refine V_sub [0, 1] rfl ?_
      exact bX12_sleeps_31 X E hr hZ N rc2 hc2 v1 2 (σ.1 4 v1.toNatClampNeg) s3
def fX12_sleeps_l2 (N : Nat) : Nat → Int32 → Mem → Option (Unit × Mem)
  | 0 => fun _ _ => none
  | n + 1 => fX12_sleeps_b2 N (fX12_sleeps_l2 N n)
theorem lX12_sleeps_2 {x : Cx} {z : Sx} (X : XG x z RX12 cX12_sleeps 3 1 22) (E : XE x z) (hr : XR x none) (hZ : z.2.2.2.1 = kdM) (N : Nat) (n : Nat) (v1 : Int32) (σ : Mem) : VK x z 3 (BQ QV x z) 2 [(0, .ref (z.2.2.1 0)), (1, .int v1)] [] σ (fX12_sleeps_l2 N n v1 σ) := by
  induction n generalizing v1 σ with
  | zero => exact V_none
  | succ n ih => exact bX12_sleeps_2 X E hr hZ N (fX12_sleeps_l2 N n) ih v1 σ
def fX12_sleeps (N : Nat) (σ : Mem) : Option (Unit × Mem) :=
  lt_ 0 (fun v1_1 => fX12_sleeps_l2 N N v1_1 σ)
set_option maxRecDepth 100000 in
set_option maxHeartbeats 4000000 in
theorem bX12_sleeps_0 {x : Cx} {z : Sx} (X : XG x z RX12 cX12_sleeps 3 1 22) (E : XE x z) (hr : XR x none) (hZ : z.2.2.2.1 = kdM) (N : Nat) (σ : Mem) : VK x z 3 (BQ QV x z) 0 [(0, .ref (z.2.2.1 0))] [] σ (fX12_sleeps N σ) := by
  unfold fX12_sleeps
  refine V_iconst (v := 0) X dX12_sleeps_0 (by decide) ?_
  refine V_istore_nG (L' := fun v1_1 => [(1, .int v1_1), (0, .ref (z.2.2.1 0))]) X dX12_sleeps_1 rfl (by decide) (fun _ => rfl) (fun v1_1 => ?_)
  refine V_sub [1, 0] rfl ?_
  exact lX12_sleeps_2 X E hr hZ N N v1_1 σ
theorem kX12_sleeps (l : Launch) (z : Sx) (hZ : z.2.2.2.1 = kdM) (N : Nat) (σ : Mem) : Ct QV yX12_sleeps cX12_sleeps 3 none 1 22 l z [.ref (z.2.2.1 0)] σ (fX12_sleeps N σ) := by
  refine Ct_of (by decide +kernel) (Nat.le_of_ble_eq_true rfl) rfl ?_
  intro x _ X E hr
  exact bX12_sleeps_0 X E hr hZ N σ
def fX12_does (N : Nat) (v1 : Int32) (v2 : Int32) (v3 : Int32) (σ : Mem) : Option (Int32 × Mem) :=
  if v1 = 0 then bd (fX12_puts N v2 σ) (fun r1 s2 => some (1, s2)) else if v1 = 1 then bd (fX12_stands N v2 σ) (fun r3 s4 => gd (decide (r3 = 0 ∨ r3 = 1)) (some (r3, s4))) else if v1 = 2 then bd (fX12_waxes N v2 σ) (fun r5 s6 => gd (decide (r5 = 0 ∨ r5 = 1)) (some (r5, s6))) else if v1 = 3 then bd (fX12_sets N v2 σ) (fun r7 s8 => gd (decide (r7 = 0 ∨ r7 = 1)) (some (r7, s8))) else if v1 = 4 then bd (fX12_sits N v2 v3 σ) (fun r9 s10 => gd (decide (r9 = 0 ∨ r9 = 1)) (some (r9, s10))) else if v1 = 5 then bd (fX12_dampens N 1 σ) (fun r11 s12 => gd (decide (r11 = 0 ∨ r11 = 1)) (some (r11, s12))) else if v1 = 6 then bd (fX12_dampens N (-1) σ) (fun r13 s14 => gd (decide (r13 = 0 ∨ r13 = 1)) (some (r13, s14))) else bd (fX12_sleeps N σ) (fun r15 s16 => some (1, s16))
set_option maxRecDepth 100000 in
set_option maxHeartbeats 4000000 in
theorem bX12_does_0 {x : Cx} {z : Sx} (X : XG x z RX12 cX12_does 4 6 136) (E : XE x z) (hr : XR x (some .boolean)) (hZ : z.2.2.2.1 = kdM) (N : Nat) (v1 : Int32) (v2 : Int32) (v3 : Int32) (σ : Mem) : VK x z 4 (BQ QI x z) 0 [(0, .ref (z.2.2.1 0)), (1, .int v1), (2, .int v2), (3, .int v3)] [] σ (fX12_does N v1 v2 v3 σ) := by
  unfold fX12_does
  refine V_iload_n 1 X dX12_does_0 rfl rfl ?_
  refine V_split (c := 0) (fun n1_0 => ?_) (fun n1_0 => ?_)
  · refine V_tabAt (c := 0) (tgt := 44) X dX12_does_1 n1_0 (by decide) (by decide) (by rfl) (by decide) ?_
    refine V_aload_n 0 X dX12_does_44 rfl rfl ?_
    refine V_iload_n 2 X dX12_does_45 rfl rfl ?_
    refine V_callV [.int v2] [] X E dX12_does_46 (kX12_puts x.2.1 z hZ N v2 σ) co12 (kM hZ 0 _ rfl) gcX12_234 hyX12_puts rfl ⟨by decide, by decide⟩ rfl (Nat.le_of_ble_eq_true rfl) (fun r1 s2 => ?_)
    refine V_iconst (v := 1) X dX12_does_49 (by decide) ?_
    exact V_zret X E hr dX12_does_50 (by decide)
  refine V_split (c := 1) (fun n1_1 => ?_) (fun n1_1 => ?_)
  · refine V_tabAt (c := 1) (tgt := 51) X dX12_does_1 n1_1 (by decide) (by decide) (by rfl) (by decide) ?_
    refine V_aload_n 0 X dX12_does_51 rfl rfl ?_
    refine V_iload_n 2 X dX12_does_52 rfl rfl ?_
    refine V_callI [.int v2] [] X E dX12_does_53 (kX12_stands x.2.1 z hZ N v2 σ) co12 (kM hZ 0 _ rfl) gcX12_238 hyX12_stands rfl ⟨by decide, by decide⟩ rfl (Nat.le_of_ble_eq_true rfl) (fun r3 s4 => ?_)
    exact V_zretG X E hr dX12_does_56
  refine V_split (c := 2) (fun n1_2 => ?_) (fun n1_2 => ?_)
  · refine V_tabAt (c := 2) (tgt := 57) X dX12_does_1 n1_2 (by decide) (by decide) (by rfl) (by decide) ?_
    refine V_aload_n 0 X dX12_does_57 rfl rfl ?_
    refine V_iload_n 2 X dX12_does_58 rfl rfl ?_
    refine V_callI [.int v2] [] X E dX12_does_59 (kX12_waxes x.2.1 z hZ N v2 σ) co12 (kM hZ 0 _ rfl) gcX12_241 hyX12_waxes rfl ⟨by decide, by decide⟩ rfl (Nat.le_of_ble_eq_true rfl) (fun r5 s6 => ?_)
    exact V_zretG X E hr dX12_does_62
  refine V_split (c := 3) (fun n1_3 => ?_) (fun n1_3 => ?_)
  · refine V_tabAt (c := 3) (tgt := 63) X dX12_does_1 n1_3 (by decide) (by decide) (by rfl) (by decide) ?_
    refine V_aload_n 0 X dX12_does_63 rfl rfl ?_
    refine V_iload_n 2 X dX12_does_64 rfl rfl ?_
    refine V_callI [.int v2] [] X E dX12_does_65 (kX12_sets x.2.1 z hZ N v2 σ) co12 (kM hZ 0 _ rfl) gcX12_243 hyX12_sets rfl ⟨by decide, by decide⟩ rfl (Nat.le_of_ble_eq_true rfl) (fun r7 s8 => ?_)
    exact V_zretG X E hr dX12_does_68
  refine V_split (c := 4) (fun n1_4 => ?_) (fun n1_4 => ?_)
  · refine V_tabAt (c := 4) (tgt := 69) X dX12_does_1 n1_4 (by decide) (by decide) (by rfl) (by decide) ?_
    refine V_aload_n 0 X dX12_does_69 rfl rfl ?_
    refine V_iload_n 2 X dX12_does_70 rfl rfl ?_
    refine V_iload_n 3 X dX12_does_71 rfl rfl ?_
    refine V_callI [.int v2, .int v3] [] X E dX12_does_72 (kX12_sits x.2.1 z hZ N v2 v3 σ) co12 (kM hZ 0 _ rfl) gcX12_246 hyX12_sits rfl ⟨by decide, by decide⟩ rfl (Nat.le_of_ble_eq_true rfl) (fun r9 s10 => ?_)
    exact V_zretG X E hr dX12_does_75
  refine V_split (c := 5) (fun n1_5 => ?_) (fun n1_5 => ?_)
  · refine V_tabAt (c := 5) (tgt := 76) X dX12_does_1 n1_5 (by decide) (by decide) (by rfl) (by decide) ?_
    refine V_aload_n 0 X dX12_does_76 rfl rfl ?_
    refine V_iconst (v := 1) X dX12_does_77 (by decide) ?_
    refine V_callI [.int 1] [] X E dX12_does_78 (kX12_dampens x.2.1 z hZ N 1 σ) co12 (kM hZ 0 _ rfl) gcX12_249 hyX12_dampens rfl ⟨by decide, by decide⟩ rfl (Nat.le_of_ble_eq_true rfl) (fun r11 s12 => ?_)
    exact V_zretG X E hr dX12_does_81
  refine V_split (c := 6) (fun n1_6 => ?_) (fun n1_6 => ?_)
  · refine V_tabAt (c := 6) (tgt := 82) X dX12_does_1 n1_6 (by decide) (by decide) (by rfl) (by decide) ?_
    refine V_aload_n 0 X dX12_does_82 rfl rfl ?_
    refine V_iconst (v := -1) X dX12_does_83 (by decide) ?_
    refine V_callI [.int (-1)] [] X E dX12_does_84 (kX12_dampens x.2.1 z hZ N (-1) σ) co12 (kM hZ 0 _ rfl) gcX12_249 hyX12_dampens rfl ⟨by decide, by decide⟩ rfl (Nat.le_of_ble_eq_true rfl) (fun r13 s14 => ?_)
    exact V_zretG X E hr dX12_does_87
  refine V_tabDef (tgt := 88) X dX12_does_1 (swOut (a := v1) (fun q q1 q2 => by rcases (show q = 0 ∨ q = 1 ∨ q = 2 ∨ q = 3 ∨ q = 4 ∨ q = 5 ∨ q = 6 by omega) with rfl | rfl | rfl | rfl | rfl | rfl | rfl <;> first | exact sw_ne n1_0 (by decide) | exact sw_ne n1_1 (by decide) | exact sw_ne n1_2 (by decide) | exact sw_ne n1_3 (by decide) | exact sw_ne n1_4 (by decide) | exact sw_ne n1_5 (by decide) | exact sw_ne n1_6 (by decide))) (by decide) ?_
  refine V_aload_n 0 X dX12_does_88 rfl rfl ?_
  refine V_callV [] [] X E dX12_does_89 (kX12_sleeps x.2.1 z hZ N σ) co12 (kM hZ 0 _ rfl) gcX12_252 hyX12_sleeps rfl ⟨by decide, by decide⟩ rfl (Nat.le_of_ble_eq_true rfl) (fun r15 s16 => ?_)
  refine V_iconst (v := 1) X dX12_does_92 (by decide) ?_
  exact V_zret X E hr dX12_does_93 (by decide)
theorem kX12_does (l : Launch) (z : Sx) (hZ : z.2.2.2.1 = kdM) (N : Nat) (v1 : Int32) (v2 : Int32) (v3 : Int32) (σ : Mem) : Ct QI yX12_does cX12_does 4 (some .boolean) 6 136 l z [.ref (z.2.2.1 0), .int v1, .int v2, .int v3] σ (fX12_does N v1 v2 v3 σ) := by
  refine Ct_of (by decide +kernel) (Nat.le_of_ble_eq_true rfl) rfl ?_
  intro x _ X E hr
  exact bX12_does_0 X E hr hZ N v1 v2 v3 σ
def fX12_runs_b4 (N : Nat) (rc4 : Int32 → Mem → Option (Unit × Mem)) (v1 : Int32) (σ : Mem) : Option (Unit × Mem) :=
  if v1 ≤ (σ.1 0 26) then some ((), σ) else gd (inb (σ.1 0 23) 4176) (if (σ.1 1 (σ.1 0 23).toNatClampNeg) ≤ (σ.1 0 26) then some ((), σ) else gd (inb (((σ.1 0 23) + 1) + (3 * (σ.1 0 26))) 4176) (gd (inb (((σ.1 0 23) + 2) + (3 * (σ.1 0 26))) 4176) (gd (inb (((σ.1 0 23) + 3) + (3 * (σ.1 0 26))) 4176) (bd (fX12_does N (σ.1 1 (((σ.1 0 23) + 1) + (3 * (σ.1 0 26))).toNatClampNeg) (σ.1 1 (((σ.1 0 23) + 2) + (3 * (σ.1 0 26))).toNatClampNeg) (σ.1 1 (((σ.1 0 23) + 3) + (3 * (σ.1 0 26))).toNatClampNeg) σ) (fun r3 s4 => if r3 = 0 then some ((), s4) else lt_ (pI s4 0 26 ((s4.1 0 26) + 1)) (fun s5 => rc4 v1 s5))))))
set_option maxRecDepth 100000 in
set_option maxHeartbeats 4000000 in
theorem bX12_runs_4 {x : Cx} {z : Sx} (X : XG x z RX12 cX12_runs 2 7 159) (E : XE x z) (hr : XR x none) (hZ : z.2.2.2.1 = kdM) (N : Nat) (rc4 : Int32 → Mem → Option (Unit × Mem)) (hc4 : ∀ (v1 : Int32) (σ : Mem), VK x z 2 (BQ QV x z) 4 [(0, .ref (z.2.2.1 0)), (1, .int v1)] [] σ (rc4 v1 σ)) (v1 : Int32) (σ : Mem) : VK x z 2 (BQ QV x z) 4 [(0, .ref (z.2.2.1 0)), (1, .int v1)] [] σ (fX12_runs_b4 N rc4 v1 σ) := by
  unfold fX12_runs_b4
  refine V_aload_n 0 X dX12_runs_4 rfl rfl ?_
  refine V_getI 26 X dX12_runs_5 co12 (kM hZ 0 _ rfl) (by decide) rfl wfX12_231 ?_
  refine V_iload_n 1 X dX12_runs_8 rfl rfl ?_
  refine V_icmp_ge (tgt := 102) X dX12_runs_9 (by decide) ?_ ?_
  · exact V_vret X E hr dX12_runs_102
  · refine V_aload_n 0 X dX12_runs_12 rfl rfl ?_
    refine V_getI 26 X dX12_runs_13 co12 (kM hZ 0 _ rfl) (by decide) rfl wfX12_231 ?_
    refine V_aload_n 0 X dX12_runs_16 rfl rfl ?_
    refine V_getR (k1 := 1) 0 X dX12_runs_17 co12 (kM hZ 0 _ rfl) (by decide) rfl rfl wfX12_7 ?_
    refine V_aload_n 0 X dX12_runs_20 rfl rfl ?_
    refine V_getI 23 X dX12_runs_21 co12 (kM hZ 0 _ rfl) (by decide) rfl wfX12_219 ?_
    refine V_iald X dX12_runs_24 (kM hZ 1 _ rfl) ?_
    refine V_icmp_ge (tgt := 102) X dX12_runs_25 (by decide) ?_ ?_
    · exact V_vret X E hr dX12_runs_102
    · refine V_aload_n 0 X dX12_runs_28 rfl rfl ?_
      refine V_aload_n 0 X dX12_runs_29 rfl rfl ?_
      refine V_getR (k1 := 1) 0 X dX12_runs_30 co12 (kM hZ 0 _ rfl) (by decide) rfl rfl wfX12_7 ?_
      refine V_aload_n 0 X dX12_runs_33 rfl rfl ?_
      refine V_getI 23 X dX12_runs_34 co12 (kM hZ 0 _ rfl) (by decide) rfl wfX12_219 ?_
      refine V_iconst (v := 1) X dX12_runs_37 (by decide) ?_
      refine V_iadd X dX12_runs_38 ?_
      refine V_iconst (v := 3) X dX12_runs_39 (by decide) ?_
      refine V_aload_n 0 X dX12_runs_40 rfl rfl ?_
      refine V_getI 26 X dX12_runs_41 co12 (kM hZ 0 _ rfl) (by decide) rfl wfX12_231 ?_
      refine V_imul X dX12_runs_44 ?_
      refine V_iadd X dX12_runs_45 ?_
      refine V_iald X dX12_runs_46 (kM hZ 1 _ rfl) ?_
      refine V_aload_n 0 X dX12_runs_47 rfl rfl ?_
      refine V_getR (k1 := 1) 0 X dX12_runs_48 co12 (kM hZ 0 _ rfl) (by decide) rfl rfl wfX12_7 ?_
      refine V_aload_n 0 X dX12_runs_51 rfl rfl ?_
      refine V_getI 23 X dX12_runs_52 co12 (kM hZ 0 _ rfl) (by decide) rfl wfX12_219 ?_
      refine V_iconst (v := 2) X dX12_runs_55 (by decide) ?_
      refine V_iadd X dX12_runs_56 ?_
      refine V_iconst (v := 3) X dX12_runs_57 (by decide) ?_
      refine V_aload_n 0 X dX12_runs_58 rfl rfl ?_
      refine V_getI 26 X dX12_runs_59 co12 (kM hZ 0 _ rfl) (by decide) rfl wfX12_231 ?_
      refine V_imul X dX12_runs_62 ?_
      refine V_iadd X dX12_runs_63 ?_
      refine V_iald X dX12_runs_64 (kM hZ 1 _ rfl) ?_
      refine V_aload_n 0 X dX12_runs_65 rfl rfl ?_
      refine V_getR (k1 := 1) 0 X dX12_runs_66 co12 (kM hZ 0 _ rfl) (by decide) rfl rfl wfX12_7 ?_
      refine V_aload_n 0 X dX12_runs_69 rfl rfl ?_
      refine V_getI 23 X dX12_runs_70 co12 (kM hZ 0 _ rfl) (by decide) rfl wfX12_219 ?_
      refine V_iconst (v := 3) X dX12_runs_73 (by decide) ?_
      refine V_iadd X dX12_runs_74 ?_
      refine V_iconst (v := 3) X dX12_runs_75 (by decide) ?_
      refine V_aload_n 0 X dX12_runs_76 rfl rfl ?_
      refine V_getI 26 X dX12_runs_77 co12 (kM hZ 0 _ rfl) (by decide) rfl wfX12_231 ?_
      refine V_imul X dX12_runs_80 ?_
      refine V_iadd X dX12_runs_81 ?_
      refine V_iald X dX12_runs_82 (kM hZ 1 _ rfl) ?_
      refine V_callI [.int (σ.1 1 (((σ.1 0 23) + 1) + (3 * (σ.1 0 26))).toNatClampNeg), .int (σ.1 1 (((σ.1 0 23) + 2) + (3 * (σ.1 0 26))).toNatClampNeg), .int (σ.1 1 (((σ.1 0 23) + 3) + (3 * (σ.1 0 26))).toNatClampNeg)] [] X E dX12_runs_83 (kX12_does x.2.1 z hZ N (σ.1 1 (((σ.1 0 23) + 1) + (3 * (σ.1 0 26))).toNatClampNeg) (σ.1 1 (((σ.1 0 23) + 2) + (3 * (σ.1 0 26))).toNatClampNeg) (σ.1 1 (((σ.1 0 23) + 3) + (3 * (σ.1 0 26))).toNatClampNeg) σ) co12 (kM hZ 0 _ rfl) gcX12_258 hyX12_does rfl ⟨by decide, by decide⟩ rfl (Nat.le_of_ble_eq_true rfl) (fun r3 s4 => ?_)
      refine V_if_eq (tgt := 102) X dX12_runs_86 (by decide) ?_ ?_
      · exact V_vret X E hr dX12_runs_102
      · refine V_aload_n 0 X dX12_runs_89 rfl rfl ?_
        refine V_dup X dX12_runs_90 rfl ?_
        refine V_getI 26 X dX12_runs_91 co12 (kM hZ 0 _ rfl) (by decide) rfl wfX12_231 ?_
        refine V_iconst (v := 1) X dX12_runs_94 (by decide) ?_
        refine V_iadd X dX12_runs_95 ?_
        refine V_putIG 26 X dX12_runs_96 co12 (kM hZ 0 _ rfl) (by decide) rfl wfX12_231 rfl rfl rfl (fun s5 => ?_)
        refine V_goto (tgt := 4) X dX12_runs_99 (by decide) ?_
        refine V_sub [0, 1] rfl ?_
        exact hc4 v1 s5
def fX12_runs_l4 (N : Nat) : Nat → Int32 → Mem → Option (Unit × Mem)
  | 0 => fun _ _ => none
  | n + 1 => fX12_runs_b4 N (fX12_runs_l4 N n)
theorem lX12_runs_4 {x : Cx} {z : Sx} (X : XG x z RX12 cX12_runs 2 7 159) (E : XE x z) (hr : XR x none) (hZ : z.2.2.2.1 = kdM) (N : Nat) (n : Nat) (v1 : Int32) (σ : Mem) : VK x z 2 (BQ QV x z) 4 [(0, .ref (z.2.2.1 0)), (1, .int v1)] [] σ (fX12_runs_l4 N n v1 σ) := by
  induction n generalizing v1 σ with
  | zero => exact V_none
  | succ n ih => exact bX12_runs_4 X E hr hZ N (fX12_runs_l4 N n) ih v1 σ
def fX12_runs (N : Nat) (v1 : Int32) (σ : Mem) : Option (Unit × Mem) :=
  bd (fX12_begins N σ) (fun r1 s2 => fX12_runs_l4 N N v1 s2)
set_option maxRecDepth 100000 in
set_option maxHeartbeats 4000000 in
theorem bX12_runs_0 {x : Cx} {z : Sx} (X : XG x z RX12 cX12_runs 2 7 159) (E : XE x z) (hr : XR x none) (hZ : z.2.2.2.1 = kdM) (N : Nat) (v1 : Int32) (σ : Mem) : VK x z 2 (BQ QV x z) 0 [(0, .ref (z.2.2.1 0)), (1, .int v1)] [] σ (fX12_runs N v1 σ) := by
  unfold fX12_runs
  refine V_aload_n 0 X dX12_runs_0 rfl rfl ?_
  refine V_callV [] [] X E dX12_runs_1 (kX12_begins x.2.1 z hZ N σ) co12 (kM hZ 0 _ rfl) gcX12_255 hyX12_begins rfl ⟨by decide, by decide⟩ rfl (Nat.le_of_ble_eq_true rfl) (fun r1 s2 => ?_)
  refine V_sub [0, 1] rfl ?_
  exact lX12_runs_4 X E hr hZ N N v1 s2
theorem kX12_runs (l : Launch) (z : Sx) (hZ : z.2.2.2.1 = kdM) (N : Nat) (v1 : Int32) (σ : Mem) : Ct QV yX12_runs cX12_runs 2 none 7 159 l z [.ref (z.2.2.1 0), .int v1] σ (fX12_runs N v1 σ) := by
  refine Ct_of (by decide +kernel) (Nat.le_of_ble_eq_true rfl) rfl ?_
  intro x _ X E hr
  exact bX12_runs_0 X E hr hZ N v1 σ
def fX12_stop (N : Nat) (v1 : Int32) (v2 : Int32) (σ : Mem) : Option (Int32 × Mem) :=
  bd (fX12_isChamber N v1 σ) (fun r1 s2 => if r1 = 0 then some ((-1), s2) else bd (fX12_isSession N v2 s2) (fun r3 s4 => if r3 = 0 then some ((-1), s4) else bd (fX12_runs N 40 s4) (fun r5 s6 => some ((s6.1 0 26), s6))))
set_option maxRecDepth 100000 in
set_option maxHeartbeats 4000000 in
theorem bX12_stop_0 {x : Cx} {z : Sx} (X : XG x z RX12 cX12_stop 3 8 180) (E : XE x z) (hr : XR x (some .int)) (hZ : z.2.2.2.1 = kdM) (N : Nat) (v1 : Int32) (v2 : Int32) (σ : Mem) : VK x z 3 (BQ QI x z) 0 [(0, .ref (z.2.2.1 0)), (1, .int v1), (2, .int v2)] [] σ (fX12_stop N v1 v2 σ) := by
  unfold fX12_stop
  refine V_aload_n 0 X dX12_stop_0 rfl rfl ?_
  refine V_iload_n 1 X dX12_stop_1 rfl rfl ?_
  refine V_callI [.int v1] [] X E dX12_stop_2 (kX12_isChamber x.2.1 z hZ N v1 σ) co12 (kM hZ 0 _ rfl) gcX12_165 hyX12_isChamber rfl ⟨by decide, by decide⟩ rfl (Nat.le_of_ble_eq_true rfl) (fun r1 s2 => ?_)
  refine V_if_eq (tgt := 16) X dX12_stop_5 (by decide) ?_ ?_
  · refine V_iconst (v := -1) X dX12_stop_16 (by decide) ?_
    exact V_iret X E hr dX12_stop_17
  · refine V_aload_n 0 X dX12_stop_8 rfl rfl ?_
    refine V_iload_n 2 X dX12_stop_9 rfl rfl ?_
    refine V_callI [.int v2] [] X E dX12_stop_10 (kX12_isSession x.2.1 z hZ N v2 s2) co12 (kM hZ 0 _ rfl) gcX12_222 hyX12_isSession rfl ⟨by decide, by decide⟩ rfl (Nat.le_of_ble_eq_true rfl) (fun r3 s4 => ?_)
    refine V_if_ne (tgt := 18) X dX12_stop_13 (by decide) ?_ ?_
    · refine V_aload_n 0 X dX12_stop_18 rfl rfl ?_
      refine V_bipush (v := 40) X dX12_stop_19 (by decide) ?_
      refine V_callV [.int 40] [] X E dX12_stop_21 (kX12_runs x.2.1 z hZ N 40 s4) co12 (kM hZ 0 _ rfl) gcX12_261 hyX12_runs rfl ⟨by decide, by decide⟩ rfl (Nat.le_of_ble_eq_true rfl) (fun r5 s6 => ?_)
      refine V_aload_n 0 X dX12_stop_24 rfl rfl ?_
      refine V_getI 26 X dX12_stop_25 co12 (kM hZ 0 _ rfl) (by decide) rfl wfX12_231 ?_
      exact V_iret X E hr dX12_stop_28
    · refine V_iconst (v := -1) X dX12_stop_16 (by decide) ?_
      exact V_iret X E hr dX12_stop_17
theorem kX12_stop (l : Launch) (z : Sx) (hZ : z.2.2.2.1 = kdM) (N : Nat) (v1 : Int32) (v2 : Int32) (σ : Mem) : Ct QI yX12_stop cX12_stop 3 (some .int) 8 180 l z [.ref (z.2.2.1 0), .int v1, .int v2] σ (fX12_stop N v1 v2 σ) := by
  refine Ct_of (by decide +kernel) (Nat.le_of_ble_eq_true rfl) rfl ?_
  intro x _ X E hr
  exact bX12_stop_0 X E hr hZ N v1 v2 σ
def fX12_nowOf (N : Nat) (v1 : Int32) (σ : Mem) : Option (Int32 × Mem) :=
  if v1 = 0 then some ((σ.1 0 24), σ) else if v1 = 1 then some ((σ.1 0 25), σ) else if v1 = 2 then some ((σ.1 0 14), σ) else if v1 = 3 then some ((σ.1 0 15), σ) else if v1 = 4 then some ((σ.1 0 21), σ) else if v1 = 5 then some ((σ.1 0 22), σ) else lt_ (rmI v1 10) (fun v2_1 => bd (fX12_isIn N v1 40 49 σ) (fun r2 s3 => if r2 = 0 then bd (fX12_isIn N v1 10 39 s3) (fun r4 s5 => if r4 = 0 then some ((-2), s5) else bd (fX12_isPiece N v2_1 s5) (fun r6 s7 => if r6 = 0 then some ((-2), s7) else if 20 ≤ v1 then if 30 ≤ v1 then bd (fX12_loadOf N v2_1 s7) (fun r8 s9 => some (r8, s9)) else gd (inb v2_1 8) (some ((s7.1 5 v2_1.toNatClampNeg), s7)) else gd (inb v2_1 8) (some ((s7.1 4 v2_1.toNatClampNeg), s7)))) else bd (fX12_isPerson N v2_1 s3) (fun r10 s11 => if r10 = 0 then some ((-2), s11) else gd (inb v2_1 6) (some ((s11.1 6 v2_1.toNatClampNeg), s11)))))
set_option maxRecDepth 100000 in
set_option maxHeartbeats 4000000 in
theorem bX12_nowOf_0 {x : Cx} {z : Sx} (X : XG x z RX12 cX12_nowOf 3 2 45) (E : XE x z) (hr : XR x (some .int)) (hZ : z.2.2.2.1 = kdM) (N : Nat) (v1 : Int32) (σ : Mem) : VK x z 3 (BQ QI x z) 0 [(0, .ref (z.2.2.1 0)), (1, .int v1)] [] σ (fX12_nowOf N v1 σ) := by
  unfold fX12_nowOf
  refine V_iload_n 1 X dX12_nowOf_0 rfl rfl ?_
  refine V_split (c := 0) (fun n1_0 => ?_) (fun n1_0 => ?_)
  · refine V_tabAt (c := 0) (tgt := 40) X dX12_nowOf_1 n1_0 (by decide) (by decide) (by rfl) (by decide) ?_
    refine V_aload_n 0 X dX12_nowOf_40 rfl rfl ?_
    refine V_getI 24 X dX12_nowOf_41 co12 (kM hZ 0 _ rfl) (by decide) rfl wfX12_225 ?_
    exact V_iret X E hr dX12_nowOf_44
  refine V_split (c := 1) (fun n1_1 => ?_) (fun n1_1 => ?_)
  · refine V_tabAt (c := 1) (tgt := 45) X dX12_nowOf_1 n1_1 (by decide) (by decide) (by rfl) (by decide) ?_
    refine V_aload_n 0 X dX12_nowOf_45 rfl rfl ?_
    refine V_getI 25 X dX12_nowOf_46 co12 (kM hZ 0 _ rfl) (by decide) rfl wfX12_228 ?_
    exact V_iret X E hr dX12_nowOf_49
  refine V_split (c := 2) (fun n1_2 => ?_) (fun n1_2 => ?_)
  · refine V_tabAt (c := 2) (tgt := 50) X dX12_nowOf_1 n1_2 (by decide) (by decide) (by rfl) (by decide) ?_
    refine V_aload_n 0 X dX12_nowOf_50 rfl rfl ?_
    refine V_getI 14 X dX12_nowOf_51 co12 (kM hZ 0 _ rfl) (by decide) rfl wfX12_180 ?_
    exact V_iret X E hr dX12_nowOf_54
  refine V_split (c := 3) (fun n1_3 => ?_) (fun n1_3 => ?_)
  · refine V_tabAt (c := 3) (tgt := 55) X dX12_nowOf_1 n1_3 (by decide) (by decide) (by rfl) (by decide) ?_
    refine V_aload_n 0 X dX12_nowOf_55 rfl rfl ?_
    refine V_getI 15 X dX12_nowOf_56 co12 (kM hZ 0 _ rfl) (by decide) rfl wfX12_183 ?_
    exact V_iret X E hr dX12_nowOf_59
  refine V_split (c := 4) (fun n1_4 => ?_) (fun n1_4 => ?_)
  · refine V_tabAt (c := 4) (tgt := 60) X dX12_nowOf_1 n1_4 (by decide) (by decide) (by rfl) (by decide) ?_
    refine V_aload_n 0 X dX12_nowOf_60 rfl rfl ?_
    refine V_getI 21 X dX12_nowOf_61 co12 (kM hZ 0 _ rfl) (by decide) rfl wfX12_201 ?_
    exact V_iret X E hr dX12_nowOf_64
  refine V_split (c := 5) (fun n1_5 => ?_) (fun n1_5 => ?_)
  · refine V_tabAt (c := 5) (tgt := 65) X dX12_nowOf_1 n1_5 (by decide) (by decide) (by rfl) (by decide) ?_
    refine V_aload_n 0 X dX12_nowOf_65 rfl rfl ?_
    refine V_getI 22 X dX12_nowOf_66 co12 (kM hZ 0 _ rfl) (by decide) rfl wfX12_204 ?_
    exact V_iret X E hr dX12_nowOf_69
  refine V_tabDef (tgt := 70) X dX12_nowOf_1 (swOut (a := v1) (fun q q1 q2 => by rcases (show q = 0 ∨ q = 1 ∨ q = 2 ∨ q = 3 ∨ q = 4 ∨ q = 5 by omega) with rfl | rfl | rfl | rfl | rfl | rfl <;> first | exact sw_ne n1_0 (by decide) | exact sw_ne n1_1 (by decide) | exact sw_ne n1_2 (by decide) | exact sw_ne n1_3 (by decide) | exact sw_ne n1_4 (by decide) | exact sw_ne n1_5 (by decide))) (by decide) ?_
  refine V_iload_n 1 X dX12_nowOf_70 rfl rfl ?_
  refine V_bipush (v := 10) X dX12_nowOf_71 (by decide) ?_
  refine V_iremKG X dX12_nowOf_73 (by decide) ?_
  refine V_istore_nG (L' := fun v2_1 => [(2, .int v2_1), (0, .ref (z.2.2.1 0)), (1, .int v1)]) X dX12_nowOf_74 rfl (by decide) (fun _ => rfl) (fun v2_1 => ?_)
  refine V_iload_n 2 X dX12_nowOf_75 rfl rfl ?_
  refine V_bipush (v := 40) X dX12_nowOf_76 (by decide) ?_
  refine V_bipush (v := 49) X dX12_nowOf_78 (by decide) ?_
  refine V_calSI [.int v1, .int 40, .int 49] [] X E dX12_nowOf_80 (kX12_isIn x.2.1 z hZ N v1 40 49 σ) gcX12_106 hyX12_isIn rfl ⟨by decide, by decide⟩ rfl (Nat.le_of_ble_eq_true rfl) (fun r2 s3 => ?_)
  refine V_if_eq (tgt := 106) X dX12_nowOf_83 (by decide) ?_ ?_
  · refine V_iload_n 2 X dX12_nowOf_106 rfl rfl ?_
    refine V_bipush (v := 10) X dX12_nowOf_107 (by decide) ?_
    refine V_bipush (v := 39) X dX12_nowOf_109 (by decide) ?_
    refine V_calSI [.int v1, .int 10, .int 39] [] X E dX12_nowOf_111 (kX12_isIn x.2.1 z hZ N v1 10 39 s3) gcX12_106 hyX12_isIn rfl ⟨by decide, by decide⟩ rfl (Nat.le_of_ble_eq_true rfl) (fun r4 s5 => ?_)
    refine V_if_eq (tgt := 125) X dX12_nowOf_114 (by decide) ?_ ?_
    · refine V_bipush (v := -2) X dX12_nowOf_125 (by decide) ?_
      exact V_iret X E hr dX12_nowOf_127
    · refine V_aload_n 1 X dX12_nowOf_117 rfl rfl ?_
      refine V_iload_n 0 X dX12_nowOf_118 rfl rfl ?_
      refine V_callI [.int v2_1] [] X E dX12_nowOf_119 (kX12_isPiece x.2.1 z hZ N v2_1 s5) co12 (kM hZ 0 _ rfl) gcX12_168 hyX12_isPiece rfl ⟨by decide, by decide⟩ rfl (Nat.le_of_ble_eq_true rfl) (fun r6 s7 => ?_)
      refine V_if_ne (tgt := 128) X dX12_nowOf_122 (by decide) ?_ ?_
      · refine V_iload_n 2 X dX12_nowOf_128 rfl rfl ?_
        refine V_bipush (v := 20) X dX12_nowOf_129 (by decide) ?_
        refine V_icmp_ge (tgt := 143) X dX12_nowOf_131 (by decide) ?_ ?_
        · refine V_iload_n 2 X dX12_nowOf_143 rfl rfl ?_
          refine V_bipush (v := 30) X dX12_nowOf_144 (by decide) ?_
          refine V_icmp_ge (tgt := 158) X dX12_nowOf_146 (by decide) ?_ ?_
          · refine V_aload_n 1 X dX12_nowOf_158 rfl rfl ?_
            refine V_iload_n 0 X dX12_nowOf_159 rfl rfl ?_
            refine V_callI [.int v2_1] [] X E dX12_nowOf_160 (kX12_loadOf x.2.1 z hZ N v2_1 s7) co12 (kM hZ 0 _ rfl) gcX12_189 hyX12_loadOf rfl ⟨by decide, by decide⟩ rfl (Nat.le_of_ble_eq_true rfl) (fun r8 s9 => ?_)
            exact V_iret X E hr dX12_nowOf_163
          · refine V_aload_n 1 X dX12_nowOf_149 rfl rfl ?_
            refine V_getR (k1 := 5) 18 X dX12_nowOf_150 co12 (kM hZ 0 _ rfl) (by decide) rfl rfl wfX12_23 ?_
            refine V_iload_n 0 X dX12_nowOf_153 rfl rfl ?_
            refine V_iald X dX12_nowOf_154 (kM hZ 5 _ rfl) ?_
            refine V_goto (tgt := 163) X dX12_nowOf_155 (by decide) ?_
            exact V_iret X E hr dX12_nowOf_163
        · refine V_aload_n 1 X dX12_nowOf_134 rfl rfl ?_
          refine V_getR (k1 := 4) 17 X dX12_nowOf_135 co12 (kM hZ 0 _ rfl) (by decide) rfl rfl wfX12_20 ?_
          refine V_iload_n 0 X dX12_nowOf_138 rfl rfl ?_
          refine V_iald X dX12_nowOf_139 (kM hZ 4 _ rfl) ?_
          refine V_goto (tgt := 163) X dX12_nowOf_140 (by decide) ?_
          exact V_iret X E hr dX12_nowOf_163
      · refine V_bipush (v := -2) X dX12_nowOf_125 (by decide) ?_
        exact V_iret X E hr dX12_nowOf_127
  · refine V_aload_n 1 X dX12_nowOf_86 rfl rfl ?_
    refine V_iload_n 0 X dX12_nowOf_87 rfl rfl ?_
    refine V_callI [.int v2_1] [] X E dX12_nowOf_88 (kX12_isPerson x.2.1 z hZ N v2_1 s3) co12 (kM hZ 0 _ rfl) gcX12_174 hyX12_isPerson rfl ⟨by decide, by decide⟩ rfl (Nat.le_of_ble_eq_true rfl) (fun r10 s11 => ?_)
    refine V_if_eq (tgt := 103) X dX12_nowOf_91 (by decide) ?_ ?_
    · refine V_bipush (v := -2) X dX12_nowOf_103 (by decide) ?_
      exact V_iret X E hr dX12_nowOf_105
    · refine V_aload_n 1 X dX12_nowOf_94 rfl rfl ?_
      refine V_getR (k1 := 6) 19 X dX12_nowOf_95 co12 (kM hZ 0 _ rfl) (by decide) rfl rfl wfX12_26 ?_
      refine V_iload_n 0 X dX12_nowOf_98 rfl rfl ?_
      refine V_iald X dX12_nowOf_99 (kM hZ 6 _ rfl) ?_
      refine V_goto (tgt := 105) X dX12_nowOf_100 (by decide) ?_
      exact V_iret X E hr dX12_nowOf_105
theorem kX12_nowOf (l : Launch) (z : Sx) (hZ : z.2.2.2.1 = kdM) (N : Nat) (v1 : Int32) (σ : Mem) : Ct QI yX12_nowOf cX12_nowOf 3 (some .int) 2 45 l z [.ref (z.2.2.1 0), .int v1] σ (fX12_nowOf N v1 σ) := by
  refine Ct_of (by decide +kernel) (Nat.le_of_ble_eq_true rfl) rfl ?_
  intro x _ X E hr
  exact bX12_nowOf_0 X E hr hZ N v1 σ
def fX12_state (N : Nat) (v1 : Int32) (v2 : Int32) (v3 : Int32) (v4 : Int32) (σ : Mem) : Option (Int32 × Mem) :=
  bd (fX12_isChamber N v1 σ) (fun r1 s2 => if r1 = 0 then some ((-2), s2) else bd (fX12_isSession N v2 s2) (fun r3 s4 => if r3 = 0 then some ((-2), s4) else if v3 < 0 then some ((-2), s4) else if 0 ≤ v4 then bd (fX12_runs N v3 s4) (fun r5 s6 => if (s6.1 0 26) = v3 then bd (fX12_nowOf N v4 s6) (fun r7 s8 => some (r7, s8)) else some ((-2), s6)) else some ((-2), s4)))
set_option maxRecDepth 100000 in
set_option maxHeartbeats 4000000 in
theorem bX12_state_0 {x : Cx} {z : Sx} (X : XG x z RX12 cX12_state 5 8 180) (E : XE x z) (hr : XR x (some .int)) (hZ : z.2.2.2.1 = kdM) (N : Nat) (v1 : Int32) (v2 : Int32) (v3 : Int32) (v4 : Int32) (σ : Mem) : VK x z 5 (BQ QI x z) 0 [(0, .ref (z.2.2.1 0)), (1, .int v1), (2, .int v2), (3, .int v3), (4, .int v4)] [] σ (fX12_state N v1 v2 v3 v4 σ) := by
  unfold fX12_state
  refine V_aload_n 0 X dX12_state_0 rfl rfl ?_
  refine V_iload_n 1 X dX12_state_1 rfl rfl ?_
  refine V_callI [.int v1] [] X E dX12_state_2 (kX12_isChamber x.2.1 z hZ N v1 σ) co12 (kM hZ 0 _ rfl) gcX12_165 hyX12_isChamber rfl ⟨by decide, by decide⟩ rfl (Nat.le_of_ble_eq_true rfl) (fun r1 s2 => ?_)
  refine V_if_eq (tgt := 25) X dX12_state_5 (by decide) ?_ ?_
  · refine V_bipush (v := -2) X dX12_state_25 (by decide) ?_
    exact V_iret X E hr dX12_state_27
  · refine V_aload_n 0 X dX12_state_8 rfl rfl ?_
    refine V_iload_n 2 X dX12_state_9 rfl rfl ?_
    refine V_callI [.int v2] [] X E dX12_state_10 (kX12_isSession x.2.1 z hZ N v2 s2) co12 (kM hZ 0 _ rfl) gcX12_222 hyX12_isSession rfl ⟨by decide, by decide⟩ rfl (Nat.le_of_ble_eq_true rfl) (fun r3 s4 => ?_)
    refine V_if_eq (tgt := 25) X dX12_state_13 (by decide) ?_ ?_
    · refine V_bipush (v := -2) X dX12_state_25 (by decide) ?_
      exact V_iret X E hr dX12_state_27
    · refine V_iload_n 3 X dX12_state_16 rfl rfl ?_
      refine V_if_lt (tgt := 25) X dX12_state_17 (by decide) ?_ ?_
      · refine V_bipush (v := -2) X dX12_state_25 (by decide) ?_
        exact V_iret X E hr dX12_state_27
      · refine V_iload 4 X dX12_state_20 rfl ?_
        refine V_if_ge (tgt := 28) X dX12_state_22 (by decide) ?_ ?_
        · refine V_aload_n 0 X dX12_state_28 rfl rfl ?_
          refine V_iload_n 3 X dX12_state_29 rfl rfl ?_
          refine V_callV [.int v3] [] X E dX12_state_30 (kX12_runs x.2.1 z hZ N v3 s4) co12 (kM hZ 0 _ rfl) gcX12_261 hyX12_runs rfl ⟨by decide, by decide⟩ rfl (Nat.le_of_ble_eq_true rfl) (fun r5 s6 => ?_)
          refine V_aload_n 0 X dX12_state_33 rfl rfl ?_
          refine V_getI 26 X dX12_state_34 co12 (kM hZ 0 _ rfl) (by decide) rfl wfX12_231 ?_
          refine V_iload_n 3 X dX12_state_37 rfl rfl ?_
          refine V_icmp_ne (tgt := 50) X dX12_state_38 (by decide) ?_ ?_
          · refine V_bipush (v := -2) X dX12_state_50 (by decide) ?_
            exact V_iret X E hr dX12_state_52
          · refine V_aload_n 0 X dX12_state_41 rfl rfl ?_
            refine V_iload 4 X dX12_state_42 rfl ?_
            refine V_callI [.int v4] [] X E dX12_state_44 (kX12_nowOf x.2.1 z hZ N v4 s6) co12 (kM hZ 0 _ rfl) gcX12_264 hyX12_nowOf rfl ⟨by decide, by decide⟩ rfl (Nat.le_of_ble_eq_true rfl) (fun r7 s8 => ?_)
            refine V_goto (tgt := 52) X dX12_state_47 (by decide) ?_
            exact V_iret X E hr dX12_state_52
        · refine V_bipush (v := -2) X dX12_state_25 (by decide) ?_
          exact V_iret X E hr dX12_state_27
theorem kX12_state (l : Launch) (z : Sx) (hZ : z.2.2.2.1 = kdM) (N : Nat) (v1 : Int32) (v2 : Int32) (v3 : Int32) (v4 : Int32) (σ : Mem) : Ct QI yX12_state cX12_state 5 (some .int) 8 180 l z [.ref (z.2.2.1 0), .int v1, .int v2, .int v3, .int v4] σ (fX12_state N v1 v2 v3 v4 σ) := by
  refine Ct_of (by decide +kernel) (Nat.le_of_ble_eq_true rfl) rfl ?_
  intro x _ X E hr
  exact bX12_state_0 X E hr hZ N v1 v2 v3 v4 σ
def fX12_after_b292 (N : Nat) (rc259 : Int32 → Int32 → Int32 → Int32 → Int32 → Mem → Option (Int32 × Mem)) (v3 : Int32) (v4 : Int32) (v5 : Int32) (v8 : Int32) (t0 : Int32) (σ : Mem) : Option (Int32 × Mem) :=
  lt_ t0 (fun v7_25 => lt_ (v8 + 1) (fun v8_26 => rc259 v3 v4 v5 v7_25 v8_26 σ))
set_option maxRecDepth 100000 in
set_option maxHeartbeats 4000000 in
theorem bX12_after_292 {x : Cx} {z : Sx} (X : XG x z RX12 cX12_after 11 7 159) (E : XE x z) (hr : XR x (some .int)) (hZ : z.2.2.2.1 = kdM) (N : Nat) (rc259 : Int32 → Int32 → Int32 → Int32 → Int32 → Mem → Option (Int32 × Mem)) (hc259 : ∀ (v3 : Int32) (v4 : Int32) (v5 : Int32) (v7 : Int32) (v8 : Int32) (σ : Mem), VK x z 11 (BQ QI x z) 259 [(0, .ref (z.2.2.1 0)), (3, .int v3), (4, .int v4), (5, .int v5), (7, .int v7), (8, .int v8)] [] σ (rc259 v3 v4 v5 v7 v8 σ)) (v3 : Int32) (v4 : Int32) (v5 : Int32) (v8 : Int32) (t0 : Int32) (σ : Mem) : VK x z 11 (BQ QI x z) 292 [(0, .ref (z.2.2.1 0)), (3, .int v3), (4, .int v4), (5, .int v5), (8, .int v8)] [.int t0] σ (fX12_after_b292 N rc259 v3 v4 v5 v8 t0 σ) := by
  unfold fX12_after_b292
  refine V_istoreG (L' := fun v7_25 => [(7, .int v7_25), (0, .ref (z.2.2.1 0)), (3, .int v3), (4, .int v4), (5, .int v5), (8, .int v8)]) X dX12_after_292 (by decide) (fun _ => rfl) (fun v7_25 => ?_)
  refine V_iincG (L' := fun v8_26 => [(8, .int v8_26), (7, .int v7_25), (0, .ref (z.2.2.1 0)), (3, .int v3), (4, .int v4), (5, .int v5)]) 5 X dX12_after_294 rfl rfl (by decide) (fun _ => rfl) (fun v8_26 => ?_)
  refine V_goto (tgt := 259) X dX12_after_297 (by decide) ?_
  refine V_sub [2, 3, 4, 5, 1, 0] rfl ?_
  exact hc259 v3 v4 v5 v7_25 v8_26 σ
def fX12_after_b259 (N : Nat) (rc259 : Int32 → Int32 → Int32 → Int32 → Int32 → Mem → Option (Int32 × Mem)) (v3 : Int32) (v4 : Int32) (v5 : Int32) (v7 : Int32) (v8 : Int32) (σ : Mem) : Option (Int32 × Mem) :=
  if (σ.1 0 12) ≤ v8 then if v3 = 0 then some (v4, σ) else if v3 = 2 then some (v5, σ) else gd (inb v7 8) (if (σ.1 8 v7.toNatClampNeg) = 0 then some ((-1), σ) else some (v7, σ)) else gd (inb v8 8) (gd (inb v7 8) (if (σ.1 8 v8.toNatClampNeg) ≤ (σ.1 8 v7.toNatClampNeg) then fX12_after_b292 N rc259 v3 v4 v5 v8 v7 σ else fX12_after_b292 N rc259 v3 v4 v5 v8 v8 σ))
set_option maxRecDepth 100000 in
set_option maxHeartbeats 4000000 in
theorem bX12_after_259 {x : Cx} {z : Sx} (X : XG x z RX12 cX12_after 11 7 159) (E : XE x z) (hr : XR x (some .int)) (hZ : z.2.2.2.1 = kdM) (N : Nat) (rc259 : Int32 → Int32 → Int32 → Int32 → Int32 → Mem → Option (Int32 × Mem)) (hc259 : ∀ (v3 : Int32) (v4 : Int32) (v5 : Int32) (v7 : Int32) (v8 : Int32) (σ : Mem), VK x z 11 (BQ QI x z) 259 [(0, .ref (z.2.2.1 0)), (3, .int v3), (4, .int v4), (5, .int v5), (7, .int v7), (8, .int v8)] [] σ (rc259 v3 v4 v5 v7 v8 σ)) (v3 : Int32) (v4 : Int32) (v5 : Int32) (v7 : Int32) (v8 : Int32) (σ : Mem) : VK x z 11 (BQ QI x z) 259 [(0, .ref (z.2.2.1 0)), (3, .int v3), (4, .int v4), (5, .int v5), (7, .int v7), (8, .int v8)] [] σ (fX12_after_b259 N rc259 v3 v4 v5 v7 v8 σ) := by
  unfold fX12_after_b259
  refine V_iload 5 X dX12_after_259 rfl ?_
  refine V_aload_n 0 X dX12_after_261 rfl rfl ?_
  refine V_getI 12 X dX12_after_262 co12 (kM hZ 0 _ rfl) (by decide) rfl wfX12_159 ?_
  refine V_icmp_ge (tgt := 300) X dX12_after_265 (by decide) ?_ ?_
  · refine V_iload_n 1 X dX12_after_300 rfl rfl ?_
    refine V_if_ne (tgt := 309) X dX12_after_301 (by decide) ?_ ?_
    · refine V_iload_n 1 X dX12_after_309 rfl rfl ?_
      refine V_iconst (v := 2) X dX12_after_310 (by decide) ?_
      refine V_icmp_ne (tgt := 319) X dX12_after_311 (by decide) ?_ ?_
      · refine V_aload_n 0 X dX12_after_319 rfl rfl ?_
        refine V_getR (k1 := 8) 27 X dX12_after_320 co12 (kM hZ 0 _ rfl) (by decide) rfl rfl wfX12_32 ?_
        refine V_iload 4 X dX12_after_323 rfl ?_
        refine V_iald X dX12_after_325 (kM hZ 8 _ rfl) ?_
        refine V_if_ne (tgt := 333) X dX12_after_326 (by decide) ?_ ?_
        · refine V_iload 4 X dX12_after_333 rfl ?_
          exact V_iret X E hr dX12_after_335
        · refine V_iconst (v := -1) X dX12_after_329 (by decide) ?_
          refine V_goto (tgt := 335) X dX12_after_330 (by decide) ?_
          exact V_iret X E hr dX12_after_335
      · refine V_iload 3 X dX12_after_314 rfl ?_
        refine V_goto (tgt := 335) X dX12_after_316 (by decide) ?_
        exact V_iret X E hr dX12_after_335
    · refine V_iload 2 X dX12_after_304 rfl ?_
      refine V_goto (tgt := 335) X dX12_after_306 (by decide) ?_
      exact V_iret X E hr dX12_after_335
  · refine V_aload_n 0 X dX12_after_268 rfl rfl ?_
    refine V_getR (k1 := 8) 27 X dX12_after_269 co12 (kM hZ 0 _ rfl) (by decide) rfl rfl wfX12_32 ?_
    refine V_iload 5 X dX12_after_272 rfl ?_
    refine V_iald X dX12_after_274 (kM hZ 8 _ rfl) ?_
    refine V_aload_n 0 X dX12_after_275 rfl rfl ?_
    refine V_getR (k1 := 8) 27 X dX12_after_276 co12 (kM hZ 0 _ rfl) (by decide) rfl rfl wfX12_32 ?_
    refine V_iload 4 X dX12_after_279 rfl ?_
    refine V_iald X dX12_after_281 (kM hZ 8 _ rfl) ?_
    refine V_icmp_le (tgt := 290) X dX12_after_282 (by decide) ?_ ?_
    · refine V_iload 4 X dX12_after_290 rfl ?_
      refine V_sub [0, 1, 2, 3, 5] rfl ?_
      exact bX12_after_292 X E hr hZ N rc259 hc259 v3 v4 v5 v8 v7 σ
    · refine V_iload 5 X dX12_after_285 rfl ?_
      refine V_goto (tgt := 292) X dX12_after_287 (by decide) ?_
      refine V_sub [0, 1, 2, 3, 5] rfl ?_
      exact bX12_after_292 X E hr hZ N rc259 hc259 v3 v4 v5 v8 v8 σ
def fX12_after_l259 (N : Nat) : Nat → Int32 → Int32 → Int32 → Int32 → Int32 → Mem → Option (Int32 × Mem)
  | 0 => fun _ _ _ _ _ _ => none
  | n + 1 => fX12_after_b259 N (fX12_after_l259 N n)
theorem lX12_after_259 {x : Cx} {z : Sx} (X : XG x z RX12 cX12_after 11 7 159) (E : XE x z) (hr : XR x (some .int)) (hZ : z.2.2.2.1 = kdM) (N : Nat) (n : Nat) (v3 : Int32) (v4 : Int32) (v5 : Int32) (v7 : Int32) (v8 : Int32) (σ : Mem) : VK x z 11 (BQ QI x z) 259 [(0, .ref (z.2.2.1 0)), (3, .int v3), (4, .int v4), (5, .int v5), (7, .int v7), (8, .int v8)] [] σ (fX12_after_l259 N n v3 v4 v5 v7 v8 σ) := by
  induction n generalizing v3 v4 v5 v7 v8 σ with
  | zero => exact V_none
  | succ n ih => exact bX12_after_259 X E hr hZ N (fX12_after_l259 N n) ih v3 v4 v5 v7 v8 σ
def fX12_after_b253 (N : Nat) (v3 : Int32) (v4 : Int32) (v5 : Int32) (σ : Mem) : Option (Int32 × Mem) :=
  lt_ 0 (fun v7_21 => lt_ 1 (fun v8_22 => fX12_after_l259 N N v3 v4 v5 v7_21 v8_22 σ))
set_option maxRecDepth 100000 in
set_option maxHeartbeats 4000000 in
theorem bX12_after_253 {x : Cx} {z : Sx} (X : XG x z RX12 cX12_after 11 7 159) (E : XE x z) (hr : XR x (some .int)) (hZ : z.2.2.2.1 = kdM) (N : Nat) (v3 : Int32) (v4 : Int32) (v5 : Int32) (σ : Mem) : VK x z 11 (BQ QI x z) 253 [(0, .ref (z.2.2.1 0)), (3, .int v3), (4, .int v4), (5, .int v5)] [] σ (fX12_after_b253 N v3 v4 v5 σ) := by
  unfold fX12_after_b253
  refine V_iconst (v := 0) X dX12_after_253 (by decide) ?_
  refine V_istoreG (L' := fun v7_21 => [(7, .int v7_21), (0, .ref (z.2.2.1 0)), (3, .int v3), (4, .int v4), (5, .int v5)]) X dX12_after_254 (by decide) (fun _ => rfl) (fun v7_21 => ?_)
  refine V_iconst (v := 1) X dX12_after_256 (by decide) ?_
  refine V_istoreG (L' := fun v8_22 => [(8, .int v8_22), (7, .int v7_21), (0, .ref (z.2.2.1 0)), (3, .int v3), (4, .int v4), (5, .int v5)]) X dX12_after_257 (by decide) (fun _ => rfl) (fun v8_22 => ?_)
  refine V_sub [2, 3, 4, 5, 1, 0] rfl ?_
  exact lX12_after_259 X E hr hZ N N v3 v4 v5 v7_21 v8_22 σ
def fX12_after_b247 (N : Nat) (rc68 : Int32 → Int32 → Int32 → Int32 → Int32 → Mem → Option (Int32 × Mem)) (v3 : Int32) (v4 : Int32) (v5 : Int32) (v6 : Int32) (v7 : Int32) (σ : Mem) : Option (Int32 × Mem) :=
  lt_ (v7 + 1) (fun v7_24 => rc68 v3 v4 v5 v6 v7_24 σ)
set_option maxRecDepth 100000 in
set_option maxHeartbeats 4000000 in
theorem bX12_after_247 {x : Cx} {z : Sx} (X : XG x z RX12 cX12_after 11 7 159) (E : XE x z) (hr : XR x (some .int)) (hZ : z.2.2.2.1 = kdM) (N : Nat) (rc68 : Int32 → Int32 → Int32 → Int32 → Int32 → Mem → Option (Int32 × Mem)) (hc68 : ∀ (v3 : Int32) (v4 : Int32) (v5 : Int32) (v6 : Int32) (v7 : Int32) (σ : Mem), VK x z 11 (BQ QI x z) 68 [(0, .ref (z.2.2.1 0)), (3, .int v3), (4, .int v4), (5, .int v5), (6, .int v6), (7, .int v7)] [] σ (rc68 v3 v4 v5 v6 v7 σ)) (v3 : Int32) (v4 : Int32) (v5 : Int32) (v6 : Int32) (v7 : Int32) (σ : Mem) : VK x z 11 (BQ QI x z) 247 [(0, .ref (z.2.2.1 0)), (3, .int v3), (4, .int v4), (5, .int v5), (6, .int v6), (7, .int v7)] [] σ (fX12_after_b247 N rc68 v3 v4 v5 v6 v7 σ) := by
  unfold fX12_after_b247
  refine V_iincG (L' := fun v7_24 => [(7, .int v7_24), (0, .ref (z.2.2.1 0)), (3, .int v3), (4, .int v4), (5, .int v5), (6, .int v6)]) 5 X dX12_after_247 rfl rfl (by decide) (fun _ => rfl) (fun v7_24 => ?_)
  refine V_goto (tgt := 68) X dX12_after_250 (by decide) ?_
  refine V_sub [1, 2, 3, 4, 5, 0] rfl ?_
  exact hc68 v3 v4 v5 v6 v7_24 σ
def fX12_after_b239 (N : Nat) (rc68 : Int32 → Int32 → Int32 → Int32 → Int32 → Mem → Option (Int32 × Mem)) (rc206 : Int32 → Int32 → Int32 → Int32 → Int32 → Int32 → Mem → Option (Int32 × Mem)) (v3 : Int32) (v4 : Int32) (v5 : Int32) (v6 : Int32) (v7 : Int32) (v10 : Int32) (t0 : Int32) (t1 : Int32) (t2 : Int32) (σ : Mem) : Option (Int32 × Mem) :=
  gd (inb t2 8) (lt_ (pI σ 8 t2.toNatClampNeg (t1 + t0)) (fun s29 => lt_ (v10 + 1) (fun v10_30 => rc206 v3 v4 v5 v6 v7 v10_30 s29)))
set_option maxRecDepth 100000 in
set_option maxHeartbeats 4000000 in
theorem bX12_after_239 {x : Cx} {z : Sx} (X : XG x z RX12 cX12_after 11 7 159) (E : XE x z) (hr : XR x (some .int)) (hZ : z.2.2.2.1 = kdM) (N : Nat) (rc68 : Int32 → Int32 → Int32 → Int32 → Int32 → Mem → Option (Int32 × Mem)) (hc68 : ∀ (v3 : Int32) (v4 : Int32) (v5 : Int32) (v6 : Int32) (v7 : Int32) (σ : Mem), VK x z 11 (BQ QI x z) 68 [(0, .ref (z.2.2.1 0)), (3, .int v3), (4, .int v4), (5, .int v5), (6, .int v6), (7, .int v7)] [] σ (rc68 v3 v4 v5 v6 v7 σ)) (rc206 : Int32 → Int32 → Int32 → Int32 → Int32 → Int32 → Mem → Option (Int32 × Mem)) (hc206 : ∀ (v3 : Int32) (v4 : Int32) (v5 : Int32) (v6 : Int32) (v7 : Int32) (v10 : Int32) (σ : Mem), VK x z 11 (BQ QI x z) 206 [(0, .ref (z.2.2.1 0)), (3, .int v3), (4, .int v4), (5, .int v5), (6, .int v6), (7, .int v7), (10, .int v10)] [] σ (rc206 v3 v4 v5 v6 v7 v10 σ)) (v3 : Int32) (v4 : Int32) (v5 : Int32) (v6 : Int32) (v7 : Int32) (v10 : Int32) (t0 : Int32) (t1 : Int32) (t2 : Int32) (σ : Mem) : VK x z 11 (BQ QI x z) 239 [(0, .ref (z.2.2.1 0)), (3, .int v3), (4, .int v4), (5, .int v5), (6, .int v6), (7, .int v7), (10, .int v10)] [.int t0, .int t1, .int t2, .ref (z.2.2.1 8)] σ (fX12_after_b239 N rc68 rc206 v3 v4 v5 v6 v7 v10 t0 t1 t2 σ) := by
  unfold fX12_after_b239
  refine V_iadd X dX12_after_239 ?_
  refine V_iastG X dX12_after_240 (kM hZ 8 _ rfl) (fun s29 => ?_)
  refine V_iincG (L' := fun v10_30 => [(10, .int v10_30), (0, .ref (z.2.2.1 0)), (3, .int v3), (4, .int v4), (5, .int v5), (6, .int v6), (7, .int v7)]) 6 X dX12_after_241 rfl rfl (by decide) (fun _ => rfl) (fun v10_30 => ?_)
  refine V_goto (tgt := 206) X dX12_after_244 (by decide) ?_
  refine V_sub [1, 2, 3, 4, 5, 6, 0] rfl ?_
  exact hc206 v3 v4 v5 v6 v7 v10_30 s29
def fX12_after_b206 (N : Nat) (rc68 : Int32 → Int32 → Int32 → Int32 → Int32 → Mem → Option (Int32 × Mem)) (rc206 : Int32 → Int32 → Int32 → Int32 → Int32 → Int32 → Mem → Option (Int32 × Mem)) (v3 : Int32) (v4 : Int32) (v5 : Int32) (v6 : Int32) (v7 : Int32) (v10 : Int32) (σ : Mem) : Option (Int32 × Mem) :=
  if (σ.1 0 12) ≤ v10 then fX12_after_b247 N rc68 v3 v4 v5 v6 v7 σ else gd (inb v10 8) (gd (inb v10 8) (if (σ.1 7 v10.toNatClampNeg) = 2 then fX12_after_b239 N rc68 rc206 v3 v4 v5 v6 v7 v10 1 (σ.1 8 v10.toNatClampNeg) v10 σ else fX12_after_b239 N rc68 rc206 v3 v4 v5 v6 v7 v10 0 (σ.1 8 v10.toNatClampNeg) v10 σ))
set_option maxRecDepth 100000 in
set_option maxHeartbeats 4000000 in
theorem bX12_after_206 {x : Cx} {z : Sx} (X : XG x z RX12 cX12_after 11 7 159) (E : XE x z) (hr : XR x (some .int)) (hZ : z.2.2.2.1 = kdM) (N : Nat) (rc68 : Int32 → Int32 → Int32 → Int32 → Int32 → Mem → Option (Int32 × Mem)) (hc68 : ∀ (v3 : Int32) (v4 : Int32) (v5 : Int32) (v6 : Int32) (v7 : Int32) (σ : Mem), VK x z 11 (BQ QI x z) 68 [(0, .ref (z.2.2.1 0)), (3, .int v3), (4, .int v4), (5, .int v5), (6, .int v6), (7, .int v7)] [] σ (rc68 v3 v4 v5 v6 v7 σ)) (rc206 : Int32 → Int32 → Int32 → Int32 → Int32 → Int32 → Mem → Option (Int32 × Mem)) (hc206 : ∀ (v3 : Int32) (v4 : Int32) (v5 : Int32) (v6 : Int32) (v7 : Int32) (v10 : Int32) (σ : Mem), VK x z 11 (BQ QI x z) 206 [(0, .ref (z.2.2.1 0)), (3, .int v3), (4, .int v4), (5, .int v5), (6, .int v6), (7, .int v7), (10, .int v10)] [] σ (rc206 v3 v4 v5 v6 v7 v10 σ)) (v3 : Int32) (v4 : Int32) (v5 : Int32) (v6 : Int32) (v7 : Int32) (v10 : Int32) (σ : Mem) : VK x z 11 (BQ QI x z) 206 [(0, .ref (z.2.2.1 0)), (3, .int v3), (4, .int v4), (5, .int v5), (6, .int v6), (7, .int v7), (10, .int v10)] [] σ (fX12_after_b206 N rc68 rc206 v3 v4 v5 v6 v7 v10 σ) := by
  unfold fX12_after_b206
  refine V_iload 6 X dX12_after_206 rfl ?_
  refine V_aload_n 0 X dX12_after_208 rfl rfl ?_
  refine V_getI 12 X dX12_after_209 co12 (kM hZ 0 _ rfl) (by decide) rfl wfX12_159 ?_
  refine V_icmp_ge (tgt := 247) X dX12_after_212 (by decide) ?_ ?_
  · refine V_sub [0, 1, 2, 3, 4, 5] rfl ?_
    exact bX12_after_247 X E hr hZ N rc68 hc68 v3 v4 v5 v6 v7 σ
  · refine V_aload_n 0 X dX12_after_215 rfl rfl ?_
    refine V_getR (k1 := 8) 27 X dX12_after_216 co12 (kM hZ 0 _ rfl) (by decide) rfl rfl wfX12_32 ?_
    refine V_iload 6 X dX12_after_219 rfl ?_
    refine V_dup2 X dX12_after_221 rfl rfl ?_
    refine V_iald X dX12_after_222 (kM hZ 8 _ rfl) ?_
    refine V_aload_n 0 X dX12_after_223 rfl rfl ?_
    refine V_getR (k1 := 7) 20 X dX12_after_224 co12 (kM hZ 0 _ rfl) (by decide) rfl rfl wfX12_29 ?_
    refine V_iload 6 X dX12_after_227 rfl ?_
    refine V_iald X dX12_after_229 (kM hZ 7 _ rfl) ?_
    refine V_iconst (v := 2) X dX12_after_230 (by decide) ?_
    refine V_icmp_ne (tgt := 238) X dX12_after_231 (by decide) ?_ ?_
    · refine V_iconst (v := 0) X dX12_after_238 (by decide) ?_
      refine V_sub [0, 1, 2, 3, 4, 5, 6] rfl ?_
      exact bX12_after_239 X E hr hZ N rc68 hc68 rc206 hc206 v3 v4 v5 v6 v7 v10 0 (σ.1 8 v10.toNatClampNeg) v10 σ
    · refine V_iconst (v := 1) X dX12_after_234 (by decide) ?_
      refine V_goto (tgt := 239) X dX12_after_235 (by decide) ?_
      refine V_sub [0, 1, 2, 3, 4, 5, 6] rfl ?_
      exact bX12_after_239 X E hr hZ N rc68 hc68 rc206 hc206 v3 v4 v5 v6 v7 v10 1 (σ.1 8 v10.toNatClampNeg) v10 σ
def fX12_after_l206 (N : Nat) (rc68 : Int32 → Int32 → Int32 → Int32 → Int32 → Mem → Option (Int32 × Mem)) : Nat → Int32 → Int32 → Int32 → Int32 → Int32 → Int32 → Mem → Option (Int32 × Mem)
  | 0 => fun _ _ _ _ _ _ _ => none
  | n + 1 => fX12_after_b206 N rc68 (fX12_after_l206 N rc68 n)
theorem lX12_after_206 {x : Cx} {z : Sx} (X : XG x z RX12 cX12_after 11 7 159) (E : XE x z) (hr : XR x (some .int)) (hZ : z.2.2.2.1 = kdM) (N : Nat) (rc68 : Int32 → Int32 → Int32 → Int32 → Int32 → Mem → Option (Int32 × Mem)) (hc68 : ∀ (v3 : Int32) (v4 : Int32) (v5 : Int32) (v6 : Int32) (v7 : Int32) (σ : Mem), VK x z 11 (BQ QI x z) 68 [(0, .ref (z.2.2.1 0)), (3, .int v3), (4, .int v4), (5, .int v5), (6, .int v6), (7, .int v7)] [] σ (rc68 v3 v4 v5 v6 v7 σ)) (n : Nat) (v3 : Int32) (v4 : Int32) (v5 : Int32) (v6 : Int32) (v7 : Int32) (v10 : Int32) (σ : Mem) : VK x z 11 (BQ QI x z) 206 [(0, .ref (z.2.2.1 0)), (3, .int v3), (4, .int v4), (5, .int v5), (6, .int v6), (7, .int v7), (10, .int v10)] [] σ (fX12_after_l206 N rc68 n v3 v4 v5 v6 v7 v10 σ) := by
  induction n generalizing v3 v4 v5 v6 v7 v10 σ with
  | zero => exact V_none
  | succ n ih => exact bX12_after_206 X E hr hZ N rc68 hc68 (fX12_after_l206 N rc68 n) ih v3 v4 v5 v6 v7 v10 σ
def fX12_after_b201 (N : Nat) (rc68 : Int32 → Int32 → Int32 → Int32 → Int32 → Mem → Option (Int32 × Mem)) (v3 : Int32) (v4 : Int32) (v6 : Int32) (v7 : Int32) (t0 : Int32) (σ : Mem) : Option (Int32 × Mem) :=
  lt_ t0 (fun v5_27 => lt_ 0 (fun v10_28 => fX12_after_l206 N rc68 N v3 v4 v5_27 v6 v7 v10_28 σ))
set_option maxRecDepth 100000 in
set_option maxHeartbeats 4000000 in
theorem bX12_after_201 {x : Cx} {z : Sx} (X : XG x z RX12 cX12_after 11 7 159) (E : XE x z) (hr : XR x (some .int)) (hZ : z.2.2.2.1 = kdM) (N : Nat) (rc68 : Int32 → Int32 → Int32 → Int32 → Int32 → Mem → Option (Int32 × Mem)) (hc68 : ∀ (v3 : Int32) (v4 : Int32) (v5 : Int32) (v6 : Int32) (v7 : Int32) (σ : Mem), VK x z 11 (BQ QI x z) 68 [(0, .ref (z.2.2.1 0)), (3, .int v3), (4, .int v4), (5, .int v5), (6, .int v6), (7, .int v7)] [] σ (rc68 v3 v4 v5 v6 v7 σ)) (v3 : Int32) (v4 : Int32) (v6 : Int32) (v7 : Int32) (t0 : Int32) (σ : Mem) : VK x z 11 (BQ QI x z) 201 [(0, .ref (z.2.2.1 0)), (3, .int v3), (4, .int v4), (6, .int v6), (7, .int v7)] [.int t0] σ (fX12_after_b201 N rc68 v3 v4 v6 v7 t0 σ) := by
  unfold fX12_after_b201
  refine V_istoreG (L' := fun v5_27 => [(5, .int v5_27), (0, .ref (z.2.2.1 0)), (3, .int v3), (4, .int v4), (6, .int v6), (7, .int v7)]) X dX12_after_201 (by decide) (fun _ => rfl) (fun v5_27 => ?_)
  refine V_iconst (v := 0) X dX12_after_203 (by decide) ?_
  refine V_istoreG (L' := fun v10_28 => [(10, .int v10_28), (5, .int v5_27), (0, .ref (z.2.2.1 0)), (3, .int v3), (4, .int v4), (6, .int v6), (7, .int v7)]) X dX12_after_204 (by decide) (fun _ => rfl) (fun v10_28 => ?_)
  refine V_sub [2, 3, 4, 1, 5, 6, 0] rfl ?_
  exact lX12_after_206 X E hr hZ N rc68 hc68 N v3 v4 v5_27 v6 v7 v10_28 σ
def fX12_after_b185 (N : Nat) (rc68 : Int32 → Int32 → Int32 → Int32 → Int32 → Mem → Option (Int32 × Mem)) (v3 : Int32) (v4 : Int32) (v5 : Int32) (v7 : Int32) (t0 : Int32) (σ : Mem) : Option (Int32 × Mem) :=
  lt_ t0 (fun v6_23 => if v6_23 ≤ v5 then fX12_after_b201 N rc68 v3 v4 v6_23 v7 v5 σ else fX12_after_b201 N rc68 v3 v4 v6_23 v7 v6_23 σ)
set_option maxRecDepth 100000 in
set_option maxHeartbeats 4000000 in
theorem bX12_after_185 {x : Cx} {z : Sx} (X : XG x z RX12 cX12_after 11 7 159) (E : XE x z) (hr : XR x (some .int)) (hZ : z.2.2.2.1 = kdM) (N : Nat) (rc68 : Int32 → Int32 → Int32 → Int32 → Int32 → Mem → Option (Int32 × Mem)) (hc68 : ∀ (v3 : Int32) (v4 : Int32) (v5 : Int32) (v6 : Int32) (v7 : Int32) (σ : Mem), VK x z 11 (BQ QI x z) 68 [(0, .ref (z.2.2.1 0)), (3, .int v3), (4, .int v4), (5, .int v5), (6, .int v6), (7, .int v7)] [] σ (rc68 v3 v4 v5 v6 v7 σ)) (v3 : Int32) (v4 : Int32) (v5 : Int32) (v7 : Int32) (t0 : Int32) (σ : Mem) : VK x z 11 (BQ QI x z) 185 [(0, .ref (z.2.2.1 0)), (3, .int v3), (4, .int v4), (5, .int v5), (7, .int v7)] [.int t0] σ (fX12_after_b185 N rc68 v3 v4 v5 v7 t0 σ) := by
  unfold fX12_after_b185
  refine V_istoreG (L' := fun v6_23 => [(6, .int v6_23), (0, .ref (z.2.2.1 0)), (3, .int v3), (4, .int v4), (5, .int v5), (7, .int v7)]) X dX12_after_185 (by decide) (fun _ => rfl) (fun v6_23 => ?_)
  refine V_iload 0 X dX12_after_187 rfl ?_
  refine V_iload 4 X dX12_after_189 rfl ?_
  refine V_icmp_le (tgt := 199) X dX12_after_191 (by decide) ?_ ?_
  · refine V_iload 4 X dX12_after_199 rfl ?_
    refine V_sub [1, 2, 3, 0, 5] rfl ?_
    exact bX12_after_201 X E hr hZ N rc68 hc68 v3 v4 v6_23 v7 v5 σ
  · refine V_iload 0 X dX12_after_194 rfl ?_
    refine V_goto (tgt := 201) X dX12_after_196 (by decide) ?_
    refine V_sub [1, 2, 3, 0, 5] rfl ?_
    exact bX12_after_201 X E hr hZ N rc68 hc68 v3 v4 v6_23 v7 v6_23 σ
def fX12_after_b155 (N : Nat) (rc68 : Int32 → Int32 → Int32 → Int32 → Int32 → Mem → Option (Int32 × Mem)) (v3 : Int32) (v4 : Int32) (v5 : Int32) (v6 : Int32) (v7 : Int32) (v8 : Int32) (v9 : Int32) (σ : Mem) : Option (Int32 × Mem) :=
  gd (inb v8 4176) (if (σ.1 1 v8.toNatClampNeg) = 0 then if (σ.1 0 25) ≤ v9 then fX12_after_b185 N rc68 v3 v4 v5 v7 0 σ else fX12_after_b185 N rc68 v3 v4 v5 v7 (v6 + 1) σ else fX12_after_b247 N rc68 v3 v4 v5 v6 v7 σ)
set_option maxRecDepth 100000 in
set_option maxHeartbeats 4000000 in
theorem bX12_after_155 {x : Cx} {z : Sx} (X : XG x z RX12 cX12_after 11 7 159) (E : XE x z) (hr : XR x (some .int)) (hZ : z.2.2.2.1 = kdM) (N : Nat) (rc68 : Int32 → Int32 → Int32 → Int32 → Int32 → Mem → Option (Int32 × Mem)) (hc68 : ∀ (v3 : Int32) (v4 : Int32) (v5 : Int32) (v6 : Int32) (v7 : Int32) (σ : Mem), VK x z 11 (BQ QI x z) 68 [(0, .ref (z.2.2.1 0)), (3, .int v3), (4, .int v4), (5, .int v5), (6, .int v6), (7, .int v7)] [] σ (rc68 v3 v4 v5 v6 v7 σ)) (v3 : Int32) (v4 : Int32) (v5 : Int32) (v6 : Int32) (v7 : Int32) (v8 : Int32) (v9 : Int32) (σ : Mem) : VK x z 11 (BQ QI x z) 155 [(0, .ref (z.2.2.1 0)), (3, .int v3), (4, .int v4), (5, .int v5), (6, .int v6), (7, .int v7), (8, .int v8), (9, .int v9)] [] σ (fX12_after_b155 N rc68 v3 v4 v5 v6 v7 v8 v9 σ) := by
  unfold fX12_after_b155
  refine V_aload_n 0 X dX12_after_155 rfl rfl ?_
  refine V_getR (k1 := 1) 0 X dX12_after_156 co12 (kM hZ 0 _ rfl) (by decide) rfl rfl wfX12_7 ?_
  refine V_iload 6 X dX12_after_159 rfl ?_
  refine V_iald X dX12_after_161 (kM hZ 1 _ rfl) ?_
  refine V_if_eq (tgt := 168) X dX12_after_162 (by decide) ?_ ?_
  · refine V_aload_n 0 X dX12_after_168 rfl rfl ?_
    refine V_getI 25 X dX12_after_169 co12 (kM hZ 0 _ rfl) (by decide) rfl wfX12_228 ?_
    refine V_iload 7 X dX12_after_172 rfl ?_
    refine V_icmp_le (tgt := 184) X dX12_after_174 (by decide) ?_ ?_
    · refine V_iconst (v := 0) X dX12_after_184 (by decide) ?_
      refine V_sub [0, 1, 2, 3, 5] rfl ?_
      exact bX12_after_185 X E hr hZ N rc68 hc68 v3 v4 v5 v7 0 σ
    · refine V_iload 4 X dX12_after_177 rfl ?_
      refine V_iconst (v := 1) X dX12_after_179 (by decide) ?_
      refine V_iadd X dX12_after_180 ?_
      refine V_goto (tgt := 185) X dX12_after_181 (by decide) ?_
      refine V_sub [0, 1, 2, 3, 5] rfl ?_
      exact bX12_after_185 X E hr hZ N rc68 hc68 v3 v4 v5 v7 (v6 + 1) σ
  · refine V_goto (tgt := 247) X dX12_after_165 (by decide) ?_
    refine V_sub [0, 1, 2, 3, 4, 5] rfl ?_
    exact bX12_after_247 X E hr hZ N rc68 hc68 v3 v4 v5 v6 v7 σ
def fX12_after_b68 (N : Nat) (rc68 : Int32 → Int32 → Int32 → Int32 → Int32 → Mem → Option (Int32 × Mem)) (v3 : Int32) (v4 : Int32) (v5 : Int32) (v6 : Int32) (v7 : Int32) (σ : Mem) : Option (Int32 × Mem) :=
  gd (inb (σ.1 0 23) 4176) (if (σ.1 1 (σ.1 0 23).toNatClampNeg) ≤ v7 then fX12_after_b253 N v3 v4 v5 σ else lt_ (((σ.1 0 23) + 1) + (3 * v7)) (fun v8_16 => lt_ (σ.1 0 25) (fun v9_17 => gd (inb v8_16 4176) (gd (inb (v8_16 + 1) 4176) (gd (inb (v8_16 + 2) 4176) (bd (fX12_does N (σ.1 1 v8_16.toNatClampNeg) (σ.1 1 (v8_16 + 1).toNatClampNeg) (σ.1 1 (v8_16 + 2).toNatClampNeg) σ) (fun r18 s19 => if r18 = 0 then fX12_after_b253 N v3 v4 v5 s19 else if v4 = (-1) then if (s19.1 0 15) = 0 then fX12_after_b155 N rc68 v3 v4 v5 v6 v7 v8_16 v9_17 s19 else lt_ (v7 + 1) (fun v4_20 => fX12_after_b155 N rc68 v3 v4_20 v5 v6 v7 v8_16 v9_17 s19) else fX12_after_b155 N rc68 v3 v4 v5 v6 v7 v8_16 v9_17 s19)))))))
set_option maxRecDepth 100000 in
set_option maxHeartbeats 4000000 in
theorem bX12_after_68 {x : Cx} {z : Sx} (X : XG x z RX12 cX12_after 11 7 159) (E : XE x z) (hr : XR x (some .int)) (hZ : z.2.2.2.1 = kdM) (N : Nat) (rc68 : Int32 → Int32 → Int32 → Int32 → Int32 → Mem → Option (Int32 × Mem)) (hc68 : ∀ (v3 : Int32) (v4 : Int32) (v5 : Int32) (v6 : Int32) (v7 : Int32) (σ : Mem), VK x z 11 (BQ QI x z) 68 [(0, .ref (z.2.2.1 0)), (3, .int v3), (4, .int v4), (5, .int v5), (6, .int v6), (7, .int v7)] [] σ (rc68 v3 v4 v5 v6 v7 σ)) (v3 : Int32) (v4 : Int32) (v5 : Int32) (v6 : Int32) (v7 : Int32) (σ : Mem) : VK x z 11 (BQ QI x z) 68 [(0, .ref (z.2.2.1 0)), (3, .int v3), (4, .int v4), (5, .int v5), (6, .int v6), (7, .int v7)] [] σ (fX12_after_b68 N rc68 v3 v4 v5 v6 v7 σ) := by
  unfold fX12_after_b68
  refine V_iload 5 X dX12_after_68 rfl ?_
  refine V_aload_n 0 X dX12_after_70 rfl rfl ?_
  refine V_getR (k1 := 1) 0 X dX12_after_71 co12 (kM hZ 0 _ rfl) (by decide) rfl rfl wfX12_7 ?_
  refine V_aload_n 0 X dX12_after_74 rfl rfl ?_
  refine V_getI 23 X dX12_after_75 co12 (kM hZ 0 _ rfl) (by decide) rfl wfX12_219 ?_
  refine V_iald X dX12_after_78 (kM hZ 1 _ rfl) ?_
  refine V_icmp_ge (tgt := 253) X dX12_after_79 (by decide) ?_ ?_
  · refine V_sub [0, 1, 2, 3] rfl ?_
    exact bX12_after_253 X E hr hZ N v3 v4 v5 σ
  · refine V_aload_n 0 X dX12_after_82 rfl rfl ?_
    refine V_getI 23 X dX12_after_83 co12 (kM hZ 0 _ rfl) (by decide) rfl wfX12_219 ?_
    refine V_iconst (v := 1) X dX12_after_86 (by decide) ?_
    refine V_iadd X dX12_after_87 ?_
    refine V_iconst (v := 3) X dX12_after_88 (by decide) ?_
    refine V_iload 5 X dX12_after_89 rfl ?_
    refine V_imul X dX12_after_91 ?_
    refine V_iadd X dX12_after_92 ?_
    refine V_istoreG (L' := fun v8_16 => [(8, .int v8_16), (0, .ref (z.2.2.1 0)), (3, .int v3), (4, .int v4), (5, .int v5), (6, .int v6), (7, .int v7)]) X dX12_after_93 (by decide) (fun _ => rfl) (fun v8_16 => ?_)
    refine V_aload_n 1 X dX12_after_95 rfl rfl ?_
    refine V_getI 25 X dX12_after_96 co12 (kM hZ 0 _ rfl) (by decide) rfl wfX12_228 ?_
    refine V_istoreG (L' := fun v9_17 => [(9, .int v9_17), (8, .int v8_16), (0, .ref (z.2.2.1 0)), (3, .int v3), (4, .int v4), (5, .int v5), (6, .int v6), (7, .int v7)]) X dX12_after_99 (by decide) (fun _ => rfl) (fun v9_17 => ?_)
    refine V_aload_n 2 X dX12_after_101 rfl rfl ?_
    refine V_aload_n 2 X dX12_after_102 rfl rfl ?_
    refine V_getR (k1 := 1) 0 X dX12_after_103 co12 (kM hZ 0 _ rfl) (by decide) rfl rfl wfX12_7 ?_
    refine V_iload 1 X dX12_after_106 rfl ?_
    refine V_iald X dX12_after_108 (kM hZ 1 _ rfl) ?_
    refine V_aload_n 2 X dX12_after_109 rfl rfl ?_
    refine V_getR (k1 := 1) 0 X dX12_after_110 co12 (kM hZ 0 _ rfl) (by decide) rfl rfl wfX12_7 ?_
    refine V_iload 1 X dX12_after_113 rfl ?_
    refine V_iconst (v := 1) X dX12_after_115 (by decide) ?_
    refine V_iadd X dX12_after_116 ?_
    refine V_iald X dX12_after_117 (kM hZ 1 _ rfl) ?_
    refine V_aload_n 2 X dX12_after_118 rfl rfl ?_
    refine V_getR (k1 := 1) 0 X dX12_after_119 co12 (kM hZ 0 _ rfl) (by decide) rfl rfl wfX12_7 ?_
    refine V_iload 1 X dX12_after_122 rfl ?_
    refine V_iconst (v := 2) X dX12_after_124 (by decide) ?_
    refine V_iadd X dX12_after_125 ?_
    refine V_iald X dX12_after_126 (kM hZ 1 _ rfl) ?_
    refine V_callI [.int (σ.1 1 v8_16.toNatClampNeg), .int (σ.1 1 (v8_16 + 1).toNatClampNeg), .int (σ.1 1 (v8_16 + 2).toNatClampNeg)] [] X E dX12_after_127 (kX12_does x.2.1 z hZ N (σ.1 1 v8_16.toNatClampNeg) (σ.1 1 (v8_16 + 1).toNatClampNeg) (σ.1 1 (v8_16 + 2).toNatClampNeg) σ) co12 (kM hZ 0 _ rfl) gcX12_258 hyX12_does rfl ⟨by decide, by decide⟩ rfl (Nat.le_of_ble_eq_true rfl) (fun r18 s19 => ?_)
    refine V_if_ne (tgt := 136) X dX12_after_130 (by decide) ?_ ?_
    · refine V_iload 4 X dX12_after_136 rfl ?_
      refine V_iconst (v := -1) X dX12_after_138 (by decide) ?_
      refine V_icmp_ne (tgt := 155) X dX12_after_139 (by decide) ?_ ?_
      · refine V_sub [2, 3, 4, 5, 6, 7, 1, 0] rfl ?_
        exact bX12_after_155 X E hr hZ N rc68 hc68 v3 v4 v5 v6 v7 v8_16 v9_17 s19
      · refine V_aload_n 2 X dX12_after_142 rfl rfl ?_
        refine V_getI 15 X dX12_after_143 co12 (kM hZ 0 _ rfl) (by decide) rfl wfX12_183 ?_
        refine V_if_eq (tgt := 155) X dX12_after_146 (by decide) ?_ ?_
        · refine V_sub [2, 3, 4, 5, 6, 7, 1, 0] rfl ?_
          exact bX12_after_155 X E hr hZ N rc68 hc68 v3 v4 v5 v6 v7 v8_16 v9_17 s19
        · refine V_iload 7 X dX12_after_149 rfl ?_
          refine V_iconst (v := 1) X dX12_after_151 (by decide) ?_
          refine V_iadd X dX12_after_152 ?_
          refine V_istoreG (L' := fun v4_20 => [(4, .int v4_20), (9, .int v9_17), (8, .int v8_16), (0, .ref (z.2.2.1 0)), (3, .int v3), (5, .int v5), (6, .int v6), (7, .int v7)]) X dX12_after_153 (by decide) (fun _ => rfl) (fun v4_20 => ?_)
          refine V_sub [3, 4, 0, 5, 6, 7, 2, 1] rfl ?_
          exact bX12_after_155 X E hr hZ N rc68 hc68 v3 v4_20 v5 v6 v7 v8_16 v9_17 s19
    · refine V_goto (tgt := 253) X dX12_after_133 (by decide) ?_
      refine V_sub [2, 3, 4, 5] rfl ?_
      exact bX12_after_253 X E hr hZ N v3 v4 v5 s19
def fX12_after_l68 (N : Nat) : Nat → Int32 → Int32 → Int32 → Int32 → Int32 → Mem → Option (Int32 × Mem)
  | 0 => fun _ _ _ _ _ _ => none
  | n + 1 => fX12_after_b68 N (fX12_after_l68 N n)
theorem lX12_after_68 {x : Cx} {z : Sx} (X : XG x z RX12 cX12_after 11 7 159) (E : XE x z) (hr : XR x (some .int)) (hZ : z.2.2.2.1 = kdM) (N : Nat) (n : Nat) (v3 : Int32) (v4 : Int32) (v5 : Int32) (v6 : Int32) (v7 : Int32) (σ : Mem) : VK x z 11 (BQ QI x z) 68 [(0, .ref (z.2.2.1 0)), (3, .int v3), (4, .int v4), (5, .int v5), (6, .int v6), (7, .int v7)] [] σ (fX12_after_l68 N n v3 v4 v5 v6 v7 σ) := by
  induction n generalizing v3 v4 v5 v6 v7 σ with
  | zero => exact V_none
  | succ n ih => exact bX12_after_68 X E hr hZ N (fX12_after_l68 N n) ih v3 v4 v5 v6 v7 σ
def fX12_after_b31 (N : Nat) (rc31 : Int32 → Int32 → Mem → Option (Int32 × Mem)) (v3 : Int32) (v4 : Int32) (σ : Mem) : Option (Int32 × Mem) :=
  if 8 ≤ v4 then bd (fX12_begins N σ) (fun r8 s9 => lt_ (-1) (fun v4_10 => lt_ 0 (fun v5_11 => lt_ 0 (fun v6_12 => lt_ 0 (fun v7_13 => fX12_after_l68 N N v3 v4_10 v5_11 v6_12 v7_13 s9))))) else gd (inb v4 8) (lt_ (pI σ 8 v4.toNatClampNeg 0) (fun s14 => lt_ (v4 + 1) (fun v4_15 => rc31 v3 v4_15 s14)))
set_option maxRecDepth 100000 in
set_option maxHeartbeats 4000000 in
theorem bX12_after_31 {x : Cx} {z : Sx} (X : XG x z RX12 cX12_after 11 7 159) (E : XE x z) (hr : XR x (some .int)) (hZ : z.2.2.2.1 = kdM) (N : Nat) (rc31 : Int32 → Int32 → Mem → Option (Int32 × Mem)) (hc31 : ∀ (v3 : Int32) (v4 : Int32) (σ : Mem), VK x z 11 (BQ QI x z) 31 [(0, .ref (z.2.2.1 0)), (3, .int v3), (4, .int v4)] [] σ (rc31 v3 v4 σ)) (v3 : Int32) (v4 : Int32) (σ : Mem) : VK x z 11 (BQ QI x z) 31 [(0, .ref (z.2.2.1 0)), (3, .int v3), (4, .int v4)] [] σ (fX12_after_b31 N rc31 v3 v4 σ) := by
  unfold fX12_after_b31
  refine V_iload 2 X dX12_after_31 rfl ?_
  refine V_bipush (v := 8) X dX12_after_33 (by decide) ?_
  refine V_icmp_ge (tgt := 52) X dX12_after_35 (by decide) ?_ ?_
  · refine V_aload_n 0 X dX12_after_52 rfl rfl ?_
    refine V_callV [] [] X E dX12_after_53 (kX12_begins x.2.1 z hZ N σ) co12 (kM hZ 0 _ rfl) gcX12_255 hyX12_begins rfl ⟨by decide, by decide⟩ rfl (Nat.le_of_ble_eq_true rfl) (fun r8 s9 => ?_)
    refine V_iconst (v := -1) X dX12_after_56 (by decide) ?_
    refine V_istoreG (L' := fun v4_10 => [(4, .int v4_10), (0, .ref (z.2.2.1 0)), (3, .int v3)]) X dX12_after_57 (by decide) (fun _ => rfl) (fun v4_10 => ?_)
    refine V_iconst (v := 0) X dX12_after_59 (by decide) ?_
    refine V_istoreG (L' := fun v5_11 => [(5, .int v5_11), (4, .int v4_10), (0, .ref (z.2.2.1 0)), (3, .int v3)]) X dX12_after_60 (by decide) (fun _ => rfl) (fun v5_11 => ?_)
    refine V_iconst (v := 0) X dX12_after_62 (by decide) ?_
    refine V_istoreG (L' := fun v6_12 => [(6, .int v6_12), (5, .int v5_11), (4, .int v4_10), (0, .ref (z.2.2.1 0)), (3, .int v3)]) X dX12_after_63 (by decide) (fun _ => rfl) (fun v6_12 => ?_)
    refine V_iconst (v := 0) X dX12_after_65 (by decide) ?_
    refine V_istoreG (L' := fun v7_13 => [(7, .int v7_13), (6, .int v6_12), (5, .int v5_11), (4, .int v4_10), (0, .ref (z.2.2.1 0)), (3, .int v3)]) X dX12_after_66 (by decide) (fun _ => rfl) (fun v7_13 => ?_)
    refine V_sub [4, 5, 3, 2, 1, 0] rfl ?_
    exact lX12_after_68 X E hr hZ N N v3 v4_10 v5_11 v6_12 v7_13 s9
  · refine V_aload_n 0 X dX12_after_38 rfl rfl ?_
    refine V_getR (k1 := 8) 27 X dX12_after_39 co12 (kM hZ 0 _ rfl) (by decide) rfl rfl wfX12_32 ?_
    refine V_iload 2 X dX12_after_42 rfl ?_
    refine V_iconst (v := 0) X dX12_after_44 (by decide) ?_
    refine V_iastG X dX12_after_45 (kM hZ 8 _ rfl) (fun s14 => ?_)
    refine V_iincG (L' := fun v4_15 => [(4, .int v4_15), (0, .ref (z.2.2.1 0)), (3, .int v3)]) 2 X dX12_after_46 rfl rfl (by decide) (fun _ => rfl) (fun v4_15 => ?_)
    refine V_goto (tgt := 31) X dX12_after_49 (by decide) ?_
    refine V_sub [1, 2, 0] rfl ?_
    exact hc31 v3 v4_15 s14
def fX12_after_l31 (N : Nat) : Nat → Int32 → Int32 → Mem → Option (Int32 × Mem)
  | 0 => fun _ _ _ => none
  | n + 1 => fX12_after_b31 N (fX12_after_l31 N n)
theorem lX12_after_31 {x : Cx} {z : Sx} (X : XG x z RX12 cX12_after 11 7 159) (E : XE x z) (hr : XR x (some .int)) (hZ : z.2.2.2.1 = kdM) (N : Nat) (n : Nat) (v3 : Int32) (v4 : Int32) (σ : Mem) : VK x z 11 (BQ QI x z) 31 [(0, .ref (z.2.2.1 0)), (3, .int v3), (4, .int v4)] [] σ (fX12_after_l31 N n v3 v4 σ) := by
  induction n generalizing v3 v4 σ with
  | zero => exact V_none
  | succ n ih => exact bX12_after_31 X E hr hZ N (fX12_after_l31 N n) ih v3 v4 σ
def fX12_after (N : Nat) (v1 : Int32) (v2 : Int32) (v3 : Int32) (σ : Mem) : Option (Int32 × Mem) :=
  bd (fX12_isChamber N v1 σ) (fun r1 s2 => if r1 = 0 then some ((-2), s2) else bd (fX12_isSession N v2 s2) (fun r3 s4 => if r3 = 0 then some ((-2), s4) else bd (fX12_isIn N v3 0 2 s4) (fun r5 s6 => if r5 = 0 then some ((-2), s6) else lt_ 0 (fun v4_7 => fX12_after_l31 N N v3 v4_7 s6))))
set_option maxRecDepth 100000 in
set_option maxHeartbeats 4000000 in
theorem bX12_after_0 {x : Cx} {z : Sx} (X : XG x z RX12 cX12_after 11 7 159) (E : XE x z) (hr : XR x (some .int)) (hZ : z.2.2.2.1 = kdM) (N : Nat) (v1 : Int32) (v2 : Int32) (v3 : Int32) (σ : Mem) : VK x z 11 (BQ QI x z) 0 [(0, .ref (z.2.2.1 0)), (1, .int v1), (2, .int v2), (3, .int v3)] [] σ (fX12_after N v1 v2 v3 σ) := by
  unfold fX12_after
  refine V_aload_n 0 X dX12_after_0 rfl rfl ?_
  refine V_iload_n 1 X dX12_after_1 rfl rfl ?_
  refine V_callI [.int v1] [] X E dX12_after_2 (kX12_isChamber x.2.1 z hZ N v1 σ) co12 (kM hZ 0 _ rfl) gcX12_165 hyX12_isChamber rfl ⟨by decide, by decide⟩ rfl (Nat.le_of_ble_eq_true rfl) (fun r1 s2 => ?_)
  refine V_if_eq (tgt := 25) X dX12_after_5 (by decide) ?_ ?_
  · refine V_bipush (v := -2) X dX12_after_25 (by decide) ?_
    exact V_iret X E hr dX12_after_27
  · refine V_aload_n 0 X dX12_after_8 rfl rfl ?_
    refine V_iload_n 2 X dX12_after_9 rfl rfl ?_
    refine V_callI [.int v2] [] X E dX12_after_10 (kX12_isSession x.2.1 z hZ N v2 s2) co12 (kM hZ 0 _ rfl) gcX12_222 hyX12_isSession rfl ⟨by decide, by decide⟩ rfl (Nat.le_of_ble_eq_true rfl) (fun r3 s4 => ?_)
    refine V_if_eq (tgt := 25) X dX12_after_13 (by decide) ?_ ?_
    · refine V_bipush (v := -2) X dX12_after_25 (by decide) ?_
      exact V_iret X E hr dX12_after_27
    · refine V_iload_n 3 X dX12_after_16 rfl rfl ?_
      refine V_iconst (v := 0) X dX12_after_17 (by decide) ?_
      refine V_iconst (v := 2) X dX12_after_18 (by decide) ?_
      refine V_calSI [.int v3, .int 0, .int 2] [] X E dX12_after_19 (kX12_isIn x.2.1 z hZ N v3 0 2 s4) gcX12_106 hyX12_isIn rfl ⟨by decide, by decide⟩ rfl (Nat.le_of_ble_eq_true rfl) (fun r5 s6 => ?_)
      refine V_if_ne (tgt := 28) X dX12_after_22 (by decide) ?_ ?_
      · refine V_iconst (v := 0) X dX12_after_28 (by decide) ?_
        refine V_istoreG (L' := fun v4_7 => [(4, .int v4_7), (0, .ref (z.2.2.1 0)), (1, .int v1), (2, .int v2), (3, .int v3)]) X dX12_after_29 (by decide) (fun _ => rfl) (fun v4_7 => ?_)
        refine V_sub [1, 4, 0] rfl ?_
        exact lX12_after_31 X E hr hZ N N v3 v4_7 s6
      · refine V_bipush (v := -2) X dX12_after_25 (by decide) ?_
        exact V_iret X E hr dX12_after_27
theorem kX12_after (l : Launch) (z : Sx) (hZ : z.2.2.2.1 = kdM) (N : Nat) (v1 : Int32) (v2 : Int32) (v3 : Int32) (σ : Mem) : Ct QI yX12_after cX12_after 11 (some .int) 7 159 l z [.ref (z.2.2.1 0), .int v1, .int v2, .int v3] σ (fX12_after N v1 v2 v3 σ) := by
  refine Ct_of (by decide +kernel) (Nat.le_of_ble_eq_true rfl) rfl ?_
  intro x _ X E hr
  exact bX12_after_0 X E hr hZ N v1 v2 v3 σ
def fX12_carried_b54 (N : Nat) (rc24 : Int32 → Int32 → Int32 → Mem → Option (Int32 × Mem)) (v2 : Int32) (v3 : Int32) (v4 : Int32) (σ : Mem) : Option (Int32 × Mem) :=
  lt_ (v4 + 1) (fun v4_10 => rc24 v2 v3 v4_10 σ)
set_option maxRecDepth 100000 in
set_option maxHeartbeats 4000000 in
theorem bX12_carried_54 {x : Cx} {z : Sx} (X : XG x z RX12 cX12_carried 5 5 113) (E : XE x z) (hr : XR x (some .int)) (hZ : z.2.2.2.1 = kdM) (N : Nat) (rc24 : Int32 → Int32 → Int32 → Mem → Option (Int32 × Mem)) (hc24 : ∀ (v2 : Int32) (v3 : Int32) (v4 : Int32) (σ : Mem), VK x z 5 (BQ QI x z) 24 [(0, .ref (z.2.2.1 0)), (2, .int v2), (3, .int v3), (4, .int v4)] [] σ (rc24 v2 v3 v4 σ)) (v2 : Int32) (v3 : Int32) (v4 : Int32) (σ : Mem) : VK x z 5 (BQ QI x z) 54 [(0, .ref (z.2.2.1 0)), (2, .int v2), (3, .int v3), (4, .int v4)] [] σ (fX12_carried_b54 N rc24 v2 v3 v4 σ) := by
  unfold fX12_carried_b54
  refine V_iincG (L' := fun v4_10 => [(4, .int v4_10), (0, .ref (z.2.2.1 0)), (2, .int v2), (3, .int v3)]) 3 X dX12_carried_54 rfl rfl (by decide) (fun _ => rfl) (fun v4_10 => ?_)
  refine V_goto (tgt := 24) X dX12_carried_57 (by decide) ?_
  refine V_sub [1, 2, 3, 0] rfl ?_
  exact hc24 v2 v3 v4_10 σ
def fX12_carried_b24 (N : Nat) (rc24 : Int32 → Int32 → Int32 → Mem → Option (Int32 × Mem)) (v2 : Int32) (v3 : Int32) (v4 : Int32) (σ : Mem) : Option (Int32 × Mem) :=
  if 64 ≤ v4 then if v2 = (-1) then some (v3, σ) else some ((-1), σ) else bd (fX12_answers N v4 σ) (fun r7 s8 => if r7 = 0 then fX12_carried_b54 N rc24 v2 v3 v4 s8 else if v3 = v2 then some (v4, s8) else lt_ (v3 + 1) (fun v3_9 => fX12_carried_b54 N rc24 v2 v3_9 v4 s8))
set_option maxRecDepth 100000 in
set_option maxHeartbeats 4000000 in
theorem bX12_carried_24 {x : Cx} {z : Sx} (X : XG x z RX12 cX12_carried 5 5 113) (E : XE x z) (hr : XR x (some .int)) (hZ : z.2.2.2.1 = kdM) (N : Nat) (rc24 : Int32 → Int32 → Int32 → Mem → Option (Int32 × Mem)) (hc24 : ∀ (v2 : Int32) (v3 : Int32) (v4 : Int32) (σ : Mem), VK x z 5 (BQ QI x z) 24 [(0, .ref (z.2.2.1 0)), (2, .int v2), (3, .int v3), (4, .int v4)] [] σ (rc24 v2 v3 v4 σ)) (v2 : Int32) (v3 : Int32) (v4 : Int32) (σ : Mem) : VK x z 5 (BQ QI x z) 24 [(0, .ref (z.2.2.1 0)), (2, .int v2), (3, .int v3), (4, .int v4)] [] σ (fX12_carried_b24 N rc24 v2 v3 v4 σ) := by
  unfold fX12_carried_b24
  refine V_iload 3 X dX12_carried_24 rfl ?_
  refine V_bipush (v := 64) X dX12_carried_26 (by decide) ?_
  refine V_icmp_ge (tgt := 60) X dX12_carried_28 (by decide) ?_ ?_
  · refine V_iload_n 1 X dX12_carried_60 rfl rfl ?_
    refine V_iconst (v := -1) X dX12_carried_61 (by decide) ?_
    refine V_icmp_ne (tgt := 69) X dX12_carried_62 (by decide) ?_ ?_
    · refine V_iconst (v := -1) X dX12_carried_69 (by decide) ?_
      exact V_iret X E hr dX12_carried_70
    · refine V_iload_n 2 X dX12_carried_65 rfl rfl ?_
      refine V_goto (tgt := 70) X dX12_carried_66 (by decide) ?_
      exact V_iret X E hr dX12_carried_70
  · refine V_aload_n 0 X dX12_carried_31 rfl rfl ?_
    refine V_iload 3 X dX12_carried_32 rfl ?_
    refine V_callI [.int v4] [] X E dX12_carried_34 (kX12_answers x.2.1 z hZ N v4 σ) co12 (kM hZ 0 _ rfl) gcX12_216 hyX12_answers rfl ⟨by decide, by decide⟩ rfl (Nat.le_of_ble_eq_true rfl) (fun r7 s8 => ?_)
    refine V_if_ne (tgt := 43) X dX12_carried_37 (by decide) ?_ ?_
    · refine V_iload_n 2 X dX12_carried_43 rfl rfl ?_
      refine V_iload_n 1 X dX12_carried_44 rfl rfl ?_
      refine V_icmp_ne (tgt := 51) X dX12_carried_45 (by decide) ?_ ?_
      · refine V_iincG (L' := fun v3_9 => [(3, .int v3_9), (0, .ref (z.2.2.1 0)), (2, .int v2), (4, .int v4)]) 2 X dX12_carried_51 rfl rfl (by decide) (fun _ => rfl) (fun v3_9 => ?_)
        refine V_sub [1, 2, 0, 3] rfl ?_
        exact bX12_carried_54 X E hr hZ N rc24 hc24 v2 v3_9 v4 s8
      · refine V_iload 3 X dX12_carried_48 rfl ?_
        exact V_iret X E hr dX12_carried_50
    · refine V_goto (tgt := 54) X dX12_carried_40 (by decide) ?_
      refine V_sub [0, 1, 2, 3] rfl ?_
      exact bX12_carried_54 X E hr hZ N rc24 hc24 v2 v3 v4 s8
def fX12_carried_l24 (N : Nat) : Nat → Int32 → Int32 → Int32 → Mem → Option (Int32 × Mem)
  | 0 => fun _ _ _ _ => none
  | n + 1 => fX12_carried_b24 N (fX12_carried_l24 N n)
theorem lX12_carried_24 {x : Cx} {z : Sx} (X : XG x z RX12 cX12_carried 5 5 113) (E : XE x z) (hr : XR x (some .int)) (hZ : z.2.2.2.1 = kdM) (N : Nat) (n : Nat) (v2 : Int32) (v3 : Int32) (v4 : Int32) (σ : Mem) : VK x z 5 (BQ QI x z) 24 [(0, .ref (z.2.2.1 0)), (2, .int v2), (3, .int v3), (4, .int v4)] [] σ (fX12_carried_l24 N n v2 v3 v4 σ) := by
  induction n generalizing v2 v3 v4 σ with
  | zero => exact V_none
  | succ n ih => exact bX12_carried_24 X E hr hZ N (fX12_carried_l24 N n) ih v2 v3 v4 σ
def fX12_carried (N : Nat) (v1 : Int32) (v2 : Int32) (σ : Mem) : Option (Int32 × Mem) :=
  bd (fX12_isChamber N v1 σ) (fun r1 s2 => if r1 = 0 then some ((-1), s2) else if (-1) ≤ v2 then bd (fX12_asTold N s2) (fun r3 s4 => lt_ 0 (fun v3_5 => lt_ 0 (fun v4_6 => fX12_carried_l24 N N v2 v3_5 v4_6 s4))) else some ((-1), s2))
set_option maxRecDepth 100000 in
set_option maxHeartbeats 4000000 in
theorem bX12_carried_0 {x : Cx} {z : Sx} (X : XG x z RX12 cX12_carried 5 5 113) (E : XE x z) (hr : XR x (some .int)) (hZ : z.2.2.2.1 = kdM) (N : Nat) (v1 : Int32) (v2 : Int32) (σ : Mem) : VK x z 5 (BQ QI x z) 0 [(0, .ref (z.2.2.1 0)), (1, .int v1), (2, .int v2)] [] σ (fX12_carried N v1 v2 σ) := by
  unfold fX12_carried
  refine V_aload_n 0 X dX12_carried_0 rfl rfl ?_
  refine V_iload_n 1 X dX12_carried_1 rfl rfl ?_
  refine V_callI [.int v1] [] X E dX12_carried_2 (kX12_isChamber x.2.1 z hZ N v1 σ) co12 (kM hZ 0 _ rfl) gcX12_165 hyX12_isChamber rfl ⟨by decide, by decide⟩ rfl (Nat.le_of_ble_eq_true rfl) (fun r1 s2 => ?_)
  refine V_if_eq (tgt := 13) X dX12_carried_5 (by decide) ?_ ?_
  · refine V_iconst (v := -1) X dX12_carried_13 (by decide) ?_
    exact V_iret X E hr dX12_carried_14
  · refine V_iload_n 2 X dX12_carried_8 rfl rfl ?_
    refine V_iconst (v := -1) X dX12_carried_9 (by decide) ?_
    refine V_icmp_ge (tgt := 15) X dX12_carried_10 (by decide) ?_ ?_
    · refine V_aload_n 0 X dX12_carried_15 rfl rfl ?_
      refine V_callV [] [] X E dX12_carried_16 (kX12_asTold x.2.1 z hZ N s2) co12 (kM hZ 0 _ rfl) gcX12_213 hyX12_asTold rfl ⟨by decide, by decide⟩ rfl (Nat.le_of_ble_eq_true rfl) (fun r3 s4 => ?_)
      refine V_iconst (v := 0) X dX12_carried_19 (by decide) ?_
      refine V_istore_nG (L' := fun v3_5 => [(3, .int v3_5), (0, .ref (z.2.2.1 0)), (1, .int v1), (2, .int v2)]) X dX12_carried_20 rfl (by decide) (fun _ => rfl) (fun v3_5 => ?_)
      refine V_iconst (v := 0) X dX12_carried_21 (by decide) ?_
      refine V_istoreG (L' := fun v4_6 => [(4, .int v4_6), (3, .int v3_5), (0, .ref (z.2.2.1 0)), (1, .int v1), (2, .int v2)]) X dX12_carried_22 (by decide) (fun _ => rfl) (fun v4_6 => ?_)
      refine V_sub [2, 4, 1, 0] rfl ?_
      exact lX12_carried_24 X E hr hZ N N v2 v3_5 v4_6 s4
    · refine V_iconst (v := -1) X dX12_carried_13 (by decide) ?_
      exact V_iret X E hr dX12_carried_14
theorem kX12_carried (l : Launch) (z : Sx) (hZ : z.2.2.2.1 = kdM) (N : Nat) (v1 : Int32) (v2 : Int32) (σ : Mem) : Ct QI yX12_carried cX12_carried 5 (some .int) 5 113 l z [.ref (z.2.2.1 0), .int v1, .int v2] σ (fX12_carried N v1 v2 σ) := by
  refine Ct_of (by decide +kernel) (Nat.le_of_ble_eq_true rfl) rfl ?_
  intro x _ X E hr
  exact bX12_carried_0 X E hr hZ N v1 v2 σ
def fX12_nearest_b66 (N : Nat) (rc26 : Int32 → Int32 → Int32 → Mem → Option (Int32 × Mem)) (v2 : Int32) (v3 : Int32) (v4 : Int32) (σ : Mem) : Option (Int32 × Mem) :=
  lt_ (v4 + 1) (fun v4_15 => rc26 v2 v3 v4_15 σ)
set_option maxRecDepth 100000 in
set_option maxHeartbeats 4000000 in
theorem bX12_nearest_66 {x : Cx} {z : Sx} (X : XG x z RX12 cX12_nearest 5 5 113) (E : XE x z) (hr : XR x (some .int)) (hZ : z.2.2.2.1 = kdM) (N : Nat) (rc26 : Int32 → Int32 → Int32 → Mem → Option (Int32 × Mem)) (hc26 : ∀ (v2 : Int32) (v3 : Int32) (v4 : Int32) (σ : Mem), VK x z 5 (BQ QI x z) 26 [(0, .ref (z.2.2.1 0)), (2, .int v2), (3, .int v3), (4, .int v4)] [] σ (rc26 v2 v3 v4 σ)) (v2 : Int32) (v3 : Int32) (v4 : Int32) (σ : Mem) : VK x z 5 (BQ QI x z) 66 [(0, .ref (z.2.2.1 0)), (2, .int v2), (3, .int v3), (4, .int v4)] [] σ (fX12_nearest_b66 N rc26 v2 v3 v4 σ) := by
  unfold fX12_nearest_b66
  refine V_iincG (L' := fun v4_15 => [(4, .int v4_15), (0, .ref (z.2.2.1 0)), (2, .int v2), (3, .int v3)]) 3 X dX12_nearest_66 rfl rfl (by decide) (fun _ => rfl) (fun v4_15 => ?_)
  refine V_goto (tgt := 26) X dX12_nearest_69 (by decide) ?_
  refine V_sub [1, 2, 3, 0] rfl ?_
  exact hc26 v2 v3 v4_15 σ
def fX12_nearest_b63 (N : Nat) (rc26 : Int32 → Int32 → Int32 → Mem → Option (Int32 × Mem)) (v2 : Int32) (v4 : Int32) (σ : Mem) : Option (Int32 × Mem) :=
  lt_ v4 (fun v3_16 => fX12_nearest_b66 N rc26 v2 v3_16 v4 σ)
set_option maxRecDepth 100000 in
set_option maxHeartbeats 4000000 in
theorem bX12_nearest_63 {x : Cx} {z : Sx} (X : XG x z RX12 cX12_nearest 5 5 113) (E : XE x z) (hr : XR x (some .int)) (hZ : z.2.2.2.1 = kdM) (N : Nat) (rc26 : Int32 → Int32 → Int32 → Mem → Option (Int32 × Mem)) (hc26 : ∀ (v2 : Int32) (v3 : Int32) (v4 : Int32) (σ : Mem), VK x z 5 (BQ QI x z) 26 [(0, .ref (z.2.2.1 0)), (2, .int v2), (3, .int v3), (4, .int v4)] [] σ (rc26 v2 v3 v4 σ)) (v2 : Int32) (v4 : Int32) (σ : Mem) : VK x z 5 (BQ QI x z) 63 [(0, .ref (z.2.2.1 0)), (2, .int v2), (4, .int v4)] [] σ (fX12_nearest_b63 N rc26 v2 v4 σ) := by
  unfold fX12_nearest_b63
  refine V_iload 2 X dX12_nearest_63 rfl ?_
  refine V_istore_nG (L' := fun v3_16 => [(3, .int v3_16), (0, .ref (z.2.2.1 0)), (2, .int v2), (4, .int v4)]) X dX12_nearest_65 rfl (by decide) (fun _ => rfl) (fun v3_16 => ?_)
  refine V_sub [1, 2, 0, 3] rfl ?_
  exact bX12_nearest_66 X E hr hZ N rc26 hc26 v2 v3_16 v4 σ
def fX12_nearest_b26 (N : Nat) (rc26 : Int32 → Int32 → Int32 → Mem → Option (Int32 × Mem)) (v2 : Int32) (v3 : Int32) (v4 : Int32) (σ : Mem) : Option (Int32 × Mem) :=
  if 64 ≤ v4 then some (v3, σ) else bd (fX12_answers N v4 σ) (fun r9 s10 => if r9 = 0 then fX12_nearest_b66 N rc26 v2 v3 v4 s10 else if v3 = (-1) then fX12_nearest_b63 N rc26 v2 v4 s10 else bd (fX12_bitsOf N (v4 ^^^ v2) s10) (fun r11 s12 => bd (fX12_bitsOf N (v3 ^^^ v2) s12) (fun r13 s14 => if r13 ≤ r11 then fX12_nearest_b66 N rc26 v2 v3 v4 s14 else fX12_nearest_b63 N rc26 v2 v4 s14)))
set_option maxRecDepth 100000 in
set_option maxHeartbeats 4000000 in
theorem bX12_nearest_26 {x : Cx} {z : Sx} (X : XG x z RX12 cX12_nearest 5 5 113) (E : XE x z) (hr : XR x (some .int)) (hZ : z.2.2.2.1 = kdM) (N : Nat) (rc26 : Int32 → Int32 → Int32 → Mem → Option (Int32 × Mem)) (hc26 : ∀ (v2 : Int32) (v3 : Int32) (v4 : Int32) (σ : Mem), VK x z 5 (BQ QI x z) 26 [(0, .ref (z.2.2.1 0)), (2, .int v2), (3, .int v3), (4, .int v4)] [] σ (rc26 v2 v3 v4 σ)) (v2 : Int32) (v3 : Int32) (v4 : Int32) (σ : Mem) : VK x z 5 (BQ QI x z) 26 [(0, .ref (z.2.2.1 0)), (2, .int v2), (3, .int v3), (4, .int v4)] [] σ (fX12_nearest_b26 N rc26 v2 v3 v4 σ) := by
  unfold fX12_nearest_b26
  refine V_iload 3 X dX12_nearest_26 rfl ?_
  refine V_bipush (v := 64) X dX12_nearest_28 (by decide) ?_
  refine V_icmp_ge (tgt := 72) X dX12_nearest_30 (by decide) ?_ ?_
  · refine V_iload_n 2 X dX12_nearest_72 rfl rfl ?_
    exact V_iret X E hr dX12_nearest_73
  · refine V_aload_n 0 X dX12_nearest_33 rfl rfl ?_
    refine V_iload 3 X dX12_nearest_34 rfl ?_
    refine V_callI [.int v4] [] X E dX12_nearest_36 (kX12_answers x.2.1 z hZ N v4 σ) co12 (kM hZ 0 _ rfl) gcX12_216 hyX12_answers rfl ⟨by decide, by decide⟩ rfl (Nat.le_of_ble_eq_true rfl) (fun r9 s10 => ?_)
    refine V_if_eq (tgt := 66) X dX12_nearest_39 (by decide) ?_ ?_
    · refine V_sub [0, 1, 2, 3] rfl ?_
      exact bX12_nearest_66 X E hr hZ N rc26 hc26 v2 v3 v4 s10
    · refine V_iload_n 2 X dX12_nearest_42 rfl rfl ?_
      refine V_iconst (v := -1) X dX12_nearest_43 (by decide) ?_
      refine V_icmp_eq (tgt := 63) X dX12_nearest_44 (by decide) ?_ ?_
      · refine V_sub [0, 1, 3] rfl ?_
        exact bX12_nearest_63 X E hr hZ N rc26 hc26 v2 v4 s10
      · refine V_iload 3 X dX12_nearest_47 rfl ?_
        refine V_iload_n 1 X dX12_nearest_49 rfl rfl ?_
        refine V_ixor X dX12_nearest_50 ?_
        refine V_calSI [.int (v4 ^^^ v2)] [] X E dX12_nearest_51 (kX12_bitsOf x.2.1 z hZ N (v4 ^^^ v2) s10) gcX12_195 hyX12_bitsOf rfl ⟨by decide, by decide⟩ rfl (Nat.le_of_ble_eq_true rfl) (fun r11 s12 => ?_)
        refine V_iload_n 2 X dX12_nearest_54 rfl rfl ?_
        refine V_iload_n 1 X dX12_nearest_55 rfl rfl ?_
        refine V_ixor X dX12_nearest_56 ?_
        refine V_calSI [.int (v3 ^^^ v2)] [.int r11] X E dX12_nearest_57 (kX12_bitsOf x.2.1 z hZ N (v3 ^^^ v2) s12) gcX12_195 hyX12_bitsOf rfl ⟨by decide, by decide⟩ rfl (Nat.le_of_ble_eq_true rfl) (fun r13 s14 => ?_)
        refine V_icmp_ge (tgt := 66) X dX12_nearest_60 (by decide) ?_ ?_
        · refine V_sub [0, 1, 2, 3] rfl ?_
          exact bX12_nearest_66 X E hr hZ N rc26 hc26 v2 v3 v4 s14
        · refine V_sub [0, 1, 3] rfl ?_
          exact bX12_nearest_63 X E hr hZ N rc26 hc26 v2 v4 s14
def fX12_nearest_l26 (N : Nat) : Nat → Int32 → Int32 → Int32 → Mem → Option (Int32 × Mem)
  | 0 => fun _ _ _ _ => none
  | n + 1 => fX12_nearest_b26 N (fX12_nearest_l26 N n)
theorem lX12_nearest_26 {x : Cx} {z : Sx} (X : XG x z RX12 cX12_nearest 5 5 113) (E : XE x z) (hr : XR x (some .int)) (hZ : z.2.2.2.1 = kdM) (N : Nat) (n : Nat) (v2 : Int32) (v3 : Int32) (v4 : Int32) (σ : Mem) : VK x z 5 (BQ QI x z) 26 [(0, .ref (z.2.2.1 0)), (2, .int v2), (3, .int v3), (4, .int v4)] [] σ (fX12_nearest_l26 N n v2 v3 v4 σ) := by
  induction n generalizing v2 v3 v4 σ with
  | zero => exact V_none
  | succ n ih => exact bX12_nearest_26 X E hr hZ N (fX12_nearest_l26 N n) ih v2 v3 v4 σ
def fX12_nearest (N : Nat) (v1 : Int32) (v2 : Int32) (σ : Mem) : Option (Int32 × Mem) :=
  bd (fX12_isChamber N v1 σ) (fun r1 s2 => if r1 = 0 then some ((-1), s2) else bd (fX12_isMotion N v2 s2) (fun r3 s4 => if r3 = 0 then some ((-1), s4) else bd (fX12_asTold N s4) (fun r5 s6 => lt_ (-1) (fun v3_7 => lt_ 0 (fun v4_8 => fX12_nearest_l26 N N v2 v3_7 v4_8 s6)))))
set_option maxRecDepth 100000 in
set_option maxHeartbeats 4000000 in
theorem bX12_nearest_0 {x : Cx} {z : Sx} (X : XG x z RX12 cX12_nearest 5 5 113) (E : XE x z) (hr : XR x (some .int)) (hZ : z.2.2.2.1 = kdM) (N : Nat) (v1 : Int32) (v2 : Int32) (σ : Mem) : VK x z 5 (BQ QI x z) 0 [(0, .ref (z.2.2.1 0)), (1, .int v1), (2, .int v2)] [] σ (fX12_nearest N v1 v2 σ) := by
  unfold fX12_nearest
  refine V_aload_n 0 X dX12_nearest_0 rfl rfl ?_
  refine V_iload_n 1 X dX12_nearest_1 rfl rfl ?_
  refine V_callI [.int v1] [] X E dX12_nearest_2 (kX12_isChamber x.2.1 z hZ N v1 σ) co12 (kM hZ 0 _ rfl) gcX12_165 hyX12_isChamber rfl ⟨by decide, by decide⟩ rfl (Nat.le_of_ble_eq_true rfl) (fun r1 s2 => ?_)
  refine V_if_eq (tgt := 15) X dX12_nearest_5 (by decide) ?_ ?_
  · refine V_iconst (v := -1) X dX12_nearest_15 (by decide) ?_
    exact V_iret X E hr dX12_nearest_16
  · refine V_iload_n 2 X dX12_nearest_8 rfl rfl ?_
    refine V_calSI [.int v2] [] X E dX12_nearest_9 (kX12_isMotion x.2.1 z hZ N v2 s2) gcX12_210 hyX12_isMotion rfl ⟨by decide, by decide⟩ rfl (Nat.le_of_ble_eq_true rfl) (fun r3 s4 => ?_)
    refine V_if_ne (tgt := 17) X dX12_nearest_12 (by decide) ?_ ?_
    · refine V_aload_n 0 X dX12_nearest_17 rfl rfl ?_
      refine V_callV [] [] X E dX12_nearest_18 (kX12_asTold x.2.1 z hZ N s4) co12 (kM hZ 0 _ rfl) gcX12_213 hyX12_asTold rfl ⟨by decide, by decide⟩ rfl (Nat.le_of_ble_eq_true rfl) (fun r5 s6 => ?_)
      refine V_iconst (v := -1) X dX12_nearest_21 (by decide) ?_
      refine V_istore_nG (L' := fun v3_7 => [(3, .int v3_7), (0, .ref (z.2.2.1 0)), (1, .int v1), (2, .int v2)]) X dX12_nearest_22 rfl (by decide) (fun _ => rfl) (fun v3_7 => ?_)
      refine V_iconst (v := 0) X dX12_nearest_23 (by decide) ?_
      refine V_istoreG (L' := fun v4_8 => [(4, .int v4_8), (3, .int v3_7), (0, .ref (z.2.2.1 0)), (1, .int v1), (2, .int v2)]) X dX12_nearest_24 (by decide) (fun _ => rfl) (fun v4_8 => ?_)
      refine V_sub [2, 4, 1, 0] rfl ?_
      exact lX12_nearest_26 X E hr hZ N N v2 v3_7 v4_8 s6
    · refine V_iconst (v := -1) X dX12_nearest_15 (by decide) ?_
      exact V_iret X E hr dX12_nearest_16
theorem kX12_nearest (l : Launch) (z : Sx) (hZ : z.2.2.2.1 = kdM) (N : Nat) (v1 : Int32) (v2 : Int32) (σ : Mem) : Ct QI yX12_nearest cX12_nearest 5 (some .int) 5 113 l z [.ref (z.2.2.1 0), .int v1, .int v2] σ (fX12_nearest N v1 v2 σ) := by
  refine Ct_of (by decide +kernel) (Nat.le_of_ble_eq_true rfl) rfl ?_
  intro x _ X E hr
  exact bX12_nearest_0 X E hr hZ N v1 v2 σ
def fX12_isSeat_b24 (N : Nat) (σ : Mem) : Option (Int32 × Mem) :=
  some (1, σ)
set_option maxRecDepth 100000 in
set_option maxHeartbeats 4000000 in
theorem bX12_isSeat_24 {x : Cx} {z : Sx} (X : XG x z RX12 cX12_isSeat 3 2 43) (E : XE x z) (hr : XR x (some .boolean)) (hZ : z.2.2.2.1 = kdM) (N : Nat) (σ : Mem) : VK x z 3 (BQ QI x z) 24 [(0, .ref (z.2.2.1 0))] [] σ (fX12_isSeat_b24 N σ) := by
  unfold fX12_isSeat_b24
  refine V_iconst (v := 1) X dX12_isSeat_24 (by decide) ?_
  refine V_goto (tgt := 29) X dX12_isSeat_25 (by decide) ?_
  exact V_zret X E hr dX12_isSeat_29 (by decide)
def fX12_isSeat (N : Nat) (v1 : Int32) (v2 : Int32) (σ : Mem) : Option (Int32 × Mem) :=
  bd (fX12_ofPerson N v1 1 σ) (fun r1 s2 => if v2 = r1 then some (0, s2) else if v2 = 8 then fX12_isSeat_b24 N s2 else bd (fX12_isPiece N v2 s2) (fun r3 s4 => if r3 = 0 then some (0, s4) else fX12_isSeat_b24 N s4))
set_option maxRecDepth 100000 in
set_option maxHeartbeats 4000000 in
theorem bX12_isSeat_0 {x : Cx} {z : Sx} (X : XG x z RX12 cX12_isSeat 3 2 43) (E : XE x z) (hr : XR x (some .boolean)) (hZ : z.2.2.2.1 = kdM) (N : Nat) (v1 : Int32) (v2 : Int32) (σ : Mem) : VK x z 3 (BQ QI x z) 0 [(0, .ref (z.2.2.1 0)), (1, .int v1), (2, .int v2)] [] σ (fX12_isSeat N v1 v2 σ) := by
  unfold fX12_isSeat
  refine V_iload_n 2 X dX12_isSeat_0 rfl rfl ?_
  refine V_aload_n 0 X dX12_isSeat_1 rfl rfl ?_
  refine V_iload_n 1 X dX12_isSeat_2 rfl rfl ?_
  refine V_iconst (v := 1) X dX12_isSeat_3 (by decide) ?_
  refine V_callI [.int v1, .int 1] [.int v2] X E dX12_isSeat_4 (kX12_ofPerson x.2.1 z hZ N v1 1 σ) co12 (kM hZ 0 _ rfl) gcX12_177 hyX12_ofPerson rfl ⟨by decide, by decide⟩ rfl (Nat.le_of_ble_eq_true rfl) (fun r1 s2 => ?_)
  refine V_icmp_eq (tgt := 28) X dX12_isSeat_7 (by decide) ?_ ?_
  · refine V_iconst (v := 0) X dX12_isSeat_28 (by decide) ?_
    exact V_zret X E hr dX12_isSeat_29 (by decide)
  · refine V_iload_n 2 X dX12_isSeat_10 rfl rfl ?_
    refine V_bipush (v := 8) X dX12_isSeat_11 (by decide) ?_
    refine V_icmp_eq (tgt := 24) X dX12_isSeat_13 (by decide) ?_ ?_
    · refine V_sub [0] rfl ?_
      exact bX12_isSeat_24 X E hr hZ N s2
    · refine V_aload_n 0 X dX12_isSeat_16 rfl rfl ?_
      refine V_iload_n 2 X dX12_isSeat_17 rfl rfl ?_
      refine V_callI [.int v2] [] X E dX12_isSeat_18 (kX12_isPiece x.2.1 z hZ N v2 s2) co12 (kM hZ 0 _ rfl) gcX12_168 hyX12_isPiece rfl ⟨by decide, by decide⟩ rfl (Nat.le_of_ble_eq_true rfl) (fun r3 s4 => ?_)
      refine V_if_eq (tgt := 28) X dX12_isSeat_21 (by decide) ?_ ?_
      · refine V_iconst (v := 0) X dX12_isSeat_28 (by decide) ?_
        exact V_zret X E hr dX12_isSeat_29 (by decide)
      · refine V_sub [0] rfl ?_
        exact bX12_isSeat_24 X E hr hZ N s4
theorem kX12_isSeat (l : Launch) (z : Sx) (hZ : z.2.2.2.1 = kdM) (N : Nat) (v1 : Int32) (v2 : Int32) (σ : Mem) : Ct QI yX12_isSeat cX12_isSeat 3 (some .boolean) 2 43 l z [.ref (z.2.2.1 0), .int v1, .int v2] σ (fX12_isSeat N v1 v2 σ) := by
  refine Ct_of (by decide +kernel) (Nat.le_of_ble_eq_true rfl) rfl ?_
  intro x _ X E hr
  exact bX12_isSeat_0 X E hr hZ N v1 v2 σ
def fX12_isAhead_b2 (N : Nat) (rc2 : Int32 → Mem → Option (Int32 × Mem)) (v1 : Int32) (σ : Mem) : Option (Int32 × Mem) :=
  if (σ.1 0 13) ≤ v1 then some (0, σ) else gd (inb v1 6) (gd (inb v1 6) (if (σ.1 6 v1.toNatClampNeg) = (σ.1 9 v1.toNatClampNeg) then lt_ (v1 + 1) (fun v1_2 => rc2 v1_2 σ) else gd (inb v1 6) (gd (inb v1 6) (if (σ.1 9 v1.toNatClampNeg) ≤ (σ.1 6 v1.toNatClampNeg) then some (0, σ) else some (1, σ)))))
set_option maxRecDepth 100000 in
set_option maxHeartbeats 4000000 in
theorem bX12_isAhead_2 {x : Cx} {z : Sx} (X : XG x z RX12 cX12_isAhead 2 0 0) (E : XE x z) (hr : XR x (some .boolean)) (hZ : z.2.2.2.1 = kdM) (N : Nat) (rc2 : Int32 → Mem → Option (Int32 × Mem)) (hc2 : ∀ (v1 : Int32) (σ : Mem), VK x z 2 (BQ QI x z) 2 [(0, .ref (z.2.2.1 0)), (1, .int v1)] [] σ (rc2 v1 σ)) (v1 : Int32) (σ : Mem) : VK x z 2 (BQ QI x z) 2 [(0, .ref (z.2.2.1 0)), (1, .int v1)] [] σ (fX12_isAhead_b2 N rc2 v1 σ) := by
  unfold fX12_isAhead_b2
  refine V_iload_n 1 X dX12_isAhead_2 rfl rfl ?_
  refine V_aload_n 0 X dX12_isAhead_3 rfl rfl ?_
  refine V_getI 13 X dX12_isAhead_4 co12 (kM hZ 0 _ rfl) (by decide) rfl wfX12_162 ?_
  refine V_icmp_ge (tgt := 52) X dX12_isAhead_7 (by decide) ?_ ?_
  · refine V_iconst (v := 0) X dX12_isAhead_52 (by decide) ?_
    exact V_zret X E hr dX12_isAhead_53 (by decide)
  · refine V_aload_n 0 X dX12_isAhead_10 rfl rfl ?_
    refine V_getR (k1 := 6) 19 X dX12_isAhead_11 co12 (kM hZ 0 _ rfl) (by decide) rfl rfl wfX12_26 ?_
    refine V_iload_n 1 X dX12_isAhead_14 rfl rfl ?_
    refine V_iald X dX12_isAhead_15 (kM hZ 6 _ rfl) ?_
    refine V_aload_n 0 X dX12_isAhead_16 rfl rfl ?_
    refine V_getR (k1 := 9) 28 X dX12_isAhead_17 co12 (kM hZ 0 _ rfl) (by decide) rfl rfl wfX12_35 ?_
    refine V_iload_n 1 X dX12_isAhead_20 rfl rfl ?_
    refine V_iald X dX12_isAhead_21 (kM hZ 9 _ rfl) ?_
    refine V_icmp_eq (tgt := 46) X dX12_isAhead_22 (by decide) ?_ ?_
    · refine V_iincG (L' := fun v1_2 => [(1, .int v1_2), (0, .ref (z.2.2.1 0))]) 1 X dX12_isAhead_46 rfl rfl (by decide) (fun _ => rfl) (fun v1_2 => ?_)
      refine V_goto (tgt := 2) X dX12_isAhead_49 (by decide) ?_
      refine V_sub [1, 0] rfl ?_
      exact hc2 v1_2 σ
    · refine V_aload_n 0 X dX12_isAhead_25 rfl rfl ?_
      refine V_getR (k1 := 6) 19 X dX12_isAhead_26 co12 (kM hZ 0 _ rfl) (by decide) rfl rfl wfX12_26 ?_
      refine V_iload_n 1 X dX12_isAhead_29 rfl rfl ?_
      refine V_iald X dX12_isAhead_30 (kM hZ 6 _ rfl) ?_
      refine V_aload_n 0 X dX12_isAhead_31 rfl rfl ?_
      refine V_getR (k1 := 9) 28 X dX12_isAhead_32 co12 (kM hZ 0 _ rfl) (by decide) rfl rfl wfX12_35 ?_
      refine V_iload_n 1 X dX12_isAhead_35 rfl rfl ?_
      refine V_iald X dX12_isAhead_36 (kM hZ 9 _ rfl) ?_
      refine V_icmp_ge (tgt := 44) X dX12_isAhead_37 (by decide) ?_ ?_
      · refine V_iconst (v := 0) X dX12_isAhead_44 (by decide) ?_
        exact V_zret X E hr dX12_isAhead_45 (by decide)
      · refine V_iconst (v := 1) X dX12_isAhead_40 (by decide) ?_
        refine V_goto (tgt := 45) X dX12_isAhead_41 (by decide) ?_
        exact V_zret X E hr dX12_isAhead_45 (by decide)
def fX12_isAhead_l2 (N : Nat) : Nat → Int32 → Mem → Option (Int32 × Mem)
  | 0 => fun _ _ => none
  | n + 1 => fX12_isAhead_b2 N (fX12_isAhead_l2 N n)
theorem lX12_isAhead_2 {x : Cx} {z : Sx} (X : XG x z RX12 cX12_isAhead 2 0 0) (E : XE x z) (hr : XR x (some .boolean)) (hZ : z.2.2.2.1 = kdM) (N : Nat) (n : Nat) (v1 : Int32) (σ : Mem) : VK x z 2 (BQ QI x z) 2 [(0, .ref (z.2.2.1 0)), (1, .int v1)] [] σ (fX12_isAhead_l2 N n v1 σ) := by
  induction n generalizing v1 σ with
  | zero => exact V_none
  | succ n ih => exact bX12_isAhead_2 X E hr hZ N (fX12_isAhead_l2 N n) ih v1 σ
def fX12_isAhead (N : Nat) (σ : Mem) : Option (Int32 × Mem) :=
  lt_ 0 (fun v1_1 => fX12_isAhead_l2 N N v1_1 σ)
set_option maxRecDepth 100000 in
set_option maxHeartbeats 4000000 in
theorem bX12_isAhead_0 {x : Cx} {z : Sx} (X : XG x z RX12 cX12_isAhead 2 0 0) (E : XE x z) (hr : XR x (some .boolean)) (hZ : z.2.2.2.1 = kdM) (N : Nat) (σ : Mem) : VK x z 2 (BQ QI x z) 0 [(0, .ref (z.2.2.1 0))] [] σ (fX12_isAhead N σ) := by
  unfold fX12_isAhead
  refine V_iconst (v := 0) X dX12_isAhead_0 (by decide) ?_
  refine V_istore_nG (L' := fun v1_1 => [(1, .int v1_1), (0, .ref (z.2.2.1 0))]) X dX12_isAhead_1 rfl (by decide) (fun _ => rfl) (fun v1_1 => ?_)
  refine V_sub [1, 0] rfl ?_
  exact lX12_isAhead_2 X E hr hZ N N v1_1 σ
theorem kX12_isAhead (l : Launch) (z : Sx) (hZ : z.2.2.2.1 = kdM) (N : Nat) (σ : Mem) : Ct QI yX12_isAhead cX12_isAhead 2 (some .boolean) 0 0 l z [.ref (z.2.2.1 0)] σ (fX12_isAhead N σ) := by
  refine Ct_of (by decide +kernel) (Nat.le_of_ble_eq_true rfl) rfl ?_
  intro x _ X E hr
  exact bX12_isAhead_0 X E hr hZ N σ
def fX12_areMoved_b203 (N : Nat) (rc5 : Int32 → Int32 → Int32 → Int32 → Mem → Option (Int32 × Mem)) (rc17 : Int32 → Int32 → Int32 → Int32 → Int32 → Mem → Option (Int32 × Mem)) (v1 : Int32) (v2 : Int32) (v3 : Int32) (v4 : Int32) (v5 : Int32) (σ : Mem) : Option (Int32 × Mem) :=
  lt_ (v5 + 1) (fun v5_8 => rc17 v1 v2 v3 v4 v5_8 σ)
set_option maxRecDepth 100000 in
set_option maxHeartbeats 4000000 in
theorem bX12_areMoved_203 {x : Cx} {z : Sx} (X : XG x z RX12 cX12_areMoved 9 5 113) (E : XE x z) (hr : XR x (some .boolean)) (hZ : z.2.2.2.1 = kdM) (N : Nat) (rc5 : Int32 → Int32 → Int32 → Int32 → Mem → Option (Int32 × Mem)) (hc5 : ∀ (v1 : Int32) (v2 : Int32) (v3 : Int32) (v4 : Int32) (σ : Mem), VK x z 9 (BQ QI x z) 5 [(0, .ref (z.2.2.1 0)), (1, .int v1), (2, .int v2), (3, .int v3), (4, .int v4)] [] σ (rc5 v1 v2 v3 v4 σ)) (rc17 : Int32 → Int32 → Int32 → Int32 → Int32 → Mem → Option (Int32 × Mem)) (hc17 : ∀ (v1 : Int32) (v2 : Int32) (v3 : Int32) (v4 : Int32) (v5 : Int32) (σ : Mem), VK x z 9 (BQ QI x z) 17 [(0, .ref (z.2.2.1 0)), (1, .int v1), (2, .int v2), (3, .int v3), (4, .int v4), (5, .int v5)] [] σ (rc17 v1 v2 v3 v4 v5 σ)) (v1 : Int32) (v2 : Int32) (v3 : Int32) (v4 : Int32) (v5 : Int32) (σ : Mem) : VK x z 9 (BQ QI x z) 203 [(0, .ref (z.2.2.1 0)), (1, .int v1), (2, .int v2), (3, .int v3), (4, .int v4), (5, .int v5)] [] σ (fX12_areMoved_b203 N rc5 rc17 v1 v2 v3 v4 v5 σ) := by
  unfold fX12_areMoved_b203
  refine V_iincG (L' := fun v5_8 => [(5, .int v5_8), (0, .ref (z.2.2.1 0)), (1, .int v1), (2, .int v2), (3, .int v3), (4, .int v4)]) 5 X dX12_areMoved_203 rfl rfl (by decide) (fun _ => rfl) (fun v5_8 => ?_)
  refine V_goto (tgt := 17) X dX12_areMoved_206 (by decide) ?_
  refine V_sub [1, 2, 3, 4, 5, 0] rfl ?_
  exact hc17 v1 v2 v3 v4 v5_8 σ
def fX12_areMoved_b191 (N : Nat) (rc5 : Int32 → Int32 → Int32 → Int32 → Mem → Option (Int32 × Mem)) (rc17 : Int32 → Int32 → Int32 → Int32 → Int32 → Mem → Option (Int32 × Mem)) (rc53 : Int32 → Int32 → Int32 → Int32 → Int32 → Int32 → Mem → Option (Int32 × Mem)) (rc76 : Int32 → Int32 → Int32 → Int32 → Int32 → Int32 → Int32 → Mem → Option (Int32 × Mem)) (v1 : Int32) (v2 : Int32) (v3 : Int32) (v4 : Int32) (v5 : Int32) (v6 : Int32) (v7 : Int32) (σ : Mem) : Option (Int32 × Mem) :=
  lt_ (v7 + 1) (fun v7_16 => rc76 v1 v2 v3 v4 v5 v6 v7_16 σ)
set_option maxRecDepth 100000 in
set_option maxHeartbeats 4000000 in
theorem bX12_areMoved_191 {x : Cx} {z : Sx} (X : XG x z RX12 cX12_areMoved 9 5 113) (E : XE x z) (hr : XR x (some .boolean)) (hZ : z.2.2.2.1 = kdM) (N : Nat) (rc5 : Int32 → Int32 → Int32 → Int32 → Mem → Option (Int32 × Mem)) (hc5 : ∀ (v1 : Int32) (v2 : Int32) (v3 : Int32) (v4 : Int32) (σ : Mem), VK x z 9 (BQ QI x z) 5 [(0, .ref (z.2.2.1 0)), (1, .int v1), (2, .int v2), (3, .int v3), (4, .int v4)] [] σ (rc5 v1 v2 v3 v4 σ)) (rc17 : Int32 → Int32 → Int32 → Int32 → Int32 → Mem → Option (Int32 × Mem)) (hc17 : ∀ (v1 : Int32) (v2 : Int32) (v3 : Int32) (v4 : Int32) (v5 : Int32) (σ : Mem), VK x z 9 (BQ QI x z) 17 [(0, .ref (z.2.2.1 0)), (1, .int v1), (2, .int v2), (3, .int v3), (4, .int v4), (5, .int v5)] [] σ (rc17 v1 v2 v3 v4 v5 σ)) (rc53 : Int32 → Int32 → Int32 → Int32 → Int32 → Int32 → Mem → Option (Int32 × Mem)) (hc53 : ∀ (v1 : Int32) (v2 : Int32) (v3 : Int32) (v4 : Int32) (v5 : Int32) (v6 : Int32) (σ : Mem), VK x z 9 (BQ QI x z) 53 [(0, .ref (z.2.2.1 0)), (1, .int v1), (2, .int v2), (3, .int v3), (4, .int v4), (5, .int v5), (6, .int v6)] [] σ (rc53 v1 v2 v3 v4 v5 v6 σ)) (rc76 : Int32 → Int32 → Int32 → Int32 → Int32 → Int32 → Int32 → Mem → Option (Int32 × Mem)) (hc76 : ∀ (v1 : Int32) (v2 : Int32) (v3 : Int32) (v4 : Int32) (v5 : Int32) (v6 : Int32) (v7 : Int32) (σ : Mem), VK x z 9 (BQ QI x z) 76 [(0, .ref (z.2.2.1 0)), (1, .int v1), (2, .int v2), (3, .int v3), (4, .int v4), (5, .int v5), (6, .int v6), (7, .int v7)] [] σ (rc76 v1 v2 v3 v4 v5 v6 v7 σ)) (v1 : Int32) (v2 : Int32) (v3 : Int32) (v4 : Int32) (v5 : Int32) (v6 : Int32) (v7 : Int32) (σ : Mem) : VK x z 9 (BQ QI x z) 191 [(0, .ref (z.2.2.1 0)), (1, .int v1), (2, .int v2), (3, .int v3), (4, .int v4), (5, .int v5), (6, .int v6), (7, .int v7)] [] σ (fX12_areMoved_b191 N rc5 rc17 rc53 rc76 v1 v2 v3 v4 v5 v6 v7 σ) := by
  unfold fX12_areMoved_b191
  refine V_iincG (L' := fun v7_16 => [(7, .int v7_16), (0, .ref (z.2.2.1 0)), (1, .int v1), (2, .int v2), (3, .int v3), (4, .int v4), (5, .int v5), (6, .int v6)]) 7 X dX12_areMoved_191 rfl rfl (by decide) (fun _ => rfl) (fun v7_16 => ?_)
  refine V_goto (tgt := 76) X dX12_areMoved_194 (by decide) ?_
  refine V_sub [1, 2, 3, 4, 5, 6, 7, 0] rfl ?_
  exact hc76 v1 v2 v3 v4 v5 v6 v7_16 σ
def fX12_areMoved_b162 (N : Nat) (rc5 : Int32 → Int32 → Int32 → Int32 → Mem → Option (Int32 × Mem)) (rc17 : Int32 → Int32 → Int32 → Int32 → Int32 → Mem → Option (Int32 × Mem)) (rc53 : Int32 → Int32 → Int32 → Int32 → Int32 → Int32 → Mem → Option (Int32 × Mem)) (rc76 : Int32 → Int32 → Int32 → Int32 → Int32 → Int32 → Int32 → Mem → Option (Int32 × Mem)) (rc162 : Int32 → Int32 → Int32 → Int32 → Int32 → Int32 → Int32 → Int32 → Mem → Option (Int32 × Mem)) (v1 : Int32) (v2 : Int32) (v3 : Int32) (v4 : Int32) (v5 : Int32) (v6 : Int32) (v7 : Int32) (v8 : Int32) (σ : Mem) : Option (Int32 × Mem) :=
  if (σ.1 0 13) ≤ v8 then fX12_areMoved_b191 N rc5 rc17 rc53 rc76 v1 v2 v3 v4 v5 v6 v7 σ else gd (inb v8 6) (gd (inb v8 6) (lt_ (pI σ 9 v8.toNatClampNeg (σ.1 6 v8.toNatClampNeg)) (fun s24 => lt_ (v8 + 1) (fun v8_25 => rc162 v1 v2 v3 v4 v5 v6 v7 v8_25 s24))))
set_option maxRecDepth 100000 in
set_option maxHeartbeats 4000000 in
theorem bX12_areMoved_162 {x : Cx} {z : Sx} (X : XG x z RX12 cX12_areMoved 9 5 113) (E : XE x z) (hr : XR x (some .boolean)) (hZ : z.2.2.2.1 = kdM) (N : Nat) (rc5 : Int32 → Int32 → Int32 → Int32 → Mem → Option (Int32 × Mem)) (hc5 : ∀ (v1 : Int32) (v2 : Int32) (v3 : Int32) (v4 : Int32) (σ : Mem), VK x z 9 (BQ QI x z) 5 [(0, .ref (z.2.2.1 0)), (1, .int v1), (2, .int v2), (3, .int v3), (4, .int v4)] [] σ (rc5 v1 v2 v3 v4 σ)) (rc17 : Int32 → Int32 → Int32 → Int32 → Int32 → Mem → Option (Int32 × Mem)) (hc17 : ∀ (v1 : Int32) (v2 : Int32) (v3 : Int32) (v4 : Int32) (v5 : Int32) (σ : Mem), VK x z 9 (BQ QI x z) 17 [(0, .ref (z.2.2.1 0)), (1, .int v1), (2, .int v2), (3, .int v3), (4, .int v4), (5, .int v5)] [] σ (rc17 v1 v2 v3 v4 v5 σ)) (rc53 : Int32 → Int32 → Int32 → Int32 → Int32 → Int32 → Mem → Option (Int32 × Mem)) (hc53 : ∀ (v1 : Int32) (v2 : Int32) (v3 : Int32) (v4 : Int32) (v5 : Int32) (v6 : Int32) (σ : Mem), VK x z 9 (BQ QI x z) 53 [(0, .ref (z.2.2.1 0)), (1, .int v1), (2, .int v2), (3, .int v3), (4, .int v4), (5, .int v5), (6, .int v6)] [] σ (rc53 v1 v2 v3 v4 v5 v6 σ)) (rc76 : Int32 → Int32 → Int32 → Int32 → Int32 → Int32 → Int32 → Mem → Option (Int32 × Mem)) (hc76 : ∀ (v1 : Int32) (v2 : Int32) (v3 : Int32) (v4 : Int32) (v5 : Int32) (v6 : Int32) (v7 : Int32) (σ : Mem), VK x z 9 (BQ QI x z) 76 [(0, .ref (z.2.2.1 0)), (1, .int v1), (2, .int v2), (3, .int v3), (4, .int v4), (5, .int v5), (6, .int v6), (7, .int v7)] [] σ (rc76 v1 v2 v3 v4 v5 v6 v7 σ)) (rc162 : Int32 → Int32 → Int32 → Int32 → Int32 → Int32 → Int32 → Int32 → Mem → Option (Int32 × Mem)) (hc162 : ∀ (v1 : Int32) (v2 : Int32) (v3 : Int32) (v4 : Int32) (v5 : Int32) (v6 : Int32) (v7 : Int32) (v8 : Int32) (σ : Mem), VK x z 9 (BQ QI x z) 162 [(0, .ref (z.2.2.1 0)), (1, .int v1), (2, .int v2), (3, .int v3), (4, .int v4), (5, .int v5), (6, .int v6), (7, .int v7), (8, .int v8)] [] σ (rc162 v1 v2 v3 v4 v5 v6 v7 v8 σ)) (v1 : Int32) (v2 : Int32) (v3 : Int32) (v4 : Int32) (v5 : Int32) (v6 : Int32) (v7 : Int32) (v8 : Int32) (σ : Mem) : VK x z 9 (BQ QI x z) 162 [(0, .ref (z.2.2.1 0)), (1, .int v1), (2, .int v2), (3, .int v3), (4, .int v4), (5, .int v5), (6, .int v6), (7, .int v7), (8, .int v8)] [] σ (fX12_areMoved_b162 N rc5 rc17 rc53 rc76 rc162 v1 v2 v3 v4 v5 v6 v7 v8 σ) := by
  unfold fX12_areMoved_b162
  refine V_iload 8 X dX12_areMoved_162 rfl ?_
  refine V_aload_n 0 X dX12_areMoved_164 rfl rfl ?_
  refine V_getI 13 X dX12_areMoved_165 co12 (kM hZ 0 _ rfl) (by decide) rfl wfX12_162 ?_
  refine V_icmp_ge (tgt := 191) X dX12_areMoved_168 (by decide) ?_ ?_
  · refine V_sub [0, 1, 2, 3, 4, 5, 6, 7] rfl ?_
    exact bX12_areMoved_191 X E hr hZ N rc5 hc5 rc17 hc17 rc53 hc53 rc76 hc76 v1 v2 v3 v4 v5 v6 v7 σ
  · refine V_aload_n 0 X dX12_areMoved_171 rfl rfl ?_
    refine V_getR (k1 := 9) 28 X dX12_areMoved_172 co12 (kM hZ 0 _ rfl) (by decide) rfl rfl wfX12_35 ?_
    refine V_iload 8 X dX12_areMoved_175 rfl ?_
    refine V_aload_n 0 X dX12_areMoved_177 rfl rfl ?_
    refine V_getR (k1 := 6) 19 X dX12_areMoved_178 co12 (kM hZ 0 _ rfl) (by decide) rfl rfl wfX12_26 ?_
    refine V_iload 8 X dX12_areMoved_181 rfl ?_
    refine V_iald X dX12_areMoved_183 (kM hZ 6 _ rfl) ?_
    refine V_iastG X dX12_areMoved_184 (kM hZ 9 _ rfl) (fun s24 => ?_)
    refine V_iincG (L' := fun v8_25 => [(8, .int v8_25), (0, .ref (z.2.2.1 0)), (1, .int v1), (2, .int v2), (3, .int v3), (4, .int v4), (5, .int v5), (6, .int v6), (7, .int v7)]) 8 X dX12_areMoved_185 rfl rfl (by decide) (fun _ => rfl) (fun v8_25 => ?_)
    refine V_goto (tgt := 162) X dX12_areMoved_188 (by decide) ?_
    refine V_sub [1, 2, 3, 4, 5, 6, 7, 8, 0] rfl ?_
    exact hc162 v1 v2 v3 v4 v5 v6 v7 v8_25 s24
def fX12_areMoved_l162 (N : Nat) (rc5 : Int32 → Int32 → Int32 → Int32 → Mem → Option (Int32 × Mem)) (rc17 : Int32 → Int32 → Int32 → Int32 → Int32 → Mem → Option (Int32 × Mem)) (rc53 : Int32 → Int32 → Int32 → Int32 → Int32 → Int32 → Mem → Option (Int32 × Mem)) (rc76 : Int32 → Int32 → Int32 → Int32 → Int32 → Int32 → Int32 → Mem → Option (Int32 × Mem)) : Nat → Int32 → Int32 → Int32 → Int32 → Int32 → Int32 → Int32 → Int32 → Mem → Option (Int32 × Mem)
  | 0 => fun _ _ _ _ _ _ _ _ _ => none
  | n + 1 => fX12_areMoved_b162 N rc5 rc17 rc53 rc76 (fX12_areMoved_l162 N rc5 rc17 rc53 rc76 n)
theorem lX12_areMoved_162 {x : Cx} {z : Sx} (X : XG x z RX12 cX12_areMoved 9 5 113) (E : XE x z) (hr : XR x (some .boolean)) (hZ : z.2.2.2.1 = kdM) (N : Nat) (rc5 : Int32 → Int32 → Int32 → Int32 → Mem → Option (Int32 × Mem)) (hc5 : ∀ (v1 : Int32) (v2 : Int32) (v3 : Int32) (v4 : Int32) (σ : Mem), VK x z 9 (BQ QI x z) 5 [(0, .ref (z.2.2.1 0)), (1, .int v1), (2, .int v2), (3, .int v3), (4, .int v4)] [] σ (rc5 v1 v2 v3 v4 σ)) (rc17 : Int32 → Int32 → Int32 → Int32 → Int32 → Mem → Option (Int32 × Mem)) (hc17 : ∀ (v1 : Int32) (v2 : Int32) (v3 : Int32) (v4 : Int32) (v5 : Int32) (σ : Mem), VK x z 9 (BQ QI x z) 17 [(0, .ref (z.2.2.1 0)), (1, .int v1), (2, .int v2), (3, .int v3), (4, .int v4), (5, .int v5)] [] σ (rc17 v1 v2 v3 v4 v5 σ)) (rc53 : Int32 → Int32 → Int32 → Int32 → Int32 → Int32 → Mem → Option (Int32 × Mem)) (hc53 : ∀ (v1 : Int32) (v2 : Int32) (v3 : Int32) (v4 : Int32) (v5 : Int32) (v6 : Int32) (σ : Mem), VK x z 9 (BQ QI x z) 53 [(0, .ref (z.2.2.1 0)), (1, .int v1), (2, .int v2), (3, .int v3), (4, .int v4), (5, .int v5), (6, .int v6)] [] σ (rc53 v1 v2 v3 v4 v5 v6 σ)) (rc76 : Int32 → Int32 → Int32 → Int32 → Int32 → Int32 → Int32 → Mem → Option (Int32 × Mem)) (hc76 : ∀ (v1 : Int32) (v2 : Int32) (v3 : Int32) (v4 : Int32) (v5 : Int32) (v6 : Int32) (v7 : Int32) (σ : Mem), VK x z 9 (BQ QI x z) 76 [(0, .ref (z.2.2.1 0)), (1, .int v1), (2, .int v2), (3, .int v3), (4, .int v4), (5, .int v5), (6, .int v6), (7, .int v7)] [] σ (rc76 v1 v2 v3 v4 v5 v6 v7 σ)) (n : Nat) (v1 : Int32) (v2 : Int32) (v3 : Int32) (v4 : Int32) (v5 : Int32) (v6 : Int32) (v7 : Int32) (v8 : Int32) (σ : Mem) : VK x z 9 (BQ QI x z) 162 [(0, .ref (z.2.2.1 0)), (1, .int v1), (2, .int v2), (3, .int v3), (4, .int v4), (5, .int v5), (6, .int v6), (7, .int v7), (8, .int v8)] [] σ (fX12_areMoved_l162 N rc5 rc17 rc53 rc76 n v1 v2 v3 v4 v5 v6 v7 v8 σ) := by
  induction n generalizing v1 v2 v3 v4 v5 v6 v7 v8 σ with
  | zero => exact V_none
  | succ n ih => exact bX12_areMoved_162 X E hr hZ N rc5 hc5 rc17 hc17 rc53 hc53 rc76 hc76 (fX12_areMoved_l162 N rc5 rc17 rc53 rc76 n) ih v1 v2 v3 v4 v5 v6 v7 v8 σ
def fX12_areMoved_b157 (N : Nat) (rc5 : Int32 → Int32 → Int32 → Int32 → Mem → Option (Int32 × Mem)) (rc17 : Int32 → Int32 → Int32 → Int32 → Int32 → Mem → Option (Int32 × Mem)) (rc53 : Int32 → Int32 → Int32 → Int32 → Int32 → Int32 → Mem → Option (Int32 × Mem)) (rc76 : Int32 → Int32 → Int32 → Int32 → Int32 → Int32 → Int32 → Mem → Option (Int32 × Mem)) (v1 : Int32) (v2 : Int32) (v4 : Int32) (v5 : Int32) (v6 : Int32) (v7 : Int32) (σ : Mem) : Option (Int32 × Mem) :=
  lt_ 1 (fun v3_22 => lt_ 0 (fun v8_23 => fX12_areMoved_l162 N rc5 rc17 rc53 rc76 N v1 v2 v3_22 v4 v5 v6 v7 v8_23 σ))
set_option maxRecDepth 100000 in
set_option maxHeartbeats 4000000 in
theorem bX12_areMoved_157 {x : Cx} {z : Sx} (X : XG x z RX12 cX12_areMoved 9 5 113) (E : XE x z) (hr : XR x (some .boolean)) (hZ : z.2.2.2.1 = kdM) (N : Nat) (rc5 : Int32 → Int32 → Int32 → Int32 → Mem → Option (Int32 × Mem)) (hc5 : ∀ (v1 : Int32) (v2 : Int32) (v3 : Int32) (v4 : Int32) (σ : Mem), VK x z 9 (BQ QI x z) 5 [(0, .ref (z.2.2.1 0)), (1, .int v1), (2, .int v2), (3, .int v3), (4, .int v4)] [] σ (rc5 v1 v2 v3 v4 σ)) (rc17 : Int32 → Int32 → Int32 → Int32 → Int32 → Mem → Option (Int32 × Mem)) (hc17 : ∀ (v1 : Int32) (v2 : Int32) (v3 : Int32) (v4 : Int32) (v5 : Int32) (σ : Mem), VK x z 9 (BQ QI x z) 17 [(0, .ref (z.2.2.1 0)), (1, .int v1), (2, .int v2), (3, .int v3), (4, .int v4), (5, .int v5)] [] σ (rc17 v1 v2 v3 v4 v5 σ)) (rc53 : Int32 → Int32 → Int32 → Int32 → Int32 → Int32 → Mem → Option (Int32 × Mem)) (hc53 : ∀ (v1 : Int32) (v2 : Int32) (v3 : Int32) (v4 : Int32) (v5 : Int32) (v6 : Int32) (σ : Mem), VK x z 9 (BQ QI x z) 53 [(0, .ref (z.2.2.1 0)), (1, .int v1), (2, .int v2), (3, .int v3), (4, .int v4), (5, .int v5), (6, .int v6)] [] σ (rc53 v1 v2 v3 v4 v5 v6 σ)) (rc76 : Int32 → Int32 → Int32 → Int32 → Int32 → Int32 → Int32 → Mem → Option (Int32 × Mem)) (hc76 : ∀ (v1 : Int32) (v2 : Int32) (v3 : Int32) (v4 : Int32) (v5 : Int32) (v6 : Int32) (v7 : Int32) (σ : Mem), VK x z 9 (BQ QI x z) 76 [(0, .ref (z.2.2.1 0)), (1, .int v1), (2, .int v2), (3, .int v3), (4, .int v4), (5, .int v5), (6, .int v6), (7, .int v7)] [] σ (rc76 v1 v2 v3 v4 v5 v6 v7 σ)) (v1 : Int32) (v2 : Int32) (v4 : Int32) (v5 : Int32) (v6 : Int32) (v7 : Int32) (σ : Mem) : VK x z 9 (BQ QI x z) 157 [(0, .ref (z.2.2.1 0)), (1, .int v1), (2, .int v2), (4, .int v4), (5, .int v5), (6, .int v6), (7, .int v7)] [] σ (fX12_areMoved_b157 N rc5 rc17 rc53 rc76 v1 v2 v4 v5 v6 v7 σ) := by
  unfold fX12_areMoved_b157
  refine V_iconst (v := 1) X dX12_areMoved_157 (by decide) ?_
  refine V_istore_nG (L' := fun v3_22 => [(3, .int v3_22), (0, .ref (z.2.2.1 0)), (1, .int v1), (2, .int v2), (4, .int v4), (5, .int v5), (6, .int v6), (7, .int v7)]) X dX12_areMoved_158 rfl (by decide) (fun _ => rfl) (fun v3_22 => ?_)
  refine V_iconst (v := 0) X dX12_areMoved_159 (by decide) ?_
  refine V_istoreG (L' := fun v8_23 => [(8, .int v8_23), (3, .int v3_22), (0, .ref (z.2.2.1 0)), (1, .int v1), (2, .int v2), (4, .int v4), (5, .int v5), (6, .int v6), (7, .int v7)]) X dX12_areMoved_160 (by decide) (fun _ => rfl) (fun v8_23 => ?_)
  refine V_sub [2, 3, 4, 1, 5, 6, 7, 8, 0] rfl ?_
  exact lX12_areMoved_162 X E hr hZ N rc5 hc5 rc17 hc17 rc53 hc53 rc76 hc76 N v1 v2 v3_22 v4 v5 v6 v7 v8_23 σ
def fX12_areMoved_b126 (N : Nat) (rc5 : Int32 → Int32 → Int32 → Int32 → Mem → Option (Int32 × Mem)) (rc17 : Int32 → Int32 → Int32 → Int32 → Int32 → Mem → Option (Int32 × Mem)) (rc53 : Int32 → Int32 → Int32 → Int32 → Int32 → Int32 → Mem → Option (Int32 × Mem)) (rc76 : Int32 → Int32 → Int32 → Int32 → Int32 → Int32 → Int32 → Mem → Option (Int32 × Mem)) (v1 : Int32) (v2 : Int32) (v3 : Int32) (v4 : Int32) (v5 : Int32) (v6 : Int32) (v7 : Int32) (σ : Mem) : Option (Int32 × Mem) :=
  gd (inb v4 6) (lt_ (pI σ 6 v4.toNatClampNeg v5) (fun s17 => bd (fX12_answers N v1 s17) (fun r18 s19 => if r18 = 0 then fX12_areMoved_b191 N rc5 rc17 rc53 rc76 v1 v2 v3 v4 v5 v6 v7 s19 else if v3 = 0 then fX12_areMoved_b157 N rc5 rc17 rc53 rc76 v1 v2 v4 v5 v6 v7 s19 else bd (fX12_isAhead N s19) (fun r20 s21 => if r20 = 0 then fX12_areMoved_b191 N rc5 rc17 rc53 rc76 v1 v2 v3 v4 v5 v6 v7 s21 else fX12_areMoved_b157 N rc5 rc17 rc53 rc76 v1 v2 v4 v5 v6 v7 s21))))
set_option maxRecDepth 100000 in
set_option maxHeartbeats 4000000 in
theorem bX12_areMoved_126 {x : Cx} {z : Sx} (X : XG x z RX12 cX12_areMoved 9 5 113) (E : XE x z) (hr : XR x (some .boolean)) (hZ : z.2.2.2.1 = kdM) (N : Nat) (rc5 : Int32 → Int32 → Int32 → Int32 → Mem → Option (Int32 × Mem)) (hc5 : ∀ (v1 : Int32) (v2 : Int32) (v3 : Int32) (v4 : Int32) (σ : Mem), VK x z 9 (BQ QI x z) 5 [(0, .ref (z.2.2.1 0)), (1, .int v1), (2, .int v2), (3, .int v3), (4, .int v4)] [] σ (rc5 v1 v2 v3 v4 σ)) (rc17 : Int32 → Int32 → Int32 → Int32 → Int32 → Mem → Option (Int32 × Mem)) (hc17 : ∀ (v1 : Int32) (v2 : Int32) (v3 : Int32) (v4 : Int32) (v5 : Int32) (σ : Mem), VK x z 9 (BQ QI x z) 17 [(0, .ref (z.2.2.1 0)), (1, .int v1), (2, .int v2), (3, .int v3), (4, .int v4), (5, .int v5)] [] σ (rc17 v1 v2 v3 v4 v5 σ)) (rc53 : Int32 → Int32 → Int32 → Int32 → Int32 → Int32 → Mem → Option (Int32 × Mem)) (hc53 : ∀ (v1 : Int32) (v2 : Int32) (v3 : Int32) (v4 : Int32) (v5 : Int32) (v6 : Int32) (σ : Mem), VK x z 9 (BQ QI x z) 53 [(0, .ref (z.2.2.1 0)), (1, .int v1), (2, .int v2), (3, .int v3), (4, .int v4), (5, .int v5), (6, .int v6)] [] σ (rc53 v1 v2 v3 v4 v5 v6 σ)) (rc76 : Int32 → Int32 → Int32 → Int32 → Int32 → Int32 → Int32 → Mem → Option (Int32 × Mem)) (hc76 : ∀ (v1 : Int32) (v2 : Int32) (v3 : Int32) (v4 : Int32) (v5 : Int32) (v6 : Int32) (v7 : Int32) (σ : Mem), VK x z 9 (BQ QI x z) 76 [(0, .ref (z.2.2.1 0)), (1, .int v1), (2, .int v2), (3, .int v3), (4, .int v4), (5, .int v5), (6, .int v6), (7, .int v7)] [] σ (rc76 v1 v2 v3 v4 v5 v6 v7 σ)) (v1 : Int32) (v2 : Int32) (v3 : Int32) (v4 : Int32) (v5 : Int32) (v6 : Int32) (v7 : Int32) (σ : Mem) : VK x z 9 (BQ QI x z) 126 [(0, .ref (z.2.2.1 0)), (1, .int v1), (2, .int v2), (3, .int v3), (4, .int v4), (5, .int v5), (6, .int v6), (7, .int v7)] [] σ (fX12_areMoved_b126 N rc5 rc17 rc53 rc76 v1 v2 v3 v4 v5 v6 v7 σ) := by
  unfold fX12_areMoved_b126
  refine V_aload_n 0 X dX12_areMoved_126 rfl rfl ?_
  refine V_getR (k1 := 6) 19 X dX12_areMoved_127 co12 (kM hZ 0 _ rfl) (by decide) rfl rfl wfX12_26 ?_
  refine V_iload 4 X dX12_areMoved_130 rfl ?_
  refine V_iload 5 X dX12_areMoved_132 rfl ?_
  refine V_iastG X dX12_areMoved_134 (kM hZ 6 _ rfl) (fun s17 => ?_)
  refine V_aload_n 0 X dX12_areMoved_135 rfl rfl ?_
  refine V_iload_n 1 X dX12_areMoved_136 rfl rfl ?_
  refine V_callI [.int v1] [] X E dX12_areMoved_137 (kX12_answers x.2.1 z hZ N v1 s17) co12 (kM hZ 0 _ rfl) gcX12_216 hyX12_answers rfl ⟨by decide, by decide⟩ rfl (Nat.le_of_ble_eq_true rfl) (fun r18 s19 => ?_)
  refine V_if_eq (tgt := 191) X dX12_areMoved_140 (by decide) ?_ ?_
  · refine V_sub [0, 1, 2, 3, 4, 5, 6, 7] rfl ?_
    exact bX12_areMoved_191 X E hr hZ N rc5 hc5 rc17 hc17 rc53 hc53 rc76 hc76 v1 v2 v3 v4 v5 v6 v7 s19
  · refine V_iload_n 3 X dX12_areMoved_143 rfl rfl ?_
    refine V_if_eq (tgt := 157) X dX12_areMoved_144 (by decide) ?_ ?_
    · refine V_sub [0, 1, 2, 4, 5, 6, 7] rfl ?_
      exact bX12_areMoved_157 X E hr hZ N rc5 hc5 rc17 hc17 rc53 hc53 rc76 hc76 v1 v2 v4 v5 v6 v7 s19
    · refine V_aload_n 0 X dX12_areMoved_147 rfl rfl ?_
      refine V_callI [] [] X E dX12_areMoved_148 (kX12_isAhead x.2.1 z hZ N s19) co12 (kM hZ 0 _ rfl) gcX12_270 hyX12_isAhead rfl ⟨by decide, by decide⟩ rfl (Nat.le_of_ble_eq_true rfl) (fun r20 s21 => ?_)
      refine V_if_ne (tgt := 157) X dX12_areMoved_151 (by decide) ?_ ?_
      · refine V_sub [0, 1, 2, 4, 5, 6, 7] rfl ?_
        exact bX12_areMoved_157 X E hr hZ N rc5 hc5 rc17 hc17 rc53 hc53 rc76 hc76 v1 v2 v4 v5 v6 v7 s21
      · refine V_goto (tgt := 191) X dX12_areMoved_154 (by decide) ?_
        refine V_sub [0, 1, 2, 3, 4, 5, 6, 7] rfl ?_
        exact bX12_areMoved_191 X E hr hZ N rc5 hc5 rc17 hc17 rc53 hc53 rc76 hc76 v1 v2 v3 v4 v5 v6 v7 s21
def fX12_areMoved_b109 (N : Nat) (rc5 : Int32 → Int32 → Int32 → Int32 → Mem → Option (Int32 × Mem)) (rc17 : Int32 → Int32 → Int32 → Int32 → Int32 → Mem → Option (Int32 × Mem)) (rc53 : Int32 → Int32 → Int32 → Int32 → Int32 → Int32 → Mem → Option (Int32 × Mem)) (rc76 : Int32 → Int32 → Int32 → Int32 → Int32 → Int32 → Int32 → Mem → Option (Int32 × Mem)) (v1 : Int32) (v2 : Int32) (v3 : Int32) (v4 : Int32) (v5 : Int32) (v6 : Int32) (v7 : Int32) (σ : Mem) : Option (Int32 × Mem) :=
  bd (fX12_asTold N σ) (fun r13 s14 => if v2 = 0 then fX12_areMoved_b126 N rc5 rc17 rc53 rc76 v1 v2 v3 v4 v5 v6 v7 s14 else gd (inb v6 6) (lt_ (pI s14 6 v6.toNatClampNeg v7) (fun s15 => fX12_areMoved_b126 N rc5 rc17 rc53 rc76 v1 v2 v3 v4 v5 v6 v7 s15)))
set_option maxRecDepth 100000 in
set_option maxHeartbeats 4000000 in
theorem bX12_areMoved_109 {x : Cx} {z : Sx} (X : XG x z RX12 cX12_areMoved 9 5 113) (E : XE x z) (hr : XR x (some .boolean)) (hZ : z.2.2.2.1 = kdM) (N : Nat) (rc5 : Int32 → Int32 → Int32 → Int32 → Mem → Option (Int32 × Mem)) (hc5 : ∀ (v1 : Int32) (v2 : Int32) (v3 : Int32) (v4 : Int32) (σ : Mem), VK x z 9 (BQ QI x z) 5 [(0, .ref (z.2.2.1 0)), (1, .int v1), (2, .int v2), (3, .int v3), (4, .int v4)] [] σ (rc5 v1 v2 v3 v4 σ)) (rc17 : Int32 → Int32 → Int32 → Int32 → Int32 → Mem → Option (Int32 × Mem)) (hc17 : ∀ (v1 : Int32) (v2 : Int32) (v3 : Int32) (v4 : Int32) (v5 : Int32) (σ : Mem), VK x z 9 (BQ QI x z) 17 [(0, .ref (z.2.2.1 0)), (1, .int v1), (2, .int v2), (3, .int v3), (4, .int v4), (5, .int v5)] [] σ (rc17 v1 v2 v3 v4 v5 σ)) (rc53 : Int32 → Int32 → Int32 → Int32 → Int32 → Int32 → Mem → Option (Int32 × Mem)) (hc53 : ∀ (v1 : Int32) (v2 : Int32) (v3 : Int32) (v4 : Int32) (v5 : Int32) (v6 : Int32) (σ : Mem), VK x z 9 (BQ QI x z) 53 [(0, .ref (z.2.2.1 0)), (1, .int v1), (2, .int v2), (3, .int v3), (4, .int v4), (5, .int v5), (6, .int v6)] [] σ (rc53 v1 v2 v3 v4 v5 v6 σ)) (rc76 : Int32 → Int32 → Int32 → Int32 → Int32 → Int32 → Int32 → Mem → Option (Int32 × Mem)) (hc76 : ∀ (v1 : Int32) (v2 : Int32) (v3 : Int32) (v4 : Int32) (v5 : Int32) (v6 : Int32) (v7 : Int32) (σ : Mem), VK x z 9 (BQ QI x z) 76 [(0, .ref (z.2.2.1 0)), (1, .int v1), (2, .int v2), (3, .int v3), (4, .int v4), (5, .int v5), (6, .int v6), (7, .int v7)] [] σ (rc76 v1 v2 v3 v4 v5 v6 v7 σ)) (v1 : Int32) (v2 : Int32) (v3 : Int32) (v4 : Int32) (v5 : Int32) (v6 : Int32) (v7 : Int32) (σ : Mem) : VK x z 9 (BQ QI x z) 109 [(0, .ref (z.2.2.1 0)), (1, .int v1), (2, .int v2), (3, .int v3), (4, .int v4), (5, .int v5), (6, .int v6), (7, .int v7)] [] σ (fX12_areMoved_b109 N rc5 rc17 rc53 rc76 v1 v2 v3 v4 v5 v6 v7 σ) := by
  unfold fX12_areMoved_b109
  refine V_aload_n 0 X dX12_areMoved_109 rfl rfl ?_
  refine V_callV [] [] X E dX12_areMoved_110 (kX12_asTold x.2.1 z hZ N σ) co12 (kM hZ 0 _ rfl) gcX12_213 hyX12_asTold rfl ⟨by decide, by decide⟩ rfl (Nat.le_of_ble_eq_true rfl) (fun r13 s14 => ?_)
  refine V_iload_n 2 X dX12_areMoved_113 rfl rfl ?_
  refine V_if_eq (tgt := 126) X dX12_areMoved_114 (by decide) ?_ ?_
  · refine V_sub [0, 1, 2, 3, 4, 5, 6, 7] rfl ?_
    exact bX12_areMoved_126 X E hr hZ N rc5 hc5 rc17 hc17 rc53 hc53 rc76 hc76 v1 v2 v3 v4 v5 v6 v7 s14
  · refine V_aload_n 0 X dX12_areMoved_117 rfl rfl ?_
    refine V_getR (k1 := 6) 19 X dX12_areMoved_118 co12 (kM hZ 0 _ rfl) (by decide) rfl rfl wfX12_26 ?_
    refine V_iload 6 X dX12_areMoved_121 rfl ?_
    refine V_iload 7 X dX12_areMoved_123 rfl ?_
    refine V_iastG X dX12_areMoved_125 (kM hZ 6 _ rfl) (fun s15 => ?_)
    refine V_sub [0, 1, 2, 3, 4, 5, 6, 7] rfl ?_
    exact bX12_areMoved_126 X E hr hZ N rc5 hc5 rc17 hc17 rc53 hc53 rc76 hc76 v1 v2 v3 v4 v5 v6 v7 s15
def fX12_areMoved_b88 (N : Nat) (rc5 : Int32 → Int32 → Int32 → Int32 → Mem → Option (Int32 × Mem)) (rc17 : Int32 → Int32 → Int32 → Int32 → Int32 → Mem → Option (Int32 × Mem)) (rc53 : Int32 → Int32 → Int32 → Int32 → Int32 → Int32 → Mem → Option (Int32 × Mem)) (rc76 : Int32 → Int32 → Int32 → Int32 → Int32 → Int32 → Int32 → Mem → Option (Int32 × Mem)) (v1 : Int32) (v2 : Int32) (v3 : Int32) (v4 : Int32) (v5 : Int32) (v6 : Int32) (v7 : Int32) (t0 : Int32) (t1 : Int32) (σ : Mem) : Option (Int32 × Mem) :=
  if t0 < t1 then lt_ (v6 + 1) (fun v6_10 => rc53 v1 v2 v3 v4 v5 v6_10 σ) else if v2 = 0 then fX12_areMoved_b109 N rc5 rc17 rc53 rc76 v1 v2 v3 v4 v5 v6 v7 σ else bd (fX12_isSeat N v6 v7 σ) (fun r11 s12 => if r11 = 0 then fX12_areMoved_b191 N rc5 rc17 rc53 rc76 v1 v2 v3 v4 v5 v6 v7 s12 else fX12_areMoved_b109 N rc5 rc17 rc53 rc76 v1 v2 v3 v4 v5 v6 v7 s12)
set_option maxRecDepth 100000 in
set_option maxHeartbeats 4000000 in
theorem bX12_areMoved_88 {x : Cx} {z : Sx} (X : XG x z RX12 cX12_areMoved 9 5 113) (E : XE x z) (hr : XR x (some .boolean)) (hZ : z.2.2.2.1 = kdM) (N : Nat) (rc5 : Int32 → Int32 → Int32 → Int32 → Mem → Option (Int32 × Mem)) (hc5 : ∀ (v1 : Int32) (v2 : Int32) (v3 : Int32) (v4 : Int32) (σ : Mem), VK x z 9 (BQ QI x z) 5 [(0, .ref (z.2.2.1 0)), (1, .int v1), (2, .int v2), (3, .int v3), (4, .int v4)] [] σ (rc5 v1 v2 v3 v4 σ)) (rc17 : Int32 → Int32 → Int32 → Int32 → Int32 → Mem → Option (Int32 × Mem)) (hc17 : ∀ (v1 : Int32) (v2 : Int32) (v3 : Int32) (v4 : Int32) (v5 : Int32) (σ : Mem), VK x z 9 (BQ QI x z) 17 [(0, .ref (z.2.2.1 0)), (1, .int v1), (2, .int v2), (3, .int v3), (4, .int v4), (5, .int v5)] [] σ (rc17 v1 v2 v3 v4 v5 σ)) (rc53 : Int32 → Int32 → Int32 → Int32 → Int32 → Int32 → Mem → Option (Int32 × Mem)) (hc53 : ∀ (v1 : Int32) (v2 : Int32) (v3 : Int32) (v4 : Int32) (v5 : Int32) (v6 : Int32) (σ : Mem), VK x z 9 (BQ QI x z) 53 [(0, .ref (z.2.2.1 0)), (1, .int v1), (2, .int v2), (3, .int v3), (4, .int v4), (5, .int v5), (6, .int v6)] [] σ (rc53 v1 v2 v3 v4 v5 v6 σ)) (rc76 : Int32 → Int32 → Int32 → Int32 → Int32 → Int32 → Int32 → Mem → Option (Int32 × Mem)) (hc76 : ∀ (v1 : Int32) (v2 : Int32) (v3 : Int32) (v4 : Int32) (v5 : Int32) (v6 : Int32) (v7 : Int32) (σ : Mem), VK x z 9 (BQ QI x z) 76 [(0, .ref (z.2.2.1 0)), (1, .int v1), (2, .int v2), (3, .int v3), (4, .int v4), (5, .int v5), (6, .int v6), (7, .int v7)] [] σ (rc76 v1 v2 v3 v4 v5 v6 v7 σ)) (v1 : Int32) (v2 : Int32) (v3 : Int32) (v4 : Int32) (v5 : Int32) (v6 : Int32) (v7 : Int32) (t0 : Int32) (t1 : Int32) (σ : Mem) : VK x z 9 (BQ QI x z) 88 [(0, .ref (z.2.2.1 0)), (1, .int v1), (2, .int v2), (3, .int v3), (4, .int v4), (5, .int v5), (6, .int v6), (7, .int v7)] [.int t0, .int t1] σ (fX12_areMoved_b88 N rc5 rc17 rc53 rc76 v1 v2 v3 v4 v5 v6 v7 t0 t1 σ) := by
  unfold fX12_areMoved_b88
  refine V_icmp_gt (tgt := 197) X dX12_areMoved_88 (by decide) ?_ ?_
  · refine V_iincG (L' := fun v6_10 => [(6, .int v6_10), (0, .ref (z.2.2.1 0)), (1, .int v1), (2, .int v2), (3, .int v3), (4, .int v4), (5, .int v5), (7, .int v7)]) 6 X dX12_areMoved_197 rfl rfl (by decide) (fun _ => rfl) (fun v6_10 => ?_)
    refine V_goto (tgt := 53) X dX12_areMoved_200 (by decide) ?_
    refine V_sub [1, 2, 3, 4, 5, 6, 0] rfl ?_
    exact hc53 v1 v2 v3 v4 v5 v6_10 σ
  · refine V_iload_n 2 X dX12_areMoved_91 rfl rfl ?_
    refine V_if_eq (tgt := 109) X dX12_areMoved_92 (by decide) ?_ ?_
    · refine V_sub [0, 1, 2, 3, 4, 5, 6, 7] rfl ?_
      exact bX12_areMoved_109 X E hr hZ N rc5 hc5 rc17 hc17 rc53 hc53 rc76 hc76 v1 v2 v3 v4 v5 v6 v7 σ
    · refine V_aload_n 0 X dX12_areMoved_95 rfl rfl ?_
      refine V_iload 6 X dX12_areMoved_96 rfl ?_
      refine V_iload 7 X dX12_areMoved_98 rfl ?_
      refine V_callI [.int v6, .int v7] [] X E dX12_areMoved_100 (kX12_isSeat x.2.1 z hZ N v6 v7 σ) co12 (kM hZ 0 _ rfl) gcX12_267 hyX12_isSeat rfl ⟨by decide, by decide⟩ rfl (Nat.le_of_ble_eq_true rfl) (fun r11 s12 => ?_)
      refine V_if_ne (tgt := 109) X dX12_areMoved_103 (by decide) ?_ ?_
      · refine V_sub [0, 1, 2, 3, 4, 5, 6, 7] rfl ?_
        exact bX12_areMoved_109 X E hr hZ N rc5 hc5 rc17 hc17 rc53 hc53 rc76 hc76 v1 v2 v3 v4 v5 v6 v7 s12
      · refine V_goto (tgt := 191) X dX12_areMoved_106 (by decide) ?_
        refine V_sub [0, 1, 2, 3, 4, 5, 6, 7] rfl ?_
        exact bX12_areMoved_191 X E hr hZ N rc5 hc5 rc17 hc17 rc53 hc53 rc76 hc76 v1 v2 v3 v4 v5 v6 v7 s12
def fX12_areMoved_b76 (N : Nat) (rc5 : Int32 → Int32 → Int32 → Int32 → Mem → Option (Int32 × Mem)) (rc17 : Int32 → Int32 → Int32 → Int32 → Int32 → Mem → Option (Int32 × Mem)) (rc53 : Int32 → Int32 → Int32 → Int32 → Int32 → Int32 → Mem → Option (Int32 × Mem)) (rc76 : Int32 → Int32 → Int32 → Int32 → Int32 → Int32 → Int32 → Mem → Option (Int32 × Mem)) (v1 : Int32) (v2 : Int32) (v3 : Int32) (v4 : Int32) (v5 : Int32) (v6 : Int32) (v7 : Int32) (σ : Mem) : Option (Int32 × Mem) :=
  if v2 = 0 then fX12_areMoved_b88 N rc5 rc17 rc53 rc76 v1 v2 v3 v4 v5 v6 v7 0 v7 σ else fX12_areMoved_b88 N rc5 rc17 rc53 rc76 v1 v2 v3 v4 v5 v6 v7 8 v7 σ
set_option maxRecDepth 100000 in
set_option maxHeartbeats 4000000 in
theorem bX12_areMoved_76 {x : Cx} {z : Sx} (X : XG x z RX12 cX12_areMoved 9 5 113) (E : XE x z) (hr : XR x (some .boolean)) (hZ : z.2.2.2.1 = kdM) (N : Nat) (rc5 : Int32 → Int32 → Int32 → Int32 → Mem → Option (Int32 × Mem)) (hc5 : ∀ (v1 : Int32) (v2 : Int32) (v3 : Int32) (v4 : Int32) (σ : Mem), VK x z 9 (BQ QI x z) 5 [(0, .ref (z.2.2.1 0)), (1, .int v1), (2, .int v2), (3, .int v3), (4, .int v4)] [] σ (rc5 v1 v2 v3 v4 σ)) (rc17 : Int32 → Int32 → Int32 → Int32 → Int32 → Mem → Option (Int32 × Mem)) (hc17 : ∀ (v1 : Int32) (v2 : Int32) (v3 : Int32) (v4 : Int32) (v5 : Int32) (σ : Mem), VK x z 9 (BQ QI x z) 17 [(0, .ref (z.2.2.1 0)), (1, .int v1), (2, .int v2), (3, .int v3), (4, .int v4), (5, .int v5)] [] σ (rc17 v1 v2 v3 v4 v5 σ)) (rc53 : Int32 → Int32 → Int32 → Int32 → Int32 → Int32 → Mem → Option (Int32 × Mem)) (hc53 : ∀ (v1 : Int32) (v2 : Int32) (v3 : Int32) (v4 : Int32) (v5 : Int32) (v6 : Int32) (σ : Mem), VK x z 9 (BQ QI x z) 53 [(0, .ref (z.2.2.1 0)), (1, .int v1), (2, .int v2), (3, .int v3), (4, .int v4), (5, .int v5), (6, .int v6)] [] σ (rc53 v1 v2 v3 v4 v5 v6 σ)) (rc76 : Int32 → Int32 → Int32 → Int32 → Int32 → Int32 → Int32 → Mem → Option (Int32 × Mem)) (hc76 : ∀ (v1 : Int32) (v2 : Int32) (v3 : Int32) (v4 : Int32) (v5 : Int32) (v6 : Int32) (v7 : Int32) (σ : Mem), VK x z 9 (BQ QI x z) 76 [(0, .ref (z.2.2.1 0)), (1, .int v1), (2, .int v2), (3, .int v3), (4, .int v4), (5, .int v5), (6, .int v6), (7, .int v7)] [] σ (rc76 v1 v2 v3 v4 v5 v6 v7 σ)) (v1 : Int32) (v2 : Int32) (v3 : Int32) (v4 : Int32) (v5 : Int32) (v6 : Int32) (v7 : Int32) (σ : Mem) : VK x z 9 (BQ QI x z) 76 [(0, .ref (z.2.2.1 0)), (1, .int v1), (2, .int v2), (3, .int v3), (4, .int v4), (5, .int v5), (6, .int v6), (7, .int v7)] [] σ (fX12_areMoved_b76 N rc5 rc17 rc53 rc76 v1 v2 v3 v4 v5 v6 v7 σ) := by
  unfold fX12_areMoved_b76
  refine V_iload 7 X dX12_areMoved_76 rfl ?_
  refine V_iload_n 2 X dX12_areMoved_78 rfl rfl ?_
  refine V_if_eq (tgt := 87) X dX12_areMoved_79 (by decide) ?_ ?_
  · refine V_iconst (v := 0) X dX12_areMoved_87 (by decide) ?_
    refine V_sub [0, 1, 2, 3, 4, 5, 6, 7] rfl ?_
    exact bX12_areMoved_88 X E hr hZ N rc5 hc5 rc17 hc17 rc53 hc53 rc76 hc76 v1 v2 v3 v4 v5 v6 v7 0 v7 σ
  · refine V_bipush (v := 8) X dX12_areMoved_82 (by decide) ?_
    refine V_goto (tgt := 88) X dX12_areMoved_84 (by decide) ?_
    refine V_sub [0, 1, 2, 3, 4, 5, 6, 7] rfl ?_
    exact bX12_areMoved_88 X E hr hZ N rc5 hc5 rc17 hc17 rc53 hc53 rc76 hc76 v1 v2 v3 v4 v5 v6 v7 8 v7 σ
def fX12_areMoved_l76 (N : Nat) (rc5 : Int32 → Int32 → Int32 → Int32 → Mem → Option (Int32 × Mem)) (rc17 : Int32 → Int32 → Int32 → Int32 → Int32 → Mem → Option (Int32 × Mem)) (rc53 : Int32 → Int32 → Int32 → Int32 → Int32 → Int32 → Mem → Option (Int32 × Mem)) : Nat → Int32 → Int32 → Int32 → Int32 → Int32 → Int32 → Int32 → Mem → Option (Int32 × Mem)
  | 0 => fun _ _ _ _ _ _ _ _ => none
  | n + 1 => fX12_areMoved_b76 N rc5 rc17 rc53 (fX12_areMoved_l76 N rc5 rc17 rc53 n)
theorem lX12_areMoved_76 {x : Cx} {z : Sx} (X : XG x z RX12 cX12_areMoved 9 5 113) (E : XE x z) (hr : XR x (some .boolean)) (hZ : z.2.2.2.1 = kdM) (N : Nat) (rc5 : Int32 → Int32 → Int32 → Int32 → Mem → Option (Int32 × Mem)) (hc5 : ∀ (v1 : Int32) (v2 : Int32) (v3 : Int32) (v4 : Int32) (σ : Mem), VK x z 9 (BQ QI x z) 5 [(0, .ref (z.2.2.1 0)), (1, .int v1), (2, .int v2), (3, .int v3), (4, .int v4)] [] σ (rc5 v1 v2 v3 v4 σ)) (rc17 : Int32 → Int32 → Int32 → Int32 → Int32 → Mem → Option (Int32 × Mem)) (hc17 : ∀ (v1 : Int32) (v2 : Int32) (v3 : Int32) (v4 : Int32) (v5 : Int32) (σ : Mem), VK x z 9 (BQ QI x z) 17 [(0, .ref (z.2.2.1 0)), (1, .int v1), (2, .int v2), (3, .int v3), (4, .int v4), (5, .int v5)] [] σ (rc17 v1 v2 v3 v4 v5 σ)) (rc53 : Int32 → Int32 → Int32 → Int32 → Int32 → Int32 → Mem → Option (Int32 × Mem)) (hc53 : ∀ (v1 : Int32) (v2 : Int32) (v3 : Int32) (v4 : Int32) (v5 : Int32) (v6 : Int32) (σ : Mem), VK x z 9 (BQ QI x z) 53 [(0, .ref (z.2.2.1 0)), (1, .int v1), (2, .int v2), (3, .int v3), (4, .int v4), (5, .int v5), (6, .int v6)] [] σ (rc53 v1 v2 v3 v4 v5 v6 σ)) (n : Nat) (v1 : Int32) (v2 : Int32) (v3 : Int32) (v4 : Int32) (v5 : Int32) (v6 : Int32) (v7 : Int32) (σ : Mem) : VK x z 9 (BQ QI x z) 76 [(0, .ref (z.2.2.1 0)), (1, .int v1), (2, .int v2), (3, .int v3), (4, .int v4), (5, .int v5), (6, .int v6), (7, .int v7)] [] σ (fX12_areMoved_l76 N rc5 rc17 rc53 n v1 v2 v3 v4 v5 v6 v7 σ) := by
  induction n generalizing v1 v2 v3 v4 v5 v6 v7 σ with
  | zero => exact V_none
  | succ n ih => exact bX12_areMoved_76 X E hr hZ N rc5 hc5 rc17 hc17 rc53 hc53 (fX12_areMoved_l76 N rc5 rc17 rc53 n) ih v1 v2 v3 v4 v5 v6 v7 σ
def fX12_areMoved_b70 (N : Nat) (rc5 : Int32 → Int32 → Int32 → Int32 → Mem → Option (Int32 × Mem)) (rc17 : Int32 → Int32 → Int32 → Int32 → Int32 → Mem → Option (Int32 × Mem)) (rc53 : Int32 → Int32 → Int32 → Int32 → Int32 → Int32 → Mem → Option (Int32 × Mem)) (v1 : Int32) (v2 : Int32) (v3 : Int32) (v4 : Int32) (v5 : Int32) (v6 : Int32) (t0 : Int32) (t1 : Int32) (σ : Mem) : Option (Int32 × Mem) :=
  if t0 ≤ t1 then fX12_areMoved_b203 N rc5 rc17 v1 v2 v3 v4 v5 σ else lt_ 0 (fun v7_9 => fX12_areMoved_l76 N rc5 rc17 rc53 N v1 v2 v3 v4 v5 v6 v7_9 σ)
set_option maxRecDepth 100000 in
set_option maxHeartbeats 4000000 in
theorem bX12_areMoved_70 {x : Cx} {z : Sx} (X : XG x z RX12 cX12_areMoved 9 5 113) (E : XE x z) (hr : XR x (some .boolean)) (hZ : z.2.2.2.1 = kdM) (N : Nat) (rc5 : Int32 → Int32 → Int32 → Int32 → Mem → Option (Int32 × Mem)) (hc5 : ∀ (v1 : Int32) (v2 : Int32) (v3 : Int32) (v4 : Int32) (σ : Mem), VK x z 9 (BQ QI x z) 5 [(0, .ref (z.2.2.1 0)), (1, .int v1), (2, .int v2), (3, .int v3), (4, .int v4)] [] σ (rc5 v1 v2 v3 v4 σ)) (rc17 : Int32 → Int32 → Int32 → Int32 → Int32 → Mem → Option (Int32 × Mem)) (hc17 : ∀ (v1 : Int32) (v2 : Int32) (v3 : Int32) (v4 : Int32) (v5 : Int32) (σ : Mem), VK x z 9 (BQ QI x z) 17 [(0, .ref (z.2.2.1 0)), (1, .int v1), (2, .int v2), (3, .int v3), (4, .int v4), (5, .int v5)] [] σ (rc17 v1 v2 v3 v4 v5 σ)) (rc53 : Int32 → Int32 → Int32 → Int32 → Int32 → Int32 → Mem → Option (Int32 × Mem)) (hc53 : ∀ (v1 : Int32) (v2 : Int32) (v3 : Int32) (v4 : Int32) (v5 : Int32) (v6 : Int32) (σ : Mem), VK x z 9 (BQ QI x z) 53 [(0, .ref (z.2.2.1 0)), (1, .int v1), (2, .int v2), (3, .int v3), (4, .int v4), (5, .int v5), (6, .int v6)] [] σ (rc53 v1 v2 v3 v4 v5 v6 σ)) (v1 : Int32) (v2 : Int32) (v3 : Int32) (v4 : Int32) (v5 : Int32) (v6 : Int32) (t0 : Int32) (t1 : Int32) (σ : Mem) : VK x z 9 (BQ QI x z) 70 [(0, .ref (z.2.2.1 0)), (1, .int v1), (2, .int v2), (3, .int v3), (4, .int v4), (5, .int v5), (6, .int v6)] [.int t0, .int t1] σ (fX12_areMoved_b70 N rc5 rc17 rc53 v1 v2 v3 v4 v5 v6 t0 t1 σ) := by
  unfold fX12_areMoved_b70
  refine V_icmp_ge (tgt := 203) X dX12_areMoved_70 (by decide) ?_ ?_
  · refine V_sub [0, 1, 2, 3, 4, 5] rfl ?_
    exact bX12_areMoved_203 X E hr hZ N rc5 hc5 rc17 hc17 v1 v2 v3 v4 v5 σ
  · refine V_iconst (v := 0) X dX12_areMoved_73 (by decide) ?_
    refine V_istoreG (L' := fun v7_9 => [(7, .int v7_9), (0, .ref (z.2.2.1 0)), (1, .int v1), (2, .int v2), (3, .int v3), (4, .int v4), (5, .int v5), (6, .int v6)]) X dX12_areMoved_74 (by decide) (fun _ => rfl) (fun v7_9 => ?_)
    refine V_sub [1, 2, 3, 4, 5, 6, 7, 0] rfl ?_
    exact lX12_areMoved_76 X E hr hZ N rc5 hc5 rc17 hc17 rc53 hc53 N v1 v2 v3 v4 v5 v6 v7_9 σ
def fX12_areMoved_b53 (N : Nat) (rc5 : Int32 → Int32 → Int32 → Int32 → Mem → Option (Int32 × Mem)) (rc17 : Int32 → Int32 → Int32 → Int32 → Int32 → Mem → Option (Int32 × Mem)) (rc53 : Int32 → Int32 → Int32 → Int32 → Int32 → Int32 → Mem → Option (Int32 × Mem)) (v1 : Int32) (v2 : Int32) (v3 : Int32) (v4 : Int32) (v5 : Int32) (v6 : Int32) (σ : Mem) : Option (Int32 × Mem) :=
  if v2 = 0 then fX12_areMoved_b70 N rc5 rc17 rc53 v1 v2 v3 v4 v5 v6 (v4 + 1) v6 σ else fX12_areMoved_b70 N rc5 rc17 rc53 v1 v2 v3 v4 v5 v6 (σ.1 0 13) v6 σ
set_option maxRecDepth 100000 in
set_option maxHeartbeats 4000000 in
theorem bX12_areMoved_53 {x : Cx} {z : Sx} (X : XG x z RX12 cX12_areMoved 9 5 113) (E : XE x z) (hr : XR x (some .boolean)) (hZ : z.2.2.2.1 = kdM) (N : Nat) (rc5 : Int32 → Int32 → Int32 → Int32 → Mem → Option (Int32 × Mem)) (hc5 : ∀ (v1 : Int32) (v2 : Int32) (v3 : Int32) (v4 : Int32) (σ : Mem), VK x z 9 (BQ QI x z) 5 [(0, .ref (z.2.2.1 0)), (1, .int v1), (2, .int v2), (3, .int v3), (4, .int v4)] [] σ (rc5 v1 v2 v3 v4 σ)) (rc17 : Int32 → Int32 → Int32 → Int32 → Int32 → Mem → Option (Int32 × Mem)) (hc17 : ∀ (v1 : Int32) (v2 : Int32) (v3 : Int32) (v4 : Int32) (v5 : Int32) (σ : Mem), VK x z 9 (BQ QI x z) 17 [(0, .ref (z.2.2.1 0)), (1, .int v1), (2, .int v2), (3, .int v3), (4, .int v4), (5, .int v5)] [] σ (rc17 v1 v2 v3 v4 v5 σ)) (rc53 : Int32 → Int32 → Int32 → Int32 → Int32 → Int32 → Mem → Option (Int32 × Mem)) (hc53 : ∀ (v1 : Int32) (v2 : Int32) (v3 : Int32) (v4 : Int32) (v5 : Int32) (v6 : Int32) (σ : Mem), VK x z 9 (BQ QI x z) 53 [(0, .ref (z.2.2.1 0)), (1, .int v1), (2, .int v2), (3, .int v3), (4, .int v4), (5, .int v5), (6, .int v6)] [] σ (rc53 v1 v2 v3 v4 v5 v6 σ)) (v1 : Int32) (v2 : Int32) (v3 : Int32) (v4 : Int32) (v5 : Int32) (v6 : Int32) (σ : Mem) : VK x z 9 (BQ QI x z) 53 [(0, .ref (z.2.2.1 0)), (1, .int v1), (2, .int v2), (3, .int v3), (4, .int v4), (5, .int v5), (6, .int v6)] [] σ (fX12_areMoved_b53 N rc5 rc17 rc53 v1 v2 v3 v4 v5 v6 σ) := by
  unfold fX12_areMoved_b53
  refine V_iload 6 X dX12_areMoved_53 rfl ?_
  refine V_iload_n 2 X dX12_areMoved_55 rfl rfl ?_
  refine V_if_eq (tgt := 66) X dX12_areMoved_56 (by decide) ?_ ?_
  · refine V_iload 4 X dX12_areMoved_66 rfl ?_
    refine V_iconst (v := 1) X dX12_areMoved_68 (by decide) ?_
    refine V_iadd X dX12_areMoved_69 ?_
    refine V_sub [0, 1, 2, 3, 4, 5, 6] rfl ?_
    exact bX12_areMoved_70 X E hr hZ N rc5 hc5 rc17 hc17 rc53 hc53 v1 v2 v3 v4 v5 v6 (v4 + 1) v6 σ
  · refine V_aload_n 0 X dX12_areMoved_59 rfl rfl ?_
    refine V_getI 13 X dX12_areMoved_60 co12 (kM hZ 0 _ rfl) (by decide) rfl wfX12_162 ?_
    refine V_goto (tgt := 70) X dX12_areMoved_63 (by decide) ?_
    refine V_sub [0, 1, 2, 3, 4, 5, 6] rfl ?_
    exact bX12_areMoved_70 X E hr hZ N rc5 hc5 rc17 hc17 rc53 hc53 v1 v2 v3 v4 v5 v6 (σ.1 0 13) v6 σ
def fX12_areMoved_l53 (N : Nat) (rc5 : Int32 → Int32 → Int32 → Int32 → Mem → Option (Int32 × Mem)) (rc17 : Int32 → Int32 → Int32 → Int32 → Int32 → Mem → Option (Int32 × Mem)) : Nat → Int32 → Int32 → Int32 → Int32 → Int32 → Int32 → Mem → Option (Int32 × Mem)
  | 0 => fun _ _ _ _ _ _ _ => none
  | n + 1 => fX12_areMoved_b53 N rc5 rc17 (fX12_areMoved_l53 N rc5 rc17 n)
theorem lX12_areMoved_53 {x : Cx} {z : Sx} (X : XG x z RX12 cX12_areMoved 9 5 113) (E : XE x z) (hr : XR x (some .boolean)) (hZ : z.2.2.2.1 = kdM) (N : Nat) (rc5 : Int32 → Int32 → Int32 → Int32 → Mem → Option (Int32 × Mem)) (hc5 : ∀ (v1 : Int32) (v2 : Int32) (v3 : Int32) (v4 : Int32) (σ : Mem), VK x z 9 (BQ QI x z) 5 [(0, .ref (z.2.2.1 0)), (1, .int v1), (2, .int v2), (3, .int v3), (4, .int v4)] [] σ (rc5 v1 v2 v3 v4 σ)) (rc17 : Int32 → Int32 → Int32 → Int32 → Int32 → Mem → Option (Int32 × Mem)) (hc17 : ∀ (v1 : Int32) (v2 : Int32) (v3 : Int32) (v4 : Int32) (v5 : Int32) (σ : Mem), VK x z 9 (BQ QI x z) 17 [(0, .ref (z.2.2.1 0)), (1, .int v1), (2, .int v2), (3, .int v3), (4, .int v4), (5, .int v5)] [] σ (rc17 v1 v2 v3 v4 v5 σ)) (n : Nat) (v1 : Int32) (v2 : Int32) (v3 : Int32) (v4 : Int32) (v5 : Int32) (v6 : Int32) (σ : Mem) : VK x z 9 (BQ QI x z) 53 [(0, .ref (z.2.2.1 0)), (1, .int v1), (2, .int v2), (3, .int v3), (4, .int v4), (5, .int v5), (6, .int v6)] [] σ (fX12_areMoved_l53 N rc5 rc17 n v1 v2 v3 v4 v5 v6 σ) := by
  induction n generalizing v1 v2 v3 v4 v5 v6 σ with
  | zero => exact V_none
  | succ n ih => exact bX12_areMoved_53 X E hr hZ N rc5 hc5 rc17 hc17 (fX12_areMoved_l53 N rc5 rc17 n) ih v1 v2 v3 v4 v5 v6 σ
def fX12_areMoved_b51 (N : Nat) (rc5 : Int32 → Int32 → Int32 → Int32 → Mem → Option (Int32 × Mem)) (rc17 : Int32 → Int32 → Int32 → Int32 → Int32 → Mem → Option (Int32 × Mem)) (v1 : Int32) (v2 : Int32) (v3 : Int32) (v4 : Int32) (v5 : Int32) (t0 : Int32) (σ : Mem) : Option (Int32 × Mem) :=
  lt_ t0 (fun v6_7 => fX12_areMoved_l53 N rc5 rc17 N v1 v2 v3 v4 v5 v6_7 σ)
set_option maxRecDepth 100000 in
set_option maxHeartbeats 4000000 in
theorem bX12_areMoved_51 {x : Cx} {z : Sx} (X : XG x z RX12 cX12_areMoved 9 5 113) (E : XE x z) (hr : XR x (some .boolean)) (hZ : z.2.2.2.1 = kdM) (N : Nat) (rc5 : Int32 → Int32 → Int32 → Int32 → Mem → Option (Int32 × Mem)) (hc5 : ∀ (v1 : Int32) (v2 : Int32) (v3 : Int32) (v4 : Int32) (σ : Mem), VK x z 9 (BQ QI x z) 5 [(0, .ref (z.2.2.1 0)), (1, .int v1), (2, .int v2), (3, .int v3), (4, .int v4)] [] σ (rc5 v1 v2 v3 v4 σ)) (rc17 : Int32 → Int32 → Int32 → Int32 → Int32 → Mem → Option (Int32 × Mem)) (hc17 : ∀ (v1 : Int32) (v2 : Int32) (v3 : Int32) (v4 : Int32) (v5 : Int32) (σ : Mem), VK x z 9 (BQ QI x z) 17 [(0, .ref (z.2.2.1 0)), (1, .int v1), (2, .int v2), (3, .int v3), (4, .int v4), (5, .int v5)] [] σ (rc17 v1 v2 v3 v4 v5 σ)) (v1 : Int32) (v2 : Int32) (v3 : Int32) (v4 : Int32) (v5 : Int32) (t0 : Int32) (σ : Mem) : VK x z 9 (BQ QI x z) 51 [(0, .ref (z.2.2.1 0)), (1, .int v1), (2, .int v2), (3, .int v3), (4, .int v4), (5, .int v5)] [.int t0] σ (fX12_areMoved_b51 N rc5 rc17 v1 v2 v3 v4 v5 t0 σ) := by
  unfold fX12_areMoved_b51
  refine V_istoreG (L' := fun v6_7 => [(6, .int v6_7), (0, .ref (z.2.2.1 0)), (1, .int v1), (2, .int v2), (3, .int v3), (4, .int v4), (5, .int v5)]) X dX12_areMoved_51 (by decide) (fun _ => rfl) (fun v6_7 => ?_)
  refine V_sub [1, 2, 3, 4, 5, 6, 0] rfl ?_
  exact lX12_areMoved_53 X E hr hZ N rc5 hc5 rc17 hc17 N v1 v2 v3 v4 v5 v6_7 σ
def fX12_areMoved_b17 (N : Nat) (rc5 : Int32 → Int32 → Int32 → Int32 → Mem → Option (Int32 × Mem)) (rc17 : Int32 → Int32 → Int32 → Int32 → Int32 → Mem → Option (Int32 × Mem)) (v1 : Int32) (v2 : Int32) (v3 : Int32) (v4 : Int32) (v5 : Int32) (σ : Mem) : Option (Int32 × Mem) :=
  if 8 < v5 then lt_ (v4 + 1) (fun v4_4 => rc5 v1 v2 v3 v4_4 σ) else bd (fX12_isSeat N v4 v5 σ) (fun r5 s6 => if r5 = 0 then fX12_areMoved_b203 N rc5 rc17 v1 v2 v3 v4 v5 s6 else if v2 = 0 then fX12_areMoved_b51 N rc5 rc17 v1 v2 v3 v4 v5 v4 s6 else fX12_areMoved_b51 N rc5 rc17 v1 v2 v3 v4 v5 (v4 + 1) s6)
set_option maxRecDepth 100000 in
set_option maxHeartbeats 4000000 in
theorem bX12_areMoved_17 {x : Cx} {z : Sx} (X : XG x z RX12 cX12_areMoved 9 5 113) (E : XE x z) (hr : XR x (some .boolean)) (hZ : z.2.2.2.1 = kdM) (N : Nat) (rc5 : Int32 → Int32 → Int32 → Int32 → Mem → Option (Int32 × Mem)) (hc5 : ∀ (v1 : Int32) (v2 : Int32) (v3 : Int32) (v4 : Int32) (σ : Mem), VK x z 9 (BQ QI x z) 5 [(0, .ref (z.2.2.1 0)), (1, .int v1), (2, .int v2), (3, .int v3), (4, .int v4)] [] σ (rc5 v1 v2 v3 v4 σ)) (rc17 : Int32 → Int32 → Int32 → Int32 → Int32 → Mem → Option (Int32 × Mem)) (hc17 : ∀ (v1 : Int32) (v2 : Int32) (v3 : Int32) (v4 : Int32) (v5 : Int32) (σ : Mem), VK x z 9 (BQ QI x z) 17 [(0, .ref (z.2.2.1 0)), (1, .int v1), (2, .int v2), (3, .int v3), (4, .int v4), (5, .int v5)] [] σ (rc17 v1 v2 v3 v4 v5 σ)) (v1 : Int32) (v2 : Int32) (v3 : Int32) (v4 : Int32) (v5 : Int32) (σ : Mem) : VK x z 9 (BQ QI x z) 17 [(0, .ref (z.2.2.1 0)), (1, .int v1), (2, .int v2), (3, .int v3), (4, .int v4), (5, .int v5)] [] σ (fX12_areMoved_b17 N rc5 rc17 v1 v2 v3 v4 v5 σ) := by
  unfold fX12_areMoved_b17
  refine V_iload 5 X dX12_areMoved_17 rfl ?_
  refine V_bipush (v := 8) X dX12_areMoved_19 (by decide) ?_
  refine V_icmp_gt (tgt := 209) X dX12_areMoved_21 (by decide) ?_ ?_
  · refine V_iincG (L' := fun v4_4 => [(4, .int v4_4), (0, .ref (z.2.2.1 0)), (1, .int v1), (2, .int v2), (3, .int v3), (5, .int v5)]) 4 X dX12_areMoved_209 rfl rfl (by decide) (fun _ => rfl) (fun v4_4 => ?_)
    refine V_goto (tgt := 5) X dX12_areMoved_212 (by decide) ?_
    refine V_sub [1, 2, 3, 4, 0] rfl ?_
    exact hc5 v1 v2 v3 v4_4 σ
  · refine V_aload_n 0 X dX12_areMoved_24 rfl rfl ?_
    refine V_iload 4 X dX12_areMoved_25 rfl ?_
    refine V_iload 5 X dX12_areMoved_27 rfl ?_
    refine V_callI [.int v4, .int v5] [] X E dX12_areMoved_29 (kX12_isSeat x.2.1 z hZ N v4 v5 σ) co12 (kM hZ 0 _ rfl) gcX12_267 hyX12_isSeat rfl ⟨by decide, by decide⟩ rfl (Nat.le_of_ble_eq_true rfl) (fun r5 s6 => ?_)
    refine V_if_ne (tgt := 38) X dX12_areMoved_32 (by decide) ?_ ?_
    · refine V_iload_n 2 X dX12_areMoved_38 rfl rfl ?_
      refine V_if_eq (tgt := 49) X dX12_areMoved_39 (by decide) ?_ ?_
      · refine V_iload 4 X dX12_areMoved_49 rfl ?_
        refine V_sub [0, 1, 2, 3, 4, 5] rfl ?_
        exact bX12_areMoved_51 X E hr hZ N rc5 hc5 rc17 hc17 v1 v2 v3 v4 v5 v4 s6
      · refine V_iload 4 X dX12_areMoved_42 rfl ?_
        refine V_iconst (v := 1) X dX12_areMoved_44 (by decide) ?_
        refine V_iadd X dX12_areMoved_45 ?_
        refine V_goto (tgt := 51) X dX12_areMoved_46 (by decide) ?_
        refine V_sub [0, 1, 2, 3, 4, 5] rfl ?_
        exact bX12_areMoved_51 X E hr hZ N rc5 hc5 rc17 hc17 v1 v2 v3 v4 v5 (v4 + 1) s6
    · refine V_goto (tgt := 203) X dX12_areMoved_35 (by decide) ?_
      refine V_sub [0, 1, 2, 3, 4, 5] rfl ?_
      exact bX12_areMoved_203 X E hr hZ N rc5 hc5 rc17 hc17 v1 v2 v3 v4 v5 s6
def fX12_areMoved_l17 (N : Nat) (rc5 : Int32 → Int32 → Int32 → Int32 → Mem → Option (Int32 × Mem)) : Nat → Int32 → Int32 → Int32 → Int32 → Int32 → Mem → Option (Int32 × Mem)
  | 0 => fun _ _ _ _ _ _ => none
  | n + 1 => fX12_areMoved_b17 N rc5 (fX12_areMoved_l17 N rc5 n)
theorem lX12_areMoved_17 {x : Cx} {z : Sx} (X : XG x z RX12 cX12_areMoved 9 5 113) (E : XE x z) (hr : XR x (some .boolean)) (hZ : z.2.2.2.1 = kdM) (N : Nat) (rc5 : Int32 → Int32 → Int32 → Int32 → Mem → Option (Int32 × Mem)) (hc5 : ∀ (v1 : Int32) (v2 : Int32) (v3 : Int32) (v4 : Int32) (σ : Mem), VK x z 9 (BQ QI x z) 5 [(0, .ref (z.2.2.1 0)), (1, .int v1), (2, .int v2), (3, .int v3), (4, .int v4)] [] σ (rc5 v1 v2 v3 v4 σ)) (n : Nat) (v1 : Int32) (v2 : Int32) (v3 : Int32) (v4 : Int32) (v5 : Int32) (σ : Mem) : VK x z 9 (BQ QI x z) 17 [(0, .ref (z.2.2.1 0)), (1, .int v1), (2, .int v2), (3, .int v3), (4, .int v4), (5, .int v5)] [] σ (fX12_areMoved_l17 N rc5 n v1 v2 v3 v4 v5 σ) := by
  induction n generalizing v1 v2 v3 v4 v5 σ with
  | zero => exact V_none
  | succ n ih => exact bX12_areMoved_17 X E hr hZ N rc5 hc5 (fX12_areMoved_l17 N rc5 n) ih v1 v2 v3 v4 v5 σ
def fX12_areMoved_b5 (N : Nat) (rc5 : Int32 → Int32 → Int32 → Int32 → Mem → Option (Int32 × Mem)) (v1 : Int32) (v2 : Int32) (v3 : Int32) (v4 : Int32) (σ : Mem) : Option (Int32 × Mem) :=
  if (σ.1 0 13) ≤ v4 then gd (decide (v3 = 0 ∨ v3 = 1)) (some (v3, σ)) else lt_ 0 (fun v5_3 => fX12_areMoved_l17 N rc5 N v1 v2 v3 v4 v5_3 σ)
set_option maxRecDepth 100000 in
set_option maxHeartbeats 4000000 in
theorem bX12_areMoved_5 {x : Cx} {z : Sx} (X : XG x z RX12 cX12_areMoved 9 5 113) (E : XE x z) (hr : XR x (some .boolean)) (hZ : z.2.2.2.1 = kdM) (N : Nat) (rc5 : Int32 → Int32 → Int32 → Int32 → Mem → Option (Int32 × Mem)) (hc5 : ∀ (v1 : Int32) (v2 : Int32) (v3 : Int32) (v4 : Int32) (σ : Mem), VK x z 9 (BQ QI x z) 5 [(0, .ref (z.2.2.1 0)), (1, .int v1), (2, .int v2), (3, .int v3), (4, .int v4)] [] σ (rc5 v1 v2 v3 v4 σ)) (v1 : Int32) (v2 : Int32) (v3 : Int32) (v4 : Int32) (σ : Mem) : VK x z 9 (BQ QI x z) 5 [(0, .ref (z.2.2.1 0)), (1, .int v1), (2, .int v2), (3, .int v3), (4, .int v4)] [] σ (fX12_areMoved_b5 N rc5 v1 v2 v3 v4 σ) := by
  unfold fX12_areMoved_b5
  refine V_iload 4 X dX12_areMoved_5 rfl ?_
  refine V_aload_n 0 X dX12_areMoved_7 rfl rfl ?_
  refine V_getI 13 X dX12_areMoved_8 co12 (kM hZ 0 _ rfl) (by decide) rfl wfX12_162 ?_
  refine V_icmp_ge (tgt := 215) X dX12_areMoved_11 (by decide) ?_ ?_
  · refine V_iload_n 3 X dX12_areMoved_215 rfl rfl ?_
    exact V_zretG X E hr dX12_areMoved_216
  · refine V_iconst (v := 0) X dX12_areMoved_14 (by decide) ?_
    refine V_istoreG (L' := fun v5_3 => [(5, .int v5_3), (0, .ref (z.2.2.1 0)), (1, .int v1), (2, .int v2), (3, .int v3), (4, .int v4)]) X dX12_areMoved_15 (by decide) (fun _ => rfl) (fun v5_3 => ?_)
    refine V_sub [1, 2, 3, 4, 5, 0] rfl ?_
    exact lX12_areMoved_17 X E hr hZ N rc5 hc5 N v1 v2 v3 v4 v5_3 σ
def fX12_areMoved_l5 (N : Nat) : Nat → Int32 → Int32 → Int32 → Int32 → Mem → Option (Int32 × Mem)
  | 0 => fun _ _ _ _ _ => none
  | n + 1 => fX12_areMoved_b5 N (fX12_areMoved_l5 N n)
theorem lX12_areMoved_5 {x : Cx} {z : Sx} (X : XG x z RX12 cX12_areMoved 9 5 113) (E : XE x z) (hr : XR x (some .boolean)) (hZ : z.2.2.2.1 = kdM) (N : Nat) (n : Nat) (v1 : Int32) (v2 : Int32) (v3 : Int32) (v4 : Int32) (σ : Mem) : VK x z 9 (BQ QI x z) 5 [(0, .ref (z.2.2.1 0)), (1, .int v1), (2, .int v2), (3, .int v3), (4, .int v4)] [] σ (fX12_areMoved_l5 N n v1 v2 v3 v4 σ) := by
  induction n generalizing v1 v2 v3 v4 σ with
  | zero => exact V_none
  | succ n ih => exact bX12_areMoved_5 X E hr hZ N (fX12_areMoved_l5 N n) ih v1 v2 v3 v4 σ
def fX12_areMoved (N : Nat) (v1 : Int32) (v2 : Int32) (σ : Mem) : Option (Int32 × Mem) :=
  lt_ 0 (fun v3_1 => lt_ 0 (fun v4_2 => fX12_areMoved_l5 N N v1 v2 v3_1 v4_2 σ))
set_option maxRecDepth 100000 in
set_option maxHeartbeats 4000000 in
theorem bX12_areMoved_0 {x : Cx} {z : Sx} (X : XG x z RX12 cX12_areMoved 9 5 113) (E : XE x z) (hr : XR x (some .boolean)) (hZ : z.2.2.2.1 = kdM) (N : Nat) (v1 : Int32) (v2 : Int32) (σ : Mem) : VK x z 9 (BQ QI x z) 0 [(0, .ref (z.2.2.1 0)), (1, .int v1), (2, .int v2)] [] σ (fX12_areMoved N v1 v2 σ) := by
  unfold fX12_areMoved
  refine V_iconst (v := 0) X dX12_areMoved_0 (by decide) ?_
  refine V_istore_nG (L' := fun v3_1 => [(3, .int v3_1), (0, .ref (z.2.2.1 0)), (1, .int v1), (2, .int v2)]) X dX12_areMoved_1 rfl (by decide) (fun _ => rfl) (fun v3_1 => ?_)
  refine V_iconst (v := 0) X dX12_areMoved_2 (by decide) ?_
  refine V_istoreG (L' := fun v4_2 => [(4, .int v4_2), (3, .int v3_1), (0, .ref (z.2.2.1 0)), (1, .int v1), (2, .int v2)]) X dX12_areMoved_3 (by decide) (fun _ => rfl) (fun v4_2 => ?_)
  refine V_sub [2, 3, 4, 1, 0] rfl ?_
  exact lX12_areMoved_5 X E hr hZ N N v1 v2 v3_1 v4_2 σ
theorem kX12_areMoved (l : Launch) (z : Sx) (hZ : z.2.2.2.1 = kdM) (N : Nat) (v1 : Int32) (v2 : Int32) (σ : Mem) : Ct QI yX12_areMoved cX12_areMoved 9 (some .boolean) 5 113 l z [.ref (z.2.2.1 0), .int v1, .int v2] σ (fX12_areMoved N v1 v2 σ) := by
  refine Ct_of (by decide +kernel) (Nat.le_of_ble_eq_true rfl) rfl ?_
  intro x _ X E hr
  exact bX12_areMoved_0 X E hr hZ N v1 v2 σ
