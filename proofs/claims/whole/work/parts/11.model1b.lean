def fX12_personLine_b77 (N : Nat) (v3 : Int32) (v4 : Int32) (v5 : Int32) (t0 : Int32) (σ : Mem) : Option (Unit × Mem) :=
  lt_ (pI σ 0 9 t0) (fun s10 => if v3 = 0 then some ((), s10) else gd (inb 1 121) (gd (inb (51 + (2 * (s10.1 3 (1 : Int32).toNatClampNeg))) 121) (lt_ (pI s10 3 (51 + (2 * (s10.1 3 (1 : Int32).toNatClampNeg))).toNatClampNeg v4) (fun s11 => gd (inb 1 121) (gd (inb ((51 + (2 * (s11.1 3 (1 : Int32).toNatClampNeg))) + 1) 121) (lt_ (pI s11 3 ((51 + (2 * (s11.1 3 (1 : Int32).toNatClampNeg))) + 1).toNatClampNeg v5) (fun s12 => gd (inb 1 121) (gd (inb 1 121) (lt_ (pI s12 3 (1 : Int32).toNatClampNeg ((s12.1 3 (1 : Int32).toNatClampNeg) + 1)) (fun s13 => some ((), s13)))))))))))
set_option maxRecDepth 100000 in
set_option maxHeartbeats 4000000 in
theorem bX12_personLine_77 {x : Cx} {z : Sx} (X : XG x z RX12 cX12_personLine 6 5 117) (E : XE x z) (hr : XR x none) (hZ : z.2.2.2.1 = kdM) (N : Nat) (v3 : Int32) (v4 : Int32) (v5 : Int32) (t0 : Int32) (σ : Mem) : VK x z 6 (BQ QV x z) 77 [(0, .ref (z.2.2.1 0)), (3, .int v3), (4, .int v4), (5, .int v5)] [.int t0, .ref (z.2.2.1 0)] σ (fX12_personLine_b77 N v3 v4 v5 t0 σ) := by
  unfold fX12_personLine_b77
  refine V_putIG 9 X dX12_personLine_77 co12 (kM hZ 0 _ rfl) (by decide) rfl wfX12_124 rfl rfl rfl (fun s10 => ?_)
  refine V_iload_n 1 X dX12_personLine_80 rfl rfl ?_
  refine V_if_ne (tgt := 85) X dX12_personLine_81 (by decide) ?_ ?_
  · refine V_aload_n 0 X dX12_personLine_85 rfl rfl ?_
    refine V_getR (k1 := 3) 10 X dX12_personLine_86 co12 (kM hZ 0 _ rfl) (by decide) rfl rfl wfX12_17 ?_
    refine V_bipush (v := 51) X dX12_personLine_89 (by decide) ?_
    refine V_iconst (v := 2) X dX12_personLine_91 (by decide) ?_
    refine V_aload_n 0 X dX12_personLine_92 rfl rfl ?_
    refine V_getR (k1 := 3) 10 X dX12_personLine_93 co12 (kM hZ 0 _ rfl) (by decide) rfl rfl wfX12_17 ?_
    refine V_iconst (v := 1) X dX12_personLine_96 (by decide) ?_
    refine V_iald X dX12_personLine_97 (kM hZ 3 _ rfl) ?_
    refine V_imul X dX12_personLine_98 ?_
    refine V_iadd X dX12_personLine_99 ?_
    refine V_iload 2 X dX12_personLine_100 rfl ?_
    refine V_iastG X dX12_personLine_102 (kM hZ 3 _ rfl) (fun s11 => ?_)
    refine V_aload_n 0 X dX12_personLine_103 rfl rfl ?_
    refine V_getR (k1 := 3) 10 X dX12_personLine_104 co12 (kM hZ 0 _ rfl) (by decide) rfl rfl wfX12_17 ?_
    refine V_bipush (v := 51) X dX12_personLine_107 (by decide) ?_
    refine V_iconst (v := 2) X dX12_personLine_109 (by decide) ?_
    refine V_aload_n 0 X dX12_personLine_110 rfl rfl ?_
    refine V_getR (k1 := 3) 10 X dX12_personLine_111 co12 (kM hZ 0 _ rfl) (by decide) rfl rfl wfX12_17 ?_
    refine V_iconst (v := 1) X dX12_personLine_114 (by decide) ?_
    refine V_iald X dX12_personLine_115 (kM hZ 3 _ rfl) ?_
    refine V_imul X dX12_personLine_116 ?_
    refine V_iadd X dX12_personLine_117 ?_
    refine V_iconst (v := 1) X dX12_personLine_118 (by decide) ?_
    refine V_iadd X dX12_personLine_119 ?_
    refine V_iload 3 X dX12_personLine_120 rfl ?_
    refine V_iastG X dX12_personLine_122 (kM hZ 3 _ rfl) (fun s12 => ?_)
    refine V_aload_n 0 X dX12_personLine_123 rfl rfl ?_
    refine V_getR (k1 := 3) 10 X dX12_personLine_124 co12 (kM hZ 0 _ rfl) (by decide) rfl rfl wfX12_17 ?_
    refine V_iconst (v := 1) X dX12_personLine_127 (by decide) ?_
    refine V_dup2 X dX12_personLine_128 rfl rfl ?_
    refine V_iald X dX12_personLine_129 (kM hZ 3 _ rfl) ?_
    refine V_iconst (v := 1) X dX12_personLine_130 (by decide) ?_
    refine V_iadd X dX12_personLine_131 ?_
    refine V_iastG X dX12_personLine_132 (kM hZ 3 _ rfl) (fun s13 => ?_)
    exact V_vret X E hr dX12_personLine_133
  · exact V_vret X E hr dX12_personLine_84
def fX12_personLine_b73 (N : Nat) (v3 : Int32) (v4 : Int32) (v5 : Int32) (σ : Mem) : Option (Unit × Mem) :=
  fX12_personLine_b77 N v3 v4 v5 (σ.1 0 9) σ
set_option maxRecDepth 100000 in
set_option maxHeartbeats 4000000 in
theorem bX12_personLine_73 {x : Cx} {z : Sx} (X : XG x z RX12 cX12_personLine 6 5 117) (E : XE x z) (hr : XR x none) (hZ : z.2.2.2.1 = kdM) (N : Nat) (v3 : Int32) (v4 : Int32) (v5 : Int32) (σ : Mem) : VK x z 6 (BQ QV x z) 73 [(0, .ref (z.2.2.1 0)), (3, .int v3), (4, .int v4), (5, .int v5)] [.ref (z.2.2.1 0)] σ (fX12_personLine_b73 N v3 v4 v5 σ) := by
  unfold fX12_personLine_b73
  refine V_aload_n 0 X dX12_personLine_73 rfl rfl ?_
  refine V_getI 9 X dX12_personLine_74 co12 (kM hZ 0 _ rfl) (by decide) rfl wfX12_124 ?_
  refine V_sub [0, 1, 2, 3] rfl ?_
  exact bX12_personLine_77 X E hr hZ N v3 v4 v5 (σ.1 0 9) σ
def fX12_personLine_b52 (N : Nat) (v2 : Int32) (v3 : Int32) (v4 : Int32) (t0 : Int32) (σ : Mem) : Option (Unit × Mem) :=
  lt_ t0 (fun v5_9 => if v2 = 0 then fX12_personLine_b73 N v3 v4 v5_9 σ else if v5_9 ≤ (σ.1 0 9) then fX12_personLine_b73 N v3 v4 v5_9 σ else fX12_personLine_b77 N v3 v4 v5_9 v5_9 σ)
set_option maxRecDepth 100000 in
set_option maxHeartbeats 4000000 in
theorem bX12_personLine_52 {x : Cx} {z : Sx} (X : XG x z RX12 cX12_personLine 6 5 117) (E : XE x z) (hr : XR x none) (hZ : z.2.2.2.1 = kdM) (N : Nat) (v2 : Int32) (v3 : Int32) (v4 : Int32) (t0 : Int32) (σ : Mem) : VK x z 6 (BQ QV x z) 52 [(0, .ref (z.2.2.1 0)), (2, .int v2), (3, .int v3), (4, .int v4)] [.int t0] σ (fX12_personLine_b52 N v2 v3 v4 t0 σ) := by
  unfold fX12_personLine_b52
  refine V_istoreG (L' := fun v5_9 => [(5, .int v5_9), (0, .ref (z.2.2.1 0)), (2, .int v2), (3, .int v3), (4, .int v4)]) X dX12_personLine_52 (by decide) (fun _ => rfl) (fun v5_9 => ?_)
  refine V_aload_n 1 X dX12_personLine_54 rfl rfl ?_
  refine V_iload_n 2 X dX12_personLine_55 rfl rfl ?_
  refine V_if_eq (tgt := 73) X dX12_personLine_56 (by decide) ?_ ?_
  · refine V_sub [1, 3, 4, 0] rfl ?_
    exact bX12_personLine_73 X E hr hZ N v3 v4 v5_9 σ
  · refine V_iload 0 X dX12_personLine_59 rfl ?_
    refine V_aload_n 1 X dX12_personLine_61 rfl rfl ?_
    refine V_getI 9 X dX12_personLine_62 co12 (kM hZ 0 _ rfl) (by decide) rfl wfX12_124 ?_
    refine V_icmp_le (tgt := 73) X dX12_personLine_65 (by decide) ?_ ?_
    · refine V_sub [1, 3, 4, 0] rfl ?_
      exact bX12_personLine_73 X E hr hZ N v3 v4 v5_9 σ
    · refine V_iload 0 X dX12_personLine_68 rfl ?_
      refine V_goto (tgt := 77) X dX12_personLine_70 (by decide) ?_
      refine V_sub [1, 3, 4, 0] rfl ?_
      exact bX12_personLine_77 X E hr hZ N v3 v4 v5_9 v5_9 σ
def fX12_personLine_b27 (N : Nat) (v2 : Int32) (v3 : Int32) (σ : Mem) : Option (Unit × Mem) :=
  bd (fX12_numbered N 1 30 σ) (fun r4 s5 => lt_ r4 (fun v4_6 => if v2 = 0 then fX12_personLine_b52 N v2 v3 v4_6 8 s5 else bd (fX12_numbered N 0 7 s5) (fun r7 s8 => fX12_personLine_b52 N v2 v3 v4_6 r7 s8)))
set_option maxRecDepth 100000 in
set_option maxHeartbeats 4000000 in
theorem bX12_personLine_27 {x : Cx} {z : Sx} (X : XG x z RX12 cX12_personLine 6 5 117) (E : XE x z) (hr : XR x none) (hZ : z.2.2.2.1 = kdM) (N : Nat) (v2 : Int32) (v3 : Int32) (σ : Mem) : VK x z 6 (BQ QV x z) 27 [(0, .ref (z.2.2.1 0)), (2, .int v2), (3, .int v3)] [] σ (fX12_personLine_b27 N v2 v3 σ) := by
  unfold fX12_personLine_b27
  refine V_aload_n 0 X dX12_personLine_27 rfl rfl ?_
  refine V_iconst (v := 1) X dX12_personLine_28 (by decide) ?_
  refine V_bipush (v := 30) X dX12_personLine_29 (by decide) ?_
  refine V_callI [.int 1, .int 30] [] X E dX12_personLine_31 (kX12_numbered x.2.1 z hZ N 1 30 σ) co12 (kM hZ 0 _ rfl) gcX12_121 hyX12_numbered rfl ⟨by decide, by decide⟩ rfl (Nat.le_of_ble_eq_true rfl) (fun r4 s5 => ?_)
  refine V_istoreG (L' := fun v4_6 => [(4, .int v4_6), (0, .ref (z.2.2.1 0)), (2, .int v2), (3, .int v3)]) X dX12_personLine_34 (by decide) (fun _ => rfl) (fun v4_6 => ?_)
  refine V_iload_n 2 X dX12_personLine_36 rfl rfl ?_
  refine V_if_eq (tgt := 50) X dX12_personLine_37 (by decide) ?_ ?_
  · refine V_bipush (v := 8) X dX12_personLine_50 (by decide) ?_
    refine V_sub [1, 2, 3, 0] rfl ?_
    exact bX12_personLine_52 X E hr hZ N v2 v3 v4_6 8 s5
  · refine V_aload_n 1 X dX12_personLine_40 rfl rfl ?_
    refine V_iconst (v := 0) X dX12_personLine_41 (by decide) ?_
    refine V_bipush (v := 7) X dX12_personLine_42 (by decide) ?_
    refine V_callI [.int 0, .int 7] [] X E dX12_personLine_44 (kX12_numbered x.2.1 z hZ N 0 7 s5) co12 (kM hZ 0 _ rfl) gcX12_121 hyX12_numbered rfl ⟨by decide, by decide⟩ rfl (Nat.le_of_ble_eq_true rfl) (fun r7 s8 => ?_)
    refine V_goto (tgt := 52) X dX12_personLine_47 (by decide) ?_
    refine V_sub [1, 2, 3, 0] rfl ?_
    exact bX12_personLine_52 X E hr hZ N v2 v3 v4_6 r7 s8
def fX12_personLine_b16 (N : Nat) (v1 : Int32) (v2 : Int32) (t0 : Int32) (σ : Mem) : Option (Unit × Mem) :=
  lt_ t0 (fun v3_1 => if v3_1 = 0 then bd (fX12_also N 3 v1 σ) (fun r2 s3 => fX12_personLine_b27 N v2 v3_1 s3) else fX12_personLine_b27 N v2 v3_1 σ)
set_option maxRecDepth 100000 in
set_option maxHeartbeats 4000000 in
theorem bX12_personLine_16 {x : Cx} {z : Sx} (X : XG x z RX12 cX12_personLine 6 5 117) (E : XE x z) (hr : XR x none) (hZ : z.2.2.2.1 = kdM) (N : Nat) (v1 : Int32) (v2 : Int32) (t0 : Int32) (σ : Mem) : VK x z 6 (BQ QV x z) 16 [(0, .ref (z.2.2.1 0)), (1, .int v1), (2, .int v2)] [.int t0] σ (fX12_personLine_b16 N v1 v2 t0 σ) := by
  unfold fX12_personLine_b16
  refine V_istore_nG (L' := fun v3_1 => [(3, .int v3_1), (0, .ref (z.2.2.1 0)), (1, .int v1), (2, .int v2)]) X dX12_personLine_16 rfl (by decide) (fun _ => rfl) (fun v3_1 => ?_)
  refine V_iload_n 0 X dX12_personLine_17 rfl rfl ?_
  refine V_if_ne (tgt := 27) X dX12_personLine_18 (by decide) ?_ ?_
  · refine V_sub [1, 3, 0] rfl ?_
    exact bX12_personLine_27 X E hr hZ N v2 v3_1 σ
  · refine V_aload_n 1 X dX12_personLine_21 rfl rfl ?_
    refine V_iconst (v := 3) X dX12_personLine_22 (by decide) ?_
    refine V_iload_n 2 X dX12_personLine_23 rfl rfl ?_
    refine V_callV [.int 3, .int v1] [] X E dX12_personLine_24 (kX12_also x.2.1 z hZ N 3 v1 σ) co12 (kM hZ 0 _ rfl) gcX12_110 hyX12_also rfl ⟨by decide, by decide⟩ rfl (Nat.le_of_ble_eq_true rfl) (fun r2 s3 => ?_)
    refine V_sub [1, 3, 0] rfl ?_
    exact bX12_personLine_27 X E hr hZ N v2 v3_1 s3
def fX12_personLine (N : Nat) (v1 : Int32) (v2 : Int32) (σ : Mem) : Option (Unit × Mem) :=
  gd (inb 1 121) (if 6 ≤ (σ.1 3 (1 : Int32).toNatClampNeg) then fX12_personLine_b16 N v1 v2 0 σ else fX12_personLine_b16 N v1 v2 1 σ)
set_option maxRecDepth 100000 in
set_option maxHeartbeats 4000000 in
theorem bX12_personLine_0 {x : Cx} {z : Sx} (X : XG x z RX12 cX12_personLine 6 5 117) (E : XE x z) (hr : XR x none) (hZ : z.2.2.2.1 = kdM) (N : Nat) (v1 : Int32) (v2 : Int32) (σ : Mem) : VK x z 6 (BQ QV x z) 0 [(0, .ref (z.2.2.1 0)), (1, .int v1), (2, .int v2)] [] σ (fX12_personLine N v1 v2 σ) := by
  unfold fX12_personLine
  refine V_aload_n 0 X dX12_personLine_0 rfl rfl ?_
  refine V_getR (k1 := 3) 10 X dX12_personLine_1 co12 (kM hZ 0 _ rfl) (by decide) rfl rfl wfX12_17 ?_
  refine V_iconst (v := 1) X dX12_personLine_4 (by decide) ?_
  refine V_iald X dX12_personLine_5 (kM hZ 3 _ rfl) ?_
  refine V_bipush (v := 6) X dX12_personLine_6 (by decide) ?_
  refine V_icmp_ge (tgt := 15) X dX12_personLine_8 (by decide) ?_ ?_
  · refine V_iconst (v := 0) X dX12_personLine_15 (by decide) ?_
    refine V_sub [0, 1, 2] rfl ?_
    exact bX12_personLine_16 X E hr hZ N v1 v2 0 σ
  · refine V_iconst (v := 1) X dX12_personLine_11 (by decide) ?_
    refine V_goto (tgt := 16) X dX12_personLine_12 (by decide) ?_
    refine V_sub [0, 1, 2] rfl ?_
    exact bX12_personLine_16 X E hr hZ N v1 v2 1 σ
theorem kX12_personLine (l : Launch) (z : Sx) (hZ : z.2.2.2.1 = kdM) (N : Nat) (v1 : Int32) (v2 : Int32) (σ : Mem) : Ct QV yX12_personLine cX12_personLine 6 none 5 117 l z [.ref (z.2.2.1 0), .int v1, .int v2] σ (fX12_personLine N v1 v2 σ) := by
  refine Ct_of (by decide +kernel) (Nat.le_of_ble_eq_true rfl) rfl ?_
  intro x _ X E hr
  exact bX12_personLine_0 X E hr hZ N v1 v2 σ
def fX12_pieceLine_b48 (N : Nat) (v2 : Int32) (v3 : Int32) (v4 : Int32) (σ : Mem) : Option (Unit × Mem) :=
  bd (fX12_numbered N 0 50 σ) (fun r7 s8 => lt_ r7 (fun v5_9 => bd (fX12_numbered N 1 99 s8) (fun r10 s11 => lt_ r10 (fun v6_12 => bd (fX12_numbered N 0 63 s11) (fun r13 s14 => lt_ r13 (fun v7_15 => bd (fX12_numbered N 1 9 s14) (fun r16 s17 => lt_ r16 (fun v8_18 => if v4 = 0 then some ((), s17) else gd (inb 0 121) (lt_ (3 + (6 * (s17.1 3 (0 : Int32).toNatClampNeg))) (fun v9_19 => gd (inb v9_19 121) (lt_ (pI s17 3 v9_19.toNatClampNeg v2) (fun s20 => gd (inb (v9_19 + 1) 121) (lt_ (pI s20 3 (v9_19 + 1).toNatClampNeg v3) (fun s21 => gd (inb (v9_19 + 2) 121) (lt_ (pI s21 3 (v9_19 + 2).toNatClampNeg v5_9) (fun s22 => gd (inb (v9_19 + 3) 121) (lt_ (pI s22 3 (v9_19 + 3).toNatClampNeg v6_12) (fun s23 => gd (inb (v9_19 + 4) 121) (lt_ (pI s23 3 (v9_19 + 4).toNatClampNeg v7_15) (fun s24 => gd (inb (v9_19 + 5) 121) (lt_ (pI s24 3 (v9_19 + 5).toNatClampNeg v8_18) (fun s25 => gd (inb 0 121) (gd (inb 0 121) (lt_ (pI s25 3 (0 : Int32).toNatClampNeg ((s25.1 3 (0 : Int32).toNatClampNeg) + 1)) (fun s26 => some ((), s26))))))))))))))))))))))))))
set_option maxRecDepth 100000 in
set_option maxHeartbeats 4000000 in
theorem bX12_pieceLine_48 {x : Cx} {z : Sx} (X : XG x z RX12 cX12_pieceLine 10 5 117) (E : XE x z) (hr : XR x none) (hZ : z.2.2.2.1 = kdM) (N : Nat) (v2 : Int32) (v3 : Int32) (v4 : Int32) (σ : Mem) : VK x z 10 (BQ QV x z) 48 [(0, .ref (z.2.2.1 0)), (2, .int v2), (3, .int v3), (4, .int v4)] [] σ (fX12_pieceLine_b48 N v2 v3 v4 σ) := by
  unfold fX12_pieceLine_b48
  refine V_aload_n 0 X dX12_pieceLine_48 rfl rfl ?_
  refine V_iconst (v := 0) X dX12_pieceLine_49 (by decide) ?_
  refine V_bipush (v := 50) X dX12_pieceLine_50 (by decide) ?_
  refine V_callI [.int 0, .int 50] [] X E dX12_pieceLine_52 (kX12_numbered x.2.1 z hZ N 0 50 σ) co12 (kM hZ 0 _ rfl) gcX12_121 hyX12_numbered rfl ⟨by decide, by decide⟩ rfl (Nat.le_of_ble_eq_true rfl) (fun r7 s8 => ?_)
  refine V_istoreG (L' := fun v5_9 => [(5, .int v5_9), (0, .ref (z.2.2.1 0)), (2, .int v2), (3, .int v3), (4, .int v4)]) X dX12_pieceLine_55 (by decide) (fun _ => rfl) (fun v5_9 => ?_)
  refine V_aload_n 1 X dX12_pieceLine_57 rfl rfl ?_
  refine V_iconst (v := 1) X dX12_pieceLine_58 (by decide) ?_
  refine V_bipush (v := 99) X dX12_pieceLine_59 (by decide) ?_
  refine V_callI [.int 1, .int 99] [] X E dX12_pieceLine_61 (kX12_numbered x.2.1 z hZ N 1 99 s8) co12 (kM hZ 0 _ rfl) gcX12_121 hyX12_numbered rfl ⟨by decide, by decide⟩ rfl (Nat.le_of_ble_eq_true rfl) (fun r10 s11 => ?_)
  refine V_istoreG (L' := fun v6_12 => [(6, .int v6_12), (5, .int v5_9), (0, .ref (z.2.2.1 0)), (2, .int v2), (3, .int v3), (4, .int v4)]) X dX12_pieceLine_64 (by decide) (fun _ => rfl) (fun v6_12 => ?_)
  refine V_aload_n 2 X dX12_pieceLine_66 rfl rfl ?_
  refine V_iconst (v := 0) X dX12_pieceLine_67 (by decide) ?_
  refine V_bipush (v := 63) X dX12_pieceLine_68 (by decide) ?_
  refine V_callI [.int 0, .int 63] [] X E dX12_pieceLine_70 (kX12_numbered x.2.1 z hZ N 0 63 s11) co12 (kM hZ 0 _ rfl) gcX12_121 hyX12_numbered rfl ⟨by decide, by decide⟩ rfl (Nat.le_of_ble_eq_true rfl) (fun r13 s14 => ?_)
  refine V_istoreG (L' := fun v7_15 => [(7, .int v7_15), (6, .int v6_12), (5, .int v5_9), (0, .ref (z.2.2.1 0)), (2, .int v2), (3, .int v3), (4, .int v4)]) X dX12_pieceLine_73 (by decide) (fun _ => rfl) (fun v7_15 => ?_)
  refine V_aload_n 3 X dX12_pieceLine_75 rfl rfl ?_
  refine V_iconst (v := 1) X dX12_pieceLine_76 (by decide) ?_
  refine V_bipush (v := 9) X dX12_pieceLine_77 (by decide) ?_
  refine V_callI [.int 1, .int 9] [] X E dX12_pieceLine_79 (kX12_numbered x.2.1 z hZ N 1 9 s14) co12 (kM hZ 0 _ rfl) gcX12_121 hyX12_numbered rfl ⟨by decide, by decide⟩ rfl (Nat.le_of_ble_eq_true rfl) (fun r16 s17 => ?_)
  refine V_istoreG (L' := fun v8_18 => [(8, .int v8_18), (7, .int v7_15), (6, .int v6_12), (5, .int v5_9), (0, .ref (z.2.2.1 0)), (2, .int v2), (3, .int v3), (4, .int v4)]) X dX12_pieceLine_82 (by decide) (fun _ => rfl) (fun v8_18 => ?_)
  refine V_iload 7 X dX12_pieceLine_84 rfl ?_
  refine V_if_ne (tgt := 90) X dX12_pieceLine_86 (by decide) ?_ ?_
  · refine V_iconst (v := 3) X dX12_pieceLine_90 (by decide) ?_
    refine V_bipush (v := 6) X dX12_pieceLine_91 (by decide) ?_
    refine V_aload_n 4 X dX12_pieceLine_93 rfl rfl ?_
    refine V_getR (k1 := 3) 10 X dX12_pieceLine_94 co12 (kM hZ 0 _ rfl) (by decide) rfl rfl wfX12_17 ?_
    refine V_iconst (v := 0) X dX12_pieceLine_97 (by decide) ?_
    refine V_iald X dX12_pieceLine_98 (kM hZ 3 _ rfl) ?_
    refine V_imul X dX12_pieceLine_99 ?_
    refine V_iadd X dX12_pieceLine_100 ?_
    refine V_istoreG (L' := fun v9_19 => [(9, .int v9_19), (8, .int v8_18), (7, .int v7_15), (6, .int v6_12), (5, .int v5_9), (0, .ref (z.2.2.1 0)), (2, .int v2), (3, .int v3), (4, .int v4)]) X dX12_pieceLine_101 (by decide) (fun _ => rfl) (fun v9_19 => ?_)
    refine V_aload_n 5 X dX12_pieceLine_103 rfl rfl ?_
    refine V_getR (k1 := 3) 10 X dX12_pieceLine_104 co12 (kM hZ 0 _ rfl) (by decide) rfl rfl wfX12_17 ?_
    refine V_iload 0 X dX12_pieceLine_107 rfl ?_
    refine V_iload_n 6 X dX12_pieceLine_109 rfl rfl ?_
    refine V_iastG X dX12_pieceLine_110 (kM hZ 3 _ rfl) (fun s20 => ?_)
    refine V_aload_n 5 X dX12_pieceLine_111 rfl rfl ?_
    refine V_getR (k1 := 3) 10 X dX12_pieceLine_112 co12 (kM hZ 0 _ rfl) (by decide) rfl rfl wfX12_17 ?_
    refine V_iload 0 X dX12_pieceLine_115 rfl ?_
    refine V_iconst (v := 1) X dX12_pieceLine_117 (by decide) ?_
    refine V_iadd X dX12_pieceLine_118 ?_
    refine V_iload_n 7 X dX12_pieceLine_119 rfl rfl ?_
    refine V_iastG X dX12_pieceLine_120 (kM hZ 3 _ rfl) (fun s21 => ?_)
    refine V_aload_n 5 X dX12_pieceLine_121 rfl rfl ?_
    refine V_getR (k1 := 3) 10 X dX12_pieceLine_122 co12 (kM hZ 0 _ rfl) (by decide) rfl rfl wfX12_17 ?_
    refine V_iload 0 X dX12_pieceLine_125 rfl ?_
    refine V_iconst (v := 2) X dX12_pieceLine_127 (by decide) ?_
    refine V_iadd X dX12_pieceLine_128 ?_
    refine V_iload 4 X dX12_pieceLine_129 rfl ?_
    refine V_iastG X dX12_pieceLine_131 (kM hZ 3 _ rfl) (fun s22 => ?_)
    refine V_aload_n 5 X dX12_pieceLine_132 rfl rfl ?_
    refine V_getR (k1 := 3) 10 X dX12_pieceLine_133 co12 (kM hZ 0 _ rfl) (by decide) rfl rfl wfX12_17 ?_
    refine V_iload 0 X dX12_pieceLine_136 rfl ?_
    refine V_iconst (v := 3) X dX12_pieceLine_138 (by decide) ?_
    refine V_iadd X dX12_pieceLine_139 ?_
    refine V_iload 3 X dX12_pieceLine_140 rfl ?_
    refine V_iastG X dX12_pieceLine_142 (kM hZ 3 _ rfl) (fun s23 => ?_)
    refine V_aload_n 5 X dX12_pieceLine_143 rfl rfl ?_
    refine V_getR (k1 := 3) 10 X dX12_pieceLine_144 co12 (kM hZ 0 _ rfl) (by decide) rfl rfl wfX12_17 ?_
    refine V_iload 0 X dX12_pieceLine_147 rfl ?_
    refine V_iconst (v := 4) X dX12_pieceLine_149 (by decide) ?_
    refine V_iadd X dX12_pieceLine_150 ?_
    refine V_iload 2 X dX12_pieceLine_151 rfl ?_
    refine V_iastG X dX12_pieceLine_153 (kM hZ 3 _ rfl) (fun s24 => ?_)
    refine V_aload_n 5 X dX12_pieceLine_154 rfl rfl ?_
    refine V_getR (k1 := 3) 10 X dX12_pieceLine_155 co12 (kM hZ 0 _ rfl) (by decide) rfl rfl wfX12_17 ?_
    refine V_iload 0 X dX12_pieceLine_158 rfl ?_
    refine V_iconst (v := 5) X dX12_pieceLine_160 (by decide) ?_
    refine V_iadd X dX12_pieceLine_161 ?_
    refine V_iload 1 X dX12_pieceLine_162 rfl ?_
    refine V_iastG X dX12_pieceLine_164 (kM hZ 3 _ rfl) (fun s25 => ?_)
    refine V_aload_n 5 X dX12_pieceLine_165 rfl rfl ?_
    refine V_getR (k1 := 3) 10 X dX12_pieceLine_166 co12 (kM hZ 0 _ rfl) (by decide) rfl rfl wfX12_17 ?_
    refine V_iconst (v := 0) X dX12_pieceLine_169 (by decide) ?_
    refine V_dup2 X dX12_pieceLine_170 rfl rfl ?_
    refine V_iald X dX12_pieceLine_171 (kM hZ 3 _ rfl) ?_
    refine V_iconst (v := 1) X dX12_pieceLine_172 (by decide) ?_
    refine V_iadd X dX12_pieceLine_173 ?_
    refine V_iastG X dX12_pieceLine_174 (kM hZ 3 _ rfl) (fun s26 => ?_)
    exact V_vret X E hr dX12_pieceLine_175
  · exact V_vret X E hr dX12_pieceLine_89
def fX12_pieceLine_b28 (N : Nat) (v1 : Int32) (v2 : Int32) (v3 : Int32) (t0 : Int32) (σ : Mem) : Option (Unit × Mem) :=
  lt_ t0 (fun v4_4 => if (σ.1 0 8) = 0 then if v4_4 = 0 then bd (fX12_also N 3 v1 σ) (fun r5 s6 => fX12_pieceLine_b48 N v2 v3 v4_4 s6) else fX12_pieceLine_b48 N v2 v3 v4_4 σ else fX12_pieceLine_b48 N v2 v3 v4_4 σ)
set_option maxRecDepth 100000 in
set_option maxHeartbeats 4000000 in
theorem bX12_pieceLine_28 {x : Cx} {z : Sx} (X : XG x z RX12 cX12_pieceLine 10 5 117) (E : XE x z) (hr : XR x none) (hZ : z.2.2.2.1 = kdM) (N : Nat) (v1 : Int32) (v2 : Int32) (v3 : Int32) (t0 : Int32) (σ : Mem) : VK x z 10 (BQ QV x z) 28 [(0, .ref (z.2.2.1 0)), (1, .int v1), (2, .int v2), (3, .int v3)] [.int t0] σ (fX12_pieceLine_b28 N v1 v2 v3 t0 σ) := by
  unfold fX12_pieceLine_b28
  refine V_istoreG (L' := fun v4_4 => [(4, .int v4_4), (0, .ref (z.2.2.1 0)), (1, .int v1), (2, .int v2), (3, .int v3)]) X dX12_pieceLine_28 (by decide) (fun _ => rfl) (fun v4_4 => ?_)
  refine V_aload_n 1 X dX12_pieceLine_30 rfl rfl ?_
  refine V_getI 8 X dX12_pieceLine_31 co12 (kM hZ 0 _ rfl) (by decide) rfl wfX12_99 ?_
  refine V_if_ne (tgt := 48) X dX12_pieceLine_34 (by decide) ?_ ?_
  · refine V_sub [1, 3, 4, 0] rfl ?_
    exact bX12_pieceLine_48 X E hr hZ N v2 v3 v4_4 σ
  · refine V_iload 0 X dX12_pieceLine_37 rfl ?_
    refine V_if_ne (tgt := 48) X dX12_pieceLine_39 (by decide) ?_ ?_
    · refine V_sub [1, 3, 4, 0] rfl ?_
      exact bX12_pieceLine_48 X E hr hZ N v2 v3 v4_4 σ
    · refine V_aload_n 1 X dX12_pieceLine_42 rfl rfl ?_
      refine V_iconst (v := 3) X dX12_pieceLine_43 (by decide) ?_
      refine V_iload_n 2 X dX12_pieceLine_44 rfl rfl ?_
      refine V_callV [.int 3, .int v1] [] X E dX12_pieceLine_45 (kX12_also x.2.1 z hZ N 3 v1 σ) co12 (kM hZ 0 _ rfl) gcX12_110 hyX12_also rfl ⟨by decide, by decide⟩ rfl (Nat.le_of_ble_eq_true rfl) (fun r5 s6 => ?_)
      refine V_sub [1, 3, 4, 0] rfl ?_
      exact bX12_pieceLine_48 X E hr hZ N v2 v3 v4_4 s6
def fX12_pieceLine (N : Nat) (v1 : Int32) (v2 : Int32) (σ : Mem) : Option (Unit × Mem) :=
  bd (fX12_wordIn N 8 10 σ) (fun r1 s2 => lt_ (r1 - 8) (fun v3_3 => gd (inb 0 121) (if 8 ≤ (s2.1 3 (0 : Int32).toNatClampNeg) then fX12_pieceLine_b28 N v1 v2 v3_3 0 s2 else fX12_pieceLine_b28 N v1 v2 v3_3 1 s2)))
set_option maxRecDepth 100000 in
set_option maxHeartbeats 4000000 in
theorem bX12_pieceLine_0 {x : Cx} {z : Sx} (X : XG x z RX12 cX12_pieceLine 10 5 117) (E : XE x z) (hr : XR x none) (hZ : z.2.2.2.1 = kdM) (N : Nat) (v1 : Int32) (v2 : Int32) (σ : Mem) : VK x z 10 (BQ QV x z) 0 [(0, .ref (z.2.2.1 0)), (1, .int v1), (2, .int v2)] [] σ (fX12_pieceLine N v1 v2 σ) := by
  unfold fX12_pieceLine
  refine V_aload_n 0 X dX12_pieceLine_0 rfl rfl ?_
  refine V_bipush (v := 8) X dX12_pieceLine_1 (by decide) ?_
  refine V_bipush (v := 10) X dX12_pieceLine_3 (by decide) ?_
  refine V_callI [.int 8, .int 10] [] X E dX12_pieceLine_5 (kX12_wordIn x.2.1 z hZ N 8 10 σ) co12 (kM hZ 0 _ rfl) gcX12_117 hyX12_wordIn rfl ⟨by decide, by decide⟩ rfl (Nat.le_of_ble_eq_true rfl) (fun r1 s2 => ?_)
  refine V_bipush (v := 8) X dX12_pieceLine_8 (by decide) ?_
  refine V_isub X dX12_pieceLine_10 ?_
  refine V_istore_nG (L' := fun v3_3 => [(3, .int v3_3), (0, .ref (z.2.2.1 0)), (1, .int v1), (2, .int v2)]) X dX12_pieceLine_11 rfl (by decide) (fun _ => rfl) (fun v3_3 => ?_)
  refine V_aload_n 1 X dX12_pieceLine_12 rfl rfl ?_
  refine V_getR (k1 := 3) 10 X dX12_pieceLine_13 co12 (kM hZ 0 _ rfl) (by decide) rfl rfl wfX12_17 ?_
  refine V_iconst (v := 0) X dX12_pieceLine_16 (by decide) ?_
  refine V_iald X dX12_pieceLine_17 (kM hZ 3 _ rfl) ?_
  refine V_bipush (v := 8) X dX12_pieceLine_18 (by decide) ?_
  refine V_icmp_ge (tgt := 27) X dX12_pieceLine_20 (by decide) ?_ ?_
  · refine V_iconst (v := 0) X dX12_pieceLine_27 (by decide) ?_
    refine V_sub [1, 2, 3, 0] rfl ?_
    exact bX12_pieceLine_28 X E hr hZ N v1 v2 v3_3 0 s2
  · refine V_iconst (v := 1) X dX12_pieceLine_23 (by decide) ?_
    refine V_goto (tgt := 28) X dX12_pieceLine_24 (by decide) ?_
    refine V_sub [1, 2, 3, 0] rfl ?_
    exact bX12_pieceLine_28 X E hr hZ N v1 v2 v3_3 1 s2
theorem kX12_pieceLine (l : Launch) (z : Sx) (hZ : z.2.2.2.1 = kdM) (N : Nat) (v1 : Int32) (v2 : Int32) (σ : Mem) : Ct QV yX12_pieceLine cX12_pieceLine 10 none 5 117 l z [.ref (z.2.2.1 0), .int v1, .int v2] σ (fX12_pieceLine N v1 v2 σ) := by
  refine Ct_of (by decide +kernel) (Nat.le_of_ble_eq_true rfl) rfl ?_
  intro x _ X E hr
  exact bX12_pieceLine_0 X E hr hZ N v1 v2 σ
def fX12_endsLine_b22 (N : Nat) (σ : Mem) : Option (Unit × Mem) :=
  bd (fX12_ends N σ) (fun r3 s4 => some ((), s4))
set_option maxRecDepth 100000 in
set_option maxHeartbeats 4000000 in
theorem bX12_endsLine_22 {x : Cx} {z : Sx} (X : XG x z RX12 cX12_endsLine 1 4 94) (E : XE x z) (hr : XR x none) (hZ : z.2.2.2.1 = kdM) (N : Nat) (σ : Mem) : VK x z 1 (BQ QV x z) 22 [(0, .ref (z.2.2.1 0))] [] σ (fX12_endsLine_b22 N σ) := by
  unfold fX12_endsLine_b22
  refine V_aload_n 0 X dX12_endsLine_22 rfl rfl ?_
  refine V_callV [] [] X E dX12_endsLine_23 (kX12_ends x.2.1 z hZ N σ) co12 (kM hZ 0 _ rfl) gcX12_103 hyX12_ends rfl ⟨by decide, by decide⟩ rfl (Nat.le_of_ble_eq_true rfl) (fun r3 s4 => ?_)
  exact V_vret X E hr dX12_endsLine_26
def fX12_endsLine (N : Nat) (σ : Mem) : Option (Unit × Mem) :=
  if (σ.1 0 8) = 0 then if (σ.1 0 5) = 2 then bd (fX12_advance N σ) (fun r1 s2 => some ((), s2)) else fX12_endsLine_b22 N σ else fX12_endsLine_b22 N σ
set_option maxRecDepth 100000 in
set_option maxHeartbeats 4000000 in
theorem bX12_endsLine_0 {x : Cx} {z : Sx} (X : XG x z RX12 cX12_endsLine 1 4 94) (E : XE x z) (hr : XR x none) (hZ : z.2.2.2.1 = kdM) (N : Nat) (σ : Mem) : VK x z 1 (BQ QV x z) 0 [(0, .ref (z.2.2.1 0))] [] σ (fX12_endsLine N σ) := by
  unfold fX12_endsLine
  refine V_aload_n 0 X dX12_endsLine_0 rfl rfl ?_
  refine V_getI 8 X dX12_endsLine_1 co12 (kM hZ 0 _ rfl) (by decide) rfl wfX12_99 ?_
  refine V_if_ne (tgt := 22) X dX12_endsLine_4 (by decide) ?_ ?_
  · refine V_sub [0] rfl ?_
    exact bX12_endsLine_22 X E hr hZ N σ
  · refine V_aload_n 0 X dX12_endsLine_7 rfl rfl ?_
    refine V_getI 5 X dX12_endsLine_8 co12 (kM hZ 0 _ rfl) (by decide) rfl wfX12_75 ?_
    refine V_iconst (v := 2) X dX12_endsLine_11 (by decide) ?_
    refine V_icmp_ne (tgt := 22) X dX12_endsLine_12 (by decide) ?_ ?_
    · refine V_sub [0] rfl ?_
      exact bX12_endsLine_22 X E hr hZ N σ
    · refine V_aload_n 0 X dX12_endsLine_15 rfl rfl ?_
      refine V_callV [] [] X E dX12_endsLine_16 (kX12_advance x.2.1 z hZ N σ) co12 (kM hZ 0 _ rfl) gcX12_114 hyX12_advance rfl ⟨by decide, by decide⟩ rfl (Nat.le_of_ble_eq_true rfl) (fun r1 s2 => ?_)
      refine V_goto (tgt := 26) X dX12_endsLine_19 (by decide) ?_
      exact V_vret X E hr dX12_endsLine_26
theorem kX12_endsLine (l : Launch) (z : Sx) (hZ : z.2.2.2.1 = kdM) (N : Nat) (σ : Mem) : Ct QV yX12_endsLine cX12_endsLine 1 none 4 94 l z [.ref (z.2.2.1 0)] σ (fX12_endsLine N σ) := by
  refine Ct_of (by decide +kernel) (Nat.le_of_ble_eq_true rfl) rfl ?_
  intro x _ X E hr
  exact bX12_endsLine_0 X E hr hZ N σ
def fX12_chamberLine_b105 (N : Nat) (σ : Mem) : Option (Unit × Mem) :=
  bd (fX12_endsLine N σ) (fun r8 s9 => some ((), s9))
set_option maxRecDepth 100000 in
set_option maxHeartbeats 4000000 in
theorem bX12_chamberLine_105 {x : Cx} {z : Sx} (X : XG x z RX12 cX12_chamberLine 3 6 146) (E : XE x z) (hr : XR x none) (hZ : z.2.2.2.1 = kdM) (N : Nat) (σ : Mem) : VK x z 3 (BQ QV x z) 105 [(0, .ref (z.2.2.1 0))] [] σ (fX12_chamberLine_b105 N σ) := by
  unfold fX12_chamberLine_b105
  refine V_aload_n 0 X dX12_chamberLine_105 rfl rfl ?_
  refine V_callV [] [] X E dX12_chamberLine_106 (kX12_endsLine x.2.1 z hZ N σ) co12 (kM hZ 0 _ rfl) gcX12_134 hyX12_endsLine rfl ⟨by decide, by decide⟩ rfl (Nat.le_of_ble_eq_true rfl) (fun r8 s9 => ?_)
  exact V_vret X E hr dX12_chamberLine_109
def fX12_chamberLine_b97 (N : Nat) (v1 : Int32) (v2 : Int32) (σ : Mem) : Option (Unit × Mem) :=
  bd (fX12_pieceLine N v1 (v2 - 1) σ) (fun r10 s11 => fX12_chamberLine_b105 N s11)
set_option maxRecDepth 100000 in
set_option maxHeartbeats 4000000 in
theorem bX12_chamberLine_97 {x : Cx} {z : Sx} (X : XG x z RX12 cX12_chamberLine 3 6 146) (E : XE x z) (hr : XR x none) (hZ : z.2.2.2.1 = kdM) (N : Nat) (v1 : Int32) (v2 : Int32) (σ : Mem) : VK x z 3 (BQ QV x z) 97 [(0, .ref (z.2.2.1 0)), (1, .int v1), (2, .int v2)] [] σ (fX12_chamberLine_b97 N v1 v2 σ) := by
  unfold fX12_chamberLine_b97
  refine V_aload_n 0 X dX12_chamberLine_97 rfl rfl ?_
  refine V_iload_n 1 X dX12_chamberLine_98 rfl rfl ?_
  refine V_iload_n 2 X dX12_chamberLine_99 rfl rfl ?_
  refine V_iconst (v := 1) X dX12_chamberLine_100 (by decide) ?_
  refine V_isub X dX12_chamberLine_101 ?_
  refine V_callV [.int v1, .int (v2 - 1)] [] X E dX12_chamberLine_102 (kX12_pieceLine x.2.1 z hZ N v1 (v2 - 1) σ) co12 (kM hZ 0 _ rfl) gcX12_131 hyX12_pieceLine rfl ⟨by decide, by decide⟩ rfl (Nat.le_of_ble_eq_true rfl) (fun r10 s11 => ?_)
  refine V_sub [0] rfl ?_
  exact bX12_chamberLine_105 X E hr hZ N s11
def fX12_chamberLine_b75 (N : Nat) (t0 : Int32) (t1 : Int32) (σ : Mem) : Option (Unit × Mem) :=
  bd (fX12_personLine N t1 t0 σ) (fun r12 s13 => fX12_chamberLine_b105 N s13)
set_option maxRecDepth 100000 in
set_option maxHeartbeats 4000000 in
theorem bX12_chamberLine_75 {x : Cx} {z : Sx} (X : XG x z RX12 cX12_chamberLine 3 6 146) (E : XE x z) (hr : XR x none) (hZ : z.2.2.2.1 = kdM) (N : Nat) (t0 : Int32) (t1 : Int32) (σ : Mem) : VK x z 3 (BQ QV x z) 75 [(0, .ref (z.2.2.1 0))] [.int t0, .int t1, .ref (z.2.2.1 0)] σ (fX12_chamberLine_b75 N t0 t1 σ) := by
  unfold fX12_chamberLine_b75
  refine V_callV [.int t1, .int t0] [] X E dX12_chamberLine_75 (kX12_personLine x.2.1 z hZ N t1 t0 σ) co12 (kM hZ 0 _ rfl) gcX12_127 hyX12_personLine rfl ⟨by decide, by decide⟩ rfl (Nat.le_of_ble_eq_true rfl) (fun r12 s13 => ?_)
  refine V_goto (tgt := 105) X dX12_chamberLine_78 (by decide) ?_
  refine V_sub [0] rfl ?_
  exact bX12_chamberLine_105 X E hr hZ N s13
def fX12_chamberLine_b63 (N : Nat) (v1 : Int32) (v2 : Int32) (σ : Mem) : Option (Unit × Mem) :=
  if v2 = 5 then fX12_chamberLine_b75 N 1 v1 σ else fX12_chamberLine_b75 N 0 v1 σ
set_option maxRecDepth 100000 in
set_option maxHeartbeats 4000000 in
theorem bX12_chamberLine_63 {x : Cx} {z : Sx} (X : XG x z RX12 cX12_chamberLine 3 6 146) (E : XE x z) (hr : XR x none) (hZ : z.2.2.2.1 = kdM) (N : Nat) (v1 : Int32) (v2 : Int32) (σ : Mem) : VK x z 3 (BQ QV x z) 63 [(0, .ref (z.2.2.1 0)), (1, .int v1), (2, .int v2)] [] σ (fX12_chamberLine_b63 N v1 v2 σ) := by
  unfold fX12_chamberLine_b63
  refine V_aload_n 0 X dX12_chamberLine_63 rfl rfl ?_
  refine V_iload_n 1 X dX12_chamberLine_64 rfl rfl ?_
  refine V_iload_n 2 X dX12_chamberLine_65 rfl rfl ?_
  refine V_iconst (v := 5) X dX12_chamberLine_66 (by decide) ?_
  refine V_icmp_ne (tgt := 74) X dX12_chamberLine_67 (by decide) ?_ ?_
  · refine V_iconst (v := 0) X dX12_chamberLine_74 (by decide) ?_
    refine V_sub [0] rfl ?_
    exact bX12_chamberLine_75 X E hr hZ N 0 v1 σ
  · refine V_iconst (v := 1) X dX12_chamberLine_70 (by decide) ?_
    refine V_goto (tgt := 75) X dX12_chamberLine_71 (by decide) ?_
    refine V_sub [0] rfl ?_
    exact bX12_chamberLine_75 X E hr hZ N 1 v1 σ
def fX12_chamberLine (N : Nat) (σ : Mem) : Option (Unit × Mem) :=
  lt_ (σ.1 0 4) (fun v1_1 => bd (fX12_wordIn N 1 7 σ) (fun r2 s3 => lt_ r2 (fun v2_4 => if v2_4 = 0 then fX12_chamberLine_b105 N s3 else if v2_4 = 1 then fX12_chamberLine_b97 N v1_1 v2_4 s3 else if v2_4 = 2 then fX12_chamberLine_b97 N v1_1 v2_4 s3 else if v2_4 = 3 then fX12_chamberLine_b97 N v1_1 v2_4 s3 else if v2_4 = 4 then fX12_chamberLine_b97 N v1_1 v2_4 s3 else if v2_4 = 5 then fX12_chamberLine_b63 N v1_1 v2_4 s3 else if v2_4 = 6 then fX12_chamberLine_b63 N v1_1 v2_4 s3 else if v2_4 = 7 then bd (fX12_numbered N 0 9 s3) (fun r5 s6 => gd (inb 2 121) (lt_ (pI s6 3 (2 : Int32).toNatClampNeg r5) (fun s7 => fX12_chamberLine_b105 N s7))) else fX12_chamberLine_b97 N v1_1 v2_4 s3)))
set_option maxRecDepth 100000 in
set_option maxHeartbeats 4000000 in
theorem bX12_chamberLine_0 {x : Cx} {z : Sx} (X : XG x z RX12 cX12_chamberLine 3 6 146) (E : XE x z) (hr : XR x none) (hZ : z.2.2.2.1 = kdM) (N : Nat) (σ : Mem) : VK x z 3 (BQ QV x z) 0 [(0, .ref (z.2.2.1 0))] [] σ (fX12_chamberLine N σ) := by
  unfold fX12_chamberLine
  refine V_aload_n 0 X dX12_chamberLine_0 rfl rfl ?_
  refine V_getI 4 X dX12_chamberLine_1 co12 (kM hZ 0 _ rfl) (by decide) rfl wfX12_72 ?_
  refine V_istore_nG (L' := fun v1_1 => [(1, .int v1_1), (0, .ref (z.2.2.1 0))]) X dX12_chamberLine_4 rfl (by decide) (fun _ => rfl) (fun v1_1 => ?_)
  refine V_aload_n 1 X dX12_chamberLine_5 rfl rfl ?_
  refine V_iconst (v := 1) X dX12_chamberLine_6 (by decide) ?_
  refine V_bipush (v := 7) X dX12_chamberLine_7 (by decide) ?_
  refine V_callI [.int 1, .int 7] [] X E dX12_chamberLine_9 (kX12_wordIn x.2.1 z hZ N 1 7 σ) co12 (kM hZ 0 _ rfl) gcX12_117 hyX12_wordIn rfl ⟨by decide, by decide⟩ rfl (Nat.le_of_ble_eq_true rfl) (fun r2 s3 => ?_)
  refine V_istore_nG (L' := fun v2_4 => [(2, .int v2_4), (1, .int v1_1), (0, .ref (z.2.2.1 0))]) X dX12_chamberLine_12 rfl (by decide) (fun _ => rfl) (fun v2_4 => ?_)
  refine V_iload_n 0 X dX12_chamberLine_13 rfl rfl ?_
  refine V_split (c := 0) (fun n14_0 => ?_) (fun n14_0 => ?_)
  · refine V_tabAt (c := 0) (tgt := 60) X dX12_chamberLine_14 n14_0 (by decide) (by decide) (by rfl) (by decide) ?_
    refine V_goto (tgt := 105) X dX12_chamberLine_60 (by decide) ?_
    refine V_sub [2] rfl ?_
    exact bX12_chamberLine_105 X E hr hZ N s3
  refine V_split (c := 1) (fun n14_1 => ?_) (fun n14_1 => ?_)
  · refine V_tabAt (c := 1) (tgt := 97) X dX12_chamberLine_14 n14_1 (by decide) (by decide) (by rfl) (by decide) ?_
    refine V_sub [2, 1, 0] rfl ?_
    exact bX12_chamberLine_97 X E hr hZ N v1_1 v2_4 s3
  refine V_split (c := 2) (fun n14_2 => ?_) (fun n14_2 => ?_)
  · refine V_tabAt (c := 2) (tgt := 97) X dX12_chamberLine_14 n14_2 (by decide) (by decide) (by rfl) (by decide) ?_
    refine V_sub [2, 1, 0] rfl ?_
    exact bX12_chamberLine_97 X E hr hZ N v1_1 v2_4 s3
  refine V_split (c := 3) (fun n14_3 => ?_) (fun n14_3 => ?_)
  · refine V_tabAt (c := 3) (tgt := 97) X dX12_chamberLine_14 n14_3 (by decide) (by decide) (by rfl) (by decide) ?_
    refine V_sub [2, 1, 0] rfl ?_
    exact bX12_chamberLine_97 X E hr hZ N v1_1 v2_4 s3
  refine V_split (c := 4) (fun n14_4 => ?_) (fun n14_4 => ?_)
  · refine V_tabAt (c := 4) (tgt := 97) X dX12_chamberLine_14 n14_4 (by decide) (by decide) (by rfl) (by decide) ?_
    refine V_sub [2, 1, 0] rfl ?_
    exact bX12_chamberLine_97 X E hr hZ N v1_1 v2_4 s3
  refine V_split (c := 5) (fun n14_5 => ?_) (fun n14_5 => ?_)
  · refine V_tabAt (c := 5) (tgt := 63) X dX12_chamberLine_14 n14_5 (by decide) (by decide) (by rfl) (by decide) ?_
    refine V_sub [2, 1, 0] rfl ?_
    exact bX12_chamberLine_63 X E hr hZ N v1_1 v2_4 s3
  refine V_split (c := 6) (fun n14_6 => ?_) (fun n14_6 => ?_)
  · refine V_tabAt (c := 6) (tgt := 63) X dX12_chamberLine_14 n14_6 (by decide) (by decide) (by rfl) (by decide) ?_
    refine V_sub [2, 1, 0] rfl ?_
    exact bX12_chamberLine_63 X E hr hZ N v1_1 v2_4 s3
  refine V_split (c := 7) (fun n14_7 => ?_) (fun n14_7 => ?_)
  · refine V_tabAt (c := 7) (tgt := 81) X dX12_chamberLine_14 n14_7 (by decide) (by decide) (by rfl) (by decide) ?_
    refine V_aload_n 2 X dX12_chamberLine_81 rfl rfl ?_
    refine V_getR (k1 := 3) 10 X dX12_chamberLine_82 co12 (kM hZ 0 _ rfl) (by decide) rfl rfl wfX12_17 ?_
    refine V_iconst (v := 2) X dX12_chamberLine_85 (by decide) ?_
    refine V_aload_n 2 X dX12_chamberLine_86 rfl rfl ?_
    refine V_iconst (v := 0) X dX12_chamberLine_87 (by decide) ?_
    refine V_bipush (v := 9) X dX12_chamberLine_88 (by decide) ?_
    refine V_callI [.int 0, .int 9] [.int 2, .ref (z.2.2.1 3)] X E dX12_chamberLine_90 (kX12_numbered x.2.1 z hZ N 0 9 s3) co12 (kM hZ 0 _ rfl) gcX12_121 hyX12_numbered rfl ⟨by decide, by decide⟩ rfl (Nat.le_of_ble_eq_true rfl) (fun r5 s6 => ?_)
    refine V_iastG X dX12_chamberLine_93 (kM hZ 3 _ rfl) (fun s7 => ?_)
    refine V_goto (tgt := 105) X dX12_chamberLine_94 (by decide) ?_
    refine V_sub [2] rfl ?_
    exact bX12_chamberLine_105 X E hr hZ N s7
  refine V_tabDef (tgt := 97) X dX12_chamberLine_14 (swOut (a := v2_4) (fun q q1 q2 => by rcases (show q = 0 ∨ q = 1 ∨ q = 2 ∨ q = 3 ∨ q = 4 ∨ q = 5 ∨ q = 6 ∨ q = 7 by omega) with rfl | rfl | rfl | rfl | rfl | rfl | rfl | rfl <;> first | exact sw_ne n14_0 (by decide) | exact sw_ne n14_1 (by decide) | exact sw_ne n14_2 (by decide) | exact sw_ne n14_3 (by decide) | exact sw_ne n14_4 (by decide) | exact sw_ne n14_5 (by decide) | exact sw_ne n14_6 (by decide) | exact sw_ne n14_7 (by decide))) (by decide) ?_
  refine V_sub [2, 1, 0] rfl ?_
  exact bX12_chamberLine_97 X E hr hZ N v1_1 v2_4 s3
theorem kX12_chamberLine (l : Launch) (z : Sx) (hZ : z.2.2.2.1 = kdM) (N : Nat) (σ : Mem) : Ct QV yX12_chamberLine cX12_chamberLine 3 none 6 146 l z [.ref (z.2.2.1 0)] σ (fX12_chamberLine N σ) := by
  refine Ct_of (by decide +kernel) (Nat.le_of_ble_eq_true rfl) rfl ?_
  intro x _ X E hr
  exact bX12_chamberLine_0 X E hr hZ N σ
def fX12_sessionLine_b161 (N : Nat) (σ : Mem) : Option (Unit × Mem) :=
  bd (fX12_endsLine N σ) (fun r18 s19 => some ((), s19))
set_option maxRecDepth 100000 in
set_option maxHeartbeats 4000000 in
theorem bX12_sessionLine_161 {x : Cx} {z : Sx} (X : XG x z RX12 cX12_sessionLine 6 5 117) (E : XE x z) (hr : XR x none) (hZ : z.2.2.2.1 = kdM) (N : Nat) (σ : Mem) : VK x z 6 (BQ QV x z) 161 [(0, .ref (z.2.2.1 0))] [] σ (fX12_sessionLine_b161 N σ) := by
  unfold fX12_sessionLine_b161
  refine V_aload_n 0 X dX12_sessionLine_161 rfl rfl ?_
  refine V_callV [] [] X E dX12_sessionLine_162 (kX12_endsLine x.2.1 z hZ N σ) co12 (kM hZ 0 _ rfl) gcX12_134 hyX12_endsLine rfl ⟨by decide, by decide⟩ rfl (Nat.le_of_ble_eq_true rfl) (fun r18 s19 => ?_)
  exact V_vret X E hr dX12_sessionLine_165
def fX12_sessionLine_b97 (N : Nat) (v2 : Int32) (v3 : Int32) (t0 : Int32) (σ : Mem) : Option (Unit × Mem) :=
  lt_ t0 (fun v4_12 => gd (inb 0 121) (if 40 ≤ (σ.1 3 (0 : Int32).toNatClampNeg) then fX12_sessionLine_b161 N σ else gd (inb 0 121) (lt_ (1 + (3 * (σ.1 3 (0 : Int32).toNatClampNeg))) (fun v5_13 => gd (inb v5_13 121) (lt_ (pI σ 3 v5_13.toNatClampNeg v2) (fun s14 => gd (inb (v5_13 + 1) 121) (lt_ (pI s14 3 (v5_13 + 1).toNatClampNeg v3) (fun s15 => gd (inb (v5_13 + 2) 121) (lt_ (pI s15 3 (v5_13 + 2).toNatClampNeg v4_12) (fun s16 => gd (inb 0 121) (gd (inb 0 121) (lt_ (pI s16 3 (0 : Int32).toNatClampNeg ((s16.1 3 (0 : Int32).toNatClampNeg) + 1)) (fun s17 => fX12_sessionLine_b161 N s17)))))))))))))
set_option maxRecDepth 100000 in
set_option maxHeartbeats 4000000 in
theorem bX12_sessionLine_97 {x : Cx} {z : Sx} (X : XG x z RX12 cX12_sessionLine 6 5 117) (E : XE x z) (hr : XR x none) (hZ : z.2.2.2.1 = kdM) (N : Nat) (v2 : Int32) (v3 : Int32) (t0 : Int32) (σ : Mem) : VK x z 6 (BQ QV x z) 97 [(0, .ref (z.2.2.1 0)), (2, .int v2), (3, .int v3)] [.int t0] σ (fX12_sessionLine_b97 N v2 v3 t0 σ) := by
  unfold fX12_sessionLine_b97
  refine V_istoreG (L' := fun v4_12 => [(4, .int v4_12), (0, .ref (z.2.2.1 0)), (2, .int v2), (3, .int v3)]) X dX12_sessionLine_97 (by decide) (fun _ => rfl) (fun v4_12 => ?_)
  refine V_aload_n 1 X dX12_sessionLine_99 rfl rfl ?_
  refine V_getR (k1 := 3) 10 X dX12_sessionLine_100 co12 (kM hZ 0 _ rfl) (by decide) rfl rfl wfX12_17 ?_
  refine V_iconst (v := 0) X dX12_sessionLine_103 (by decide) ?_
  refine V_iald X dX12_sessionLine_104 (kM hZ 3 _ rfl) ?_
  refine V_bipush (v := 40) X dX12_sessionLine_105 (by decide) ?_
  refine V_icmp_ge (tgt := 161) X dX12_sessionLine_107 (by decide) ?_ ?_
  · refine V_sub [1] rfl ?_
    exact bX12_sessionLine_161 X E hr hZ N σ
  · refine V_iconst (v := 1) X dX12_sessionLine_110 (by decide) ?_
    refine V_iconst (v := 3) X dX12_sessionLine_111 (by decide) ?_
    refine V_aload_n 1 X dX12_sessionLine_112 rfl rfl ?_
    refine V_getR (k1 := 3) 10 X dX12_sessionLine_113 co12 (kM hZ 0 _ rfl) (by decide) rfl rfl wfX12_17 ?_
    refine V_iconst (v := 0) X dX12_sessionLine_116 (by decide) ?_
    refine V_iald X dX12_sessionLine_117 (kM hZ 3 _ rfl) ?_
    refine V_imul X dX12_sessionLine_118 ?_
    refine V_iadd X dX12_sessionLine_119 ?_
    refine V_istoreG (L' := fun v5_13 => [(5, .int v5_13), (4, .int v4_12), (0, .ref (z.2.2.1 0)), (2, .int v2), (3, .int v3)]) X dX12_sessionLine_120 (by decide) (fun _ => rfl) (fun v5_13 => ?_)
    refine V_aload_n 2 X dX12_sessionLine_122 rfl rfl ?_
    refine V_getR (k1 := 3) 10 X dX12_sessionLine_123 co12 (kM hZ 0 _ rfl) (by decide) rfl rfl wfX12_17 ?_
    refine V_iload 0 X dX12_sessionLine_126 rfl ?_
    refine V_iload_n 3 X dX12_sessionLine_128 rfl rfl ?_
    refine V_iastG X dX12_sessionLine_129 (kM hZ 3 _ rfl) (fun s14 => ?_)
    refine V_aload_n 2 X dX12_sessionLine_130 rfl rfl ?_
    refine V_getR (k1 := 3) 10 X dX12_sessionLine_131 co12 (kM hZ 0 _ rfl) (by decide) rfl rfl wfX12_17 ?_
    refine V_iload 0 X dX12_sessionLine_134 rfl ?_
    refine V_iconst (v := 1) X dX12_sessionLine_136 (by decide) ?_
    refine V_iadd X dX12_sessionLine_137 ?_
    refine V_iload_n 4 X dX12_sessionLine_138 rfl rfl ?_
    refine V_iastG X dX12_sessionLine_139 (kM hZ 3 _ rfl) (fun s15 => ?_)
    refine V_aload_n 2 X dX12_sessionLine_140 rfl rfl ?_
    refine V_getR (k1 := 3) 10 X dX12_sessionLine_141 co12 (kM hZ 0 _ rfl) (by decide) rfl rfl wfX12_17 ?_
    refine V_iload 0 X dX12_sessionLine_144 rfl ?_
    refine V_iconst (v := 2) X dX12_sessionLine_146 (by decide) ?_
    refine V_iadd X dX12_sessionLine_147 ?_
    refine V_iload 1 X dX12_sessionLine_148 rfl ?_
    refine V_iastG X dX12_sessionLine_150 (kM hZ 3 _ rfl) (fun s16 => ?_)
    refine V_aload_n 2 X dX12_sessionLine_151 rfl rfl ?_
    refine V_getR (k1 := 3) 10 X dX12_sessionLine_152 co12 (kM hZ 0 _ rfl) (by decide) rfl rfl wfX12_17 ?_
    refine V_iconst (v := 0) X dX12_sessionLine_155 (by decide) ?_
    refine V_dup2 X dX12_sessionLine_156 rfl rfl ?_
    refine V_iald X dX12_sessionLine_157 (kM hZ 3 _ rfl) ?_
    refine V_iconst (v := 1) X dX12_sessionLine_158 (by decide) ?_
    refine V_iadd X dX12_sessionLine_159 ?_
    refine V_iastG X dX12_sessionLine_160 (kM hZ 3 _ rfl) (fun s17 => ?_)
    refine V_sub [2] rfl ?_
    exact bX12_sessionLine_161 X E hr hZ N s17
def fX12_sessionLine_b80 (N : Nat) (v2 : Int32) (t0 : Int32) (σ : Mem) : Option (Unit × Mem) :=
  lt_ t0 (fun v3_7 => if v2 = 4 then bd (fX12_numbered N 0 7 σ) (fun r8 s9 => fX12_sessionLine_b97 N v2 v3_7 r8 s9) else fX12_sessionLine_b97 N v2 v3_7 (-1) σ)
set_option maxRecDepth 100000 in
set_option maxHeartbeats 4000000 in
theorem bX12_sessionLine_80 {x : Cx} {z : Sx} (X : XG x z RX12 cX12_sessionLine 6 5 117) (E : XE x z) (hr : XR x none) (hZ : z.2.2.2.1 = kdM) (N : Nat) (v2 : Int32) (t0 : Int32) (σ : Mem) : VK x z 6 (BQ QV x z) 80 [(0, .ref (z.2.2.1 0)), (2, .int v2)] [.int t0] σ (fX12_sessionLine_b80 N v2 t0 σ) := by
  unfold fX12_sessionLine_b80
  refine V_istore_nG (L' := fun v3_7 => [(3, .int v3_7), (0, .ref (z.2.2.1 0)), (2, .int v2)]) X dX12_sessionLine_80 rfl (by decide) (fun _ => rfl) (fun v3_7 => ?_)
  refine V_iload_n 2 X dX12_sessionLine_81 rfl rfl ?_
  refine V_iconst (v := 4) X dX12_sessionLine_82 (by decide) ?_
  refine V_icmp_ne (tgt := 96) X dX12_sessionLine_83 (by decide) ?_ ?_
  · refine V_iconst (v := -1) X dX12_sessionLine_96 (by decide) ?_
    refine V_sub [1, 2, 0] rfl ?_
    exact bX12_sessionLine_97 X E hr hZ N v2 v3_7 (-1) σ
  · refine V_aload_n 1 X dX12_sessionLine_86 rfl rfl ?_
    refine V_iconst (v := 0) X dX12_sessionLine_87 (by decide) ?_
    refine V_bipush (v := 7) X dX12_sessionLine_88 (by decide) ?_
    refine V_callI [.int 0, .int 7] [] X E dX12_sessionLine_90 (kX12_numbered x.2.1 z hZ N 0 7 σ) co12 (kM hZ 0 _ rfl) gcX12_121 hyX12_numbered rfl ⟨by decide, by decide⟩ rfl (Nat.le_of_ble_eq_true rfl) (fun r8 s9 => ?_)
    refine V_goto (tgt := 97) X dX12_sessionLine_93 (by decide) ?_
    refine V_sub [1, 2, 0] rfl ?_
    exact bX12_sessionLine_97 X E hr hZ N v2 v3_7 r8 s9
def fX12_sessionLine_b73 (N : Nat) (v2 : Int32) (t0 : Int32) (t1 : Int32) (σ : Mem) : Option (Unit × Mem) :=
  bd (fX12_numbered N t1 t0 σ) (fun r10 s11 => fX12_sessionLine_b80 N v2 r10 s11)
set_option maxRecDepth 100000 in
set_option maxHeartbeats 4000000 in
theorem bX12_sessionLine_73 {x : Cx} {z : Sx} (X : XG x z RX12 cX12_sessionLine 6 5 117) (E : XE x z) (hr : XR x none) (hZ : z.2.2.2.1 = kdM) (N : Nat) (v2 : Int32) (t0 : Int32) (t1 : Int32) (σ : Mem) : VK x z 6 (BQ QV x z) 73 [(0, .ref (z.2.2.1 0)), (2, .int v2)] [.int t0, .int t1, .ref (z.2.2.1 0)] σ (fX12_sessionLine_b73 N v2 t0 t1 σ) := by
  unfold fX12_sessionLine_b73
  refine V_callI [.int t1, .int t0] [] X E dX12_sessionLine_73 (kX12_numbered x.2.1 z hZ N t1 t0 σ) co12 (kM hZ 0 _ rfl) gcX12_121 hyX12_numbered rfl ⟨by decide, by decide⟩ rfl (Nat.le_of_ble_eq_true rfl) (fun r10 s11 => ?_)
  refine V_goto (tgt := 80) X dX12_sessionLine_76 (by decide) ?_
  refine V_sub [0, 1] rfl ?_
  exact bX12_sessionLine_80 X E hr hZ N v2 r10 s11
def fX12_sessionLine_b67 (N : Nat) (v2 : Int32) (t0 : Int32) (σ : Mem) : Option (Unit × Mem) :=
  fX12_sessionLine_b73 N v2 5 t0 σ
set_option maxRecDepth 100000 in
set_option maxHeartbeats 4000000 in
theorem bX12_sessionLine_67 {x : Cx} {z : Sx} (X : XG x z RX12 cX12_sessionLine 6 5 117) (E : XE x z) (hr : XR x none) (hZ : z.2.2.2.1 = kdM) (N : Nat) (v2 : Int32) (t0 : Int32) (σ : Mem) : VK x z 6 (BQ QV x z) 67 [(0, .ref (z.2.2.1 0)), (2, .int v2)] [.int t0, .ref (z.2.2.1 0)] σ (fX12_sessionLine_b67 N v2 t0 σ) := by
  unfold fX12_sessionLine_b67
  refine V_iconst (v := 5) X dX12_sessionLine_67 (by decide) ?_
  refine V_goto (tgt := 73) X dX12_sessionLine_68 (by decide) ?_
  refine V_sub [0, 1] rfl ?_
  exact bX12_sessionLine_73 X E hr hZ N v2 5 t0 σ
def fX12_sessionLine_b41 (N : Nat) (v2 : Int32) (σ : Mem) : Option (Unit × Mem) :=
  if 5 ≤ v2 then fX12_sessionLine_b80 N v2 (-1) σ else if v2 = 0 then fX12_sessionLine_b73 N v2 63 0 σ else if v2 = 1 then fX12_sessionLine_b67 N v2 0 σ else if v2 = 4 then fX12_sessionLine_b67 N v2 0 σ else fX12_sessionLine_b73 N v2 7 0 σ
set_option maxRecDepth 100000 in
set_option maxHeartbeats 4000000 in
theorem bX12_sessionLine_41 {x : Cx} {z : Sx} (X : XG x z RX12 cX12_sessionLine 6 5 117) (E : XE x z) (hr : XR x none) (hZ : z.2.2.2.1 = kdM) (N : Nat) (v2 : Int32) (σ : Mem) : VK x z 6 (BQ QV x z) 41 [(0, .ref (z.2.2.1 0)), (2, .int v2)] [] σ (fX12_sessionLine_b41 N v2 σ) := by
  unfold fX12_sessionLine_b41
  refine V_iload_n 1 X dX12_sessionLine_41 rfl rfl ?_
  refine V_iconst (v := 5) X dX12_sessionLine_42 (by decide) ?_
  refine V_icmp_ge (tgt := 79) X dX12_sessionLine_43 (by decide) ?_ ?_
  · refine V_iconst (v := -1) X dX12_sessionLine_79 (by decide) ?_
    refine V_sub [0, 1] rfl ?_
    exact bX12_sessionLine_80 X E hr hZ N v2 (-1) σ
  · refine V_aload_n 0 X dX12_sessionLine_46 rfl rfl ?_
    refine V_iconst (v := 0) X dX12_sessionLine_47 (by decide) ?_
    refine V_iload_n 1 X dX12_sessionLine_48 rfl rfl ?_
    refine V_if_ne (tgt := 57) X dX12_sessionLine_49 (by decide) ?_ ?_
    · refine V_iload_n 1 X dX12_sessionLine_57 rfl rfl ?_
      refine V_iconst (v := 1) X dX12_sessionLine_58 (by decide) ?_
      refine V_icmp_eq (tgt := 67) X dX12_sessionLine_59 (by decide) ?_ ?_
      · refine V_sub [0, 1] rfl ?_
        exact bX12_sessionLine_67 X E hr hZ N v2 0 σ
      · refine V_iload_n 1 X dX12_sessionLine_62 rfl rfl ?_
        refine V_iconst (v := 4) X dX12_sessionLine_63 (by decide) ?_
        refine V_icmp_ne (tgt := 71) X dX12_sessionLine_64 (by decide) ?_ ?_
        · refine V_bipush (v := 7) X dX12_sessionLine_71 (by decide) ?_
          refine V_sub [0, 1] rfl ?_
          exact bX12_sessionLine_73 X E hr hZ N v2 7 0 σ
        · refine V_sub [0, 1] rfl ?_
          exact bX12_sessionLine_67 X E hr hZ N v2 0 σ
    · refine V_bipush (v := 63) X dX12_sessionLine_52 (by decide) ?_
      refine V_goto (tgt := 73) X dX12_sessionLine_54 (by decide) ?_
      refine V_sub [0, 1] rfl ?_
      exact bX12_sessionLine_73 X E hr hZ N v2 63 0 σ
def fX12_sessionLine (N : Nat) (σ : Mem) : Option (Unit × Mem) :=
  lt_ (σ.1 0 4) (fun v1_1 => bd (fX12_wordIn N 11 18 σ) (fun r2 s3 => lt_ (r2 - 11) (fun v2_4 => if (s3.1 0 8) = 0 then gd (inb 0 121) (if (s3.1 3 (0 : Int32).toNatClampNeg) < 40 then fX12_sessionLine_b41 N v2_4 s3 else bd (fX12_also N 3 v1_1 s3) (fun r5 s6 => fX12_sessionLine_b41 N v2_4 s6)) else fX12_sessionLine_b41 N v2_4 s3)))
set_option maxRecDepth 100000 in
set_option maxHeartbeats 4000000 in
theorem bX12_sessionLine_0 {x : Cx} {z : Sx} (X : XG x z RX12 cX12_sessionLine 6 5 117) (E : XE x z) (hr : XR x none) (hZ : z.2.2.2.1 = kdM) (N : Nat) (σ : Mem) : VK x z 6 (BQ QV x z) 0 [(0, .ref (z.2.2.1 0))] [] σ (fX12_sessionLine N σ) := by
  unfold fX12_sessionLine
  refine V_aload_n 0 X dX12_sessionLine_0 rfl rfl ?_
  refine V_getI 4 X dX12_sessionLine_1 co12 (kM hZ 0 _ rfl) (by decide) rfl wfX12_72 ?_
  refine V_istore_nG (L' := fun v1_1 => [(1, .int v1_1), (0, .ref (z.2.2.1 0))]) X dX12_sessionLine_4 rfl (by decide) (fun _ => rfl) (fun v1_1 => ?_)
  refine V_aload_n 1 X dX12_sessionLine_5 rfl rfl ?_
  refine V_bipush (v := 11) X dX12_sessionLine_6 (by decide) ?_
  refine V_bipush (v := 18) X dX12_sessionLine_8 (by decide) ?_
  refine V_callI [.int 11, .int 18] [] X E dX12_sessionLine_10 (kX12_wordIn x.2.1 z hZ N 11 18 σ) co12 (kM hZ 0 _ rfl) gcX12_117 hyX12_wordIn rfl ⟨by decide, by decide⟩ rfl (Nat.le_of_ble_eq_true rfl) (fun r2 s3 => ?_)
  refine V_bipush (v := 11) X dX12_sessionLine_13 (by decide) ?_
  refine V_isub X dX12_sessionLine_15 ?_
  refine V_istore_nG (L' := fun v2_4 => [(2, .int v2_4), (1, .int v1_1), (0, .ref (z.2.2.1 0))]) X dX12_sessionLine_16 rfl (by decide) (fun _ => rfl) (fun v2_4 => ?_)
  refine V_aload_n 2 X dX12_sessionLine_17 rfl rfl ?_
  refine V_getI 8 X dX12_sessionLine_18 co12 (kM hZ 0 _ rfl) (by decide) rfl wfX12_99 ?_
  refine V_if_ne (tgt := 41) X dX12_sessionLine_21 (by decide) ?_ ?_
  · refine V_sub [2, 0] rfl ?_
    exact bX12_sessionLine_41 X E hr hZ N v2_4 s3
  · refine V_aload_n 2 X dX12_sessionLine_24 rfl rfl ?_
    refine V_getR (k1 := 3) 10 X dX12_sessionLine_25 co12 (kM hZ 0 _ rfl) (by decide) rfl rfl wfX12_17 ?_
    refine V_iconst (v := 0) X dX12_sessionLine_28 (by decide) ?_
    refine V_iald X dX12_sessionLine_29 (kM hZ 3 _ rfl) ?_
    refine V_bipush (v := 40) X dX12_sessionLine_30 (by decide) ?_
    refine V_icmp_lt (tgt := 41) X dX12_sessionLine_32 (by decide) ?_ ?_
    · refine V_sub [2, 0] rfl ?_
      exact bX12_sessionLine_41 X E hr hZ N v2_4 s3
    · refine V_aload_n 2 X dX12_sessionLine_35 rfl rfl ?_
      refine V_iconst (v := 3) X dX12_sessionLine_36 (by decide) ?_
      refine V_iload_n 1 X dX12_sessionLine_37 rfl rfl ?_
      refine V_callV [.int 3, .int v1_1] [] X E dX12_sessionLine_38 (kX12_also x.2.1 z hZ N 3 v1_1 s3) co12 (kM hZ 0 _ rfl) gcX12_110 hyX12_also rfl ⟨by decide, by decide⟩ rfl (Nat.le_of_ble_eq_true rfl) (fun r5 s6 => ?_)
      refine V_sub [2, 0] rfl ?_
      exact bX12_sessionLine_41 X E hr hZ N v2_4 s6
theorem kX12_sessionLine (l : Launch) (z : Sx) (hZ : z.2.2.2.1 = kdM) (N : Nat) (σ : Mem) : Ct QV yX12_sessionLine cX12_sessionLine 6 none 5 117 l z [.ref (z.2.2.1 0)] σ (fX12_sessionLine N σ) := by
  refine Ct_of (by decide +kernel) (Nat.le_of_ble_eq_true rfl) rfl ?_
  intro x _ X E hr
  exact bX12_sessionLine_0 X E hr hZ N σ
def fX12_logLine_b140 (N : Nat) (σ : Mem) : Option (Unit × Mem) :=
  bd (fX12_endsLine N σ) (fun r22 s23 => some ((), s23))
set_option maxRecDepth 100000 in
set_option maxHeartbeats 4000000 in
theorem bX12_logLine_140 {x : Cx} {z : Sx} (X : XG x z RX12 cX12_logLine 7 5 117) (E : XE x z) (hr : XR x none) (hZ : z.2.2.2.1 = kdM) (N : Nat) (σ : Mem) : VK x z 7 (BQ QV x z) 140 [(0, .ref (z.2.2.1 0))] [] σ (fX12_logLine_b140 N σ) := by
  unfold fX12_logLine_b140
  refine V_aload_n 0 X dX12_logLine_140 rfl rfl ?_
  refine V_callV [] [] X E dX12_logLine_141 (kX12_endsLine x.2.1 z hZ N σ) co12 (kM hZ 0 _ rfl) gcX12_134 hyX12_endsLine rfl ⟨by decide, by decide⟩ rfl (Nat.le_of_ble_eq_true rfl) (fun r22 s23 => ?_)
  exact V_vret X E hr dX12_logLine_144
def fX12_logLine_b41 (N : Nat) (v2 : Int32) (σ : Mem) : Option (Unit × Mem) :=
  bd (fX12_numbered N 0 60 σ) (fun r7 s8 => lt_ r7 (fun v3_9 => bd (fX12_numbered N 0 9 s8) (fun r10 s11 => lt_ r10 (fun v4_12 => bd (fX12_numbered N 0 6 s11) (fun r13 s14 => lt_ r13 (fun v5_15 => gd (inb 0 121) (if 8 ≤ (s14.1 3 (0 : Int32).toNatClampNeg) then fX12_logLine_b140 N s14 else gd (inb 0 121) (lt_ (1 + (4 * (s14.1 3 (0 : Int32).toNatClampNeg))) (fun v6_16 => gd (inb v6_16 121) (lt_ (pI s14 3 v6_16.toNatClampNeg v2) (fun s17 => gd (inb (v6_16 + 1) 121) (lt_ (pI s17 3 (v6_16 + 1).toNatClampNeg v3_9) (fun s18 => gd (inb (v6_16 + 2) 121) (lt_ (pI s18 3 (v6_16 + 2).toNatClampNeg v4_12) (fun s19 => gd (inb (v6_16 + 3) 121) (lt_ (pI s19 3 (v6_16 + 3).toNatClampNeg v5_15) (fun s20 => gd (inb 0 121) (gd (inb 0 121) (lt_ (pI s20 3 (0 : Int32).toNatClampNeg ((s20.1 3 (0 : Int32).toNatClampNeg) + 1)) (fun s21 => fX12_logLine_b140 N s21))))))))))))))))))))
set_option maxRecDepth 100000 in
set_option maxHeartbeats 4000000 in
theorem bX12_logLine_41 {x : Cx} {z : Sx} (X : XG x z RX12 cX12_logLine 7 5 117) (E : XE x z) (hr : XR x none) (hZ : z.2.2.2.1 = kdM) (N : Nat) (v2 : Int32) (σ : Mem) : VK x z 7 (BQ QV x z) 41 [(0, .ref (z.2.2.1 0)), (2, .int v2)] [] σ (fX12_logLine_b41 N v2 σ) := by
  unfold fX12_logLine_b41
  refine V_aload_n 0 X dX12_logLine_41 rfl rfl ?_
  refine V_iconst (v := 0) X dX12_logLine_42 (by decide) ?_
  refine V_bipush (v := 60) X dX12_logLine_43 (by decide) ?_
  refine V_callI [.int 0, .int 60] [] X E dX12_logLine_45 (kX12_numbered x.2.1 z hZ N 0 60 σ) co12 (kM hZ 0 _ rfl) gcX12_121 hyX12_numbered rfl ⟨by decide, by decide⟩ rfl (Nat.le_of_ble_eq_true rfl) (fun r7 s8 => ?_)
  refine V_istore_nG (L' := fun v3_9 => [(3, .int v3_9), (0, .ref (z.2.2.1 0)), (2, .int v2)]) X dX12_logLine_48 rfl (by decide) (fun _ => rfl) (fun v3_9 => ?_)
  refine V_aload_n 1 X dX12_logLine_49 rfl rfl ?_
  refine V_iconst (v := 0) X dX12_logLine_50 (by decide) ?_
  refine V_bipush (v := 9) X dX12_logLine_51 (by decide) ?_
  refine V_callI [.int 0, .int 9] [] X E dX12_logLine_53 (kX12_numbered x.2.1 z hZ N 0 9 s8) co12 (kM hZ 0 _ rfl) gcX12_121 hyX12_numbered rfl ⟨by decide, by decide⟩ rfl (Nat.le_of_ble_eq_true rfl) (fun r10 s11 => ?_)
  refine V_istoreG (L' := fun v4_12 => [(4, .int v4_12), (3, .int v3_9), (0, .ref (z.2.2.1 0)), (2, .int v2)]) X dX12_logLine_56 (by decide) (fun _ => rfl) (fun v4_12 => ?_)
  refine V_aload_n 2 X dX12_logLine_58 rfl rfl ?_
  refine V_iconst (v := 0) X dX12_logLine_59 (by decide) ?_
  refine V_bipush (v := 6) X dX12_logLine_60 (by decide) ?_
  refine V_callI [.int 0, .int 6] [] X E dX12_logLine_62 (kX12_numbered x.2.1 z hZ N 0 6 s11) co12 (kM hZ 0 _ rfl) gcX12_121 hyX12_numbered rfl ⟨by decide, by decide⟩ rfl (Nat.le_of_ble_eq_true rfl) (fun r13 s14 => ?_)
  refine V_istoreG (L' := fun v5_15 => [(5, .int v5_15), (4, .int v4_12), (3, .int v3_9), (0, .ref (z.2.2.1 0)), (2, .int v2)]) X dX12_logLine_65 (by decide) (fun _ => rfl) (fun v5_15 => ?_)
  refine V_aload_n 3 X dX12_logLine_67 rfl rfl ?_
  refine V_getR (k1 := 3) 10 X dX12_logLine_68 co12 (kM hZ 0 _ rfl) (by decide) rfl rfl wfX12_17 ?_
  refine V_iconst (v := 0) X dX12_logLine_71 (by decide) ?_
  refine V_iald X dX12_logLine_72 (kM hZ 3 _ rfl) ?_
  refine V_bipush (v := 8) X dX12_logLine_73 (by decide) ?_
  refine V_icmp_ge (tgt := 140) X dX12_logLine_75 (by decide) ?_ ?_
  · refine V_sub [3] rfl ?_
    exact bX12_logLine_140 X E hr hZ N s14
  · refine V_iconst (v := 1) X dX12_logLine_78 (by decide) ?_
    refine V_iconst (v := 4) X dX12_logLine_79 (by decide) ?_
    refine V_aload_n 3 X dX12_logLine_80 rfl rfl ?_
    refine V_getR (k1 := 3) 10 X dX12_logLine_81 co12 (kM hZ 0 _ rfl) (by decide) rfl rfl wfX12_17 ?_
    refine V_iconst (v := 0) X dX12_logLine_84 (by decide) ?_
    refine V_iald X dX12_logLine_85 (kM hZ 3 _ rfl) ?_
    refine V_imul X dX12_logLine_86 ?_
    refine V_iadd X dX12_logLine_87 ?_
    refine V_istoreG (L' := fun v6_16 => [(6, .int v6_16), (5, .int v5_15), (4, .int v4_12), (3, .int v3_9), (0, .ref (z.2.2.1 0)), (2, .int v2)]) X dX12_logLine_88 (by decide) (fun _ => rfl) (fun v6_16 => ?_)
    refine V_aload_n 4 X dX12_logLine_90 rfl rfl ?_
    refine V_getR (k1 := 3) 10 X dX12_logLine_91 co12 (kM hZ 0 _ rfl) (by decide) rfl rfl wfX12_17 ?_
    refine V_iload 0 X dX12_logLine_94 rfl ?_
    refine V_iload_n 5 X dX12_logLine_96 rfl rfl ?_
    refine V_iastG X dX12_logLine_97 (kM hZ 3 _ rfl) (fun s17 => ?_)
    refine V_aload_n 4 X dX12_logLine_98 rfl rfl ?_
    refine V_getR (k1 := 3) 10 X dX12_logLine_99 co12 (kM hZ 0 _ rfl) (by decide) rfl rfl wfX12_17 ?_
    refine V_iload 0 X dX12_logLine_102 rfl ?_
    refine V_iconst (v := 1) X dX12_logLine_104 (by decide) ?_
    refine V_iadd X dX12_logLine_105 ?_
    refine V_iload_n 3 X dX12_logLine_106 rfl rfl ?_
    refine V_iastG X dX12_logLine_107 (kM hZ 3 _ rfl) (fun s18 => ?_)
    refine V_aload_n 4 X dX12_logLine_108 rfl rfl ?_
    refine V_getR (k1 := 3) 10 X dX12_logLine_109 co12 (kM hZ 0 _ rfl) (by decide) rfl rfl wfX12_17 ?_
    refine V_iload 0 X dX12_logLine_112 rfl ?_
    refine V_iconst (v := 2) X dX12_logLine_114 (by decide) ?_
    refine V_iadd X dX12_logLine_115 ?_
    refine V_iload 2 X dX12_logLine_116 rfl ?_
    refine V_iastG X dX12_logLine_118 (kM hZ 3 _ rfl) (fun s19 => ?_)
    refine V_aload_n 4 X dX12_logLine_119 rfl rfl ?_
    refine V_getR (k1 := 3) 10 X dX12_logLine_120 co12 (kM hZ 0 _ rfl) (by decide) rfl rfl wfX12_17 ?_
    refine V_iload 0 X dX12_logLine_123 rfl ?_
    refine V_iconst (v := 3) X dX12_logLine_125 (by decide) ?_
    refine V_iadd X dX12_logLine_126 ?_
    refine V_iload 1 X dX12_logLine_127 rfl ?_
    refine V_iastG X dX12_logLine_129 (kM hZ 3 _ rfl) (fun s20 => ?_)
    refine V_aload_n 4 X dX12_logLine_130 rfl rfl ?_
    refine V_getR (k1 := 3) 10 X dX12_logLine_131 co12 (kM hZ 0 _ rfl) (by decide) rfl rfl wfX12_17 ?_
    refine V_iconst (v := 0) X dX12_logLine_134 (by decide) ?_
    refine V_dup2 X dX12_logLine_135 rfl rfl ?_
    refine V_iald X dX12_logLine_136 (kM hZ 3 _ rfl) ?_
    refine V_iconst (v := 1) X dX12_logLine_137 (by decide) ?_
    refine V_iadd X dX12_logLine_138 ?_
    refine V_iastG X dX12_logLine_139 (kM hZ 3 _ rfl) (fun s21 => ?_)
    refine V_sub [4] rfl ?_
    exact bX12_logLine_140 X E hr hZ N s21
def fX12_logLine (N : Nat) (σ : Mem) : Option (Unit × Mem) :=
  lt_ (σ.1 0 4) (fun v1_1 => bd (fX12_wordIn N 19 20 σ) (fun r2 s3 => lt_ (r2 - 19) (fun v2_4 => if (s3.1 0 8) = 0 then gd (inb 0 121) (if (s3.1 3 (0 : Int32).toNatClampNeg) < 8 then fX12_logLine_b41 N v2_4 s3 else bd (fX12_also N 3 v1_1 s3) (fun r5 s6 => fX12_logLine_b41 N v2_4 s6)) else fX12_logLine_b41 N v2_4 s3)))
set_option maxRecDepth 100000 in
set_option maxHeartbeats 4000000 in
theorem bX12_logLine_0 {x : Cx} {z : Sx} (X : XG x z RX12 cX12_logLine 7 5 117) (E : XE x z) (hr : XR x none) (hZ : z.2.2.2.1 = kdM) (N : Nat) (σ : Mem) : VK x z 7 (BQ QV x z) 0 [(0, .ref (z.2.2.1 0))] [] σ (fX12_logLine N σ) := by
  unfold fX12_logLine
  refine V_aload_n 0 X dX12_logLine_0 rfl rfl ?_
  refine V_getI 4 X dX12_logLine_1 co12 (kM hZ 0 _ rfl) (by decide) rfl wfX12_72 ?_
  refine V_istore_nG (L' := fun v1_1 => [(1, .int v1_1), (0, .ref (z.2.2.1 0))]) X dX12_logLine_4 rfl (by decide) (fun _ => rfl) (fun v1_1 => ?_)
  refine V_aload_n 1 X dX12_logLine_5 rfl rfl ?_
  refine V_bipush (v := 19) X dX12_logLine_6 (by decide) ?_
  refine V_bipush (v := 20) X dX12_logLine_8 (by decide) ?_
  refine V_callI [.int 19, .int 20] [] X E dX12_logLine_10 (kX12_wordIn x.2.1 z hZ N 19 20 σ) co12 (kM hZ 0 _ rfl) gcX12_117 hyX12_wordIn rfl ⟨by decide, by decide⟩ rfl (Nat.le_of_ble_eq_true rfl) (fun r2 s3 => ?_)
  refine V_bipush (v := 19) X dX12_logLine_13 (by decide) ?_
  refine V_isub X dX12_logLine_15 ?_
  refine V_istore_nG (L' := fun v2_4 => [(2, .int v2_4), (1, .int v1_1), (0, .ref (z.2.2.1 0))]) X dX12_logLine_16 rfl (by decide) (fun _ => rfl) (fun v2_4 => ?_)
  refine V_aload_n 2 X dX12_logLine_17 rfl rfl ?_
  refine V_getI 8 X dX12_logLine_18 co12 (kM hZ 0 _ rfl) (by decide) rfl wfX12_99 ?_
  refine V_if_ne (tgt := 41) X dX12_logLine_21 (by decide) ?_ ?_
  · refine V_sub [2, 0] rfl ?_
    exact bX12_logLine_41 X E hr hZ N v2_4 s3
  · refine V_aload_n 2 X dX12_logLine_24 rfl rfl ?_
    refine V_getR (k1 := 3) 10 X dX12_logLine_25 co12 (kM hZ 0 _ rfl) (by decide) rfl rfl wfX12_17 ?_
    refine V_iconst (v := 0) X dX12_logLine_28 (by decide) ?_
    refine V_iald X dX12_logLine_29 (kM hZ 3 _ rfl) ?_
    refine V_bipush (v := 8) X dX12_logLine_30 (by decide) ?_
    refine V_icmp_lt (tgt := 41) X dX12_logLine_32 (by decide) ?_ ?_
    · refine V_sub [2, 0] rfl ?_
      exact bX12_logLine_41 X E hr hZ N v2_4 s3
    · refine V_aload_n 2 X dX12_logLine_35 rfl rfl ?_
      refine V_iconst (v := 3) X dX12_logLine_36 (by decide) ?_
      refine V_iload_n 1 X dX12_logLine_37 rfl rfl ?_
      refine V_callV [.int 3, .int v1_1] [] X E dX12_logLine_38 (kX12_also x.2.1 z hZ N 3 v1_1 s3) co12 (kM hZ 0 _ rfl) gcX12_110 hyX12_also rfl ⟨by decide, by decide⟩ rfl (Nat.le_of_ble_eq_true rfl) (fun r5 s6 => ?_)
      refine V_sub [2, 0] rfl ?_
      exact bX12_logLine_41 X E hr hZ N v2_4 s6
theorem kX12_logLine (l : Launch) (z : Sx) (hZ : z.2.2.2.1 = kdM) (N : Nat) (σ : Mem) : Ct QV yX12_logLine cX12_logLine 7 none 5 117 l z [.ref (z.2.2.1 0)] σ (fX12_logLine N σ) := by
  refine Ct_of (by decide +kernel) (Nat.le_of_ble_eq_true rfl) rfl ?_
  intro x _ X E hr
  exact bX12_logLine_0 X E hr hZ N σ
def fX12_sizeOf (N : Nat) (v0 : Int32) (σ : Mem) : Option (Int32 × Mem) :=
  if v0 = 0 then some (63, σ) else if v0 = 1 then some (121, σ) else some (33, σ)
set_option maxRecDepth 100000 in
set_option maxHeartbeats 4000000 in
theorem bX12_sizeOf_0 {x : Cx} {z : Sx} (X : XG x z RX12 cX12_sizeOf 1 0 0) (E : XE x z) (hr : XR x (some .int)) (hZ : z.2.2.2.1 = kdM) (N : Nat) (v0 : Int32) (σ : Mem) : VK x z 1 (BQ QI x z) 0 [(0, .int v0)] [] σ (fX12_sizeOf N v0 σ) := by
  unfold fX12_sizeOf
  refine V_iload_n 0 X dX12_sizeOf_0 rfl rfl ?_
  refine V_if_ne (tgt := 9) X dX12_sizeOf_1 (by decide) ?_ ?_
  · refine V_iload_n 0 X dX12_sizeOf_9 rfl rfl ?_
    refine V_iconst (v := 1) X dX12_sizeOf_10 (by decide) ?_
    refine V_icmp_ne (tgt := 19) X dX12_sizeOf_11 (by decide) ?_ ?_
    · refine V_bipush (v := 33) X dX12_sizeOf_19 (by decide) ?_
      exact V_iret X E hr dX12_sizeOf_21
    · refine V_bipush (v := 121) X dX12_sizeOf_14 (by decide) ?_
      refine V_goto (tgt := 21) X dX12_sizeOf_16 (by decide) ?_
      exact V_iret X E hr dX12_sizeOf_21
  · refine V_bipush (v := 63) X dX12_sizeOf_4 (by decide) ?_
    refine V_goto (tgt := 21) X dX12_sizeOf_6 (by decide) ?_
    exact V_iret X E hr dX12_sizeOf_21
theorem kX12_sizeOf (l : Launch) (z : Sx) (hZ : z.2.2.2.1 = kdM) (N : Nat) (v0 : Int32) (σ : Mem) : Ct QI yX12_sizeOf cX12_sizeOf 1 (some .int) 0 0 l z [.int v0] σ (fX12_sizeOf N v0 σ) := by
  refine Ct_of (by decide +kernel) (Nat.le_of_ble_eq_true rfl) rfl ?_
  intro x _ X E hr
  exact bX12_sizeOf_0 X E hr hZ N v0 σ
def fX12_placeOf (N : Nat) (v0 : Int32) (v1 : Int32) (σ : Mem) : Option (Int32 × Mem) :=
  if v0 = 0 then some ((610 + (63 * v1)), σ) else if v0 = 1 then some ((736 + (121 * v1)), σ) else some ((978 + (33 * v1)), σ)
set_option maxRecDepth 100000 in
set_option maxHeartbeats 4000000 in
theorem bX12_placeOf_0 {x : Cx} {z : Sx} (X : XG x z RX12 cX12_placeOf 2 0 0) (E : XE x z) (hr : XR x (some .int)) (hZ : z.2.2.2.1 = kdM) (N : Nat) (v0 : Int32) (v1 : Int32) (σ : Mem) : VK x z 2 (BQ QI x z) 0 [(0, .int v0), (1, .int v1)] [] σ (fX12_placeOf N v0 v1 σ) := by
  unfold fX12_placeOf
  refine V_iload_n 0 X dX12_placeOf_0 rfl rfl ?_
  refine V_if_ne (tgt := 15) X dX12_placeOf_1 (by decide) ?_ ?_
  · refine V_iload_n 0 X dX12_placeOf_15 rfl rfl ?_
    refine V_iconst (v := 1) X dX12_placeOf_16 (by decide) ?_
    refine V_icmp_ne (tgt := 31) X dX12_placeOf_17 (by decide) ?_ ?_
    · refine V_sipush (v := 978) X dX12_placeOf_31 (by decide) ?_
      refine V_bipush (v := 33) X dX12_placeOf_34 (by decide) ?_
      refine V_iload_n 1 X dX12_placeOf_36 rfl rfl ?_
      refine V_imul X dX12_placeOf_37 ?_
      refine V_iadd X dX12_placeOf_38 ?_
      exact V_iret X E hr dX12_placeOf_39
    · refine V_sipush (v := 736) X dX12_placeOf_20 (by decide) ?_
      refine V_bipush (v := 121) X dX12_placeOf_23 (by decide) ?_
      refine V_iload_n 1 X dX12_placeOf_25 rfl rfl ?_
      refine V_imul X dX12_placeOf_26 ?_
      refine V_iadd X dX12_placeOf_27 ?_
      refine V_goto (tgt := 39) X dX12_placeOf_28 (by decide) ?_
      exact V_iret X E hr dX12_placeOf_39
  · refine V_sipush (v := 610) X dX12_placeOf_4 (by decide) ?_
    refine V_bipush (v := 63) X dX12_placeOf_7 (by decide) ?_
    refine V_iload_n 1 X dX12_placeOf_9 rfl rfl ?_
    refine V_imul X dX12_placeOf_10 ?_
    refine V_iadd X dX12_placeOf_11 ?_
    refine V_goto (tgt := 39) X dX12_placeOf_12 (by decide) ?_
    exact V_iret X E hr dX12_placeOf_39
theorem kX12_placeOf (l : Launch) (z : Sx) (hZ : z.2.2.2.1 = kdM) (N : Nat) (v0 : Int32) (v1 : Int32) (σ : Mem) : Ct QI yX12_placeOf cX12_placeOf 2 (some .int) 0 0 l z [.int v0, .int v1] σ (fX12_placeOf N v0 v1 σ) := by
  refine Ct_of (by decide +kernel) (Nat.le_of_ble_eq_true rfl) rfl ?_
  intro x _ X E hr
  exact bX12_placeOf_0 X E hr hZ N v0 v1 σ
def fX12_text_b265 (N : Nat) (rc265 : Int32 → Int32 → Int32 → Mem → Option (Int32 × Mem)) (v1 : Int32) (v3 : Int32) (v4 : Int32) (σ : Mem) : Option (Int32 × Mem) :=
  bd (fX12_sizeOf N v1 σ) (fun r29 s30 => if r29 ≤ v4 then some (v3, s30) else bd (fX12_placeOf N v1 v3 s30) (fun r31 s32 => gd (inb v4 121) (gd (inb (r31 + v4) 4176) (lt_ (pI s32 1 (r31 + v4).toNatClampNeg (s32.1 3 v4.toNatClampNeg)) (fun s33 => lt_ (v4 + 1) (fun v4_34 => rc265 v1 v3 v4_34 s33))))))
set_option maxRecDepth 100000 in
set_option maxHeartbeats 4000000 in
theorem bX12_text_265 {x : Cx} {z : Sx} (X : XG x z RX12 cX12_text 5 7 168) (E : XE x z) (hr : XR x (some .int)) (hZ : z.2.2.2.1 = kdM) (N : Nat) (rc265 : Int32 → Int32 → Int32 → Mem → Option (Int32 × Mem)) (hc265 : ∀ (v1 : Int32) (v3 : Int32) (v4 : Int32) (σ : Mem), VK x z 5 (BQ QI x z) 265 [(0, .ref (z.2.2.1 0)), (1, .int v1), (3, .int v3), (4, .int v4)] [] σ (rc265 v1 v3 v4 σ)) (v1 : Int32) (v3 : Int32) (v4 : Int32) (σ : Mem) : VK x z 5 (BQ QI x z) 265 [(0, .ref (z.2.2.1 0)), (1, .int v1), (3, .int v3), (4, .int v4)] [] σ (fX12_text_b265 N rc265 v1 v3 v4 σ) := by
  unfold fX12_text_b265
  refine V_iload 3 X dX12_text_265 rfl ?_
  refine V_iload_n 1 X dX12_text_267 rfl rfl ?_
  refine V_calSI [.int v1] [.int v4] X E dX12_text_268 (kX12_sizeOf x.2.1 z hZ N v1 σ) gcX12_150 hyX12_sizeOf rfl ⟨by decide, by decide⟩ rfl (Nat.le_of_ble_eq_true rfl) (fun r29 s30 => ?_)
  refine V_icmp_ge (tgt := 300) X dX12_text_271 (by decide) ?_ ?_
  · refine V_iload_n 2 X dX12_text_300 rfl rfl ?_
    exact V_iret X E hr dX12_text_301
  · refine V_aload_n 0 X dX12_text_274 rfl rfl ?_
    refine V_getR (k1 := 1) 0 X dX12_text_275 co12 (kM hZ 0 _ rfl) (by decide) rfl rfl wfX12_7 ?_
    refine V_iload_n 1 X dX12_text_278 rfl rfl ?_
    refine V_iload_n 2 X dX12_text_279 rfl rfl ?_
    refine V_calSI [.int v1, .int v3] [.ref (z.2.2.1 1)] X E dX12_text_280 (kX12_placeOf x.2.1 z hZ N v1 v3 s30) gcX12_153 hyX12_placeOf rfl ⟨by decide, by decide⟩ rfl (Nat.le_of_ble_eq_true rfl) (fun r31 s32 => ?_)
    refine V_iload 3 X dX12_text_283 rfl ?_
    refine V_iadd X dX12_text_285 ?_
    refine V_aload_n 0 X dX12_text_286 rfl rfl ?_
    refine V_getR (k1 := 3) 10 X dX12_text_287 co12 (kM hZ 0 _ rfl) (by decide) rfl rfl wfX12_17 ?_
    refine V_iload 3 X dX12_text_290 rfl ?_
    refine V_iald X dX12_text_292 (kM hZ 3 _ rfl) ?_
    refine V_iastG X dX12_text_293 (kM hZ 1 _ rfl) (fun s33 => ?_)
    refine V_iincG (L' := fun v4_34 => [(4, .int v4_34), (0, .ref (z.2.2.1 0)), (1, .int v1), (3, .int v3)]) 3 X dX12_text_294 rfl rfl (by decide) (fun _ => rfl) (fun v4_34 => ?_)
    refine V_goto (tgt := 265) X dX12_text_297 (by decide) ?_
    refine V_sub [1, 2, 3, 0] rfl ?_
    exact hc265 v1 v3 v4_34 s33
def fX12_text_l265 (N : Nat) : Nat → Int32 → Int32 → Int32 → Mem → Option (Int32 × Mem)
  | 0 => fun _ _ _ _ => none
  | n + 1 => fX12_text_b265 N (fX12_text_l265 N n)
theorem lX12_text_265 {x : Cx} {z : Sx} (X : XG x z RX12 cX12_text 5 7 168) (E : XE x z) (hr : XR x (some .int)) (hZ : z.2.2.2.1 = kdM) (N : Nat) (n : Nat) (v1 : Int32) (v3 : Int32) (v4 : Int32) (σ : Mem) : VK x z 5 (BQ QI x z) 265 [(0, .ref (z.2.2.1 0)), (1, .int v1), (3, .int v3), (4, .int v4)] [] σ (fX12_text_l265 N n v1 v3 v4 σ) := by
  induction n generalizing v1 v3 v4 σ with
  | zero => exact V_none
  | succ n ih => exact bX12_text_265 X E hr hZ N (fX12_text_l265 N n) ih v1 v3 v4 σ
def fX12_text_b262 (N : Nat) (v1 : Int32) (v3 : Int32) (σ : Mem) : Option (Int32 × Mem) :=
  lt_ 0 (fun v4_28 => fX12_text_l265 N N v1 v3 v4_28 σ)
set_option maxRecDepth 100000 in
set_option maxHeartbeats 4000000 in
theorem bX12_text_262 {x : Cx} {z : Sx} (X : XG x z RX12 cX12_text 5 7 168) (E : XE x z) (hr : XR x (some .int)) (hZ : z.2.2.2.1 = kdM) (N : Nat) (v1 : Int32) (v3 : Int32) (σ : Mem) : VK x z 5 (BQ QI x z) 262 [(0, .ref (z.2.2.1 0)), (1, .int v1), (3, .int v3)] [] σ (fX12_text_b262 N v1 v3 σ) := by
  unfold fX12_text_b262
  refine V_iconst (v := 0) X dX12_text_262 (by decide) ?_
  refine V_istoreG (L' := fun v4_28 => [(4, .int v4_28), (0, .ref (z.2.2.1 0)), (1, .int v1), (3, .int v3)]) X dX12_text_263 (by decide) (fun _ => rfl) (fun v4_28 => ?_)
  refine V_sub [1, 2, 3, 0] rfl ?_
  exact lX12_text_265 X E hr hZ N N v1 v3 v4_28 σ
def fX12_text_b246 (N : Nat) (v1 : Int32) (v2 : Int32) (t0 : Int32) (σ : Mem) : Option (Int32 × Mem) :=
  lt_ t0 (fun v3_26 => if v2 = (-1) then gd (inb v1 4176) (gd (inb v1 4176) (lt_ (pI σ 1 v1.toNatClampNeg ((σ.1 1 v1.toNatClampNeg) + 1)) (fun s27 => fX12_text_b262 N v1 v3_26 s27))) else fX12_text_b262 N v1 v3_26 σ)
set_option maxRecDepth 100000 in
set_option maxHeartbeats 4000000 in
theorem bX12_text_246 {x : Cx} {z : Sx} (X : XG x z RX12 cX12_text 5 7 168) (E : XE x z) (hr : XR x (some .int)) (hZ : z.2.2.2.1 = kdM) (N : Nat) (v1 : Int32) (v2 : Int32) (t0 : Int32) (σ : Mem) : VK x z 5 (BQ QI x z) 246 [(0, .ref (z.2.2.1 0)), (1, .int v1), (2, .int v2)] [.int t0] σ (fX12_text_b246 N v1 v2 t0 σ) := by
  unfold fX12_text_b246
  refine V_istore_nG (L' := fun v3_26 => [(3, .int v3_26), (0, .ref (z.2.2.1 0)), (1, .int v1), (2, .int v2)]) X dX12_text_246 rfl (by decide) (fun _ => rfl) (fun v3_26 => ?_)
  refine V_iload_n 3 X dX12_text_247 rfl rfl ?_
  refine V_iconst (v := -1) X dX12_text_248 (by decide) ?_
  refine V_icmp_ne (tgt := 262) X dX12_text_249 (by decide) ?_ ?_
  · refine V_sub [1, 2, 0] rfl ?_
    exact bX12_text_262 X E hr hZ N v1 v3_26 σ
  · refine V_aload_n 1 X dX12_text_252 rfl rfl ?_
    refine V_getR (k1 := 1) 0 X dX12_text_253 co12 (kM hZ 0 _ rfl) (by decide) rfl rfl wfX12_7 ?_
    refine V_iload_n 2 X dX12_text_256 rfl rfl ?_
    refine V_dup2 X dX12_text_257 rfl rfl ?_
    refine V_iald X dX12_text_258 (kM hZ 1 _ rfl) ?_
    refine V_iconst (v := 1) X dX12_text_259 (by decide) ?_
    refine V_iadd X dX12_text_260 ?_
    refine V_iastG X dX12_text_261 (kM hZ 1 _ rfl) (fun s27 => ?_)
    refine V_sub [1, 2, 0] rfl ?_
    exact bX12_text_262 X E hr hZ N v1 v3_26 s27
def fX12_text_b220 (N : Nat) (v1 : Int32) (v2 : Int32) (σ : Mem) : Option (Int32 × Mem) :=
  gd (inb 5 4176) (if (σ.1 1 (5 : Int32).toNatClampNeg) = 0 then if v2 = (-1) then gd (inb v1 4176) (fX12_text_b246 N v1 v2 (σ.1 1 v1.toNatClampNeg) σ) else fX12_text_b246 N v1 v2 v2 σ else some ((-1), σ))
set_option maxRecDepth 100000 in
set_option maxHeartbeats 4000000 in
theorem bX12_text_220 {x : Cx} {z : Sx} (X : XG x z RX12 cX12_text 5 7 168) (E : XE x z) (hr : XR x (some .int)) (hZ : z.2.2.2.1 = kdM) (N : Nat) (v1 : Int32) (v2 : Int32) (σ : Mem) : VK x z 5 (BQ QI x z) 220 [(0, .ref (z.2.2.1 0)), (1, .int v1), (2, .int v2)] [] σ (fX12_text_b220 N v1 v2 σ) := by
  unfold fX12_text_b220
  refine V_aload_n 0 X dX12_text_220 rfl rfl ?_
  refine V_getR (k1 := 1) 0 X dX12_text_221 co12 (kM hZ 0 _ rfl) (by decide) rfl rfl wfX12_7 ?_
  refine V_iconst (v := 5) X dX12_text_224 (by decide) ?_
  refine V_iald X dX12_text_225 (kM hZ 1 _ rfl) ?_
  refine V_if_eq (tgt := 231) X dX12_text_226 (by decide) ?_ ?_
  · refine V_iload_n 2 X dX12_text_231 rfl rfl ?_
    refine V_iconst (v := -1) X dX12_text_232 (by decide) ?_
    refine V_icmp_ne (tgt := 245) X dX12_text_233 (by decide) ?_ ?_
    · refine V_iload_n 2 X dX12_text_245 rfl rfl ?_
      refine V_sub [0, 1, 2] rfl ?_
      exact bX12_text_246 X E hr hZ N v1 v2 v2 σ
    · refine V_aload_n 0 X dX12_text_236 rfl rfl ?_
      refine V_getR (k1 := 1) 0 X dX12_text_237 co12 (kM hZ 0 _ rfl) (by decide) rfl rfl wfX12_7 ?_
      refine V_iload_n 1 X dX12_text_240 rfl rfl ?_
      refine V_iald X dX12_text_241 (kM hZ 1 _ rfl) ?_
      refine V_goto (tgt := 246) X dX12_text_242 (by decide) ?_
      refine V_sub [0, 1, 2] rfl ?_
      exact bX12_text_246 X E hr hZ N v1 v2 (σ.1 1 v1.toNatClampNeg) σ
  · refine V_iconst (v := -1) X dX12_text_229 (by decide) ?_
    exact V_iret X E hr dX12_text_230
def fX12_text_b185 (N : Nat) (v1 : Int32) (v2 : Int32) (σ : Mem) : Option (Int32 × Mem) :=
  gd (inb 5 4176) (if (σ.1 1 (5 : Int32).toNatClampNeg) = 0 then if v1 = 0 then gd (inb 0 121) (if (σ.1 0 9) < (σ.1 3 (0 : Int32).toNatClampNeg) then fX12_text_b220 N v1 v2 σ else bd (fX12_also N 4 (σ.1 0 4) σ) (fun r24 s25 => fX12_text_b220 N v1 v2 s25)) else fX12_text_b220 N v1 v2 σ else fX12_text_b220 N v1 v2 σ)
set_option maxRecDepth 100000 in
set_option maxHeartbeats 4000000 in
theorem bX12_text_185 {x : Cx} {z : Sx} (X : XG x z RX12 cX12_text 5 7 168) (E : XE x z) (hr : XR x (some .int)) (hZ : z.2.2.2.1 = kdM) (N : Nat) (v1 : Int32) (v2 : Int32) (σ : Mem) : VK x z 5 (BQ QI x z) 185 [(0, .ref (z.2.2.1 0)), (1, .int v1), (2, .int v2)] [] σ (fX12_text_b185 N v1 v2 σ) := by
  unfold fX12_text_b185
  refine V_aload_n 0 X dX12_text_185 rfl rfl ?_
  refine V_getR (k1 := 1) 0 X dX12_text_186 co12 (kM hZ 0 _ rfl) (by decide) rfl rfl wfX12_7 ?_
  refine V_iconst (v := 5) X dX12_text_189 (by decide) ?_
  refine V_iald X dX12_text_190 (kM hZ 1 _ rfl) ?_
  refine V_if_ne (tgt := 220) X dX12_text_191 (by decide) ?_ ?_
  · refine V_sub [0, 1, 2] rfl ?_
    exact bX12_text_220 X E hr hZ N v1 v2 σ
  · refine V_iload_n 1 X dX12_text_194 rfl rfl ?_
    refine V_if_ne (tgt := 220) X dX12_text_195 (by decide) ?_ ?_
    · refine V_sub [0, 1, 2] rfl ?_
      exact bX12_text_220 X E hr hZ N v1 v2 σ
    · refine V_aload_n 0 X dX12_text_198 rfl rfl ?_
      refine V_getI 9 X dX12_text_199 co12 (kM hZ 0 _ rfl) (by decide) rfl wfX12_124 ?_
      refine V_aload_n 0 X dX12_text_202 rfl rfl ?_
      refine V_getR (k1 := 3) 10 X dX12_text_203 co12 (kM hZ 0 _ rfl) (by decide) rfl rfl wfX12_17 ?_
      refine V_iconst (v := 0) X dX12_text_206 (by decide) ?_
      refine V_iald X dX12_text_207 (kM hZ 3 _ rfl) ?_
      refine V_icmp_lt (tgt := 220) X dX12_text_208 (by decide) ?_ ?_
      · refine V_sub [0, 1, 2] rfl ?_
        exact bX12_text_220 X E hr hZ N v1 v2 σ
      · refine V_aload_n 0 X dX12_text_211 rfl rfl ?_
        refine V_iconst (v := 4) X dX12_text_212 (by decide) ?_
        refine V_aload_n 0 X dX12_text_213 rfl rfl ?_
        refine V_getI 4 X dX12_text_214 co12 (kM hZ 0 _ rfl) (by decide) rfl wfX12_72 ?_
        refine V_callV [.int 4, .int (σ.1 0 4)] [] X E dX12_text_217 (kX12_also x.2.1 z hZ N 4 (σ.1 0 4) σ) co12 (kM hZ 0 _ rfl) gcX12_110 hyX12_also rfl ⟨by decide, by decide⟩ rfl (Nat.le_of_ble_eq_true rfl) (fun r24 s25 => ?_)
        refine V_sub [0, 1, 2] rfl ?_
        exact bX12_text_220 X E hr hZ N v1 v2 s25
def fX12_text_b122 (N : Nat) (rc122 : Int32 → Int32 → Mem → Option (Int32 × Mem)) (v1 : Int32) (v2 : Int32) (σ : Mem) : Option (Int32 × Mem) :=
  if (σ.1 0 8) = 0 then if (σ.1 0 5) = 0 then fX12_text_b185 N v1 v2 σ else if v1 = 0 then bd (fX12_chamberLine N σ) (fun r18 s19 => rc122 v1 v2 s19) else if v1 = 1 then bd (fX12_sessionLine N σ) (fun r20 s21 => rc122 v1 v2 s21) else bd (fX12_logLine N σ) (fun r22 s23 => rc122 v1 v2 s23) else fX12_text_b185 N v1 v2 σ
set_option maxRecDepth 100000 in
set_option maxHeartbeats 4000000 in
theorem bX12_text_122 {x : Cx} {z : Sx} (X : XG x z RX12 cX12_text 5 7 168) (E : XE x z) (hr : XR x (some .int)) (hZ : z.2.2.2.1 = kdM) (N : Nat) (rc122 : Int32 → Int32 → Mem → Option (Int32 × Mem)) (hc122 : ∀ (v1 : Int32) (v2 : Int32) (σ : Mem), VK x z 5 (BQ QI x z) 122 [(0, .ref (z.2.2.1 0)), (1, .int v1), (2, .int v2)] [] σ (rc122 v1 v2 σ)) (v1 : Int32) (v2 : Int32) (σ : Mem) : VK x z 5 (BQ QI x z) 122 [(0, .ref (z.2.2.1 0)), (1, .int v1), (2, .int v2)] [] σ (fX12_text_b122 N rc122 v1 v2 σ) := by
  unfold fX12_text_b122
  refine V_aload_n 0 X dX12_text_122 rfl rfl ?_
  refine V_getI 8 X dX12_text_123 co12 (kM hZ 0 _ rfl) (by decide) rfl wfX12_99 ?_
  refine V_if_ne (tgt := 185) X dX12_text_126 (by decide) ?_ ?_
  · refine V_sub [0, 1, 2] rfl ?_
    exact bX12_text_185 X E hr hZ N v1 v2 σ
  · refine V_aload_n 0 X dX12_text_129 rfl rfl ?_
    refine V_getI 5 X dX12_text_130 co12 (kM hZ 0 _ rfl) (by decide) rfl wfX12_75 ?_
    refine V_if_eq (tgt := 185) X dX12_text_133 (by decide) ?_ ?_
    · refine V_sub [0, 1, 2] rfl ?_
      exact bX12_text_185 X E hr hZ N v1 v2 σ
    · refine V_iload_n 1 X dX12_text_136 rfl rfl ?_
      refine V_split (c := 0) (fun n137_0 => ?_) (fun n137_0 => ?_)
      · refine V_look (off := 27) (tgt := 164) X dX12_text_137 (by decide) (by rw [n137_0]; decide) (by decide) ?_
        refine V_aload_n 0 X dX12_text_164 rfl rfl ?_
        refine V_callV [] [] X E dX12_text_165 (kX12_chamberLine x.2.1 z hZ N σ) co12 (kM hZ 0 _ rfl) gcX12_141 hyX12_chamberLine rfl ⟨by decide, by decide⟩ rfl (Nat.le_of_ble_eq_true rfl) (fun r18 s19 => ?_)
        refine V_goto (tgt := 122) X dX12_text_168 (by decide) ?_
        refine V_sub [0, 1, 2] rfl ?_
        exact hc122 v1 v2 s19
      refine V_split (c := 1) (fun n137_1 => ?_) (fun n137_1 => ?_)
      · refine V_look (off := 34) (tgt := 171) X dX12_text_137 (by decide) (by rw [n137_1]; decide) (by decide) ?_
        refine V_aload_n 0 X dX12_text_171 rfl rfl ?_
        refine V_callV [] [] X E dX12_text_172 (kX12_sessionLine x.2.1 z hZ N σ) co12 (kM hZ 0 _ rfl) gcX12_144 hyX12_sessionLine rfl ⟨by decide, by decide⟩ rfl (Nat.le_of_ble_eq_true rfl) (fun r20 s21 => ?_)
        refine V_goto (tgt := 122) X dX12_text_175 (by decide) ?_
        refine V_sub [0, 1, 2] rfl ?_
        exact hc122 v1 v2 s21
      refine V_look (off := 41) (tgt := 178) X dX12_text_137 (by decide) (by have q0 := sw_ne (v := 0) n137_0 (by decide); have q1 := sw_ne (v := 1) n137_1 (by decide); simp [Op.lookupswitch.offset]; omega) (by decide) ?_
      refine V_aload_n 0 X dX12_text_178 rfl rfl ?_
      refine V_callV [] [] X E dX12_text_179 (kX12_logLine x.2.1 z hZ N σ) co12 (kM hZ 0 _ rfl) gcX12_147 hyX12_logLine rfl ⟨by decide, by decide⟩ rfl (Nat.le_of_ble_eq_true rfl) (fun r22 s23 => ?_)
      refine V_goto (tgt := 122) X dX12_text_182 (by decide) ?_
      refine V_sub [0, 1, 2] rfl ?_
      exact hc122 v1 v2 s23
def fX12_text_l122 (N : Nat) : Nat → Int32 → Int32 → Mem → Option (Int32 × Mem)
  | 0 => fun _ _ _ => none
  | n + 1 => fX12_text_b122 N (fX12_text_l122 N n)
theorem lX12_text_122 {x : Cx} {z : Sx} (X : XG x z RX12 cX12_text 5 7 168) (E : XE x z) (hr : XR x (some .int)) (hZ : z.2.2.2.1 = kdM) (N : Nat) (n : Nat) (v1 : Int32) (v2 : Int32) (σ : Mem) : VK x z 5 (BQ QI x z) 122 [(0, .ref (z.2.2.1 0)), (1, .int v1), (2, .int v2)] [] σ (fX12_text_l122 N n v1 v2 σ) := by
  induction n generalizing v1 v2 σ with
  | zero => exact V_none
  | succ n ih => exact bX12_text_122 X E hr hZ N (fX12_text_l122 N n) ih v1 v2 σ
def fX12_text_b118 (N : Nat) (v1 : Int32) (v2 : Int32) (σ : Mem) : Option (Int32 × Mem) :=
  bd (fX12_advance N σ) (fun r16 s17 => fX12_text_l122 N N v1 v2 s17)
set_option maxRecDepth 100000 in
set_option maxHeartbeats 4000000 in
theorem bX12_text_118 {x : Cx} {z : Sx} (X : XG x z RX12 cX12_text 5 7 168) (E : XE x z) (hr : XR x (some .int)) (hZ : z.2.2.2.1 = kdM) (N : Nat) (v1 : Int32) (v2 : Int32) (σ : Mem) : VK x z 5 (BQ QI x z) 118 [(0, .ref (z.2.2.1 0)), (1, .int v1), (2, .int v2)] [] σ (fX12_text_b118 N v1 v2 σ) := by
  unfold fX12_text_b118
  refine V_aload_n 0 X dX12_text_118 rfl rfl ?_
  refine V_callV [] [] X E dX12_text_119 (kX12_advance x.2.1 z hZ N σ) co12 (kM hZ 0 _ rfl) gcX12_114 hyX12_advance rfl ⟨by decide, by decide⟩ rfl (Nat.le_of_ble_eq_true rfl) (fun r16 s17 => ?_)
  refine V_sub [0, 1, 2] rfl ?_
  exact lX12_text_122 X E hr hZ N N v1 v2 s17
def fX12_text_b88 (N : Nat) (rc88 : Int32 → Int32 → Int32 → Mem → Option (Int32 × Mem)) (v1 : Int32) (v2 : Int32) (v3 : Int32) (σ : Mem) : Option (Int32 × Mem) :=
  if 121 ≤ v3 then if v1 = 0 then gd (inb 2 121) (lt_ (pI σ 3 (2 : Int32).toNatClampNeg 3) (fun s13 => fX12_text_b118 N v1 v2 s13)) else fX12_text_b118 N v1 v2 σ else gd (inb v3 121) (lt_ (pI σ 3 v3.toNatClampNeg 0) (fun s14 => lt_ (v3 + 1) (fun v3_15 => rc88 v1 v2 v3_15 s14)))
set_option maxRecDepth 100000 in
set_option maxHeartbeats 4000000 in
theorem bX12_text_88 {x : Cx} {z : Sx} (X : XG x z RX12 cX12_text 5 7 168) (E : XE x z) (hr : XR x (some .int)) (hZ : z.2.2.2.1 = kdM) (N : Nat) (rc88 : Int32 → Int32 → Int32 → Mem → Option (Int32 × Mem)) (hc88 : ∀ (v1 : Int32) (v2 : Int32) (v3 : Int32) (σ : Mem), VK x z 5 (BQ QI x z) 88 [(0, .ref (z.2.2.1 0)), (1, .int v1), (2, .int v2), (3, .int v3)] [] σ (rc88 v1 v2 v3 σ)) (v1 : Int32) (v2 : Int32) (v3 : Int32) (σ : Mem) : VK x z 5 (BQ QI x z) 88 [(0, .ref (z.2.2.1 0)), (1, .int v1), (2, .int v2), (3, .int v3)] [] σ (fX12_text_b88 N rc88 v1 v2 v3 σ) := by
  unfold fX12_text_b88
  refine V_iload_n 3 X dX12_text_88 rfl rfl ?_
  refine V_bipush (v := 121) X dX12_text_89 (by decide) ?_
  refine V_icmp_ge (tgt := 107) X dX12_text_91 (by decide) ?_ ?_
  · refine V_iload_n 1 X dX12_text_107 rfl rfl ?_
    refine V_if_ne (tgt := 118) X dX12_text_108 (by decide) ?_ ?_
    · refine V_sub [0, 1, 2] rfl ?_
      exact bX12_text_118 X E hr hZ N v1 v2 σ
    · refine V_aload_n 0 X dX12_text_111 rfl rfl ?_
      refine V_getR (k1 := 3) 10 X dX12_text_112 co12 (kM hZ 0 _ rfl) (by decide) rfl rfl wfX12_17 ?_
      refine V_iconst (v := 2) X dX12_text_115 (by decide) ?_
      refine V_iconst (v := 3) X dX12_text_116 (by decide) ?_
      refine V_iastG X dX12_text_117 (kM hZ 3 _ rfl) (fun s13 => ?_)
      refine V_sub [0, 1, 2] rfl ?_
      exact bX12_text_118 X E hr hZ N v1 v2 s13
  · refine V_aload_n 0 X dX12_text_94 rfl rfl ?_
    refine V_getR (k1 := 3) 10 X dX12_text_95 co12 (kM hZ 0 _ rfl) (by decide) rfl rfl wfX12_17 ?_
    refine V_iload_n 3 X dX12_text_98 rfl rfl ?_
    refine V_iconst (v := 0) X dX12_text_99 (by decide) ?_
    refine V_iastG X dX12_text_100 (kM hZ 3 _ rfl) (fun s14 => ?_)
    refine V_iincG (L' := fun v3_15 => [(3, .int v3_15), (0, .ref (z.2.2.1 0)), (1, .int v1), (2, .int v2)]) 3 X dX12_text_101 rfl rfl (by decide) (fun _ => rfl) (fun v3_15 => ?_)
    refine V_goto (tgt := 88) X dX12_text_104 (by decide) ?_
    refine V_sub [1, 2, 3, 0] rfl ?_
    exact hc88 v1 v2 v3_15 s14
def fX12_text_l88 (N : Nat) : Nat → Int32 → Int32 → Int32 → Mem → Option (Int32 × Mem)
  | 0 => fun _ _ _ _ => none
  | n + 1 => fX12_text_b88 N (fX12_text_l88 N n)
theorem lX12_text_88 {x : Cx} {z : Sx} (X : XG x z RX12 cX12_text 5 7 168) (E : XE x z) (hr : XR x (some .int)) (hZ : z.2.2.2.1 = kdM) (N : Nat) (n : Nat) (v1 : Int32) (v2 : Int32) (v3 : Int32) (σ : Mem) : VK x z 5 (BQ QI x z) 88 [(0, .ref (z.2.2.1 0)), (1, .int v1), (2, .int v2), (3, .int v3)] [] σ (fX12_text_l88 N n v1 v2 v3 σ) := by
  induction n generalizing v1 v2 v3 σ with
  | zero => exact V_none
  | succ n ih => exact bX12_text_88 X E hr hZ N (fX12_text_l88 N n) ih v1 v2 v3 σ
def fX12_text_b71 (N : Nat) (v1 : Int32) (v2 : Int32) (σ : Mem) : Option (Int32 × Mem) :=
  lt_ (pI σ 0 3 0) (fun s9 => lt_ (pI s9 0 8 0) (fun s10 => lt_ (pI s10 0 9 (-1)) (fun s11 => lt_ 0 (fun v3_12 => fX12_text_l88 N N v1 v2 v3_12 s11))))
set_option maxRecDepth 100000 in
set_option maxHeartbeats 4000000 in
theorem bX12_text_71 {x : Cx} {z : Sx} (X : XG x z RX12 cX12_text 5 7 168) (E : XE x z) (hr : XR x (some .int)) (hZ : z.2.2.2.1 = kdM) (N : Nat) (v1 : Int32) (v2 : Int32) (σ : Mem) : VK x z 5 (BQ QI x z) 71 [(0, .ref (z.2.2.1 0)), (1, .int v1), (2, .int v2)] [] σ (fX12_text_b71 N v1 v2 σ) := by
  unfold fX12_text_b71
  refine V_aload_n 0 X dX12_text_71 rfl rfl ?_
  refine V_iconst (v := 0) X dX12_text_72 (by decide) ?_
  refine V_putIG 3 X dX12_text_73 co12 (kM hZ 0 _ rfl) (by decide) rfl wfX12_65 rfl rfl rfl (fun s9 => ?_)
  refine V_aload_n 0 X dX12_text_76 rfl rfl ?_
  refine V_iconst (v := 0) X dX12_text_77 (by decide) ?_
  refine V_putIG 8 X dX12_text_78 co12 (kM hZ 0 _ rfl) (by decide) rfl wfX12_99 rfl (by decide) rfl (fun s10 => ?_)
  refine V_aload_n 0 X dX12_text_81 rfl rfl ?_
  refine V_iconst (v := -1) X dX12_text_82 (by decide) ?_
  refine V_putIG 9 X dX12_text_83 co12 (kM hZ 0 _ rfl) (by decide) rfl wfX12_124 rfl rfl rfl (fun s11 => ?_)
  refine V_iconst (v := 0) X dX12_text_86 (by decide) ?_
  refine V_istore_nG (L' := fun v3_12 => [(3, .int v3_12), (0, .ref (z.2.2.1 0)), (1, .int v1), (2, .int v2)]) X dX12_text_87 rfl (by decide) (fun _ => rfl) (fun v3_12 => ?_)
  refine V_sub [1, 2, 3, 0] rfl ?_
  exact lX12_text_88 X E hr hZ N N v1 v2 v3_12 s11
def fX12_text (N : Nat) (v1 : Int32) (v2 : Int32) (σ : Mem) : Option (Int32 × Mem) :=
  gd (inb 4 4176) (lt_ (pI σ 0 2 (σ.1 1 (4 : Int32).toNatClampNeg)) (fun s1 => gd (inb 4 4176) (lt_ (pI s1 1 (4 : Int32).toNatClampNeg 0) (fun s2 => gd (inb 5 4176) (lt_ (pI s2 1 (5 : Int32).toNatClampNeg 0) (fun s3 => gd (inb 6 4176) (lt_ (pI s3 1 (6 : Int32).toNatClampNeg (-1)) (fun s4 => bd (fX12_isIn N v1 0 2 s4) (fun r5 s6 => if r5 = 0 then some ((-2), s6) else if v2 = (-1) then gd (inb v1 4176) (if (s6.1 1 v1.toNatClampNeg) < 2 then fX12_text_b71 N v1 v2 s6 else some ((-2), s6)) else bd (fX12_isOf N v1 v2 s6) (fun r7 s8 => if r7 = 0 then some ((-2), s8) else fX12_text_b71 N v1 v2 s8))))))))))
set_option maxRecDepth 100000 in
set_option maxHeartbeats 4000000 in
theorem bX12_text_0 {x : Cx} {z : Sx} (X : XG x z RX12 cX12_text 5 7 168) (E : XE x z) (hr : XR x (some .int)) (hZ : z.2.2.2.1 = kdM) (N : Nat) (v1 : Int32) (v2 : Int32) (σ : Mem) : VK x z 5 (BQ QI x z) 0 [(0, .ref (z.2.2.1 0)), (1, .int v1), (2, .int v2)] [] σ (fX12_text N v1 v2 σ) := by
  unfold fX12_text
  refine V_aload_n 0 X dX12_text_0 rfl rfl ?_
  refine V_aload_n 0 X dX12_text_1 rfl rfl ?_
  refine V_getR (k1 := 1) 0 X dX12_text_2 co12 (kM hZ 0 _ rfl) (by decide) rfl rfl wfX12_7 ?_
  refine V_iconst (v := 4) X dX12_text_5 (by decide) ?_
  refine V_iald X dX12_text_6 (kM hZ 1 _ rfl) ?_
  refine V_putIG 2 X dX12_text_7 co12 (kM hZ 0 _ rfl) (by decide) rfl wfX12_51 rfl rfl rfl (fun s1 => ?_)
  refine V_aload_n 0 X dX12_text_10 rfl rfl ?_
  refine V_getR (k1 := 1) 0 X dX12_text_11 co12 (kM hZ 0 _ rfl) (by decide) rfl rfl wfX12_7 ?_
  refine V_iconst (v := 4) X dX12_text_14 (by decide) ?_
  refine V_iconst (v := 0) X dX12_text_15 (by decide) ?_
  refine V_iastG X dX12_text_16 (kM hZ 1 _ rfl) (fun s2 => ?_)
  refine V_aload_n 0 X dX12_text_17 rfl rfl ?_
  refine V_getR (k1 := 1) 0 X dX12_text_18 co12 (kM hZ 0 _ rfl) (by decide) rfl rfl wfX12_7 ?_
  refine V_iconst (v := 5) X dX12_text_21 (by decide) ?_
  refine V_iconst (v := 0) X dX12_text_22 (by decide) ?_
  refine V_iastG X dX12_text_23 (kM hZ 1 _ rfl) (fun s3 => ?_)
  refine V_aload_n 0 X dX12_text_24 rfl rfl ?_
  refine V_getR (k1 := 1) 0 X dX12_text_25 co12 (kM hZ 0 _ rfl) (by decide) rfl rfl wfX12_7 ?_
  refine V_bipush (v := 6) X dX12_text_28 (by decide) ?_
  refine V_iconst (v := -1) X dX12_text_30 (by decide) ?_
  refine V_iastG X dX12_text_31 (kM hZ 1 _ rfl) (fun s4 => ?_)
  refine V_iload_n 1 X dX12_text_32 rfl rfl ?_
  refine V_iconst (v := 0) X dX12_text_33 (by decide) ?_
  refine V_iconst (v := 2) X dX12_text_34 (by decide) ?_
  refine V_calSI [.int v1, .int 0, .int 2] [] X E dX12_text_35 (kX12_isIn x.2.1 z hZ N v1 0 2 s4) gcX12_106 hyX12_isIn rfl ⟨by decide, by decide⟩ rfl (Nat.le_of_ble_eq_true rfl) (fun r5 s6 => ?_)
  refine V_if_eq (tgt := 68) X dX12_text_38 (by decide) ?_ ?_
  · refine V_bipush (v := -2) X dX12_text_68 (by decide) ?_
    exact V_iret X E hr dX12_text_70
  · refine V_iload_n 2 X dX12_text_41 rfl rfl ?_
    refine V_iconst (v := -1) X dX12_text_42 (by decide) ?_
    refine V_icmp_ne (tgt := 59) X dX12_text_43 (by decide) ?_ ?_
    · refine V_aload_n 0 X dX12_text_59 rfl rfl ?_
      refine V_iload_n 1 X dX12_text_60 rfl rfl ?_
      refine V_iload_n 2 X dX12_text_61 rfl rfl ?_
      refine V_callI [.int v1, .int v2] [] X E dX12_text_62 (kX12_isOf x.2.1 z hZ N v1 v2 s6) co12 (kM hZ 0 _ rfl) gcX12_137 hyX12_isOf rfl ⟨by decide, by decide⟩ rfl (Nat.le_of_ble_eq_true rfl) (fun r7 s8 => ?_)
      refine V_if_ne (tgt := 71) X dX12_text_65 (by decide) ?_ ?_
      · refine V_sub [0, 1, 2] rfl ?_
        exact bX12_text_71 X E hr hZ N v1 v2 s8
      · refine V_bipush (v := -2) X dX12_text_68 (by decide) ?_
        exact V_iret X E hr dX12_text_70
    · refine V_aload_n 0 X dX12_text_46 rfl rfl ?_
      refine V_getR (k1 := 1) 0 X dX12_text_47 co12 (kM hZ 0 _ rfl) (by decide) rfl rfl wfX12_7 ?_
      refine V_iload_n 1 X dX12_text_50 rfl rfl ?_
      refine V_iald X dX12_text_51 (kM hZ 1 _ rfl) ?_
      refine V_iconst (v := 2) X dX12_text_52 (by decide) ?_
      refine V_icmp_lt (tgt := 71) X dX12_text_53 (by decide) ?_ ?_
      · refine V_sub [0, 1, 2] rfl ?_
        exact bX12_text_71 X E hr hZ N v1 v2 s6
      · refine V_goto (tgt := 68) X dX12_text_56 (by decide) ?_
        refine V_bipush (v := -2) X dX12_text_68 (by decide) ?_
        exact V_iret X E hr dX12_text_70
theorem kX12_text (l : Launch) (z : Sx) (hZ : z.2.2.2.1 = kdM) (N : Nat) (v1 : Int32) (v2 : Int32) (σ : Mem) : Ct QI yX12_text cX12_text 5 (some .int) 7 168 l z [.ref (z.2.2.1 0), .int v1, .int v2] σ (fX12_text N v1 v2 σ) := by
  refine Ct_of (by decide +kernel) (Nat.le_of_ble_eq_true rfl) rfl ?_
  intro x _ X E hr
  exact bX12_text_0 X E hr hZ N v1 v2 σ
def fX12_fault (N : Nat) (v1 : Int32) (σ : Mem) : Option (Int32 × Mem) :=
  if v1 = 0 then gd (inb 5 4176) (some ((σ.1 1 (5 : Int32).toNatClampNeg), σ)) else if v1 = 1 then gd (inb 6 4176) (some ((σ.1 1 (6 : Int32).toNatClampNeg), σ)) else some ((-1), σ)
set_option maxRecDepth 100000 in
set_option maxHeartbeats 4000000 in
theorem bX12_fault_0 {x : Cx} {z : Sx} (X : XG x z RX12 cX12_fault 2 0 0) (E : XE x z) (hr : XR x (some .int)) (hZ : z.2.2.2.1 = kdM) (N : Nat) (v1 : Int32) (σ : Mem) : VK x z 2 (BQ QI x z) 0 [(0, .ref (z.2.2.1 0)), (1, .int v1)] [] σ (fX12_fault N v1 σ) := by
  unfold fX12_fault
  refine V_iload_n 1 X dX12_fault_0 rfl rfl ?_
  refine V_if_ne (tgt := 13) X dX12_fault_1 (by decide) ?_ ?_
  · refine V_iload_n 1 X dX12_fault_13 rfl rfl ?_
    refine V_iconst (v := 1) X dX12_fault_14 (by decide) ?_
    refine V_icmp_ne (tgt := 28) X dX12_fault_15 (by decide) ?_ ?_
    · refine V_iconst (v := -1) X dX12_fault_28 (by decide) ?_
      exact V_iret X E hr dX12_fault_29
    · refine V_aload_n 0 X dX12_fault_18 rfl rfl ?_
      refine V_getR (k1 := 1) 0 X dX12_fault_19 co12 (kM hZ 0 _ rfl) (by decide) rfl rfl wfX12_7 ?_
      refine V_bipush (v := 6) X dX12_fault_22 (by decide) ?_
      refine V_iald X dX12_fault_24 (kM hZ 1 _ rfl) ?_
      refine V_goto (tgt := 29) X dX12_fault_25 (by decide) ?_
      exact V_iret X E hr dX12_fault_29
  · refine V_aload_n 0 X dX12_fault_4 rfl rfl ?_
    refine V_getR (k1 := 1) 0 X dX12_fault_5 co12 (kM hZ 0 _ rfl) (by decide) rfl rfl wfX12_7 ?_
    refine V_iconst (v := 5) X dX12_fault_8 (by decide) ?_
    refine V_iald X dX12_fault_9 (kM hZ 1 _ rfl) ?_
    refine V_goto (tgt := 29) X dX12_fault_10 (by decide) ?_
    exact V_iret X E hr dX12_fault_29
theorem kX12_fault (l : Launch) (z : Sx) (hZ : z.2.2.2.1 = kdM) (N : Nat) (v1 : Int32) (σ : Mem) : Ct QI yX12_fault cX12_fault 2 (some .int) 0 0 l z [.ref (z.2.2.1 0), .int v1] σ (fX12_fault N v1 σ) := by
  refine Ct_of (by decide +kernel) (Nat.le_of_ble_eq_true rfl) rfl ?_
  intro x _ X E hr
  exact bX12_fault_0 X E hr hZ N v1 σ
def fX12_isChamber (N : Nat) (v1 : Int32) (σ : Mem) : Option (Int32 × Mem) :=
  bd (fX12_isOf N 0 v1 σ) (fun r1 s2 => if r1 = 0 then some (0, s2) else bd (fX12_placeOf N 0 v1 s2) (fun r3 s4 => lt_ (pI s4 0 11 r3) (fun s5 => gd (inb (s5.1 0 11) 4176) (lt_ (pI s5 0 12 (s5.1 1 (s5.1 0 11).toNatClampNeg)) (fun s6 => gd (inb ((s6.1 0 11) + 1) 4176) (lt_ (pI s6 0 13 (s6.1 1 ((s6.1 0 11) + 1).toNatClampNeg)) (fun s7 => some (1, s7))))))))
set_option maxRecDepth 100000 in
set_option maxHeartbeats 4000000 in
theorem bX12_isChamber_0 {x : Cx} {z : Sx} (X : XG x z RX12 cX12_isChamber 2 2 44) (E : XE x z) (hr : XR x (some .boolean)) (hZ : z.2.2.2.1 = kdM) (N : Nat) (v1 : Int32) (σ : Mem) : VK x z 2 (BQ QI x z) 0 [(0, .ref (z.2.2.1 0)), (1, .int v1)] [] σ (fX12_isChamber N v1 σ) := by
  unfold fX12_isChamber
  refine V_aload_n 0 X dX12_isChamber_0 rfl rfl ?_
  refine V_iconst (v := 0) X dX12_isChamber_1 (by decide) ?_
  refine V_iload_n 1 X dX12_isChamber_2 rfl rfl ?_
  refine V_callI [.int 0, .int v1] [] X E dX12_isChamber_3 (kX12_isOf x.2.1 z hZ N 0 v1 σ) co12 (kM hZ 0 _ rfl) gcX12_137 hyX12_isOf rfl ⟨by decide, by decide⟩ rfl (Nat.le_of_ble_eq_true rfl) (fun r1 s2 => ?_)
  refine V_if_ne (tgt := 11) X dX12_isChamber_6 (by decide) ?_ ?_
  · refine V_aload_n 0 X dX12_isChamber_11 rfl rfl ?_
    refine V_iconst (v := 0) X dX12_isChamber_12 (by decide) ?_
    refine V_iload_n 1 X dX12_isChamber_13 rfl rfl ?_
    refine V_calSI [.int 0, .int v1] [.ref (z.2.2.1 0)] X E dX12_isChamber_14 (kX12_placeOf x.2.1 z hZ N 0 v1 s2) gcX12_153 hyX12_placeOf rfl ⟨by decide, by decide⟩ rfl (Nat.le_of_ble_eq_true rfl) (fun r3 s4 => ?_)
    refine V_putIG 11 X dX12_isChamber_17 co12 (kM hZ 0 _ rfl) (by decide) rfl wfX12_156 rfl rfl rfl (fun s5 => ?_)
    refine V_aload_n 0 X dX12_isChamber_20 rfl rfl ?_
    refine V_aload_n 0 X dX12_isChamber_21 rfl rfl ?_
    refine V_getR (k1 := 1) 0 X dX12_isChamber_22 co12 (kM hZ 0 _ rfl) (by decide) rfl rfl wfX12_7 ?_
    refine V_aload_n 0 X dX12_isChamber_25 rfl rfl ?_
    refine V_getI 11 X dX12_isChamber_26 co12 (kM hZ 0 _ rfl) (by decide) rfl wfX12_156 ?_
    refine V_iald X dX12_isChamber_29 (kM hZ 1 _ rfl) ?_
    refine V_putIG 12 X dX12_isChamber_30 co12 (kM hZ 0 _ rfl) (by decide) rfl wfX12_159 rfl rfl rfl (fun s6 => ?_)
    refine V_aload_n 0 X dX12_isChamber_33 rfl rfl ?_
    refine V_aload_n 0 X dX12_isChamber_34 rfl rfl ?_
    refine V_getR (k1 := 1) 0 X dX12_isChamber_35 co12 (kM hZ 0 _ rfl) (by decide) rfl rfl wfX12_7 ?_
    refine V_aload_n 0 X dX12_isChamber_38 rfl rfl ?_
    refine V_getI 11 X dX12_isChamber_39 co12 (kM hZ 0 _ rfl) (by decide) rfl wfX12_156 ?_
    refine V_iconst (v := 1) X dX12_isChamber_42 (by decide) ?_
    refine V_iadd X dX12_isChamber_43 ?_
    refine V_iald X dX12_isChamber_44 (kM hZ 1 _ rfl) ?_
    refine V_putIG 13 X dX12_isChamber_45 co12 (kM hZ 0 _ rfl) (by decide) rfl wfX12_162 rfl rfl rfl (fun s7 => ?_)
    refine V_iconst (v := 1) X dX12_isChamber_48 (by decide) ?_
    exact V_zret X E hr dX12_isChamber_49 (by decide)
  · refine V_iconst (v := 0) X dX12_isChamber_9 (by decide) ?_
    exact V_zret X E hr dX12_isChamber_10 (by decide)
theorem kX12_isChamber (l : Launch) (z : Sx) (hZ : z.2.2.2.1 = kdM) (N : Nat) (v1 : Int32) (σ : Mem) : Ct QI yX12_isChamber cX12_isChamber 2 (some .boolean) 2 44 l z [.ref (z.2.2.1 0), .int v1] σ (fX12_isChamber N v1 σ) := by
  refine Ct_of (by decide +kernel) (Nat.le_of_ble_eq_true rfl) rfl ?_
  intro x _ X E hr
  exact bX12_isChamber_0 X E hr hZ N v1 σ
def fX12_isPiece (N : Nat) (v1 : Int32) (σ : Mem) : Option (Int32 × Mem) :=
  bd (fX12_isIn N v1 0 ((σ.1 0 12) - 1) σ) (fun r1 s2 => gd (decide (r1 = 0 ∨ r1 = 1)) (some (r1, s2)))
set_option maxRecDepth 100000 in
set_option maxHeartbeats 4000000 in
theorem bX12_isPiece_0 {x : Cx} {z : Sx} (X : XG x z RX12 cX12_isPiece 2 1 22) (E : XE x z) (hr : XR x (some .boolean)) (hZ : z.2.2.2.1 = kdM) (N : Nat) (v1 : Int32) (σ : Mem) : VK x z 2 (BQ QI x z) 0 [(0, .ref (z.2.2.1 0)), (1, .int v1)] [] σ (fX12_isPiece N v1 σ) := by
  unfold fX12_isPiece
  refine V_iload_n 1 X dX12_isPiece_0 rfl rfl ?_
  refine V_iconst (v := 0) X dX12_isPiece_1 (by decide) ?_
  refine V_aload_n 0 X dX12_isPiece_2 rfl rfl ?_
  refine V_getI 12 X dX12_isPiece_3 co12 (kM hZ 0 _ rfl) (by decide) rfl wfX12_159 ?_
  refine V_iconst (v := 1) X dX12_isPiece_6 (by decide) ?_
  refine V_isub X dX12_isPiece_7 ?_
  refine V_calSI [.int v1, .int 0, .int ((σ.1 0 12) - 1)] [] X E dX12_isPiece_8 (kX12_isIn x.2.1 z hZ N v1 0 ((σ.1 0 12) - 1) σ) gcX12_106 hyX12_isIn rfl ⟨by decide, by decide⟩ rfl (Nat.le_of_ble_eq_true rfl) (fun r1 s2 => ?_)
  exact V_zretG X E hr dX12_isPiece_11
theorem kX12_isPiece (l : Launch) (z : Sx) (hZ : z.2.2.2.1 = kdM) (N : Nat) (v1 : Int32) (σ : Mem) : Ct QI yX12_isPiece cX12_isPiece 2 (some .boolean) 1 22 l z [.ref (z.2.2.1 0), .int v1] σ (fX12_isPiece N v1 σ) := by
  refine Ct_of (by decide +kernel) (Nat.le_of_ble_eq_true rfl) rfl ?_
  intro x _ X E hr
  exact bX12_isPiece_0 X E hr hZ N v1 σ
def fX12_of (N : Nat) (v1 : Int32) (v2 : Int32) (σ : Mem) : Option (Int32 × Mem) :=
  gd (inb ((((σ.1 0 11) + 3) + (6 * v1)) + v2) 4176) (some ((σ.1 1 ((((σ.1 0 11) + 3) + (6 * v1)) + v2).toNatClampNeg), σ))
set_option maxRecDepth 100000 in
set_option maxHeartbeats 4000000 in
theorem bX12_of_0 {x : Cx} {z : Sx} (X : XG x z RX12 cX12_of 3 0 0) (E : XE x z) (hr : XR x (some .int)) (hZ : z.2.2.2.1 = kdM) (N : Nat) (v1 : Int32) (v2 : Int32) (σ : Mem) : VK x z 3 (BQ QI x z) 0 [(0, .ref (z.2.2.1 0)), (1, .int v1), (2, .int v2)] [] σ (fX12_of N v1 v2 σ) := by
  unfold fX12_of
  refine V_aload_n 0 X dX12_of_0 rfl rfl ?_
  refine V_getR (k1 := 1) 0 X dX12_of_1 co12 (kM hZ 0 _ rfl) (by decide) rfl rfl wfX12_7 ?_
  refine V_aload_n 0 X dX12_of_4 rfl rfl ?_
  refine V_getI 11 X dX12_of_5 co12 (kM hZ 0 _ rfl) (by decide) rfl wfX12_156 ?_
  refine V_iconst (v := 3) X dX12_of_8 (by decide) ?_
  refine V_iadd X dX12_of_9 ?_
  refine V_bipush (v := 6) X dX12_of_10 (by decide) ?_
  refine V_iload_n 1 X dX12_of_12 rfl rfl ?_
  refine V_imul X dX12_of_13 ?_
  refine V_iadd X dX12_of_14 ?_
  refine V_iload_n 2 X dX12_of_15 rfl rfl ?_
  refine V_iadd X dX12_of_16 ?_
  refine V_iald X dX12_of_17 (kM hZ 1 _ rfl) ?_
  exact V_iret X E hr dX12_of_18
theorem kX12_of (l : Launch) (z : Sx) (hZ : z.2.2.2.1 = kdM) (N : Nat) (v1 : Int32) (v2 : Int32) (σ : Mem) : Ct QI yX12_of cX12_of 3 (some .int) 0 0 l z [.ref (z.2.2.1 0), .int v1, .int v2] σ (fX12_of N v1 v2 σ) := by
  refine Ct_of (by decide +kernel) (Nat.le_of_ble_eq_true rfl) rfl ?_
  intro x _ X E hr
  exact bX12_of_0 X E hr hZ N v1 v2 σ
def fX12_isPerson (N : Nat) (v1 : Int32) (σ : Mem) : Option (Int32 × Mem) :=
  bd (fX12_isIn N v1 0 ((σ.1 0 13) - 1) σ) (fun r1 s2 => gd (decide (r1 = 0 ∨ r1 = 1)) (some (r1, s2)))
set_option maxRecDepth 100000 in
set_option maxHeartbeats 4000000 in
theorem bX12_isPerson_0 {x : Cx} {z : Sx} (X : XG x z RX12 cX12_isPerson 2 1 22) (E : XE x z) (hr : XR x (some .boolean)) (hZ : z.2.2.2.1 = kdM) (N : Nat) (v1 : Int32) (σ : Mem) : VK x z 2 (BQ QI x z) 0 [(0, .ref (z.2.2.1 0)), (1, .int v1)] [] σ (fX12_isPerson N v1 σ) := by
  unfold fX12_isPerson
  refine V_iload_n 1 X dX12_isPerson_0 rfl rfl ?_
  refine V_iconst (v := 0) X dX12_isPerson_1 (by decide) ?_
  refine V_aload_n 0 X dX12_isPerson_2 rfl rfl ?_
  refine V_getI 13 X dX12_isPerson_3 co12 (kM hZ 0 _ rfl) (by decide) rfl wfX12_162 ?_
  refine V_iconst (v := 1) X dX12_isPerson_6 (by decide) ?_
  refine V_isub X dX12_isPerson_7 ?_
  refine V_calSI [.int v1, .int 0, .int ((σ.1 0 13) - 1)] [] X E dX12_isPerson_8 (kX12_isIn x.2.1 z hZ N v1 0 ((σ.1 0 13) - 1) σ) gcX12_106 hyX12_isIn rfl ⟨by decide, by decide⟩ rfl (Nat.le_of_ble_eq_true rfl) (fun r1 s2 => ?_)
  exact V_zretG X E hr dX12_isPerson_11
theorem kX12_isPerson (l : Launch) (z : Sx) (hZ : z.2.2.2.1 = kdM) (N : Nat) (v1 : Int32) (σ : Mem) : Ct QI yX12_isPerson cX12_isPerson 2 (some .boolean) 1 22 l z [.ref (z.2.2.1 0), .int v1] σ (fX12_isPerson N v1 σ) := by
  refine Ct_of (by decide +kernel) (Nat.le_of_ble_eq_true rfl) rfl ?_
  intro x _ X E hr
  exact bX12_isPerson_0 X E hr hZ N v1 σ
