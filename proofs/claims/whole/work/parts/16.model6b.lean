def fX12_agenda_b138 (N : Nat) (rc41 : Int32 → Int32 → Int32 → Int32 → Int32 → Int32 → Int32 → Mem → Option (Int32 × Mem)) (rc50 : Int32 → Int32 → Int32 → Int32 → Int32 → Int32 → Int32 → Int32 → Mem → Option (Int32 × Mem)) (v2 : Int32) (v3 : Int32) (v4 : Int32) (v5 : Int32) (v6 : Int32) (v7 : Int32) (v8 : Int32) (v9 : Int32) (σ : Mem) : Option (Int32 × Mem) :=
  lt_ (v9 + 1) (fun v9_26 => rc50 v2 v3 v4 v5 v6 v7 v8 v9_26 σ)
set_option maxRecDepth 100000 in
set_option maxHeartbeats 4000000 in
theorem bX12_agenda_138 {x : Cx} {z : Sx} (X : XG x z RX12 cX12_agenda 12 7 159) (E : XE x z) (hr : XR x (some .int)) (hZ : z.2.2.2.1 = kdM) (N : Nat) (rc41 : Int32 → Int32 → Int32 → Int32 → Int32 → Int32 → Int32 → Mem → Option (Int32 × Mem)) (hc41 : ∀ (v2 : Int32) (v3 : Int32) (v4 : Int32) (v5 : Int32) (v6 : Int32) (v7 : Int32) (v8 : Int32) (σ : Mem), VK x z 12 (BQ QI x z) 41 [(0, .ref (z.2.2.1 0)), (2, .int v2), (3, .int v3), (4, .int v4), (5, .int v5), (6, .int v6), (7, .int v7), (8, .int v8)] [] σ (rc41 v2 v3 v4 v5 v6 v7 v8 σ)) (rc50 : Int32 → Int32 → Int32 → Int32 → Int32 → Int32 → Int32 → Int32 → Mem → Option (Int32 × Mem)) (hc50 : ∀ (v2 : Int32) (v3 : Int32) (v4 : Int32) (v5 : Int32) (v6 : Int32) (v7 : Int32) (v8 : Int32) (v9 : Int32) (σ : Mem), VK x z 12 (BQ QI x z) 50 [(0, .ref (z.2.2.1 0)), (2, .int v2), (3, .int v3), (4, .int v4), (5, .int v5), (6, .int v6), (7, .int v7), (8, .int v8), (9, .int v9)] [] σ (rc50 v2 v3 v4 v5 v6 v7 v8 v9 σ)) (v2 : Int32) (v3 : Int32) (v4 : Int32) (v5 : Int32) (v6 : Int32) (v7 : Int32) (v8 : Int32) (v9 : Int32) (σ : Mem) : VK x z 12 (BQ QI x z) 138 [(0, .ref (z.2.2.1 0)), (2, .int v2), (3, .int v3), (4, .int v4), (5, .int v5), (6, .int v6), (7, .int v7), (8, .int v8), (9, .int v9)] [] σ (fX12_agenda_b138 N rc41 rc50 v2 v3 v4 v5 v6 v7 v8 v9 σ) := by
  unfold fX12_agenda_b138
  refine V_iincG (L' := fun v9_26 => [(9, .int v9_26), (0, .ref (z.2.2.1 0)), (2, .int v2), (3, .int v3), (4, .int v4), (5, .int v5), (6, .int v6), (7, .int v7), (8, .int v8)]) 8 X dX12_agenda_138 rfl rfl (by decide) (fun _ => rfl) (fun v9_26 => ?_)
  refine V_goto (tgt := 50) X dX12_agenda_141 (by decide) ?_
  refine V_sub [1, 2, 3, 4, 5, 6, 7, 8, 0] rfl ?_
  exact hc50 v2 v3 v4 v5 v6 v7 v8 v9_26 σ
def fX12_agenda_b50 (N : Nat) (rc41 : Int32 → Int32 → Int32 → Int32 → Int32 → Int32 → Int32 → Mem → Option (Int32 × Mem)) (rc50 : Int32 → Int32 → Int32 → Int32 → Int32 → Int32 → Int32 → Int32 → Mem → Option (Int32 × Mem)) (v2 : Int32) (v3 : Int32) (v4 : Int32) (v5 : Int32) (v6 : Int32) (v7 : Int32) (v8 : Int32) (v9 : Int32) (σ : Mem) : Option (Int32 × Mem) :=
  if 3 ≤ v9 then lt_ (v8 + 1) (fun v8_13 => rc41 v2 v3 v4 v5 v6 v7 v8_13 σ) else if v8 = v9 then fX12_agenda_b138 N rc41 rc50 v2 v3 v4 v5 v6 v7 v8 v9 σ else lt_ ((3 - v8) - v9) (fun v10_14 => bd (fX12_pick N v2 v3 v4 v8 σ) (fun r15 s16 => bd (fX12_pick N v2 v3 v4 v9 s16) (fun r17 s18 => bd (fX12_pick N v2 v3 v4 v10_14 s18) (fun r19 s20 => bd (fX12_agendaOf N r15 r17 r19 s20) (fun r21 s22 => lt_ r21 (fun v11_23 => if v6 < v11_23 then lt_ v11_23 (fun v6_24 => lt_ (((100 * v8) + (10 * v9)) + v10_14) (fun v7_25 => fX12_agenda_b138 N rc41 rc50 v2 v3 v4 v5 v6_24 v7_25 v8 v9 s22)) else fX12_agenda_b138 N rc41 rc50 v2 v3 v4 v5 v6 v7 v8 v9 s22))))))
set_option maxRecDepth 100000 in
set_option maxHeartbeats 4000000 in
theorem bX12_agenda_50 {x : Cx} {z : Sx} (X : XG x z RX12 cX12_agenda 12 7 159) (E : XE x z) (hr : XR x (some .int)) (hZ : z.2.2.2.1 = kdM) (N : Nat) (rc41 : Int32 → Int32 → Int32 → Int32 → Int32 → Int32 → Int32 → Mem → Option (Int32 × Mem)) (hc41 : ∀ (v2 : Int32) (v3 : Int32) (v4 : Int32) (v5 : Int32) (v6 : Int32) (v7 : Int32) (v8 : Int32) (σ : Mem), VK x z 12 (BQ QI x z) 41 [(0, .ref (z.2.2.1 0)), (2, .int v2), (3, .int v3), (4, .int v4), (5, .int v5), (6, .int v6), (7, .int v7), (8, .int v8)] [] σ (rc41 v2 v3 v4 v5 v6 v7 v8 σ)) (rc50 : Int32 → Int32 → Int32 → Int32 → Int32 → Int32 → Int32 → Int32 → Mem → Option (Int32 × Mem)) (hc50 : ∀ (v2 : Int32) (v3 : Int32) (v4 : Int32) (v5 : Int32) (v6 : Int32) (v7 : Int32) (v8 : Int32) (v9 : Int32) (σ : Mem), VK x z 12 (BQ QI x z) 50 [(0, .ref (z.2.2.1 0)), (2, .int v2), (3, .int v3), (4, .int v4), (5, .int v5), (6, .int v6), (7, .int v7), (8, .int v8), (9, .int v9)] [] σ (rc50 v2 v3 v4 v5 v6 v7 v8 v9 σ)) (v2 : Int32) (v3 : Int32) (v4 : Int32) (v5 : Int32) (v6 : Int32) (v7 : Int32) (v8 : Int32) (v9 : Int32) (σ : Mem) : VK x z 12 (BQ QI x z) 50 [(0, .ref (z.2.2.1 0)), (2, .int v2), (3, .int v3), (4, .int v4), (5, .int v5), (6, .int v6), (7, .int v7), (8, .int v8), (9, .int v9)] [] σ (fX12_agenda_b50 N rc41 rc50 v2 v3 v4 v5 v6 v7 v8 v9 σ) := by
  unfold fX12_agenda_b50
  refine V_iload 8 X dX12_agenda_50 rfl ?_
  refine V_iconst (v := 3) X dX12_agenda_52 (by decide) ?_
  refine V_icmp_ge (tgt := 144) X dX12_agenda_53 (by decide) ?_ ?_
  · refine V_iincG (L' := fun v8_13 => [(8, .int v8_13), (0, .ref (z.2.2.1 0)), (2, .int v2), (3, .int v3), (4, .int v4), (5, .int v5), (6, .int v6), (7, .int v7), (9, .int v9)]) 7 X dX12_agenda_144 rfl rfl (by decide) (fun _ => rfl) (fun v8_13 => ?_)
    refine V_goto (tgt := 41) X dX12_agenda_147 (by decide) ?_
    refine V_sub [1, 2, 3, 4, 5, 6, 7, 0] rfl ?_
    exact hc41 v2 v3 v4 v5 v6 v7 v8_13 σ
  · refine V_iload 7 X dX12_agenda_56 rfl ?_
    refine V_iload 8 X dX12_agenda_58 rfl ?_
    refine V_icmp_ne (tgt := 66) X dX12_agenda_60 (by decide) ?_ ?_
    · refine V_iconst (v := 3) X dX12_agenda_66 (by decide) ?_
      refine V_iload 7 X dX12_agenda_67 rfl ?_
      refine V_isub X dX12_agenda_69 ?_
      refine V_iload 8 X dX12_agenda_70 rfl ?_
      refine V_isub X dX12_agenda_72 ?_
      refine V_istoreG (L' := fun v10_14 => [(10, .int v10_14), (0, .ref (z.2.2.1 0)), (2, .int v2), (3, .int v3), (4, .int v4), (5, .int v5), (6, .int v6), (7, .int v7), (8, .int v8), (9, .int v9)]) X dX12_agenda_73 (by decide) (fun _ => rfl) (fun v10_14 => ?_)
      refine V_aload_n 1 X dX12_agenda_75 rfl rfl ?_
      refine V_iload_n 2 X dX12_agenda_76 rfl rfl ?_
      refine V_iload_n 3 X dX12_agenda_77 rfl rfl ?_
      refine V_iload 4 X dX12_agenda_78 rfl ?_
      refine V_iload 8 X dX12_agenda_80 rfl ?_
      refine V_calSI [.int v2, .int v3, .int v4, .int v8] [.ref (z.2.2.1 0)] X E dX12_agenda_82 (kX12_pick x.2.1 z hZ N v2 v3 v4 v8 σ) gcX12_300 hyX12_pick rfl ⟨by decide, by decide⟩ rfl (Nat.le_of_ble_eq_true rfl) (fun r15 s16 => ?_)
      refine V_iload_n 2 X dX12_agenda_85 rfl rfl ?_
      refine V_iload_n 3 X dX12_agenda_86 rfl rfl ?_
      refine V_iload 4 X dX12_agenda_87 rfl ?_
      refine V_iload 9 X dX12_agenda_89 rfl ?_
      refine V_calSI [.int v2, .int v3, .int v4, .int v9] [.int r15, .ref (z.2.2.1 0)] X E dX12_agenda_91 (kX12_pick x.2.1 z hZ N v2 v3 v4 v9 s16) gcX12_300 hyX12_pick rfl ⟨by decide, by decide⟩ rfl (Nat.le_of_ble_eq_true rfl) (fun r17 s18 => ?_)
      refine V_iload_n 2 X dX12_agenda_94 rfl rfl ?_
      refine V_iload_n 3 X dX12_agenda_95 rfl rfl ?_
      refine V_iload 4 X dX12_agenda_96 rfl ?_
      refine V_iload 0 X dX12_agenda_98 rfl ?_
      refine V_calSI [.int v2, .int v3, .int v4, .int v10_14] [.int r17, .int r15, .ref (z.2.2.1 0)] X E dX12_agenda_100 (kX12_pick x.2.1 z hZ N v2 v3 v4 v10_14 s18) gcX12_300 hyX12_pick rfl ⟨by decide, by decide⟩ rfl (Nat.le_of_ble_eq_true rfl) (fun r19 s20 => ?_)
      refine V_callI [.int r15, .int r17, .int r19] [] X E dX12_agenda_103 (kX12_agendaOf x.2.1 z hZ N r15 r17 r19 s20) co12 (kM hZ 0 _ rfl) gcX12_304 hyX12_agendaOf rfl ⟨by decide, by decide⟩ rfl (Nat.le_of_ble_eq_true rfl) (fun r21 s22 => ?_)
      refine V_istoreG (L' := fun v11_23 => [(11, .int v11_23), (10, .int v10_14), (0, .ref (z.2.2.1 0)), (2, .int v2), (3, .int v3), (4, .int v4), (5, .int v5), (6, .int v6), (7, .int v7), (8, .int v8), (9, .int v9)]) X dX12_agenda_106 (by decide) (fun _ => rfl) (fun v11_23 => ?_)
      refine V_iload 0 X dX12_agenda_108 rfl ?_
      refine V_iload 7 X dX12_agenda_110 rfl ?_
      refine V_icmp_gt (tgt := 118) X dX12_agenda_112 (by decide) ?_ ?_
      · refine V_iload 0 X dX12_agenda_118 rfl ?_
        refine V_istoreG (L' := fun v6_24 => [(6, .int v6_24), (11, .int v11_23), (10, .int v10_14), (0, .ref (z.2.2.1 0)), (2, .int v2), (3, .int v3), (4, .int v4), (5, .int v5), (7, .int v7), (8, .int v8), (9, .int v9)]) X dX12_agenda_120 (by decide) (fun _ => rfl) (fun v6_24 => ?_)
        refine V_bipush (v := 100) X dX12_agenda_122 (by decide) ?_
        refine V_iload 9 X dX12_agenda_124 rfl ?_
        refine V_imul X dX12_agenda_126 ?_
        refine V_bipush (v := 10) X dX12_agenda_127 (by decide) ?_
        refine V_iload 10 X dX12_agenda_129 rfl ?_
        refine V_imul X dX12_agenda_131 ?_
        refine V_iadd X dX12_agenda_132 ?_
        refine V_iload 2 X dX12_agenda_133 rfl ?_
        refine V_iadd X dX12_agenda_135 ?_
        refine V_istoreG (L' := fun v7_25 => [(7, .int v7_25), (6, .int v6_24), (11, .int v11_23), (10, .int v10_14), (0, .ref (z.2.2.1 0)), (2, .int v2), (3, .int v3), (4, .int v4), (5, .int v5), (8, .int v8), (9, .int v9)]) X dX12_agenda_136 (by decide) (fun _ => rfl) (fun v7_25 => ?_)
        refine V_sub [4, 5, 6, 7, 8, 1, 0, 9, 10] rfl ?_
        exact bX12_agenda_138 X E hr hZ N rc41 hc41 rc50 hc50 v2 v3 v4 v5 v6_24 v7_25 v8 v9 s22
      · refine V_goto (tgt := 138) X dX12_agenda_115 (by decide) ?_
        refine V_sub [2, 3, 4, 5, 6, 7, 8, 9, 10] rfl ?_
        exact bX12_agenda_138 X E hr hZ N rc41 hc41 rc50 hc50 v2 v3 v4 v5 v6 v7 v8 v9 s22
    · refine V_goto (tgt := 138) X dX12_agenda_63 (by decide) ?_
      refine V_sub [0, 1, 2, 3, 4, 5, 6, 7, 8] rfl ?_
      exact bX12_agenda_138 X E hr hZ N rc41 hc41 rc50 hc50 v2 v3 v4 v5 v6 v7 v8 v9 σ
def fX12_agenda_l50 (N : Nat) (rc41 : Int32 → Int32 → Int32 → Int32 → Int32 → Int32 → Int32 → Mem → Option (Int32 × Mem)) : Nat → Int32 → Int32 → Int32 → Int32 → Int32 → Int32 → Int32 → Int32 → Mem → Option (Int32 × Mem)
  | 0 => fun _ _ _ _ _ _ _ _ _ => none
  | n + 1 => fX12_agenda_b50 N rc41 (fX12_agenda_l50 N rc41 n)
theorem lX12_agenda_50 {x : Cx} {z : Sx} (X : XG x z RX12 cX12_agenda 12 7 159) (E : XE x z) (hr : XR x (some .int)) (hZ : z.2.2.2.1 = kdM) (N : Nat) (rc41 : Int32 → Int32 → Int32 → Int32 → Int32 → Int32 → Int32 → Mem → Option (Int32 × Mem)) (hc41 : ∀ (v2 : Int32) (v3 : Int32) (v4 : Int32) (v5 : Int32) (v6 : Int32) (v7 : Int32) (v8 : Int32) (σ : Mem), VK x z 12 (BQ QI x z) 41 [(0, .ref (z.2.2.1 0)), (2, .int v2), (3, .int v3), (4, .int v4), (5, .int v5), (6, .int v6), (7, .int v7), (8, .int v8)] [] σ (rc41 v2 v3 v4 v5 v6 v7 v8 σ)) (n : Nat) (v2 : Int32) (v3 : Int32) (v4 : Int32) (v5 : Int32) (v6 : Int32) (v7 : Int32) (v8 : Int32) (v9 : Int32) (σ : Mem) : VK x z 12 (BQ QI x z) 50 [(0, .ref (z.2.2.1 0)), (2, .int v2), (3, .int v3), (4, .int v4), (5, .int v5), (6, .int v6), (7, .int v7), (8, .int v8), (9, .int v9)] [] σ (fX12_agenda_l50 N rc41 n v2 v3 v4 v5 v6 v7 v8 v9 σ) := by
  induction n generalizing v2 v3 v4 v5 v6 v7 v8 v9 σ with
  | zero => exact V_none
  | succ n ih => exact bX12_agenda_50 X E hr hZ N rc41 hc41 (fX12_agenda_l50 N rc41 n) ih v2 v3 v4 v5 v6 v7 v8 v9 σ
def fX12_agenda_b41 (N : Nat) (rc41 : Int32 → Int32 → Int32 → Int32 → Int32 → Int32 → Int32 → Mem → Option (Int32 × Mem)) (v2 : Int32) (v3 : Int32) (v4 : Int32) (v5 : Int32) (v6 : Int32) (v7 : Int32) (v8 : Int32) (σ : Mem) : Option (Int32 × Mem) :=
  if 3 ≤ v8 then if v5 = 0 then some (v6, σ) else some (v7, σ) else lt_ 0 (fun v9_12 => fX12_agenda_l50 N rc41 N v2 v3 v4 v5 v6 v7 v8 v9_12 σ)
set_option maxRecDepth 100000 in
set_option maxHeartbeats 4000000 in
theorem bX12_agenda_41 {x : Cx} {z : Sx} (X : XG x z RX12 cX12_agenda 12 7 159) (E : XE x z) (hr : XR x (some .int)) (hZ : z.2.2.2.1 = kdM) (N : Nat) (rc41 : Int32 → Int32 → Int32 → Int32 → Int32 → Int32 → Int32 → Mem → Option (Int32 × Mem)) (hc41 : ∀ (v2 : Int32) (v3 : Int32) (v4 : Int32) (v5 : Int32) (v6 : Int32) (v7 : Int32) (v8 : Int32) (σ : Mem), VK x z 12 (BQ QI x z) 41 [(0, .ref (z.2.2.1 0)), (2, .int v2), (3, .int v3), (4, .int v4), (5, .int v5), (6, .int v6), (7, .int v7), (8, .int v8)] [] σ (rc41 v2 v3 v4 v5 v6 v7 v8 σ)) (v2 : Int32) (v3 : Int32) (v4 : Int32) (v5 : Int32) (v6 : Int32) (v7 : Int32) (v8 : Int32) (σ : Mem) : VK x z 12 (BQ QI x z) 41 [(0, .ref (z.2.2.1 0)), (2, .int v2), (3, .int v3), (4, .int v4), (5, .int v5), (6, .int v6), (7, .int v7), (8, .int v8)] [] σ (fX12_agenda_b41 N rc41 v2 v3 v4 v5 v6 v7 v8 σ) := by
  unfold fX12_agenda_b41
  refine V_iload 7 X dX12_agenda_41 rfl ?_
  refine V_iconst (v := 3) X dX12_agenda_43 (by decide) ?_
  refine V_icmp_ge (tgt := 150) X dX12_agenda_44 (by decide) ?_ ?_
  · refine V_iload 4 X dX12_agenda_150 rfl ?_
    refine V_if_eq (tgt := 160) X dX12_agenda_152 (by decide) ?_ ?_
    · refine V_iload 5 X dX12_agenda_160 rfl ?_
      exact V_iret X E hr dX12_agenda_162
    · refine V_iload 6 X dX12_agenda_155 rfl ?_
      refine V_goto (tgt := 162) X dX12_agenda_157 (by decide) ?_
      exact V_iret X E hr dX12_agenda_162
  · refine V_iconst (v := 0) X dX12_agenda_47 (by decide) ?_
    refine V_istoreG (L' := fun v9_12 => [(9, .int v9_12), (0, .ref (z.2.2.1 0)), (2, .int v2), (3, .int v3), (4, .int v4), (5, .int v5), (6, .int v6), (7, .int v7), (8, .int v8)]) X dX12_agenda_48 (by decide) (fun _ => rfl) (fun v9_12 => ?_)
    refine V_sub [1, 2, 3, 4, 5, 6, 7, 8, 0] rfl ?_
    exact lX12_agenda_50 X E hr hZ N rc41 hc41 N v2 v3 v4 v5 v6 v7 v8 v9_12 σ
def fX12_agenda_l41 (N : Nat) : Nat → Int32 → Int32 → Int32 → Int32 → Int32 → Int32 → Int32 → Mem → Option (Int32 × Mem)
  | 0 => fun _ _ _ _ _ _ _ _ => none
  | n + 1 => fX12_agenda_b41 N (fX12_agenda_l41 N n)
theorem lX12_agenda_41 {x : Cx} {z : Sx} (X : XG x z RX12 cX12_agenda 12 7 159) (E : XE x z) (hr : XR x (some .int)) (hZ : z.2.2.2.1 = kdM) (N : Nat) (n : Nat) (v2 : Int32) (v3 : Int32) (v4 : Int32) (v5 : Int32) (v6 : Int32) (v7 : Int32) (v8 : Int32) (σ : Mem) : VK x z 12 (BQ QI x z) 41 [(0, .ref (z.2.2.1 0)), (2, .int v2), (3, .int v3), (4, .int v4), (5, .int v5), (6, .int v6), (7, .int v7), (8, .int v8)] [] σ (fX12_agenda_l41 N n v2 v3 v4 v5 v6 v7 v8 σ) := by
  induction n generalizing v2 v3 v4 v5 v6 v7 v8 σ with
  | zero => exact V_none
  | succ n ih => exact bX12_agenda_41 X E hr hZ N (fX12_agenda_l41 N n) ih v2 v3 v4 v5 v6 v7 v8 σ
def fX12_agenda (N : Nat) (v1 : Int32) (v2 : Int32) (v3 : Int32) (v4 : Int32) (v5 : Int32) (σ : Mem) : Option (Int32 × Mem) :=
  bd (fX12_isChamber N v1 σ) (fun r1 s2 => if r1 = 0 then some ((-1), s2) else bd (fX12_isMotion N v2 s2) (fun r3 s4 => if r3 = 0 then some ((-1), s4) else bd (fX12_isMotion N v3 s4) (fun r5 s6 => if r5 = 0 then some ((-1), s6) else bd (fX12_isMotion N v4 s6) (fun r7 s8 => if r7 = 0 then some ((-1), s8) else lt_ (-1) (fun v6_9 => lt_ 0 (fun v7_10 => lt_ 0 (fun v8_11 => fX12_agenda_l41 N N v2 v3 v4 v5 v6_9 v7_10 v8_11 s8)))))))
set_option maxRecDepth 100000 in
set_option maxHeartbeats 4000000 in
theorem bX12_agenda_0 {x : Cx} {z : Sx} (X : XG x z RX12 cX12_agenda 12 7 159) (E : XE x z) (hr : XR x (some .int)) (hZ : z.2.2.2.1 = kdM) (N : Nat) (v1 : Int32) (v2 : Int32) (v3 : Int32) (v4 : Int32) (v5 : Int32) (σ : Mem) : VK x z 12 (BQ QI x z) 0 [(0, .ref (z.2.2.1 0)), (1, .int v1), (2, .int v2), (3, .int v3), (4, .int v4), (5, .int v5)] [] σ (fX12_agenda N v1 v2 v3 v4 v5 σ) := by
  unfold fX12_agenda
  refine V_aload_n 0 X dX12_agenda_0 rfl rfl ?_
  refine V_iload_n 1 X dX12_agenda_1 rfl rfl ?_
  refine V_callI [.int v1] [] X E dX12_agenda_2 (kX12_isChamber x.2.1 z hZ N v1 σ) co12 (kM hZ 0 _ rfl) gcX12_165 hyX12_isChamber rfl ⟨by decide, by decide⟩ rfl (Nat.le_of_ble_eq_true rfl) (fun r1 s2 => ?_)
  refine V_if_eq (tgt := 30) X dX12_agenda_5 (by decide) ?_ ?_
  · refine V_iconst (v := -1) X dX12_agenda_30 (by decide) ?_
    exact V_iret X E hr dX12_agenda_31
  · refine V_iload_n 2 X dX12_agenda_8 rfl rfl ?_
    refine V_calSI [.int v2] [] X E dX12_agenda_9 (kX12_isMotion x.2.1 z hZ N v2 s2) gcX12_210 hyX12_isMotion rfl ⟨by decide, by decide⟩ rfl (Nat.le_of_ble_eq_true rfl) (fun r3 s4 => ?_)
    refine V_if_eq (tgt := 30) X dX12_agenda_12 (by decide) ?_ ?_
    · refine V_iconst (v := -1) X dX12_agenda_30 (by decide) ?_
      exact V_iret X E hr dX12_agenda_31
    · refine V_iload_n 3 X dX12_agenda_15 rfl rfl ?_
      refine V_calSI [.int v3] [] X E dX12_agenda_16 (kX12_isMotion x.2.1 z hZ N v3 s4) gcX12_210 hyX12_isMotion rfl ⟨by decide, by decide⟩ rfl (Nat.le_of_ble_eq_true rfl) (fun r5 s6 => ?_)
      refine V_if_eq (tgt := 30) X dX12_agenda_19 (by decide) ?_ ?_
      · refine V_iconst (v := -1) X dX12_agenda_30 (by decide) ?_
        exact V_iret X E hr dX12_agenda_31
      · refine V_iload 4 X dX12_agenda_22 rfl ?_
        refine V_calSI [.int v4] [] X E dX12_agenda_24 (kX12_isMotion x.2.1 z hZ N v4 s6) gcX12_210 hyX12_isMotion rfl ⟨by decide, by decide⟩ rfl (Nat.le_of_ble_eq_true rfl) (fun r7 s8 => ?_)
        refine V_if_ne (tgt := 32) X dX12_agenda_27 (by decide) ?_ ?_
        · refine V_iconst (v := -1) X dX12_agenda_32 (by decide) ?_
          refine V_istoreG (L' := fun v6_9 => [(6, .int v6_9), (0, .ref (z.2.2.1 0)), (1, .int v1), (2, .int v2), (3, .int v3), (4, .int v4), (5, .int v5)]) X dX12_agenda_33 (by decide) (fun _ => rfl) (fun v6_9 => ?_)
          refine V_iconst (v := 0) X dX12_agenda_35 (by decide) ?_
          refine V_istoreG (L' := fun v7_10 => [(7, .int v7_10), (6, .int v6_9), (0, .ref (z.2.2.1 0)), (1, .int v1), (2, .int v2), (3, .int v3), (4, .int v4), (5, .int v5)]) X dX12_agenda_36 (by decide) (fun _ => rfl) (fun v7_10 => ?_)
          refine V_iconst (v := 0) X dX12_agenda_38 (by decide) ?_
          refine V_istoreG (L' := fun v8_11 => [(8, .int v8_11), (7, .int v7_10), (6, .int v6_9), (0, .ref (z.2.2.1 0)), (1, .int v1), (2, .int v2), (3, .int v3), (4, .int v4), (5, .int v5)]) X dX12_agenda_39 (by decide) (fun _ => rfl) (fun v8_11 => ?_)
          refine V_sub [3, 5, 6, 7, 8, 2, 1, 0] rfl ?_
          exact lX12_agenda_41 X E hr hZ N N v2 v3 v4 v5 v6_9 v7_10 v8_11 s8
        · refine V_iconst (v := -1) X dX12_agenda_30 (by decide) ?_
          exact V_iret X E hr dX12_agenda_31
theorem kX12_agenda (l : Launch) (z : Sx) (hZ : z.2.2.2.1 = kdM) (N : Nat) (v1 : Int32) (v2 : Int32) (v3 : Int32) (v4 : Int32) (v5 : Int32) (σ : Mem) : Ct QI yX12_agenda cX12_agenda 12 (some .int) 7 159 l z [.ref (z.2.2.1 0), .int v1, .int v2, .int v3, .int v4, .int v5] σ (fX12_agenda N v1 v2 v3 v4 v5 σ) := by
  refine Ct_of (by decide +kernel) (Nat.le_of_ble_eq_true rfl) rfl ?_
  intro x _ X E hr
  exact bX12_agenda_0 X E hr hZ N v1 v2 v3 v4 v5 σ
def fX12_power0_b5 (N : Nat) (rc5 : Int64 → Int32 → Int64 → Int32 → Mem → Option (Int64 × Mem)) (v0 : Int64) (v2 : Int32) (v3 : Int64) (v5 : Int32) (σ : Mem) : Option (Int64 × Mem) :=
  if v2 ≤ v5 then some (v3, σ) else lt_ (v3 * v0) (fun v3_3 => lt_ (v5 + 1) (fun v5_4 => rc5 v0 v2 v3_3 v5_4 σ))
set_option maxRecDepth 100000 in
set_option maxHeartbeats 4000000 in
theorem bX12_power0_5 {x : Cx} {z : Sx} (X : XG x z RX12 cX12_power0 6 0 0) (E : XE x z) (hr : XR x (some .long)) (hZ : z.2.2.2.1 = kdM) (N : Nat) (rc5 : Int64 → Int32 → Int64 → Int32 → Mem → Option (Int64 × Mem)) (hc5 : ∀ (v0 : Int64) (v2 : Int32) (v3 : Int64) (v5 : Int32) (σ : Mem), VK x z 6 (BQ QL x z) 5 [(0, .long v0), (2, .int v2), (3, .long v3), (5, .int v5)] [] σ (rc5 v0 v2 v3 v5 σ)) (v0 : Int64) (v2 : Int32) (v3 : Int64) (v5 : Int32) (σ : Mem) : VK x z 6 (BQ QL x z) 5 [(0, .long v0), (2, .int v2), (3, .long v3), (5, .int v5)] [] σ (fX12_power0_b5 N rc5 v0 v2 v3 v5 σ) := by
  unfold fX12_power0_b5
  refine V_iload 3 X dX12_power0_5 rfl ?_
  refine V_iload_n 1 X dX12_power0_7 rfl rfl ?_
  refine V_icmp_ge (tgt := 21) X dX12_power0_8 (by decide) ?_ ?_
  · refine V_lload_n 2 X dX12_power0_21 rfl rfl ?_
    exact V_lret X E hr dX12_power0_22
  · refine V_lload_n 2 X dX12_power0_11 rfl rfl ?_
    refine V_lload_n 0 X dX12_power0_12 rfl rfl ?_
    refine V_lmul X dX12_power0_13 ?_
    refine V_lstore_nG (L' := fun v3_3 => [(3, .long v3_3), (0, .long v0), (2, .int v2), (5, .int v5)]) X dX12_power0_14 rfl (by decide) (fun _ => rfl) (fun v3_3 => ?_)
    refine V_iincG (L' := fun v5_4 => [(5, .int v5_4), (3, .long v3_3), (0, .long v0), (2, .int v2)]) 3 X dX12_power0_15 rfl rfl (by decide) (fun _ => rfl) (fun v5_4 => ?_)
    refine V_goto (tgt := 5) X dX12_power0_18 (by decide) ?_
    refine V_sub [2, 3, 1, 0] rfl ?_
    exact hc5 v0 v2 v3_3 v5_4 σ
def fX12_power0_l5 (N : Nat) : Nat → Int64 → Int32 → Int64 → Int32 → Mem → Option (Int64 × Mem)
  | 0 => fun _ _ _ _ _ => none
  | n + 1 => fX12_power0_b5 N (fX12_power0_l5 N n)
theorem lX12_power0_5 {x : Cx} {z : Sx} (X : XG x z RX12 cX12_power0 6 0 0) (E : XE x z) (hr : XR x (some .long)) (hZ : z.2.2.2.1 = kdM) (N : Nat) (n : Nat) (v0 : Int64) (v2 : Int32) (v3 : Int64) (v5 : Int32) (σ : Mem) : VK x z 6 (BQ QL x z) 5 [(0, .long v0), (2, .int v2), (3, .long v3), (5, .int v5)] [] σ (fX12_power0_l5 N n v0 v2 v3 v5 σ) := by
  induction n generalizing v0 v2 v3 v5 σ with
  | zero => exact V_none
  | succ n ih => exact bX12_power0_5 X E hr hZ N (fX12_power0_l5 N n) ih v0 v2 v3 v5 σ
def fX12_power0 (N : Nat) (v0 : Int64) (v2 : Int32) (σ : Mem) : Option (Int64 × Mem) :=
  lt_ 1 (fun v3_1 => lt_ 0 (fun v5_2 => fX12_power0_l5 N N v0 v2 v3_1 v5_2 σ))
set_option maxRecDepth 100000 in
set_option maxHeartbeats 4000000 in
theorem bX12_power0_0 {x : Cx} {z : Sx} (X : XG x z RX12 cX12_power0 6 0 0) (E : XE x z) (hr : XR x (some .long)) (hZ : z.2.2.2.1 = kdM) (N : Nat) (v0 : Int64) (v2 : Int32) (σ : Mem) : VK x z 6 (BQ QL x z) 0 [(0, .long v0), (2, .int v2)] [] σ (fX12_power0 N v0 v2 σ) := by
  unfold fX12_power0
  refine V_lconst (v := 1) X dX12_power0_0 (by decide) ?_
  refine V_lstore_nG (L' := fun v3_1 => [(3, .long v3_1), (0, .long v0), (2, .int v2)]) X dX12_power0_1 rfl (by decide) (fun _ => rfl) (fun v3_1 => ?_)
  refine V_iconst (v := 0) X dX12_power0_2 (by decide) ?_
  refine V_istoreG (L' := fun v5_2 => [(5, .int v5_2), (3, .long v3_1), (0, .long v0), (2, .int v2)]) X dX12_power0_3 (by decide) (fun _ => rfl) (fun v5_2 => ?_)
  refine V_sub [2, 3, 1, 0] rfl ?_
  exact lX12_power0_5 X E hr hZ N N v0 v2 v3_1 v5_2 σ
theorem kX12_power0 (l : Launch) (z : Sx) (hZ : z.2.2.2.1 = kdM) (N : Nat) (v0 : Int64) (v2 : Int32) (σ : Mem) : Ct QL yX12_power0 cX12_power0 6 (some .long) 0 0 l z [.long v0, .int v2] σ (fX12_power0 N v0 v2 σ) := by
  refine Ct_of (by decide +kernel) (Nat.le_of_ble_eq_true rfl) rfl ?_
  intro x _ X E hr
  exact bX12_power0_0 X E hr hZ N v0 v2 σ
def fX12_common_b6 (N : Nat) (rc6 : Int64 → Int64 → Mem → Option (Int64 × Mem)) (v4 : Int64) (v6 : Int64) (σ : Mem) : Option (Int64 × Mem) :=
  if (lg_cmp v6 0) = 0 then some (v4, σ) else gd (!(decide (v6 = 0))) (lt_ (rmL v4 v6) (fun v8_3 => lt_ v6 (fun v4_4 => lt_ v8_3 (fun v6_5 => rc6 v4_4 v6_5 σ))))
set_option maxRecDepth 100000 in
set_option maxHeartbeats 4000000 in
theorem bX12_common_6 {x : Cx} {z : Sx} (X : XG x z RX12 cX12_common 10 0 0) (E : XE x z) (hr : XR x (some .long)) (hZ : z.2.2.2.1 = kdM) (N : Nat) (rc6 : Int64 → Int64 → Mem → Option (Int64 × Mem)) (hc6 : ∀ (v4 : Int64) (v6 : Int64) (σ : Mem), VK x z 10 (BQ QL x z) 6 [(4, .long v4), (6, .long v6)] [] σ (rc6 v4 v6 σ)) (v4 : Int64) (v6 : Int64) (σ : Mem) : VK x z 10 (BQ QL x z) 6 [(4, .long v4), (6, .long v6)] [] σ (fX12_common_b6 N rc6 v4 v6 σ) := by
  unfold fX12_common_b6
  refine V_lload 1 X dX12_common_6 rfl ?_
  refine V_lconst (v := 0) X dX12_common_8 (by decide) ?_
  refine V_lcmp X dX12_common_9 ?_
  refine V_if_eq (tgt := 31) X dX12_common_10 (by decide) ?_ ?_
  · refine V_lload 0 X dX12_common_31 rfl ?_
    exact V_lret X E hr dX12_common_33
  · refine V_lload 0 X dX12_common_13 rfl ?_
    refine V_lload 1 X dX12_common_15 rfl ?_
    refine V_lremG X dX12_common_17 ?_
    refine V_lstoreG (L' := fun v8_3 => [(8, .long v8_3), (4, .long v4), (6, .long v6)]) X dX12_common_18 (by decide) (fun _ => rfl) (fun v8_3 => ?_)
    refine V_lload 2 X dX12_common_20 rfl ?_
    refine V_lstoreG (L' := fun v4_4 => [(4, .long v4_4), (8, .long v8_3), (6, .long v6)]) X dX12_common_22 (by decide) (fun _ => rfl) (fun v4_4 => ?_)
    refine V_lload 1 X dX12_common_24 rfl ?_
    refine V_lstoreG (L' := fun v6_5 => [(6, .long v6_5), (4, .long v4_4), (8, .long v8_3)]) X dX12_common_26 (by decide) (fun _ => rfl) (fun v6_5 => ?_)
    refine V_goto (tgt := 6) X dX12_common_28 (by decide) ?_
    refine V_sub [1, 0] rfl ?_
    exact hc6 v4_4 v6_5 σ
def fX12_common_l6 (N : Nat) : Nat → Int64 → Int64 → Mem → Option (Int64 × Mem)
  | 0 => fun _ _ _ => none
  | n + 1 => fX12_common_b6 N (fX12_common_l6 N n)
theorem lX12_common_6 {x : Cx} {z : Sx} (X : XG x z RX12 cX12_common 10 0 0) (E : XE x z) (hr : XR x (some .long)) (hZ : z.2.2.2.1 = kdM) (N : Nat) (n : Nat) (v4 : Int64) (v6 : Int64) (σ : Mem) : VK x z 10 (BQ QL x z) 6 [(4, .long v4), (6, .long v6)] [] σ (fX12_common_l6 N n v4 v6 σ) := by
  induction n generalizing v4 v6 σ with
  | zero => exact V_none
  | succ n ih => exact bX12_common_6 X E hr hZ N (fX12_common_l6 N n) ih v4 v6 σ
def fX12_common (N : Nat) (v0 : Int64) (v2 : Int64) (σ : Mem) : Option (Int64 × Mem) :=
  lt_ v0 (fun v4_1 => lt_ v2 (fun v6_2 => fX12_common_l6 N N v4_1 v6_2 σ))
set_option maxRecDepth 100000 in
set_option maxHeartbeats 4000000 in
theorem bX12_common_0 {x : Cx} {z : Sx} (X : XG x z RX12 cX12_common 10 0 0) (E : XE x z) (hr : XR x (some .long)) (hZ : z.2.2.2.1 = kdM) (N : Nat) (v0 : Int64) (v2 : Int64) (σ : Mem) : VK x z 10 (BQ QL x z) 0 [(0, .long v0), (2, .long v2)] [] σ (fX12_common N v0 v2 σ) := by
  unfold fX12_common
  refine V_lload_n 0 X dX12_common_0 rfl rfl ?_
  refine V_lstoreG (L' := fun v4_1 => [(4, .long v4_1), (0, .long v0), (2, .long v2)]) X dX12_common_1 (by decide) (fun _ => rfl) (fun v4_1 => ?_)
  refine V_lload_n 2 X dX12_common_3 rfl rfl ?_
  refine V_lstoreG (L' := fun v6_2 => [(6, .long v6_2), (4, .long v4_1), (0, .long v0), (2, .long v2)]) X dX12_common_4 (by decide) (fun _ => rfl) (fun v6_2 => ?_)
  refine V_sub [1, 0] rfl ?_
  exact lX12_common_6 X E hr hZ N N v4_1 v6_2 σ
theorem kX12_common (l : Launch) (z : Sx) (hZ : z.2.2.2.1 = kdM) (N : Nat) (v0 : Int64) (v2 : Int64) (σ : Mem) : Ct QL yX12_common cX12_common 10 (some .long) 0 0 l z [.long v0, .long v2] σ (fX12_common N v0 v2 σ) := by
  refine Ct_of (by decide +kernel) (Nat.le_of_ble_eq_true rfl) rfl ?_
  intro x _ X E hr
  exact bX12_common_0 X E hr hZ N v0 v2 σ
def fX12_odds_b98 (N : Nat) (v4 : Int64) (t0 : Int64) (σ : Mem) : Option (Int64 × Mem) :=
  bd (fX12_common N v4 1000000 σ) (fun r20 s21 => gd (!(decide (r20 = 0))) (some ((t0 / r20), s21)))
set_option maxRecDepth 100000 in
set_option maxHeartbeats 4000000 in
theorem bX12_odds_98 {x : Cx} {z : Sx} (X : XG x z RX12 cX12_odds 7 5 113) (E : XE x z) (hr : XR x (some .long)) (hZ : z.2.2.2.1 = kdM) (N : Nat) (v4 : Int64) (t0 : Int64) (σ : Mem) : VK x z 7 (BQ QL x z) 98 [(0, .ref (z.2.2.1 0)), (4, .long v4)] [.long t0] σ (fX12_odds_b98 N v4 t0 σ) := by
  unfold fX12_odds_b98
  refine V_lload 1 X dX12_odds_98 rfl ?_
  refine V_ldc2 (v := 1000000) X dX12_odds_100 csX12_314 ?_
  refine V_calSL [.long v4, .long 1000000] [.long t0] X E dX12_odds_103 (kX12_common x.2.1 z hZ N v4 1000000 σ) gcX12_316 hyX12_common rfl ⟨by decide, by decide⟩ rfl (Nat.le_of_ble_eq_true rfl) (fun r20 s21 => ?_)
  refine V_ldiv X dX12_odds_106 ?_
  exact V_lret X E hr dX12_odds_107
def fX12_odds_b80 (N : Nat) (rc32 : Int32 → Int32 → Int64 → Int32 → Mem → Option (Int64 × Mem)) (v2 : Int32) (v3 : Int32) (v4 : Int64) (v6 : Int32) (σ : Mem) : Option (Int64 × Mem) :=
  lt_ (v6 + 1) (fun v6_22 => rc32 v2 v3 v4 v6_22 σ)
set_option maxRecDepth 100000 in
set_option maxHeartbeats 4000000 in
theorem bX12_odds_80 {x : Cx} {z : Sx} (X : XG x z RX12 cX12_odds 7 5 113) (E : XE x z) (hr : XR x (some .long)) (hZ : z.2.2.2.1 = kdM) (N : Nat) (rc32 : Int32 → Int32 → Int64 → Int32 → Mem → Option (Int64 × Mem)) (hc32 : ∀ (v2 : Int32) (v3 : Int32) (v4 : Int64) (v6 : Int32) (σ : Mem), VK x z 7 (BQ QL x z) 32 [(0, .ref (z.2.2.1 0)), (2, .int v2), (3, .int v3), (4, .long v4), (6, .int v6)] [] σ (rc32 v2 v3 v4 v6 σ)) (v2 : Int32) (v3 : Int32) (v4 : Int64) (v6 : Int32) (σ : Mem) : VK x z 7 (BQ QL x z) 80 [(0, .ref (z.2.2.1 0)), (2, .int v2), (3, .int v3), (4, .long v4), (6, .int v6)] [] σ (fX12_odds_b80 N rc32 v2 v3 v4 v6 σ) := by
  unfold fX12_odds_b80
  refine V_iincG (L' := fun v6_22 => [(6, .int v6_22), (0, .ref (z.2.2.1 0)), (2, .int v2), (3, .int v3), (4, .long v4)]) 4 X dX12_odds_80 rfl rfl (by decide) (fun _ => rfl) (fun v6_22 => ?_)
  refine V_goto (tgt := 32) X dX12_odds_83 (by decide) ?_
  refine V_sub [1, 2, 3, 4, 0] rfl ?_
  exact hc32 v2 v3 v4 v6_22 σ
def fX12_odds_b32 (N : Nat) (rc32 : Int32 → Int32 → Int64 → Int32 → Mem → Option (Int64 × Mem)) (v2 : Int32) (v3 : Int32) (v4 : Int64) (v6 : Int32) (σ : Mem) : Option (Int64 × Mem) :=
  if 64 ≤ v6 then if v3 = 0 then fX12_odds_b98 N v4 v4 σ else fX12_odds_b98 N v4 1000000 σ else bd (fX12_answers N v6 σ) (fun r9 s10 => if r9 = 0 then fX12_odds_b80 N rc32 v2 v3 v4 v6 s10 else bd (fX12_bitsOf N v6 s10) (fun r11 s12 => bd (fX12_power0 N ((v2 : Int32).toInt64) r11 s12) (fun r13 s14 => bd (fX12_bitsOf N v6 s14) (fun r15 s16 => bd (fX12_power0 N (((10 - v2) : Int32).toInt64) (6 - r15) s16) (fun r17 s18 => lt_ (v4 + (r13 * r17)) (fun v4_19 => fX12_odds_b80 N rc32 v2 v3 v4_19 v6 s18))))))
set_option maxRecDepth 100000 in
set_option maxHeartbeats 4000000 in
theorem bX12_odds_32 {x : Cx} {z : Sx} (X : XG x z RX12 cX12_odds 7 5 113) (E : XE x z) (hr : XR x (some .long)) (hZ : z.2.2.2.1 = kdM) (N : Nat) (rc32 : Int32 → Int32 → Int64 → Int32 → Mem → Option (Int64 × Mem)) (hc32 : ∀ (v2 : Int32) (v3 : Int32) (v4 : Int64) (v6 : Int32) (σ : Mem), VK x z 7 (BQ QL x z) 32 [(0, .ref (z.2.2.1 0)), (2, .int v2), (3, .int v3), (4, .long v4), (6, .int v6)] [] σ (rc32 v2 v3 v4 v6 σ)) (v2 : Int32) (v3 : Int32) (v4 : Int64) (v6 : Int32) (σ : Mem) : VK x z 7 (BQ QL x z) 32 [(0, .ref (z.2.2.1 0)), (2, .int v2), (3, .int v3), (4, .long v4), (6, .int v6)] [] σ (fX12_odds_b32 N rc32 v2 v3 v4 v6 σ) := by
  unfold fX12_odds_b32
  refine V_iload 4 X dX12_odds_32 rfl ?_
  refine V_bipush (v := 64) X dX12_odds_34 (by decide) ?_
  refine V_icmp_ge (tgt := 86) X dX12_odds_36 (by decide) ?_ ?_
  · refine V_iload_n 2 X dX12_odds_86 rfl rfl ?_
    refine V_if_eq (tgt := 96) X dX12_odds_87 (by decide) ?_ ?_
    · refine V_lload 3 X dX12_odds_96 rfl ?_
      refine V_sub [0, 3] rfl ?_
      exact bX12_odds_98 X E hr hZ N v4 v4 σ
    · refine V_ldc2 (v := 1000000) X dX12_odds_90 csX12_314 ?_
      refine V_goto (tgt := 98) X dX12_odds_93 (by decide) ?_
      refine V_sub [0, 3] rfl ?_
      exact bX12_odds_98 X E hr hZ N v4 1000000 σ
  · refine V_aload_n 0 X dX12_odds_39 rfl rfl ?_
    refine V_iload 4 X dX12_odds_40 rfl ?_
    refine V_callI [.int v6] [] X E dX12_odds_42 (kX12_answers x.2.1 z hZ N v6 σ) co12 (kM hZ 0 _ rfl) gcX12_216 hyX12_answers rfl ⟨by decide, by decide⟩ rfl (Nat.le_of_ble_eq_true rfl) (fun r9 s10 => ?_)
    refine V_if_eq (tgt := 80) X dX12_odds_45 (by decide) ?_ ?_
    · refine V_sub [0, 1, 2, 3, 4] rfl ?_
      exact bX12_odds_80 X E hr hZ N rc32 hc32 v2 v3 v4 v6 s10
    · refine V_lload 3 X dX12_odds_48 rfl ?_
      refine V_iload_n 1 X dX12_odds_50 rfl rfl ?_
      refine V_i2l X dX12_odds_51 ?_
      refine V_iload 4 X dX12_odds_52 rfl ?_
      refine V_calSI [.int v6] [.long ((v2 : Int32).toInt64), .long v4] X E dX12_odds_54 (kX12_bitsOf x.2.1 z hZ N v6 s10) gcX12_195 hyX12_bitsOf rfl ⟨by decide, by decide⟩ rfl (Nat.le_of_ble_eq_true rfl) (fun r11 s12 => ?_)
      refine V_calSL [.long ((v2 : Int32).toInt64), .int r11] [.long v4] X E dX12_odds_57 (kX12_power0 x.2.1 z hZ N ((v2 : Int32).toInt64) r11 s12) gcX12_310 hyX12_power0 rfl ⟨by decide, by decide⟩ rfl (Nat.le_of_ble_eq_true rfl) (fun r13 s14 => ?_)
      refine V_bipush (v := 10) X dX12_odds_60 (by decide) ?_
      refine V_iload_n 1 X dX12_odds_62 rfl rfl ?_
      refine V_isub X dX12_odds_63 ?_
      refine V_i2l X dX12_odds_64 ?_
      refine V_bipush (v := 6) X dX12_odds_65 (by decide) ?_
      refine V_iload 4 X dX12_odds_67 rfl ?_
      refine V_calSI [.int v6] [.int 6, .long (((10 - v2) : Int32).toInt64), .long r13, .long v4] X E dX12_odds_69 (kX12_bitsOf x.2.1 z hZ N v6 s14) gcX12_195 hyX12_bitsOf rfl ⟨by decide, by decide⟩ rfl (Nat.le_of_ble_eq_true rfl) (fun r15 s16 => ?_)
      refine V_isub X dX12_odds_72 ?_
      refine V_calSL [.long (((10 - v2) : Int32).toInt64), .int (6 - r15)] [.long r13, .long v4] X E dX12_odds_73 (kX12_power0 x.2.1 z hZ N (((10 - v2) : Int32).toInt64) (6 - r15) s16) gcX12_310 hyX12_power0 rfl ⟨by decide, by decide⟩ rfl (Nat.le_of_ble_eq_true rfl) (fun r17 s18 => ?_)
      refine V_lmul X dX12_odds_76 ?_
      refine V_ladd X dX12_odds_77 ?_
      refine V_lstoreG (L' := fun v4_19 => [(4, .long v4_19), (0, .ref (z.2.2.1 0)), (2, .int v2), (3, .int v3), (6, .int v6)]) X dX12_odds_78 (by decide) (fun _ => rfl) (fun v4_19 => ?_)
      refine V_sub [1, 2, 3, 0, 4] rfl ?_
      exact bX12_odds_80 X E hr hZ N rc32 hc32 v2 v3 v4_19 v6 s18
def fX12_odds_l32 (N : Nat) : Nat → Int32 → Int32 → Int64 → Int32 → Mem → Option (Int64 × Mem)
  | 0 => fun _ _ _ _ _ => none
  | n + 1 => fX12_odds_b32 N (fX12_odds_l32 N n)
theorem lX12_odds_32 {x : Cx} {z : Sx} (X : XG x z RX12 cX12_odds 7 5 113) (E : XE x z) (hr : XR x (some .long)) (hZ : z.2.2.2.1 = kdM) (N : Nat) (n : Nat) (v2 : Int32) (v3 : Int32) (v4 : Int64) (v6 : Int32) (σ : Mem) : VK x z 7 (BQ QL x z) 32 [(0, .ref (z.2.2.1 0)), (2, .int v2), (3, .int v3), (4, .long v4), (6, .int v6)] [] σ (fX12_odds_l32 N n v2 v3 v4 v6 σ) := by
  induction n generalizing v2 v3 v4 v6 σ with
  | zero => exact V_none
  | succ n ih => exact bX12_odds_32 X E hr hZ N (fX12_odds_l32 N n) ih v2 v3 v4 v6 σ
def fX12_odds (N : Nat) (v1 : Int32) (v2 : Int32) (v3 : Int32) (σ : Mem) : Option (Int64 × Mem) :=
  bd (fX12_isChamber N v1 σ) (fun r1 s2 => if r1 = 0 then some ((-1), s2) else bd (fX12_isIn N v2 0 10 s2) (fun r3 s4 => if r3 = 0 then some ((-1), s4) else bd (fX12_asTold N s4) (fun r5 s6 => lt_ 0 (fun v4_7 => lt_ 0 (fun v6_8 => fX12_odds_l32 N N v2 v3 v4_7 v6_8 s6)))))
set_option maxRecDepth 100000 in
set_option maxHeartbeats 4000000 in
theorem bX12_odds_0 {x : Cx} {z : Sx} (X : XG x z RX12 cX12_odds 7 5 113) (E : XE x z) (hr : XR x (some .long)) (hZ : z.2.2.2.1 = kdM) (N : Nat) (v1 : Int32) (v2 : Int32) (v3 : Int32) (σ : Mem) : VK x z 7 (BQ QL x z) 0 [(0, .ref (z.2.2.1 0)), (1, .int v1), (2, .int v2), (3, .int v3)] [] σ (fX12_odds N v1 v2 v3 σ) := by
  unfold fX12_odds
  refine V_aload_n 0 X dX12_odds_0 rfl rfl ?_
  refine V_iload_n 1 X dX12_odds_1 rfl rfl ?_
  refine V_callI [.int v1] [] X E dX12_odds_2 (kX12_isChamber x.2.1 z hZ N v1 σ) co12 (kM hZ 0 _ rfl) gcX12_165 hyX12_isChamber rfl ⟨by decide, by decide⟩ rfl (Nat.le_of_ble_eq_true rfl) (fun r1 s2 => ?_)
  refine V_if_eq (tgt := 18) X dX12_odds_5 (by decide) ?_ ?_
  · refine V_ldc2 (v := -1) X dX12_odds_18 csX12_308 ?_
    exact V_lret X E hr dX12_odds_21
  · refine V_iload_n 2 X dX12_odds_8 rfl rfl ?_
    refine V_iconst (v := 0) X dX12_odds_9 (by decide) ?_
    refine V_bipush (v := 10) X dX12_odds_10 (by decide) ?_
    refine V_calSI [.int v2, .int 0, .int 10] [] X E dX12_odds_12 (kX12_isIn x.2.1 z hZ N v2 0 10 s2) gcX12_106 hyX12_isIn rfl ⟨by decide, by decide⟩ rfl (Nat.le_of_ble_eq_true rfl) (fun r3 s4 => ?_)
    refine V_if_ne (tgt := 22) X dX12_odds_15 (by decide) ?_ ?_
    · refine V_aload_n 0 X dX12_odds_22 rfl rfl ?_
      refine V_callV [] [] X E dX12_odds_23 (kX12_asTold x.2.1 z hZ N s4) co12 (kM hZ 0 _ rfl) gcX12_213 hyX12_asTold rfl ⟨by decide, by decide⟩ rfl (Nat.le_of_ble_eq_true rfl) (fun r5 s6 => ?_)
      refine V_lconst (v := 0) X dX12_odds_26 (by decide) ?_
      refine V_lstoreG (L' := fun v4_7 => [(4, .long v4_7), (0, .ref (z.2.2.1 0)), (1, .int v1), (2, .int v2), (3, .int v3)]) X dX12_odds_27 (by decide) (fun _ => rfl) (fun v4_7 => ?_)
      refine V_iconst (v := 0) X dX12_odds_29 (by decide) ?_
      refine V_istoreG (L' := fun v6_8 => [(6, .int v6_8), (4, .long v4_7), (0, .ref (z.2.2.1 0)), (1, .int v1), (2, .int v2), (3, .int v3)]) X dX12_odds_30 (by decide) (fun _ => rfl) (fun v6_8 => ?_)
      refine V_sub [2, 4, 5, 1, 0] rfl ?_
      exact lX12_odds_32 X E hr hZ N N v2 v3 v4_7 v6_8 s6
    · refine V_ldc2 (v := -1) X dX12_odds_18 csX12_308 ?_
      exact V_lret X E hr dX12_odds_21
theorem kX12_odds (l : Launch) (z : Sx) (hZ : z.2.2.2.1 = kdM) (N : Nat) (v1 : Int32) (v2 : Int32) (v3 : Int32) (σ : Mem) : Ct QL yX12_odds cX12_odds 7 (some .long) 5 113 l z [.ref (z.2.2.1 0), .int v1, .int v2, .int v3] σ (fX12_odds N v1 v2 v3 σ) := by
  refine Ct_of (by decide +kernel) (Nat.le_of_ble_eq_true rfl) rfl ?_
  intro x _ X E hr
  exact bX12_odds_0 X E hr hZ N v1 v2 v3 σ
def fX12_voicesOf_b31 (N : Nat) (rc4 : Int32 → Int32 → Int32 → Mem → Option (Int32 × Mem)) (v1 : Int32) (v3 : Int32) (t0 : Int32) (t1 : Int32) (σ : Mem) : Option (Int32 × Mem) :=
  lt_ (t1 + t0) (fun v2_7 => lt_ (v3 + 1) (fun v3_8 => rc4 v1 v2_7 v3_8 σ))
set_option maxRecDepth 100000 in
set_option maxHeartbeats 4000000 in
theorem bX12_voicesOf_31 {x : Cx} {z : Sx} (X : XG x z RX12 cX12_voicesOf 4 1 22) (E : XE x z) (hr : XR x (some .int)) (hZ : z.2.2.2.1 = kdM) (N : Nat) (rc4 : Int32 → Int32 → Int32 → Mem → Option (Int32 × Mem)) (hc4 : ∀ (v1 : Int32) (v2 : Int32) (v3 : Int32) (σ : Mem), VK x z 4 (BQ QI x z) 4 [(0, .ref (z.2.2.1 0)), (1, .int v1), (2, .int v2), (3, .int v3)] [] σ (rc4 v1 v2 v3 σ)) (v1 : Int32) (v3 : Int32) (t0 : Int32) (t1 : Int32) (σ : Mem) : VK x z 4 (BQ QI x z) 31 [(0, .ref (z.2.2.1 0)), (1, .int v1), (3, .int v3)] [.int t0, .int t1] σ (fX12_voicesOf_b31 N rc4 v1 v3 t0 t1 σ) := by
  unfold fX12_voicesOf_b31
  refine V_iadd X dX12_voicesOf_31 ?_
  refine V_istore_nG (L' := fun v2_7 => [(2, .int v2_7), (0, .ref (z.2.2.1 0)), (1, .int v1), (3, .int v3)]) X dX12_voicesOf_32 rfl (by decide) (fun _ => rfl) (fun v2_7 => ?_)
  refine V_iincG (L' := fun v3_8 => [(3, .int v3_8), (2, .int v2_7), (0, .ref (z.2.2.1 0)), (1, .int v1)]) 3 X dX12_voicesOf_33 rfl rfl (by decide) (fun _ => rfl) (fun v3_8 => ?_)
  refine V_goto (tgt := 4) X dX12_voicesOf_36 (by decide) ?_
  refine V_sub [2, 3, 1, 0] rfl ?_
  exact hc4 v1 v2_7 v3_8 σ
def fX12_voicesOf_b4 (N : Nat) (rc4 : Int32 → Int32 → Int32 → Mem → Option (Int32 × Mem)) (v1 : Int32) (v2 : Int32) (v3 : Int32) (σ : Mem) : Option (Int32 × Mem) :=
  if (σ.1 0 12) ≤ v3 then some (v2, σ) else bd (fX12_holds N v1 v3 σ) (fun r3 s4 => if r3 = 0 then fX12_voicesOf_b31 N rc4 v1 v3 0 v2 s4 else bd (fX12_of N v3 5 s4) (fun r5 s6 => fX12_voicesOf_b31 N rc4 v1 v3 r5 v2 s6))
set_option maxRecDepth 100000 in
set_option maxHeartbeats 4000000 in
theorem bX12_voicesOf_4 {x : Cx} {z : Sx} (X : XG x z RX12 cX12_voicesOf 4 1 22) (E : XE x z) (hr : XR x (some .int)) (hZ : z.2.2.2.1 = kdM) (N : Nat) (rc4 : Int32 → Int32 → Int32 → Mem → Option (Int32 × Mem)) (hc4 : ∀ (v1 : Int32) (v2 : Int32) (v3 : Int32) (σ : Mem), VK x z 4 (BQ QI x z) 4 [(0, .ref (z.2.2.1 0)), (1, .int v1), (2, .int v2), (3, .int v3)] [] σ (rc4 v1 v2 v3 σ)) (v1 : Int32) (v2 : Int32) (v3 : Int32) (σ : Mem) : VK x z 4 (BQ QI x z) 4 [(0, .ref (z.2.2.1 0)), (1, .int v1), (2, .int v2), (3, .int v3)] [] σ (fX12_voicesOf_b4 N rc4 v1 v2 v3 σ) := by
  unfold fX12_voicesOf_b4
  refine V_iload_n 3 X dX12_voicesOf_4 rfl rfl ?_
  refine V_aload_n 0 X dX12_voicesOf_5 rfl rfl ?_
  refine V_getI 12 X dX12_voicesOf_6 co12 (kM hZ 0 _ rfl) (by decide) rfl wfX12_159 ?_
  refine V_icmp_ge (tgt := 39) X dX12_voicesOf_9 (by decide) ?_ ?_
  · refine V_iload_n 2 X dX12_voicesOf_39 rfl rfl ?_
    exact V_iret X E hr dX12_voicesOf_40
  · refine V_iload_n 2 X dX12_voicesOf_12 rfl rfl ?_
    refine V_iload_n 1 X dX12_voicesOf_13 rfl rfl ?_
    refine V_iload_n 3 X dX12_voicesOf_14 rfl rfl ?_
    refine V_calSI [.int v1, .int v3] [.int v2] X E dX12_voicesOf_15 (kX12_holds x.2.1 z hZ N v1 v3 σ) gcX12_192 hyX12_holds rfl ⟨by decide, by decide⟩ rfl (Nat.le_of_ble_eq_true rfl) (fun r3 s4 => ?_)
    refine V_if_eq (tgt := 30) X dX12_voicesOf_18 (by decide) ?_ ?_
    · refine V_iconst (v := 0) X dX12_voicesOf_30 (by decide) ?_
      refine V_sub [0, 1, 3] rfl ?_
      exact bX12_voicesOf_31 X E hr hZ N rc4 hc4 v1 v3 0 v2 s4
    · refine V_aload_n 0 X dX12_voicesOf_21 rfl rfl ?_
      refine V_iload_n 3 X dX12_voicesOf_22 rfl rfl ?_
      refine V_iconst (v := 5) X dX12_voicesOf_23 (by decide) ?_
      refine V_callI [.int v3, .int 5] [.int v2] X E dX12_voicesOf_24 (kX12_of x.2.1 z hZ N v3 5 s4) co12 (kM hZ 0 _ rfl) gcX12_171 hyX12_of rfl ⟨by decide, by decide⟩ rfl (Nat.le_of_ble_eq_true rfl) (fun r5 s6 => ?_)
      refine V_goto (tgt := 31) X dX12_voicesOf_27 (by decide) ?_
      refine V_sub [0, 1, 3] rfl ?_
      exact bX12_voicesOf_31 X E hr hZ N rc4 hc4 v1 v3 r5 v2 s6
def fX12_voicesOf_l4 (N : Nat) : Nat → Int32 → Int32 → Int32 → Mem → Option (Int32 × Mem)
  | 0 => fun _ _ _ _ => none
  | n + 1 => fX12_voicesOf_b4 N (fX12_voicesOf_l4 N n)
theorem lX12_voicesOf_4 {x : Cx} {z : Sx} (X : XG x z RX12 cX12_voicesOf 4 1 22) (E : XE x z) (hr : XR x (some .int)) (hZ : z.2.2.2.1 = kdM) (N : Nat) (n : Nat) (v1 : Int32) (v2 : Int32) (v3 : Int32) (σ : Mem) : VK x z 4 (BQ QI x z) 4 [(0, .ref (z.2.2.1 0)), (1, .int v1), (2, .int v2), (3, .int v3)] [] σ (fX12_voicesOf_l4 N n v1 v2 v3 σ) := by
  induction n generalizing v1 v2 v3 σ with
  | zero => exact V_none
  | succ n ih => exact bX12_voicesOf_4 X E hr hZ N (fX12_voicesOf_l4 N n) ih v1 v2 v3 σ
def fX12_voicesOf (N : Nat) (v1 : Int32) (σ : Mem) : Option (Int32 × Mem) :=
  lt_ 0 (fun v2_1 => lt_ 0 (fun v3_2 => fX12_voicesOf_l4 N N v1 v2_1 v3_2 σ))
set_option maxRecDepth 100000 in
set_option maxHeartbeats 4000000 in
theorem bX12_voicesOf_0 {x : Cx} {z : Sx} (X : XG x z RX12 cX12_voicesOf 4 1 22) (E : XE x z) (hr : XR x (some .int)) (hZ : z.2.2.2.1 = kdM) (N : Nat) (v1 : Int32) (σ : Mem) : VK x z 4 (BQ QI x z) 0 [(0, .ref (z.2.2.1 0)), (1, .int v1)] [] σ (fX12_voicesOf N v1 σ) := by
  unfold fX12_voicesOf
  refine V_iconst (v := 0) X dX12_voicesOf_0 (by decide) ?_
  refine V_istore_nG (L' := fun v2_1 => [(2, .int v2_1), (0, .ref (z.2.2.1 0)), (1, .int v1)]) X dX12_voicesOf_1 rfl (by decide) (fun _ => rfl) (fun v2_1 => ?_)
  refine V_iconst (v := 0) X dX12_voicesOf_2 (by decide) ?_
  refine V_istore_nG (L' := fun v3_2 => [(3, .int v3_2), (2, .int v2_1), (0, .ref (z.2.2.1 0)), (1, .int v1)]) X dX12_voicesOf_3 rfl (by decide) (fun _ => rfl) (fun v3_2 => ?_)
  refine V_sub [2, 3, 1, 0] rfl ?_
  exact lX12_voicesOf_4 X E hr hZ N N v1 v2_1 v3_2 σ
theorem kX12_voicesOf (l : Launch) (z : Sx) (hZ : z.2.2.2.1 = kdM) (N : Nat) (v1 : Int32) (σ : Mem) : Ct QI yX12_voicesOf cX12_voicesOf 4 (some .int) 1 22 l z [.ref (z.2.2.1 0), .int v1] σ (fX12_voicesOf N v1 σ) := by
  refine Ct_of (by decide +kernel) (Nat.le_of_ble_eq_true rfl) rfl ?_
  intro x _ X E hr
  exact bX12_voicesOf_0 X E hr hZ N v1 σ
def fX12_apart (N : Nat) (v1 : Int32) (σ : Mem) : Option (Int32 × Mem) :=
  bd (fX12_voicesOf N v1 σ) (fun r1 s2 => bd (fX12_voicesOf N (((1 <<< ((s2.1 0 12) &&& 31)) - 1) &&& (v1 ^^^ (-1))) s2) (fun r3 s4 => lt_ (r1 - r3) (fun v2_5 => if 0 ≤ v2_5 then some (v2_5, s4) else some ((-v2_5), s4))))
set_option maxRecDepth 100000 in
set_option maxHeartbeats 4000000 in
theorem bX12_apart_0 {x : Cx} {z : Sx} (X : XG x z RX12 cX12_apart 3 2 45) (E : XE x z) (hr : XR x (some .int)) (hZ : z.2.2.2.1 = kdM) (N : Nat) (v1 : Int32) (σ : Mem) : VK x z 3 (BQ QI x z) 0 [(0, .ref (z.2.2.1 0)), (1, .int v1)] [] σ (fX12_apart N v1 σ) := by
  unfold fX12_apart
  refine V_aload_n 0 X dX12_apart_0 rfl rfl ?_
  refine V_iload_n 1 X dX12_apart_1 rfl rfl ?_
  refine V_callI [.int v1] [] X E dX12_apart_2 (kX12_voicesOf x.2.1 z hZ N v1 σ) co12 (kM hZ 0 _ rfl) gcX12_320 hyX12_voicesOf rfl ⟨by decide, by decide⟩ rfl (Nat.le_of_ble_eq_true rfl) (fun r1 s2 => ?_)
  refine V_aload_n 0 X dX12_apart_5 rfl rfl ?_
  refine V_iconst (v := 1) X dX12_apart_6 (by decide) ?_
  refine V_aload_n 0 X dX12_apart_7 rfl rfl ?_
  refine V_getI 12 X dX12_apart_8 co12 (kM hZ 0 _ rfl) (by decide) rfl wfX12_159 ?_
  refine V_ishl X dX12_apart_11 ?_
  refine V_iconst (v := 1) X dX12_apart_12 (by decide) ?_
  refine V_isub X dX12_apart_13 ?_
  refine V_iload_n 1 X dX12_apart_14 rfl rfl ?_
  refine V_iconst (v := -1) X dX12_apart_15 (by decide) ?_
  refine V_ixor X dX12_apart_16 ?_
  refine V_iand X dX12_apart_17 ?_
  refine V_callI [.int (((1 <<< ((s2.1 0 12) &&& 31)) - 1) &&& (v1 ^^^ (-1)))] [.int r1] X E dX12_apart_18 (kX12_voicesOf x.2.1 z hZ N (((1 <<< ((s2.1 0 12) &&& 31)) - 1) &&& (v1 ^^^ (-1))) s2) co12 (kM hZ 0 _ rfl) gcX12_320 hyX12_voicesOf rfl ⟨by decide, by decide⟩ rfl (Nat.le_of_ble_eq_true rfl) (fun r3 s4 => ?_)
  refine V_isub X dX12_apart_21 ?_
  refine V_istore_nG (L' := fun v2_5 => [(2, .int v2_5), (0, .ref (z.2.2.1 0)), (1, .int v1)]) X dX12_apart_22 rfl (by decide) (fun _ => rfl) (fun v2_5 => ?_)
  refine V_iload_n 0 X dX12_apart_23 rfl rfl ?_
  refine V_if_ge (tgt := 32) X dX12_apart_24 (by decide) ?_ ?_
  · refine V_iload_n 0 X dX12_apart_32 rfl rfl ?_
    exact V_iret X E hr dX12_apart_33
  · refine V_iload_n 0 X dX12_apart_27 rfl rfl ?_
    refine V_ineg X dX12_apart_28 ?_
    refine V_goto (tgt := 33) X dX12_apart_29 (by decide) ?_
    exact V_iret X E hr dX12_apart_33
theorem kX12_apart (l : Launch) (z : Sx) (hZ : z.2.2.2.1 = kdM) (N : Nat) (v1 : Int32) (σ : Mem) : Ct QI yX12_apart cX12_apart 3 (some .int) 2 45 l z [.ref (z.2.2.1 0), .int v1] σ (fX12_apart N v1 σ) := by
  refine Ct_of (by decide +kernel) (Nat.le_of_ble_eq_true rfl) rfl ?_
  intro x _ X E hr
  exact bX12_apart_0 X E hr hZ N v1 σ
def fX12_wins_b37 (N : Nat) (rc7 : Int32 → Int32 → Int32 → Int32 → Mem → Option (Int32 × Mem)) (v1 : Int32) (v3 : Int32) (v4 : Int32) (t0 : Int32) (t1 : Int32) (σ : Mem) : Option (Int32 × Mem) :=
  lt_ (t1 + t0) (fun v2_8 => bd (fX12_of N v4 5 σ) (fun r9 s10 => lt_ (v3 + r9) (fun v3_11 => lt_ (v4 + 1) (fun v4_12 => rc7 v1 v2_8 v3_11 v4_12 s10))))
set_option maxRecDepth 100000 in
set_option maxHeartbeats 4000000 in
theorem bX12_wins_37 {x : Cx} {z : Sx} (X : XG x z RX12 cX12_wins 5 1 22) (E : XE x z) (hr : XR x (some .boolean)) (hZ : z.2.2.2.1 = kdM) (N : Nat) (rc7 : Int32 → Int32 → Int32 → Int32 → Mem → Option (Int32 × Mem)) (hc7 : ∀ (v1 : Int32) (v2 : Int32) (v3 : Int32) (v4 : Int32) (σ : Mem), VK x z 5 (BQ QI x z) 7 [(0, .ref (z.2.2.1 0)), (1, .int v1), (2, .int v2), (3, .int v3), (4, .int v4)] [] σ (rc7 v1 v2 v3 v4 σ)) (v1 : Int32) (v3 : Int32) (v4 : Int32) (t0 : Int32) (t1 : Int32) (σ : Mem) : VK x z 5 (BQ QI x z) 37 [(0, .ref (z.2.2.1 0)), (1, .int v1), (3, .int v3), (4, .int v4)] [.int t0, .int t1] σ (fX12_wins_b37 N rc7 v1 v3 v4 t0 t1 σ) := by
  unfold fX12_wins_b37
  refine V_iadd X dX12_wins_37 ?_
  refine V_istore_nG (L' := fun v2_8 => [(2, .int v2_8), (0, .ref (z.2.2.1 0)), (1, .int v1), (3, .int v3), (4, .int v4)]) X dX12_wins_38 rfl (by decide) (fun _ => rfl) (fun v2_8 => ?_)
  refine V_iload_n 3 X dX12_wins_39 rfl rfl ?_
  refine V_aload_n 1 X dX12_wins_40 rfl rfl ?_
  refine V_iload 4 X dX12_wins_41 rfl ?_
  refine V_iconst (v := 5) X dX12_wins_43 (by decide) ?_
  refine V_callI [.int v4, .int 5] [.int v3] X E dX12_wins_44 (kX12_of x.2.1 z hZ N v4 5 σ) co12 (kM hZ 0 _ rfl) gcX12_171 hyX12_of rfl ⟨by decide, by decide⟩ rfl (Nat.le_of_ble_eq_true rfl) (fun r9 s10 => ?_)
  refine V_iadd X dX12_wins_47 ?_
  refine V_istore_nG (L' := fun v3_11 => [(3, .int v3_11), (2, .int v2_8), (0, .ref (z.2.2.1 0)), (1, .int v1), (4, .int v4)]) X dX12_wins_48 rfl (by decide) (fun _ => rfl) (fun v3_11 => ?_)
  refine V_iincG (L' := fun v4_12 => [(4, .int v4_12), (3, .int v3_11), (2, .int v2_8), (0, .ref (z.2.2.1 0)), (1, .int v1)]) 4 X dX12_wins_49 rfl rfl (by decide) (fun _ => rfl) (fun v4_12 => ?_)
  refine V_goto (tgt := 7) X dX12_wins_52 (by decide) ?_
  refine V_sub [3, 4, 2, 1, 0] rfl ?_
  exact hc7 v1 v2_8 v3_11 v4_12 s10
def fX12_wins_b7 (N : Nat) (rc7 : Int32 → Int32 → Int32 → Int32 → Mem → Option (Int32 × Mem)) (v1 : Int32) (v2 : Int32) (v3 : Int32) (v4 : Int32) (σ : Mem) : Option (Int32 × Mem) :=
  if (σ.1 0 12) ≤ v4 then if (2 * v2) ≤ v3 then some (0, σ) else some (1, σ) else bd (fX12_holds N v1 v4 σ) (fun r4 s5 => if r4 = 0 then fX12_wins_b37 N rc7 v1 v3 v4 0 v2 s5 else bd (fX12_of N v4 5 s5) (fun r6 s7 => fX12_wins_b37 N rc7 v1 v3 v4 r6 v2 s7))
set_option maxRecDepth 100000 in
set_option maxHeartbeats 4000000 in
theorem bX12_wins_7 {x : Cx} {z : Sx} (X : XG x z RX12 cX12_wins 5 1 22) (E : XE x z) (hr : XR x (some .boolean)) (hZ : z.2.2.2.1 = kdM) (N : Nat) (rc7 : Int32 → Int32 → Int32 → Int32 → Mem → Option (Int32 × Mem)) (hc7 : ∀ (v1 : Int32) (v2 : Int32) (v3 : Int32) (v4 : Int32) (σ : Mem), VK x z 5 (BQ QI x z) 7 [(0, .ref (z.2.2.1 0)), (1, .int v1), (2, .int v2), (3, .int v3), (4, .int v4)] [] σ (rc7 v1 v2 v3 v4 σ)) (v1 : Int32) (v2 : Int32) (v3 : Int32) (v4 : Int32) (σ : Mem) : VK x z 5 (BQ QI x z) 7 [(0, .ref (z.2.2.1 0)), (1, .int v1), (2, .int v2), (3, .int v3), (4, .int v4)] [] σ (fX12_wins_b7 N rc7 v1 v2 v3 v4 σ) := by
  unfold fX12_wins_b7
  refine V_iload 4 X dX12_wins_7 rfl ?_
  refine V_aload_n 0 X dX12_wins_9 rfl rfl ?_
  refine V_getI 12 X dX12_wins_10 co12 (kM hZ 0 _ rfl) (by decide) rfl wfX12_159 ?_
  refine V_icmp_ge (tgt := 55) X dX12_wins_13 (by decide) ?_ ?_
  · refine V_iconst (v := 2) X dX12_wins_55 (by decide) ?_
    refine V_iload_n 2 X dX12_wins_56 rfl rfl ?_
    refine V_imul X dX12_wins_57 ?_
    refine V_iload_n 3 X dX12_wins_58 rfl rfl ?_
    refine V_icmp_le (tgt := 66) X dX12_wins_59 (by decide) ?_ ?_
    · refine V_iconst (v := 0) X dX12_wins_66 (by decide) ?_
      exact V_zret X E hr dX12_wins_67 (by decide)
    · refine V_iconst (v := 1) X dX12_wins_62 (by decide) ?_
      refine V_goto (tgt := 67) X dX12_wins_63 (by decide) ?_
      exact V_zret X E hr dX12_wins_67 (by decide)
  · refine V_iload_n 2 X dX12_wins_16 rfl rfl ?_
    refine V_iload_n 1 X dX12_wins_17 rfl rfl ?_
    refine V_iload 4 X dX12_wins_18 rfl ?_
    refine V_calSI [.int v1, .int v4] [.int v2] X E dX12_wins_20 (kX12_holds x.2.1 z hZ N v1 v4 σ) gcX12_192 hyX12_holds rfl ⟨by decide, by decide⟩ rfl (Nat.le_of_ble_eq_true rfl) (fun r4 s5 => ?_)
    refine V_if_eq (tgt := 36) X dX12_wins_23 (by decide) ?_ ?_
    · refine V_iconst (v := 0) X dX12_wins_36 (by decide) ?_
      refine V_sub [0, 1, 3, 4] rfl ?_
      exact bX12_wins_37 X E hr hZ N rc7 hc7 v1 v3 v4 0 v2 s5
    · refine V_aload_n 0 X dX12_wins_26 rfl rfl ?_
      refine V_iload 4 X dX12_wins_27 rfl ?_
      refine V_iconst (v := 5) X dX12_wins_29 (by decide) ?_
      refine V_callI [.int v4, .int 5] [.int v2] X E dX12_wins_30 (kX12_of x.2.1 z hZ N v4 5 s5) co12 (kM hZ 0 _ rfl) gcX12_171 hyX12_of rfl ⟨by decide, by decide⟩ rfl (Nat.le_of_ble_eq_true rfl) (fun r6 s7 => ?_)
      refine V_goto (tgt := 37) X dX12_wins_33 (by decide) ?_
      refine V_sub [0, 1, 3, 4] rfl ?_
      exact bX12_wins_37 X E hr hZ N rc7 hc7 v1 v3 v4 r6 v2 s7
def fX12_wins_l7 (N : Nat) : Nat → Int32 → Int32 → Int32 → Int32 → Mem → Option (Int32 × Mem)
  | 0 => fun _ _ _ _ _ => none
  | n + 1 => fX12_wins_b7 N (fX12_wins_l7 N n)
theorem lX12_wins_7 {x : Cx} {z : Sx} (X : XG x z RX12 cX12_wins 5 1 22) (E : XE x z) (hr : XR x (some .boolean)) (hZ : z.2.2.2.1 = kdM) (N : Nat) (n : Nat) (v1 : Int32) (v2 : Int32) (v3 : Int32) (v4 : Int32) (σ : Mem) : VK x z 5 (BQ QI x z) 7 [(0, .ref (z.2.2.1 0)), (1, .int v1), (2, .int v2), (3, .int v3), (4, .int v4)] [] σ (fX12_wins_l7 N n v1 v2 v3 v4 σ) := by
  induction n generalizing v1 v2 v3 v4 σ with
  | zero => exact V_none
  | succ n ih => exact bX12_wins_7 X E hr hZ N (fX12_wins_l7 N n) ih v1 v2 v3 v4 σ
def fX12_wins (N : Nat) (v1 : Int32) (σ : Mem) : Option (Int32 × Mem) :=
  lt_ 0 (fun v2_1 => lt_ 0 (fun v3_2 => lt_ 0 (fun v4_3 => fX12_wins_l7 N N v1 v2_1 v3_2 v4_3 σ)))
set_option maxRecDepth 100000 in
set_option maxHeartbeats 4000000 in
theorem bX12_wins_0 {x : Cx} {z : Sx} (X : XG x z RX12 cX12_wins 5 1 22) (E : XE x z) (hr : XR x (some .boolean)) (hZ : z.2.2.2.1 = kdM) (N : Nat) (v1 : Int32) (σ : Mem) : VK x z 5 (BQ QI x z) 0 [(0, .ref (z.2.2.1 0)), (1, .int v1)] [] σ (fX12_wins N v1 σ) := by
  unfold fX12_wins
  refine V_iconst (v := 0) X dX12_wins_0 (by decide) ?_
  refine V_istore_nG (L' := fun v2_1 => [(2, .int v2_1), (0, .ref (z.2.2.1 0)), (1, .int v1)]) X dX12_wins_1 rfl (by decide) (fun _ => rfl) (fun v2_1 => ?_)
  refine V_iconst (v := 0) X dX12_wins_2 (by decide) ?_
  refine V_istore_nG (L' := fun v3_2 => [(3, .int v3_2), (2, .int v2_1), (0, .ref (z.2.2.1 0)), (1, .int v1)]) X dX12_wins_3 rfl (by decide) (fun _ => rfl) (fun v3_2 => ?_)
  refine V_iconst (v := 0) X dX12_wins_4 (by decide) ?_
  refine V_istoreG (L' := fun v4_3 => [(4, .int v4_3), (3, .int v3_2), (2, .int v2_1), (0, .ref (z.2.2.1 0)), (1, .int v1)]) X dX12_wins_5 (by decide) (fun _ => rfl) (fun v4_3 => ?_)
  refine V_sub [3, 4, 2, 1, 0] rfl ?_
  exact lX12_wins_7 X E hr hZ N N v1 v2_1 v3_2 v4_3 σ
theorem kX12_wins (l : Launch) (z : Sx) (hZ : z.2.2.2.1 = kdM) (N : Nat) (v1 : Int32) (σ : Mem) : Ct QI yX12_wins cX12_wins 5 (some .boolean) 1 22 l z [.ref (z.2.2.1 0), .int v1] σ (fX12_wins N v1 σ) := by
  refine Ct_of (by decide +kernel) (Nat.le_of_ble_eq_true rfl) rfl ?_
  intro x _ X E hr
  exact bX12_wins_0 X E hr hZ N v1 σ
def fX12_swingsOf_b48 (N : Nat) (rc4 : Int32 → Int32 → Int32 → Mem → Option (Int32 × Mem)) (v1 : Int32) (v3 : Int32) (t0 : Int32) (t1 : Int32) (σ : Mem) : Option (Int32 × Mem) :=
  lt_ (t1 + t0) (fun v2_9 => lt_ (v3 + 1) (fun v3_10 => rc4 v1 v2_9 v3_10 σ))
set_option maxRecDepth 100000 in
set_option maxHeartbeats 4000000 in
theorem bX12_swingsOf_48 {x : Cx} {z : Sx} (X : XG x z RX12 cX12_swingsOf 4 2 46) (E : XE x z) (hr : XR x (some .int)) (hZ : z.2.2.2.1 = kdM) (N : Nat) (rc4 : Int32 → Int32 → Int32 → Mem → Option (Int32 × Mem)) (hc4 : ∀ (v1 : Int32) (v2 : Int32) (v3 : Int32) (σ : Mem), VK x z 4 (BQ QI x z) 4 [(0, .ref (z.2.2.1 0)), (1, .int v1), (2, .int v2), (3, .int v3)] [] σ (rc4 v1 v2 v3 σ)) (v1 : Int32) (v3 : Int32) (t0 : Int32) (t1 : Int32) (σ : Mem) : VK x z 4 (BQ QI x z) 48 [(0, .ref (z.2.2.1 0)), (1, .int v1), (3, .int v3)] [.int t0, .int t1] σ (fX12_swingsOf_b48 N rc4 v1 v3 t0 t1 σ) := by
  unfold fX12_swingsOf_b48
  refine V_iadd X dX12_swingsOf_48 ?_
  refine V_istore_nG (L' := fun v2_9 => [(2, .int v2_9), (0, .ref (z.2.2.1 0)), (1, .int v1), (3, .int v3)]) X dX12_swingsOf_49 rfl (by decide) (fun _ => rfl) (fun v2_9 => ?_)
  refine V_iincG (L' := fun v3_10 => [(3, .int v3_10), (2, .int v2_9), (0, .ref (z.2.2.1 0)), (1, .int v1)]) 3 X dX12_swingsOf_50 rfl rfl (by decide) (fun _ => rfl) (fun v3_10 => ?_)
  refine V_goto (tgt := 4) X dX12_swingsOf_53 (by decide) ?_
  refine V_sub [2, 3, 1, 0] rfl ?_
  exact hc4 v1 v2_9 v3_10 σ
def fX12_swingsOf_b47 (N : Nat) (rc4 : Int32 → Int32 → Int32 → Mem → Option (Int32 × Mem)) (v1 : Int32) (v3 : Int32) (t0 : Int32) (σ : Mem) : Option (Int32 × Mem) :=
  fX12_swingsOf_b48 N rc4 v1 v3 0 t0 σ
set_option maxRecDepth 100000 in
set_option maxHeartbeats 4000000 in
theorem bX12_swingsOf_47 {x : Cx} {z : Sx} (X : XG x z RX12 cX12_swingsOf 4 2 46) (E : XE x z) (hr : XR x (some .int)) (hZ : z.2.2.2.1 = kdM) (N : Nat) (rc4 : Int32 → Int32 → Int32 → Mem → Option (Int32 × Mem)) (hc4 : ∀ (v1 : Int32) (v2 : Int32) (v3 : Int32) (σ : Mem), VK x z 4 (BQ QI x z) 4 [(0, .ref (z.2.2.1 0)), (1, .int v1), (2, .int v2), (3, .int v3)] [] σ (rc4 v1 v2 v3 σ)) (v1 : Int32) (v3 : Int32) (t0 : Int32) (σ : Mem) : VK x z 4 (BQ QI x z) 47 [(0, .ref (z.2.2.1 0)), (1, .int v1), (3, .int v3)] [.int t0] σ (fX12_swingsOf_b47 N rc4 v1 v3 t0 σ) := by
  unfold fX12_swingsOf_b47
  refine V_iconst (v := 0) X dX12_swingsOf_47 (by decide) ?_
  refine V_sub [0, 1, 2] rfl ?_
  exact bX12_swingsOf_48 X E hr hZ N rc4 hc4 v1 v3 0 t0 σ
def fX12_swingsOf_b4 (N : Nat) (rc4 : Int32 → Int32 → Int32 → Mem → Option (Int32 × Mem)) (v1 : Int32) (v2 : Int32) (v3 : Int32) (σ : Mem) : Option (Int32 × Mem) :=
  if (1 <<< ((σ.1 0 12) &&& 31)) ≤ v3 then some (v2, σ) else bd (fX12_holds N v3 v1 σ) (fun r3 s4 => if r3 = 0 then bd (fX12_wins N v3 s4) (fun r5 s6 => if r5 = 0 then bd (fX12_wins N (v3 ||| (1 <<< (v1 &&& 31))) s6) (fun r7 s8 => if r7 = 0 then fX12_swingsOf_b47 N rc4 v1 v3 v2 s8 else fX12_swingsOf_b48 N rc4 v1 v3 1 v2 s8) else fX12_swingsOf_b47 N rc4 v1 v3 v2 s6) else fX12_swingsOf_b47 N rc4 v1 v3 v2 s4)
set_option maxRecDepth 100000 in
set_option maxHeartbeats 4000000 in
theorem bX12_swingsOf_4 {x : Cx} {z : Sx} (X : XG x z RX12 cX12_swingsOf 4 2 46) (E : XE x z) (hr : XR x (some .int)) (hZ : z.2.2.2.1 = kdM) (N : Nat) (rc4 : Int32 → Int32 → Int32 → Mem → Option (Int32 × Mem)) (hc4 : ∀ (v1 : Int32) (v2 : Int32) (v3 : Int32) (σ : Mem), VK x z 4 (BQ QI x z) 4 [(0, .ref (z.2.2.1 0)), (1, .int v1), (2, .int v2), (3, .int v3)] [] σ (rc4 v1 v2 v3 σ)) (v1 : Int32) (v2 : Int32) (v3 : Int32) (σ : Mem) : VK x z 4 (BQ QI x z) 4 [(0, .ref (z.2.2.1 0)), (1, .int v1), (2, .int v2), (3, .int v3)] [] σ (fX12_swingsOf_b4 N rc4 v1 v2 v3 σ) := by
  unfold fX12_swingsOf_b4
  refine V_iload_n 3 X dX12_swingsOf_4 rfl rfl ?_
  refine V_iconst (v := 1) X dX12_swingsOf_5 (by decide) ?_
  refine V_aload_n 0 X dX12_swingsOf_6 rfl rfl ?_
  refine V_getI 12 X dX12_swingsOf_7 co12 (kM hZ 0 _ rfl) (by decide) rfl wfX12_159 ?_
  refine V_ishl X dX12_swingsOf_10 ?_
  refine V_icmp_ge (tgt := 56) X dX12_swingsOf_11 (by decide) ?_ ?_
  · refine V_iload_n 2 X dX12_swingsOf_56 rfl rfl ?_
    exact V_iret X E hr dX12_swingsOf_57
  · refine V_iload_n 2 X dX12_swingsOf_14 rfl rfl ?_
    refine V_iload_n 3 X dX12_swingsOf_15 rfl rfl ?_
    refine V_iload_n 1 X dX12_swingsOf_16 rfl rfl ?_
    refine V_calSI [.int v3, .int v1] [.int v2] X E dX12_swingsOf_17 (kX12_holds x.2.1 z hZ N v3 v1 σ) gcX12_192 hyX12_holds rfl ⟨by decide, by decide⟩ rfl (Nat.le_of_ble_eq_true rfl) (fun r3 s4 => ?_)
    refine V_if_ne (tgt := 47) X dX12_swingsOf_20 (by decide) ?_ ?_
    · refine V_sub [0, 1, 3] rfl ?_
      exact bX12_swingsOf_47 X E hr hZ N rc4 hc4 v1 v3 v2 s4
    · refine V_aload_n 0 X dX12_swingsOf_23 rfl rfl ?_
      refine V_iload_n 3 X dX12_swingsOf_24 rfl rfl ?_
      refine V_callI [.int v3] [.int v2] X E dX12_swingsOf_25 (kX12_wins x.2.1 z hZ N v3 s4) co12 (kM hZ 0 _ rfl) gcX12_323 hyX12_wins rfl ⟨by decide, by decide⟩ rfl (Nat.le_of_ble_eq_true rfl) (fun r5 s6 => ?_)
      refine V_if_ne (tgt := 47) X dX12_swingsOf_28 (by decide) ?_ ?_
      · refine V_sub [0, 1, 3] rfl ?_
        exact bX12_swingsOf_47 X E hr hZ N rc4 hc4 v1 v3 v2 s6
      · refine V_aload_n 0 X dX12_swingsOf_31 rfl rfl ?_
        refine V_iload_n 3 X dX12_swingsOf_32 rfl rfl ?_
        refine V_iconst (v := 1) X dX12_swingsOf_33 (by decide) ?_
        refine V_iload_n 1 X dX12_swingsOf_34 rfl rfl ?_
        refine V_ishl X dX12_swingsOf_35 ?_
        refine V_ior X dX12_swingsOf_36 ?_
        refine V_callI [.int (v3 ||| (1 <<< (v1 &&& 31)))] [.int v2] X E dX12_swingsOf_37 (kX12_wins x.2.1 z hZ N (v3 ||| (1 <<< (v1 &&& 31))) s6) co12 (kM hZ 0 _ rfl) gcX12_323 hyX12_wins rfl ⟨by decide, by decide⟩ rfl (Nat.le_of_ble_eq_true rfl) (fun r7 s8 => ?_)
        refine V_if_eq (tgt := 47) X dX12_swingsOf_40 (by decide) ?_ ?_
        · refine V_sub [0, 1, 3] rfl ?_
          exact bX12_swingsOf_47 X E hr hZ N rc4 hc4 v1 v3 v2 s8
        · refine V_iconst (v := 1) X dX12_swingsOf_43 (by decide) ?_
          refine V_goto (tgt := 48) X dX12_swingsOf_44 (by decide) ?_
          refine V_sub [0, 1, 3] rfl ?_
          exact bX12_swingsOf_48 X E hr hZ N rc4 hc4 v1 v3 1 v2 s8
def fX12_swingsOf_l4 (N : Nat) : Nat → Int32 → Int32 → Int32 → Mem → Option (Int32 × Mem)
  | 0 => fun _ _ _ _ => none
  | n + 1 => fX12_swingsOf_b4 N (fX12_swingsOf_l4 N n)
theorem lX12_swingsOf_4 {x : Cx} {z : Sx} (X : XG x z RX12 cX12_swingsOf 4 2 46) (E : XE x z) (hr : XR x (some .int)) (hZ : z.2.2.2.1 = kdM) (N : Nat) (n : Nat) (v1 : Int32) (v2 : Int32) (v3 : Int32) (σ : Mem) : VK x z 4 (BQ QI x z) 4 [(0, .ref (z.2.2.1 0)), (1, .int v1), (2, .int v2), (3, .int v3)] [] σ (fX12_swingsOf_l4 N n v1 v2 v3 σ) := by
  induction n generalizing v1 v2 v3 σ with
  | zero => exact V_none
  | succ n ih => exact bX12_swingsOf_4 X E hr hZ N (fX12_swingsOf_l4 N n) ih v1 v2 v3 σ
def fX12_swingsOf (N : Nat) (v1 : Int32) (σ : Mem) : Option (Int32 × Mem) :=
  lt_ 0 (fun v2_1 => lt_ 0 (fun v3_2 => fX12_swingsOf_l4 N N v1 v2_1 v3_2 σ))
set_option maxRecDepth 100000 in
set_option maxHeartbeats 4000000 in
theorem bX12_swingsOf_0 {x : Cx} {z : Sx} (X : XG x z RX12 cX12_swingsOf 4 2 46) (E : XE x z) (hr : XR x (some .int)) (hZ : z.2.2.2.1 = kdM) (N : Nat) (v1 : Int32) (σ : Mem) : VK x z 4 (BQ QI x z) 0 [(0, .ref (z.2.2.1 0)), (1, .int v1)] [] σ (fX12_swingsOf N v1 σ) := by
  unfold fX12_swingsOf
  refine V_iconst (v := 0) X dX12_swingsOf_0 (by decide) ?_
  refine V_istore_nG (L' := fun v2_1 => [(2, .int v2_1), (0, .ref (z.2.2.1 0)), (1, .int v1)]) X dX12_swingsOf_1 rfl (by decide) (fun _ => rfl) (fun v2_1 => ?_)
  refine V_iconst (v := 0) X dX12_swingsOf_2 (by decide) ?_
  refine V_istore_nG (L' := fun v3_2 => [(3, .int v3_2), (2, .int v2_1), (0, .ref (z.2.2.1 0)), (1, .int v1)]) X dX12_swingsOf_3 rfl (by decide) (fun _ => rfl) (fun v3_2 => ?_)
  refine V_sub [2, 3, 1, 0] rfl ?_
  exact lX12_swingsOf_4 X E hr hZ N N v1 v2_1 v3_2 σ
theorem kX12_swingsOf (l : Launch) (z : Sx) (hZ : z.2.2.2.1 = kdM) (N : Nat) (v1 : Int32) (σ : Mem) : Ct QI yX12_swingsOf cX12_swingsOf 4 (some .int) 2 46 l z [.ref (z.2.2.1 0), .int v1] σ (fX12_swingsOf N v1 σ) := by
  refine Ct_of (by decide +kernel) (Nat.le_of_ble_eq_true rfl) rfl ?_
  intro x _ X E hr
  exact bX12_swingsOf_0 X E hr hZ N v1 σ
def fX12_vetoes_b44 (N : Nat) (rc22 : Int32 → Int32 → Mem → Option (Int32 × Mem)) (v1 : Int32) (v2 : Int32) (σ : Mem) : Option (Int32 × Mem) :=
  lt_ (v2 + 1) (fun v2_6 => rc22 v1 v2_6 σ)
set_option maxRecDepth 100000 in
set_option maxHeartbeats 4000000 in
theorem bX12_vetoes_44 {x : Cx} {z : Sx} (X : XG x z RX12 cX12_vetoes 3 2 46) (E : XE x z) (hr : XR x (some .int)) (hZ : z.2.2.2.1 = kdM) (N : Nat) (rc22 : Int32 → Int32 → Mem → Option (Int32 × Mem)) (hc22 : ∀ (v1 : Int32) (v2 : Int32) (σ : Mem), VK x z 3 (BQ QI x z) 22 [(0, .ref (z.2.2.1 0)), (1, .int v1), (2, .int v2)] [] σ (rc22 v1 v2 σ)) (v1 : Int32) (v2 : Int32) (σ : Mem) : VK x z 3 (BQ QI x z) 44 [(0, .ref (z.2.2.1 0)), (1, .int v1), (2, .int v2)] [] σ (fX12_vetoes_b44 N rc22 v1 v2 σ) := by
  unfold fX12_vetoes_b44
  refine V_iincG (L' := fun v2_6 => [(2, .int v2_6), (0, .ref (z.2.2.1 0)), (1, .int v1)]) 2 X dX12_vetoes_44 rfl rfl (by decide) (fun _ => rfl) (fun v2_6 => ?_)
  refine V_goto (tgt := 22) X dX12_vetoes_47 (by decide) ?_
  refine V_sub [1, 2, 0] rfl ?_
  exact hc22 v1 v2_6 σ
def fX12_vetoes_b22 (N : Nat) (rc22 : Int32 → Int32 → Mem → Option (Int32 × Mem)) (v1 : Int32) (v2 : Int32) (σ : Mem) : Option (Int32 × Mem) :=
  if (1 <<< ((σ.1 0 12) &&& 31)) ≤ v2 then some (v1, σ) else bd (fX12_wins N v2 σ) (fun r3 s4 => if r3 = 0 then fX12_vetoes_b44 N rc22 v1 v2 s4 else lt_ (v1 &&& v2) (fun v1_5 => fX12_vetoes_b44 N rc22 v1_5 v2 s4))
set_option maxRecDepth 100000 in
set_option maxHeartbeats 4000000 in
theorem bX12_vetoes_22 {x : Cx} {z : Sx} (X : XG x z RX12 cX12_vetoes 3 2 46) (E : XE x z) (hr : XR x (some .int)) (hZ : z.2.2.2.1 = kdM) (N : Nat) (rc22 : Int32 → Int32 → Mem → Option (Int32 × Mem)) (hc22 : ∀ (v1 : Int32) (v2 : Int32) (σ : Mem), VK x z 3 (BQ QI x z) 22 [(0, .ref (z.2.2.1 0)), (1, .int v1), (2, .int v2)] [] σ (rc22 v1 v2 σ)) (v1 : Int32) (v2 : Int32) (σ : Mem) : VK x z 3 (BQ QI x z) 22 [(0, .ref (z.2.2.1 0)), (1, .int v1), (2, .int v2)] [] σ (fX12_vetoes_b22 N rc22 v1 v2 σ) := by
  unfold fX12_vetoes_b22
  refine V_iload_n 2 X dX12_vetoes_22 rfl rfl ?_
  refine V_iconst (v := 1) X dX12_vetoes_23 (by decide) ?_
  refine V_aload_n 0 X dX12_vetoes_24 rfl rfl ?_
  refine V_getI 12 X dX12_vetoes_25 co12 (kM hZ 0 _ rfl) (by decide) rfl wfX12_159 ?_
  refine V_ishl X dX12_vetoes_28 ?_
  refine V_icmp_ge (tgt := 50) X dX12_vetoes_29 (by decide) ?_ ?_
  · refine V_iload_n 1 X dX12_vetoes_50 rfl rfl ?_
    exact V_iret X E hr dX12_vetoes_51
  · refine V_aload_n 0 X dX12_vetoes_32 rfl rfl ?_
    refine V_iload_n 2 X dX12_vetoes_33 rfl rfl ?_
    refine V_callI [.int v2] [] X E dX12_vetoes_34 (kX12_wins x.2.1 z hZ N v2 σ) co12 (kM hZ 0 _ rfl) gcX12_323 hyX12_wins rfl ⟨by decide, by decide⟩ rfl (Nat.le_of_ble_eq_true rfl) (fun r3 s4 => ?_)
    refine V_if_eq (tgt := 44) X dX12_vetoes_37 (by decide) ?_ ?_
    · refine V_sub [0, 1, 2] rfl ?_
      exact bX12_vetoes_44 X E hr hZ N rc22 hc22 v1 v2 s4
    · refine V_iload_n 1 X dX12_vetoes_40 rfl rfl ?_
      refine V_iload_n 2 X dX12_vetoes_41 rfl rfl ?_
      refine V_iand X dX12_vetoes_42 ?_
      refine V_istore_nG (L' := fun v1_5 => [(1, .int v1_5), (0, .ref (z.2.2.1 0)), (2, .int v2)]) X dX12_vetoes_43 rfl (by decide) (fun _ => rfl) (fun v1_5 => ?_)
      refine V_sub [1, 0, 2] rfl ?_
      exact bX12_vetoes_44 X E hr hZ N rc22 hc22 v1_5 v2 s4
def fX12_vetoes_l22 (N : Nat) : Nat → Int32 → Int32 → Mem → Option (Int32 × Mem)
  | 0 => fun _ _ _ => none
  | n + 1 => fX12_vetoes_b22 N (fX12_vetoes_l22 N n)
theorem lX12_vetoes_22 {x : Cx} {z : Sx} (X : XG x z RX12 cX12_vetoes 3 2 46) (E : XE x z) (hr : XR x (some .int)) (hZ : z.2.2.2.1 = kdM) (N : Nat) (n : Nat) (v1 : Int32) (v2 : Int32) (σ : Mem) : VK x z 3 (BQ QI x z) 22 [(0, .ref (z.2.2.1 0)), (1, .int v1), (2, .int v2)] [] σ (fX12_vetoes_l22 N n v1 v2 σ) := by
  induction n generalizing v1 v2 σ with
  | zero => exact V_none
  | succ n ih => exact bX12_vetoes_22 X E hr hZ N (fX12_vetoes_l22 N n) ih v1 v2 σ
def fX12_vetoes_b19 (N : Nat) (t0 : Int32) (σ : Mem) : Option (Int32 × Mem) :=
  lt_ t0 (fun v1_1 => lt_ 0 (fun v2_2 => fX12_vetoes_l22 N N v1_1 v2_2 σ))
set_option maxRecDepth 100000 in
set_option maxHeartbeats 4000000 in
theorem bX12_vetoes_19 {x : Cx} {z : Sx} (X : XG x z RX12 cX12_vetoes 3 2 46) (E : XE x z) (hr : XR x (some .int)) (hZ : z.2.2.2.1 = kdM) (N : Nat) (t0 : Int32) (σ : Mem) : VK x z 3 (BQ QI x z) 19 [(0, .ref (z.2.2.1 0))] [.int t0] σ (fX12_vetoes_b19 N t0 σ) := by
  unfold fX12_vetoes_b19
  refine V_istore_nG (L' := fun v1_1 => [(1, .int v1_1), (0, .ref (z.2.2.1 0))]) X dX12_vetoes_19 rfl (by decide) (fun _ => rfl) (fun v1_1 => ?_)
  refine V_iconst (v := 0) X dX12_vetoes_20 (by decide) ?_
  refine V_istore_nG (L' := fun v2_2 => [(2, .int v2_2), (1, .int v1_1), (0, .ref (z.2.2.1 0))]) X dX12_vetoes_21 rfl (by decide) (fun _ => rfl) (fun v2_2 => ?_)
  refine V_sub [2, 1, 0] rfl ?_
  exact lX12_vetoes_22 X E hr hZ N N v1_1 v2_2 σ
def fX12_vetoes (N : Nat) (σ : Mem) : Option (Int32 × Mem) :=
  if (σ.1 0 12) = 0 then fX12_vetoes_b19 N 0 σ else fX12_vetoes_b19 N ((1 <<< ((σ.1 0 12) &&& 31)) - 1) σ
set_option maxRecDepth 100000 in
set_option maxHeartbeats 4000000 in
theorem bX12_vetoes_0 {x : Cx} {z : Sx} (X : XG x z RX12 cX12_vetoes 3 2 46) (E : XE x z) (hr : XR x (some .int)) (hZ : z.2.2.2.1 = kdM) (N : Nat) (σ : Mem) : VK x z 3 (BQ QI x z) 0 [(0, .ref (z.2.2.1 0))] [] σ (fX12_vetoes N σ) := by
  unfold fX12_vetoes
  refine V_aload_n 0 X dX12_vetoes_0 rfl rfl ?_
  refine V_getI 12 X dX12_vetoes_1 co12 (kM hZ 0 _ rfl) (by decide) rfl wfX12_159 ?_
  refine V_if_ne (tgt := 11) X dX12_vetoes_4 (by decide) ?_ ?_
  · refine V_iconst (v := 1) X dX12_vetoes_11 (by decide) ?_
    refine V_aload_n 0 X dX12_vetoes_12 rfl rfl ?_
    refine V_getI 12 X dX12_vetoes_13 co12 (kM hZ 0 _ rfl) (by decide) rfl wfX12_159 ?_
    refine V_ishl X dX12_vetoes_16 ?_
    refine V_iconst (v := 1) X dX12_vetoes_17 (by decide) ?_
    refine V_isub X dX12_vetoes_18 ?_
    refine V_sub [0] rfl ?_
    exact bX12_vetoes_19 X E hr hZ N ((1 <<< ((σ.1 0 12) &&& 31)) - 1) σ
  · refine V_iconst (v := 0) X dX12_vetoes_7 (by decide) ?_
    refine V_goto (tgt := 19) X dX12_vetoes_8 (by decide) ?_
    refine V_sub [0] rfl ?_
    exact bX12_vetoes_19 X E hr hZ N 0 σ
theorem kX12_vetoes (l : Launch) (z : Sx) (hZ : z.2.2.2.1 = kdM) (N : Nat) (σ : Mem) : Ct QI yX12_vetoes cX12_vetoes 3 (some .int) 2 46 l z [.ref (z.2.2.1 0)] σ (fX12_vetoes N σ) := by
  refine Ct_of (by decide +kernel) (Nat.le_of_ble_eq_true rfl) rfl ?_
  intro x _ X E hr
  exact bX12_vetoes_0 X E hr hZ N σ
def fX12_alike_b53 (N : Nat) (rc4 : Int32 → Int32 → Mem → Option (Int32 × Mem)) (rc14 : Int32 → Int32 → Int32 → Mem → Option (Int32 × Mem)) (v2 : Int32) (v3 : Int32) (t0 : Int32) (t1 : Int32) (σ : Mem) : Option (Int32 × Mem) :=
  lt_ (t1 + t0) (fun v1_13 => lt_ (v3 + 1) (fun v3_14 => rc14 v1_13 v2 v3_14 σ))
set_option maxRecDepth 100000 in
set_option maxHeartbeats 4000000 in
theorem bX12_alike_53 {x : Cx} {z : Sx} (X : XG x z RX12 cX12_alike 4 3 69) (E : XE x z) (hr : XR x (some .int)) (hZ : z.2.2.2.1 = kdM) (N : Nat) (rc4 : Int32 → Int32 → Mem → Option (Int32 × Mem)) (hc4 : ∀ (v1 : Int32) (v2 : Int32) (σ : Mem), VK x z 4 (BQ QI x z) 4 [(0, .ref (z.2.2.1 0)), (1, .int v1), (2, .int v2)] [] σ (rc4 v1 v2 σ)) (rc14 : Int32 → Int32 → Int32 → Mem → Option (Int32 × Mem)) (hc14 : ∀ (v1 : Int32) (v2 : Int32) (v3 : Int32) (σ : Mem), VK x z 4 (BQ QI x z) 14 [(0, .ref (z.2.2.1 0)), (1, .int v1), (2, .int v2), (3, .int v3)] [] σ (rc14 v1 v2 v3 σ)) (v2 : Int32) (v3 : Int32) (t0 : Int32) (t1 : Int32) (σ : Mem) : VK x z 4 (BQ QI x z) 53 [(0, .ref (z.2.2.1 0)), (2, .int v2), (3, .int v3)] [.int t0, .int t1] σ (fX12_alike_b53 N rc4 rc14 v2 v3 t0 t1 σ) := by
  unfold fX12_alike_b53
  refine V_iadd X dX12_alike_53 ?_
  refine V_istore_nG (L' := fun v1_13 => [(1, .int v1_13), (0, .ref (z.2.2.1 0)), (2, .int v2), (3, .int v3)]) X dX12_alike_54 rfl (by decide) (fun _ => rfl) (fun v1_13 => ?_)
  refine V_iincG (L' := fun v3_14 => [(3, .int v3_14), (1, .int v1_13), (0, .ref (z.2.2.1 0)), (2, .int v2)]) 3 X dX12_alike_55 rfl rfl (by decide) (fun _ => rfl) (fun v3_14 => ?_)
  refine V_goto (tgt := 14) X dX12_alike_58 (by decide) ?_
  refine V_sub [2, 1, 3, 0] rfl ?_
  exact hc14 v1_13 v2 v3_14 σ
def fX12_alike_b52 (N : Nat) (rc4 : Int32 → Int32 → Mem → Option (Int32 × Mem)) (rc14 : Int32 → Int32 → Int32 → Mem → Option (Int32 × Mem)) (v2 : Int32) (v3 : Int32) (t0 : Int32) (σ : Mem) : Option (Int32 × Mem) :=
  fX12_alike_b53 N rc4 rc14 v2 v3 0 t0 σ
set_option maxRecDepth 100000 in
set_option maxHeartbeats 4000000 in
theorem bX12_alike_52 {x : Cx} {z : Sx} (X : XG x z RX12 cX12_alike 4 3 69) (E : XE x z) (hr : XR x (some .int)) (hZ : z.2.2.2.1 = kdM) (N : Nat) (rc4 : Int32 → Int32 → Mem → Option (Int32 × Mem)) (hc4 : ∀ (v1 : Int32) (v2 : Int32) (σ : Mem), VK x z 4 (BQ QI x z) 4 [(0, .ref (z.2.2.1 0)), (1, .int v1), (2, .int v2)] [] σ (rc4 v1 v2 σ)) (rc14 : Int32 → Int32 → Int32 → Mem → Option (Int32 × Mem)) (hc14 : ∀ (v1 : Int32) (v2 : Int32) (v3 : Int32) (σ : Mem), VK x z 4 (BQ QI x z) 14 [(0, .ref (z.2.2.1 0)), (1, .int v1), (2, .int v2), (3, .int v3)] [] σ (rc14 v1 v2 v3 σ)) (v2 : Int32) (v3 : Int32) (t0 : Int32) (σ : Mem) : VK x z 4 (BQ QI x z) 52 [(0, .ref (z.2.2.1 0)), (2, .int v2), (3, .int v3)] [.int t0] σ (fX12_alike_b52 N rc4 rc14 v2 v3 t0 σ) := by
  unfold fX12_alike_b52
  refine V_iconst (v := 0) X dX12_alike_52 (by decide) ?_
  refine V_sub [0, 1, 2] rfl ?_
  exact bX12_alike_53 X E hr hZ N rc4 hc4 rc14 hc14 v2 v3 0 t0 σ
def fX12_alike_b14 (N : Nat) (rc4 : Int32 → Int32 → Mem → Option (Int32 × Mem)) (rc14 : Int32 → Int32 → Int32 → Mem → Option (Int32 × Mem)) (v1 : Int32) (v2 : Int32) (v3 : Int32) (σ : Mem) : Option (Int32 × Mem) :=
  if v2 ≤ v3 then lt_ (v2 + 1) (fun v2_4 => rc4 v1 v2_4 σ) else bd (fX12_of N v2 5 σ) (fun r5 s6 => bd (fX12_of N v3 5 s6) (fun r7 s8 => if r5 = r7 then fX12_alike_b52 N rc4 rc14 v2 v3 v1 s8 else bd (fX12_swingsOf N v2 s8) (fun r9 s10 => bd (fX12_swingsOf N v3 s10) (fun r11 s12 => if r9 = r11 then fX12_alike_b53 N rc4 rc14 v2 v3 1 v1 s12 else fX12_alike_b52 N rc4 rc14 v2 v3 v1 s12))))
set_option maxRecDepth 100000 in
set_option maxHeartbeats 4000000 in
theorem bX12_alike_14 {x : Cx} {z : Sx} (X : XG x z RX12 cX12_alike 4 3 69) (E : XE x z) (hr : XR x (some .int)) (hZ : z.2.2.2.1 = kdM) (N : Nat) (rc4 : Int32 → Int32 → Mem → Option (Int32 × Mem)) (hc4 : ∀ (v1 : Int32) (v2 : Int32) (σ : Mem), VK x z 4 (BQ QI x z) 4 [(0, .ref (z.2.2.1 0)), (1, .int v1), (2, .int v2)] [] σ (rc4 v1 v2 σ)) (rc14 : Int32 → Int32 → Int32 → Mem → Option (Int32 × Mem)) (hc14 : ∀ (v1 : Int32) (v2 : Int32) (v3 : Int32) (σ : Mem), VK x z 4 (BQ QI x z) 14 [(0, .ref (z.2.2.1 0)), (1, .int v1), (2, .int v2), (3, .int v3)] [] σ (rc14 v1 v2 v3 σ)) (v1 : Int32) (v2 : Int32) (v3 : Int32) (σ : Mem) : VK x z 4 (BQ QI x z) 14 [(0, .ref (z.2.2.1 0)), (1, .int v1), (2, .int v2), (3, .int v3)] [] σ (fX12_alike_b14 N rc4 rc14 v1 v2 v3 σ) := by
  unfold fX12_alike_b14
  refine V_iload_n 3 X dX12_alike_14 rfl rfl ?_
  refine V_iload_n 2 X dX12_alike_15 rfl rfl ?_
  refine V_icmp_ge (tgt := 61) X dX12_alike_16 (by decide) ?_ ?_
  · refine V_iincG (L' := fun v2_4 => [(2, .int v2_4), (0, .ref (z.2.2.1 0)), (1, .int v1), (3, .int v3)]) 2 X dX12_alike_61 rfl rfl (by decide) (fun _ => rfl) (fun v2_4 => ?_)
    refine V_goto (tgt := 4) X dX12_alike_64 (by decide) ?_
    refine V_sub [1, 2, 0] rfl ?_
    exact hc4 v1 v2_4 σ
  · refine V_iload_n 1 X dX12_alike_19 rfl rfl ?_
    refine V_aload_n 0 X dX12_alike_20 rfl rfl ?_
    refine V_iload_n 2 X dX12_alike_21 rfl rfl ?_
    refine V_iconst (v := 5) X dX12_alike_22 (by decide) ?_
    refine V_callI [.int v2, .int 5] [.int v1] X E dX12_alike_23 (kX12_of x.2.1 z hZ N v2 5 σ) co12 (kM hZ 0 _ rfl) gcX12_171 hyX12_of rfl ⟨by decide, by decide⟩ rfl (Nat.le_of_ble_eq_true rfl) (fun r5 s6 => ?_)
    refine V_aload_n 0 X dX12_alike_26 rfl rfl ?_
    refine V_iload_n 3 X dX12_alike_27 rfl rfl ?_
    refine V_iconst (v := 5) X dX12_alike_28 (by decide) ?_
    refine V_callI [.int v3, .int 5] [.int r5, .int v1] X E dX12_alike_29 (kX12_of x.2.1 z hZ N v3 5 s6) co12 (kM hZ 0 _ rfl) gcX12_171 hyX12_of rfl ⟨by decide, by decide⟩ rfl (Nat.le_of_ble_eq_true rfl) (fun r7 s8 => ?_)
    refine V_icmp_eq (tgt := 52) X dX12_alike_32 (by decide) ?_ ?_
    · refine V_sub [0, 2, 3] rfl ?_
      exact bX12_alike_52 X E hr hZ N rc4 hc4 rc14 hc14 v2 v3 v1 s8
    · refine V_aload_n 0 X dX12_alike_35 rfl rfl ?_
      refine V_iload_n 2 X dX12_alike_36 rfl rfl ?_
      refine V_callI [.int v2] [.int v1] X E dX12_alike_37 (kX12_swingsOf x.2.1 z hZ N v2 s8) co12 (kM hZ 0 _ rfl) gcX12_326 hyX12_swingsOf rfl ⟨by decide, by decide⟩ rfl (Nat.le_of_ble_eq_true rfl) (fun r9 s10 => ?_)
      refine V_aload_n 0 X dX12_alike_40 rfl rfl ?_
      refine V_iload_n 3 X dX12_alike_41 rfl rfl ?_
      refine V_callI [.int v3] [.int r9, .int v1] X E dX12_alike_42 (kX12_swingsOf x.2.1 z hZ N v3 s10) co12 (kM hZ 0 _ rfl) gcX12_326 hyX12_swingsOf rfl ⟨by decide, by decide⟩ rfl (Nat.le_of_ble_eq_true rfl) (fun r11 s12 => ?_)
      refine V_icmp_ne (tgt := 52) X dX12_alike_45 (by decide) ?_ ?_
      · refine V_sub [0, 2, 3] rfl ?_
        exact bX12_alike_52 X E hr hZ N rc4 hc4 rc14 hc14 v2 v3 v1 s12
      · refine V_iconst (v := 1) X dX12_alike_48 (by decide) ?_
        refine V_goto (tgt := 53) X dX12_alike_49 (by decide) ?_
        refine V_sub [0, 2, 3] rfl ?_
        exact bX12_alike_53 X E hr hZ N rc4 hc4 rc14 hc14 v2 v3 1 v1 s12
def fX12_alike_l14 (N : Nat) (rc4 : Int32 → Int32 → Mem → Option (Int32 × Mem)) : Nat → Int32 → Int32 → Int32 → Mem → Option (Int32 × Mem)
  | 0 => fun _ _ _ _ => none
  | n + 1 => fX12_alike_b14 N rc4 (fX12_alike_l14 N rc4 n)
theorem lX12_alike_14 {x : Cx} {z : Sx} (X : XG x z RX12 cX12_alike 4 3 69) (E : XE x z) (hr : XR x (some .int)) (hZ : z.2.2.2.1 = kdM) (N : Nat) (rc4 : Int32 → Int32 → Mem → Option (Int32 × Mem)) (hc4 : ∀ (v1 : Int32) (v2 : Int32) (σ : Mem), VK x z 4 (BQ QI x z) 4 [(0, .ref (z.2.2.1 0)), (1, .int v1), (2, .int v2)] [] σ (rc4 v1 v2 σ)) (n : Nat) (v1 : Int32) (v2 : Int32) (v3 : Int32) (σ : Mem) : VK x z 4 (BQ QI x z) 14 [(0, .ref (z.2.2.1 0)), (1, .int v1), (2, .int v2), (3, .int v3)] [] σ (fX12_alike_l14 N rc4 n v1 v2 v3 σ) := by
  induction n generalizing v1 v2 v3 σ with
  | zero => exact V_none
  | succ n ih => exact bX12_alike_14 X E hr hZ N rc4 hc4 (fX12_alike_l14 N rc4 n) ih v1 v2 v3 σ
def fX12_alike_b4 (N : Nat) (rc4 : Int32 → Int32 → Mem → Option (Int32 × Mem)) (v1 : Int32) (v2 : Int32) (σ : Mem) : Option (Int32 × Mem) :=
  if (σ.1 0 12) ≤ v2 then some (v1, σ) else lt_ 0 (fun v3_3 => fX12_alike_l14 N rc4 N v1 v2 v3_3 σ)
set_option maxRecDepth 100000 in
set_option maxHeartbeats 4000000 in
theorem bX12_alike_4 {x : Cx} {z : Sx} (X : XG x z RX12 cX12_alike 4 3 69) (E : XE x z) (hr : XR x (some .int)) (hZ : z.2.2.2.1 = kdM) (N : Nat) (rc4 : Int32 → Int32 → Mem → Option (Int32 × Mem)) (hc4 : ∀ (v1 : Int32) (v2 : Int32) (σ : Mem), VK x z 4 (BQ QI x z) 4 [(0, .ref (z.2.2.1 0)), (1, .int v1), (2, .int v2)] [] σ (rc4 v1 v2 σ)) (v1 : Int32) (v2 : Int32) (σ : Mem) : VK x z 4 (BQ QI x z) 4 [(0, .ref (z.2.2.1 0)), (1, .int v1), (2, .int v2)] [] σ (fX12_alike_b4 N rc4 v1 v2 σ) := by
  unfold fX12_alike_b4
  refine V_iload_n 2 X dX12_alike_4 rfl rfl ?_
  refine V_aload_n 0 X dX12_alike_5 rfl rfl ?_
  refine V_getI 12 X dX12_alike_6 co12 (kM hZ 0 _ rfl) (by decide) rfl wfX12_159 ?_
  refine V_icmp_ge (tgt := 67) X dX12_alike_9 (by decide) ?_ ?_
  · refine V_iload_n 1 X dX12_alike_67 rfl rfl ?_
    exact V_iret X E hr dX12_alike_68
  · refine V_iconst (v := 0) X dX12_alike_12 (by decide) ?_
    refine V_istore_nG (L' := fun v3_3 => [(3, .int v3_3), (0, .ref (z.2.2.1 0)), (1, .int v1), (2, .int v2)]) X dX12_alike_13 rfl (by decide) (fun _ => rfl) (fun v3_3 => ?_)
    refine V_sub [1, 2, 3, 0] rfl ?_
    exact lX12_alike_14 X E hr hZ N rc4 hc4 N v1 v2 v3_3 σ
def fX12_alike_l4 (N : Nat) : Nat → Int32 → Int32 → Mem → Option (Int32 × Mem)
  | 0 => fun _ _ _ => none
  | n + 1 => fX12_alike_b4 N (fX12_alike_l4 N n)
theorem lX12_alike_4 {x : Cx} {z : Sx} (X : XG x z RX12 cX12_alike 4 3 69) (E : XE x z) (hr : XR x (some .int)) (hZ : z.2.2.2.1 = kdM) (N : Nat) (n : Nat) (v1 : Int32) (v2 : Int32) (σ : Mem) : VK x z 4 (BQ QI x z) 4 [(0, .ref (z.2.2.1 0)), (1, .int v1), (2, .int v2)] [] σ (fX12_alike_l4 N n v1 v2 σ) := by
  induction n generalizing v1 v2 σ with
  | zero => exact V_none
  | succ n ih => exact bX12_alike_4 X E hr hZ N (fX12_alike_l4 N n) ih v1 v2 σ
def fX12_alike (N : Nat) (σ : Mem) : Option (Int32 × Mem) :=
  lt_ 0 (fun v1_1 => lt_ 0 (fun v2_2 => fX12_alike_l4 N N v1_1 v2_2 σ))
set_option maxRecDepth 100000 in
set_option maxHeartbeats 4000000 in
theorem bX12_alike_0 {x : Cx} {z : Sx} (X : XG x z RX12 cX12_alike 4 3 69) (E : XE x z) (hr : XR x (some .int)) (hZ : z.2.2.2.1 = kdM) (N : Nat) (σ : Mem) : VK x z 4 (BQ QI x z) 0 [(0, .ref (z.2.2.1 0))] [] σ (fX12_alike N σ) := by
  unfold fX12_alike
  refine V_iconst (v := 0) X dX12_alike_0 (by decide) ?_
  refine V_istore_nG (L' := fun v1_1 => [(1, .int v1_1), (0, .ref (z.2.2.1 0))]) X dX12_alike_1 rfl (by decide) (fun _ => rfl) (fun v1_1 => ?_)
  refine V_iconst (v := 0) X dX12_alike_2 (by decide) ?_
  refine V_istore_nG (L' := fun v2_2 => [(2, .int v2_2), (1, .int v1_1), (0, .ref (z.2.2.1 0))]) X dX12_alike_3 rfl (by decide) (fun _ => rfl) (fun v2_2 => ?_)
  refine V_sub [2, 1, 0] rfl ?_
  exact lX12_alike_4 X E hr hZ N N v1_1 v2_2 σ
theorem kX12_alike (l : Launch) (z : Sx) (hZ : z.2.2.2.1 = kdM) (N : Nat) (σ : Mem) : Ct QI yX12_alike cX12_alike 4 (some .int) 3 69 l z [.ref (z.2.2.1 0)] σ (fX12_alike N σ) := by
  refine Ct_of (by decide +kernel) (Nat.le_of_ble_eq_true rfl) rfl ?_
  intro x _ X E hr
  exact bX12_alike_0 X E hr hZ N σ
def fX12_weigh_b96 (N : Nat) (rc68 : Int32 → Int32 → Int32 → Int32 → Mem → Option (Int32 × Mem)) (v2 : Int32) (v3 : Int32) (v5 : Int32) (t0 : Int32) (t1 : Int32) (σ : Mem) : Option (Int32 × Mem) :=
  lt_ (t1 ||| t0) (fun v4_23 => lt_ (v5 + 1) (fun v5_24 => rc68 v2 v3 v4_23 v5_24 σ))
set_option maxRecDepth 100000 in
set_option maxHeartbeats 4000000 in
theorem bX12_weigh_96 {x : Cx} {z : Sx} (X : XG x z RX12 cX12_weigh 6 4 92) (E : XE x z) (hr : XR x (some .int)) (hZ : z.2.2.2.1 = kdM) (N : Nat) (rc68 : Int32 → Int32 → Int32 → Int32 → Mem → Option (Int32 × Mem)) (hc68 : ∀ (v2 : Int32) (v3 : Int32) (v4 : Int32) (v5 : Int32) (σ : Mem), VK x z 6 (BQ QI x z) 68 [(0, .ref (z.2.2.1 0)), (2, .int v2), (3, .int v3), (4, .int v4), (5, .int v5)] [] σ (rc68 v2 v3 v4 v5 σ)) (v2 : Int32) (v3 : Int32) (v5 : Int32) (t0 : Int32) (t1 : Int32) (σ : Mem) : VK x z 6 (BQ QI x z) 96 [(0, .ref (z.2.2.1 0)), (2, .int v2), (3, .int v3), (5, .int v5)] [.int t0, .int t1] σ (fX12_weigh_b96 N rc68 v2 v3 v5 t0 t1 σ) := by
  unfold fX12_weigh_b96
  refine V_ior X dX12_weigh_96 ?_
  refine V_istoreG (L' := fun v4_23 => [(4, .int v4_23), (0, .ref (z.2.2.1 0)), (2, .int v2), (3, .int v3), (5, .int v5)]) X dX12_weigh_97 (by decide) (fun _ => rfl) (fun v4_23 => ?_)
  refine V_iincG (L' := fun v5_24 => [(5, .int v5_24), (4, .int v4_23), (0, .ref (z.2.2.1 0)), (2, .int v2), (3, .int v3)]) 4 X dX12_weigh_99 rfl rfl (by decide) (fun _ => rfl) (fun v5_24 => ?_)
  refine V_goto (tgt := 68) X dX12_weigh_102 (by decide) ?_
  refine V_sub [2, 3, 4, 1, 0] rfl ?_
  exact hc68 v2 v3 v4_23 v5_24 σ
def fX12_weigh_b68 (N : Nat) (rc68 : Int32 → Int32 → Int32 → Int32 → Mem → Option (Int32 × Mem)) (v2 : Int32) (v3 : Int32) (v4 : Int32) (v5 : Int32) (σ : Mem) : Option (Int32 × Mem) :=
  if (σ.1 0 12) ≤ v5 then if v2 = 0 then some (v3, σ) else if v2 = 1 then bd (fX12_apart N v3 σ) (fun r13 s14 => some (r13, s14)) else if v2 = 2 then bd (fX12_vetoes N σ) (fun r15 s16 => some (r15, s16)) else if v2 = 3 then some (v4, σ) else bd (fX12_alike N σ) (fun r17 s18 => some (r17, s18)) else bd (fX12_swingsOf N v5 σ) (fun r19 s20 => if r19 = 0 then fX12_weigh_b96 N rc68 v2 v3 v5 (1 <<< (v5 &&& 31)) v4 s20 else fX12_weigh_b96 N rc68 v2 v3 v5 0 v4 s20)
set_option maxRecDepth 100000 in
set_option maxHeartbeats 4000000 in
theorem bX12_weigh_68 {x : Cx} {z : Sx} (X : XG x z RX12 cX12_weigh 6 4 92) (E : XE x z) (hr : XR x (some .int)) (hZ : z.2.2.2.1 = kdM) (N : Nat) (rc68 : Int32 → Int32 → Int32 → Int32 → Mem → Option (Int32 × Mem)) (hc68 : ∀ (v2 : Int32) (v3 : Int32) (v4 : Int32) (v5 : Int32) (σ : Mem), VK x z 6 (BQ QI x z) 68 [(0, .ref (z.2.2.1 0)), (2, .int v2), (3, .int v3), (4, .int v4), (5, .int v5)] [] σ (rc68 v2 v3 v4 v5 σ)) (v2 : Int32) (v3 : Int32) (v4 : Int32) (v5 : Int32) (σ : Mem) : VK x z 6 (BQ QI x z) 68 [(0, .ref (z.2.2.1 0)), (2, .int v2), (3, .int v3), (4, .int v4), (5, .int v5)] [] σ (fX12_weigh_b68 N rc68 v2 v3 v4 v5 σ) := by
  unfold fX12_weigh_b68
  refine V_iload 4 X dX12_weigh_68 rfl ?_
  refine V_aload_n 0 X dX12_weigh_70 rfl rfl ?_
  refine V_getI 12 X dX12_weigh_71 co12 (kM hZ 0 _ rfl) (by decide) rfl wfX12_159 ?_
  refine V_icmp_ge (tgt := 105) X dX12_weigh_74 (by decide) ?_ ?_
  · refine V_iload_n 1 X dX12_weigh_105 rfl rfl ?_
    refine V_split (c := 0) (fun n106_0 => ?_) (fun n106_0 => ?_)
    · refine V_tabAt (c := 0) (tgt := 136) X dX12_weigh_106 n106_0 (by decide) (by decide) (by rfl) (by decide) ?_
      refine V_iload_n 2 X dX12_weigh_136 rfl rfl ?_
      exact V_iret X E hr dX12_weigh_137
    refine V_split (c := 1) (fun n106_1 => ?_) (fun n106_1 => ?_)
    · refine V_tabAt (c := 1) (tgt := 138) X dX12_weigh_106 n106_1 (by decide) (by decide) (by rfl) (by decide) ?_
      refine V_aload_n 0 X dX12_weigh_138 rfl rfl ?_
      refine V_iload_n 2 X dX12_weigh_139 rfl rfl ?_
      refine V_callI [.int v3] [] X E dX12_weigh_140 (kX12_apart x.2.1 z hZ N v3 σ) co12 (kM hZ 0 _ rfl) gcX12_329 hyX12_apart rfl ⟨by decide, by decide⟩ rfl (Nat.le_of_ble_eq_true rfl) (fun r13 s14 => ?_)
      exact V_iret X E hr dX12_weigh_143
    refine V_split (c := 2) (fun n106_2 => ?_) (fun n106_2 => ?_)
    · refine V_tabAt (c := 2) (tgt := 144) X dX12_weigh_106 n106_2 (by decide) (by decide) (by rfl) (by decide) ?_
      refine V_aload_n 0 X dX12_weigh_144 rfl rfl ?_
      refine V_callI [] [] X E dX12_weigh_145 (kX12_vetoes x.2.1 z hZ N σ) co12 (kM hZ 0 _ rfl) gcX12_332 hyX12_vetoes rfl ⟨by decide, by decide⟩ rfl (Nat.le_of_ble_eq_true rfl) (fun r15 s16 => ?_)
      exact V_iret X E hr dX12_weigh_148
    refine V_split (c := 3) (fun n106_3 => ?_) (fun n106_3 => ?_)
    · refine V_tabAt (c := 3) (tgt := 149) X dX12_weigh_106 n106_3 (by decide) (by decide) (by rfl) (by decide) ?_
      refine V_iload 3 X dX12_weigh_149 rfl ?_
      exact V_iret X E hr dX12_weigh_151
    refine V_tabDef (tgt := 152) X dX12_weigh_106 (swOut (a := v2) (fun q q1 q2 => by rcases (show q = 0 ∨ q = 1 ∨ q = 2 ∨ q = 3 by omega) with rfl | rfl | rfl | rfl <;> first | exact sw_ne n106_0 (by decide) | exact sw_ne n106_1 (by decide) | exact sw_ne n106_2 (by decide) | exact sw_ne n106_3 (by decide))) (by decide) ?_
    refine V_aload_n 0 X dX12_weigh_152 rfl rfl ?_
    refine V_callI [] [] X E dX12_weigh_153 (kX12_alike x.2.1 z hZ N σ) co12 (kM hZ 0 _ rfl) gcX12_336 hyX12_alike rfl ⟨by decide, by decide⟩ rfl (Nat.le_of_ble_eq_true rfl) (fun r17 s18 => ?_)
    exact V_iret X E hr dX12_weigh_156
  · refine V_iload 3 X dX12_weigh_77 rfl ?_
    refine V_aload_n 0 X dX12_weigh_79 rfl rfl ?_
    refine V_iload 4 X dX12_weigh_80 rfl ?_
    refine V_callI [.int v5] [.int v4] X E dX12_weigh_82 (kX12_swingsOf x.2.1 z hZ N v5 σ) co12 (kM hZ 0 _ rfl) gcX12_326 hyX12_swingsOf rfl ⟨by decide, by decide⟩ rfl (Nat.le_of_ble_eq_true rfl) (fun r19 s20 => ?_)
    refine V_if_ne (tgt := 95) X dX12_weigh_85 (by decide) ?_ ?_
    · refine V_iconst (v := 0) X dX12_weigh_95 (by decide) ?_
      refine V_sub [0, 1, 2, 4] rfl ?_
      exact bX12_weigh_96 X E hr hZ N rc68 hc68 v2 v3 v5 0 v4 s20
    · refine V_iconst (v := 1) X dX12_weigh_88 (by decide) ?_
      refine V_iload 4 X dX12_weigh_89 rfl ?_
      refine V_ishl X dX12_weigh_91 ?_
      refine V_goto (tgt := 96) X dX12_weigh_92 (by decide) ?_
      refine V_sub [0, 1, 2, 4] rfl ?_
      exact bX12_weigh_96 X E hr hZ N rc68 hc68 v2 v3 v5 (1 <<< (v5 &&& 31)) v4 s20
def fX12_weigh_l68 (N : Nat) : Nat → Int32 → Int32 → Int32 → Int32 → Mem → Option (Int32 × Mem)
  | 0 => fun _ _ _ _ _ => none
  | n + 1 => fX12_weigh_b68 N (fX12_weigh_l68 N n)
theorem lX12_weigh_68 {x : Cx} {z : Sx} (X : XG x z RX12 cX12_weigh 6 4 92) (E : XE x z) (hr : XR x (some .int)) (hZ : z.2.2.2.1 = kdM) (N : Nat) (n : Nat) (v2 : Int32) (v3 : Int32) (v4 : Int32) (v5 : Int32) (σ : Mem) : VK x z 6 (BQ QI x z) 68 [(0, .ref (z.2.2.1 0)), (2, .int v2), (3, .int v3), (4, .int v4), (5, .int v5)] [] σ (fX12_weigh_l68 N n v2 v3 v4 v5 σ) := by
  induction n generalizing v2 v3 v4 v5 σ with
  | zero => exact V_none
  | succ n ih => exact bX12_weigh_68 X E hr hZ N (fX12_weigh_l68 N n) ih v2 v3 v4 v5 σ
def fX12_weigh_b55 (N : Nat) (rc24 : Int32 → Int32 → Int32 → Mem → Option (Int32 × Mem)) (v2 : Int32) (v4 : Int32) (t0 : Int32) (σ : Mem) : Option (Int32 × Mem) :=
  lt_ t0 (fun v3_21 => lt_ (v4 + 1) (fun v4_22 => rc24 v2 v3_21 v4_22 σ))
set_option maxRecDepth 100000 in
set_option maxHeartbeats 4000000 in
theorem bX12_weigh_55 {x : Cx} {z : Sx} (X : XG x z RX12 cX12_weigh 6 4 92) (E : XE x z) (hr : XR x (some .int)) (hZ : z.2.2.2.1 = kdM) (N : Nat) (rc24 : Int32 → Int32 → Int32 → Mem → Option (Int32 × Mem)) (hc24 : ∀ (v2 : Int32) (v3 : Int32) (v4 : Int32) (σ : Mem), VK x z 6 (BQ QI x z) 24 [(0, .ref (z.2.2.1 0)), (2, .int v2), (3, .int v3), (4, .int v4)] [] σ (rc24 v2 v3 v4 σ)) (v2 : Int32) (v4 : Int32) (t0 : Int32) (σ : Mem) : VK x z 6 (BQ QI x z) 55 [(0, .ref (z.2.2.1 0)), (2, .int v2), (4, .int v4)] [.int t0] σ (fX12_weigh_b55 N rc24 v2 v4 t0 σ) := by
  unfold fX12_weigh_b55
  refine V_istore_nG (L' := fun v3_21 => [(3, .int v3_21), (0, .ref (z.2.2.1 0)), (2, .int v2), (4, .int v4)]) X dX12_weigh_55 rfl (by decide) (fun _ => rfl) (fun v3_21 => ?_)
  refine V_iincG (L' := fun v4_22 => [(4, .int v4_22), (3, .int v3_21), (0, .ref (z.2.2.1 0)), (2, .int v2)]) 3 X dX12_weigh_56 rfl rfl (by decide) (fun _ => rfl) (fun v4_22 => ?_)
  refine V_goto (tgt := 24) X dX12_weigh_59 (by decide) ?_
  refine V_sub [2, 3, 1, 0] rfl ?_
  exact hc24 v2 v3_21 v4_22 σ
def fX12_weigh_b24 (N : Nat) (rc24 : Int32 → Int32 → Int32 → Mem → Option (Int32 × Mem)) (v2 : Int32) (v3 : Int32) (v4 : Int32) (σ : Mem) : Option (Int32 × Mem) :=
  if (1 <<< ((σ.1 0 12) &&& 31)) ≤ v4 then lt_ 0 (fun v4_7 => lt_ 0 (fun v5_8 => fX12_weigh_l68 N N v2 v3 v4_7 v5_8 σ)) else bd (fX12_apart N v4 σ) (fun r9 s10 => bd (fX12_apart N v3 s10) (fun r11 s12 => if r11 ≤ r9 then fX12_weigh_b55 N rc24 v2 v4 v3 s12 else fX12_weigh_b55 N rc24 v2 v4 v4 s12))
set_option maxRecDepth 100000 in
set_option maxHeartbeats 4000000 in
theorem bX12_weigh_24 {x : Cx} {z : Sx} (X : XG x z RX12 cX12_weigh 6 4 92) (E : XE x z) (hr : XR x (some .int)) (hZ : z.2.2.2.1 = kdM) (N : Nat) (rc24 : Int32 → Int32 → Int32 → Mem → Option (Int32 × Mem)) (hc24 : ∀ (v2 : Int32) (v3 : Int32) (v4 : Int32) (σ : Mem), VK x z 6 (BQ QI x z) 24 [(0, .ref (z.2.2.1 0)), (2, .int v2), (3, .int v3), (4, .int v4)] [] σ (rc24 v2 v3 v4 σ)) (v2 : Int32) (v3 : Int32) (v4 : Int32) (σ : Mem) : VK x z 6 (BQ QI x z) 24 [(0, .ref (z.2.2.1 0)), (2, .int v2), (3, .int v3), (4, .int v4)] [] σ (fX12_weigh_b24 N rc24 v2 v3 v4 σ) := by
  unfold fX12_weigh_b24
  refine V_iload 3 X dX12_weigh_24 rfl ?_
  refine V_iconst (v := 1) X dX12_weigh_26 (by decide) ?_
  refine V_aload_n 0 X dX12_weigh_27 rfl rfl ?_
  refine V_getI 12 X dX12_weigh_28 co12 (kM hZ 0 _ rfl) (by decide) rfl wfX12_159 ?_
  refine V_ishl X dX12_weigh_31 ?_
  refine V_icmp_ge (tgt := 62) X dX12_weigh_32 (by decide) ?_ ?_
  · refine V_iconst (v := 0) X dX12_weigh_62 (by decide) ?_
    refine V_istoreG (L' := fun v4_7 => [(4, .int v4_7), (0, .ref (z.2.2.1 0)), (2, .int v2), (3, .int v3)]) X dX12_weigh_63 (by decide) (fun _ => rfl) (fun v4_7 => ?_)
    refine V_iconst (v := 0) X dX12_weigh_65 (by decide) ?_
    refine V_istoreG (L' := fun v5_8 => [(5, .int v5_8), (4, .int v4_7), (0, .ref (z.2.2.1 0)), (2, .int v2), (3, .int v3)]) X dX12_weigh_66 (by decide) (fun _ => rfl) (fun v5_8 => ?_)
    refine V_sub [2, 3, 4, 1, 0] rfl ?_
    exact lX12_weigh_68 X E hr hZ N N v2 v3 v4_7 v5_8 σ
  · refine V_aload_n 0 X dX12_weigh_35 rfl rfl ?_
    refine V_iload 3 X dX12_weigh_36 rfl ?_
    refine V_callI [.int v4] [] X E dX12_weigh_38 (kX12_apart x.2.1 z hZ N v4 σ) co12 (kM hZ 0 _ rfl) gcX12_329 hyX12_apart rfl ⟨by decide, by decide⟩ rfl (Nat.le_of_ble_eq_true rfl) (fun r9 s10 => ?_)
    refine V_aload_n 0 X dX12_weigh_41 rfl rfl ?_
    refine V_iload_n 2 X dX12_weigh_42 rfl rfl ?_
    refine V_callI [.int v3] [.int r9] X E dX12_weigh_43 (kX12_apart x.2.1 z hZ N v3 s10) co12 (kM hZ 0 _ rfl) gcX12_329 hyX12_apart rfl ⟨by decide, by decide⟩ rfl (Nat.le_of_ble_eq_true rfl) (fun r11 s12 => ?_)
    refine V_icmp_ge (tgt := 54) X dX12_weigh_46 (by decide) ?_ ?_
    · refine V_iload_n 2 X dX12_weigh_54 rfl rfl ?_
      refine V_sub [0, 1, 3] rfl ?_
      exact bX12_weigh_55 X E hr hZ N rc24 hc24 v2 v4 v3 s12
    · refine V_iload 3 X dX12_weigh_49 rfl ?_
      refine V_goto (tgt := 55) X dX12_weigh_51 (by decide) ?_
      refine V_sub [0, 1, 3] rfl ?_
      exact bX12_weigh_55 X E hr hZ N rc24 hc24 v2 v4 v4 s12
def fX12_weigh_l24 (N : Nat) : Nat → Int32 → Int32 → Int32 → Mem → Option (Int32 × Mem)
  | 0 => fun _ _ _ _ => none
  | n + 1 => fX12_weigh_b24 N (fX12_weigh_l24 N n)
theorem lX12_weigh_24 {x : Cx} {z : Sx} (X : XG x z RX12 cX12_weigh 6 4 92) (E : XE x z) (hr : XR x (some .int)) (hZ : z.2.2.2.1 = kdM) (N : Nat) (n : Nat) (v2 : Int32) (v3 : Int32) (v4 : Int32) (σ : Mem) : VK x z 6 (BQ QI x z) 24 [(0, .ref (z.2.2.1 0)), (2, .int v2), (3, .int v3), (4, .int v4)] [] σ (fX12_weigh_l24 N n v2 v3 v4 σ) := by
  induction n generalizing v2 v3 v4 σ with
  | zero => exact V_none
  | succ n ih => exact bX12_weigh_24 X E hr hZ N (fX12_weigh_l24 N n) ih v2 v3 v4 σ
def fX12_weigh (N : Nat) (v1 : Int32) (v2 : Int32) (σ : Mem) : Option (Int32 × Mem) :=
  bd (fX12_isChamber N v1 σ) (fun r1 s2 => if r1 = 0 then some ((-1), s2) else bd (fX12_isIn N v2 0 4 s2) (fun r3 s4 => if r3 = 0 then some ((-1), s4) else lt_ 0 (fun v3_5 => lt_ 1 (fun v4_6 => fX12_weigh_l24 N N v2 v3_5 v4_6 s4))))
set_option maxRecDepth 100000 in
set_option maxHeartbeats 4000000 in
theorem bX12_weigh_0 {x : Cx} {z : Sx} (X : XG x z RX12 cX12_weigh 6 4 92) (E : XE x z) (hr : XR x (some .int)) (hZ : z.2.2.2.1 = kdM) (N : Nat) (v1 : Int32) (v2 : Int32) (σ : Mem) : VK x z 6 (BQ QI x z) 0 [(0, .ref (z.2.2.1 0)), (1, .int v1), (2, .int v2)] [] σ (fX12_weigh N v1 v2 σ) := by
  unfold fX12_weigh
  refine V_aload_n 0 X dX12_weigh_0 rfl rfl ?_
  refine V_iload_n 1 X dX12_weigh_1 rfl rfl ?_
  refine V_callI [.int v1] [] X E dX12_weigh_2 (kX12_isChamber x.2.1 z hZ N v1 σ) co12 (kM hZ 0 _ rfl) gcX12_165 hyX12_isChamber rfl ⟨by decide, by decide⟩ rfl (Nat.le_of_ble_eq_true rfl) (fun r1 s2 => ?_)
  refine V_if_eq (tgt := 17) X dX12_weigh_5 (by decide) ?_ ?_
  · refine V_iconst (v := -1) X dX12_weigh_17 (by decide) ?_
    exact V_iret X E hr dX12_weigh_18
  · refine V_iload_n 2 X dX12_weigh_8 rfl rfl ?_
    refine V_iconst (v := 0) X dX12_weigh_9 (by decide) ?_
    refine V_iconst (v := 4) X dX12_weigh_10 (by decide) ?_
    refine V_calSI [.int v2, .int 0, .int 4] [] X E dX12_weigh_11 (kX12_isIn x.2.1 z hZ N v2 0 4 s2) gcX12_106 hyX12_isIn rfl ⟨by decide, by decide⟩ rfl (Nat.le_of_ble_eq_true rfl) (fun r3 s4 => ?_)
    refine V_if_ne (tgt := 19) X dX12_weigh_14 (by decide) ?_ ?_
    · refine V_iconst (v := 0) X dX12_weigh_19 (by decide) ?_
      refine V_istore_nG (L' := fun v3_5 => [(3, .int v3_5), (0, .ref (z.2.2.1 0)), (1, .int v1), (2, .int v2)]) X dX12_weigh_20 rfl (by decide) (fun _ => rfl) (fun v3_5 => ?_)
      refine V_iconst (v := 1) X dX12_weigh_21 (by decide) ?_
      refine V_istoreG (L' := fun v4_6 => [(4, .int v4_6), (3, .int v3_5), (0, .ref (z.2.2.1 0)), (1, .int v1), (2, .int v2)]) X dX12_weigh_22 (by decide) (fun _ => rfl) (fun v4_6 => ?_)
      refine V_sub [2, 4, 1, 0] rfl ?_
      exact lX12_weigh_24 X E hr hZ N N v2 v3_5 v4_6 s4
    · refine V_iconst (v := -1) X dX12_weigh_17 (by decide) ?_
      exact V_iret X E hr dX12_weigh_18
theorem kX12_weigh (l : Launch) (z : Sx) (hZ : z.2.2.2.1 = kdM) (N : Nat) (v1 : Int32) (v2 : Int32) (σ : Mem) : Ct QI yX12_weigh cX12_weigh 6 (some .int) 4 92 l z [.ref (z.2.2.1 0), .int v1, .int v2] σ (fX12_weigh N v1 v2 σ) := by
  refine Ct_of (by decide +kernel) (Nat.le_of_ble_eq_true rfl) rfl ?_
  intro x _ X E hr
  exact bX12_weigh_0 X E hr hZ N v1 v2 σ
def fX12_leastSet_b39 (N : Nat) (rc4 : Int32 → Int32 → Mem → Option (Int32 × Mem)) (v1 : Int32) (v2 : Int32) (σ : Mem) : Option (Int32 × Mem) :=
  lt_ (v2 + 1) (fun v2_9 => rc4 v1 v2_9 σ)
set_option maxRecDepth 100000 in
set_option maxHeartbeats 4000000 in
theorem bX12_leastSet_39 {x : Cx} {z : Sx} (X : XG x z RX12 cX12_leastSet 3 2 46) (E : XE x z) (hr : XR x (some .int)) (hZ : z.2.2.2.1 = kdM) (N : Nat) (rc4 : Int32 → Int32 → Mem → Option (Int32 × Mem)) (hc4 : ∀ (v1 : Int32) (v2 : Int32) (σ : Mem), VK x z 3 (BQ QI x z) 4 [(0, .ref (z.2.2.1 0)), (1, .int v1), (2, .int v2)] [] σ (rc4 v1 v2 σ)) (v1 : Int32) (v2 : Int32) (σ : Mem) : VK x z 3 (BQ QI x z) 39 [(0, .ref (z.2.2.1 0)), (1, .int v1), (2, .int v2)] [] σ (fX12_leastSet_b39 N rc4 v1 v2 σ) := by
  unfold fX12_leastSet_b39
  refine V_iincG (L' := fun v2_9 => [(2, .int v2_9), (0, .ref (z.2.2.1 0)), (1, .int v1)]) 2 X dX12_leastSet_39 rfl rfl (by decide) (fun _ => rfl) (fun v2_9 => ?_)
  refine V_goto (tgt := 4) X dX12_leastSet_42 (by decide) ?_
  refine V_sub [1, 2, 0] rfl ?_
  exact hc4 v1 v2_9 σ
def fX12_leastSet_b37 (N : Nat) (rc4 : Int32 → Int32 → Mem → Option (Int32 × Mem)) (v2 : Int32) (σ : Mem) : Option (Int32 × Mem) :=
  lt_ v2 (fun v1_10 => fX12_leastSet_b39 N rc4 v1_10 v2 σ)
set_option maxRecDepth 100000 in
set_option maxHeartbeats 4000000 in
theorem bX12_leastSet_37 {x : Cx} {z : Sx} (X : XG x z RX12 cX12_leastSet 3 2 46) (E : XE x z) (hr : XR x (some .int)) (hZ : z.2.2.2.1 = kdM) (N : Nat) (rc4 : Int32 → Int32 → Mem → Option (Int32 × Mem)) (hc4 : ∀ (v1 : Int32) (v2 : Int32) (σ : Mem), VK x z 3 (BQ QI x z) 4 [(0, .ref (z.2.2.1 0)), (1, .int v1), (2, .int v2)] [] σ (rc4 v1 v2 σ)) (v2 : Int32) (σ : Mem) : VK x z 3 (BQ QI x z) 37 [(0, .ref (z.2.2.1 0)), (2, .int v2)] [] σ (fX12_leastSet_b37 N rc4 v2 σ) := by
  unfold fX12_leastSet_b37
  refine V_iload_n 1 X dX12_leastSet_37 rfl rfl ?_
  refine V_istore_nG (L' := fun v1_10 => [(1, .int v1_10), (0, .ref (z.2.2.1 0)), (2, .int v2)]) X dX12_leastSet_38 rfl (by decide) (fun _ => rfl) (fun v1_10 => ?_)
  refine V_sub [1, 0, 2] rfl ?_
  exact bX12_leastSet_39 X E hr hZ N rc4 hc4 v1_10 v2 σ
def fX12_leastSet_b4 (N : Nat) (rc4 : Int32 → Int32 → Mem → Option (Int32 × Mem)) (v1 : Int32) (v2 : Int32) (σ : Mem) : Option (Int32 × Mem) :=
  if (1 <<< ((σ.1 0 12) &&& 31)) ≤ v2 then some (v1, σ) else bd (fX12_wins N v2 σ) (fun r3 s4 => if r3 = 0 then fX12_leastSet_b39 N rc4 v1 v2 s4 else if v1 = 0 then fX12_leastSet_b37 N rc4 v2 s4 else bd (fX12_bitsOf N v2 s4) (fun r5 s6 => bd (fX12_bitsOf N v1 s6) (fun r7 s8 => if r7 ≤ r5 then fX12_leastSet_b39 N rc4 v1 v2 s8 else fX12_leastSet_b37 N rc4 v2 s8)))
set_option maxRecDepth 100000 in
set_option maxHeartbeats 4000000 in
theorem bX12_leastSet_4 {x : Cx} {z : Sx} (X : XG x z RX12 cX12_leastSet 3 2 46) (E : XE x z) (hr : XR x (some .int)) (hZ : z.2.2.2.1 = kdM) (N : Nat) (rc4 : Int32 → Int32 → Mem → Option (Int32 × Mem)) (hc4 : ∀ (v1 : Int32) (v2 : Int32) (σ : Mem), VK x z 3 (BQ QI x z) 4 [(0, .ref (z.2.2.1 0)), (1, .int v1), (2, .int v2)] [] σ (rc4 v1 v2 σ)) (v1 : Int32) (v2 : Int32) (σ : Mem) : VK x z 3 (BQ QI x z) 4 [(0, .ref (z.2.2.1 0)), (1, .int v1), (2, .int v2)] [] σ (fX12_leastSet_b4 N rc4 v1 v2 σ) := by
  unfold fX12_leastSet_b4
  refine V_iload_n 2 X dX12_leastSet_4 rfl rfl ?_
  refine V_iconst (v := 1) X dX12_leastSet_5 (by decide) ?_
  refine V_aload_n 0 X dX12_leastSet_6 rfl rfl ?_
  refine V_getI 12 X dX12_leastSet_7 co12 (kM hZ 0 _ rfl) (by decide) rfl wfX12_159 ?_
  refine V_ishl X dX12_leastSet_10 ?_
  refine V_icmp_ge (tgt := 45) X dX12_leastSet_11 (by decide) ?_ ?_
  · refine V_iload_n 1 X dX12_leastSet_45 rfl rfl ?_
    exact V_iret X E hr dX12_leastSet_46
  · refine V_aload_n 0 X dX12_leastSet_14 rfl rfl ?_
    refine V_iload_n 2 X dX12_leastSet_15 rfl rfl ?_
    refine V_callI [.int v2] [] X E dX12_leastSet_16 (kX12_wins x.2.1 z hZ N v2 σ) co12 (kM hZ 0 _ rfl) gcX12_323 hyX12_wins rfl ⟨by decide, by decide⟩ rfl (Nat.le_of_ble_eq_true rfl) (fun r3 s4 => ?_)
    refine V_if_eq (tgt := 39) X dX12_leastSet_19 (by decide) ?_ ?_
    · refine V_sub [0, 1, 2] rfl ?_
      exact bX12_leastSet_39 X E hr hZ N rc4 hc4 v1 v2 s4
    · refine V_iload_n 1 X dX12_leastSet_22 rfl rfl ?_
      refine V_if_eq (tgt := 37) X dX12_leastSet_23 (by decide) ?_ ?_
      · refine V_sub [0, 2] rfl ?_
        exact bX12_leastSet_37 X E hr hZ N rc4 hc4 v2 s4
      · refine V_iload_n 2 X dX12_leastSet_26 rfl rfl ?_
        refine V_calSI [.int v2] [] X E dX12_leastSet_27 (kX12_bitsOf x.2.1 z hZ N v2 s4) gcX12_195 hyX12_bitsOf rfl ⟨by decide, by decide⟩ rfl (Nat.le_of_ble_eq_true rfl) (fun r5 s6 => ?_)
        refine V_iload_n 1 X dX12_leastSet_30 rfl rfl ?_
        refine V_calSI [.int v1] [.int r5] X E dX12_leastSet_31 (kX12_bitsOf x.2.1 z hZ N v1 s6) gcX12_195 hyX12_bitsOf rfl ⟨by decide, by decide⟩ rfl (Nat.le_of_ble_eq_true rfl) (fun r7 s8 => ?_)
        refine V_icmp_ge (tgt := 39) X dX12_leastSet_34 (by decide) ?_ ?_
        · refine V_sub [0, 1, 2] rfl ?_
          exact bX12_leastSet_39 X E hr hZ N rc4 hc4 v1 v2 s8
        · refine V_sub [0, 2] rfl ?_
          exact bX12_leastSet_37 X E hr hZ N rc4 hc4 v2 s8
def fX12_leastSet_l4 (N : Nat) : Nat → Int32 → Int32 → Mem → Option (Int32 × Mem)
  | 0 => fun _ _ _ => none
  | n + 1 => fX12_leastSet_b4 N (fX12_leastSet_l4 N n)
theorem lX12_leastSet_4 {x : Cx} {z : Sx} (X : XG x z RX12 cX12_leastSet 3 2 46) (E : XE x z) (hr : XR x (some .int)) (hZ : z.2.2.2.1 = kdM) (N : Nat) (n : Nat) (v1 : Int32) (v2 : Int32) (σ : Mem) : VK x z 3 (BQ QI x z) 4 [(0, .ref (z.2.2.1 0)), (1, .int v1), (2, .int v2)] [] σ (fX12_leastSet_l4 N n v1 v2 σ) := by
  induction n generalizing v1 v2 σ with
  | zero => exact V_none
  | succ n ih => exact bX12_leastSet_4 X E hr hZ N (fX12_leastSet_l4 N n) ih v1 v2 σ
def fX12_leastSet (N : Nat) (σ : Mem) : Option (Int32 × Mem) :=
  lt_ 0 (fun v1_1 => lt_ 1 (fun v2_2 => fX12_leastSet_l4 N N v1_1 v2_2 σ))
set_option maxRecDepth 100000 in
set_option maxHeartbeats 4000000 in
theorem bX12_leastSet_0 {x : Cx} {z : Sx} (X : XG x z RX12 cX12_leastSet 3 2 46) (E : XE x z) (hr : XR x (some .int)) (hZ : z.2.2.2.1 = kdM) (N : Nat) (σ : Mem) : VK x z 3 (BQ QI x z) 0 [(0, .ref (z.2.2.1 0))] [] σ (fX12_leastSet N σ) := by
  unfold fX12_leastSet
  refine V_iconst (v := 0) X dX12_leastSet_0 (by decide) ?_
  refine V_istore_nG (L' := fun v1_1 => [(1, .int v1_1), (0, .ref (z.2.2.1 0))]) X dX12_leastSet_1 rfl (by decide) (fun _ => rfl) (fun v1_1 => ?_)
  refine V_iconst (v := 1) X dX12_leastSet_2 (by decide) ?_
  refine V_istore_nG (L' := fun v2_2 => [(2, .int v2_2), (1, .int v1_1), (0, .ref (z.2.2.1 0))]) X dX12_leastSet_3 rfl (by decide) (fun _ => rfl) (fun v2_2 => ?_)
  refine V_sub [2, 1, 0] rfl ?_
  exact lX12_leastSet_4 X E hr hZ N N v1_1 v2_2 σ
theorem kX12_leastSet (l : Launch) (z : Sx) (hZ : z.2.2.2.1 = kdM) (N : Nat) (σ : Mem) : Ct QI yX12_leastSet cX12_leastSet 3 (some .int) 2 46 l z [.ref (z.2.2.1 0)] σ (fX12_leastSet N σ) := by
  refine Ct_of (by decide +kernel) (Nat.le_of_ble_eq_true rfl) rfl ?_
  intro x _ X E hr
  exact bX12_leastSet_0 X E hr hZ N σ
def fX12_factorial_b4 (N : Nat) (rc4 : Int32 → Int64 → Int32 → Mem → Option (Int64 × Mem)) (v0 : Int32) (v1 : Int64) (v3 : Int32) (σ : Mem) : Option (Int64 × Mem) :=
  if v0 < v3 then some (v1, σ) else lt_ (v1 * ((v3 : Int32).toInt64)) (fun v1_3 => lt_ (v3 + 1) (fun v3_4 => rc4 v0 v1_3 v3_4 σ))
set_option maxRecDepth 100000 in
set_option maxHeartbeats 4000000 in
theorem bX12_factorial_4 {x : Cx} {z : Sx} (X : XG x z RX12 cX12_factorial 4 0 0) (E : XE x z) (hr : XR x (some .long)) (hZ : z.2.2.2.1 = kdM) (N : Nat) (rc4 : Int32 → Int64 → Int32 → Mem → Option (Int64 × Mem)) (hc4 : ∀ (v0 : Int32) (v1 : Int64) (v3 : Int32) (σ : Mem), VK x z 4 (BQ QL x z) 4 [(0, .int v0), (1, .long v1), (3, .int v3)] [] σ (rc4 v0 v1 v3 σ)) (v0 : Int32) (v1 : Int64) (v3 : Int32) (σ : Mem) : VK x z 4 (BQ QL x z) 4 [(0, .int v0), (1, .long v1), (3, .int v3)] [] σ (fX12_factorial_b4 N rc4 v0 v1 v3 σ) := by
  unfold fX12_factorial_b4
  refine V_iload_n 2 X dX12_factorial_4 rfl rfl ?_
  refine V_iload_n 0 X dX12_factorial_5 rfl rfl ?_
  refine V_icmp_gt (tgt := 20) X dX12_factorial_6 (by decide) ?_ ?_
  · refine V_lload_n 1 X dX12_factorial_20 rfl rfl ?_
    exact V_lret X E hr dX12_factorial_21
  · refine V_lload_n 1 X dX12_factorial_9 rfl rfl ?_
    refine V_iload_n 2 X dX12_factorial_10 rfl rfl ?_
    refine V_i2l X dX12_factorial_11 ?_
    refine V_lmul X dX12_factorial_12 ?_
    refine V_lstore_nG (L' := fun v1_3 => [(1, .long v1_3), (0, .int v0), (3, .int v3)]) X dX12_factorial_13 rfl (by decide) (fun _ => rfl) (fun v1_3 => ?_)
    refine V_iincG (L' := fun v3_4 => [(3, .int v3_4), (1, .long v1_3), (0, .int v0)]) 2 X dX12_factorial_14 rfl rfl (by decide) (fun _ => rfl) (fun v3_4 => ?_)
    refine V_goto (tgt := 4) X dX12_factorial_17 (by decide) ?_
    refine V_sub [2, 1, 0] rfl ?_
    exact hc4 v0 v1_3 v3_4 σ
def fX12_factorial_l4 (N : Nat) : Nat → Int32 → Int64 → Int32 → Mem → Option (Int64 × Mem)
  | 0 => fun _ _ _ _ => none
  | n + 1 => fX12_factorial_b4 N (fX12_factorial_l4 N n)
theorem lX12_factorial_4 {x : Cx} {z : Sx} (X : XG x z RX12 cX12_factorial 4 0 0) (E : XE x z) (hr : XR x (some .long)) (hZ : z.2.2.2.1 = kdM) (N : Nat) (n : Nat) (v0 : Int32) (v1 : Int64) (v3 : Int32) (σ : Mem) : VK x z 4 (BQ QL x z) 4 [(0, .int v0), (1, .long v1), (3, .int v3)] [] σ (fX12_factorial_l4 N n v0 v1 v3 σ) := by
  induction n generalizing v0 v1 v3 σ with
  | zero => exact V_none
  | succ n ih => exact bX12_factorial_4 X E hr hZ N (fX12_factorial_l4 N n) ih v0 v1 v3 σ
def fX12_factorial (N : Nat) (v0 : Int32) (σ : Mem) : Option (Int64 × Mem) :=
  lt_ 1 (fun v1_1 => lt_ 2 (fun v3_2 => fX12_factorial_l4 N N v0 v1_1 v3_2 σ))
set_option maxRecDepth 100000 in
set_option maxHeartbeats 4000000 in
theorem bX12_factorial_0 {x : Cx} {z : Sx} (X : XG x z RX12 cX12_factorial 4 0 0) (E : XE x z) (hr : XR x (some .long)) (hZ : z.2.2.2.1 = kdM) (N : Nat) (v0 : Int32) (σ : Mem) : VK x z 4 (BQ QL x z) 0 [(0, .int v0)] [] σ (fX12_factorial N v0 σ) := by
  unfold fX12_factorial
  refine V_lconst (v := 1) X dX12_factorial_0 (by decide) ?_
  refine V_lstore_nG (L' := fun v1_1 => [(1, .long v1_1), (0, .int v0)]) X dX12_factorial_1 rfl (by decide) (fun _ => rfl) (fun v1_1 => ?_)
  refine V_iconst (v := 2) X dX12_factorial_2 (by decide) ?_
  refine V_istore_nG (L' := fun v3_2 => [(3, .int v3_2), (1, .long v1_1), (0, .int v0)]) X dX12_factorial_3 rfl (by decide) (fun _ => rfl) (fun v3_2 => ?_)
  refine V_sub [2, 1, 0] rfl ?_
  exact lX12_factorial_4 X E hr hZ N N v0 v1_1 v3_2 σ
theorem kX12_factorial (l : Launch) (z : Sx) (hZ : z.2.2.2.1 = kdM) (N : Nat) (v0 : Int32) (σ : Mem) : Ct QL yX12_factorial cX12_factorial 4 (some .long) 0 0 l z [.int v0] σ (fX12_factorial N v0 σ) := by
  refine Ct_of (by decide +kernel) (Nat.le_of_ble_eq_true rfl) rfl ?_
  intro x _ X E hr
  exact bX12_factorial_0 X E hr hZ N v0 σ
def fX12_power_b170 (N : Nat) (v5 : Int64) (v7 : Int64) (t0 : Int64) (σ : Mem) : Option (Int32 × Mem) :=
  bd (fX12_common N v5 v7 σ) (fun r32 s33 => gd (!(decide (r32 = 0))) (some (((t0 / r32) : Int64).toInt32, s33)))
set_option maxRecDepth 100000 in
set_option maxHeartbeats 4000000 in
theorem bX12_power_170 {x : Cx} {z : Sx} (X : XG x z RX12 cX12_power 9 3 68) (E : XE x z) (hr : XR x (some .int)) (hZ : z.2.2.2.1 = kdM) (N : Nat) (v5 : Int64) (v7 : Int64) (t0 : Int64) (σ : Mem) : VK x z 9 (BQ QI x z) 170 [(0, .ref (z.2.2.1 0)), (5, .long v5), (7, .long v7)] [.long t0] σ (fX12_power_b170 N v5 v7 t0 σ) := by
  unfold fX12_power_b170
  refine V_lload 1 X dX12_power_170 rfl ?_
  refine V_lload 2 X dX12_power_172 rfl ?_
  refine V_calSL [.long v5, .long v7] [.long t0] X E dX12_power_174 (kX12_common x.2.1 z hZ N v5 v7 σ) gcX12_316 hyX12_common rfl ⟨by decide, by decide⟩ rfl (Nat.le_of_ble_eq_true rfl) (fun r32 s33 => ?_)
  refine V_ldiv X dX12_power_177 ?_
  refine V_l2i X dX12_power_178 ?_
  exact V_iret X E hr dX12_power_179
def fX12_power_b131 (N : Nat) (rc54 : Int32 → Int32 → Int32 → Int64 → Int32 → Mem → Option (Int32 × Mem)) (v2 : Int32) (v3 : Int32) (v4 : Int32) (v5 : Int64) (v7 : Int32) (σ : Mem) : Option (Int32 × Mem) :=
  lt_ (v7 + 1) (fun v7_34 => rc54 v2 v3 v4 v5 v7_34 σ)
set_option maxRecDepth 100000 in
set_option maxHeartbeats 4000000 in
theorem bX12_power_131 {x : Cx} {z : Sx} (X : XG x z RX12 cX12_power 9 3 68) (E : XE x z) (hr : XR x (some .int)) (hZ : z.2.2.2.1 = kdM) (N : Nat) (rc54 : Int32 → Int32 → Int32 → Int64 → Int32 → Mem → Option (Int32 × Mem)) (hc54 : ∀ (v2 : Int32) (v3 : Int32) (v4 : Int32) (v5 : Int64) (v7 : Int32) (σ : Mem), VK x z 9 (BQ QI x z) 54 [(0, .ref (z.2.2.1 0)), (2, .int v2), (3, .int v3), (4, .int v4), (5, .long v5), (7, .int v7)] [] σ (rc54 v2 v3 v4 v5 v7 σ)) (v2 : Int32) (v3 : Int32) (v4 : Int32) (v5 : Int64) (v7 : Int32) (σ : Mem) : VK x z 9 (BQ QI x z) 131 [(0, .ref (z.2.2.1 0)), (2, .int v2), (3, .int v3), (4, .int v4), (5, .long v5), (7, .int v7)] [] σ (fX12_power_b131 N rc54 v2 v3 v4 v5 v7 σ) := by
  unfold fX12_power_b131
  refine V_iincG (L' := fun v7_34 => [(7, .int v7_34), (0, .ref (z.2.2.1 0)), (2, .int v2), (3, .int v3), (4, .int v4), (5, .long v5)]) 5 X dX12_power_131 rfl rfl (by decide) (fun _ => rfl) (fun v7_34 => ?_)
  refine V_goto (tgt := 54) X dX12_power_134 (by decide) ?_
  refine V_sub [1, 2, 3, 4, 5, 0] rfl ?_
  exact hc54 v2 v3 v4 v5 v7_34 σ
def fX12_power_b54 (N : Nat) (rc54 : Int32 → Int32 → Int32 → Int64 → Int32 → Mem → Option (Int32 × Mem)) (v2 : Int32) (v3 : Int32) (v4 : Int32) (v5 : Int64) (v7 : Int32) (σ : Mem) : Option (Int32 × Mem) :=
  if (1 <<< ((σ.1 0 12) &&& 31)) ≤ v7 then bd (fX12_factorial N (σ.1 0 12) σ) (fun r13 s14 => lt_ r13 (fun v7_15 => if 20 ≤ v2 then if 30 ≤ v2 then fX12_power_b170 N v5 v7_15 v7_15 s14 else fX12_power_b170 N v5 v7_15 v5 s14 else some (v4, s14))) else bd (fX12_holds N v7 v3 σ) (fun r16 s17 => if r16 = 0 then bd (fX12_wins N v7 s17) (fun r18 s19 => if r18 = 0 then bd (fX12_wins N (v7 ||| (1 <<< (v3 &&& 31))) s19) (fun r20 s21 => if r20 = 0 then fX12_power_b131 N rc54 v2 v3 v4 v5 v7 s21 else lt_ (v4 + 1) (fun v4_22 => bd (fX12_bitsOf N v7 s21) (fun r23 s24 => bd (fX12_factorial N r23 s24) (fun r25 s26 => bd (fX12_bitsOf N v7 s26) (fun r27 s28 => bd (fX12_factorial N (((s26.1 0 12) - 1) - r27) s28) (fun r29 s30 => lt_ (v5 + (r25 * r29)) (fun v5_31 => fX12_power_b131 N rc54 v2 v3 v4_22 v5_31 v7 s30))))))) else fX12_power_b131 N rc54 v2 v3 v4 v5 v7 s19) else fX12_power_b131 N rc54 v2 v3 v4 v5 v7 s17)
set_option maxRecDepth 100000 in
set_option maxHeartbeats 4000000 in
theorem bX12_power_54 {x : Cx} {z : Sx} (X : XG x z RX12 cX12_power 9 3 68) (E : XE x z) (hr : XR x (some .int)) (hZ : z.2.2.2.1 = kdM) (N : Nat) (rc54 : Int32 → Int32 → Int32 → Int64 → Int32 → Mem → Option (Int32 × Mem)) (hc54 : ∀ (v2 : Int32) (v3 : Int32) (v4 : Int32) (v5 : Int64) (v7 : Int32) (σ : Mem), VK x z 9 (BQ QI x z) 54 [(0, .ref (z.2.2.1 0)), (2, .int v2), (3, .int v3), (4, .int v4), (5, .long v5), (7, .int v7)] [] σ (rc54 v2 v3 v4 v5 v7 σ)) (v2 : Int32) (v3 : Int32) (v4 : Int32) (v5 : Int64) (v7 : Int32) (σ : Mem) : VK x z 9 (BQ QI x z) 54 [(0, .ref (z.2.2.1 0)), (2, .int v2), (3, .int v3), (4, .int v4), (5, .long v5), (7, .int v7)] [] σ (fX12_power_b54 N rc54 v2 v3 v4 v5 v7 σ) := by
  unfold fX12_power_b54
  refine V_iload 5 X dX12_power_54 rfl ?_
  refine V_iconst (v := 1) X dX12_power_56 (by decide) ?_
  refine V_aload_n 0 X dX12_power_57 rfl rfl ?_
  refine V_getI 12 X dX12_power_58 co12 (kM hZ 0 _ rfl) (by decide) rfl wfX12_159 ?_
  refine V_ishl X dX12_power_61 ?_
  refine V_icmp_ge (tgt := 137) X dX12_power_62 (by decide) ?_ ?_
  · refine V_aload_n 0 X dX12_power_137 rfl rfl ?_
    refine V_getI 12 X dX12_power_138 co12 (kM hZ 0 _ rfl) (by decide) rfl wfX12_159 ?_
    refine V_calSL [.int (σ.1 0 12)] [] X E dX12_power_141 (kX12_factorial x.2.1 z hZ N (σ.1 0 12) σ) gcX12_342 hyX12_factorial rfl ⟨by decide, by decide⟩ rfl (Nat.le_of_ble_eq_true rfl) (fun r13 s14 => ?_)
    refine V_lstoreG (L' := fun v7_15 => [(7, .long v7_15), (0, .ref (z.2.2.1 0)), (2, .int v2), (3, .int v3), (4, .int v4), (5, .long v5)]) X dX12_power_144 (by decide) (fun _ => rfl) (fun v7_15 => ?_)
    refine V_iload_n 2 X dX12_power_146 rfl rfl ?_
    refine V_bipush (v := 20) X dX12_power_147 (by decide) ?_
    refine V_icmp_ge (tgt := 157) X dX12_power_149 (by decide) ?_ ?_
    · refine V_iload_n 2 X dX12_power_157 rfl rfl ?_
      refine V_bipush (v := 30) X dX12_power_158 (by decide) ?_
      refine V_icmp_ge (tgt := 168) X dX12_power_160 (by decide) ?_ ?_
      · refine V_lload 0 X dX12_power_168 rfl ?_
        refine V_sub [1, 5, 0] rfl ?_
        exact bX12_power_170 X E hr hZ N v5 v7_15 v7_15 s14
      · refine V_lload 5 X dX12_power_163 rfl ?_
        refine V_goto (tgt := 170) X dX12_power_165 (by decide) ?_
        refine V_sub [1, 5, 0] rfl ?_
        exact bX12_power_170 X E hr hZ N v5 v7_15 v5 s14
    · refine V_iload 4 X dX12_power_152 rfl ?_
      refine V_goto (tgt := 179) X dX12_power_154 (by decide) ?_
      exact V_iret X E hr dX12_power_179
  · refine V_iload 5 X dX12_power_65 rfl ?_
    refine V_iload_n 2 X dX12_power_67 rfl rfl ?_
    refine V_calSI [.int v7, .int v3] [] X E dX12_power_68 (kX12_holds x.2.1 z hZ N v7 v3 σ) gcX12_192 hyX12_holds rfl ⟨by decide, by decide⟩ rfl (Nat.le_of_ble_eq_true rfl) (fun r16 s17 => ?_)
    refine V_if_ne (tgt := 131) X dX12_power_71 (by decide) ?_ ?_
    · refine V_sub [0, 1, 2, 3, 4, 5] rfl ?_
      exact bX12_power_131 X E hr hZ N rc54 hc54 v2 v3 v4 v5 v7 s17
    · refine V_aload_n 0 X dX12_power_74 rfl rfl ?_
      refine V_iload 5 X dX12_power_75 rfl ?_
      refine V_callI [.int v7] [] X E dX12_power_77 (kX12_wins x.2.1 z hZ N v7 s17) co12 (kM hZ 0 _ rfl) gcX12_323 hyX12_wins rfl ⟨by decide, by decide⟩ rfl (Nat.le_of_ble_eq_true rfl) (fun r18 s19 => ?_)
      refine V_if_ne (tgt := 131) X dX12_power_80 (by decide) ?_ ?_
      · refine V_sub [0, 1, 2, 3, 4, 5] rfl ?_
        exact bX12_power_131 X E hr hZ N rc54 hc54 v2 v3 v4 v5 v7 s19
      · refine V_aload_n 0 X dX12_power_83 rfl rfl ?_
        refine V_iload 5 X dX12_power_84 rfl ?_
        refine V_iconst (v := 1) X dX12_power_86 (by decide) ?_
        refine V_iload_n 2 X dX12_power_87 rfl rfl ?_
        refine V_ishl X dX12_power_88 ?_
        refine V_ior X dX12_power_89 ?_
        refine V_callI [.int (v7 ||| (1 <<< (v3 &&& 31)))] [] X E dX12_power_90 (kX12_wins x.2.1 z hZ N (v7 ||| (1 <<< (v3 &&& 31))) s19) co12 (kM hZ 0 _ rfl) gcX12_323 hyX12_wins rfl ⟨by decide, by decide⟩ rfl (Nat.le_of_ble_eq_true rfl) (fun r20 s21 => ?_)
        refine V_if_ne (tgt := 99) X dX12_power_93 (by decide) ?_ ?_
        · refine V_iincG (L' := fun v4_22 => [(4, .int v4_22), (0, .ref (z.2.2.1 0)), (2, .int v2), (3, .int v3), (5, .long v5), (7, .int v7)]) 3 X dX12_power_99 rfl rfl (by decide) (fun _ => rfl) (fun v4_22 => ?_)
          refine V_lload 4 X dX12_power_102 rfl ?_
          refine V_iload 5 X dX12_power_104 rfl ?_
          refine V_calSI [.int v7] [.long v5] X E dX12_power_106 (kX12_bitsOf x.2.1 z hZ N v7 s21) gcX12_195 hyX12_bitsOf rfl ⟨by decide, by decide⟩ rfl (Nat.le_of_ble_eq_true rfl) (fun r23 s24 => ?_)
          refine V_calSL [.int r23] [.long v5] X E dX12_power_109 (kX12_factorial x.2.1 z hZ N r23 s24) gcX12_342 hyX12_factorial rfl ⟨by decide, by decide⟩ rfl (Nat.le_of_ble_eq_true rfl) (fun r25 s26 => ?_)
          refine V_aload_n 1 X dX12_power_112 rfl rfl ?_
          refine V_getI 12 X dX12_power_113 co12 (kM hZ 0 _ rfl) (by decide) rfl wfX12_159 ?_
          refine V_iconst (v := 1) X dX12_power_116 (by decide) ?_
          refine V_isub X dX12_power_117 ?_
          refine V_iload 5 X dX12_power_118 rfl ?_
          refine V_calSI [.int v7] [.int ((s26.1 0 12) - 1), .long r25, .long v5] X E dX12_power_120 (kX12_bitsOf x.2.1 z hZ N v7 s26) gcX12_195 hyX12_bitsOf rfl ⟨by decide, by decide⟩ rfl (Nat.le_of_ble_eq_true rfl) (fun r27 s28 => ?_)
          refine V_isub X dX12_power_123 ?_
          refine V_calSL [.int (((s26.1 0 12) - 1) - r27)] [.long r25, .long v5] X E dX12_power_124 (kX12_factorial x.2.1 z hZ N (((s26.1 0 12) - 1) - r27) s28) gcX12_342 hyX12_factorial rfl ⟨by decide, by decide⟩ rfl (Nat.le_of_ble_eq_true rfl) (fun r29 s30 => ?_)
          refine V_lmul X dX12_power_127 ?_
          refine V_ladd X dX12_power_128 ?_
          refine V_lstoreG (L' := fun v5_31 => [(5, .long v5_31), (4, .int v4_22), (0, .ref (z.2.2.1 0)), (2, .int v2), (3, .int v3), (7, .int v7)]) X dX12_power_129 (by decide) (fun _ => rfl) (fun v5_31 => ?_)
          refine V_sub [2, 3, 4, 1, 0, 5] rfl ?_
          exact bX12_power_131 X E hr hZ N rc54 hc54 v2 v3 v4_22 v5_31 v7 s30
        · refine V_goto (tgt := 131) X dX12_power_96 (by decide) ?_
          refine V_sub [0, 1, 2, 3, 4, 5] rfl ?_
          exact bX12_power_131 X E hr hZ N rc54 hc54 v2 v3 v4 v5 v7 s21
def fX12_power_l54 (N : Nat) : Nat → Int32 → Int32 → Int32 → Int64 → Int32 → Mem → Option (Int32 × Mem)
  | 0 => fun _ _ _ _ _ _ => none
  | n + 1 => fX12_power_b54 N (fX12_power_l54 N n)
theorem lX12_power_54 {x : Cx} {z : Sx} (X : XG x z RX12 cX12_power 9 3 68) (E : XE x z) (hr : XR x (some .int)) (hZ : z.2.2.2.1 = kdM) (N : Nat) (n : Nat) (v2 : Int32) (v3 : Int32) (v4 : Int32) (v5 : Int64) (v7 : Int32) (σ : Mem) : VK x z 9 (BQ QI x z) 54 [(0, .ref (z.2.2.1 0)), (2, .int v2), (3, .int v3), (4, .int v4), (5, .long v5), (7, .int v7)] [] σ (fX12_power_l54 N n v2 v3 v4 v5 v7 σ) := by
  induction n generalizing v2 v3 v4 v5 v7 σ with
  | zero => exact V_none
  | succ n ih => exact bX12_power_54 X E hr hZ N (fX12_power_l54 N n) ih v2 v3 v4 v5 v7 σ
def fX12_power (N : Nat) (v1 : Int32) (v2 : Int32) (σ : Mem) : Option (Int32 × Mem) :=
  bd (fX12_isChamber N v1 σ) (fun r1 s2 => if r1 = 0 then some ((-1), s2) else if v2 = 0 then bd (fX12_leastSet N s2) (fun r11 s12 => some (r11, s12)) else lt_ (rmI v2 10) (fun v3_3 => bd (fX12_isIn N v2 10 39 s2) (fun r4 s5 => if r4 = 0 then some ((-1), s5) else bd (fX12_isPiece N v3_3 s5) (fun r6 s7 => if r6 = 0 then some ((-1), s7) else lt_ 0 (fun v4_8 => lt_ 0 (fun v5_9 => lt_ 0 (fun v7_10 => fX12_power_l54 N N v2 v3_3 v4_8 v5_9 v7_10 s7)))))))
set_option maxRecDepth 100000 in
set_option maxHeartbeats 4000000 in
theorem bX12_power_0 {x : Cx} {z : Sx} (X : XG x z RX12 cX12_power 9 3 68) (E : XE x z) (hr : XR x (some .int)) (hZ : z.2.2.2.1 = kdM) (N : Nat) (v1 : Int32) (v2 : Int32) (σ : Mem) : VK x z 9 (BQ QI x z) 0 [(0, .ref (z.2.2.1 0)), (1, .int v1), (2, .int v2)] [] σ (fX12_power N v1 v2 σ) := by
  unfold fX12_power
  refine V_aload_n 0 X dX12_power_0 rfl rfl ?_
  refine V_iload_n 1 X dX12_power_1 rfl rfl ?_
  refine V_callI [.int v1] [] X E dX12_power_2 (kX12_isChamber x.2.1 z hZ N v1 σ) co12 (kM hZ 0 _ rfl) gcX12_165 hyX12_isChamber rfl ⟨by decide, by decide⟩ rfl (Nat.le_of_ble_eq_true rfl) (fun r1 s2 => ?_)
  refine V_if_ne (tgt := 10) X dX12_power_5 (by decide) ?_ ?_
  · refine V_iload_n 2 X dX12_power_10 rfl rfl ?_
    refine V_if_ne (tgt := 19) X dX12_power_11 (by decide) ?_ ?_
    · refine V_iload_n 2 X dX12_power_19 rfl rfl ?_
      refine V_bipush (v := 10) X dX12_power_20 (by decide) ?_
      refine V_iremKG X dX12_power_22 (by decide) ?_
      refine V_istore_nG (L' := fun v3_3 => [(3, .int v3_3), (0, .ref (z.2.2.1 0)), (1, .int v1), (2, .int v2)]) X dX12_power_23 rfl (by decide) (fun _ => rfl) (fun v3_3 => ?_)
      refine V_iload_n 3 X dX12_power_24 rfl rfl ?_
      refine V_bipush (v := 10) X dX12_power_25 (by decide) ?_
      refine V_bipush (v := 39) X dX12_power_27 (by decide) ?_
      refine V_calSI [.int v2, .int 10, .int 39] [] X E dX12_power_29 (kX12_isIn x.2.1 z hZ N v2 10 39 s2) gcX12_106 hyX12_isIn rfl ⟨by decide, by decide⟩ rfl (Nat.le_of_ble_eq_true rfl) (fun r4 s5 => ?_)
      refine V_if_eq (tgt := 43) X dX12_power_32 (by decide) ?_ ?_
      · refine V_iconst (v := -1) X dX12_power_43 (by decide) ?_
        exact V_iret X E hr dX12_power_44
      · refine V_aload_n 1 X dX12_power_35 rfl rfl ?_
        refine V_iload_n 0 X dX12_power_36 rfl rfl ?_
        refine V_callI [.int v3_3] [] X E dX12_power_37 (kX12_isPiece x.2.1 z hZ N v3_3 s5) co12 (kM hZ 0 _ rfl) gcX12_168 hyX12_isPiece rfl ⟨by decide, by decide⟩ rfl (Nat.le_of_ble_eq_true rfl) (fun r6 s7 => ?_)
        refine V_if_ne (tgt := 45) X dX12_power_40 (by decide) ?_ ?_
        · refine V_iconst (v := 0) X dX12_power_45 (by decide) ?_
          refine V_istoreG (L' := fun v4_8 => [(4, .int v4_8), (3, .int v3_3), (0, .ref (z.2.2.1 0)), (1, .int v1), (2, .int v2)]) X dX12_power_46 (by decide) (fun _ => rfl) (fun v4_8 => ?_)
          refine V_lconst (v := 0) X dX12_power_48 (by decide) ?_
          refine V_lstoreG (L' := fun v5_9 => [(5, .long v5_9), (4, .int v4_8), (3, .int v3_3), (0, .ref (z.2.2.1 0)), (1, .int v1), (2, .int v2)]) X dX12_power_49 (by decide) (fun _ => rfl) (fun v5_9 => ?_)
          refine V_iconst (v := 0) X dX12_power_51 (by decide) ?_
          refine V_istoreG (L' := fun v7_10 => [(7, .int v7_10), (5, .long v5_9), (4, .int v4_8), (3, .int v3_3), (0, .ref (z.2.2.1 0)), (1, .int v1), (2, .int v2)]) X dX12_power_52 (by decide) (fun _ => rfl) (fun v7_10 => ?_)
          refine V_sub [4, 6, 3, 2, 1, 0] rfl ?_
          exact lX12_power_54 X E hr hZ N N v2 v3_3 v4_8 v5_9 v7_10 s7
        · refine V_iconst (v := -1) X dX12_power_43 (by decide) ?_
          exact V_iret X E hr dX12_power_44
    · refine V_aload_n 0 X dX12_power_14 rfl rfl ?_
      refine V_callI [] [] X E dX12_power_15 (kX12_leastSet x.2.1 z hZ N s2) co12 (kM hZ 0 _ rfl) gcX12_339 hyX12_leastSet rfl ⟨by decide, by decide⟩ rfl (Nat.le_of_ble_eq_true rfl) (fun r11 s12 => ?_)
      exact V_iret X E hr dX12_power_18
  · refine V_iconst (v := -1) X dX12_power_8 (by decide) ?_
    exact V_iret X E hr dX12_power_9
theorem kX12_power (l : Launch) (z : Sx) (hZ : z.2.2.2.1 = kdM) (N : Nat) (v1 : Int32) (v2 : Int32) (σ : Mem) : Ct QI yX12_power cX12_power 9 (some .int) 3 68 l z [.ref (z.2.2.1 0), .int v1, .int v2] σ (fX12_power N v1 v2 σ) := by
  refine Ct_of (by decide +kernel) (Nat.le_of_ble_eq_true rfl) rfl ?_
  intro x _ X E hr
  exact bX12_power_0 X E hr hZ N v1 v2 σ
