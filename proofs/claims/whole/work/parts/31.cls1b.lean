def fX0_copyFrom (N : Nat) (h : Nat) (v1 : Nat) (σ : Mem) : Option (Unit × Mem) :=
  lt_ (pI σ h 0 (σ.1 v1 0)) (fun s1 => lt_ (pI s1 h 1 (s1.1 v1 1)) (fun s2 => lt_ (pI s2 h 2 (s2.1 v1 2)) (fun s3 => lt_ (cpM s3 (v1 + 1) (h + 1) (8 : Int32).toNatClampNeg) (fun s4 => lt_ (cpM s4 (v1 + 2) (h + 2) (8 : Int32).toNatClampNeg) (fun s5 => lt_ (cpM s5 (v1 + 3) (h + 3) (8 : Int32).toNatClampNeg) (fun s6 => lt_ (cpM s6 (v1 + 4) (h + 4) (8 : Int32).toNatClampNeg) (fun s7 => lt_ (cpM s7 (v1 + 5) (h + 5) (8 : Int32).toNatClampNeg) (fun s8 => lt_ (cpM s8 (v1 + 6) (h + 6) (8 : Int32).toNatClampNeg) (fun s9 => lt_ (cpM s9 (v1 + 7) (h + 7) (6 : Int32).toNatClampNeg) (fun s10 => lt_ (cpM s10 (v1 + 8) (h + 8) (6 : Int32).toNatClampNeg) (fun s11 => some ((), s11))))))))))))
set_option maxRecDepth 100000 in
set_option maxHeartbeats 4000000 in
theorem bX0_copyFrom_0 {x : Cx} {z : Sx} (X : XG x z RX0 cX0_copyFrom 2 1 26) (E : XE x z) (hr : XR x none) (hZ : z.2.2.2.1 = kdC) (N : Nat) (h : Nat) (hh : z.2.2.2.1 h = (0, 0)) (v1 : Nat) (hk1 : z.2.2.2.1 v1 = (0, 0)) (σ : Mem) : VK x z 2 (BQ QV x z) 0 [(0, .ref (z.2.2.1 h)), (1, .ref (z.2.2.1 v1))] [] σ (fX0_copyFrom N h v1 σ) := by
  unfold fX0_copyFrom
  refine V_aload_n 0 X dX0_copyFrom_0 rfl rfl ?_
  refine V_aload_n 1 X dX0_copyFrom_1 rfl rfl ?_
  refine V_getI 0 X dX0_copyFrom_2 co0 hk1 (by decide) rfl wfX0_40 ?_
  refine V_putIG 0 X dX0_copyFrom_5 co0 hh (by decide) rfl wfX0_40 rfl rfl rfl (fun s1 => ?_)
  refine V_aload_n 0 X dX0_copyFrom_8 rfl rfl ?_
  refine V_aload_n 1 X dX0_copyFrom_9 rfl rfl ?_
  refine V_getI 1 X dX0_copyFrom_10 co0 hk1 (by decide) rfl wfX0_43 ?_
  refine V_putIG 1 X dX0_copyFrom_13 co0 hh (by decide) rfl wfX0_43 rfl rfl rfl (fun s2 => ?_)
  refine V_aload_n 0 X dX0_copyFrom_16 rfl rfl ?_
  refine V_aload_n 1 X dX0_copyFrom_17 rfl rfl ?_
  refine V_getI 2 X dX0_copyFrom_18 co0 hk1 (by decide) rfl wfX0_9 ?_
  refine V_putIG 2 X dX0_copyFrom_21 co0 hh (by decide) rfl wfX0_9 rfl rfl rfl (fun s3 => ?_)
  refine V_aload_n 1 X dX0_copyFrom_24 rfl rfl ?_
  refine V_getR (k1 := (v1 + 1)) 3 X dX0_copyFrom_25 co0 hk1 (by decide) rfl rfl wfX0_15 ?_
  refine V_iconst (v := 0) X dX0_copyFrom_28 (by decide) ?_
  refine V_aload_n 0 X dX0_copyFrom_29 rfl rfl ?_
  refine V_getR (k1 := (h + 1)) 3 X dX0_copyFrom_30 co0 hh (by decide) rfl rfl wfX0_15 ?_
  refine V_iconst (v := 0) X dX0_copyFrom_33 (by decide) ?_
  refine V_bipush (v := 8) X dX0_copyFrom_34 (by decide) ?_
  refine V_copy50 X dX0_copyFrom_36 (kt0_3 hZ hk1) (kt0_3 hZ hh) acX0_64 acN acS acI (by decide) (by decide) (by decide) (by decide) (Nat.le_of_ble_eq_true rfl) (fun s4 => ?_)
  refine V_aload_n 1 X dX0_copyFrom_39 rfl rfl ?_
  refine V_getR (k1 := (v1 + 2)) 4 X dX0_copyFrom_40 co0 hk1 (by decide) rfl rfl wfX0_19 ?_
  refine V_iconst (v := 0) X dX0_copyFrom_43 (by decide) ?_
  refine V_aload_n 0 X dX0_copyFrom_44 rfl rfl ?_
  refine V_getR (k1 := (h + 2)) 4 X dX0_copyFrom_45 co0 hh (by decide) rfl rfl wfX0_19 ?_
  refine V_iconst (v := 0) X dX0_copyFrom_48 (by decide) ?_
  refine V_bipush (v := 8) X dX0_copyFrom_49 (by decide) ?_
  refine V_copy50 X dX0_copyFrom_51 (kt0_4 hZ hk1) (kt0_4 hZ hh) acX0_64 acN acS acI (by decide) (by decide) (by decide) (by decide) (Nat.le_of_ble_eq_true rfl) (fun s5 => ?_)
  refine V_aload_n 1 X dX0_copyFrom_54 rfl rfl ?_
  refine V_getR (k1 := (v1 + 3)) 5 X dX0_copyFrom_55 co0 hk1 (by decide) rfl rfl wfX0_22 ?_
  refine V_iconst (v := 0) X dX0_copyFrom_58 (by decide) ?_
  refine V_aload_n 0 X dX0_copyFrom_59 rfl rfl ?_
  refine V_getR (k1 := (h + 3)) 5 X dX0_copyFrom_60 co0 hh (by decide) rfl rfl wfX0_22 ?_
  refine V_iconst (v := 0) X dX0_copyFrom_63 (by decide) ?_
  refine V_bipush (v := 8) X dX0_copyFrom_64 (by decide) ?_
  refine V_copy50 X dX0_copyFrom_66 (kt0_5 hZ hk1) (kt0_5 hZ hh) acX0_64 acN acS acI (by decide) (by decide) (by decide) (by decide) (Nat.le_of_ble_eq_true rfl) (fun s6 => ?_)
  refine V_aload_n 1 X dX0_copyFrom_69 rfl rfl ?_
  refine V_getR (k1 := (v1 + 4)) 6 X dX0_copyFrom_70 co0 hk1 (by decide) rfl rfl wfX0_25 ?_
  refine V_iconst (v := 0) X dX0_copyFrom_73 (by decide) ?_
  refine V_aload_n 0 X dX0_copyFrom_74 rfl rfl ?_
  refine V_getR (k1 := (h + 4)) 6 X dX0_copyFrom_75 co0 hh (by decide) rfl rfl wfX0_25 ?_
  refine V_iconst (v := 0) X dX0_copyFrom_78 (by decide) ?_
  refine V_bipush (v := 8) X dX0_copyFrom_79 (by decide) ?_
  refine V_copy50 X dX0_copyFrom_81 (kt0_6 hZ hk1) (kt0_6 hZ hh) acX0_64 acN acS acI (by decide) (by decide) (by decide) (by decide) (Nat.le_of_ble_eq_true rfl) (fun s7 => ?_)
  refine V_aload_n 1 X dX0_copyFrom_84 rfl rfl ?_
  refine V_getR (k1 := (v1 + 5)) 7 X dX0_copyFrom_85 co0 hk1 (by decide) rfl rfl wfX0_28 ?_
  refine V_iconst (v := 0) X dX0_copyFrom_88 (by decide) ?_
  refine V_aload_n 0 X dX0_copyFrom_89 rfl rfl ?_
  refine V_getR (k1 := (h + 5)) 7 X dX0_copyFrom_90 co0 hh (by decide) rfl rfl wfX0_28 ?_
  refine V_iconst (v := 0) X dX0_copyFrom_93 (by decide) ?_
  refine V_bipush (v := 8) X dX0_copyFrom_94 (by decide) ?_
  refine V_copy50 X dX0_copyFrom_96 (kt0_7 hZ hk1) (kt0_7 hZ hh) acX0_64 acN acS acI (by decide) (by decide) (by decide) (by decide) (Nat.le_of_ble_eq_true rfl) (fun s8 => ?_)
  refine V_aload_n 1 X dX0_copyFrom_99 rfl rfl ?_
  refine V_getR (k1 := (v1 + 6)) 8 X dX0_copyFrom_100 co0 hk1 (by decide) rfl rfl wfX0_31 ?_
  refine V_iconst (v := 0) X dX0_copyFrom_103 (by decide) ?_
  refine V_aload_n 0 X dX0_copyFrom_104 rfl rfl ?_
  refine V_getR (k1 := (h + 6)) 8 X dX0_copyFrom_105 co0 hh (by decide) rfl rfl wfX0_31 ?_
  refine V_iconst (v := 0) X dX0_copyFrom_108 (by decide) ?_
  refine V_bipush (v := 8) X dX0_copyFrom_109 (by decide) ?_
  refine V_copy50 X dX0_copyFrom_111 (kt0_8 hZ hk1) (kt0_8 hZ hh) acX0_64 acN acS acI (by decide) (by decide) (by decide) (by decide) (Nat.le_of_ble_eq_true rfl) (fun s9 => ?_)
  refine V_aload_n 1 X dX0_copyFrom_114 rfl rfl ?_
  refine V_getR (k1 := (v1 + 7)) 9 X dX0_copyFrom_115 co0 hk1 (by decide) rfl rfl wfX0_34 ?_
  refine V_iconst (v := 0) X dX0_copyFrom_118 (by decide) ?_
  refine V_aload_n 0 X dX0_copyFrom_119 rfl rfl ?_
  refine V_getR (k1 := (h + 7)) 9 X dX0_copyFrom_120 co0 hh (by decide) rfl rfl wfX0_34 ?_
  refine V_iconst (v := 0) X dX0_copyFrom_123 (by decide) ?_
  refine V_bipush (v := 6) X dX0_copyFrom_124 (by decide) ?_
  refine V_copy50 X dX0_copyFrom_126 (kt0_9 hZ hk1) (kt0_9 hZ hh) acX0_64 acN acS acI (by decide) (by decide) (by decide) (by decide) (Nat.le_of_ble_eq_true rfl) (fun s10 => ?_)
  refine V_aload_n 1 X dX0_copyFrom_129 rfl rfl ?_
  refine V_getR (k1 := (v1 + 8)) 10 X dX0_copyFrom_130 co0 hk1 (by decide) rfl rfl wfX0_37 ?_
  refine V_iconst (v := 0) X dX0_copyFrom_133 (by decide) ?_
  refine V_aload_n 0 X dX0_copyFrom_134 rfl rfl ?_
  refine V_getR (k1 := (h + 8)) 10 X dX0_copyFrom_135 co0 hh (by decide) rfl rfl wfX0_37 ?_
  refine V_iconst (v := 0) X dX0_copyFrom_138 (by decide) ?_
  refine V_bipush (v := 6) X dX0_copyFrom_139 (by decide) ?_
  refine V_copy50 X dX0_copyFrom_141 (kt0_10 hZ hk1) (kt0_10 hZ hh) acX0_64 acN acS acI (by decide) (by decide) (by decide) (by decide) (Nat.le_of_ble_eq_true rfl) (fun s11 => ?_)
  exact V_vret X E hr dX0_copyFrom_144
theorem kX0_copyFrom (l : Launch) (z : Sx) (hZ : z.2.2.2.1 = kdC) (N : Nat) (h : Nat) (hh : z.2.2.2.1 h = (0, 0)) (v1 : Nat) (hk1 : z.2.2.2.1 v1 = (0, 0)) (σ : Mem) : Ct QV yX0_copyFrom cX0_copyFrom 2 none 1 26 l z [.ref (z.2.2.1 h), .ref (z.2.2.1 v1)] σ (fX0_copyFrom N h v1 σ) := by
  refine Ct_of (by decide +kernel) (Nat.le_of_ble_eq_true rfl) rfl ?_
  intro x _ X E hr
  exact bX0_copyFrom_0 X E hr hZ N h hh v1 hk1 σ
def fX8_copyFrom (N : Nat) (h : Nat) (v1 : Nat) (σ : Mem) : Option (Unit × Mem) :=
  lt_ (pI σ h 0 (σ.1 v1 0)) (fun s1 => lt_ (cpM s1 (v1 + 1) (h + 1) (40 : Int32).toNatClampNeg) (fun s2 => lt_ (cpM s2 (v1 + 2) (h + 2) (40 : Int32).toNatClampNeg) (fun s3 => lt_ (cpM s3 (v1 + 3) (h + 3) (40 : Int32).toNatClampNeg) (fun s4 => some ((), s4)))))
set_option maxRecDepth 100000 in
set_option maxHeartbeats 4000000 in
theorem bX8_copyFrom_0 {x : Cx} {z : Sx} (X : XG x z RX8 cX8_copyFrom 2 1 26) (E : XE x z) (hr : XR x none) (hZ : z.2.2.2.1 = kdC) (N : Nat) (h : Nat) (hh : z.2.2.2.1 h = (8, 0)) (v1 : Nat) (hk1 : z.2.2.2.1 v1 = (8, 0)) (σ : Mem) : VK x z 2 (BQ QV x z) 0 [(0, .ref (z.2.2.1 h)), (1, .ref (z.2.2.1 v1))] [] σ (fX8_copyFrom N h v1 σ) := by
  unfold fX8_copyFrom
  refine V_aload_n 0 X dX8_copyFrom_0 rfl rfl ?_
  refine V_aload_n 1 X dX8_copyFrom_1 rfl rfl ?_
  refine V_getI 0 X dX8_copyFrom_2 co8 hk1 (by decide) rfl wfX8_21 ?_
  refine V_putIG 0 X dX8_copyFrom_5 co8 hh (by decide) rfl wfX8_21 rfl rfl rfl (fun s1 => ?_)
  refine V_aload_n 1 X dX8_copyFrom_8 rfl rfl ?_
  refine V_getR (k1 := (v1 + 1)) 1 X dX8_copyFrom_9 co8 hk1 (by decide) rfl rfl wfX8_9 ?_
  refine V_iconst (v := 0) X dX8_copyFrom_12 (by decide) ?_
  refine V_aload_n 0 X dX8_copyFrom_13 rfl rfl ?_
  refine V_getR (k1 := (h + 1)) 1 X dX8_copyFrom_14 co8 hh (by decide) rfl rfl wfX8_9 ?_
  refine V_iconst (v := 0) X dX8_copyFrom_17 (by decide) ?_
  refine V_bipush (v := 40) X dX8_copyFrom_18 (by decide) ?_
  refine V_copy50 X dX8_copyFrom_20 (kt8_1 hZ hk1) (kt8_1 hZ hh) acX8_25 acN acS acI (by decide) (by decide) (by decide) (by decide) (Nat.le_of_ble_eq_true rfl) (fun s2 => ?_)
  refine V_aload_n 1 X dX8_copyFrom_23 rfl rfl ?_
  refine V_getR (k1 := (v1 + 2)) 2 X dX8_copyFrom_24 co8 hk1 (by decide) rfl rfl wfX8_15 ?_
  refine V_iconst (v := 0) X dX8_copyFrom_27 (by decide) ?_
  refine V_aload_n 0 X dX8_copyFrom_28 rfl rfl ?_
  refine V_getR (k1 := (h + 2)) 2 X dX8_copyFrom_29 co8 hh (by decide) rfl rfl wfX8_15 ?_
  refine V_iconst (v := 0) X dX8_copyFrom_32 (by decide) ?_
  refine V_bipush (v := 40) X dX8_copyFrom_33 (by decide) ?_
  refine V_copy50 X dX8_copyFrom_35 (kt8_2 hZ hk1) (kt8_2 hZ hh) acX8_25 acN acS acI (by decide) (by decide) (by decide) (by decide) (Nat.le_of_ble_eq_true rfl) (fun s3 => ?_)
  refine V_aload_n 1 X dX8_copyFrom_38 rfl rfl ?_
  refine V_getR (k1 := (v1 + 3)) 3 X dX8_copyFrom_39 co8 hk1 (by decide) rfl rfl wfX8_18 ?_
  refine V_iconst (v := 0) X dX8_copyFrom_42 (by decide) ?_
  refine V_aload_n 0 X dX8_copyFrom_43 rfl rfl ?_
  refine V_getR (k1 := (h + 3)) 3 X dX8_copyFrom_44 co8 hh (by decide) rfl rfl wfX8_18 ?_
  refine V_iconst (v := 0) X dX8_copyFrom_47 (by decide) ?_
  refine V_bipush (v := 40) X dX8_copyFrom_48 (by decide) ?_
  refine V_copy50 X dX8_copyFrom_50 (kt8_3 hZ hk1) (kt8_3 hZ hh) acX8_25 acN acS acI (by decide) (by decide) (by decide) (by decide) (Nat.le_of_ble_eq_true rfl) (fun s4 => ?_)
  exact V_vret X E hr dX8_copyFrom_53
theorem kX8_copyFrom (l : Launch) (z : Sx) (hZ : z.2.2.2.1 = kdC) (N : Nat) (h : Nat) (hh : z.2.2.2.1 h = (8, 0)) (v1 : Nat) (hk1 : z.2.2.2.1 v1 = (8, 0)) (σ : Mem) : Ct QV yX8_copyFrom cX8_copyFrom 2 none 1 26 l z [.ref (z.2.2.1 h), .ref (z.2.2.1 v1)] σ (fX8_copyFrom N h v1 σ) := by
  refine Ct_of (by decide +kernel) (Nat.le_of_ble_eq_true rfl) rfl ?_
  intro x _ X E hr
  exact bX8_copyFrom_0 X E hr hZ N h hh v1 hk1 σ
def fX4_copyFrom (N : Nat) (h : Nat) (v1 : Nat) (σ : Mem) : Option (Unit × Mem) :=
  lt_ (pI σ h 0 (σ.1 v1 0)) (fun s1 => lt_ (cpM s1 (v1 + 1) (h + 1) (8 : Int32).toNatClampNeg) (fun s2 => lt_ (cpM s2 (v1 + 2) (h + 2) (8 : Int32).toNatClampNeg) (fun s3 => lt_ (cpM s3 (v1 + 3) (h + 3) (8 : Int32).toNatClampNeg) (fun s4 => lt_ (cpM s4 (v1 + 4) (h + 4) (8 : Int32).toNatClampNeg) (fun s5 => some ((), s5))))))
set_option maxRecDepth 100000 in
set_option maxHeartbeats 4000000 in
theorem bX4_copyFrom_0 {x : Cx} {z : Sx} (X : XG x z RX4 cX4_copyFrom 2 1 26) (E : XE x z) (hr : XR x none) (hZ : z.2.2.2.1 = kdC) (N : Nat) (h : Nat) (hh : z.2.2.2.1 h = (4, 0)) (v1 : Nat) (hk1 : z.2.2.2.1 v1 = (4, 0)) (σ : Mem) : VK x z 2 (BQ QV x z) 0 [(0, .ref (z.2.2.1 h)), (1, .ref (z.2.2.1 v1))] [] σ (fX4_copyFrom N h v1 σ) := by
  unfold fX4_copyFrom
  refine V_aload_n 0 X dX4_copyFrom_0 rfl rfl ?_
  refine V_aload_n 1 X dX4_copyFrom_1 rfl rfl ?_
  refine V_getI 0 X dX4_copyFrom_2 co4 hk1 (by decide) rfl wfX4_24 ?_
  refine V_putIG 0 X dX4_copyFrom_5 co4 hh (by decide) rfl wfX4_24 rfl rfl rfl (fun s1 => ?_)
  refine V_aload_n 1 X dX4_copyFrom_8 rfl rfl ?_
  refine V_getR (k1 := (v1 + 1)) 1 X dX4_copyFrom_9 co4 hk1 (by decide) rfl rfl wfX4_9 ?_
  refine V_iconst (v := 0) X dX4_copyFrom_12 (by decide) ?_
  refine V_aload_n 0 X dX4_copyFrom_13 rfl rfl ?_
  refine V_getR (k1 := (h + 1)) 1 X dX4_copyFrom_14 co4 hh (by decide) rfl rfl wfX4_9 ?_
  refine V_iconst (v := 0) X dX4_copyFrom_17 (by decide) ?_
  refine V_bipush (v := 8) X dX4_copyFrom_18 (by decide) ?_
  refine V_copy50 X dX4_copyFrom_20 (kt4_1 hZ hk1) (kt4_1 hZ hh) acX4_59 acN acS acI (by decide) (by decide) (by decide) (by decide) (Nat.le_of_ble_eq_true rfl) (fun s2 => ?_)
  refine V_aload_n 1 X dX4_copyFrom_23 rfl rfl ?_
  refine V_getR (k1 := (v1 + 2)) 2 X dX4_copyFrom_24 co4 hk1 (by decide) rfl rfl wfX4_15 ?_
  refine V_iconst (v := 0) X dX4_copyFrom_27 (by decide) ?_
  refine V_aload_n 0 X dX4_copyFrom_28 rfl rfl ?_
  refine V_getR (k1 := (h + 2)) 2 X dX4_copyFrom_29 co4 hh (by decide) rfl rfl wfX4_15 ?_
  refine V_iconst (v := 0) X dX4_copyFrom_32 (by decide) ?_
  refine V_bipush (v := 8) X dX4_copyFrom_33 (by decide) ?_
  refine V_copy50 X dX4_copyFrom_35 (kt4_2 hZ hk1) (kt4_2 hZ hh) acX4_59 acN acS acI (by decide) (by decide) (by decide) (by decide) (Nat.le_of_ble_eq_true rfl) (fun s3 => ?_)
  refine V_aload_n 1 X dX4_copyFrom_38 rfl rfl ?_
  refine V_getR (k1 := (v1 + 3)) 3 X dX4_copyFrom_39 co4 hk1 (by decide) rfl rfl wfX4_18 ?_
  refine V_iconst (v := 0) X dX4_copyFrom_42 (by decide) ?_
  refine V_aload_n 0 X dX4_copyFrom_43 rfl rfl ?_
  refine V_getR (k1 := (h + 3)) 3 X dX4_copyFrom_44 co4 hh (by decide) rfl rfl wfX4_18 ?_
  refine V_iconst (v := 0) X dX4_copyFrom_47 (by decide) ?_
  refine V_bipush (v := 8) X dX4_copyFrom_48 (by decide) ?_
  refine V_copy50 X dX4_copyFrom_50 (kt4_3 hZ hk1) (kt4_3 hZ hh) acX4_59 acN acS acI (by decide) (by decide) (by decide) (by decide) (Nat.le_of_ble_eq_true rfl) (fun s4 => ?_)
  refine V_aload_n 1 X dX4_copyFrom_53 rfl rfl ?_
  refine V_getR (k1 := (v1 + 4)) 4 X dX4_copyFrom_54 co4 hk1 (by decide) rfl rfl wfX4_21 ?_
  refine V_iconst (v := 0) X dX4_copyFrom_57 (by decide) ?_
  refine V_aload_n 0 X dX4_copyFrom_58 rfl rfl ?_
  refine V_getR (k1 := (h + 4)) 4 X dX4_copyFrom_59 co4 hh (by decide) rfl rfl wfX4_21 ?_
  refine V_iconst (v := 0) X dX4_copyFrom_62 (by decide) ?_
  refine V_bipush (v := 8) X dX4_copyFrom_63 (by decide) ?_
  refine V_copy50 X dX4_copyFrom_65 (kt4_4 hZ hk1) (kt4_4 hZ hh) acX4_59 acN acS acI (by decide) (by decide) (by decide) (by decide) (Nat.le_of_ble_eq_true rfl) (fun s5 => ?_)
  exact V_vret X E hr dX4_copyFrom_68
theorem kX4_copyFrom (l : Launch) (z : Sx) (hZ : z.2.2.2.1 = kdC) (N : Nat) (h : Nat) (hh : z.2.2.2.1 h = (4, 0)) (v1 : Nat) (hk1 : z.2.2.2.1 v1 = (4, 0)) (σ : Mem) : Ct QV yX4_copyFrom cX4_copyFrom 2 none 1 26 l z [.ref (z.2.2.1 h), .ref (z.2.2.1 v1)] σ (fX4_copyFrom N h v1 σ) := by
  refine Ct_of (by decide +kernel) (Nat.le_of_ble_eq_true rfl) rfl ?_
  intro x _ X E hr
  exact bX4_copyFrom_0 X E hr hZ N h hh v1 hk1 σ
def fX9_keep_b73 (N : Nat) (h : Nat) (v1 : Int32) (v2 : Int32) (σ : Mem) : Option (Unit × Mem) :=
  gd (inb v1 3) (gd (inb v1 3) (lt_ (pI σ (h + 2) v1.toNatClampNeg (mxI (σ.1 (h + 2) v1.toNatClampNeg) (v2 + 1))) (fun s10 => some ((), s10))))
set_option maxRecDepth 100000 in
set_option maxHeartbeats 4000000 in
theorem bX9_keep_73 {x : Cx} {z : Sx} (X : XG x z RX9 cX9_keep 4 2 47) (E : XE x z) (hr : XR x none) (hZ : z.2.2.2.1 = kdC) (N : Nat) (h : Nat) (hh : z.2.2.2.1 h = (9, 0)) (v1 : Int32) (v2 : Int32) (σ : Mem) : VK x z 4 (BQ QV x z) 73 [(0, .ref (z.2.2.1 h)), (1, .int v1), (2, .int v2)] [] σ (fX9_keep_b73 N h v1 v2 σ) := by
  unfold fX9_keep_b73
  refine V_aload_n 0 X dX9_keep_73 rfl rfl ?_
  refine V_getR (k1 := (h + 2)) 4 X dX9_keep_74 co9 hh (by decide) rfl rfl wfX9_19 ?_
  refine V_iload_n 1 X dX9_keep_77 rfl rfl ?_
  refine V_aload_n 0 X dX9_keep_78 rfl rfl ?_
  refine V_getR (k1 := (h + 2)) 4 X dX9_keep_79 co9 hh (by decide) rfl rfl wfX9_19 ?_
  refine V_iload_n 1 X dX9_keep_82 rfl rfl ?_
  refine V_iald X dX9_keep_83 (kt9_4 hZ hh) ?_
  refine V_iload_n 2 X dX9_keep_84 rfl rfl ?_
  refine V_iconst (v := 1) X dX9_keep_85 (by decide) ?_
  refine V_iadd X dX9_keep_86 ?_
  refine V_mmax X dX9_keep_87 mtX9_71 mtS_max mtI mtC_max (by decide) (Nat.le_of_ble_eq_true rfl) ?_
  refine V_iastG X dX9_keep_90 (kt9_4 hZ hh) (fun s10 => ?_)
  exact V_vret X E hr dX9_keep_91
def fX9_keep (N : Nat) (h : Nat) (v1 : Int32) (v2 : Int32) (v3 : Nat) (σ : Mem) : Option (Unit × Mem) :=
  if v1 < 0 then some ((), σ) else if 3 ≤ v1 then some ((), σ) else if v2 < 0 then some ((), σ) else if v2 < 2 then if v1 = 0 then gd (inb v2 2) (bd (fX0_copyFrom N (raE 60 (h + 3) v2.toNatClampNeg) (v3 + 1) σ) (fun r8 s9 => fX9_keep_b73 N h v1 v2 s9)) else if v1 = 1 then gd (inb v2 2) (bd (fX8_copyFrom N (raE 61 (h + 4) v2.toNatClampNeg) (v3 + 10) σ) (fun r5 s6 => fX9_keep_b73 N h v1 v2 s6)) else gd (inb v2 2) (bd (fX4_copyFrom N (raE 62 (h + 5) v2.toNatClampNeg) (v3 + 14) σ) (fun r2 s3 => fX9_keep_b73 N h v1 v2 s3)) else some ((), σ)
set_option maxRecDepth 100000 in
set_option maxHeartbeats 4000000 in
theorem bX9_keep_0 {x : Cx} {z : Sx} (X : XG x z RX9 cX9_keep 4 2 47) (E : XE x z) (hr : XR x none) (hZ : z.2.2.2.1 = kdC) (N : Nat) (h : Nat) (hh : z.2.2.2.1 h = (9, 0)) (v1 : Int32) (v2 : Int32) (v3 : Nat) (hk3 : z.2.2.2.1 v3 = (6, 0)) (σ : Mem) : VK x z 4 (BQ QV x z) 0 [(0, .ref (z.2.2.1 h)), (1, .int v1), (2, .int v2), (3, .ref (z.2.2.1 v3))] [] σ (fX9_keep N h v1 v2 v3 σ) := by
  unfold fX9_keep
  refine V_iload_n 1 X dX9_keep_0 rfl rfl ?_
  refine V_if_lt (tgt := 18) X dX9_keep_1 (by decide) ?_ ?_
  · exact V_vret X E hr dX9_keep_18
  · refine V_iload_n 1 X dX9_keep_4 rfl rfl ?_
    refine V_iconst (v := 3) X dX9_keep_5 (by decide) ?_
    refine V_icmp_ge (tgt := 18) X dX9_keep_6 (by decide) ?_ ?_
    · exact V_vret X E hr dX9_keep_18
    · refine V_iload_n 2 X dX9_keep_9 rfl rfl ?_
      refine V_if_lt (tgt := 18) X dX9_keep_10 (by decide) ?_ ?_
      · exact V_vret X E hr dX9_keep_18
      · refine V_iload_n 2 X dX9_keep_13 rfl rfl ?_
        refine V_iconst (v := 2) X dX9_keep_14 (by decide) ?_
        refine V_icmp_lt (tgt := 19) X dX9_keep_15 (by decide) ?_ ?_
        · refine V_iload_n 1 X dX9_keep_19 rfl rfl ?_
          refine V_if_ne (tgt := 39) X dX9_keep_20 (by decide) ?_ ?_
          · refine V_iload_n 1 X dX9_keep_39 rfl rfl ?_
            refine V_iconst (v := 1) X dX9_keep_40 (by decide) ?_
            refine V_icmp_ne (tgt := 60) X dX9_keep_41 (by decide) ?_ ?_
            · refine V_aload_n 0 X dX9_keep_60 rfl rfl ?_
              refine V_getR (k1 := (h + 5)) 7 X dX9_keep_61 co9 hh (by decide) rfl rfl wfX9_37 ?_
              refine V_iload_n 2 X dX9_keep_64 rfl rfl ?_
              refine V_aald62 X dX9_keep_65 (kt9_7 hZ hh) (fun hi1 => ?_)
              refine V_aload_n 3 X dX9_keep_66 rfl rfl ?_
              refine V_getR (k1 := (v3 + 14)) 2 X dX9_keep_67 co6 hk3 (by decide) rfl rfl wfX9_64 ?_
              refine V_callV [.ref (z.2.2.1 (v3 + 14))] [] X E dX9_keep_70 (kX4_copyFrom x.2.1 z hZ N (raE 62 (h + 5) v2.toNatClampNeg) (ke62 hZ (kt9_7 hZ hh) hi1) (v3 + 14) (kt6_2 hZ hk3) σ) co4 (ke62 hZ (kt9_7 hZ hh) hi1) gcX9_68 hyX4_copyFrom rfl ⟨by decide, by decide⟩ rfl (Nat.le_of_ble_eq_true rfl) (fun r2 s3 => ?_)
              refine V_sub [0, 1, 2] rfl ?_
              exact bX9_keep_73 X E hr hZ N h hh v1 v2 s3
            · refine V_aload_n 0 X dX9_keep_44 rfl rfl ?_
              refine V_getR (k1 := (h + 4)) 6 X dX9_keep_45 co9 hh (by decide) rfl rfl wfX9_31 ?_
              refine V_iload_n 2 X dX9_keep_48 rfl rfl ?_
              refine V_aald61 X dX9_keep_49 (kt9_6 hZ hh) (fun hi4 => ?_)
              refine V_aload_n 3 X dX9_keep_50 rfl rfl ?_
              refine V_getR (k1 := (v3 + 10)) 1 X dX9_keep_51 co6 hk3 (by decide) rfl rfl wfX9_57 ?_
              refine V_callV [.ref (z.2.2.1 (v3 + 10))] [] X E dX9_keep_54 (kX8_copyFrom x.2.1 z hZ N (raE 61 (h + 4) v2.toNatClampNeg) (ke61 hZ (kt9_6 hZ hh) hi4) (v3 + 10) (kt6_1 hZ hk3) σ) co8 (ke61 hZ (kt9_6 hZ hh) hi4) gcX9_61 hyX8_copyFrom rfl ⟨by decide, by decide⟩ rfl (Nat.le_of_ble_eq_true rfl) (fun r5 s6 => ?_)
              refine V_goto (tgt := 73) X dX9_keep_57 (by decide) ?_
              refine V_sub [0, 1, 2] rfl ?_
              exact bX9_keep_73 X E hr hZ N h hh v1 v2 s6
          · refine V_aload_n 0 X dX9_keep_23 rfl rfl ?_
            refine V_getR (k1 := (h + 3)) 5 X dX9_keep_24 co9 hh (by decide) rfl rfl wfX9_25 ?_
            refine V_iload_n 2 X dX9_keep_27 rfl rfl ?_
            refine V_aald60 X dX9_keep_28 (kt9_5 hZ hh) (fun hi7 => ?_)
            refine V_aload_n 3 X dX9_keep_29 rfl rfl ?_
            refine V_getR (k1 := (v3 + 1)) 0 X dX9_keep_30 co6 hk3 (by decide) rfl rfl wfX9_47 ?_
            refine V_callV [.ref (z.2.2.1 (v3 + 1))] [] X E dX9_keep_33 (kX0_copyFrom x.2.1 z hZ N (raE 60 (h + 3) v2.toNatClampNeg) (ke60 hZ (kt9_5 hZ hh) hi7) (v3 + 1) (kt6_0 hZ hk3) σ) co0 (ke60 hZ (kt9_5 hZ hh) hi7) gcX9_53 hyX0_copyFrom rfl ⟨by decide, by decide⟩ rfl (Nat.le_of_ble_eq_true rfl) (fun r8 s9 => ?_)
            refine V_goto (tgt := 73) X dX9_keep_36 (by decide) ?_
            refine V_sub [0, 1, 2] rfl ?_
            exact bX9_keep_73 X E hr hZ N h hh v1 v2 s9
        · exact V_vret X E hr dX9_keep_18
theorem kX9_keep (l : Launch) (z : Sx) (hZ : z.2.2.2.1 = kdC) (N : Nat) (h : Nat) (hh : z.2.2.2.1 h = (9, 0)) (v1 : Int32) (v2 : Int32) (v3 : Nat) (hk3 : z.2.2.2.1 v3 = (6, 0)) (σ : Mem) : Ct QV yX9_keep cX9_keep 4 none 2 47 l z [.ref (z.2.2.1 h), .int v1, .int v2, .ref (z.2.2.1 v3)] σ (fX9_keep N h v1 v2 v3 σ) := by
  refine Ct_of (by decide +kernel) (Nat.le_of_ble_eq_true rfl) rfl ?_
  intro x _ X E hr
  exact bX9_keep_0 X E hr hZ N h hh v1 v2 v3 hk3 σ
def fX11_fault (N : Nat) (h : Nat) (v1 : Int32) (σ : Mem) : Option (Int32 × Mem) :=
  if v1 = 0 then some ((σ.1 (h + 1) 2), σ) else if v1 = 1 then some ((σ.1 (h + 1) 3), σ) else some ((-1), σ)
set_option maxRecDepth 100000 in
set_option maxHeartbeats 4000000 in
theorem bX11_fault_0 {x : Cx} {z : Sx} (X : XG x z RX11 cX11_fault 2 0 0) (E : XE x z) (hr : XR x (some .int)) (hZ : z.2.2.2.1 = kdC) (N : Nat) (h : Nat) (hh : z.2.2.2.1 h = (11, 0)) (v1 : Int32) (σ : Mem) : VK x z 2 (BQ QI x z) 0 [(0, .ref (z.2.2.1 h)), (1, .int v1)] [] σ (fX11_fault N h v1 σ) := by
  unfold fX11_fault
  refine V_iload_n 1 X dX11_fault_0 rfl rfl ?_
  refine V_if_ne (tgt := 12) X dX11_fault_1 (by decide) ?_ ?_
  · refine V_iload_n 1 X dX11_fault_12 rfl rfl ?_
    refine V_iconst (v := 1) X dX11_fault_13 (by decide) ?_
    refine V_icmp_ne (tgt := 27) X dX11_fault_14 (by decide) ?_ ?_
    · refine V_iconst (v := -1) X dX11_fault_27 (by decide) ?_
      exact V_iret X E hr dX11_fault_28
    · refine V_aload_n 0 X dX11_fault_17 rfl rfl ?_
      refine V_getR (k1 := (h + 1)) 0 X dX11_fault_18 co11 hh (by decide) rfl rfl wfX11_10 ?_
      refine V_getI 3 X dX11_fault_21 co9 (kt11_0 hZ hh) (by decide) rfl wfX11_84 ?_
      refine V_goto (tgt := 28) X dX11_fault_24 (by decide) ?_
      exact V_iret X E hr dX11_fault_28
  · refine V_aload_n 0 X dX11_fault_4 rfl rfl ?_
    refine V_getR (k1 := (h + 1)) 0 X dX11_fault_5 co11 hh (by decide) rfl rfl wfX11_10 ?_
    refine V_getI 2 X dX11_fault_8 co9 (kt11_0 hZ hh) (by decide) rfl wfX11_81 ?_
    exact V_iret X E hr dX11_fault_11
theorem kX11_fault (l : Launch) (z : Sx) (hZ : z.2.2.2.1 = kdC) (N : Nat) (h : Nat) (hh : z.2.2.2.1 h = (11, 0)) (v1 : Int32) (σ : Mem) : Ct QI yX11_fault cX11_fault 2 (some .int) 0 0 l z [.ref (z.2.2.1 h), .int v1] σ (fX11_fault N h v1 σ) := by
  refine Ct_of (by decide +kernel) (Nat.le_of_ble_eq_true rfl) rfl ?_
  intro x _ X E hr
  exact bX11_fault_0 X E hr hZ N h hh v1 σ
def fX9_isThere (N : Nat) (h : Nat) (v1 : Int32) (v2 : Int32) (σ : Mem) : Option (Int32 × Mem) :=
  if v2 < 0 then some (0, σ) else if 2 ≤ v2 then some (0, σ) else gd (inb v1 3) (if (σ.1 (h + 2) v1.toNatClampNeg) ≤ v2 then some (0, σ) else some (1, σ))
set_option maxRecDepth 100000 in
set_option maxHeartbeats 4000000 in
theorem bX9_isThere_0 {x : Cx} {z : Sx} (X : XG x z RX9 cX9_isThere 3 0 0) (E : XE x z) (hr : XR x (some .boolean)) (hZ : z.2.2.2.1 = kdC) (N : Nat) (h : Nat) (hh : z.2.2.2.1 h = (9, 0)) (v1 : Int32) (v2 : Int32) (σ : Mem) : VK x z 3 (BQ QI x z) 0 [(0, .ref (z.2.2.1 h)), (1, .int v1), (2, .int v2)] [] σ (fX9_isThere N h v1 v2 σ) := by
  unfold fX9_isThere
  refine V_iload_n 2 X dX9_isThere_0 rfl rfl ?_
  refine V_if_lt (tgt := 23) X dX9_isThere_1 (by decide) ?_ ?_
  · refine V_iconst (v := 0) X dX9_isThere_23 (by decide) ?_
    exact V_zret X E hr dX9_isThere_24 (by decide)
  · refine V_iload_n 2 X dX9_isThere_4 rfl rfl ?_
    refine V_iconst (v := 2) X dX9_isThere_5 (by decide) ?_
    refine V_icmp_ge (tgt := 23) X dX9_isThere_6 (by decide) ?_ ?_
    · refine V_iconst (v := 0) X dX9_isThere_23 (by decide) ?_
      exact V_zret X E hr dX9_isThere_24 (by decide)
    · refine V_iload_n 2 X dX9_isThere_9 rfl rfl ?_
      refine V_aload_n 0 X dX9_isThere_10 rfl rfl ?_
      refine V_getR (k1 := (h + 2)) 4 X dX9_isThere_11 co9 hh (by decide) rfl rfl wfX9_19 ?_
      refine V_iload_n 1 X dX9_isThere_14 rfl rfl ?_
      refine V_iald X dX9_isThere_15 (kt9_4 hZ hh) ?_
      refine V_icmp_ge (tgt := 23) X dX9_isThere_16 (by decide) ?_ ?_
      · refine V_iconst (v := 0) X dX9_isThere_23 (by decide) ?_
        exact V_zret X E hr dX9_isThere_24 (by decide)
      · refine V_iconst (v := 1) X dX9_isThere_19 (by decide) ?_
        refine V_goto (tgt := 24) X dX9_isThere_20 (by decide) ?_
        exact V_zret X E hr dX9_isThere_24 (by decide)
theorem kX9_isThere (l : Launch) (z : Sx) (hZ : z.2.2.2.1 = kdC) (N : Nat) (h : Nat) (hh : z.2.2.2.1 h = (9, 0)) (v1 : Int32) (v2 : Int32) (σ : Mem) : Ct QI yX9_isThere cX9_isThere 3 (some .boolean) 0 0 l z [.ref (z.2.2.1 h), .int v1, .int v2] σ (fX9_isThere N h v1 v2 σ) := by
  refine Ct_of (by decide +kernel) (Nat.le_of_ble_eq_true rfl) rfl ?_
  intro x _ X E hr
  exact bX9_isThere_0 X E hr hZ N h hh v1 v2 σ
def fX9_chamberAt (N : Nat) (h : Nat) (v1 : Int32) (σ : Mem) : Option (Option Nat × Mem) :=
  bd (fX9_isThere N h 0 v1 σ) (fun r1 s2 => if r1 = 0 then some (none, s2) else gd (inb v1 2) (some (some (raE 60 (h + 3) v1.toNatClampNeg), s2)))
set_option maxRecDepth 100000 in
set_option maxHeartbeats 4000000 in
theorem bX9_chamberAt_0 {x : Cx} {z : Sx} (X : XG x z RX9 cX9_chamberAt 2 1 22) (E : XE x z) (hr : XR x (some (.object "FurnitureVotes$Chamber"))) (hZ : z.2.2.2.1 = kdC) (N : Nat) (h : Nat) (hh : z.2.2.2.1 h = (9, 0)) (v1 : Int32) (σ : Mem) : VK x z 2 (BQ QQ x z) 0 [(0, .ref (z.2.2.1 h)), (1, .int v1)] [] σ (fX9_chamberAt N h v1 σ) := by
  unfold fX9_chamberAt
  refine V_aload_n 0 X dX9_chamberAt_0 rfl rfl ?_
  refine V_iconst (v := 0) X dX9_chamberAt_1 (by decide) ?_
  refine V_iload_n 1 X dX9_chamberAt_2 rfl rfl ?_
  refine V_callI [.int 0, .int v1] [] X E dX9_chamberAt_3 (kX9_isThere x.2.1 z hZ N h hh 0 v1 σ) co9 hh gcX9_77 hyX9_isThere rfl ⟨by decide, by decide⟩ rfl (Nat.le_of_ble_eq_true rfl) (fun r1 s2 => ?_)
  refine V_if_eq (tgt := 18) X dX9_chamberAt_6 (by decide) ?_ ?_
  · refine V_null X dX9_chamberAt_18 ?_
    exact V_aretN X E hr dX9_chamberAt_19
  · refine V_aload_n 0 X dX9_chamberAt_9 rfl rfl ?_
    refine V_getR (k1 := (h + 3)) 5 X dX9_chamberAt_10 co9 hh (by decide) rfl rfl wfX9_25 ?_
    refine V_iload_n 1 X dX9_chamberAt_13 rfl rfl ?_
    refine V_aald60 X dX9_chamberAt_14 (kt9_5 hZ hh) (fun hi3 => ?_)
    refine V_goto (tgt := 19) X dX9_chamberAt_15 (by decide) ?_
    exact V_aret X E hr dX9_chamberAt_19
theorem kX9_chamberAt (l : Launch) (z : Sx) (hZ : z.2.2.2.1 = kdC) (N : Nat) (h : Nat) (hh : z.2.2.2.1 h = (9, 0)) (v1 : Int32) (σ : Mem) : Ct QQ yX9_chamberAt cX9_chamberAt 2 (some (.object "FurnitureVotes$Chamber")) 1 22 l z [.ref (z.2.2.1 h), .int v1] σ (fX9_chamberAt N h v1 σ) := by
  refine Ct_of (by decide +kernel) (Nat.le_of_ble_eq_true rfl) rfl ?_
  intro x _ X E hr
  exact bX9_chamberAt_0 X E hr hZ N h hh v1 σ
def fX0_tellWhole (N : Nat) (h : Nat) (v1 : Int32) (σ : Mem) : Option (Int32 × Mem) :=
  if v1 = 0 then some ((σ.1 h 0), σ) else if v1 = 1 then some ((σ.1 h 1), σ) else if v1 = 2 then some ((σ.1 h 2), σ) else some ((-1), σ)
set_option maxRecDepth 100000 in
set_option maxHeartbeats 4000000 in
theorem bX0_tellWhole_0 {x : Cx} {z : Sx} (X : XG x z RX0 cX0_tellWhole 2 0 0) (E : XE x z) (hr : XR x (some .int)) (hZ : z.2.2.2.1 = kdC) (N : Nat) (h : Nat) (hh : z.2.2.2.1 h = (0, 0)) (v1 : Int32) (σ : Mem) : VK x z 2 (BQ QI x z) 0 [(0, .ref (z.2.2.1 h)), (1, .int v1)] [] σ (fX0_tellWhole N h v1 σ) := by
  unfold fX0_tellWhole
  refine V_iload_n 1 X dX0_tellWhole_0 rfl rfl ?_
  refine V_if_ne (tgt := 9) X dX0_tellWhole_1 (by decide) ?_ ?_
  · refine V_iload_n 1 X dX0_tellWhole_9 rfl rfl ?_
    refine V_iconst (v := 1) X dX0_tellWhole_10 (by decide) ?_
    refine V_icmp_ne (tgt := 19) X dX0_tellWhole_11 (by decide) ?_ ?_
    · refine V_iload_n 1 X dX0_tellWhole_19 rfl rfl ?_
      refine V_iconst (v := 2) X dX0_tellWhole_20 (by decide) ?_
      refine V_icmp_ne (tgt := 31) X dX0_tellWhole_21 (by decide) ?_ ?_
      · refine V_iconst (v := -1) X dX0_tellWhole_31 (by decide) ?_
        exact V_iret X E hr dX0_tellWhole_32
      · refine V_aload_n 0 X dX0_tellWhole_24 rfl rfl ?_
        refine V_getI 2 X dX0_tellWhole_25 co0 hh (by decide) rfl wfX0_9 ?_
        refine V_goto (tgt := 32) X dX0_tellWhole_28 (by decide) ?_
        exact V_iret X E hr dX0_tellWhole_32
    · refine V_aload_n 0 X dX0_tellWhole_14 rfl rfl ?_
      refine V_getI 1 X dX0_tellWhole_15 co0 hh (by decide) rfl wfX0_43 ?_
      exact V_iret X E hr dX0_tellWhole_18
  · refine V_aload_n 0 X dX0_tellWhole_4 rfl rfl ?_
    refine V_getI 0 X dX0_tellWhole_5 co0 hh (by decide) rfl wfX0_40 ?_
    exact V_iret X E hr dX0_tellWhole_8
theorem kX0_tellWhole (l : Launch) (z : Sx) (hZ : z.2.2.2.1 = kdC) (N : Nat) (h : Nat) (hh : z.2.2.2.1 h = (0, 0)) (v1 : Int32) (σ : Mem) : Ct QI yX0_tellWhole cX0_tellWhole 2 (some .int) 0 0 l z [.ref (z.2.2.1 h), .int v1] σ (fX0_tellWhole N h v1 σ) := by
  refine Ct_of (by decide +kernel) (Nat.le_of_ble_eq_true rfl) rfl ?_
  intro x _ X E hr
  exact bX0_tellWhole_0 X E hr hZ N h hh v1 σ
def fX0_tellPiece (N : Nat) (h : Nat) (v1 : Int32) (v2 : Int32) (σ : Mem) : Option (Int32 × Mem) :=
  bd (fX0_hasPiece N h v2 σ) (fun r1 s2 => if r1 = 0 then some ((-1), s2) else if v1 = 1 then gd (inb v2 8) (some ((s2.1 (h + 1) v2.toNatClampNeg), s2)) else if v1 = 2 then gd (inb v2 8) (some ((s2.1 (h + 2) v2.toNatClampNeg), s2)) else if v1 = 3 then gd (inb v2 8) (some ((s2.1 (h + 3) v2.toNatClampNeg), s2)) else if v1 = 4 then gd (inb v2 8) (some ((s2.1 (h + 4) v2.toNatClampNeg), s2)) else if v1 = 5 then gd (inb v2 8) (some ((s2.1 (h + 5) v2.toNatClampNeg), s2)) else if v1 = 6 then gd (inb v2 8) (some ((s2.1 (h + 6) v2.toNatClampNeg), s2)) else some ((-1), s2))
set_option maxRecDepth 100000 in
set_option maxHeartbeats 4000000 in
theorem bX0_tellPiece_0 {x : Cx} {z : Sx} (X : XG x z RX0 cX0_tellPiece 3 1 21) (E : XE x z) (hr : XR x (some .int)) (hZ : z.2.2.2.1 = kdC) (N : Nat) (h : Nat) (hh : z.2.2.2.1 h = (0, 0)) (v1 : Int32) (v2 : Int32) (σ : Mem) : VK x z 3 (BQ QI x z) 0 [(0, .ref (z.2.2.1 h)), (1, .int v1), (2, .int v2)] [] σ (fX0_tellPiece N h v1 v2 σ) := by
  unfold fX0_tellPiece
  refine V_aload_n 0 X dX0_tellPiece_0 rfl rfl ?_
  refine V_iload_n 2 X dX0_tellPiece_1 rfl rfl ?_
  refine V_callI [.int v2] [] X E dX0_tellPiece_2 (kX0_hasPiece x.2.1 z hZ N h hh v2 σ) co0 hh gcX0_46 hyX0_hasPiece rfl ⟨by decide, by decide⟩ rfl (Nat.le_of_ble_eq_true rfl) (fun r1 s2 => ?_)
  refine V_if_ne (tgt := 10) X dX0_tellPiece_5 (by decide) ?_ ?_
  · refine V_iload_n 1 X dX0_tellPiece_10 rfl rfl ?_
    refine V_split (c := 1) (fun n11_1 => ?_) (fun n11_1 => ?_)
    · refine V_tabAt (c := 1) (tgt := 48) X dX0_tellPiece_11 n11_1 (by decide) (by decide) (by rfl) (by decide) ?_
      refine V_aload_n 0 X dX0_tellPiece_48 rfl rfl ?_
      refine V_getR (k1 := (h + 1)) 3 X dX0_tellPiece_49 co0 hh (by decide) rfl rfl wfX0_15 ?_
      refine V_iload_n 2 X dX0_tellPiece_52 rfl rfl ?_
      refine V_iald X dX0_tellPiece_53 (kt0_3 hZ hh) ?_
      exact V_iret X E hr dX0_tellPiece_54
    refine V_split (c := 2) (fun n11_2 => ?_) (fun n11_2 => ?_)
    · refine V_tabAt (c := 2) (tgt := 55) X dX0_tellPiece_11 n11_2 (by decide) (by decide) (by rfl) (by decide) ?_
      refine V_aload_n 0 X dX0_tellPiece_55 rfl rfl ?_
      refine V_getR (k1 := (h + 2)) 4 X dX0_tellPiece_56 co0 hh (by decide) rfl rfl wfX0_19 ?_
      refine V_iload_n 2 X dX0_tellPiece_59 rfl rfl ?_
      refine V_iald X dX0_tellPiece_60 (kt0_4 hZ hh) ?_
      exact V_iret X E hr dX0_tellPiece_61
    refine V_split (c := 3) (fun n11_3 => ?_) (fun n11_3 => ?_)
    · refine V_tabAt (c := 3) (tgt := 62) X dX0_tellPiece_11 n11_3 (by decide) (by decide) (by rfl) (by decide) ?_
      refine V_aload_n 0 X dX0_tellPiece_62 rfl rfl ?_
      refine V_getR (k1 := (h + 3)) 5 X dX0_tellPiece_63 co0 hh (by decide) rfl rfl wfX0_22 ?_
      refine V_iload_n 2 X dX0_tellPiece_66 rfl rfl ?_
      refine V_iald X dX0_tellPiece_67 (kt0_5 hZ hh) ?_
      exact V_iret X E hr dX0_tellPiece_68
    refine V_split (c := 4) (fun n11_4 => ?_) (fun n11_4 => ?_)
    · refine V_tabAt (c := 4) (tgt := 69) X dX0_tellPiece_11 n11_4 (by decide) (by decide) (by rfl) (by decide) ?_
      refine V_aload_n 0 X dX0_tellPiece_69 rfl rfl ?_
      refine V_getR (k1 := (h + 4)) 6 X dX0_tellPiece_70 co0 hh (by decide) rfl rfl wfX0_25 ?_
      refine V_iload_n 2 X dX0_tellPiece_73 rfl rfl ?_
      refine V_iald X dX0_tellPiece_74 (kt0_6 hZ hh) ?_
      exact V_iret X E hr dX0_tellPiece_75
    refine V_split (c := 5) (fun n11_5 => ?_) (fun n11_5 => ?_)
    · refine V_tabAt (c := 5) (tgt := 76) X dX0_tellPiece_11 n11_5 (by decide) (by decide) (by rfl) (by decide) ?_
      refine V_aload_n 0 X dX0_tellPiece_76 rfl rfl ?_
      refine V_getR (k1 := (h + 5)) 7 X dX0_tellPiece_77 co0 hh (by decide) rfl rfl wfX0_28 ?_
      refine V_iload_n 2 X dX0_tellPiece_80 rfl rfl ?_
      refine V_iald X dX0_tellPiece_81 (kt0_7 hZ hh) ?_
      exact V_iret X E hr dX0_tellPiece_82
    refine V_split (c := 6) (fun n11_6 => ?_) (fun n11_6 => ?_)
    · refine V_tabAt (c := 6) (tgt := 83) X dX0_tellPiece_11 n11_6 (by decide) (by decide) (by rfl) (by decide) ?_
      refine V_aload_n 0 X dX0_tellPiece_83 rfl rfl ?_
      refine V_getR (k1 := (h + 6)) 8 X dX0_tellPiece_84 co0 hh (by decide) rfl rfl wfX0_31 ?_
      refine V_iload_n 2 X dX0_tellPiece_87 rfl rfl ?_
      refine V_iald X dX0_tellPiece_88 (kt0_8 hZ hh) ?_
      exact V_iret X E hr dX0_tellPiece_89
    refine V_tabDef (tgt := 90) X dX0_tellPiece_11 (swOut (a := v1) (fun q q1 q2 => by rcases (show q = 1 ∨ q = 2 ∨ q = 3 ∨ q = 4 ∨ q = 5 ∨ q = 6 by omega) with rfl | rfl | rfl | rfl | rfl | rfl <;> first | exact sw_ne n11_1 (by decide) | exact sw_ne n11_2 (by decide) | exact sw_ne n11_3 (by decide) | exact sw_ne n11_4 (by decide) | exact sw_ne n11_5 (by decide) | exact sw_ne n11_6 (by decide))) (by decide) ?_
    refine V_iconst (v := -1) X dX0_tellPiece_90 (by decide) ?_
    exact V_iret X E hr dX0_tellPiece_91
  · refine V_iconst (v := -1) X dX0_tellPiece_8 (by decide) ?_
    exact V_iret X E hr dX0_tellPiece_9
theorem kX0_tellPiece (l : Launch) (z : Sx) (hZ : z.2.2.2.1 = kdC) (N : Nat) (h : Nat) (hh : z.2.2.2.1 h = (0, 0)) (v1 : Int32) (v2 : Int32) (σ : Mem) : Ct QI yX0_tellPiece cX0_tellPiece 3 (some .int) 1 21 l z [.ref (z.2.2.1 h), .int v1, .int v2] σ (fX0_tellPiece N h v1 v2 σ) := by
  refine Ct_of (by decide +kernel) (Nat.le_of_ble_eq_true rfl) rfl ?_
  intro x _ X E hr
  exact bX0_tellPiece_0 X E hr hZ N h hh v1 v2 σ
def fX0_hasPerson (N : Nat) (h : Nat) (v1 : Int32) (σ : Mem) : Option (Int32 × Mem) :=
  if v1 < 0 then some (0, σ) else if (σ.1 h 1) ≤ v1 then some (0, σ) else some (1, σ)
set_option maxRecDepth 100000 in
set_option maxHeartbeats 4000000 in
theorem bX0_hasPerson_0 {x : Cx} {z : Sx} (X : XG x z RX0 cX0_hasPerson 2 0 0) (E : XE x z) (hr : XR x (some .boolean)) (hZ : z.2.2.2.1 = kdC) (N : Nat) (h : Nat) (hh : z.2.2.2.1 h = (0, 0)) (v1 : Int32) (σ : Mem) : VK x z 2 (BQ QI x z) 0 [(0, .ref (z.2.2.1 h)), (1, .int v1)] [] σ (fX0_hasPerson N h v1 σ) := by
  unfold fX0_hasPerson
  refine V_iload_n 1 X dX0_hasPerson_0 rfl rfl ?_
  refine V_if_lt (tgt := 16) X dX0_hasPerson_1 (by decide) ?_ ?_
  · refine V_iconst (v := 0) X dX0_hasPerson_16 (by decide) ?_
    exact V_zret X E hr dX0_hasPerson_17 (by decide)
  · refine V_iload_n 1 X dX0_hasPerson_4 rfl rfl ?_
    refine V_aload_n 0 X dX0_hasPerson_5 rfl rfl ?_
    refine V_getI 1 X dX0_hasPerson_6 co0 hh (by decide) rfl wfX0_43 ?_
    refine V_icmp_ge (tgt := 16) X dX0_hasPerson_9 (by decide) ?_ ?_
    · refine V_iconst (v := 0) X dX0_hasPerson_16 (by decide) ?_
      exact V_zret X E hr dX0_hasPerson_17 (by decide)
    · refine V_iconst (v := 1) X dX0_hasPerson_12 (by decide) ?_
      refine V_goto (tgt := 17) X dX0_hasPerson_13 (by decide) ?_
      exact V_zret X E hr dX0_hasPerson_17 (by decide)
theorem kX0_hasPerson (l : Launch) (z : Sx) (hZ : z.2.2.2.1 = kdC) (N : Nat) (h : Nat) (hh : z.2.2.2.1 h = (0, 0)) (v1 : Int32) (σ : Mem) : Ct QI yX0_hasPerson cX0_hasPerson 2 (some .boolean) 0 0 l z [.ref (z.2.2.1 h), .int v1] σ (fX0_hasPerson N h v1 σ) := by
  refine Ct_of (by decide +kernel) (Nat.le_of_ble_eq_true rfl) rfl ?_
  intro x _ X E hr
  exact bX0_hasPerson_0 X E hr hZ N h hh v1 σ
def fX0_tellPerson (N : Nat) (h : Nat) (v1 : Int32) (v2 : Int32) (σ : Mem) : Option (Int32 × Mem) :=
  bd (fX0_hasPerson N h v2 σ) (fun r1 s2 => if r1 = 0 then some ((-1), s2) else if v1 = 7 then gd (inb v2 6) (some ((s2.1 (h + 7) v2.toNatClampNeg), s2)) else gd (inb v2 6) (some ((s2.1 (h + 8) v2.toNatClampNeg), s2)))
set_option maxRecDepth 100000 in
set_option maxHeartbeats 4000000 in
theorem bX0_tellPerson_0 {x : Cx} {z : Sx} (X : XG x z RX0 cX0_tellPerson 3 1 21) (E : XE x z) (hr : XR x (some .int)) (hZ : z.2.2.2.1 = kdC) (N : Nat) (h : Nat) (hh : z.2.2.2.1 h = (0, 0)) (v1 : Int32) (v2 : Int32) (σ : Mem) : VK x z 3 (BQ QI x z) 0 [(0, .ref (z.2.2.1 h)), (1, .int v1), (2, .int v2)] [] σ (fX0_tellPerson N h v1 v2 σ) := by
  unfold fX0_tellPerson
  refine V_aload_n 0 X dX0_tellPerson_0 rfl rfl ?_
  refine V_iload_n 2 X dX0_tellPerson_1 rfl rfl ?_
  refine V_callI [.int v2] [] X E dX0_tellPerson_2 (kX0_hasPerson x.2.1 z hZ N h hh v2 σ) co0 hh gcX0_61 hyX0_hasPerson rfl ⟨by decide, by decide⟩ rfl (Nat.le_of_ble_eq_true rfl) (fun r1 s2 => ?_)
  refine V_if_ne (tgt := 10) X dX0_tellPerson_5 (by decide) ?_ ?_
  · refine V_iload_n 1 X dX0_tellPerson_10 rfl rfl ?_
    refine V_bipush (v := 7) X dX0_tellPerson_11 (by decide) ?_
    refine V_icmp_ne (tgt := 25) X dX0_tellPerson_13 (by decide) ?_ ?_
    · refine V_aload_n 0 X dX0_tellPerson_25 rfl rfl ?_
      refine V_getR (k1 := (h + 8)) 10 X dX0_tellPerson_26 co0 hh (by decide) rfl rfl wfX0_37 ?_
      refine V_iload_n 2 X dX0_tellPerson_29 rfl rfl ?_
      refine V_iald X dX0_tellPerson_30 (kt0_10 hZ hh) ?_
      exact V_iret X E hr dX0_tellPerson_31
    · refine V_aload_n 0 X dX0_tellPerson_16 rfl rfl ?_
      refine V_getR (k1 := (h + 7)) 9 X dX0_tellPerson_17 co0 hh (by decide) rfl rfl wfX0_34 ?_
      refine V_iload_n 2 X dX0_tellPerson_20 rfl rfl ?_
      refine V_iald X dX0_tellPerson_21 (kt0_9 hZ hh) ?_
      refine V_goto (tgt := 31) X dX0_tellPerson_22 (by decide) ?_
      exact V_iret X E hr dX0_tellPerson_31
  · refine V_iconst (v := -1) X dX0_tellPerson_8 (by decide) ?_
    exact V_iret X E hr dX0_tellPerson_9
theorem kX0_tellPerson (l : Launch) (z : Sx) (hZ : z.2.2.2.1 = kdC) (N : Nat) (h : Nat) (hh : z.2.2.2.1 h = (0, 0)) (v1 : Int32) (v2 : Int32) (σ : Mem) : Ct QI yX0_tellPerson cX0_tellPerson 3 (some .int) 1 21 l z [.ref (z.2.2.1 h), .int v1, .int v2] σ (fX0_tellPerson N h v1 v2 σ) := by
  refine Ct_of (by decide +kernel) (Nat.le_of_ble_eq_true rfl) rfl ?_
  intro x _ X E hr
  exact bX0_tellPerson_0 X E hr hZ N h hh v1 v2 σ
def fX0_tell (N : Nat) (h : Nat) (v1 : Int32) (σ : Mem) : Option (Int32 × Mem) :=
  if v1 < 0 then some ((-1), σ) else if v1 < 90 then if 10 ≤ v1 then lt_ (rmI v1 10) (fun v2_1 => if 70 ≤ v1 then bd (fX0_tellPerson N h (v1 / 10) v2_1 σ) (fun r2 s3 => some (r2, s3)) else bd (fX0_tellPiece N h (v1 / 10) v2_1 σ) (fun r4 s5 => some (r4, s5))) else bd (fX0_tellWhole N h v1 σ) (fun r6 s7 => some (r6, s7)) else some ((-1), σ)
set_option maxRecDepth 100000 in
set_option maxHeartbeats 4000000 in
theorem bX0_tell_0 {x : Cx} {z : Sx} (X : XG x z RX0 cX0_tell 3 2 43) (E : XE x z) (hr : XR x (some .int)) (hZ : z.2.2.2.1 = kdC) (N : Nat) (h : Nat) (hh : z.2.2.2.1 h = (0, 0)) (v1 : Int32) (σ : Mem) : VK x z 3 (BQ QI x z) 0 [(0, .ref (z.2.2.1 h)), (1, .int v1)] [] σ (fX0_tell N h v1 σ) := by
  unfold fX0_tell
  refine V_iload_n 1 X dX0_tell_0 rfl rfl ?_
  refine V_if_lt (tgt := 10) X dX0_tell_1 (by decide) ?_ ?_
  · refine V_iconst (v := -1) X dX0_tell_10 (by decide) ?_
    exact V_iret X E hr dX0_tell_11
  · refine V_iload_n 1 X dX0_tell_4 rfl rfl ?_
    refine V_bipush (v := 90) X dX0_tell_5 (by decide) ?_
    refine V_icmp_lt (tgt := 12) X dX0_tell_7 (by decide) ?_ ?_
    · refine V_iload_n 1 X dX0_tell_12 rfl rfl ?_
      refine V_bipush (v := 10) X dX0_tell_13 (by decide) ?_
      refine V_icmp_ge (tgt := 24) X dX0_tell_15 (by decide) ?_ ?_
      · refine V_iload_n 1 X dX0_tell_24 rfl rfl ?_
        refine V_bipush (v := 10) X dX0_tell_25 (by decide) ?_
        refine V_iremKG X dX0_tell_27 (by decide) ?_
        refine V_istore_nG (L' := fun v2_1 => [(2, .int v2_1), (0, .ref (z.2.2.1 h)), (1, .int v1)]) X dX0_tell_28 rfl (by decide) (fun _ => rfl) (fun v2_1 => ?_)
        refine V_iload_n 2 X dX0_tell_29 rfl rfl ?_
        refine V_bipush (v := 70) X dX0_tell_30 (by decide) ?_
        refine V_icmp_ge (tgt := 47) X dX0_tell_32 (by decide) ?_ ?_
        · refine V_aload_n 1 X dX0_tell_47 rfl rfl ?_
          refine V_iload_n 2 X dX0_tell_48 rfl rfl ?_
          refine V_bipush (v := 10) X dX0_tell_49 (by decide) ?_
          refine V_idivK X dX0_tell_51 (by decide) ?_
          refine V_iload_n 0 X dX0_tell_52 rfl rfl ?_
          refine V_callI [.int (v1 / 10), .int v2_1] [] X E dX0_tell_53 (kX0_tellPerson x.2.1 z hZ N h hh (v1 / 10) v2_1 σ) co0 hh gcX0_58 hyX0_tellPerson rfl ⟨by decide, by decide⟩ rfl (Nat.le_of_ble_eq_true rfl) (fun r2 s3 => ?_)
          exact V_iret X E hr dX0_tell_56
        · refine V_aload_n 1 X dX0_tell_35 rfl rfl ?_
          refine V_iload_n 2 X dX0_tell_36 rfl rfl ?_
          refine V_bipush (v := 10) X dX0_tell_37 (by decide) ?_
          refine V_idivK X dX0_tell_39 (by decide) ?_
          refine V_iload_n 0 X dX0_tell_40 rfl rfl ?_
          refine V_callI [.int (v1 / 10), .int v2_1] [] X E dX0_tell_41 (kX0_tellPiece x.2.1 z hZ N h hh (v1 / 10) v2_1 σ) co0 hh gcX0_54 hyX0_tellPiece rfl ⟨by decide, by decide⟩ rfl (Nat.le_of_ble_eq_true rfl) (fun r4 s5 => ?_)
          refine V_goto (tgt := 56) X dX0_tell_44 (by decide) ?_
          exact V_iret X E hr dX0_tell_56
      · refine V_aload_n 0 X dX0_tell_18 rfl rfl ?_
        refine V_iload_n 1 X dX0_tell_19 rfl rfl ?_
        refine V_callI [.int v1] [] X E dX0_tell_20 (kX0_tellWhole x.2.1 z hZ N h hh v1 σ) co0 hh gcX0_50 hyX0_tellWhole rfl ⟨by decide, by decide⟩ rfl (Nat.le_of_ble_eq_true rfl) (fun r6 s7 => ?_)
        exact V_iret X E hr dX0_tell_23
    · refine V_iconst (v := -1) X dX0_tell_10 (by decide) ?_
      exact V_iret X E hr dX0_tell_11
theorem kX0_tell (l : Launch) (z : Sx) (hZ : z.2.2.2.1 = kdC) (N : Nat) (h : Nat) (hh : z.2.2.2.1 h = (0, 0)) (v1 : Int32) (σ : Mem) : Ct QI yX0_tell cX0_tell 3 (some .int) 2 43 l z [.ref (z.2.2.1 h), .int v1] σ (fX0_tell N h v1 σ) := by
  refine Ct_of (by decide +kernel) (Nat.le_of_ble_eq_true rfl) rfl ?_
  intro x _ X E hr
  exact bX0_tell_0 X E hr hZ N h hh v1 σ
def fX11_chamber (N : Nat) (h : Nat) (v1 : Int32) (v2 : Int32) (σ : Mem) : Option (Int32 × Mem) :=
  bd (fX9_chamberAt N (h + 1) v1 σ) (fun or1 s2 => mqK (0, 0) or1 (some ((-1), s2)) (fun r1 => bd (fX0_tell N r1 v2 s2) (fun r4 s5 => some (r4, s5))))
set_option maxRecDepth 100000 in
set_option maxHeartbeats 4000000 in
theorem bX11_chamber_0 {x : Cx} {z : Sx} (X : XG x z RX11 cX11_chamber 4 3 65) (E : XE x z) (hr : XR x (some .int)) (hZ : z.2.2.2.1 = kdC) (N : Nat) (h : Nat) (hh : z.2.2.2.1 h = (11, 0)) (v1 : Int32) (v2 : Int32) (σ : Mem) : VK x z 4 (BQ QI x z) 0 [(0, .ref (z.2.2.1 h)), (1, .int v1), (2, .int v2)] [] σ (fX11_chamber N h v1 v2 σ) := by
  unfold fX11_chamber
  refine V_aload_n 0 X dX11_chamber_0 rfl rfl ?_
  refine V_getR (k1 := (h + 1)) 0 X dX11_chamber_1 co11 hh (by decide) rfl rfl wfX11_10 ?_
  refine V_iload_n 1 X dX11_chamber_4 rfl rfl ?_
  refine V_callQC (K := (0, 0)) [.int v1] [] X E hZ dX11_chamber_5 (kX9_chamberAt x.2.1 z hZ N (h + 1) (kt11_0 hZ hh) v1 σ) co9 (kt11_0 hZ hh) gcX11_105 hyX9_chamberAt rfl ⟨by decide, by decide⟩ rfl (Nat.le_of_ble_eq_true rfl) (fun s2 => ?_) (fun r1 s2 hb3 => ?_)
  · refine V_astore_nN (L' := [(3, .null), (0, .ref (z.2.2.1 h)), (1, .int v1), (2, .int v2)]) X dX11_chamber_8 rfl (by decide) rfl ?_
    refine V_aload_nN 0 X dX11_chamber_9 rfl rfl ?_
    refine V_ifnonnullN X dX11_chamber_10 ?_
    refine V_iconst (v := -1) X dX11_chamber_13 (by decide) ?_
    refine V_goto (tgt := 22) X dX11_chamber_14 (by decide) ?_
    exact V_iret X E hr dX11_chamber_22
  · refine V_astore_n (L' := [(3, .ref (z.2.2.1 r1)), (0, .ref (z.2.2.1 h)), (1, .int v1), (2, .int v2)]) X dX11_chamber_8 rfl (by decide) rfl ?_
    refine V_aload_n 0 X dX11_chamber_9 rfl rfl ?_
    refine V_ifnonnull (tgt := 17) X dX11_chamber_10 (by decide) ?_
    refine V_aload_n 0 X dX11_chamber_17 rfl rfl ?_
    refine V_iload_n 3 X dX11_chamber_18 rfl rfl ?_
    refine V_callI [.int v2] [] X E dX11_chamber_19 (kX0_tell x.2.1 z hZ N r1 hb3 v2 s2) co0 hb3 gcX11_109 hyX0_tell rfl ⟨by decide, by decide⟩ rfl (Nat.le_of_ble_eq_true rfl) (fun r4 s5 => ?_)
    exact V_iret X E hr dX11_chamber_22
theorem kX11_chamber (l : Launch) (z : Sx) (hZ : z.2.2.2.1 = kdC) (N : Nat) (h : Nat) (hh : z.2.2.2.1 h = (11, 0)) (v1 : Int32) (v2 : Int32) (σ : Mem) : Ct QI yX11_chamber cX11_chamber 4 (some .int) 3 65 l z [.ref (z.2.2.1 h), .int v1, .int v2] σ (fX11_chamber N h v1 v2 σ) := by
  refine Ct_of (by decide +kernel) (Nat.le_of_ble_eq_true rfl) rfl ?_
  intro x _ X E hr
  exact bX11_chamber_0 X E hr hZ N h hh v1 v2 σ
def fX11_isMotion (N : Nat) (v0 : Int32) (σ : Mem) : Option (Int32 × Mem) :=
  if v0 < 0 then some (0, σ) else if 64 ≤ v0 then some (0, σ) else some (1, σ)
set_option maxRecDepth 100000 in
set_option maxHeartbeats 4000000 in
theorem bX11_isMotion_0 {x : Cx} {z : Sx} (X : XG x z RX11 cX11_isMotion 1 0 0) (E : XE x z) (hr : XR x (some .boolean)) (hZ : z.2.2.2.1 = kdC) (N : Nat) (v0 : Int32) (σ : Mem) : VK x z 1 (BQ QI x z) 0 [(0, .int v0)] [] σ (fX11_isMotion N v0 σ) := by
  unfold fX11_isMotion
  refine V_iload_n 0 X dX11_isMotion_0 rfl rfl ?_
  refine V_if_lt (tgt := 14) X dX11_isMotion_1 (by decide) ?_ ?_
  · refine V_iconst (v := 0) X dX11_isMotion_14 (by decide) ?_
    exact V_zret X E hr dX11_isMotion_15 (by decide)
  · refine V_iload_n 0 X dX11_isMotion_4 rfl rfl ?_
    refine V_bipush (v := 64) X dX11_isMotion_5 (by decide) ?_
    refine V_icmp_ge (tgt := 14) X dX11_isMotion_7 (by decide) ?_ ?_
    · refine V_iconst (v := 0) X dX11_isMotion_14 (by decide) ?_
      exact V_zret X E hr dX11_isMotion_15 (by decide)
    · refine V_iconst (v := 1) X dX11_isMotion_10 (by decide) ?_
      refine V_goto (tgt := 15) X dX11_isMotion_11 (by decide) ?_
      exact V_zret X E hr dX11_isMotion_15 (by decide)
theorem kX11_isMotion (l : Launch) (z : Sx) (hZ : z.2.2.2.1 = kdC) (N : Nat) (v0 : Int32) (σ : Mem) : Ct QI yX11_isMotion cX11_isMotion 1 (some .boolean) 0 0 l z [.int v0] σ (fX11_isMotion N v0 σ) := by
  refine Ct_of (by decide +kernel) (Nat.le_of_ble_eq_true rfl) rfl ?_
  intro x _ X E hr
  exact bX11_isMotion_0 X E hr hZ N v0 σ
def fX11_asked (N : Nat) (h : Nat) (v1 : Int32) (v2 : Int32) (σ : Mem) : Option (Option Nat × Mem) :=
  bd (fX11_isMotion N v2 σ) (fun r1 s2 => if r1 = 0 then some (none, s2) else bd (fX9_chamberAt N (h + 1) v1 s2) (fun or3 s4 => mqK (0, 0) or3 (some (none, s4)) (fun r3 => some (some r3, s4))))
set_option maxRecDepth 100000 in
set_option maxHeartbeats 4000000 in
theorem bX11_asked_0 {x : Cx} {z : Sx} (X : XG x z RX11 cX11_asked 3 2 43) (E : XE x z) (hr : XR x (some (.object "FurnitureVotes$Chamber"))) (hZ : z.2.2.2.1 = kdC) (N : Nat) (h : Nat) (hh : z.2.2.2.1 h = (11, 0)) (v1 : Int32) (v2 : Int32) (σ : Mem) : VK x z 3 (BQ QQ x z) 0 [(0, .ref (z.2.2.1 h)), (1, .int v1), (2, .int v2)] [] σ (fX11_asked N h v1 v2 σ) := by
  unfold fX11_asked
  refine V_iload_n 2 X dX11_asked_0 rfl rfl ?_
  refine V_calSI [.int v2] [] X E dX11_asked_1 (kX11_isMotion x.2.1 z hZ N v2 σ) gcX11_280 hyX11_isMotion rfl ⟨by decide, by decide⟩ rfl (Nat.le_of_ble_eq_true rfl) (fun r1 s2 => ?_)
  refine V_if_eq (tgt := 18) X dX11_asked_4 (by decide) ?_ ?_
  · refine V_null X dX11_asked_18 ?_
    exact V_aretN X E hr dX11_asked_19
  · refine V_aload_n 0 X dX11_asked_7 rfl rfl ?_
    refine V_getR (k1 := (h + 1)) 0 X dX11_asked_8 co11 hh (by decide) rfl rfl wfX11_10 ?_
    refine V_iload_n 1 X dX11_asked_11 rfl rfl ?_
    refine V_callQC (K := (0, 0)) [.int v1] [] X E hZ dX11_asked_12 (kX9_chamberAt x.2.1 z hZ N (h + 1) (kt11_0 hZ hh) v1 s2) co9 (kt11_0 hZ hh) gcX11_105 hyX9_chamberAt rfl ⟨by decide, by decide⟩ rfl (Nat.le_of_ble_eq_true rfl) (fun s4 => ?_) (fun r3 s4 hb5 => ?_)
    · refine V_goto (tgt := 19) X dX11_asked_15 (by decide) ?_
      exact V_aretN X E hr dX11_asked_19
    · refine V_goto (tgt := 19) X dX11_asked_15 (by decide) ?_
      exact V_aret X E hr dX11_asked_19
theorem kX11_asked (l : Launch) (z : Sx) (hZ : z.2.2.2.1 = kdC) (N : Nat) (h : Nat) (hh : z.2.2.2.1 h = (11, 0)) (v1 : Int32) (v2 : Int32) (σ : Mem) : Ct QQ yX11_asked cX11_asked 3 (some (.object "FurnitureVotes$Chamber")) 2 43 l z [.ref (z.2.2.1 h), .int v1, .int v2] σ (fX11_asked N h v1 v2 σ) := by
  refine Ct_of (by decide +kernel) (Nat.le_of_ble_eq_true rfl) rfl ?_
  intro x _ X E hr
  exact bX11_asked_0 X E hr hZ N h hh v1 v2 σ
def fJ7_fill_53178_b5 (N : Nat) (rc5 : Nat → Int32 → Int32 → Int32 → Mem → Option (Unit × Mem)) (v0 : Nat) (v1 : Int32) (v2 : Int32) (v3 : Int32) (σ : Mem) : Option (Unit × Mem) :=
  if v3 ≤ v2 then some ((), σ) else gd (inb v2 8) (lt_ (pI σ v0 v2.toNatClampNeg v1) (fun s3 => lt_ (v2 + 1) (fun v2_4 => rc5 v0 v1 v2_4 v3 s3)))
set_option maxRecDepth 100000 in
set_option maxHeartbeats 4000000 in
theorem bJ7_fill_53178_5 {x : Cx} {z : Sx} (X : XG x z RJ7 cJ7_fill_53178 4 0 0) (E : XE x z) (hr : XR x none) (hZ : z.2.2.2.1 = kdC) (N : Nat) (rc5 : Nat → Int32 → Int32 → Int32 → Mem → Option (Unit × Mem)) (hc5 : ∀ (v0 : Nat) (v1 : Int32) (v2 : Int32) (v3 : Int32) (hk0 : z.2.2.2.1 v0 = (50, 8)) (σ : Mem), VK x z 4 (BQ QV x z) 5 [(0, .ref (z.2.2.1 v0)), (1, .int v1), (2, .int v2), (3, .int v3)] [] σ (rc5 v0 v1 v2 v3 σ)) (v0 : Nat) (v1 : Int32) (v2 : Int32) (v3 : Int32) (hk0 : z.2.2.2.1 v0 = (50, 8)) (σ : Mem) : VK x z 4 (BQ QV x z) 5 [(0, .ref (z.2.2.1 v0)), (1, .int v1), (2, .int v2), (3, .int v3)] [] σ (fJ7_fill_53178_b5 N rc5 v0 v1 v2 v3 σ) := by
  unfold fJ7_fill_53178_b5
  refine V_iload_n 2 X dJ7_fill_53178_5 rfl rfl ?_
  refine V_iload_n 3 X dJ7_fill_53178_6 rfl rfl ?_
  refine V_icmp_ge (tgt := 20) X dJ7_fill_53178_7 (by decide) ?_ ?_
  · exact V_vret X E hr dJ7_fill_53178_20
  · refine V_aload_n 0 X dJ7_fill_53178_10 rfl rfl ?_
    refine V_iload_n 2 X dJ7_fill_53178_11 rfl rfl ?_
    refine V_iload_n 1 X dJ7_fill_53178_12 rfl rfl ?_
    refine V_iastG X dJ7_fill_53178_13 hk0 (fun s3 => ?_)
    refine V_iincG (L' := fun v2_4 => [(2, .int v2_4), (0, .ref (z.2.2.1 v0)), (1, .int v1), (3, .int v3)]) 2 X dJ7_fill_53178_14 rfl rfl (by decide) (fun _ => rfl) (fun v2_4 => ?_)
    refine V_goto (tgt := 5) X dJ7_fill_53178_17 (by decide) ?_
    refine V_sub [1, 2, 0, 3] rfl ?_
    exact hc5 v0 v1 v2_4 v3 hk0 s3
def fJ7_fill_53178_l5 (N : Nat) : Nat → Nat → Int32 → Int32 → Int32 → Mem → Option (Unit × Mem)
  | 0 => fun _ _ _ _ _ => none
  | n + 1 => fJ7_fill_53178_b5 N (fJ7_fill_53178_l5 N n)
theorem lJ7_fill_53178_5 {x : Cx} {z : Sx} (X : XG x z RJ7 cJ7_fill_53178 4 0 0) (E : XE x z) (hr : XR x none) (hZ : z.2.2.2.1 = kdC) (N : Nat) (n : Nat) (v0 : Nat) (v1 : Int32) (v2 : Int32) (v3 : Int32) (hk0 : z.2.2.2.1 v0 = (50, 8)) (σ : Mem) : VK x z 4 (BQ QV x z) 5 [(0, .ref (z.2.2.1 v0)), (1, .int v1), (2, .int v2), (3, .int v3)] [] σ (fJ7_fill_53178_l5 N n v0 v1 v2 v3 σ) := by
  induction n generalizing v0 v1 v2 v3 hk0 σ with
  | zero => exact V_none
  | succ n ih => exact bJ7_fill_53178_5 X E hr hZ N (fJ7_fill_53178_l5 N n) ih v0 v1 v2 v3 hk0 σ
def fJ7_fill_53178 (N : Nat) (v0 : Nat) (v1 : Int32) (σ : Mem) : Option (Unit × Mem) :=
  lt_ 0 (fun v2_1 => lt_ 8 (fun v3_2 => fJ7_fill_53178_l5 N N v0 v1 v2_1 v3_2 σ))
set_option maxRecDepth 100000 in
set_option maxHeartbeats 4000000 in
theorem bJ7_fill_53178_0 {x : Cx} {z : Sx} (X : XG x z RJ7 cJ7_fill_53178 4 0 0) (E : XE x z) (hr : XR x none) (hZ : z.2.2.2.1 = kdC) (N : Nat) (v0 : Nat) (v1 : Int32) (hk0 : z.2.2.2.1 v0 = (50, 8)) (σ : Mem) : VK x z 4 (BQ QV x z) 0 [(0, .ref (z.2.2.1 v0)), (1, .int v1)] [] σ (fJ7_fill_53178 N v0 v1 σ) := by
  unfold fJ7_fill_53178
  refine V_iconst (v := 0) X dJ7_fill_53178_0 (by decide) ?_
  refine V_istore_nG (L' := fun v2_1 => [(2, .int v2_1), (0, .ref (z.2.2.1 v0)), (1, .int v1)]) X dJ7_fill_53178_1 rfl (by decide) (fun _ => rfl) (fun v2_1 => ?_)
  refine V_aload_n 1 X dJ7_fill_53178_2 rfl rfl ?_
  refine V_alen50 (v := 8) X dJ7_fill_53178_3 hk0 (by decide) ?_
  refine V_istore_nG (L' := fun v3_2 => [(3, .int v3_2), (2, .int v2_1), (0, .ref (z.2.2.1 v0)), (1, .int v1)]) X dJ7_fill_53178_4 rfl (by decide) (fun _ => rfl) (fun v3_2 => ?_)
  refine V_sub [2, 3, 1, 0] rfl ?_
  exact lJ7_fill_53178_5 X E hr hZ N N v0 v1 v2_1 v3_2 hk0 σ
theorem kJ7_fill_53178 (l : Launch) (z : Sx) (hZ : z.2.2.2.1 = kdC) (N : Nat) (v0 : Nat) (v1 : Int32) (hk0 : z.2.2.2.1 v0 = (50, 8)) (σ : Mem) : Ct QV yJ7_fill_53178 cJ7_fill_53178 4 none 0 0 l z [.ref (z.2.2.1 v0), .int v1] σ (fJ7_fill_53178 N v0 v1 σ) := by
  refine Ct_of (by decide +kernel) (Nat.le_of_ble_eq_true rfl) rfl ?_
  intro x _ X E hr
  exact bJ7_fill_53178_0 X E hr hZ N v0 v1 hk0 σ
def fX2_putLoad (N : Nat) (h : Nat) (v1 : Int32) (v2 : Int32) (σ : Mem) : Option (Unit × Mem) :=
  bd (fX0_hasPiece N (h + 1) v1 σ) (fun r1 s2 => if r1 = 0 then some ((), s2) else gd (inb v1 8) (gd (inb v1 8) (lt_ (pI s2 (h + 11) v1.toNatClampNeg ((s2.1 (h + 11) v1.toNatClampNeg) + v2)) (fun s3 => some ((), s3)))))
set_option maxRecDepth 100000 in
set_option maxHeartbeats 4000000 in
theorem bX2_putLoad_0 {x : Cx} {z : Sx} (X : XG x z RX2 cX2_putLoad 3 1 21) (E : XE x z) (hr : XR x none) (hZ : z.2.2.2.1 = kdC) (N : Nat) (h : Nat) (hh : z.2.2.2.1 h = (2, 0)) (v1 : Int32) (v2 : Int32) (σ : Mem) : VK x z 3 (BQ QV x z) 0 [(0, .ref (z.2.2.1 h)), (1, .int v1), (2, .int v2)] [] σ (fX2_putLoad N h v1 v2 σ) := by
  unfold fX2_putLoad
  refine V_aload_n 0 X dX2_putLoad_0 rfl rfl ?_
  refine V_getR (k1 := (h + 1)) 0 X dX2_putLoad_1 co2 hh (by decide) rfl rfl wfX2_12 ?_
  refine V_iload_n 1 X dX2_putLoad_4 rfl rfl ?_
  refine V_callI [.int v1] [] X E dX2_putLoad_5 (kX0_hasPiece x.2.1 z hZ N (h + 1) (kt2_0 hZ hh) v1 σ) co0 (kt2_0 hZ hh) gcX2_61 hyX0_hasPiece rfl ⟨by decide, by decide⟩ rfl (Nat.le_of_ble_eq_true rfl) (fun r1 s2 => ?_)
  refine V_if_eq (tgt := 21) X dX2_putLoad_8 (by decide) ?_ ?_
  · exact V_vret X E hr dX2_putLoad_21
  · refine V_aload_n 0 X dX2_putLoad_11 rfl rfl ?_
    refine V_getR (k1 := (h + 11)) 2 X dX2_putLoad_12 co2 hh (by decide) rfl rfl wfX2_22 ?_
    refine V_iload_n 1 X dX2_putLoad_15 rfl rfl ?_
    refine V_dup2 X dX2_putLoad_16 rfl rfl ?_
    refine V_iald X dX2_putLoad_17 (kt2_2 hZ hh) ?_
    refine V_iload_n 2 X dX2_putLoad_18 rfl rfl ?_
    refine V_iadd X dX2_putLoad_19 ?_
    refine V_iastG X dX2_putLoad_20 (kt2_2 hZ hh) (fun s3 => ?_)
    exact V_vret X E hr dX2_putLoad_21
theorem kX2_putLoad (l : Launch) (z : Sx) (hZ : z.2.2.2.1 = kdC) (N : Nat) (h : Nat) (hh : z.2.2.2.1 h = (2, 0)) (v1 : Int32) (v2 : Int32) (σ : Mem) : Ct QV yX2_putLoad cX2_putLoad 3 none 1 21 l z [.ref (z.2.2.1 h), .int v1, .int v2] σ (fX2_putLoad N h v1 v2 σ) := by
  refine Ct_of (by decide +kernel) (Nat.le_of_ble_eq_true rfl) rfl ?_
  intro x _ X E hr
  exact bX2_putLoad_0 X E hr hZ N h hh v1 v2 σ
def fX2_enter_b41 (N : Nat) (h : Nat) (rc41 : Int32 → Mem → Option (Unit × Mem)) (v2 : Int32) (σ : Mem) : Option (Unit × Mem) :=
  if (σ.1 (h + 1) 1) ≤ v2 then some ((), σ) else gd (inb v2 6) (gd (inb v2 6) (bd (fX2_putLoad N h (σ.1 ((h + 1) + 8) v2.toNatClampNeg) (σ.1 ((h + 1) + 7) v2.toNatClampNeg) σ) (fun r11 s12 => lt_ (v2 + 1) (fun v2_13 => rc41 v2_13 s12))))
set_option maxRecDepth 100000 in
set_option maxHeartbeats 4000000 in
theorem bX2_enter_41 {x : Cx} {z : Sx} (X : XG x z RX2 cX2_enter 3 2 47) (E : XE x z) (hr : XR x none) (hZ : z.2.2.2.1 = kdC) (N : Nat) (h : Nat) (hh : z.2.2.2.1 h = (2, 0)) (rc41 : Int32 → Mem → Option (Unit × Mem)) (hc41 : ∀ (v2 : Int32) (σ : Mem), VK x z 3 (BQ QV x z) 41 [(0, .ref (z.2.2.1 h)), (2, .int v2)] [] σ (rc41 v2 σ)) (v2 : Int32) (σ : Mem) : VK x z 3 (BQ QV x z) 41 [(0, .ref (z.2.2.1 h)), (2, .int v2)] [] σ (fX2_enter_b41 N h rc41 v2 σ) := by
  unfold fX2_enter_b41
  refine V_iload_n 1 X dX2_enter_41 rfl rfl ?_
  refine V_aload_n 0 X dX2_enter_42 rfl rfl ?_
  refine V_getR (k1 := (h + 1)) 0 X dX2_enter_43 co2 hh (by decide) rfl rfl wfX2_12 ?_
  refine V_getI 1 X dX2_enter_46 co0 (kt2_0 hZ hh) (by decide) rfl wfX2_48 ?_
  refine V_icmp_ge (tgt := 80) X dX2_enter_49 (by decide) ?_ ?_
  · exact V_vret X E hr dX2_enter_80
  · refine V_aload_n 0 X dX2_enter_52 rfl rfl ?_
    refine V_aload_n 0 X dX2_enter_53 rfl rfl ?_
    refine V_getR (k1 := (h + 1)) 0 X dX2_enter_54 co2 hh (by decide) rfl rfl wfX2_12 ?_
    refine V_getR (k1 := ((h + 1) + 8)) 10 X dX2_enter_57 co0 (kt2_0 hZ hh) (by decide) rfl rfl wfX2_51 ?_
    refine V_iload_n 1 X dX2_enter_60 rfl rfl ?_
    refine V_iald X dX2_enter_61 (kt0_10 hZ (kt2_0 hZ hh)) ?_
    refine V_aload_n 0 X dX2_enter_62 rfl rfl ?_
    refine V_getR (k1 := (h + 1)) 0 X dX2_enter_63 co2 hh (by decide) rfl rfl wfX2_12 ?_
    refine V_getR (k1 := ((h + 1) + 7)) 9 X dX2_enter_66 co0 (kt2_0 hZ hh) (by decide) rfl rfl wfX2_54 ?_
    refine V_iload_n 1 X dX2_enter_69 rfl rfl ?_
    refine V_iald X dX2_enter_70 (kt0_9 hZ (kt2_0 hZ hh)) ?_
    refine V_callV [.int (σ.1 ((h + 1) + 8) v2.toNatClampNeg), .int (σ.1 ((h + 1) + 7) v2.toNatClampNeg)] [] X E dX2_enter_71 (kX2_putLoad x.2.1 z hZ N h hh (σ.1 ((h + 1) + 8) v2.toNatClampNeg) (σ.1 ((h + 1) + 7) v2.toNatClampNeg) σ) co2 hh gcX2_57 hyX2_putLoad rfl ⟨by decide, by decide⟩ rfl (Nat.le_of_ble_eq_true rfl) (fun r11 s12 => ?_)
    refine V_iincG (L' := fun v2_13 => [(2, .int v2_13), (0, .ref (z.2.2.1 h))]) 1 X dX2_enter_74 rfl rfl (by decide) (fun _ => rfl) (fun v2_13 => ?_)
    refine V_goto (tgt := 41) X dX2_enter_77 (by decide) ?_
    refine V_sub [1, 0] rfl ?_
    exact hc41 v2_13 s12
def fX2_enter_l41 (N : Nat) (h : Nat) : Nat → Int32 → Mem → Option (Unit × Mem)
  | 0 => fun _ _ => none
  | n + 1 => fX2_enter_b41 N h (fX2_enter_l41 N h n)
theorem lX2_enter_41 {x : Cx} {z : Sx} (X : XG x z RX2 cX2_enter 3 2 47) (E : XE x z) (hr : XR x none) (hZ : z.2.2.2.1 = kdC) (N : Nat) (h : Nat) (hh : z.2.2.2.1 h = (2, 0)) (n : Nat) (v2 : Int32) (σ : Mem) : VK x z 3 (BQ QV x z) 41 [(0, .ref (z.2.2.1 h)), (2, .int v2)] [] σ (fX2_enter_l41 N h n v2 σ) := by
  induction n generalizing v2 σ with
  | zero => exact V_none
  | succ n ih => exact bX2_enter_41 X E hr hZ N h hh (fX2_enter_l41 N h n) ih v2 σ
def fX2_enter (N : Nat) (h : Nat) (v1 : Nat) (σ : Mem) : Option (Unit × Mem) :=
  bd (fX0_copyFrom N (h + 1) v1 σ) (fun r1 s2 => bd (fJ7_fill_53178 N (h + 10) 0 s2) (fun r3 s4 => bd (fJ7_fill_53178 N (h + 11) 0 s4) (fun r5 s6 => lt_ (pI s6 h 4 0) (fun s7 => lt_ (pI s7 h 5 0) (fun s8 => lt_ (pI s8 h 6 0) (fun s9 => lt_ 0 (fun v2_10 => fX2_enter_l41 N h N v2_10 s9)))))))
set_option maxRecDepth 100000 in
set_option maxHeartbeats 4000000 in
theorem bX2_enter_0 {x : Cx} {z : Sx} (X : XG x z RX2 cX2_enter 3 2 47) (E : XE x z) (hr : XR x none) (hZ : z.2.2.2.1 = kdC) (N : Nat) (h : Nat) (hh : z.2.2.2.1 h = (2, 0)) (v1 : Nat) (hk1 : z.2.2.2.1 v1 = (0, 0)) (σ : Mem) : VK x z 3 (BQ QV x z) 0 [(0, .ref (z.2.2.1 h)), (1, .ref (z.2.2.1 v1))] [] σ (fX2_enter N h v1 σ) := by
  unfold fX2_enter
  refine V_aload_n 0 X dX2_enter_0 rfl rfl ?_
  refine V_getR (k1 := (h + 1)) 0 X dX2_enter_1 co2 hh (by decide) rfl rfl wfX2_12 ?_
  refine V_aload_n 1 X dX2_enter_4 rfl rfl ?_
  refine V_callV [.ref (z.2.2.1 v1)] [] X E dX2_enter_5 (kX0_copyFrom x.2.1 z hZ N (h + 1) (kt2_0 hZ hh) v1 hk1 σ) co0 (kt2_0 hZ hh) gcX2_28 hyX0_copyFrom rfl ⟨by decide, by decide⟩ rfl (Nat.le_of_ble_eq_true rfl) (fun r1 s2 => ?_)
  refine V_aload_n 0 X dX2_enter_8 rfl rfl ?_
  refine V_getR (k1 := (h + 10)) 1 X dX2_enter_9 co2 hh (by decide) rfl rfl wfX2_18 ?_
  refine V_iconst (v := 0) X dX2_enter_12 (by decide) ?_
  refine V_calSV [.ref (z.2.2.1 (h + 10)), .int 0] [] X E dX2_enter_13 (kJ7_fill_53178 x.2.1 z hZ N (h + 10) 0 (kt2_1 hZ hh) s2) gcX2_32 hyJ7_fill_53178 rfl ⟨by decide, by decide⟩ rfl (Nat.le_of_ble_eq_true rfl) (fun r3 s4 => ?_)
  refine V_aload_n 0 X dX2_enter_16 rfl rfl ?_
  refine V_getR (k1 := (h + 11)) 2 X dX2_enter_17 co2 hh (by decide) rfl rfl wfX2_22 ?_
  refine V_iconst (v := 0) X dX2_enter_20 (by decide) ?_
  refine V_calSV [.ref (z.2.2.1 (h + 11)), .int 0] [] X E dX2_enter_21 (kJ7_fill_53178 x.2.1 z hZ N (h + 11) 0 (kt2_2 hZ hh) s4) gcX2_32 hyJ7_fill_53178 rfl ⟨by decide, by decide⟩ rfl (Nat.le_of_ble_eq_true rfl) (fun r5 s6 => ?_)
  refine V_aload_n 0 X dX2_enter_24 rfl rfl ?_
  refine V_iconst (v := 0) X dX2_enter_25 (by decide) ?_
  refine V_putIG 4 X dX2_enter_26 co2 hh (by decide) rfl wfX2_38 rfl rfl rfl (fun s7 => ?_)
  refine V_aload_n 0 X dX2_enter_29 rfl rfl ?_
  refine V_iconst (v := 0) X dX2_enter_30 (by decide) ?_
  refine V_putIG 5 X dX2_enter_31 co2 hh (by decide) rfl wfX2_42 rfl rfl rfl (fun s8 => ?_)
  refine V_aload_n 0 X dX2_enter_34 rfl rfl ?_
  refine V_iconst (v := 0) X dX2_enter_35 (by decide) ?_
  refine V_putIG 6 X dX2_enter_36 co2 hh (by decide) rfl wfX2_45 rfl rfl rfl (fun s9 => ?_)
  refine V_iconst (v := 0) X dX2_enter_39 (by decide) ?_
  refine V_istore_nG (L' := fun v2_10 => [(2, .int v2_10), (0, .ref (z.2.2.1 h)), (1, .ref (z.2.2.1 v1))]) X dX2_enter_40 rfl (by decide) (fun _ => rfl) (fun v2_10 => ?_)
  refine V_sub [1, 0] rfl ?_
  exact lX2_enter_41 X E hr hZ N h hh N v2_10 s9
theorem kX2_enter (l : Launch) (z : Sx) (hZ : z.2.2.2.1 = kdC) (N : Nat) (h : Nat) (hh : z.2.2.2.1 h = (2, 0)) (v1 : Nat) (hk1 : z.2.2.2.1 v1 = (0, 0)) (σ : Mem) : Ct QV yX2_enter cX2_enter 3 none 2 47 l z [.ref (z.2.2.1 h), .ref (z.2.2.1 v1)] σ (fX2_enter N h v1 σ) := by
  refine Ct_of (by decide +kernel) (Nat.le_of_ble_eq_true rfl) rfl ?_
  intro x _ X E hr
  exact bX2_enter_0 X E hr hZ N h hh v1 hk1 σ
def fX2_isOver (N : Nat) (h : Nat) (v1 : Int32) (σ : Mem) : Option (Int32 × Mem) :=
  if (((σ.1 h 4) >>> (v1 &&& 31)) &&& 1) = 0 then some (0, σ) else some (1, σ)
set_option maxRecDepth 100000 in
set_option maxHeartbeats 4000000 in
theorem bX2_isOver_0 {x : Cx} {z : Sx} (X : XG x z RX2 cX2_isOver 2 0 0) (E : XE x z) (hr : XR x (some .boolean)) (hZ : z.2.2.2.1 = kdC) (N : Nat) (h : Nat) (hh : z.2.2.2.1 h = (2, 0)) (v1 : Int32) (σ : Mem) : VK x z 2 (BQ QI x z) 0 [(0, .ref (z.2.2.1 h)), (1, .int v1)] [] σ (fX2_isOver N h v1 σ) := by
  unfold fX2_isOver
  refine V_aload_n 0 X dX2_isOver_0 rfl rfl ?_
  refine V_getI 4 X dX2_isOver_1 co2 hh (by decide) rfl wfX2_38 ?_
  refine V_iload_n 1 X dX2_isOver_4 rfl rfl ?_
  refine V_ishr X dX2_isOver_5 ?_
  refine V_iconst (v := 1) X dX2_isOver_6 (by decide) ?_
  refine V_iand X dX2_isOver_7 ?_
  refine V_if_eq (tgt := 15) X dX2_isOver_8 (by decide) ?_ ?_
  · refine V_iconst (v := 0) X dX2_isOver_15 (by decide) ?_
    exact V_zret X E hr dX2_isOver_16 (by decide)
  · refine V_iconst (v := 1) X dX2_isOver_11 (by decide) ?_
    refine V_goto (tgt := 16) X dX2_isOver_12 (by decide) ?_
    exact V_zret X E hr dX2_isOver_16 (by decide)
theorem kX2_isOver (l : Launch) (z : Sx) (hZ : z.2.2.2.1 = kdC) (N : Nat) (h : Nat) (hh : z.2.2.2.1 h = (2, 0)) (v1 : Int32) (σ : Mem) : Ct QI yX2_isOver cX2_isOver 2 (some .boolean) 0 0 l z [.ref (z.2.2.1 h), .int v1] σ (fX2_isOver N h v1 σ) := by
  refine Ct_of (by decide +kernel) (Nat.le_of_ble_eq_true rfl) rfl ?_
  intro x _ X E hr
  exact bX2_isOver_0 X E hr hZ N h hh v1 σ
def fJ6_bitCount_0f7a4 (N : Nat) (v0 : Int32) (σ : Mem) : Option (Int32 × Mem) :=
  lt_ (v0 - ((usI v0 1) &&& 1431655765)) (fun v0_1 => lt_ ((v0_1 &&& 858993459) + ((usI v0_1 2) &&& 858993459)) (fun v0_2 => lt_ ((v0_2 + (usI v0_2 4)) &&& 252645135) (fun v0_3 => lt_ (v0_3 + (usI v0_3 8)) (fun v0_4 => lt_ (v0_4 + (usI v0_4 16)) (fun v0_5 => some ((v0_5 &&& 63), σ))))))
set_option maxRecDepth 100000 in
set_option maxHeartbeats 4000000 in
theorem bJ6_bitCount_0f7a4_0 {x : Cx} {z : Sx} (X : XG x z RJ6 cJ6_bitCount_0f7a4 1 0 0) (E : XE x z) (hr : XR x (some .int)) (hZ : z.2.2.2.1 = kdC) (N : Nat) (v0 : Int32) (σ : Mem) : VK x z 1 (BQ QI x z) 0 [(0, .int v0)] [] σ (fJ6_bitCount_0f7a4 N v0 σ) := by
  unfold fJ6_bitCount_0f7a4
  refine V_iload_n 0 X dJ6_bitCount_0f7a4_0 rfl rfl ?_
  refine V_iload_n 0 X dJ6_bitCount_0f7a4_1 rfl rfl ?_
  refine V_iconst (v := 1) X dJ6_bitCount_0f7a4_2 (by decide) ?_
  refine V_iushrG X dJ6_bitCount_0f7a4_3 ?_
  refine V_ldcw (v := 1431655765) X dJ6_bitCount_0f7a4_4 csJ6_265 ?_
  refine V_iand X dJ6_bitCount_0f7a4_7 ?_
  refine V_isub X dJ6_bitCount_0f7a4_8 ?_
  refine V_istore_nG (L' := fun v0_1 => [(0, .int v0_1)]) X dJ6_bitCount_0f7a4_9 rfl (by decide) (fun _ => rfl) (fun v0_1 => ?_)
  refine V_iload_n 0 X dJ6_bitCount_0f7a4_10 rfl rfl ?_
  refine V_ldcw (v := 858993459) X dJ6_bitCount_0f7a4_11 csJ6_266 ?_
  refine V_iand X dJ6_bitCount_0f7a4_14 ?_
  refine V_iload_n 0 X dJ6_bitCount_0f7a4_15 rfl rfl ?_
  refine V_iconst (v := 2) X dJ6_bitCount_0f7a4_16 (by decide) ?_
  refine V_iushrG X dJ6_bitCount_0f7a4_17 ?_
  refine V_ldcw (v := 858993459) X dJ6_bitCount_0f7a4_18 csJ6_266 ?_
  refine V_iand X dJ6_bitCount_0f7a4_21 ?_
  refine V_iadd X dJ6_bitCount_0f7a4_22 ?_
  refine V_istore_nG (L' := fun v0_2 => [(0, .int v0_2)]) X dJ6_bitCount_0f7a4_23 rfl (by decide) (fun _ => rfl) (fun v0_2 => ?_)
  refine V_iload_n 0 X dJ6_bitCount_0f7a4_24 rfl rfl ?_
  refine V_iload_n 0 X dJ6_bitCount_0f7a4_25 rfl rfl ?_
  refine V_iconst (v := 4) X dJ6_bitCount_0f7a4_26 (by decide) ?_
  refine V_iushrG X dJ6_bitCount_0f7a4_27 ?_
  refine V_iadd X dJ6_bitCount_0f7a4_28 ?_
  refine V_ldcw (v := 252645135) X dJ6_bitCount_0f7a4_29 csJ6_267 ?_
  refine V_iand X dJ6_bitCount_0f7a4_32 ?_
  refine V_istore_nG (L' := fun v0_3 => [(0, .int v0_3)]) X dJ6_bitCount_0f7a4_33 rfl (by decide) (fun _ => rfl) (fun v0_3 => ?_)
  refine V_iload_n 0 X dJ6_bitCount_0f7a4_34 rfl rfl ?_
  refine V_iload_n 0 X dJ6_bitCount_0f7a4_35 rfl rfl ?_
  refine V_bipush (v := 8) X dJ6_bitCount_0f7a4_36 (by decide) ?_
  refine V_iushrG X dJ6_bitCount_0f7a4_38 ?_
  refine V_iadd X dJ6_bitCount_0f7a4_39 ?_
  refine V_istore_nG (L' := fun v0_4 => [(0, .int v0_4)]) X dJ6_bitCount_0f7a4_40 rfl (by decide) (fun _ => rfl) (fun v0_4 => ?_)
  refine V_iload_n 0 X dJ6_bitCount_0f7a4_41 rfl rfl ?_
  refine V_iload_n 0 X dJ6_bitCount_0f7a4_42 rfl rfl ?_
  refine V_bipush (v := 16) X dJ6_bitCount_0f7a4_43 (by decide) ?_
  refine V_iushrG X dJ6_bitCount_0f7a4_45 ?_
  refine V_iadd X dJ6_bitCount_0f7a4_46 ?_
  refine V_istore_nG (L' := fun v0_5 => [(0, .int v0_5)]) X dJ6_bitCount_0f7a4_47 rfl (by decide) (fun _ => rfl) (fun v0_5 => ?_)
  refine V_iload_n 0 X dJ6_bitCount_0f7a4_48 rfl rfl ?_
  refine V_bipush (v := 63) X dJ6_bitCount_0f7a4_49 (by decide) ?_
  refine V_iand X dJ6_bitCount_0f7a4_51 ?_
  exact V_iret X E hr dJ6_bitCount_0f7a4_52
theorem kJ6_bitCount_0f7a4 (l : Launch) (z : Sx) (hZ : z.2.2.2.1 = kdC) (N : Nat) (v0 : Int32) (σ : Mem) : Ct QI yJ6_bitCount_0f7a4 cJ6_bitCount_0f7a4 1 (some .int) 0 0 l z [.int v0] σ (fJ6_bitCount_0f7a4 N v0 σ) := by
  refine Ct_of (by decide +kernel) (Nat.le_of_ble_eq_true rfl) rfl ?_
  intro x _ X E hr
  exact bJ6_bitCount_0f7a4_0 X E hr hZ N v0 σ
def fX2_loud (N : Nat) (h : Nat) (v1 : Int32) (v2 : Int32) (σ : Mem) : Option (Int32 × Mem) :=
  bd (fX0_hasPiece N (h + 1) v1 σ) (fun r1 s2 => if r1 = 0 then some (0, s2) else gd (inb v1 8) (bd (fJ6_bitCount_0f7a4 N (v2 &&& (s2.1 ((h + 1) + 5) v1.toNatClampNeg)) s2) (fun r3 s4 => lt_ r3 (fun v3_5 => gd (inb v1 8) (gd (inb v1 8) (gd (inb v1 8) (gd (inb v1 8) (lt_ (((((s4.1 (h + 11) v1.toNatClampNeg) + (s4.1 ((h + 1) + 3) v1.toNatClampNeg)) + ((s4.1 (h + 1) 2) * (s4.1 ((h + 1) + 2) v1.toNatClampNeg))) + (3 * v3_5)) - (4 * (s4.1 (h + 10) v1.toNatClampNeg))) (fun v4_6 => some ((mxI 0 v4_6), s4))))))))))
set_option maxRecDepth 100000 in
set_option maxHeartbeats 4000000 in
theorem bX2_loud_0 {x : Cx} {z : Sx} (X : XG x z RX2 cX2_loud 5 1 26) (E : XE x z) (hr : XR x (some .int)) (hZ : z.2.2.2.1 = kdC) (N : Nat) (h : Nat) (hh : z.2.2.2.1 h = (2, 0)) (v1 : Int32) (v2 : Int32) (σ : Mem) : VK x z 5 (BQ QI x z) 0 [(0, .ref (z.2.2.1 h)), (1, .int v1), (2, .int v2)] [] σ (fX2_loud N h v1 v2 σ) := by
  unfold fX2_loud
  refine V_aload_n 0 X dX2_loud_0 rfl rfl ?_
  refine V_getR (k1 := (h + 1)) 0 X dX2_loud_1 co2 hh (by decide) rfl rfl wfX2_12 ?_
  refine V_iload_n 1 X dX2_loud_4 rfl rfl ?_
  refine V_callI [.int v1] [] X E dX2_loud_5 (kX0_hasPiece x.2.1 z hZ N (h + 1) (kt2_0 hZ hh) v1 σ) co0 (kt2_0 hZ hh) gcX2_61 hyX0_hasPiece rfl ⟨by decide, by decide⟩ rfl (Nat.le_of_ble_eq_true rfl) (fun r1 s2 => ?_)
  refine V_if_ne (tgt := 13) X dX2_loud_8 (by decide) ?_ ?_
  · refine V_iload_n 2 X dX2_loud_13 rfl rfl ?_
    refine V_aload_n 0 X dX2_loud_14 rfl rfl ?_
    refine V_getR (k1 := (h + 1)) 0 X dX2_loud_15 co2 hh (by decide) rfl rfl wfX2_12 ?_
    refine V_getR (k1 := ((h + 1) + 5)) 7 X dX2_loud_18 co0 (kt2_0 hZ hh) (by decide) rfl rfl wfX2_71 ?_
    refine V_iload_n 1 X dX2_loud_21 rfl rfl ?_
    refine V_iald X dX2_loud_22 (kt0_7 hZ (kt2_0 hZ hh)) ?_
    refine V_iand X dX2_loud_23 ?_
    refine V_calSI [.int (v2 &&& (s2.1 ((h + 1) + 5) v1.toNatClampNeg))] [] X E dX2_loud_24 (kJ6_bitCount_0f7a4 x.2.1 z hZ N (v2 &&& (s2.1 ((h + 1) + 5) v1.toNatClampNeg)) s2) gcX2_74 hyJ6_bitCount_0f7a4 rfl ⟨by decide, by decide⟩ rfl (Nat.le_of_ble_eq_true rfl) (fun r3 s4 => ?_)
    refine V_istore_nG (L' := fun v3_5 => [(3, .int v3_5), (0, .ref (z.2.2.1 h)), (1, .int v1), (2, .int v2)]) X dX2_loud_27 rfl (by decide) (fun _ => rfl) (fun v3_5 => ?_)
    refine V_aload_n 1 X dX2_loud_28 rfl rfl ?_
    refine V_getR (k1 := (h + 11)) 2 X dX2_loud_29 co2 hh (by decide) rfl rfl wfX2_22 ?_
    refine V_iload_n 2 X dX2_loud_32 rfl rfl ?_
    refine V_iald X dX2_loud_33 (kt2_2 hZ hh) ?_
    refine V_aload_n 1 X dX2_loud_34 rfl rfl ?_
    refine V_getR (k1 := (h + 1)) 0 X dX2_loud_35 co2 hh (by decide) rfl rfl wfX2_12 ?_
    refine V_getR (k1 := ((h + 1) + 3)) 5 X dX2_loud_38 co0 (kt2_0 hZ hh) (by decide) rfl rfl wfX2_80 ?_
    refine V_iload_n 2 X dX2_loud_41 rfl rfl ?_
    refine V_iald X dX2_loud_42 (kt0_5 hZ (kt2_0 hZ hh)) ?_
    refine V_iadd X dX2_loud_43 ?_
    refine V_aload_n 1 X dX2_loud_44 rfl rfl ?_
    refine V_getR (k1 := (h + 1)) 0 X dX2_loud_45 co2 hh (by decide) rfl rfl wfX2_12 ?_
    refine V_getI 2 X dX2_loud_48 co0 (kt2_0 hZ hh) (by decide) rfl wfX2_83 ?_
    refine V_aload_n 1 X dX2_loud_51 rfl rfl ?_
    refine V_getR (k1 := (h + 1)) 0 X dX2_loud_52 co2 hh (by decide) rfl rfl wfX2_12 ?_
    refine V_getR (k1 := ((h + 1) + 2)) 4 X dX2_loud_55 co0 (kt2_0 hZ hh) (by decide) rfl rfl wfX2_86 ?_
    refine V_iload_n 2 X dX2_loud_58 rfl rfl ?_
    refine V_iald X dX2_loud_59 (kt0_4 hZ (kt2_0 hZ hh)) ?_
    refine V_imul X dX2_loud_60 ?_
    refine V_iadd X dX2_loud_61 ?_
    refine V_iconst (v := 3) X dX2_loud_62 (by decide) ?_
    refine V_iload_n 0 X dX2_loud_63 rfl rfl ?_
    refine V_imul X dX2_loud_64 ?_
    refine V_iadd X dX2_loud_65 ?_
    refine V_iconst (v := 4) X dX2_loud_66 (by decide) ?_
    refine V_aload_n 1 X dX2_loud_67 rfl rfl ?_
    refine V_getR (k1 := (h + 10)) 1 X dX2_loud_68 co2 hh (by decide) rfl rfl wfX2_18 ?_
    refine V_iload_n 2 X dX2_loud_71 rfl rfl ?_
    refine V_iald X dX2_loud_72 (kt2_1 hZ hh) ?_
    refine V_imul X dX2_loud_73 ?_
    refine V_isub X dX2_loud_74 ?_
    refine V_istoreG (L' := fun v4_6 => [(4, .int v4_6), (3, .int v3_5), (0, .ref (z.2.2.1 h)), (1, .int v1), (2, .int v2)]) X dX2_loud_75 (by decide) (fun _ => rfl) (fun v4_6 => ?_)
    refine V_iconst (v := 0) X dX2_loud_77 (by decide) ?_
    refine V_iload 0 X dX2_loud_78 rfl ?_
    refine V_mmax X dX2_loud_80 mtX2_89 mtS_max mtI mtC_max (by decide) (Nat.le_of_ble_eq_true rfl) ?_
    exact V_iret X E hr dX2_loud_83
  · refine V_iconst (v := 0) X dX2_loud_11 (by decide) ?_
    exact V_iret X E hr dX2_loud_12
theorem kX2_loud (l : Launch) (z : Sx) (hZ : z.2.2.2.1 = kdC) (N : Nat) (h : Nat) (hh : z.2.2.2.1 h = (2, 0)) (v1 : Int32) (v2 : Int32) (σ : Mem) : Ct QI yX2_loud cX2_loud 5 (some .int) 1 26 l z [.ref (z.2.2.1 h), .int v1, .int v2] σ (fX2_loud N h v1 v2 σ) := by
  refine Ct_of (by decide +kernel) (Nat.le_of_ble_eq_true rfl) rfl ?_
  intro x _ X E hr
  exact bX2_loud_0 X E hr hZ N h hh v1 v2 σ
def fX2_says_b67 (N : Nat) (h : Nat) (v1 : Int32) (v2 : Int32) (σ : Mem) : Option (Int32 × Mem) :=
  bd (fX2_loud N h v1 v2 σ) (fun r1 s2 => gd (inb v1 8) (if r1 < (s2.1 ((h + 1) + 4) v1.toNatClampNeg) then gd (inb v1 8) (if (s2.1 ((h + 1) + 1) v1.toNatClampNeg) = 2 then some (2, s2) else some (0, s2)) else gd (inb v1 8) (if (s2.1 ((h + 1) + 1) v1.toNatClampNeg) = 1 then some (2, s2) else some (1, s2))))
set_option maxRecDepth 100000 in
set_option maxHeartbeats 4000000 in
theorem bX2_says_67 {x : Cx} {z : Sx} (X : XG x z RX2 cX2_says 3 2 50) (E : XE x z) (hr : XR x (some .int)) (hZ : z.2.2.2.1 = kdC) (N : Nat) (h : Nat) (hh : z.2.2.2.1 h = (2, 0)) (v1 : Int32) (v2 : Int32) (σ : Mem) : VK x z 3 (BQ QI x z) 67 [(0, .ref (z.2.2.1 h)), (1, .int v1), (2, .int v2)] [] σ (fX2_says_b67 N h v1 v2 σ) := by
  unfold fX2_says_b67
  refine V_aload_n 0 X dX2_says_67 rfl rfl ?_
  refine V_iload_n 1 X dX2_says_68 rfl rfl ?_
  refine V_iload_n 2 X dX2_says_69 rfl rfl ?_
  refine V_callI [.int v1, .int v2] [] X E dX2_says_70 (kX2_loud x.2.1 z hZ N h hh v1 v2 σ) co2 hh gcX2_95 hyX2_loud rfl ⟨by decide, by decide⟩ rfl (Nat.le_of_ble_eq_true rfl) (fun r1 s2 => ?_)
  refine V_aload_n 0 X dX2_says_73 rfl rfl ?_
  refine V_getR (k1 := (h + 1)) 0 X dX2_says_74 co2 hh (by decide) rfl rfl wfX2_12 ?_
  refine V_getR (k1 := ((h + 1) + 4)) 6 X dX2_says_77 co0 (kt2_0 hZ hh) (by decide) rfl rfl wfX2_98 ?_
  refine V_iload_n 1 X dX2_says_80 rfl rfl ?_
  refine V_iald X dX2_says_81 (kt0_6 hZ (kt2_0 hZ hh)) ?_
  refine V_icmp_lt (tgt := 104) X dX2_says_82 (by decide) ?_ ?_
  · refine V_aload_n 0 X dX2_says_104 rfl rfl ?_
    refine V_getR (k1 := (h + 1)) 0 X dX2_says_105 co2 hh (by decide) rfl rfl wfX2_12 ?_
    refine V_getR (k1 := ((h + 1) + 1)) 3 X dX2_says_108 co0 (kt2_0 hZ hh) (by decide) rfl rfl wfX2_110 ?_
    refine V_iload_n 1 X dX2_says_111 rfl rfl ?_
    refine V_iald X dX2_says_112 (kt0_3 hZ (kt2_0 hZ hh)) ?_
    refine V_iconst (v := 2) X dX2_says_113 (by decide) ?_
    refine V_icmp_ne (tgt := 121) X dX2_says_114 (by decide) ?_ ?_
    · refine V_iconst (v := 0) X dX2_says_121 (by decide) ?_
      exact V_iret X E hr dX2_says_122
    · refine V_iconst (v := 2) X dX2_says_117 (by decide) ?_
      refine V_goto (tgt := 122) X dX2_says_118 (by decide) ?_
      exact V_iret X E hr dX2_says_122
  · refine V_aload_n 0 X dX2_says_85 rfl rfl ?_
    refine V_getR (k1 := (h + 1)) 0 X dX2_says_86 co2 hh (by decide) rfl rfl wfX2_12 ?_
    refine V_getR (k1 := ((h + 1) + 1)) 3 X dX2_says_89 co0 (kt2_0 hZ hh) (by decide) rfl rfl wfX2_110 ?_
    refine V_iload_n 1 X dX2_says_92 rfl rfl ?_
    refine V_iald X dX2_says_93 (kt0_3 hZ (kt2_0 hZ hh)) ?_
    refine V_iconst (v := 1) X dX2_says_94 (by decide) ?_
    refine V_icmp_ne (tgt := 102) X dX2_says_95 (by decide) ?_ ?_
    · refine V_iconst (v := 1) X dX2_says_102 (by decide) ?_
      exact V_iret X E hr dX2_says_103
    · refine V_iconst (v := 2) X dX2_says_98 (by decide) ?_
      refine V_goto (tgt := 103) X dX2_says_99 (by decide) ?_
      exact V_iret X E hr dX2_says_103
def fX2_says (N : Nat) (h : Nat) (v1 : Int32) (v2 : Int32) (σ : Mem) : Option (Int32 × Mem) :=
  gd (inb v1 8) (if (σ.1 ((h + 1) + 1) v1.toNatClampNeg) = 3 then if (σ.1 h 5) ≤ (σ.1 h 6) then if (σ.1 h 6) ≤ (σ.1 h 5) then some (0, σ) else some (1, σ) else some (2, σ) else gd (inb v1 8) (if (σ.1 ((h + 1) + 1) v1.toNatClampNeg) = 2 then gd (inb v1 8) (if (σ.1 (h + 11) v1.toNatClampNeg) = 0 then some (0, σ) else fX2_says_b67 N h v1 v2 σ) else fX2_says_b67 N h v1 v2 σ))
set_option maxRecDepth 100000 in
set_option maxHeartbeats 4000000 in
theorem bX2_says_0 {x : Cx} {z : Sx} (X : XG x z RX2 cX2_says 3 2 50) (E : XE x z) (hr : XR x (some .int)) (hZ : z.2.2.2.1 = kdC) (N : Nat) (h : Nat) (hh : z.2.2.2.1 h = (2, 0)) (v1 : Int32) (v2 : Int32) (σ : Mem) : VK x z 3 (BQ QI x z) 0 [(0, .ref (z.2.2.1 h)), (1, .int v1), (2, .int v2)] [] σ (fX2_says N h v1 v2 σ) := by
  unfold fX2_says
  refine V_aload_n 0 X dX2_says_0 rfl rfl ?_
  refine V_getR (k1 := (h + 1)) 0 X dX2_says_1 co2 hh (by decide) rfl rfl wfX2_12 ?_
  refine V_getR (k1 := ((h + 1) + 1)) 3 X dX2_says_4 co0 (kt2_0 hZ hh) (by decide) rfl rfl wfX2_110 ?_
  refine V_iload_n 1 X dX2_says_7 rfl rfl ?_
  refine V_iald X dX2_says_8 (kt0_3 hZ (kt2_0 hZ hh)) ?_
  refine V_iconst (v := 3) X dX2_says_9 (by decide) ?_
  refine V_icmp_ne (tgt := 43) X dX2_says_10 (by decide) ?_ ?_
  · refine V_aload_n 0 X dX2_says_43 rfl rfl ?_
    refine V_getR (k1 := (h + 1)) 0 X dX2_says_44 co2 hh (by decide) rfl rfl wfX2_12 ?_
    refine V_getR (k1 := ((h + 1) + 1)) 3 X dX2_says_47 co0 (kt2_0 hZ hh) (by decide) rfl rfl wfX2_110 ?_
    refine V_iload_n 1 X dX2_says_50 rfl rfl ?_
    refine V_iald X dX2_says_51 (kt0_3 hZ (kt2_0 hZ hh)) ?_
    refine V_iconst (v := 2) X dX2_says_52 (by decide) ?_
    refine V_icmp_ne (tgt := 67) X dX2_says_53 (by decide) ?_ ?_
    · refine V_sub [0, 1, 2] rfl ?_
      exact bX2_says_67 X E hr hZ N h hh v1 v2 σ
    · refine V_aload_n 0 X dX2_says_56 rfl rfl ?_
      refine V_getR (k1 := (h + 11)) 2 X dX2_says_57 co2 hh (by decide) rfl rfl wfX2_22 ?_
      refine V_iload_n 1 X dX2_says_60 rfl rfl ?_
      refine V_iald X dX2_says_61 (kt2_2 hZ hh) ?_
      refine V_if_ne (tgt := 67) X dX2_says_62 (by decide) ?_ ?_
      · refine V_sub [0, 1, 2] rfl ?_
        exact bX2_says_67 X E hr hZ N h hh v1 v2 σ
      · refine V_iconst (v := 0) X dX2_says_65 (by decide) ?_
        exact V_iret X E hr dX2_says_66
  · refine V_aload_n 0 X dX2_says_13 rfl rfl ?_
    refine V_getI 5 X dX2_says_14 co2 hh (by decide) rfl wfX2_42 ?_
    refine V_aload_n 0 X dX2_says_17 rfl rfl ?_
    refine V_getI 6 X dX2_says_18 co2 hh (by decide) rfl wfX2_45 ?_
    refine V_icmp_le (tgt := 26) X dX2_says_21 (by decide) ?_ ?_
    · refine V_aload_n 0 X dX2_says_26 rfl rfl ?_
      refine V_getI 5 X dX2_says_27 co2 hh (by decide) rfl wfX2_42 ?_
      refine V_aload_n 0 X dX2_says_30 rfl rfl ?_
      refine V_getI 6 X dX2_says_31 co2 hh (by decide) rfl wfX2_45 ?_
      refine V_icmp_ge (tgt := 41) X dX2_says_34 (by decide) ?_ ?_
      · refine V_iconst (v := 0) X dX2_says_41 (by decide) ?_
        exact V_iret X E hr dX2_says_42
      · refine V_iconst (v := 1) X dX2_says_37 (by decide) ?_
        refine V_goto (tgt := 42) X dX2_says_38 (by decide) ?_
        exact V_iret X E hr dX2_says_42
    · refine V_iconst (v := 2) X dX2_says_24 (by decide) ?_
      exact V_iret X E hr dX2_says_25
theorem kX2_says (l : Launch) (z : Sx) (hZ : z.2.2.2.1 = kdC) (N : Nat) (h : Nat) (hh : z.2.2.2.1 h = (2, 0)) (v1 : Int32) (v2 : Int32) (σ : Mem) : Ct QI yX2_says cX2_says 3 (some .int) 2 50 l z [.ref (z.2.2.1 h), .int v1, .int v2] σ (fX2_says N h v1 v2 σ) := by
  refine Ct_of (by decide +kernel) (Nat.le_of_ble_eq_true rfl) rfl ?_
  intro x _ X E hr
  exact bX2_says_0 X E hr hZ N h hh v1 v2 σ
