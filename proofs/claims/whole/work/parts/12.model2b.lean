def fX12_ofPerson (N : Nat) (v1 : Int32) (v2 : Int32) (σ : Mem) : Option (Int32 × Mem) :=
  gd (inb ((((σ.1 0 11) + 51) + (2 * v1)) + v2) 4176) (some ((σ.1 1 ((((σ.1 0 11) + 51) + (2 * v1)) + v2).toNatClampNeg), σ))
set_option maxRecDepth 100000 in
set_option maxHeartbeats 4000000 in
theorem bX12_ofPerson_0 {x : Cx} {z : Sx} (X : XG x z RX12 cX12_ofPerson 3 0 0) (E : XE x z) (hr : XR x (some .int)) (hZ : z.2.2.2.1 = kdM) (N : Nat) (v1 : Int32) (v2 : Int32) (σ : Mem) : VK x z 3 (BQ QI x z) 0 [(0, .ref (z.2.2.1 0)), (1, .int v1), (2, .int v2)] [] σ (fX12_ofPerson N v1 v2 σ) := by
  unfold fX12_ofPerson
  refine V_aload_n 0 X dX12_ofPerson_0 rfl rfl ?_
  refine V_getR (k1 := 1) 0 X dX12_ofPerson_1 co12 (kM hZ 0 _ rfl) (by decide) rfl rfl wfX12_7 ?_
  refine V_aload_n 0 X dX12_ofPerson_4 rfl rfl ?_
  refine V_getI 11 X dX12_ofPerson_5 co12 (kM hZ 0 _ rfl) (by decide) rfl wfX12_156 ?_
  refine V_bipush (v := 51) X dX12_ofPerson_8 (by decide) ?_
  refine V_iadd X dX12_ofPerson_10 ?_
  refine V_iconst (v := 2) X dX12_ofPerson_11 (by decide) ?_
  refine V_iload_n 1 X dX12_ofPerson_12 rfl rfl ?_
  refine V_imul X dX12_ofPerson_13 ?_
  refine V_iadd X dX12_ofPerson_14 ?_
  refine V_iload_n 2 X dX12_ofPerson_15 rfl rfl ?_
  refine V_iadd X dX12_ofPerson_16 ?_
  refine V_iald X dX12_ofPerson_17 (kM hZ 1 _ rfl) ?_
  exact V_iret X E hr dX12_ofPerson_18
theorem kX12_ofPerson (l : Launch) (z : Sx) (hZ : z.2.2.2.1 = kdM) (N : Nat) (v1 : Int32) (v2 : Int32) (σ : Mem) : Ct QI yX12_ofPerson cX12_ofPerson 3 (some .int) 0 0 l z [.ref (z.2.2.1 0), .int v1, .int v2] σ (fX12_ofPerson N v1 v2 σ) := by
  refine Ct_of (by decide +kernel) (Nat.le_of_ble_eq_true rfl) rfl ?_
  intro x _ X E hr
  exact bX12_ofPerson_0 X E hr hZ N v1 v2 σ
def fX12_chamber (N : Nat) (v1 : Int32) (v2 : Int32) (σ : Mem) : Option (Int32 × Mem) :=
  bd (fX12_isChamber N v1 σ) (fun r1 s2 => if r1 = 0 then some ((-1), s2) else bd (fX12_isIn N v2 0 2 s2) (fun r3 s4 => if r3 = 0 then lt_ (rmI v2 10) (fun v3_5 => bd (fX12_isIn N v2 10 69 s4) (fun r6 s7 => if r6 = 0 then bd (fX12_isIn N v2 70 89 s7) (fun r8 s9 => if r8 = 0 then some ((-1), s9) else bd (fX12_isPerson N v3_5 s9) (fun r10 s11 => if r10 = 0 then some ((-1), s11) else bd (fX12_ofPerson N v3_5 ((v2 / 10) - 7) s11) (fun r12 s13 => some (r12, s13)))) else bd (fX12_isPiece N v3_5 s7) (fun r14 s15 => if r14 = 0 then some ((-1), s15) else bd (fX12_of N v3_5 ((v2 / 10) - 1) s15) (fun r16 s17 => some (r16, s17))))) else gd (inb ((s4.1 0 11) + v2) 4176) (some ((s4.1 1 ((s4.1 0 11) + v2).toNatClampNeg), s4))))
set_option maxRecDepth 100000 in
set_option maxHeartbeats 4000000 in
theorem bX12_chamber_0 {x : Cx} {z : Sx} (X : XG x z RX12 cX12_chamber 4 3 65) (E : XE x z) (hr : XR x (some .int)) (hZ : z.2.2.2.1 = kdM) (N : Nat) (v1 : Int32) (v2 : Int32) (σ : Mem) : VK x z 4 (BQ QI x z) 0 [(0, .ref (z.2.2.1 0)), (1, .int v1), (2, .int v2)] [] σ (fX12_chamber N v1 v2 σ) := by
  unfold fX12_chamber
  refine V_aload_n 0 X dX12_chamber_0 rfl rfl ?_
  refine V_iload_n 1 X dX12_chamber_1 rfl rfl ?_
  refine V_callI [.int v1] [] X E dX12_chamber_2 (kX12_isChamber x.2.1 z hZ N v1 σ) co12 (kM hZ 0 _ rfl) gcX12_165 hyX12_isChamber rfl ⟨by decide, by decide⟩ rfl (Nat.le_of_ble_eq_true rfl) (fun r1 s2 => ?_)
  refine V_if_ne (tgt := 10) X dX12_chamber_5 (by decide) ?_ ?_
  · refine V_iload_n 2 X dX12_chamber_10 rfl rfl ?_
    refine V_iconst (v := 0) X dX12_chamber_11 (by decide) ?_
    refine V_iconst (v := 2) X dX12_chamber_12 (by decide) ?_
    refine V_calSI [.int v2, .int 0, .int 2] [] X E dX12_chamber_13 (kX12_isIn x.2.1 z hZ N v2 0 2 s2) gcX12_106 hyX12_isIn rfl ⟨by decide, by decide⟩ rfl (Nat.le_of_ble_eq_true rfl) (fun r3 s4 => ?_)
    refine V_if_eq (tgt := 31) X dX12_chamber_16 (by decide) ?_ ?_
    · refine V_iload_n 2 X dX12_chamber_31 rfl rfl ?_
      refine V_bipush (v := 10) X dX12_chamber_32 (by decide) ?_
      refine V_iremKG X dX12_chamber_34 (by decide) ?_
      refine V_istore_nG (L' := fun v3_5 => [(3, .int v3_5), (0, .ref (z.2.2.1 0)), (1, .int v1), (2, .int v2)]) X dX12_chamber_35 rfl (by decide) (fun _ => rfl) (fun v3_5 => ?_)
      refine V_iload_n 3 X dX12_chamber_36 rfl rfl ?_
      refine V_bipush (v := 10) X dX12_chamber_37 (by decide) ?_
      refine V_bipush (v := 69) X dX12_chamber_39 (by decide) ?_
      refine V_calSI [.int v2, .int 10, .int 69] [] X E dX12_chamber_41 (kX12_isIn x.2.1 z hZ N v2 10 69 s4) gcX12_106 hyX12_isIn rfl ⟨by decide, by decide⟩ rfl (Nat.le_of_ble_eq_true rfl) (fun r6 s7 => ?_)
      refine V_if_eq (tgt := 71) X dX12_chamber_44 (by decide) ?_ ?_
      · refine V_iload_n 3 X dX12_chamber_71 rfl rfl ?_
        refine V_bipush (v := 70) X dX12_chamber_72 (by decide) ?_
        refine V_bipush (v := 89) X dX12_chamber_74 (by decide) ?_
        refine V_calSI [.int v2, .int 70, .int 89] [] X E dX12_chamber_76 (kX12_isIn x.2.1 z hZ N v2 70 89 s7) gcX12_106 hyX12_isIn rfl ⟨by decide, by decide⟩ rfl (Nat.le_of_ble_eq_true rfl) (fun r8 s9 => ?_)
        refine V_if_eq (tgt := 105) X dX12_chamber_79 (by decide) ?_ ?_
        · refine V_iconst (v := -1) X dX12_chamber_105 (by decide) ?_
          exact V_iret X E hr dX12_chamber_106
        · refine V_aload_n 1 X dX12_chamber_82 rfl rfl ?_
          refine V_iload_n 0 X dX12_chamber_83 rfl rfl ?_
          refine V_callI [.int v3_5] [] X E dX12_chamber_84 (kX12_isPerson x.2.1 z hZ N v3_5 s9) co12 (kM hZ 0 _ rfl) gcX12_174 hyX12_isPerson rfl ⟨by decide, by decide⟩ rfl (Nat.le_of_ble_eq_true rfl) (fun r10 s11 => ?_)
          refine V_if_eq (tgt := 105) X dX12_chamber_87 (by decide) ?_ ?_
          · refine V_iconst (v := -1) X dX12_chamber_105 (by decide) ?_
            exact V_iret X E hr dX12_chamber_106
          · refine V_aload_n 1 X dX12_chamber_90 rfl rfl ?_
            refine V_iload_n 0 X dX12_chamber_91 rfl rfl ?_
            refine V_iload_n 3 X dX12_chamber_92 rfl rfl ?_
            refine V_bipush (v := 10) X dX12_chamber_93 (by decide) ?_
            refine V_idivK X dX12_chamber_95 (by decide) ?_
            refine V_bipush (v := 7) X dX12_chamber_96 (by decide) ?_
            refine V_isub X dX12_chamber_98 ?_
            refine V_callI [.int v3_5, .int ((v2 / 10) - 7)] [] X E dX12_chamber_99 (kX12_ofPerson x.2.1 z hZ N v3_5 ((v2 / 10) - 7) s11) co12 (kM hZ 0 _ rfl) gcX12_177 hyX12_ofPerson rfl ⟨by decide, by decide⟩ rfl (Nat.le_of_ble_eq_true rfl) (fun r12 s13 => ?_)
            refine V_goto (tgt := 106) X dX12_chamber_102 (by decide) ?_
            exact V_iret X E hr dX12_chamber_106
      · refine V_aload_n 1 X dX12_chamber_47 rfl rfl ?_
        refine V_iload_n 0 X dX12_chamber_48 rfl rfl ?_
        refine V_callI [.int v3_5] [] X E dX12_chamber_49 (kX12_isPiece x.2.1 z hZ N v3_5 s7) co12 (kM hZ 0 _ rfl) gcX12_168 hyX12_isPiece rfl ⟨by decide, by decide⟩ rfl (Nat.le_of_ble_eq_true rfl) (fun r14 s15 => ?_)
        refine V_if_eq (tgt := 69) X dX12_chamber_52 (by decide) ?_ ?_
        · refine V_iconst (v := -1) X dX12_chamber_69 (by decide) ?_
          exact V_iret X E hr dX12_chamber_70
        · refine V_aload_n 1 X dX12_chamber_55 rfl rfl ?_
          refine V_iload_n 0 X dX12_chamber_56 rfl rfl ?_
          refine V_iload_n 3 X dX12_chamber_57 rfl rfl ?_
          refine V_bipush (v := 10) X dX12_chamber_58 (by decide) ?_
          refine V_idivK X dX12_chamber_60 (by decide) ?_
          refine V_iconst (v := 1) X dX12_chamber_61 (by decide) ?_
          refine V_isub X dX12_chamber_62 ?_
          refine V_callI [.int v3_5, .int ((v2 / 10) - 1)] [] X E dX12_chamber_63 (kX12_of x.2.1 z hZ N v3_5 ((v2 / 10) - 1) s15) co12 (kM hZ 0 _ rfl) gcX12_171 hyX12_of rfl ⟨by decide, by decide⟩ rfl (Nat.le_of_ble_eq_true rfl) (fun r16 s17 => ?_)
          refine V_goto (tgt := 70) X dX12_chamber_66 (by decide) ?_
          exact V_iret X E hr dX12_chamber_70
    · refine V_aload_n 0 X dX12_chamber_19 rfl rfl ?_
      refine V_getR (k1 := 1) 0 X dX12_chamber_20 co12 (kM hZ 0 _ rfl) (by decide) rfl rfl wfX12_7 ?_
      refine V_aload_n 0 X dX12_chamber_23 rfl rfl ?_
      refine V_getI 11 X dX12_chamber_24 co12 (kM hZ 0 _ rfl) (by decide) rfl wfX12_156 ?_
      refine V_iload_n 2 X dX12_chamber_27 rfl rfl ?_
      refine V_iadd X dX12_chamber_28 ?_
      refine V_iald X dX12_chamber_29 (kM hZ 1 _ rfl) ?_
      exact V_iret X E hr dX12_chamber_30
  · refine V_iconst (v := -1) X dX12_chamber_8 (by decide) ?_
    exact V_iret X E hr dX12_chamber_9
theorem kX12_chamber (l : Launch) (z : Sx) (hZ : z.2.2.2.1 = kdM) (N : Nat) (v1 : Int32) (v2 : Int32) (σ : Mem) : Ct QI yX12_chamber cX12_chamber 4 (some .int) 3 65 l z [.ref (z.2.2.1 0), .int v1, .int v2] σ (fX12_chamber N v1 v2 σ) := by
  refine Ct_of (by decide +kernel) (Nat.le_of_ble_eq_true rfl) rfl ?_
  intro x _ X E hr
  exact bX12_chamber_0 X E hr hZ N v1 v2 σ
def fX12_isMotion (N : Nat) (v0 : Int32) (σ : Mem) : Option (Int32 × Mem) :=
  bd (fX12_isIn N v0 0 63 σ) (fun r1 s2 => gd (decide (r1 = 0 ∨ r1 = 1)) (some (r1, s2)))
set_option maxRecDepth 100000 in
set_option maxHeartbeats 4000000 in
theorem bX12_isMotion_0 {x : Cx} {z : Sx} (X : XG x z RX12 cX12_isMotion 1 1 22) (E : XE x z) (hr : XR x (some .boolean)) (hZ : z.2.2.2.1 = kdM) (N : Nat) (v0 : Int32) (σ : Mem) : VK x z 1 (BQ QI x z) 0 [(0, .int v0)] [] σ (fX12_isMotion N v0 σ) := by
  unfold fX12_isMotion
  refine V_iload_n 0 X dX12_isMotion_0 rfl rfl ?_
  refine V_iconst (v := 0) X dX12_isMotion_1 (by decide) ?_
  refine V_bipush (v := 63) X dX12_isMotion_2 (by decide) ?_
  refine V_calSI [.int v0, .int 0, .int 63] [] X E dX12_isMotion_4 (kX12_isIn x.2.1 z hZ N v0 0 63 σ) gcX12_106 hyX12_isIn rfl ⟨by decide, by decide⟩ rfl (Nat.le_of_ble_eq_true rfl) (fun r1 s2 => ?_)
  exact V_zretG X E hr dX12_isMotion_7
theorem kX12_isMotion (l : Launch) (z : Sx) (hZ : z.2.2.2.1 = kdM) (N : Nat) (v0 : Int32) (σ : Mem) : Ct QI yX12_isMotion cX12_isMotion 1 (some .boolean) 1 22 l z [.int v0] σ (fX12_isMotion N v0 σ) := by
  refine Ct_of (by decide +kernel) (Nat.le_of_ble_eq_true rfl) rfl ?_
  intro x _ X E hr
  exact bX12_isMotion_0 X E hr hZ N v0 σ
def fX12_asTold_b62 (N : Nat) (rc62 : Int32 → Mem → Option (Unit × Mem)) (v1 : Int32) (σ : Mem) : Option (Unit × Mem) :=
  if (σ.1 0 13) ≤ v1 then some ((), σ) else bd (fX12_ofPerson N v1 1 σ) (fun r11 s12 => gd (inb v1 6) (lt_ (pI s12 6 v1.toNatClampNeg r11) (fun s13 => lt_ (v1 + 1) (fun v1_14 => rc62 v1_14 s13))))
set_option maxRecDepth 100000 in
set_option maxHeartbeats 4000000 in
theorem bX12_asTold_62 {x : Cx} {z : Sx} (X : XG x z RX12 cX12_asTold 2 1 22) (E : XE x z) (hr : XR x none) (hZ : z.2.2.2.1 = kdM) (N : Nat) (rc62 : Int32 → Mem → Option (Unit × Mem)) (hc62 : ∀ (v1 : Int32) (σ : Mem), VK x z 2 (BQ QV x z) 62 [(0, .ref (z.2.2.1 0)), (1, .int v1)] [] σ (rc62 v1 σ)) (v1 : Int32) (σ : Mem) : VK x z 2 (BQ QV x z) 62 [(0, .ref (z.2.2.1 0)), (1, .int v1)] [] σ (fX12_asTold_b62 N rc62 v1 σ) := by
  unfold fX12_asTold_b62
  refine V_iload_n 1 X dX12_asTold_62 rfl rfl ?_
  refine V_aload_n 0 X dX12_asTold_63 rfl rfl ?_
  refine V_getI 13 X dX12_asTold_64 co12 (kM hZ 0 _ rfl) (by decide) rfl wfX12_162 ?_
  refine V_icmp_ge (tgt := 88) X dX12_asTold_67 (by decide) ?_ ?_
  · exact V_vret X E hr dX12_asTold_88
  · refine V_aload_n 0 X dX12_asTold_70 rfl rfl ?_
    refine V_getR (k1 := 6) 19 X dX12_asTold_71 co12 (kM hZ 0 _ rfl) (by decide) rfl rfl wfX12_26 ?_
    refine V_iload_n 1 X dX12_asTold_74 rfl rfl ?_
    refine V_aload_n 0 X dX12_asTold_75 rfl rfl ?_
    refine V_iload_n 1 X dX12_asTold_76 rfl rfl ?_
    refine V_iconst (v := 1) X dX12_asTold_77 (by decide) ?_
    refine V_callI [.int v1, .int 1] [.int v1, .ref (z.2.2.1 6)] X E dX12_asTold_78 (kX12_ofPerson x.2.1 z hZ N v1 1 σ) co12 (kM hZ 0 _ rfl) gcX12_177 hyX12_ofPerson rfl ⟨by decide, by decide⟩ rfl (Nat.le_of_ble_eq_true rfl) (fun r11 s12 => ?_)
    refine V_iastG X dX12_asTold_81 (kM hZ 6 _ rfl) (fun s13 => ?_)
    refine V_iincG (L' := fun v1_14 => [(1, .int v1_14), (0, .ref (z.2.2.1 0))]) 1 X dX12_asTold_82 rfl rfl (by decide) (fun _ => rfl) (fun v1_14 => ?_)
    refine V_goto (tgt := 62) X dX12_asTold_85 (by decide) ?_
    refine V_sub [1, 0] rfl ?_
    exact hc62 v1_14 s13
def fX12_asTold_l62 (N : Nat) : Nat → Int32 → Mem → Option (Unit × Mem)
  | 0 => fun _ _ => none
  | n + 1 => fX12_asTold_b62 N (fX12_asTold_l62 N n)
theorem lX12_asTold_62 {x : Cx} {z : Sx} (X : XG x z RX12 cX12_asTold 2 1 22) (E : XE x z) (hr : XR x none) (hZ : z.2.2.2.1 = kdM) (N : Nat) (n : Nat) (v1 : Int32) (σ : Mem) : VK x z 2 (BQ QV x z) 62 [(0, .ref (z.2.2.1 0)), (1, .int v1)] [] σ (fX12_asTold_l62 N n v1 σ) := by
  induction n generalizing v1 σ with
  | zero => exact V_none
  | succ n ih => exact bX12_asTold_62 X E hr hZ N (fX12_asTold_l62 N n) ih v1 σ
def fX12_asTold_b27 (N : Nat) (rc27 : Int32 → Mem → Option (Unit × Mem)) (v1 : Int32) (σ : Mem) : Option (Unit × Mem) :=
  if (σ.1 0 12) ≤ v1 then lt_ 0 (fun v1_5 => fX12_asTold_l62 N N v1_5 σ) else bd (fX12_of N v1 2 σ) (fun r6 s7 => gd (inb v1 8) (lt_ (pI s7 4 v1.toNatClampNeg r6) (fun s8 => gd (inb v1 8) (lt_ (pI s8 5 v1.toNatClampNeg 0) (fun s9 => lt_ (v1 + 1) (fun v1_10 => rc27 v1_10 s9))))))
set_option maxRecDepth 100000 in
set_option maxHeartbeats 4000000 in
theorem bX12_asTold_27 {x : Cx} {z : Sx} (X : XG x z RX12 cX12_asTold 2 1 22) (E : XE x z) (hr : XR x none) (hZ : z.2.2.2.1 = kdM) (N : Nat) (rc27 : Int32 → Mem → Option (Unit × Mem)) (hc27 : ∀ (v1 : Int32) (σ : Mem), VK x z 2 (BQ QV x z) 27 [(0, .ref (z.2.2.1 0)), (1, .int v1)] [] σ (rc27 v1 σ)) (v1 : Int32) (σ : Mem) : VK x z 2 (BQ QV x z) 27 [(0, .ref (z.2.2.1 0)), (1, .int v1)] [] σ (fX12_asTold_b27 N rc27 v1 σ) := by
  unfold fX12_asTold_b27
  refine V_iload_n 1 X dX12_asTold_27 rfl rfl ?_
  refine V_aload_n 0 X dX12_asTold_28 rfl rfl ?_
  refine V_getI 12 X dX12_asTold_29 co12 (kM hZ 0 _ rfl) (by decide) rfl wfX12_159 ?_
  refine V_icmp_ge (tgt := 60) X dX12_asTold_32 (by decide) ?_ ?_
  · refine V_iconst (v := 0) X dX12_asTold_60 (by decide) ?_
    refine V_istore_nG (L' := fun v1_5 => [(1, .int v1_5), (0, .ref (z.2.2.1 0))]) X dX12_asTold_61 rfl (by decide) (fun _ => rfl) (fun v1_5 => ?_)
    refine V_sub [1, 0] rfl ?_
    exact lX12_asTold_62 X E hr hZ N N v1_5 σ
  · refine V_aload_n 0 X dX12_asTold_35 rfl rfl ?_
    refine V_getR (k1 := 4) 17 X dX12_asTold_36 co12 (kM hZ 0 _ rfl) (by decide) rfl rfl wfX12_20 ?_
    refine V_iload_n 1 X dX12_asTold_39 rfl rfl ?_
    refine V_aload_n 0 X dX12_asTold_40 rfl rfl ?_
    refine V_iload_n 1 X dX12_asTold_41 rfl rfl ?_
    refine V_iconst (v := 2) X dX12_asTold_42 (by decide) ?_
    refine V_callI [.int v1, .int 2] [.int v1, .ref (z.2.2.1 4)] X E dX12_asTold_43 (kX12_of x.2.1 z hZ N v1 2 σ) co12 (kM hZ 0 _ rfl) gcX12_171 hyX12_of rfl ⟨by decide, by decide⟩ rfl (Nat.le_of_ble_eq_true rfl) (fun r6 s7 => ?_)
    refine V_iastG X dX12_asTold_46 (kM hZ 4 _ rfl) (fun s8 => ?_)
    refine V_aload_n 0 X dX12_asTold_47 rfl rfl ?_
    refine V_getR (k1 := 5) 18 X dX12_asTold_48 co12 (kM hZ 0 _ rfl) (by decide) rfl rfl wfX12_23 ?_
    refine V_iload_n 1 X dX12_asTold_51 rfl rfl ?_
    refine V_iconst (v := 0) X dX12_asTold_52 (by decide) ?_
    refine V_iastG X dX12_asTold_53 (kM hZ 5 _ rfl) (fun s9 => ?_)
    refine V_iincG (L' := fun v1_10 => [(1, .int v1_10), (0, .ref (z.2.2.1 0))]) 1 X dX12_asTold_54 rfl rfl (by decide) (fun _ => rfl) (fun v1_10 => ?_)
    refine V_goto (tgt := 27) X dX12_asTold_57 (by decide) ?_
    refine V_sub [1, 0] rfl ?_
    exact hc27 v1_10 s9
def fX12_asTold_l27 (N : Nat) : Nat → Int32 → Mem → Option (Unit × Mem)
  | 0 => fun _ _ => none
  | n + 1 => fX12_asTold_b27 N (fX12_asTold_l27 N n)
theorem lX12_asTold_27 {x : Cx} {z : Sx} (X : XG x z RX12 cX12_asTold 2 1 22) (E : XE x z) (hr : XR x none) (hZ : z.2.2.2.1 = kdM) (N : Nat) (n : Nat) (v1 : Int32) (σ : Mem) : VK x z 2 (BQ QV x z) 27 [(0, .ref (z.2.2.1 0)), (1, .int v1)] [] σ (fX12_asTold_l27 N n v1 σ) := by
  induction n generalizing v1 σ with
  | zero => exact V_none
  | succ n ih => exact bX12_asTold_27 X E hr hZ N (fX12_asTold_l27 N n) ih v1 σ
def fX12_asTold (N : Nat) (σ : Mem) : Option (Unit × Mem) :=
  gd (inb ((σ.1 0 11) + 2) 4176) (lt_ (pI σ 0 14 (σ.1 1 ((σ.1 0 11) + 2).toNatClampNeg)) (fun s1 => lt_ (pI s1 0 15 0) (fun s2 => lt_ (pI s2 0 16 0) (fun s3 => lt_ 0 (fun v1_4 => fX12_asTold_l27 N N v1_4 s3)))))
set_option maxRecDepth 100000 in
set_option maxHeartbeats 4000000 in
theorem bX12_asTold_0 {x : Cx} {z : Sx} (X : XG x z RX12 cX12_asTold 2 1 22) (E : XE x z) (hr : XR x none) (hZ : z.2.2.2.1 = kdM) (N : Nat) (σ : Mem) : VK x z 2 (BQ QV x z) 0 [(0, .ref (z.2.2.1 0))] [] σ (fX12_asTold N σ) := by
  unfold fX12_asTold
  refine V_aload_n 0 X dX12_asTold_0 rfl rfl ?_
  refine V_aload_n 0 X dX12_asTold_1 rfl rfl ?_
  refine V_getR (k1 := 1) 0 X dX12_asTold_2 co12 (kM hZ 0 _ rfl) (by decide) rfl rfl wfX12_7 ?_
  refine V_aload_n 0 X dX12_asTold_5 rfl rfl ?_
  refine V_getI 11 X dX12_asTold_6 co12 (kM hZ 0 _ rfl) (by decide) rfl wfX12_156 ?_
  refine V_iconst (v := 2) X dX12_asTold_9 (by decide) ?_
  refine V_iadd X dX12_asTold_10 ?_
  refine V_iald X dX12_asTold_11 (kM hZ 1 _ rfl) ?_
  refine V_putIG 14 X dX12_asTold_12 co12 (kM hZ 0 _ rfl) (by decide) rfl wfX12_180 rfl rfl rfl (fun s1 => ?_)
  refine V_aload_n 0 X dX12_asTold_15 rfl rfl ?_
  refine V_iconst (v := 0) X dX12_asTold_16 (by decide) ?_
  refine V_putIG 15 X dX12_asTold_17 co12 (kM hZ 0 _ rfl) (by decide) rfl wfX12_183 rfl rfl rfl (fun s2 => ?_)
  refine V_aload_n 0 X dX12_asTold_20 rfl rfl ?_
  refine V_iconst (v := 0) X dX12_asTold_21 (by decide) ?_
  refine V_putIG 16 X dX12_asTold_22 co12 (kM hZ 0 _ rfl) (by decide) rfl wfX12_186 rfl rfl rfl (fun s3 => ?_)
  refine V_iconst (v := 0) X dX12_asTold_25 (by decide) ?_
  refine V_istore_nG (L' := fun v1_4 => [(1, .int v1_4), (0, .ref (z.2.2.1 0))]) X dX12_asTold_26 rfl (by decide) (fun _ => rfl) (fun v1_4 => ?_)
  refine V_sub [1, 0] rfl ?_
  exact lX12_asTold_27 X E hr hZ N N v1_4 s3
theorem kX12_asTold (l : Launch) (z : Sx) (hZ : z.2.2.2.1 = kdM) (N : Nat) (σ : Mem) : Ct QV yX12_asTold cX12_asTold 2 none 1 22 l z [.ref (z.2.2.1 0)] σ (fX12_asTold N σ) := by
  refine Ct_of (by decide +kernel) (Nat.le_of_ble_eq_true rfl) rfl ?_
  intro x _ X E hr
  exact bX12_asTold_0 X E hr hZ N σ
def fX12_holds (N : Nat) (v0 : Int32) (v1 : Int32) (σ : Mem) : Option (Int32 × Mem) :=
  if ((v0 >>> (v1 &&& 31)) &&& 1) = 1 then some (1, σ) else some (0, σ)
set_option maxRecDepth 100000 in
set_option maxHeartbeats 4000000 in
theorem bX12_holds_0 {x : Cx} {z : Sx} (X : XG x z RX12 cX12_holds 2 0 0) (E : XE x z) (hr : XR x (some .boolean)) (hZ : z.2.2.2.1 = kdM) (N : Nat) (v0 : Int32) (v1 : Int32) (σ : Mem) : VK x z 2 (BQ QI x z) 0 [(0, .int v0), (1, .int v1)] [] σ (fX12_holds N v0 v1 σ) := by
  unfold fX12_holds
  refine V_iload_n 0 X dX12_holds_0 rfl rfl ?_
  refine V_iload_n 1 X dX12_holds_1 rfl rfl ?_
  refine V_ishr X dX12_holds_2 ?_
  refine V_iconst (v := 1) X dX12_holds_3 (by decide) ?_
  refine V_iand X dX12_holds_4 ?_
  refine V_iconst (v := 1) X dX12_holds_5 (by decide) ?_
  refine V_icmp_ne (tgt := 13) X dX12_holds_6 (by decide) ?_ ?_
  · refine V_iconst (v := 0) X dX12_holds_13 (by decide) ?_
    exact V_zret X E hr dX12_holds_14 (by decide)
  · refine V_iconst (v := 1) X dX12_holds_9 (by decide) ?_
    refine V_goto (tgt := 14) X dX12_holds_10 (by decide) ?_
    exact V_zret X E hr dX12_holds_14 (by decide)
theorem kX12_holds (l : Launch) (z : Sx) (hZ : z.2.2.2.1 = kdM) (N : Nat) (v0 : Int32) (v1 : Int32) (σ : Mem) : Ct QI yX12_holds cX12_holds 2 (some .boolean) 0 0 l z [.int v0, .int v1] σ (fX12_holds N v0 v1 σ) := by
  refine Ct_of (by decide +kernel) (Nat.le_of_ble_eq_true rfl) rfl ?_
  intro x _ X E hr
  exact bX12_holds_0 X E hr hZ N v0 v1 σ
def fX12_loadOf_b33 (N : Nat) (rc4 : Int32 → Int32 → Int32 → Mem → Option (Int32 × Mem)) (v1 : Int32) (v3 : Int32) (t0 : Int32) (t1 : Int32) (σ : Mem) : Option (Int32 × Mem) :=
  lt_ (t1 + t0) (fun v2_5 => lt_ (v3 + 1) (fun v3_6 => rc4 v1 v2_5 v3_6 σ))
set_option maxRecDepth 100000 in
set_option maxHeartbeats 4000000 in
theorem bX12_loadOf_33 {x : Cx} {z : Sx} (X : XG x z RX12 cX12_loadOf 4 1 22) (E : XE x z) (hr : XR x (some .int)) (hZ : z.2.2.2.1 = kdM) (N : Nat) (rc4 : Int32 → Int32 → Int32 → Mem → Option (Int32 × Mem)) (hc4 : ∀ (v1 : Int32) (v2 : Int32) (v3 : Int32) (σ : Mem), VK x z 4 (BQ QI x z) 4 [(0, .ref (z.2.2.1 0)), (1, .int v1), (2, .int v2), (3, .int v3)] [] σ (rc4 v1 v2 v3 σ)) (v1 : Int32) (v3 : Int32) (t0 : Int32) (t1 : Int32) (σ : Mem) : VK x z 4 (BQ QI x z) 33 [(0, .ref (z.2.2.1 0)), (1, .int v1), (3, .int v3)] [.int t0, .int t1] σ (fX12_loadOf_b33 N rc4 v1 v3 t0 t1 σ) := by
  unfold fX12_loadOf_b33
  refine V_iadd X dX12_loadOf_33 ?_
  refine V_istore_nG (L' := fun v2_5 => [(2, .int v2_5), (0, .ref (z.2.2.1 0)), (1, .int v1), (3, .int v3)]) X dX12_loadOf_34 rfl (by decide) (fun _ => rfl) (fun v2_5 => ?_)
  refine V_iincG (L' := fun v3_6 => [(3, .int v3_6), (2, .int v2_5), (0, .ref (z.2.2.1 0)), (1, .int v1)]) 3 X dX12_loadOf_35 rfl rfl (by decide) (fun _ => rfl) (fun v3_6 => ?_)
  refine V_goto (tgt := 4) X dX12_loadOf_38 (by decide) ?_
  refine V_sub [2, 3, 1, 0] rfl ?_
  exact hc4 v1 v2_5 v3_6 σ
def fX12_loadOf_b4 (N : Nat) (rc4 : Int32 → Int32 → Int32 → Mem → Option (Int32 × Mem)) (v1 : Int32) (v2 : Int32) (v3 : Int32) (σ : Mem) : Option (Int32 × Mem) :=
  if (σ.1 0 13) ≤ v3 then some (v2, σ) else gd (inb v3 6) (if (σ.1 6 v3.toNatClampNeg) = v1 then bd (fX12_ofPerson N v3 0 σ) (fun r3 s4 => fX12_loadOf_b33 N rc4 v1 v3 r3 v2 s4) else fX12_loadOf_b33 N rc4 v1 v3 0 v2 σ)
set_option maxRecDepth 100000 in
set_option maxHeartbeats 4000000 in
theorem bX12_loadOf_4 {x : Cx} {z : Sx} (X : XG x z RX12 cX12_loadOf 4 1 22) (E : XE x z) (hr : XR x (some .int)) (hZ : z.2.2.2.1 = kdM) (N : Nat) (rc4 : Int32 → Int32 → Int32 → Mem → Option (Int32 × Mem)) (hc4 : ∀ (v1 : Int32) (v2 : Int32) (v3 : Int32) (σ : Mem), VK x z 4 (BQ QI x z) 4 [(0, .ref (z.2.2.1 0)), (1, .int v1), (2, .int v2), (3, .int v3)] [] σ (rc4 v1 v2 v3 σ)) (v1 : Int32) (v2 : Int32) (v3 : Int32) (σ : Mem) : VK x z 4 (BQ QI x z) 4 [(0, .ref (z.2.2.1 0)), (1, .int v1), (2, .int v2), (3, .int v3)] [] σ (fX12_loadOf_b4 N rc4 v1 v2 v3 σ) := by
  unfold fX12_loadOf_b4
  refine V_iload_n 3 X dX12_loadOf_4 rfl rfl ?_
  refine V_aload_n 0 X dX12_loadOf_5 rfl rfl ?_
  refine V_getI 13 X dX12_loadOf_6 co12 (kM hZ 0 _ rfl) (by decide) rfl wfX12_162 ?_
  refine V_icmp_ge (tgt := 41) X dX12_loadOf_9 (by decide) ?_ ?_
  · refine V_iload_n 2 X dX12_loadOf_41 rfl rfl ?_
    exact V_iret X E hr dX12_loadOf_42
  · refine V_iload_n 2 X dX12_loadOf_12 rfl rfl ?_
    refine V_aload_n 0 X dX12_loadOf_13 rfl rfl ?_
    refine V_getR (k1 := 6) 19 X dX12_loadOf_14 co12 (kM hZ 0 _ rfl) (by decide) rfl rfl wfX12_26 ?_
    refine V_iload_n 3 X dX12_loadOf_17 rfl rfl ?_
    refine V_iald X dX12_loadOf_18 (kM hZ 6 _ rfl) ?_
    refine V_iload_n 1 X dX12_loadOf_19 rfl rfl ?_
    refine V_icmp_ne (tgt := 32) X dX12_loadOf_20 (by decide) ?_ ?_
    · refine V_iconst (v := 0) X dX12_loadOf_32 (by decide) ?_
      refine V_sub [0, 1, 3] rfl ?_
      exact bX12_loadOf_33 X E hr hZ N rc4 hc4 v1 v3 0 v2 σ
    · refine V_aload_n 0 X dX12_loadOf_23 rfl rfl ?_
      refine V_iload_n 3 X dX12_loadOf_24 rfl rfl ?_
      refine V_iconst (v := 0) X dX12_loadOf_25 (by decide) ?_
      refine V_callI [.int v3, .int 0] [.int v2] X E dX12_loadOf_26 (kX12_ofPerson x.2.1 z hZ N v3 0 σ) co12 (kM hZ 0 _ rfl) gcX12_177 hyX12_ofPerson rfl ⟨by decide, by decide⟩ rfl (Nat.le_of_ble_eq_true rfl) (fun r3 s4 => ?_)
      refine V_goto (tgt := 33) X dX12_loadOf_29 (by decide) ?_
      refine V_sub [0, 1, 3] rfl ?_
      exact bX12_loadOf_33 X E hr hZ N rc4 hc4 v1 v3 r3 v2 s4
def fX12_loadOf_l4 (N : Nat) : Nat → Int32 → Int32 → Int32 → Mem → Option (Int32 × Mem)
  | 0 => fun _ _ _ _ => none
  | n + 1 => fX12_loadOf_b4 N (fX12_loadOf_l4 N n)
theorem lX12_loadOf_4 {x : Cx} {z : Sx} (X : XG x z RX12 cX12_loadOf 4 1 22) (E : XE x z) (hr : XR x (some .int)) (hZ : z.2.2.2.1 = kdM) (N : Nat) (n : Nat) (v1 : Int32) (v2 : Int32) (v3 : Int32) (σ : Mem) : VK x z 4 (BQ QI x z) 4 [(0, .ref (z.2.2.1 0)), (1, .int v1), (2, .int v2), (3, .int v3)] [] σ (fX12_loadOf_l4 N n v1 v2 v3 σ) := by
  induction n generalizing v1 v2 v3 σ with
  | zero => exact V_none
  | succ n ih => exact bX12_loadOf_4 X E hr hZ N (fX12_loadOf_l4 N n) ih v1 v2 v3 σ
def fX12_loadOf (N : Nat) (v1 : Int32) (σ : Mem) : Option (Int32 × Mem) :=
  lt_ 0 (fun v2_1 => lt_ 0 (fun v3_2 => fX12_loadOf_l4 N N v1 v2_1 v3_2 σ))
set_option maxRecDepth 100000 in
set_option maxHeartbeats 4000000 in
theorem bX12_loadOf_0 {x : Cx} {z : Sx} (X : XG x z RX12 cX12_loadOf 4 1 22) (E : XE x z) (hr : XR x (some .int)) (hZ : z.2.2.2.1 = kdM) (N : Nat) (v1 : Int32) (σ : Mem) : VK x z 4 (BQ QI x z) 0 [(0, .ref (z.2.2.1 0)), (1, .int v1)] [] σ (fX12_loadOf N v1 σ) := by
  unfold fX12_loadOf
  refine V_iconst (v := 0) X dX12_loadOf_0 (by decide) ?_
  refine V_istore_nG (L' := fun v2_1 => [(2, .int v2_1), (0, .ref (z.2.2.1 0)), (1, .int v1)]) X dX12_loadOf_1 rfl (by decide) (fun _ => rfl) (fun v2_1 => ?_)
  refine V_iconst (v := 0) X dX12_loadOf_2 (by decide) ?_
  refine V_istore_nG (L' := fun v3_2 => [(3, .int v3_2), (2, .int v2_1), (0, .ref (z.2.2.1 0)), (1, .int v1)]) X dX12_loadOf_3 rfl (by decide) (fun _ => rfl) (fun v3_2 => ?_)
  refine V_sub [2, 3, 1, 0] rfl ?_
  exact lX12_loadOf_4 X E hr hZ N N v1 v2_1 v3_2 σ
theorem kX12_loadOf (l : Launch) (z : Sx) (hZ : z.2.2.2.1 = kdM) (N : Nat) (v1 : Int32) (σ : Mem) : Ct QI yX12_loadOf cX12_loadOf 4 (some .int) 1 22 l z [.ref (z.2.2.1 0), .int v1] σ (fX12_loadOf N v1 σ) := by
  refine Ct_of (by decide +kernel) (Nat.le_of_ble_eq_true rfl) rfl ?_
  intro x _ X E hr
  exact bX12_loadOf_0 X E hr hZ N v1 σ
def fX12_bitsOf_b4 (N : Nat) (rc4 : Int32 → Int32 → Int32 → Mem → Option (Int32 × Mem)) (v0 : Int32) (v1 : Int32) (v2 : Int32) (σ : Mem) : Option (Int32 × Mem) :=
  if 8 ≤ v2 then some (v1, σ) else lt_ (v1 + ((v0 >>> (v2 &&& 31)) &&& 1)) (fun v1_3 => lt_ (v2 + 1) (fun v2_4 => rc4 v0 v1_3 v2_4 σ))
set_option maxRecDepth 100000 in
set_option maxHeartbeats 4000000 in
theorem bX12_bitsOf_4 {x : Cx} {z : Sx} (X : XG x z RX12 cX12_bitsOf 3 0 0) (E : XE x z) (hr : XR x (some .int)) (hZ : z.2.2.2.1 = kdM) (N : Nat) (rc4 : Int32 → Int32 → Int32 → Mem → Option (Int32 × Mem)) (hc4 : ∀ (v0 : Int32) (v1 : Int32) (v2 : Int32) (σ : Mem), VK x z 3 (BQ QI x z) 4 [(0, .int v0), (1, .int v1), (2, .int v2)] [] σ (rc4 v0 v1 v2 σ)) (v0 : Int32) (v1 : Int32) (v2 : Int32) (σ : Mem) : VK x z 3 (BQ QI x z) 4 [(0, .int v0), (1, .int v1), (2, .int v2)] [] σ (fX12_bitsOf_b4 N rc4 v0 v1 v2 σ) := by
  unfold fX12_bitsOf_b4
  refine V_iload_n 2 X dX12_bitsOf_4 rfl rfl ?_
  refine V_bipush (v := 8) X dX12_bitsOf_5 (by decide) ?_
  refine V_icmp_ge (tgt := 24) X dX12_bitsOf_7 (by decide) ?_ ?_
  · refine V_iload_n 1 X dX12_bitsOf_24 rfl rfl ?_
    exact V_iret X E hr dX12_bitsOf_25
  · refine V_iload_n 1 X dX12_bitsOf_10 rfl rfl ?_
    refine V_iload_n 0 X dX12_bitsOf_11 rfl rfl ?_
    refine V_iload_n 2 X dX12_bitsOf_12 rfl rfl ?_
    refine V_ishr X dX12_bitsOf_13 ?_
    refine V_iconst (v := 1) X dX12_bitsOf_14 (by decide) ?_
    refine V_iand X dX12_bitsOf_15 ?_
    refine V_iadd X dX12_bitsOf_16 ?_
    refine V_istore_nG (L' := fun v1_3 => [(1, .int v1_3), (0, .int v0), (2, .int v2)]) X dX12_bitsOf_17 rfl (by decide) (fun _ => rfl) (fun v1_3 => ?_)
    refine V_iincG (L' := fun v2_4 => [(2, .int v2_4), (1, .int v1_3), (0, .int v0)]) 2 X dX12_bitsOf_18 rfl rfl (by decide) (fun _ => rfl) (fun v2_4 => ?_)
    refine V_goto (tgt := 4) X dX12_bitsOf_21 (by decide) ?_
    refine V_sub [2, 1, 0] rfl ?_
    exact hc4 v0 v1_3 v2_4 σ
def fX12_bitsOf_l4 (N : Nat) : Nat → Int32 → Int32 → Int32 → Mem → Option (Int32 × Mem)
  | 0 => fun _ _ _ _ => none
  | n + 1 => fX12_bitsOf_b4 N (fX12_bitsOf_l4 N n)
theorem lX12_bitsOf_4 {x : Cx} {z : Sx} (X : XG x z RX12 cX12_bitsOf 3 0 0) (E : XE x z) (hr : XR x (some .int)) (hZ : z.2.2.2.1 = kdM) (N : Nat) (n : Nat) (v0 : Int32) (v1 : Int32) (v2 : Int32) (σ : Mem) : VK x z 3 (BQ QI x z) 4 [(0, .int v0), (1, .int v1), (2, .int v2)] [] σ (fX12_bitsOf_l4 N n v0 v1 v2 σ) := by
  induction n generalizing v0 v1 v2 σ with
  | zero => exact V_none
  | succ n ih => exact bX12_bitsOf_4 X E hr hZ N (fX12_bitsOf_l4 N n) ih v0 v1 v2 σ
def fX12_bitsOf (N : Nat) (v0 : Int32) (σ : Mem) : Option (Int32 × Mem) :=
  lt_ 0 (fun v1_1 => lt_ 0 (fun v2_2 => fX12_bitsOf_l4 N N v0 v1_1 v2_2 σ))
set_option maxRecDepth 100000 in
set_option maxHeartbeats 4000000 in
theorem bX12_bitsOf_0 {x : Cx} {z : Sx} (X : XG x z RX12 cX12_bitsOf 3 0 0) (E : XE x z) (hr : XR x (some .int)) (hZ : z.2.2.2.1 = kdM) (N : Nat) (v0 : Int32) (σ : Mem) : VK x z 3 (BQ QI x z) 0 [(0, .int v0)] [] σ (fX12_bitsOf N v0 σ) := by
  unfold fX12_bitsOf
  refine V_iconst (v := 0) X dX12_bitsOf_0 (by decide) ?_
  refine V_istore_nG (L' := fun v1_1 => [(1, .int v1_1), (0, .int v0)]) X dX12_bitsOf_1 rfl (by decide) (fun _ => rfl) (fun v1_1 => ?_)
  refine V_iconst (v := 0) X dX12_bitsOf_2 (by decide) ?_
  refine V_istore_nG (L' := fun v2_2 => [(2, .int v2_2), (1, .int v1_1), (0, .int v0)]) X dX12_bitsOf_3 rfl (by decide) (fun _ => rfl) (fun v2_2 => ?_)
  refine V_sub [2, 1, 0] rfl ?_
  exact lX12_bitsOf_4 X E hr hZ N N v0 v1_1 v2_2 σ
theorem kX12_bitsOf (l : Launch) (z : Sx) (hZ : z.2.2.2.1 = kdM) (N : Nat) (v0 : Int32) (σ : Mem) : Ct QI yX12_bitsOf cX12_bitsOf 3 (some .int) 0 0 l z [.int v0] σ (fX12_bitsOf N v0 σ) := by
  refine Ct_of (by decide +kernel) (Nat.le_of_ble_eq_true rfl) rfl ?_
  intro x _ X E hr
  exact bX12_bitsOf_0 X E hr hZ N v0 σ
def fX12_loudOf_b38 (N : Nat) (v1 : Int32) (v2 : Int32) (t0 : Int32) (t1 : Int32) (σ : Mem) : Option (Int32 × Mem) :=
  bd (fX12_of N v1 4 σ) (fun r7 s8 => bd (fX12_bitsOf N (r7 &&& v2) s8) (fun r9 s10 => gd (inb v1 8) (lt_ (((t1 + t0) + (3 * r9)) - (4 * (s10.1 5 v1.toNatClampNeg))) (fun v3_11 => if v3_11 ≤ 0 then some (0, s10) else some (v3_11, s10)))))
set_option maxRecDepth 100000 in
set_option maxHeartbeats 4000000 in
theorem bX12_loudOf_38 {x : Cx} {z : Sx} (X : XG x z RX12 cX12_loudOf 4 2 45) (E : XE x z) (hr : XR x (some .int)) (hZ : z.2.2.2.1 = kdM) (N : Nat) (v1 : Int32) (v2 : Int32) (t0 : Int32) (t1 : Int32) (σ : Mem) : VK x z 4 (BQ QI x z) 38 [(0, .ref (z.2.2.1 0)), (1, .int v1), (2, .int v2)] [.int t0, .int t1] σ (fX12_loudOf_b38 N v1 v2 t0 t1 σ) := by
  unfold fX12_loudOf_b38
  refine V_iadd X dX12_loudOf_38 ?_
  refine V_iconst (v := 3) X dX12_loudOf_39 (by decide) ?_
  refine V_aload_n 0 X dX12_loudOf_40 rfl rfl ?_
  refine V_iload_n 1 X dX12_loudOf_41 rfl rfl ?_
  refine V_iconst (v := 4) X dX12_loudOf_42 (by decide) ?_
  refine V_callI [.int v1, .int 4] [.int 3, .int (t1 + t0)] X E dX12_loudOf_43 (kX12_of x.2.1 z hZ N v1 4 σ) co12 (kM hZ 0 _ rfl) gcX12_171 hyX12_of rfl ⟨by decide, by decide⟩ rfl (Nat.le_of_ble_eq_true rfl) (fun r7 s8 => ?_)
  refine V_iload_n 2 X dX12_loudOf_46 rfl rfl ?_
  refine V_iand X dX12_loudOf_47 ?_
  refine V_calSI [.int (r7 &&& v2)] [.int 3, .int (t1 + t0)] X E dX12_loudOf_48 (kX12_bitsOf x.2.1 z hZ N (r7 &&& v2) s8) gcX12_195 hyX12_bitsOf rfl ⟨by decide, by decide⟩ rfl (Nat.le_of_ble_eq_true rfl) (fun r9 s10 => ?_)
  refine V_imul X dX12_loudOf_51 ?_
  refine V_iadd X dX12_loudOf_52 ?_
  refine V_iconst (v := 4) X dX12_loudOf_53 (by decide) ?_
  refine V_aload_n 0 X dX12_loudOf_54 rfl rfl ?_
  refine V_getR (k1 := 5) 18 X dX12_loudOf_55 co12 (kM hZ 0 _ rfl) (by decide) rfl rfl wfX12_23 ?_
  refine V_iload_n 1 X dX12_loudOf_58 rfl rfl ?_
  refine V_iald X dX12_loudOf_59 (kM hZ 5 _ rfl) ?_
  refine V_imul X dX12_loudOf_60 ?_
  refine V_isub X dX12_loudOf_61 ?_
  refine V_istore_nG (L' := fun v3_11 => [(3, .int v3_11), (0, .ref (z.2.2.1 0)), (1, .int v1), (2, .int v2)]) X dX12_loudOf_62 rfl (by decide) (fun _ => rfl) (fun v3_11 => ?_)
  refine V_iload_n 0 X dX12_loudOf_63 rfl rfl ?_
  refine V_if_le (tgt := 71) X dX12_loudOf_64 (by decide) ?_ ?_
  · refine V_iconst (v := 0) X dX12_loudOf_71 (by decide) ?_
    exact V_iret X E hr dX12_loudOf_72
  · refine V_iload_n 0 X dX12_loudOf_67 rfl rfl ?_
    refine V_goto (tgt := 72) X dX12_loudOf_68 (by decide) ?_
    exact V_iret X E hr dX12_loudOf_72
def fX12_loudOf (N : Nat) (v1 : Int32) (v2 : Int32) (σ : Mem) : Option (Int32 × Mem) :=
  bd (fX12_loadOf N v1 σ) (fun r1 s2 => gd (inb v1 8) (bd (fX12_holds N (s2.1 0 16) v1 s2) (fun r3 s4 => if r3 = 0 then bd (fX12_of N v1 1 s4) (fun r5 s6 => fX12_loudOf_b38 N v1 v2 ((s4.1 0 14) * r5) (r1 + (s2.1 4 v1.toNatClampNeg)) s6) else fX12_loudOf_b38 N v1 v2 0 (r1 + (s2.1 4 v1.toNatClampNeg)) s4)))
set_option maxRecDepth 100000 in
set_option maxHeartbeats 4000000 in
theorem bX12_loudOf_0 {x : Cx} {z : Sx} (X : XG x z RX12 cX12_loudOf 4 2 45) (E : XE x z) (hr : XR x (some .int)) (hZ : z.2.2.2.1 = kdM) (N : Nat) (v1 : Int32) (v2 : Int32) (σ : Mem) : VK x z 4 (BQ QI x z) 0 [(0, .ref (z.2.2.1 0)), (1, .int v1), (2, .int v2)] [] σ (fX12_loudOf N v1 v2 σ) := by
  unfold fX12_loudOf
  refine V_aload_n 0 X dX12_loudOf_0 rfl rfl ?_
  refine V_iload_n 1 X dX12_loudOf_1 rfl rfl ?_
  refine V_callI [.int v1] [] X E dX12_loudOf_2 (kX12_loadOf x.2.1 z hZ N v1 σ) co12 (kM hZ 0 _ rfl) gcX12_189 hyX12_loadOf rfl ⟨by decide, by decide⟩ rfl (Nat.le_of_ble_eq_true rfl) (fun r1 s2 => ?_)
  refine V_aload_n 0 X dX12_loudOf_5 rfl rfl ?_
  refine V_getR (k1 := 4) 17 X dX12_loudOf_6 co12 (kM hZ 0 _ rfl) (by decide) rfl rfl wfX12_20 ?_
  refine V_iload_n 1 X dX12_loudOf_9 rfl rfl ?_
  refine V_iald X dX12_loudOf_10 (kM hZ 4 _ rfl) ?_
  refine V_iadd X dX12_loudOf_11 ?_
  refine V_aload_n 0 X dX12_loudOf_12 rfl rfl ?_
  refine V_getI 16 X dX12_loudOf_13 co12 (kM hZ 0 _ rfl) (by decide) rfl wfX12_186 ?_
  refine V_iload_n 1 X dX12_loudOf_16 rfl rfl ?_
  refine V_calSI [.int (s2.1 0 16), .int v1] [.int (r1 + (s2.1 4 v1.toNatClampNeg))] X E dX12_loudOf_17 (kX12_holds x.2.1 z hZ N (s2.1 0 16) v1 s2) gcX12_192 hyX12_holds rfl ⟨by decide, by decide⟩ rfl (Nat.le_of_ble_eq_true rfl) (fun r3 s4 => ?_)
  refine V_if_eq (tgt := 27) X dX12_loudOf_20 (by decide) ?_ ?_
  · refine V_aload_n 0 X dX12_loudOf_27 rfl rfl ?_
    refine V_getI 14 X dX12_loudOf_28 co12 (kM hZ 0 _ rfl) (by decide) rfl wfX12_180 ?_
    refine V_aload_n 0 X dX12_loudOf_31 rfl rfl ?_
    refine V_iload_n 1 X dX12_loudOf_32 rfl rfl ?_
    refine V_iconst (v := 1) X dX12_loudOf_33 (by decide) ?_
    refine V_callI [.int v1, .int 1] [.int (s4.1 0 14), .int (r1 + (s2.1 4 v1.toNatClampNeg))] X E dX12_loudOf_34 (kX12_of x.2.1 z hZ N v1 1 s4) co12 (kM hZ 0 _ rfl) gcX12_171 hyX12_of rfl ⟨by decide, by decide⟩ rfl (Nat.le_of_ble_eq_true rfl) (fun r5 s6 => ?_)
    refine V_imul X dX12_loudOf_37 ?_
    refine V_sub [0, 1, 2] rfl ?_
    exact bX12_loudOf_38 X E hr hZ N v1 v2 ((s4.1 0 14) * r5) (r1 + (s2.1 4 v1.toNatClampNeg)) s6
  · refine V_iconst (v := 0) X dX12_loudOf_23 (by decide) ?_
    refine V_goto (tgt := 38) X dX12_loudOf_24 (by decide) ?_
    refine V_sub [0, 1, 2] rfl ?_
    exact bX12_loudOf_38 X E hr hZ N v1 v2 0 (r1 + (s2.1 4 v1.toNatClampNeg)) s4
theorem kX12_loudOf (l : Launch) (z : Sx) (hZ : z.2.2.2.1 = kdM) (N : Nat) (v1 : Int32) (v2 : Int32) (σ : Mem) : Ct QI yX12_loudOf cX12_loudOf 4 (some .int) 2 45 l z [.ref (z.2.2.1 0), .int v1, .int v2] σ (fX12_loudOf N v1 v2 σ) := by
  refine Ct_of (by decide +kernel) (Nat.le_of_ble_eq_true rfl) rfl ?_
  intro x _ X E hr
  exact bX12_loudOf_0 X E hr hZ N v1 v2 σ
def fX12_saysOf_b33 (N : Nat) (v1 : Int32) (t0 : Int32) (σ : Mem) : Option (Int32 × Mem) :=
  lt_ t0 (fun v3_7 => bd (fX12_of N v1 0 σ) (fun r8 s9 => if r8 = 0 then if v3_7 = 0 then some (0, s9) else some (1, s9) else if r8 = 1 then if v3_7 = 0 then some (0, s9) else some (2, s9) else if r8 = 2 then bd (fX12_loadOf N v1 s9) (fun r10 s11 => if r10 = 0 then some (0, s11) else if v3_7 = 0 then some (2, s11) else some (1, s11)) else if (s9.1 0 21) ≤ (s9.1 0 22) then if (s9.1 0 22) ≤ (s9.1 0 21) then some (0, s9) else some (1, s9) else some (2, s9)))
set_option maxRecDepth 100000 in
set_option maxHeartbeats 4000000 in
theorem bX12_saysOf_33 {x : Cx} {z : Sx} (X : XG x z RX12 cX12_saysOf 4 3 68) (E : XE x z) (hr : XR x (some .int)) (hZ : z.2.2.2.1 = kdM) (N : Nat) (v1 : Int32) (t0 : Int32) (σ : Mem) : VK x z 4 (BQ QI x z) 33 [(0, .ref (z.2.2.1 0)), (1, .int v1)] [.int t0] σ (fX12_saysOf_b33 N v1 t0 σ) := by
  unfold fX12_saysOf_b33
  refine V_istore_nG (L' := fun v3_7 => [(3, .int v3_7), (0, .ref (z.2.2.1 0)), (1, .int v1)]) X dX12_saysOf_33 rfl (by decide) (fun _ => rfl) (fun v3_7 => ?_)
  refine V_aload_n 1 X dX12_saysOf_34 rfl rfl ?_
  refine V_iload_n 2 X dX12_saysOf_35 rfl rfl ?_
  refine V_iconst (v := 0) X dX12_saysOf_36 (by decide) ?_
  refine V_callI [.int v1, .int 0] [] X E dX12_saysOf_37 (kX12_of x.2.1 z hZ N v1 0 σ) co12 (kM hZ 0 _ rfl) gcX12_171 hyX12_of rfl ⟨by decide, by decide⟩ rfl (Nat.le_of_ble_eq_true rfl) (fun r8 s9 => ?_)
  refine V_split (c := 0) (fun n40_0 => ?_) (fun n40_0 => ?_)
  · refine V_tabAt (c := 0) (tgt := 68) X dX12_saysOf_40 n40_0 (by decide) (by decide) (by rfl) (by decide) ?_
    refine V_iload_n 0 X dX12_saysOf_68 rfl rfl ?_
    refine V_if_eq (tgt := 76) X dX12_saysOf_69 (by decide) ?_ ?_
    · refine V_iconst (v := 0) X dX12_saysOf_76 (by decide) ?_
      exact V_iret X E hr dX12_saysOf_77
    · refine V_iconst (v := 1) X dX12_saysOf_72 (by decide) ?_
      refine V_goto (tgt := 77) X dX12_saysOf_73 (by decide) ?_
      exact V_iret X E hr dX12_saysOf_77
  refine V_split (c := 1) (fun n40_1 => ?_) (fun n40_1 => ?_)
  · refine V_tabAt (c := 1) (tgt := 78) X dX12_saysOf_40 n40_1 (by decide) (by decide) (by rfl) (by decide) ?_
    refine V_iload_n 0 X dX12_saysOf_78 rfl rfl ?_
    refine V_if_eq (tgt := 86) X dX12_saysOf_79 (by decide) ?_ ?_
    · refine V_iconst (v := 0) X dX12_saysOf_86 (by decide) ?_
      exact V_iret X E hr dX12_saysOf_87
    · refine V_iconst (v := 2) X dX12_saysOf_82 (by decide) ?_
      refine V_goto (tgt := 87) X dX12_saysOf_83 (by decide) ?_
      exact V_iret X E hr dX12_saysOf_87
  refine V_split (c := 2) (fun n40_2 => ?_) (fun n40_2 => ?_)
  · refine V_tabAt (c := 2) (tgt := 88) X dX12_saysOf_40 n40_2 (by decide) (by decide) (by rfl) (by decide) ?_
    refine V_aload_n 1 X dX12_saysOf_88 rfl rfl ?_
    refine V_iload_n 2 X dX12_saysOf_89 rfl rfl ?_
    refine V_callI [.int v1] [] X E dX12_saysOf_90 (kX12_loadOf x.2.1 z hZ N v1 s9) co12 (kM hZ 0 _ rfl) gcX12_189 hyX12_loadOf rfl ⟨by decide, by decide⟩ rfl (Nat.le_of_ble_eq_true rfl) (fun r10 s11 => ?_)
    refine V_if_ne (tgt := 100) X dX12_saysOf_93 (by decide) ?_ ?_
    · refine V_iload_n 0 X dX12_saysOf_100 rfl rfl ?_
      refine V_if_eq (tgt := 108) X dX12_saysOf_101 (by decide) ?_ ?_
      · refine V_iconst (v := 2) X dX12_saysOf_108 (by decide) ?_
        exact V_iret X E hr dX12_saysOf_109
      · refine V_iconst (v := 1) X dX12_saysOf_104 (by decide) ?_
        refine V_goto (tgt := 109) X dX12_saysOf_105 (by decide) ?_
        exact V_iret X E hr dX12_saysOf_109
    · refine V_iconst (v := 0) X dX12_saysOf_96 (by decide) ?_
      refine V_goto (tgt := 109) X dX12_saysOf_97 (by decide) ?_
      exact V_iret X E hr dX12_saysOf_109
  refine V_tabDef (tgt := 110) X dX12_saysOf_40 (swOut (a := r8) (fun q q1 q2 => by rcases (show q = 0 ∨ q = 1 ∨ q = 2 by omega) with rfl | rfl | rfl <;> first | exact sw_ne n40_0 (by decide) | exact sw_ne n40_1 (by decide) | exact sw_ne n40_2 (by decide))) (by decide) ?_
  refine V_aload_n 1 X dX12_saysOf_110 rfl rfl ?_
  refine V_getI 21 X dX12_saysOf_111 co12 (kM hZ 0 _ rfl) (by decide) rfl wfX12_201 ?_
  refine V_aload_n 1 X dX12_saysOf_114 rfl rfl ?_
  refine V_getI 22 X dX12_saysOf_115 co12 (kM hZ 0 _ rfl) (by decide) rfl wfX12_204 ?_
  refine V_icmp_le (tgt := 125) X dX12_saysOf_118 (by decide) ?_ ?_
  · refine V_aload_n 1 X dX12_saysOf_125 rfl rfl ?_
    refine V_getI 21 X dX12_saysOf_126 co12 (kM hZ 0 _ rfl) (by decide) rfl wfX12_201 ?_
    refine V_aload_n 1 X dX12_saysOf_129 rfl rfl ?_
    refine V_getI 22 X dX12_saysOf_130 co12 (kM hZ 0 _ rfl) (by decide) rfl wfX12_204 ?_
    refine V_icmp_ge (tgt := 140) X dX12_saysOf_133 (by decide) ?_ ?_
    · refine V_iconst (v := 0) X dX12_saysOf_140 (by decide) ?_
      exact V_iret X E hr dX12_saysOf_141
    · refine V_iconst (v := 1) X dX12_saysOf_136 (by decide) ?_
      refine V_goto (tgt := 141) X dX12_saysOf_137 (by decide) ?_
      exact V_iret X E hr dX12_saysOf_141
  · refine V_iconst (v := 2) X dX12_saysOf_121 (by decide) ?_
    refine V_goto (tgt := 141) X dX12_saysOf_122 (by decide) ?_
    exact V_iret X E hr dX12_saysOf_141
def fX12_saysOf (N : Nat) (v1 : Int32) (v2 : Int32) (σ : Mem) : Option (Int32 × Mem) :=
  bd (fX12_holds N (σ.1 0 15) v1 σ) (fun r1 s2 => if r1 = 0 then bd (fX12_loudOf N v1 v2 s2) (fun r3 s4 => bd (fX12_of N v1 3 s4) (fun r5 s6 => if r3 < r5 then fX12_saysOf_b33 N v1 0 s6 else fX12_saysOf_b33 N v1 1 s6)) else some (0, s2))
set_option maxRecDepth 100000 in
set_option maxHeartbeats 4000000 in
theorem bX12_saysOf_0 {x : Cx} {z : Sx} (X : XG x z RX12 cX12_saysOf 4 3 68) (E : XE x z) (hr : XR x (some .int)) (hZ : z.2.2.2.1 = kdM) (N : Nat) (v1 : Int32) (v2 : Int32) (σ : Mem) : VK x z 4 (BQ QI x z) 0 [(0, .ref (z.2.2.1 0)), (1, .int v1), (2, .int v2)] [] σ (fX12_saysOf N v1 v2 σ) := by
  unfold fX12_saysOf
  refine V_aload_n 0 X dX12_saysOf_0 rfl rfl ?_
  refine V_getI 15 X dX12_saysOf_1 co12 (kM hZ 0 _ rfl) (by decide) rfl wfX12_183 ?_
  refine V_iload_n 1 X dX12_saysOf_4 rfl rfl ?_
  refine V_calSI [.int (σ.1 0 15), .int v1] [] X E dX12_saysOf_5 (kX12_holds x.2.1 z hZ N (σ.1 0 15) v1 σ) gcX12_192 hyX12_holds rfl ⟨by decide, by decide⟩ rfl (Nat.le_of_ble_eq_true rfl) (fun r1 s2 => ?_)
  refine V_if_eq (tgt := 13) X dX12_saysOf_8 (by decide) ?_ ?_
  · refine V_aload_n 0 X dX12_saysOf_13 rfl rfl ?_
    refine V_iload_n 1 X dX12_saysOf_14 rfl rfl ?_
    refine V_iload_n 2 X dX12_saysOf_15 rfl rfl ?_
    refine V_callI [.int v1, .int v2] [] X E dX12_saysOf_16 (kX12_loudOf x.2.1 z hZ N v1 v2 s2) co12 (kM hZ 0 _ rfl) gcX12_198 hyX12_loudOf rfl ⟨by decide, by decide⟩ rfl (Nat.le_of_ble_eq_true rfl) (fun r3 s4 => ?_)
    refine V_aload_n 0 X dX12_saysOf_19 rfl rfl ?_
    refine V_iload_n 1 X dX12_saysOf_20 rfl rfl ?_
    refine V_iconst (v := 3) X dX12_saysOf_21 (by decide) ?_
    refine V_callI [.int v1, .int 3] [.int r3] X E dX12_saysOf_22 (kX12_of x.2.1 z hZ N v1 3 s4) co12 (kM hZ 0 _ rfl) gcX12_171 hyX12_of rfl ⟨by decide, by decide⟩ rfl (Nat.le_of_ble_eq_true rfl) (fun r5 s6 => ?_)
    refine V_icmp_lt (tgt := 32) X dX12_saysOf_25 (by decide) ?_ ?_
    · refine V_iconst (v := 0) X dX12_saysOf_32 (by decide) ?_
      refine V_sub [0, 1] rfl ?_
      exact bX12_saysOf_33 X E hr hZ N v1 0 s6
    · refine V_iconst (v := 1) X dX12_saysOf_28 (by decide) ?_
      refine V_goto (tgt := 33) X dX12_saysOf_29 (by decide) ?_
      refine V_sub [0, 1] rfl ?_
      exact bX12_saysOf_33 X E hr hZ N v1 1 s6
  · refine V_iconst (v := 0) X dX12_saysOf_11 (by decide) ?_
    exact V_iret X E hr dX12_saysOf_12
theorem kX12_saysOf (l : Launch) (z : Sx) (hZ : z.2.2.2.1 = kdM) (N : Nat) (v1 : Int32) (v2 : Int32) (σ : Mem) : Ct QI yX12_saysOf cX12_saysOf 4 (some .int) 3 68 l z [.ref (z.2.2.1 0), .int v1, .int v2] σ (fX12_saysOf N v1 v2 σ) := by
  refine Ct_of (by decide +kernel) (Nat.le_of_ble_eq_true rfl) rfl ?_
  intro x _ X E hr
  exact bX12_saysOf_0 X E hr hZ N v1 v2 σ
def fX12_answers_b86 (N : Nat) (rc12 : Int32 → Int32 → Mem → Option (Int32 × Mem)) (v1 : Int32) (v2 : Int32) (t0 : Int32) (t1 : Int32) (σ : Mem) : Option (Int32 × Mem) :=
  lt_ (pI σ 0 22 (t1 + t0)) (fun s12 => lt_ (v2 + 1) (fun v2_13 => rc12 v1 v2_13 s12))
set_option maxRecDepth 100000 in
set_option maxHeartbeats 4000000 in
theorem bX12_answers_86 {x : Cx} {z : Sx} (X : XG x z RX12 cX12_answers 3 4 91) (E : XE x z) (hr : XR x (some .boolean)) (hZ : z.2.2.2.1 = kdM) (N : Nat) (rc12 : Int32 → Int32 → Mem → Option (Int32 × Mem)) (hc12 : ∀ (v1 : Int32) (v2 : Int32) (σ : Mem), VK x z 3 (BQ QI x z) 12 [(0, .ref (z.2.2.1 0)), (1, .int v1), (2, .int v2)] [] σ (rc12 v1 v2 σ)) (v1 : Int32) (v2 : Int32) (t0 : Int32) (t1 : Int32) (σ : Mem) : VK x z 3 (BQ QI x z) 86 [(0, .ref (z.2.2.1 0)), (1, .int v1), (2, .int v2)] [.int t0, .int t1, .ref (z.2.2.1 0)] σ (fX12_answers_b86 N rc12 v1 v2 t0 t1 σ) := by
  unfold fX12_answers_b86
  refine V_iadd X dX12_answers_86 ?_
  refine V_putIG 22 X dX12_answers_87 co12 (kM hZ 0 _ rfl) (by decide) rfl wfX12_204 rfl rfl rfl (fun s12 => ?_)
  refine V_iincG (L' := fun v2_13 => [(2, .int v2_13), (0, .ref (z.2.2.1 0)), (1, .int v1)]) 2 X dX12_answers_90 rfl rfl (by decide) (fun _ => rfl) (fun v2_13 => ?_)
  refine V_goto (tgt := 12) X dX12_answers_93 (by decide) ?_
  refine V_sub [1, 2, 0] rfl ?_
  exact hc12 v1 v2_13 s12
def fX12_answers_b57 (N : Nat) (rc12 : Int32 → Int32 → Mem → Option (Int32 × Mem)) (v1 : Int32) (v2 : Int32) (t0 : Int32) (t1 : Int32) (σ : Mem) : Option (Int32 × Mem) :=
  lt_ (pI σ 0 21 (t1 + t0)) (fun s9 => gd (inb v2 8) (if (s9.1 7 v2.toNatClampNeg) = 2 then bd (fX12_of N v2 5 s9) (fun r10 s11 => fX12_answers_b86 N rc12 v1 v2 r10 (s9.1 0 22) s11) else fX12_answers_b86 N rc12 v1 v2 0 (s9.1 0 22) s9))
set_option maxRecDepth 100000 in
set_option maxHeartbeats 4000000 in
theorem bX12_answers_57 {x : Cx} {z : Sx} (X : XG x z RX12 cX12_answers 3 4 91) (E : XE x z) (hr : XR x (some .boolean)) (hZ : z.2.2.2.1 = kdM) (N : Nat) (rc12 : Int32 → Int32 → Mem → Option (Int32 × Mem)) (hc12 : ∀ (v1 : Int32) (v2 : Int32) (σ : Mem), VK x z 3 (BQ QI x z) 12 [(0, .ref (z.2.2.1 0)), (1, .int v1), (2, .int v2)] [] σ (rc12 v1 v2 σ)) (v1 : Int32) (v2 : Int32) (t0 : Int32) (t1 : Int32) (σ : Mem) : VK x z 3 (BQ QI x z) 57 [(0, .ref (z.2.2.1 0)), (1, .int v1), (2, .int v2)] [.int t0, .int t1, .ref (z.2.2.1 0)] σ (fX12_answers_b57 N rc12 v1 v2 t0 t1 σ) := by
  unfold fX12_answers_b57
  refine V_iadd X dX12_answers_57 ?_
  refine V_putIG 21 X dX12_answers_58 co12 (kM hZ 0 _ rfl) (by decide) rfl wfX12_201 rfl rfl rfl (fun s9 => ?_)
  refine V_aload_n 0 X dX12_answers_61 rfl rfl ?_
  refine V_dup X dX12_answers_62 rfl ?_
  refine V_getI 22 X dX12_answers_63 co12 (kM hZ 0 _ rfl) (by decide) rfl wfX12_204 ?_
  refine V_aload_n 0 X dX12_answers_66 rfl rfl ?_
  refine V_getR (k1 := 7) 20 X dX12_answers_67 co12 (kM hZ 0 _ rfl) (by decide) rfl rfl wfX12_29 ?_
  refine V_iload_n 2 X dX12_answers_70 rfl rfl ?_
  refine V_iald X dX12_answers_71 (kM hZ 7 _ rfl) ?_
  refine V_iconst (v := 2) X dX12_answers_72 (by decide) ?_
  refine V_icmp_ne (tgt := 85) X dX12_answers_73 (by decide) ?_ ?_
  · refine V_iconst (v := 0) X dX12_answers_85 (by decide) ?_
    refine V_sub [0, 1, 2] rfl ?_
    exact bX12_answers_86 X E hr hZ N rc12 hc12 v1 v2 0 (s9.1 0 22) s9
  · refine V_aload_n 0 X dX12_answers_76 rfl rfl ?_
    refine V_iload_n 2 X dX12_answers_77 rfl rfl ?_
    refine V_iconst (v := 5) X dX12_answers_78 (by decide) ?_
    refine V_callI [.int v2, .int 5] [.int (s9.1 0 22), .ref (z.2.2.1 0)] X E dX12_answers_79 (kX12_of x.2.1 z hZ N v2 5 s9) co12 (kM hZ 0 _ rfl) gcX12_171 hyX12_of rfl ⟨by decide, by decide⟩ rfl (Nat.le_of_ble_eq_true rfl) (fun r10 s11 => ?_)
    refine V_goto (tgt := 86) X dX12_answers_82 (by decide) ?_
    refine V_sub [0, 1, 2] rfl ?_
    exact bX12_answers_86 X E hr hZ N rc12 hc12 v1 v2 r10 (s9.1 0 22) s11
def fX12_answers_b12 (N : Nat) (rc12 : Int32 → Int32 → Mem → Option (Int32 × Mem)) (v1 : Int32) (v2 : Int32) (σ : Mem) : Option (Int32 × Mem) :=
  if (σ.1 0 12) ≤ v2 then if (σ.1 0 21) ≤ (σ.1 0 22) then some (0, σ) else some (1, σ) else bd (fX12_saysOf N v2 v1 σ) (fun r4 s5 => gd (inb v2 8) (lt_ (pI s5 7 v2.toNatClampNeg r4) (fun s6 => gd (inb v2 8) (if (s6.1 7 v2.toNatClampNeg) = 1 then bd (fX12_of N v2 5 s6) (fun r7 s8 => fX12_answers_b57 N rc12 v1 v2 r7 (s6.1 0 21) s8) else fX12_answers_b57 N rc12 v1 v2 0 (s6.1 0 21) s6))))
set_option maxRecDepth 100000 in
set_option maxHeartbeats 4000000 in
theorem bX12_answers_12 {x : Cx} {z : Sx} (X : XG x z RX12 cX12_answers 3 4 91) (E : XE x z) (hr : XR x (some .boolean)) (hZ : z.2.2.2.1 = kdM) (N : Nat) (rc12 : Int32 → Int32 → Mem → Option (Int32 × Mem)) (hc12 : ∀ (v1 : Int32) (v2 : Int32) (σ : Mem), VK x z 3 (BQ QI x z) 12 [(0, .ref (z.2.2.1 0)), (1, .int v1), (2, .int v2)] [] σ (rc12 v1 v2 σ)) (v1 : Int32) (v2 : Int32) (σ : Mem) : VK x z 3 (BQ QI x z) 12 [(0, .ref (z.2.2.1 0)), (1, .int v1), (2, .int v2)] [] σ (fX12_answers_b12 N rc12 v1 v2 σ) := by
  unfold fX12_answers_b12
  refine V_iload_n 2 X dX12_answers_12 rfl rfl ?_
  refine V_aload_n 0 X dX12_answers_13 rfl rfl ?_
  refine V_getI 12 X dX12_answers_14 co12 (kM hZ 0 _ rfl) (by decide) rfl wfX12_159 ?_
  refine V_icmp_ge (tgt := 96) X dX12_answers_17 (by decide) ?_ ?_
  · refine V_aload_n 0 X dX12_answers_96 rfl rfl ?_
    refine V_getI 21 X dX12_answers_97 co12 (kM hZ 0 _ rfl) (by decide) rfl wfX12_201 ?_
    refine V_aload_n 0 X dX12_answers_100 rfl rfl ?_
    refine V_getI 22 X dX12_answers_101 co12 (kM hZ 0 _ rfl) (by decide) rfl wfX12_204 ?_
    refine V_icmp_le (tgt := 111) X dX12_answers_104 (by decide) ?_ ?_
    · refine V_iconst (v := 0) X dX12_answers_111 (by decide) ?_
      exact V_zret X E hr dX12_answers_112 (by decide)
    · refine V_iconst (v := 1) X dX12_answers_107 (by decide) ?_
      refine V_goto (tgt := 112) X dX12_answers_108 (by decide) ?_
      exact V_zret X E hr dX12_answers_112 (by decide)
  · refine V_aload_n 0 X dX12_answers_20 rfl rfl ?_
    refine V_getR (k1 := 7) 20 X dX12_answers_21 co12 (kM hZ 0 _ rfl) (by decide) rfl rfl wfX12_29 ?_
    refine V_iload_n 2 X dX12_answers_24 rfl rfl ?_
    refine V_aload_n 0 X dX12_answers_25 rfl rfl ?_
    refine V_iload_n 2 X dX12_answers_26 rfl rfl ?_
    refine V_iload_n 1 X dX12_answers_27 rfl rfl ?_
    refine V_callI [.int v2, .int v1] [.int v2, .ref (z.2.2.1 7)] X E dX12_answers_28 (kX12_saysOf x.2.1 z hZ N v2 v1 σ) co12 (kM hZ 0 _ rfl) gcX12_207 hyX12_saysOf rfl ⟨by decide, by decide⟩ rfl (Nat.le_of_ble_eq_true rfl) (fun r4 s5 => ?_)
    refine V_iastG X dX12_answers_31 (kM hZ 7 _ rfl) (fun s6 => ?_)
    refine V_aload_n 0 X dX12_answers_32 rfl rfl ?_
    refine V_dup X dX12_answers_33 rfl ?_
    refine V_getI 21 X dX12_answers_34 co12 (kM hZ 0 _ rfl) (by decide) rfl wfX12_201 ?_
    refine V_aload_n 0 X dX12_answers_37 rfl rfl ?_
    refine V_getR (k1 := 7) 20 X dX12_answers_38 co12 (kM hZ 0 _ rfl) (by decide) rfl rfl wfX12_29 ?_
    refine V_iload_n 2 X dX12_answers_41 rfl rfl ?_
    refine V_iald X dX12_answers_42 (kM hZ 7 _ rfl) ?_
    refine V_iconst (v := 1) X dX12_answers_43 (by decide) ?_
    refine V_icmp_ne (tgt := 56) X dX12_answers_44 (by decide) ?_ ?_
    · refine V_iconst (v := 0) X dX12_answers_56 (by decide) ?_
      refine V_sub [0, 1, 2] rfl ?_
      exact bX12_answers_57 X E hr hZ N rc12 hc12 v1 v2 0 (s6.1 0 21) s6
    · refine V_aload_n 0 X dX12_answers_47 rfl rfl ?_
      refine V_iload_n 2 X dX12_answers_48 rfl rfl ?_
      refine V_iconst (v := 5) X dX12_answers_49 (by decide) ?_
      refine V_callI [.int v2, .int 5] [.int (s6.1 0 21), .ref (z.2.2.1 0)] X E dX12_answers_50 (kX12_of x.2.1 z hZ N v2 5 s6) co12 (kM hZ 0 _ rfl) gcX12_171 hyX12_of rfl ⟨by decide, by decide⟩ rfl (Nat.le_of_ble_eq_true rfl) (fun r7 s8 => ?_)
      refine V_goto (tgt := 57) X dX12_answers_53 (by decide) ?_
      refine V_sub [0, 1, 2] rfl ?_
      exact bX12_answers_57 X E hr hZ N rc12 hc12 v1 v2 r7 (s6.1 0 21) s8
def fX12_answers_l12 (N : Nat) : Nat → Int32 → Int32 → Mem → Option (Int32 × Mem)
  | 0 => fun _ _ _ => none
  | n + 1 => fX12_answers_b12 N (fX12_answers_l12 N n)
theorem lX12_answers_12 {x : Cx} {z : Sx} (X : XG x z RX12 cX12_answers 3 4 91) (E : XE x z) (hr : XR x (some .boolean)) (hZ : z.2.2.2.1 = kdM) (N : Nat) (n : Nat) (v1 : Int32) (v2 : Int32) (σ : Mem) : VK x z 3 (BQ QI x z) 12 [(0, .ref (z.2.2.1 0)), (1, .int v1), (2, .int v2)] [] σ (fX12_answers_l12 N n v1 v2 σ) := by
  induction n generalizing v1 v2 σ with
  | zero => exact V_none
  | succ n ih => exact bX12_answers_12 X E hr hZ N (fX12_answers_l12 N n) ih v1 v2 σ
def fX12_answers (N : Nat) (v1 : Int32) (σ : Mem) : Option (Int32 × Mem) :=
  lt_ (pI σ 0 21 0) (fun s1 => lt_ (pI s1 0 22 0) (fun s2 => lt_ 0 (fun v2_3 => fX12_answers_l12 N N v1 v2_3 s2)))
set_option maxRecDepth 100000 in
set_option maxHeartbeats 4000000 in
theorem bX12_answers_0 {x : Cx} {z : Sx} (X : XG x z RX12 cX12_answers 3 4 91) (E : XE x z) (hr : XR x (some .boolean)) (hZ : z.2.2.2.1 = kdM) (N : Nat) (v1 : Int32) (σ : Mem) : VK x z 3 (BQ QI x z) 0 [(0, .ref (z.2.2.1 0)), (1, .int v1)] [] σ (fX12_answers N v1 σ) := by
  unfold fX12_answers
  refine V_aload_n 0 X dX12_answers_0 rfl rfl ?_
  refine V_iconst (v := 0) X dX12_answers_1 (by decide) ?_
  refine V_putIG 21 X dX12_answers_2 co12 (kM hZ 0 _ rfl) (by decide) rfl wfX12_201 rfl rfl rfl (fun s1 => ?_)
  refine V_aload_n 0 X dX12_answers_5 rfl rfl ?_
  refine V_iconst (v := 0) X dX12_answers_6 (by decide) ?_
  refine V_putIG 22 X dX12_answers_7 co12 (kM hZ 0 _ rfl) (by decide) rfl wfX12_204 rfl rfl rfl (fun s2 => ?_)
  refine V_iconst (v := 0) X dX12_answers_10 (by decide) ?_
  refine V_istore_nG (L' := fun v2_3 => [(2, .int v2_3), (0, .ref (z.2.2.1 0)), (1, .int v1)]) X dX12_answers_11 rfl (by decide) (fun _ => rfl) (fun v2_3 => ?_)
  refine V_sub [1, 2, 0] rfl ?_
  exact lX12_answers_12 X E hr hZ N N v1 v2_3 s2
theorem kX12_answers (l : Launch) (z : Sx) (hZ : z.2.2.2.1 = kdM) (N : Nat) (v1 : Int32) (σ : Mem) : Ct QI yX12_answers cX12_answers 3 (some .boolean) 4 91 l z [.ref (z.2.2.1 0), .int v1] σ (fX12_answers N v1 σ) := by
  refine Ct_of (by decide +kernel) (Nat.le_of_ble_eq_true rfl) rfl ?_
  intro x _ X E hr
  exact bX12_answers_0 X E hr hZ N v1 σ
def fX12_answer (N : Nat) (v1 : Int32) (v2 : Int32) (v3 : Int32) (σ : Mem) : Option (Int32 × Mem) :=
  bd (fX12_isChamber N v1 σ) (fun r1 s2 => if r1 = 0 then some ((-1), s2) else bd (fX12_isMotion N v2 s2) (fun r3 s4 => if r3 = 0 then some ((-1), s4) else bd (fX12_asTold N s4) (fun r5 s6 => bd (fX12_answers N v2 s6) (fun r7 s8 => lt_ r7 (fun v4_9 => bd (fX12_isIn N v3 0 2 s8) (fun r10 s11 => if r10 = 0 then lt_ (rmI v3 10) (fun v5_12 => bd (fX12_isIn N v3 10 29 s11) (fun r13 s14 => if r13 = 0 then some ((-1), s14) else bd (fX12_isPiece N v5_12 s14) (fun r15 s16 => if r15 = 0 then some ((-1), s16) else if 20 ≤ v3 then gd (inb v5_12 8) (some ((s16.1 7 v5_12.toNatClampNeg), s16)) else bd (fX12_loudOf N v5_12 v2 s16) (fun r17 s18 => some (r17, s18))))) else if v3 = 0 then if v4_9 = 0 then some (0, s11) else some (1, s11) else if v3 = 1 then some ((s11.1 0 21), s11) else some ((s11.1 0 22), s11)))))))
set_option maxRecDepth 100000 in
set_option maxHeartbeats 4000000 in
theorem bX12_answer_0 {x : Cx} {z : Sx} (X : XG x z RX12 cX12_answer 6 5 113) (E : XE x z) (hr : XR x (some .int)) (hZ : z.2.2.2.1 = kdM) (N : Nat) (v1 : Int32) (v2 : Int32) (v3 : Int32) (σ : Mem) : VK x z 6 (BQ QI x z) 0 [(0, .ref (z.2.2.1 0)), (1, .int v1), (2, .int v2), (3, .int v3)] [] σ (fX12_answer N v1 v2 v3 σ) := by
  unfold fX12_answer
  refine V_aload_n 0 X dX12_answer_0 rfl rfl ?_
  refine V_iload_n 1 X dX12_answer_1 rfl rfl ?_
  refine V_callI [.int v1] [] X E dX12_answer_2 (kX12_isChamber x.2.1 z hZ N v1 σ) co12 (kM hZ 0 _ rfl) gcX12_165 hyX12_isChamber rfl ⟨by decide, by decide⟩ rfl (Nat.le_of_ble_eq_true rfl) (fun r1 s2 => ?_)
  refine V_if_eq (tgt := 15) X dX12_answer_5 (by decide) ?_ ?_
  · refine V_iconst (v := -1) X dX12_answer_15 (by decide) ?_
    exact V_iret X E hr dX12_answer_16
  · refine V_iload_n 2 X dX12_answer_8 rfl rfl ?_
    refine V_calSI [.int v2] [] X E dX12_answer_9 (kX12_isMotion x.2.1 z hZ N v2 s2) gcX12_210 hyX12_isMotion rfl ⟨by decide, by decide⟩ rfl (Nat.le_of_ble_eq_true rfl) (fun r3 s4 => ?_)
    refine V_if_ne (tgt := 17) X dX12_answer_12 (by decide) ?_ ?_
    · refine V_aload_n 0 X dX12_answer_17 rfl rfl ?_
      refine V_callV [] [] X E dX12_answer_18 (kX12_asTold x.2.1 z hZ N s4) co12 (kM hZ 0 _ rfl) gcX12_213 hyX12_asTold rfl ⟨by decide, by decide⟩ rfl (Nat.le_of_ble_eq_true rfl) (fun r5 s6 => ?_)
      refine V_aload_n 0 X dX12_answer_21 rfl rfl ?_
      refine V_iload_n 2 X dX12_answer_22 rfl rfl ?_
      refine V_callI [.int v2] [] X E dX12_answer_23 (kX12_answers x.2.1 z hZ N v2 s6) co12 (kM hZ 0 _ rfl) gcX12_216 hyX12_answers rfl ⟨by decide, by decide⟩ rfl (Nat.le_of_ble_eq_true rfl) (fun r7 s8 => ?_)
      refine V_istoreG (L' := fun v4_9 => [(4, .int v4_9), (0, .ref (z.2.2.1 0)), (1, .int v1), (2, .int v2), (3, .int v3)]) X dX12_answer_26 (by decide) (fun _ => rfl) (fun v4_9 => ?_)
      refine V_iload_n 4 X dX12_answer_28 rfl rfl ?_
      refine V_iconst (v := 0) X dX12_answer_29 (by decide) ?_
      refine V_iconst (v := 2) X dX12_answer_30 (by decide) ?_
      refine V_calSI [.int v3, .int 0, .int 2] [] X E dX12_answer_31 (kX12_isIn x.2.1 z hZ N v3 0 2 s8) gcX12_106 hyX12_isIn rfl ⟨by decide, by decide⟩ rfl (Nat.le_of_ble_eq_true rfl) (fun r10 s11 => ?_)
      refine V_if_eq (tgt := 71) X dX12_answer_34 (by decide) ?_ ?_
      · refine V_iload_n 4 X dX12_answer_71 rfl rfl ?_
        refine V_bipush (v := 10) X dX12_answer_72 (by decide) ?_
        refine V_iremKG X dX12_answer_74 (by decide) ?_
        refine V_istoreG (L' := fun v5_12 => [(5, .int v5_12), (4, .int v4_9), (0, .ref (z.2.2.1 0)), (1, .int v1), (2, .int v2), (3, .int v3)]) X dX12_answer_75 (by decide) (fun _ => rfl) (fun v5_12 => ?_)
        refine V_iload_n 5 X dX12_answer_77 rfl rfl ?_
        refine V_bipush (v := 10) X dX12_answer_78 (by decide) ?_
        refine V_bipush (v := 29) X dX12_answer_80 (by decide) ?_
        refine V_calSI [.int v3, .int 10, .int 29] [] X E dX12_answer_82 (kX12_isIn x.2.1 z hZ N v3 10 29 s11) gcX12_106 hyX12_isIn rfl ⟨by decide, by decide⟩ rfl (Nat.le_of_ble_eq_true rfl) (fun r13 s14 => ?_)
        refine V_if_eq (tgt := 97) X dX12_answer_85 (by decide) ?_ ?_
        · refine V_iconst (v := -1) X dX12_answer_97 (by decide) ?_
          exact V_iret X E hr dX12_answer_98
        · refine V_aload_n 2 X dX12_answer_88 rfl rfl ?_
          refine V_iload 0 X dX12_answer_89 rfl ?_
          refine V_callI [.int v5_12] [] X E dX12_answer_91 (kX12_isPiece x.2.1 z hZ N v5_12 s14) co12 (kM hZ 0 _ rfl) gcX12_168 hyX12_isPiece rfl ⟨by decide, by decide⟩ rfl (Nat.le_of_ble_eq_true rfl) (fun r15 s16 => ?_)
          refine V_if_ne (tgt := 99) X dX12_answer_94 (by decide) ?_ ?_
          · refine V_iload_n 5 X dX12_answer_99 rfl rfl ?_
            refine V_bipush (v := 20) X dX12_answer_100 (by decide) ?_
            refine V_icmp_ge (tgt := 115) X dX12_answer_102 (by decide) ?_ ?_
            · refine V_aload_n 2 X dX12_answer_115 rfl rfl ?_
              refine V_getR (k1 := 7) 20 X dX12_answer_116 co12 (kM hZ 0 _ rfl) (by decide) rfl rfl wfX12_29 ?_
              refine V_iload 0 X dX12_answer_119 rfl ?_
              refine V_iald X dX12_answer_121 (kM hZ 7 _ rfl) ?_
              exact V_iret X E hr dX12_answer_122
            · refine V_aload_n 2 X dX12_answer_105 rfl rfl ?_
              refine V_iload 0 X dX12_answer_106 rfl ?_
              refine V_iload_n 4 X dX12_answer_108 rfl rfl ?_
              refine V_callI [.int v5_12, .int v2] [] X E dX12_answer_109 (kX12_loudOf x.2.1 z hZ N v5_12 v2 s16) co12 (kM hZ 0 _ rfl) gcX12_198 hyX12_loudOf rfl ⟨by decide, by decide⟩ rfl (Nat.le_of_ble_eq_true rfl) (fun r17 s18 => ?_)
              refine V_goto (tgt := 122) X dX12_answer_112 (by decide) ?_
              exact V_iret X E hr dX12_answer_122
          · refine V_iconst (v := -1) X dX12_answer_97 (by decide) ?_
            exact V_iret X E hr dX12_answer_98
      · refine V_iload_n 4 X dX12_answer_37 rfl rfl ?_
        refine V_if_ne (tgt := 54) X dX12_answer_38 (by decide) ?_ ?_
        · refine V_iload_n 4 X dX12_answer_54 rfl rfl ?_
          refine V_iconst (v := 1) X dX12_answer_55 (by decide) ?_
          refine V_icmp_ne (tgt := 66) X dX12_answer_56 (by decide) ?_ ?_
          · refine V_aload_n 1 X dX12_answer_66 rfl rfl ?_
            refine V_getI 22 X dX12_answer_67 co12 (kM hZ 0 _ rfl) (by decide) rfl wfX12_204 ?_
            exact V_iret X E hr dX12_answer_70
          · refine V_aload_n 1 X dX12_answer_59 rfl rfl ?_
            refine V_getI 21 X dX12_answer_60 co12 (kM hZ 0 _ rfl) (by decide) rfl wfX12_201 ?_
            refine V_goto (tgt := 70) X dX12_answer_63 (by decide) ?_
            exact V_iret X E hr dX12_answer_70
        · refine V_iload 0 X dX12_answer_41 rfl ?_
          refine V_if_eq (tgt := 50) X dX12_answer_43 (by decide) ?_ ?_
          · refine V_iconst (v := 0) X dX12_answer_50 (by decide) ?_
            refine V_goto (tgt := 70) X dX12_answer_51 (by decide) ?_
            exact V_iret X E hr dX12_answer_70
          · refine V_iconst (v := 1) X dX12_answer_46 (by decide) ?_
            refine V_goto (tgt := 70) X dX12_answer_47 (by decide) ?_
            exact V_iret X E hr dX12_answer_70
    · refine V_iconst (v := -1) X dX12_answer_15 (by decide) ?_
      exact V_iret X E hr dX12_answer_16
theorem kX12_answer (l : Launch) (z : Sx) (hZ : z.2.2.2.1 = kdM) (N : Nat) (v1 : Int32) (v2 : Int32) (v3 : Int32) (σ : Mem) : Ct QI yX12_answer cX12_answer 6 (some .int) 5 113 l z [.ref (z.2.2.1 0), .int v1, .int v2, .int v3] σ (fX12_answer N v1 v2 v3 σ) := by
  refine Ct_of (by decide +kernel) (Nat.le_of_ble_eq_true rfl) rfl ?_
  intro x _ X E hr
  exact bX12_answer_0 X E hr hZ N v1 v2 v3 σ
def fX12_isSession (N : Nat) (v1 : Int32) (σ : Mem) : Option (Int32 × Mem) :=
  bd (fX12_isOf N 1 v1 σ) (fun r1 s2 => if r1 = 0 then some (0, s2) else bd (fX12_placeOf N 1 v1 s2) (fun r3 s4 => lt_ (pI s4 0 23 r3) (fun s5 => some (1, s5))))
set_option maxRecDepth 100000 in
set_option maxHeartbeats 4000000 in
theorem bX12_isSession_0 {x : Cx} {z : Sx} (X : XG x z RX12 cX12_isSession 2 2 44) (E : XE x z) (hr : XR x (some .boolean)) (hZ : z.2.2.2.1 = kdM) (N : Nat) (v1 : Int32) (σ : Mem) : VK x z 2 (BQ QI x z) 0 [(0, .ref (z.2.2.1 0)), (1, .int v1)] [] σ (fX12_isSession N v1 σ) := by
  unfold fX12_isSession
  refine V_aload_n 0 X dX12_isSession_0 rfl rfl ?_
  refine V_iconst (v := 1) X dX12_isSession_1 (by decide) ?_
  refine V_iload_n 1 X dX12_isSession_2 rfl rfl ?_
  refine V_callI [.int 1, .int v1] [] X E dX12_isSession_3 (kX12_isOf x.2.1 z hZ N 1 v1 σ) co12 (kM hZ 0 _ rfl) gcX12_137 hyX12_isOf rfl ⟨by decide, by decide⟩ rfl (Nat.le_of_ble_eq_true rfl) (fun r1 s2 => ?_)
  refine V_if_ne (tgt := 11) X dX12_isSession_6 (by decide) ?_ ?_
  · refine V_aload_n 0 X dX12_isSession_11 rfl rfl ?_
    refine V_iconst (v := 1) X dX12_isSession_12 (by decide) ?_
    refine V_iload_n 1 X dX12_isSession_13 rfl rfl ?_
    refine V_calSI [.int 1, .int v1] [.ref (z.2.2.1 0)] X E dX12_isSession_14 (kX12_placeOf x.2.1 z hZ N 1 v1 s2) gcX12_153 hyX12_placeOf rfl ⟨by decide, by decide⟩ rfl (Nat.le_of_ble_eq_true rfl) (fun r3 s4 => ?_)
    refine V_putIG 23 X dX12_isSession_17 co12 (kM hZ 0 _ rfl) (by decide) rfl wfX12_219 rfl rfl rfl (fun s5 => ?_)
    refine V_iconst (v := 1) X dX12_isSession_20 (by decide) ?_
    exact V_zret X E hr dX12_isSession_21 (by decide)
  · refine V_iconst (v := 0) X dX12_isSession_9 (by decide) ?_
    exact V_zret X E hr dX12_isSession_10 (by decide)
theorem kX12_isSession (l : Launch) (z : Sx) (hZ : z.2.2.2.1 = kdM) (N : Nat) (v1 : Int32) (σ : Mem) : Ct QI yX12_isSession cX12_isSession 2 (some .boolean) 2 44 l z [.ref (z.2.2.1 0), .int v1] σ (fX12_isSession N v1 σ) := by
  refine Ct_of (by decide +kernel) (Nat.le_of_ble_eq_true rfl) rfl ?_
  intro x _ X E hr
  exact bX12_isSession_0 X E hr hZ N v1 σ
def fX12_deed (N : Nat) (v1 : Int32) (v2 : Int32) (v3 : Int32) (σ : Mem) : Option (Int32 × Mem) :=
  bd (fX12_isSession N v1 σ) (fun r1 s2 => if r1 = 0 then some ((-2), s2) else if v2 = (-1) then if v3 = 0 then gd (inb (s2.1 0 23) 4176) (some ((s2.1 1 (s2.1 0 23).toNatClampNeg), s2)) else some ((-2), s2) else gd (inb (s2.1 0 23) 4176) (bd (fX12_isIn N v2 0 ((s2.1 1 (s2.1 0 23).toNatClampNeg) - 1) s2) (fun r3 s4 => if r3 = 0 then some ((-2), s4) else bd (fX12_isIn N v3 0 2 s4) (fun r5 s6 => if r5 = 0 then some ((-2), s6) else gd (inb ((((s6.1 0 23) + 1) + (3 * v2)) + v3) 4176) (some ((s6.1 1 ((((s6.1 0 23) + 1) + (3 * v2)) + v3).toNatClampNeg), s6))))))
set_option maxRecDepth 100000 in
set_option maxHeartbeats 4000000 in
theorem bX12_deed_0 {x : Cx} {z : Sx} (X : XG x z RX12 cX12_deed 4 3 65) (E : XE x z) (hr : XR x (some .int)) (hZ : z.2.2.2.1 = kdM) (N : Nat) (v1 : Int32) (v2 : Int32) (v3 : Int32) (σ : Mem) : VK x z 4 (BQ QI x z) 0 [(0, .ref (z.2.2.1 0)), (1, .int v1), (2, .int v2), (3, .int v3)] [] σ (fX12_deed N v1 v2 v3 σ) := by
  unfold fX12_deed
  refine V_aload_n 0 X dX12_deed_0 rfl rfl ?_
  refine V_iload_n 1 X dX12_deed_1 rfl rfl ?_
  refine V_callI [.int v1] [] X E dX12_deed_2 (kX12_isSession x.2.1 z hZ N v1 σ) co12 (kM hZ 0 _ rfl) gcX12_222 hyX12_isSession rfl ⟨by decide, by decide⟩ rfl (Nat.le_of_ble_eq_true rfl) (fun r1 s2 => ?_)
  refine V_if_ne (tgt := 11) X dX12_deed_5 (by decide) ?_ ?_
  · refine V_iload_n 2 X dX12_deed_11 rfl rfl ?_
    refine V_iconst (v := -1) X dX12_deed_12 (by decide) ?_
    refine V_icmp_ne (tgt := 35) X dX12_deed_13 (by decide) ?_ ?_
    · refine V_iload_n 2 X dX12_deed_35 rfl rfl ?_
      refine V_iconst (v := 0) X dX12_deed_36 (by decide) ?_
      refine V_aload_n 0 X dX12_deed_37 rfl rfl ?_
      refine V_getR (k1 := 1) 0 X dX12_deed_38 co12 (kM hZ 0 _ rfl) (by decide) rfl rfl wfX12_7 ?_
      refine V_aload_n 0 X dX12_deed_41 rfl rfl ?_
      refine V_getI 23 X dX12_deed_42 co12 (kM hZ 0 _ rfl) (by decide) rfl wfX12_219 ?_
      refine V_iald X dX12_deed_45 (kM hZ 1 _ rfl) ?_
      refine V_iconst (v := 1) X dX12_deed_46 (by decide) ?_
      refine V_isub X dX12_deed_47 ?_
      refine V_calSI [.int v2, .int 0, .int ((s2.1 1 (s2.1 0 23).toNatClampNeg) - 1)] [] X E dX12_deed_48 (kX12_isIn x.2.1 z hZ N v2 0 ((s2.1 1 (s2.1 0 23).toNatClampNeg) - 1) s2) gcX12_106 hyX12_isIn rfl ⟨by decide, by decide⟩ rfl (Nat.le_of_ble_eq_true rfl) (fun r3 s4 => ?_)
      refine V_if_eq (tgt := 83) X dX12_deed_51 (by decide) ?_ ?_
      · refine V_bipush (v := -2) X dX12_deed_83 (by decide) ?_
        exact V_iret X E hr dX12_deed_85
      · refine V_iload_n 3 X dX12_deed_54 rfl rfl ?_
        refine V_iconst (v := 0) X dX12_deed_55 (by decide) ?_
        refine V_iconst (v := 2) X dX12_deed_56 (by decide) ?_
        refine V_calSI [.int v3, .int 0, .int 2] [] X E dX12_deed_57 (kX12_isIn x.2.1 z hZ N v3 0 2 s4) gcX12_106 hyX12_isIn rfl ⟨by decide, by decide⟩ rfl (Nat.le_of_ble_eq_true rfl) (fun r5 s6 => ?_)
        refine V_if_eq (tgt := 83) X dX12_deed_60 (by decide) ?_ ?_
        · refine V_bipush (v := -2) X dX12_deed_83 (by decide) ?_
          exact V_iret X E hr dX12_deed_85
        · refine V_aload_n 0 X dX12_deed_63 rfl rfl ?_
          refine V_getR (k1 := 1) 0 X dX12_deed_64 co12 (kM hZ 0 _ rfl) (by decide) rfl rfl wfX12_7 ?_
          refine V_aload_n 0 X dX12_deed_67 rfl rfl ?_
          refine V_getI 23 X dX12_deed_68 co12 (kM hZ 0 _ rfl) (by decide) rfl wfX12_219 ?_
          refine V_iconst (v := 1) X dX12_deed_71 (by decide) ?_
          refine V_iadd X dX12_deed_72 ?_
          refine V_iconst (v := 3) X dX12_deed_73 (by decide) ?_
          refine V_iload_n 2 X dX12_deed_74 rfl rfl ?_
          refine V_imul X dX12_deed_75 ?_
          refine V_iadd X dX12_deed_76 ?_
          refine V_iload_n 3 X dX12_deed_77 rfl rfl ?_
          refine V_iadd X dX12_deed_78 ?_
          refine V_iald X dX12_deed_79 (kM hZ 1 _ rfl) ?_
          refine V_goto (tgt := 85) X dX12_deed_80 (by decide) ?_
          exact V_iret X E hr dX12_deed_85
    · refine V_iload_n 3 X dX12_deed_16 rfl rfl ?_
      refine V_if_ne (tgt := 32) X dX12_deed_17 (by decide) ?_ ?_
      · refine V_bipush (v := -2) X dX12_deed_32 (by decide) ?_
        exact V_iret X E hr dX12_deed_34
      · refine V_aload_n 0 X dX12_deed_20 rfl rfl ?_
        refine V_getR (k1 := 1) 0 X dX12_deed_21 co12 (kM hZ 0 _ rfl) (by decide) rfl rfl wfX12_7 ?_
        refine V_aload_n 0 X dX12_deed_24 rfl rfl ?_
        refine V_getI 23 X dX12_deed_25 co12 (kM hZ 0 _ rfl) (by decide) rfl wfX12_219 ?_
        refine V_iald X dX12_deed_28 (kM hZ 1 _ rfl) ?_
        refine V_goto (tgt := 34) X dX12_deed_29 (by decide) ?_
        exact V_iret X E hr dX12_deed_34
  · refine V_bipush (v := -2) X dX12_deed_8 (by decide) ?_
    exact V_iret X E hr dX12_deed_10
theorem kX12_deed (l : Launch) (z : Sx) (hZ : z.2.2.2.1 = kdM) (N : Nat) (v1 : Int32) (v2 : Int32) (v3 : Int32) (σ : Mem) : Ct QI yX12_deed cX12_deed 4 (some .int) 3 65 l z [.ref (z.2.2.1 0), .int v1, .int v2, .int v3] σ (fX12_deed N v1 v2 v3 σ) := by
  refine Ct_of (by decide +kernel) (Nat.le_of_ble_eq_true rfl) rfl ?_
  intro x _ X E hr
  exact bX12_deed_0 X E hr hZ N v1 v2 v3 σ
def fX12_begins (N : Nat) (σ : Mem) : Option (Unit × Mem) :=
  bd (fX12_asTold N σ) (fun r1 s2 => lt_ (pI s2 0 24 0) (fun s3 => lt_ (pI s3 0 25 0) (fun s4 => lt_ (pI s4 0 21 0) (fun s5 => lt_ (pI s5 0 22 0) (fun s6 => lt_ (pI s6 0 26 0) (fun s7 => some ((), s7)))))))
set_option maxRecDepth 100000 in
set_option maxHeartbeats 4000000 in
theorem bX12_begins_0 {x : Cx} {z : Sx} (X : XG x z RX12 cX12_begins 1 2 43) (E : XE x z) (hr : XR x none) (hZ : z.2.2.2.1 = kdM) (N : Nat) (σ : Mem) : VK x z 1 (BQ QV x z) 0 [(0, .ref (z.2.2.1 0))] [] σ (fX12_begins N σ) := by
  unfold fX12_begins
  refine V_aload_n 0 X dX12_begins_0 rfl rfl ?_
  refine V_callV [] [] X E dX12_begins_1 (kX12_asTold x.2.1 z hZ N σ) co12 (kM hZ 0 _ rfl) gcX12_213 hyX12_asTold rfl ⟨by decide, by decide⟩ rfl (Nat.le_of_ble_eq_true rfl) (fun r1 s2 => ?_)
  refine V_aload_n 0 X dX12_begins_4 rfl rfl ?_
  refine V_iconst (v := 0) X dX12_begins_5 (by decide) ?_
  refine V_putIG 24 X dX12_begins_6 co12 (kM hZ 0 _ rfl) (by decide) rfl wfX12_225 rfl rfl rfl (fun s3 => ?_)
  refine V_aload_n 0 X dX12_begins_9 rfl rfl ?_
  refine V_iconst (v := 0) X dX12_begins_10 (by decide) ?_
  refine V_putIG 25 X dX12_begins_11 co12 (kM hZ 0 _ rfl) (by decide) rfl wfX12_228 rfl rfl rfl (fun s4 => ?_)
  refine V_aload_n 0 X dX12_begins_14 rfl rfl ?_
  refine V_iconst (v := 0) X dX12_begins_15 (by decide) ?_
  refine V_putIG 21 X dX12_begins_16 co12 (kM hZ 0 _ rfl) (by decide) rfl wfX12_201 rfl rfl rfl (fun s5 => ?_)
  refine V_aload_n 0 X dX12_begins_19 rfl rfl ?_
  refine V_iconst (v := 0) X dX12_begins_20 (by decide) ?_
  refine V_putIG 22 X dX12_begins_21 co12 (kM hZ 0 _ rfl) (by decide) rfl wfX12_204 rfl rfl rfl (fun s6 => ?_)
  refine V_aload_n 0 X dX12_begins_24 rfl rfl ?_
  refine V_iconst (v := 0) X dX12_begins_25 (by decide) ?_
  refine V_putIG 26 X dX12_begins_26 co12 (kM hZ 0 _ rfl) (by decide) rfl wfX12_231 rfl rfl rfl (fun s7 => ?_)
  exact V_vret X E hr dX12_begins_29
theorem kX12_begins (l : Launch) (z : Sx) (hZ : z.2.2.2.1 = kdM) (N : Nat) (σ : Mem) : Ct QV yX12_begins cX12_begins 1 none 2 43 l z [.ref (z.2.2.1 0)] σ (fX12_begins N σ) := by
  refine Ct_of (by decide +kernel) (Nat.le_of_ble_eq_true rfl) rfl ?_
  intro x _ X E hr
  exact bX12_begins_0 X E hr hZ N σ
def fX12_puts_b120 (N : Nat) (rc34 : Int32 → Mem → Option (Unit × Mem)) (v2 : Int32) (σ : Mem) : Option (Unit × Mem) :=
  lt_ (v2 + 1) (fun v2_10 => rc34 v2_10 σ)
set_option maxRecDepth 100000 in
set_option maxHeartbeats 4000000 in
theorem bX12_puts_120 {x : Cx} {z : Sx} (X : XG x z RX12 cX12_puts 4 5 113) (E : XE x z) (hr : XR x none) (hZ : z.2.2.2.1 = kdM) (N : Nat) (rc34 : Int32 → Mem → Option (Unit × Mem)) (hc34 : ∀ (v2 : Int32) (σ : Mem), VK x z 4 (BQ QV x z) 34 [(0, .ref (z.2.2.1 0)), (2, .int v2)] [] σ (rc34 v2 σ)) (v2 : Int32) (σ : Mem) : VK x z 4 (BQ QV x z) 120 [(0, .ref (z.2.2.1 0)), (2, .int v2)] [] σ (fX12_puts_b120 N rc34 v2 σ) := by
  unfold fX12_puts_b120
  refine V_iincG (L' := fun v2_10 => [(2, .int v2_10), (0, .ref (z.2.2.1 0))]) 1 X dX12_puts_120 rfl rfl (by decide) (fun _ => rfl) (fun v2_10 => ?_)
  refine V_goto (tgt := 34) X dX12_puts_123 (by decide) ?_
  refine V_sub [1, 0] rfl ?_
  exact hc34 v2_10 σ
def fX12_puts_b113 (N : Nat) (rc34 : Int32 → Mem → Option (Unit × Mem)) (rc79 : Int32 → Int32 → Mem → Option (Unit × Mem)) (v2 : Int32) (v3 : Int32) (t0 : Int32) (t1 : Int32) (σ : Mem) : Option (Unit × Mem) :=
  gd (inb t1 6) (lt_ (pI σ 6 t1.toNatClampNeg t0) (fun s11 => lt_ (v3 + 1) (fun v3_12 => rc79 v2 v3_12 s11)))
set_option maxRecDepth 100000 in
set_option maxHeartbeats 4000000 in
theorem bX12_puts_113 {x : Cx} {z : Sx} (X : XG x z RX12 cX12_puts 4 5 113) (E : XE x z) (hr : XR x none) (hZ : z.2.2.2.1 = kdM) (N : Nat) (rc34 : Int32 → Mem → Option (Unit × Mem)) (hc34 : ∀ (v2 : Int32) (σ : Mem), VK x z 4 (BQ QV x z) 34 [(0, .ref (z.2.2.1 0)), (2, .int v2)] [] σ (rc34 v2 σ)) (rc79 : Int32 → Int32 → Mem → Option (Unit × Mem)) (hc79 : ∀ (v2 : Int32) (v3 : Int32) (σ : Mem), VK x z 4 (BQ QV x z) 79 [(0, .ref (z.2.2.1 0)), (2, .int v2), (3, .int v3)] [] σ (rc79 v2 v3 σ)) (v2 : Int32) (v3 : Int32) (t0 : Int32) (t1 : Int32) (σ : Mem) : VK x z 4 (BQ QV x z) 113 [(0, .ref (z.2.2.1 0)), (2, .int v2), (3, .int v3)] [.int t0, .int t1, .ref (z.2.2.1 6)] σ (fX12_puts_b113 N rc34 rc79 v2 v3 t0 t1 σ) := by
  unfold fX12_puts_b113
  refine V_iastG X dX12_puts_113 (kM hZ 6 _ rfl) (fun s11 => ?_)
  refine V_iincG (L' := fun v3_12 => [(3, .int v3_12), (0, .ref (z.2.2.1 0)), (2, .int v2)]) 2 X dX12_puts_114 rfl rfl (by decide) (fun _ => rfl) (fun v3_12 => ?_)
  refine V_goto (tgt := 79) X dX12_puts_117 (by decide) ?_
  refine V_sub [1, 2, 0] rfl ?_
  exact hc79 v2 v3_12 s11
def fX12_puts_b79 (N : Nat) (rc34 : Int32 → Mem → Option (Unit × Mem)) (rc79 : Int32 → Int32 → Mem → Option (Unit × Mem)) (v2 : Int32) (v3 : Int32) (σ : Mem) : Option (Unit × Mem) :=
  if (σ.1 0 13) ≤ v3 then fX12_puts_b120 N rc34 v2 σ else gd (inb v3 6) (if (σ.1 6 v3.toNatClampNeg) = v2 then fX12_puts_b113 N rc34 rc79 v2 v3 8 v3 σ else gd (inb v3 6) (fX12_puts_b113 N rc34 rc79 v2 v3 (σ.1 6 v3.toNatClampNeg) v3 σ))
set_option maxRecDepth 100000 in
set_option maxHeartbeats 4000000 in
theorem bX12_puts_79 {x : Cx} {z : Sx} (X : XG x z RX12 cX12_puts 4 5 113) (E : XE x z) (hr : XR x none) (hZ : z.2.2.2.1 = kdM) (N : Nat) (rc34 : Int32 → Mem → Option (Unit × Mem)) (hc34 : ∀ (v2 : Int32) (σ : Mem), VK x z 4 (BQ QV x z) 34 [(0, .ref (z.2.2.1 0)), (2, .int v2)] [] σ (rc34 v2 σ)) (rc79 : Int32 → Int32 → Mem → Option (Unit × Mem)) (hc79 : ∀ (v2 : Int32) (v3 : Int32) (σ : Mem), VK x z 4 (BQ QV x z) 79 [(0, .ref (z.2.2.1 0)), (2, .int v2), (3, .int v3)] [] σ (rc79 v2 v3 σ)) (v2 : Int32) (v3 : Int32) (σ : Mem) : VK x z 4 (BQ QV x z) 79 [(0, .ref (z.2.2.1 0)), (2, .int v2), (3, .int v3)] [] σ (fX12_puts_b79 N rc34 rc79 v2 v3 σ) := by
  unfold fX12_puts_b79
  refine V_iload_n 2 X dX12_puts_79 rfl rfl ?_
  refine V_aload_n 0 X dX12_puts_80 rfl rfl ?_
  refine V_getI 13 X dX12_puts_81 co12 (kM hZ 0 _ rfl) (by decide) rfl wfX12_162 ?_
  refine V_icmp_ge (tgt := 120) X dX12_puts_84 (by decide) ?_ ?_
  · refine V_sub [0, 1] rfl ?_
    exact bX12_puts_120 X E hr hZ N rc34 hc34 v2 σ
  · refine V_aload_n 0 X dX12_puts_87 rfl rfl ?_
    refine V_getR (k1 := 6) 19 X dX12_puts_88 co12 (kM hZ 0 _ rfl) (by decide) rfl rfl wfX12_26 ?_
    refine V_iload_n 2 X dX12_puts_91 rfl rfl ?_
    refine V_aload_n 0 X dX12_puts_92 rfl rfl ?_
    refine V_getR (k1 := 6) 19 X dX12_puts_93 co12 (kM hZ 0 _ rfl) (by decide) rfl rfl wfX12_26 ?_
    refine V_iload_n 2 X dX12_puts_96 rfl rfl ?_
    refine V_iald X dX12_puts_97 (kM hZ 6 _ rfl) ?_
    refine V_iload_n 1 X dX12_puts_98 rfl rfl ?_
    refine V_icmp_ne (tgt := 107) X dX12_puts_99 (by decide) ?_ ?_
    · refine V_aload_n 0 X dX12_puts_107 rfl rfl ?_
      refine V_getR (k1 := 6) 19 X dX12_puts_108 co12 (kM hZ 0 _ rfl) (by decide) rfl rfl wfX12_26 ?_
      refine V_iload_n 2 X dX12_puts_111 rfl rfl ?_
      refine V_iald X dX12_puts_112 (kM hZ 6 _ rfl) ?_
      refine V_sub [0, 1, 2] rfl ?_
      exact bX12_puts_113 X E hr hZ N rc34 hc34 rc79 hc79 v2 v3 (σ.1 6 v3.toNatClampNeg) v3 σ
    · refine V_bipush (v := 8) X dX12_puts_102 (by decide) ?_
      refine V_goto (tgt := 113) X dX12_puts_104 (by decide) ?_
      refine V_sub [0, 1, 2] rfl ?_
      exact bX12_puts_113 X E hr hZ N rc34 hc34 rc79 hc79 v2 v3 8 v3 σ
def fX12_puts_l79 (N : Nat) (rc34 : Int32 → Mem → Option (Unit × Mem)) : Nat → Int32 → Int32 → Mem → Option (Unit × Mem)
  | 0 => fun _ _ _ => none
  | n + 1 => fX12_puts_b79 N rc34 (fX12_puts_l79 N rc34 n)
theorem lX12_puts_79 {x : Cx} {z : Sx} (X : XG x z RX12 cX12_puts 4 5 113) (E : XE x z) (hr : XR x none) (hZ : z.2.2.2.1 = kdM) (N : Nat) (rc34 : Int32 → Mem → Option (Unit × Mem)) (hc34 : ∀ (v2 : Int32) (σ : Mem), VK x z 4 (BQ QV x z) 34 [(0, .ref (z.2.2.1 0)), (2, .int v2)] [] σ (rc34 v2 σ)) (n : Nat) (v2 : Int32) (v3 : Int32) (σ : Mem) : VK x z 4 (BQ QV x z) 79 [(0, .ref (z.2.2.1 0)), (2, .int v2), (3, .int v3)] [] σ (fX12_puts_l79 N rc34 n v2 v3 σ) := by
  induction n generalizing v2 v3 σ with
  | zero => exact V_none
  | succ n ih => exact bX12_puts_79 X E hr hZ N rc34 hc34 (fX12_puts_l79 N rc34 n) ih v2 v3 σ
def fX12_puts_b34 (N : Nat) (rc34 : Int32 → Mem → Option (Unit × Mem)) (v2 : Int32) (σ : Mem) : Option (Unit × Mem) :=
  if (σ.1 0 12) ≤ v2 then some ((), σ) else gd (inb v2 8) (if (σ.1 7 v2.toNatClampNeg) = 2 then bd (fX12_of N v2 0 σ) (fun r6 s7 => if r6 = 1 then lt_ (pI s7 0 15 ((s7.1 0 15) ||| (1 <<< (v2 &&& 31)))) (fun s8 => lt_ 0 (fun v3_9 => fX12_puts_l79 N rc34 N v2 v3_9 s8)) else fX12_puts_b120 N rc34 v2 s7) else fX12_puts_b120 N rc34 v2 σ)
set_option maxRecDepth 100000 in
set_option maxHeartbeats 4000000 in
theorem bX12_puts_34 {x : Cx} {z : Sx} (X : XG x z RX12 cX12_puts 4 5 113) (E : XE x z) (hr : XR x none) (hZ : z.2.2.2.1 = kdM) (N : Nat) (rc34 : Int32 → Mem → Option (Unit × Mem)) (hc34 : ∀ (v2 : Int32) (σ : Mem), VK x z 4 (BQ QV x z) 34 [(0, .ref (z.2.2.1 0)), (2, .int v2)] [] σ (rc34 v2 σ)) (v2 : Int32) (σ : Mem) : VK x z 4 (BQ QV x z) 34 [(0, .ref (z.2.2.1 0)), (2, .int v2)] [] σ (fX12_puts_b34 N rc34 v2 σ) := by
  unfold fX12_puts_b34
  refine V_iload_n 1 X dX12_puts_34 rfl rfl ?_
  refine V_aload_n 0 X dX12_puts_35 rfl rfl ?_
  refine V_getI 12 X dX12_puts_36 co12 (kM hZ 0 _ rfl) (by decide) rfl wfX12_159 ?_
  refine V_icmp_ge (tgt := 126) X dX12_puts_39 (by decide) ?_ ?_
  · exact V_vret X E hr dX12_puts_126
  · refine V_aload_n 0 X dX12_puts_42 rfl rfl ?_
    refine V_getR (k1 := 7) 20 X dX12_puts_43 co12 (kM hZ 0 _ rfl) (by decide) rfl rfl wfX12_29 ?_
    refine V_iload_n 1 X dX12_puts_46 rfl rfl ?_
    refine V_iald X dX12_puts_47 (kM hZ 7 _ rfl) ?_
    refine V_iconst (v := 2) X dX12_puts_48 (by decide) ?_
    refine V_icmp_ne (tgt := 120) X dX12_puts_49 (by decide) ?_ ?_
    · refine V_sub [0, 1] rfl ?_
      exact bX12_puts_120 X E hr hZ N rc34 hc34 v2 σ
    · refine V_aload_n 0 X dX12_puts_52 rfl rfl ?_
      refine V_iload_n 1 X dX12_puts_53 rfl rfl ?_
      refine V_iconst (v := 0) X dX12_puts_54 (by decide) ?_
      refine V_callI [.int v2, .int 0] [] X E dX12_puts_55 (kX12_of x.2.1 z hZ N v2 0 σ) co12 (kM hZ 0 _ rfl) gcX12_171 hyX12_of rfl ⟨by decide, by decide⟩ rfl (Nat.le_of_ble_eq_true rfl) (fun r6 s7 => ?_)
      refine V_iconst (v := 1) X dX12_puts_58 (by decide) ?_
      refine V_icmp_eq (tgt := 65) X dX12_puts_59 (by decide) ?_ ?_
      · refine V_aload_n 0 X dX12_puts_65 rfl rfl ?_
        refine V_dup X dX12_puts_66 rfl ?_
        refine V_getI 15 X dX12_puts_67 co12 (kM hZ 0 _ rfl) (by decide) rfl wfX12_183 ?_
        refine V_iconst (v := 1) X dX12_puts_70 (by decide) ?_
        refine V_iload_n 1 X dX12_puts_71 rfl rfl ?_
        refine V_ishl X dX12_puts_72 ?_
        refine V_ior X dX12_puts_73 ?_
        refine V_putIG 15 X dX12_puts_74 co12 (kM hZ 0 _ rfl) (by decide) rfl wfX12_183 rfl rfl rfl (fun s8 => ?_)
        refine V_iconst (v := 0) X dX12_puts_77 (by decide) ?_
        refine V_istore_nG (L' := fun v3_9 => [(3, .int v3_9), (0, .ref (z.2.2.1 0)), (2, .int v2)]) X dX12_puts_78 rfl (by decide) (fun _ => rfl) (fun v3_9 => ?_)
        refine V_sub [1, 2, 0] rfl ?_
        exact lX12_puts_79 X E hr hZ N rc34 hc34 N v2 v3_9 s8
      · refine V_goto (tgt := 120) X dX12_puts_62 (by decide) ?_
        refine V_sub [0, 1] rfl ?_
        exact bX12_puts_120 X E hr hZ N rc34 hc34 v2 s7
def fX12_puts_l34 (N : Nat) : Nat → Int32 → Mem → Option (Unit × Mem)
  | 0 => fun _ _ => none
  | n + 1 => fX12_puts_b34 N (fX12_puts_l34 N n)
theorem lX12_puts_34 {x : Cx} {z : Sx} (X : XG x z RX12 cX12_puts 4 5 113) (E : XE x z) (hr : XR x none) (hZ : z.2.2.2.1 = kdM) (N : Nat) (n : Nat) (v2 : Int32) (σ : Mem) : VK x z 4 (BQ QV x z) 34 [(0, .ref (z.2.2.1 0)), (2, .int v2)] [] σ (fX12_puts_l34 N n v2 σ) := by
  induction n generalizing v2 σ with
  | zero => exact V_none
  | succ n ih => exact bX12_puts_34 X E hr hZ N (fX12_puts_l34 N n) ih v2 σ
def fX12_puts_b28 (N : Nat) (t0 : Int32) (t1 : Int32) (σ : Mem) : Option (Unit × Mem) :=
  lt_ (pI σ 0 25 (t1 + t0)) (fun s4 => lt_ 0 (fun v2_5 => fX12_puts_l34 N N v2_5 s4))
set_option maxRecDepth 100000 in
set_option maxHeartbeats 4000000 in
theorem bX12_puts_28 {x : Cx} {z : Sx} (X : XG x z RX12 cX12_puts 4 5 113) (E : XE x z) (hr : XR x none) (hZ : z.2.2.2.1 = kdM) (N : Nat) (t0 : Int32) (t1 : Int32) (σ : Mem) : VK x z 4 (BQ QV x z) 28 [(0, .ref (z.2.2.1 0))] [.int t0, .int t1, .ref (z.2.2.1 0)] σ (fX12_puts_b28 N t0 t1 σ) := by
  unfold fX12_puts_b28
  refine V_iadd X dX12_puts_28 ?_
  refine V_putIG 25 X dX12_puts_29 co12 (kM hZ 0 _ rfl) (by decide) rfl wfX12_228 rfl rfl rfl (fun s4 => ?_)
  refine V_iconst (v := 0) X dX12_puts_32 (by decide) ?_
  refine V_istore_nG (L' := fun v2_5 => [(2, .int v2_5), (0, .ref (z.2.2.1 0))]) X dX12_puts_33 rfl (by decide) (fun _ => rfl) (fun v2_5 => ?_)
  refine V_sub [1, 0] rfl ?_
  exact lX12_puts_34 X E hr hZ N N v2_5 s4
def fX12_puts (N : Nat) (v1 : Int32) (σ : Mem) : Option (Unit × Mem) :=
  lt_ (pI σ 0 24 ((σ.1 0 24) + 1)) (fun s1 => bd (fX12_answers N v1 s1) (fun r2 s3 => if r2 = 0 then fX12_puts_b28 N 0 (s1.1 0 25) s3 else fX12_puts_b28 N 1 (s1.1 0 25) s3))
set_option maxRecDepth 100000 in
set_option maxHeartbeats 4000000 in
theorem bX12_puts_0 {x : Cx} {z : Sx} (X : XG x z RX12 cX12_puts 4 5 113) (E : XE x z) (hr : XR x none) (hZ : z.2.2.2.1 = kdM) (N : Nat) (v1 : Int32) (σ : Mem) : VK x z 4 (BQ QV x z) 0 [(0, .ref (z.2.2.1 0)), (1, .int v1)] [] σ (fX12_puts N v1 σ) := by
  unfold fX12_puts
  refine V_aload_n 0 X dX12_puts_0 rfl rfl ?_
  refine V_dup X dX12_puts_1 rfl ?_
  refine V_getI 24 X dX12_puts_2 co12 (kM hZ 0 _ rfl) (by decide) rfl wfX12_225 ?_
  refine V_iconst (v := 1) X dX12_puts_5 (by decide) ?_
  refine V_iadd X dX12_puts_6 ?_
  refine V_putIG 24 X dX12_puts_7 co12 (kM hZ 0 _ rfl) (by decide) rfl wfX12_225 rfl rfl rfl (fun s1 => ?_)
  refine V_aload_n 0 X dX12_puts_10 rfl rfl ?_
  refine V_dup X dX12_puts_11 rfl ?_
  refine V_getI 25 X dX12_puts_12 co12 (kM hZ 0 _ rfl) (by decide) rfl wfX12_228 ?_
  refine V_aload_n 0 X dX12_puts_15 rfl rfl ?_
  refine V_iload_n 1 X dX12_puts_16 rfl rfl ?_
  refine V_callI [.int v1] [.int (s1.1 0 25), .ref (z.2.2.1 0)] X E dX12_puts_17 (kX12_answers x.2.1 z hZ N v1 s1) co12 (kM hZ 0 _ rfl) gcX12_216 hyX12_answers rfl ⟨by decide, by decide⟩ rfl (Nat.le_of_ble_eq_true rfl) (fun r2 s3 => ?_)
  refine V_if_eq (tgt := 27) X dX12_puts_20 (by decide) ?_ ?_
  · refine V_iconst (v := 0) X dX12_puts_27 (by decide) ?_
    refine V_sub [0] rfl ?_
    exact bX12_puts_28 X E hr hZ N 0 (s1.1 0 25) s3
  · refine V_iconst (v := 1) X dX12_puts_23 (by decide) ?_
    refine V_goto (tgt := 28) X dX12_puts_24 (by decide) ?_
    refine V_sub [0] rfl ?_
    exact bX12_puts_28 X E hr hZ N 1 (s1.1 0 25) s3
theorem kX12_puts (l : Launch) (z : Sx) (hZ : z.2.2.2.1 = kdM) (N : Nat) (v1 : Int32) (σ : Mem) : Ct QV yX12_puts cX12_puts 4 none 5 113 l z [.ref (z.2.2.1 0), .int v1] σ (fX12_puts N v1 σ) := by
  refine Ct_of (by decide +kernel) (Nat.le_of_ble_eq_true rfl) rfl ?_
  intro x _ X E hr
  exact bX12_puts_0 X E hr hZ N v1 σ
def fX12_stands (N : Nat) (v1 : Int32) (σ : Mem) : Option (Int32 × Mem) :=
  bd (fX12_isPerson N v1 σ) (fun r1 s2 => if r1 = 0 then some (0, s2) else gd (inb v1 6) (if (s2.1 6 v1.toNatClampNeg) = 8 then some (0, s2) else gd (inb v1 6) (lt_ (pI s2 6 v1.toNatClampNeg 8) (fun s3 => some (1, s3)))))
set_option maxRecDepth 100000 in
set_option maxHeartbeats 4000000 in
theorem bX12_stands_0 {x : Cx} {z : Sx} (X : XG x z RX12 cX12_stands 2 2 43) (E : XE x z) (hr : XR x (some .boolean)) (hZ : z.2.2.2.1 = kdM) (N : Nat) (v1 : Int32) (σ : Mem) : VK x z 2 (BQ QI x z) 0 [(0, .ref (z.2.2.1 0)), (1, .int v1)] [] σ (fX12_stands N v1 σ) := by
  unfold fX12_stands
  refine V_aload_n 0 X dX12_stands_0 rfl rfl ?_
  refine V_iload_n 1 X dX12_stands_1 rfl rfl ?_
  refine V_callI [.int v1] [] X E dX12_stands_2 (kX12_isPerson x.2.1 z hZ N v1 σ) co12 (kM hZ 0 _ rfl) gcX12_174 hyX12_isPerson rfl ⟨by decide, by decide⟩ rfl (Nat.le_of_ble_eq_true rfl) (fun r1 s2 => ?_)
  refine V_if_eq (tgt := 19) X dX12_stands_5 (by decide) ?_ ?_
  · refine V_iconst (v := 0) X dX12_stands_19 (by decide) ?_
    exact V_zret X E hr dX12_stands_20 (by decide)
  · refine V_aload_n 0 X dX12_stands_8 rfl rfl ?_
    refine V_getR (k1 := 6) 19 X dX12_stands_9 co12 (kM hZ 0 _ rfl) (by decide) rfl rfl wfX12_26 ?_
    refine V_iload_n 1 X dX12_stands_12 rfl rfl ?_
    refine V_iald X dX12_stands_13 (kM hZ 6 _ rfl) ?_
    refine V_bipush (v := 8) X dX12_stands_14 (by decide) ?_
    refine V_icmp_ne (tgt := 21) X dX12_stands_16 (by decide) ?_ ?_
    · refine V_aload_n 0 X dX12_stands_21 rfl rfl ?_
      refine V_getR (k1 := 6) 19 X dX12_stands_22 co12 (kM hZ 0 _ rfl) (by decide) rfl rfl wfX12_26 ?_
      refine V_iload_n 1 X dX12_stands_25 rfl rfl ?_
      refine V_bipush (v := 8) X dX12_stands_26 (by decide) ?_
      refine V_iastG X dX12_stands_28 (kM hZ 6 _ rfl) (fun s3 => ?_)
      refine V_iconst (v := 1) X dX12_stands_29 (by decide) ?_
      exact V_zret X E hr dX12_stands_30 (by decide)
    · refine V_iconst (v := 0) X dX12_stands_19 (by decide) ?_
      exact V_zret X E hr dX12_stands_20 (by decide)
theorem kX12_stands (l : Launch) (z : Sx) (hZ : z.2.2.2.1 = kdM) (N : Nat) (v1 : Int32) (σ : Mem) : Ct QI yX12_stands cX12_stands 2 (some .boolean) 2 43 l z [.ref (z.2.2.1 0), .int v1] σ (fX12_stands N v1 σ) := by
  refine Ct_of (by decide +kernel) (Nat.le_of_ble_eq_true rfl) rfl ?_
  intro x _ X E hr
  exact bX12_stands_0 X E hr hZ N v1 σ
def fX12_waxes (N : Nat) (v1 : Int32) (σ : Mem) : Option (Int32 × Mem) :=
  bd (fX12_isPiece N v1 σ) (fun r1 s2 => if r1 = 0 then some (0, s2) else gd (inb v1 8) (if (s2.1 5 v1.toNatClampNeg) = 9 then some (0, s2) else gd (inb v1 8) (gd (inb v1 8) (lt_ (pI s2 5 v1.toNatClampNeg ((s2.1 5 v1.toNatClampNeg) + 1)) (fun s3 => some (1, s3))))))
set_option maxRecDepth 100000 in
set_option maxHeartbeats 4000000 in
theorem bX12_waxes_0 {x : Cx} {z : Sx} (X : XG x z RX12 cX12_waxes 2 2 43) (E : XE x z) (hr : XR x (some .boolean)) (hZ : z.2.2.2.1 = kdM) (N : Nat) (v1 : Int32) (σ : Mem) : VK x z 2 (BQ QI x z) 0 [(0, .ref (z.2.2.1 0)), (1, .int v1)] [] σ (fX12_waxes N v1 σ) := by
  unfold fX12_waxes
  refine V_aload_n 0 X dX12_waxes_0 rfl rfl ?_
  refine V_iload_n 1 X dX12_waxes_1 rfl rfl ?_
  refine V_callI [.int v1] [] X E dX12_waxes_2 (kX12_isPiece x.2.1 z hZ N v1 σ) co12 (kM hZ 0 _ rfl) gcX12_168 hyX12_isPiece rfl ⟨by decide, by decide⟩ rfl (Nat.le_of_ble_eq_true rfl) (fun r1 s2 => ?_)
  refine V_if_eq (tgt := 19) X dX12_waxes_5 (by decide) ?_ ?_
  · refine V_iconst (v := 0) X dX12_waxes_19 (by decide) ?_
    exact V_zret X E hr dX12_waxes_20 (by decide)
  · refine V_aload_n 0 X dX12_waxes_8 rfl rfl ?_
    refine V_getR (k1 := 5) 18 X dX12_waxes_9 co12 (kM hZ 0 _ rfl) (by decide) rfl rfl wfX12_23 ?_
    refine V_iload_n 1 X dX12_waxes_12 rfl rfl ?_
    refine V_iald X dX12_waxes_13 (kM hZ 5 _ rfl) ?_
    refine V_bipush (v := 9) X dX12_waxes_14 (by decide) ?_
    refine V_icmp_ne (tgt := 21) X dX12_waxes_16 (by decide) ?_ ?_
    · refine V_aload_n 0 X dX12_waxes_21 rfl rfl ?_
      refine V_getR (k1 := 5) 18 X dX12_waxes_22 co12 (kM hZ 0 _ rfl) (by decide) rfl rfl wfX12_23 ?_
      refine V_iload_n 1 X dX12_waxes_25 rfl rfl ?_
      refine V_dup2 X dX12_waxes_26 rfl rfl ?_
      refine V_iald X dX12_waxes_27 (kM hZ 5 _ rfl) ?_
      refine V_iconst (v := 1) X dX12_waxes_28 (by decide) ?_
      refine V_iadd X dX12_waxes_29 ?_
      refine V_iastG X dX12_waxes_30 (kM hZ 5 _ rfl) (fun s3 => ?_)
      refine V_iconst (v := 1) X dX12_waxes_31 (by decide) ?_
      exact V_zret X E hr dX12_waxes_32 (by decide)
    · refine V_iconst (v := 0) X dX12_waxes_19 (by decide) ?_
      exact V_zret X E hr dX12_waxes_20 (by decide)
theorem kX12_waxes (l : Launch) (z : Sx) (hZ : z.2.2.2.1 = kdM) (N : Nat) (v1 : Int32) (σ : Mem) : Ct QI yX12_waxes cX12_waxes 2 (some .boolean) 2 43 l z [.ref (z.2.2.1 0), .int v1] σ (fX12_waxes N v1 σ) := by
  refine Ct_of (by decide +kernel) (Nat.le_of_ble_eq_true rfl) rfl ?_
  intro x _ X E hr
  exact bX12_waxes_0 X E hr hZ N v1 σ
def fX12_sets (N : Nat) (v1 : Int32) (σ : Mem) : Option (Int32 × Mem) :=
  bd (fX12_isPiece N v1 σ) (fun r1 s2 => if r1 = 0 then some (0, s2) else bd (fX12_holds N (s2.1 0 15) v1 s2) (fun r3 s4 => if r3 = 0 then some (0, s4) else lt_ (pI s4 0 15 ((s4.1 0 15) &&& ((1 <<< (v1 &&& 31)) ^^^ (-1)))) (fun s5 => some (1, s5))))
set_option maxRecDepth 100000 in
set_option maxHeartbeats 4000000 in
theorem bX12_sets_0 {x : Cx} {z : Sx} (X : XG x z RX12 cX12_sets 2 2 43) (E : XE x z) (hr : XR x (some .boolean)) (hZ : z.2.2.2.1 = kdM) (N : Nat) (v1 : Int32) (σ : Mem) : VK x z 2 (BQ QI x z) 0 [(0, .ref (z.2.2.1 0)), (1, .int v1)] [] σ (fX12_sets N v1 σ) := by
  unfold fX12_sets
  refine V_aload_n 0 X dX12_sets_0 rfl rfl ?_
  refine V_iload_n 1 X dX12_sets_1 rfl rfl ?_
  refine V_callI [.int v1] [] X E dX12_sets_2 (kX12_isPiece x.2.1 z hZ N v1 σ) co12 (kM hZ 0 _ rfl) gcX12_168 hyX12_isPiece rfl ⟨by decide, by decide⟩ rfl (Nat.le_of_ble_eq_true rfl) (fun r1 s2 => ?_)
  refine V_if_eq (tgt := 19) X dX12_sets_5 (by decide) ?_ ?_
  · refine V_iconst (v := 0) X dX12_sets_19 (by decide) ?_
    exact V_zret X E hr dX12_sets_20 (by decide)
  · refine V_aload_n 0 X dX12_sets_8 rfl rfl ?_
    refine V_getI 15 X dX12_sets_9 co12 (kM hZ 0 _ rfl) (by decide) rfl wfX12_183 ?_
    refine V_iload_n 1 X dX12_sets_12 rfl rfl ?_
    refine V_calSI [.int (s2.1 0 15), .int v1] [] X E dX12_sets_13 (kX12_holds x.2.1 z hZ N (s2.1 0 15) v1 s2) gcX12_192 hyX12_holds rfl ⟨by decide, by decide⟩ rfl (Nat.le_of_ble_eq_true rfl) (fun r3 s4 => ?_)
    refine V_if_ne (tgt := 21) X dX12_sets_16 (by decide) ?_ ?_
    · refine V_aload_n 0 X dX12_sets_21 rfl rfl ?_
      refine V_dup X dX12_sets_22 rfl ?_
      refine V_getI 15 X dX12_sets_23 co12 (kM hZ 0 _ rfl) (by decide) rfl wfX12_183 ?_
      refine V_iconst (v := 1) X dX12_sets_26 (by decide) ?_
      refine V_iload_n 1 X dX12_sets_27 rfl rfl ?_
      refine V_ishl X dX12_sets_28 ?_
      refine V_iconst (v := -1) X dX12_sets_29 (by decide) ?_
      refine V_ixor X dX12_sets_30 ?_
      refine V_iand X dX12_sets_31 ?_
      refine V_putIG 15 X dX12_sets_32 co12 (kM hZ 0 _ rfl) (by decide) rfl wfX12_183 rfl rfl rfl (fun s5 => ?_)
      refine V_iconst (v := 1) X dX12_sets_35 (by decide) ?_
      exact V_zret X E hr dX12_sets_36 (by decide)
    · refine V_iconst (v := 0) X dX12_sets_19 (by decide) ?_
      exact V_zret X E hr dX12_sets_20 (by decide)
theorem kX12_sets (l : Launch) (z : Sx) (hZ : z.2.2.2.1 = kdM) (N : Nat) (v1 : Int32) (σ : Mem) : Ct QI yX12_sets cX12_sets 2 (some .boolean) 2 43 l z [.ref (z.2.2.1 0), .int v1] σ (fX12_sets N v1 σ) := by
  refine Ct_of (by decide +kernel) (Nat.le_of_ble_eq_true rfl) rfl ?_
  intro x _ X E hr
  exact bX12_sets_0 X E hr hZ N v1 σ
def fX12_sits (N : Nat) (v1 : Int32) (v2 : Int32) (σ : Mem) : Option (Int32 × Mem) :=
  bd (fX12_isPerson N v1 σ) (fun r1 s2 => if r1 = 0 then some (0, s2) else bd (fX12_isPiece N v2 s2) (fun r3 s4 => if r3 = 0 then some (0, s4) else bd (fX12_holds N (s4.1 0 15) v2 s4) (fun r5 s6 => if r5 = 0 then gd (inb v1 6) (if (s6.1 6 v1.toNatClampNeg) = v2 then some (0, s6) else gd (inb v1 6) (lt_ (pI s6 6 v1.toNatClampNeg v2) (fun s7 => some (1, s7)))) else some (0, s6))))
set_option maxRecDepth 100000 in
set_option maxHeartbeats 4000000 in
theorem bX12_sits_0 {x : Cx} {z : Sx} (X : XG x z RX12 cX12_sits 3 2 43) (E : XE x z) (hr : XR x (some .boolean)) (hZ : z.2.2.2.1 = kdM) (N : Nat) (v1 : Int32) (v2 : Int32) (σ : Mem) : VK x z 3 (BQ QI x z) 0 [(0, .ref (z.2.2.1 0)), (1, .int v1), (2, .int v2)] [] σ (fX12_sits N v1 v2 σ) := by
  unfold fX12_sits
  refine V_aload_n 0 X dX12_sits_0 rfl rfl ?_
  refine V_iload_n 1 X dX12_sits_1 rfl rfl ?_
  refine V_callI [.int v1] [] X E dX12_sits_2 (kX12_isPerson x.2.1 z hZ N v1 σ) co12 (kM hZ 0 _ rfl) gcX12_174 hyX12_isPerson rfl ⟨by decide, by decide⟩ rfl (Nat.le_of_ble_eq_true rfl) (fun r1 s2 => ?_)
  refine V_if_eq (tgt := 37) X dX12_sits_5 (by decide) ?_ ?_
  · refine V_iconst (v := 0) X dX12_sits_37 (by decide) ?_
    exact V_zret X E hr dX12_sits_38 (by decide)
  · refine V_aload_n 0 X dX12_sits_8 rfl rfl ?_
    refine V_iload_n 2 X dX12_sits_9 rfl rfl ?_
    refine V_callI [.int v2] [] X E dX12_sits_10 (kX12_isPiece x.2.1 z hZ N v2 s2) co12 (kM hZ 0 _ rfl) gcX12_168 hyX12_isPiece rfl ⟨by decide, by decide⟩ rfl (Nat.le_of_ble_eq_true rfl) (fun r3 s4 => ?_)
    refine V_if_eq (tgt := 37) X dX12_sits_13 (by decide) ?_ ?_
    · refine V_iconst (v := 0) X dX12_sits_37 (by decide) ?_
      exact V_zret X E hr dX12_sits_38 (by decide)
    · refine V_aload_n 0 X dX12_sits_16 rfl rfl ?_
      refine V_getI 15 X dX12_sits_17 co12 (kM hZ 0 _ rfl) (by decide) rfl wfX12_183 ?_
      refine V_iload_n 2 X dX12_sits_20 rfl rfl ?_
      refine V_calSI [.int (s4.1 0 15), .int v2] [] X E dX12_sits_21 (kX12_holds x.2.1 z hZ N (s4.1 0 15) v2 s4) gcX12_192 hyX12_holds rfl ⟨by decide, by decide⟩ rfl (Nat.le_of_ble_eq_true rfl) (fun r5 s6 => ?_)
      refine V_if_ne (tgt := 37) X dX12_sits_24 (by decide) ?_ ?_
      · refine V_iconst (v := 0) X dX12_sits_37 (by decide) ?_
        exact V_zret X E hr dX12_sits_38 (by decide)
      · refine V_aload_n 0 X dX12_sits_27 rfl rfl ?_
        refine V_getR (k1 := 6) 19 X dX12_sits_28 co12 (kM hZ 0 _ rfl) (by decide) rfl rfl wfX12_26 ?_
        refine V_iload_n 1 X dX12_sits_31 rfl rfl ?_
        refine V_iald X dX12_sits_32 (kM hZ 6 _ rfl) ?_
        refine V_iload_n 2 X dX12_sits_33 rfl rfl ?_
        refine V_icmp_ne (tgt := 39) X dX12_sits_34 (by decide) ?_ ?_
        · refine V_aload_n 0 X dX12_sits_39 rfl rfl ?_
          refine V_getR (k1 := 6) 19 X dX12_sits_40 co12 (kM hZ 0 _ rfl) (by decide) rfl rfl wfX12_26 ?_
          refine V_iload_n 1 X dX12_sits_43 rfl rfl ?_
          refine V_iload_n 2 X dX12_sits_44 rfl rfl ?_
          refine V_iastG X dX12_sits_45 (kM hZ 6 _ rfl) (fun s7 => ?_)
          refine V_iconst (v := 1) X dX12_sits_46 (by decide) ?_
          exact V_zret X E hr dX12_sits_47 (by decide)
        · refine V_iconst (v := 0) X dX12_sits_37 (by decide) ?_
          exact V_zret X E hr dX12_sits_38 (by decide)
theorem kX12_sits (l : Launch) (z : Sx) (hZ : z.2.2.2.1 = kdM) (N : Nat) (v1 : Int32) (v2 : Int32) (σ : Mem) : Ct QI yX12_sits cX12_sits 3 (some .boolean) 2 43 l z [.ref (z.2.2.1 0), .int v1, .int v2] σ (fX12_sits N v1 v2 σ) := by
  refine Ct_of (by decide +kernel) (Nat.le_of_ble_eq_true rfl) rfl ?_
  intro x _ X E hr
  exact bX12_sits_0 X E hr hZ N v1 v2 σ
def fX12_dampens (N : Nat) (v1 : Int32) (σ : Mem) : Option (Int32 × Mem) :=
  bd (fX12_isIn N ((σ.1 0 14) + v1) 0 9 σ) (fun r1 s2 => if r1 = 0 then some (0, s2) else lt_ (pI s2 0 14 ((s2.1 0 14) + v1)) (fun s3 => some (1, s3)))
set_option maxRecDepth 100000 in
set_option maxHeartbeats 4000000 in
theorem bX12_dampens_0 {x : Cx} {z : Sx} (X : XG x z RX12 cX12_dampens 2 1 22) (E : XE x z) (hr : XR x (some .boolean)) (hZ : z.2.2.2.1 = kdM) (N : Nat) (v1 : Int32) (σ : Mem) : VK x z 2 (BQ QI x z) 0 [(0, .ref (z.2.2.1 0)), (1, .int v1)] [] σ (fX12_dampens N v1 σ) := by
  unfold fX12_dampens
  refine V_aload_n 0 X dX12_dampens_0 rfl rfl ?_
  refine V_getI 14 X dX12_dampens_1 co12 (kM hZ 0 _ rfl) (by decide) rfl wfX12_180 ?_
  refine V_iload_n 1 X dX12_dampens_4 rfl rfl ?_
  refine V_iadd X dX12_dampens_5 ?_
  refine V_iconst (v := 0) X dX12_dampens_6 (by decide) ?_
  refine V_bipush (v := 9) X dX12_dampens_7 (by decide) ?_
  refine V_calSI [.int ((σ.1 0 14) + v1), .int 0, .int 9] [] X E dX12_dampens_9 (kX12_isIn x.2.1 z hZ N ((σ.1 0 14) + v1) 0 9 σ) gcX12_106 hyX12_isIn rfl ⟨by decide, by decide⟩ rfl (Nat.le_of_ble_eq_true rfl) (fun r1 s2 => ?_)
  refine V_if_ne (tgt := 17) X dX12_dampens_12 (by decide) ?_ ?_
  · refine V_aload_n 0 X dX12_dampens_17 rfl rfl ?_
    refine V_dup X dX12_dampens_18 rfl ?_
    refine V_getI 14 X dX12_dampens_19 co12 (kM hZ 0 _ rfl) (by decide) rfl wfX12_180 ?_
    refine V_iload_n 1 X dX12_dampens_22 rfl rfl ?_
    refine V_iadd X dX12_dampens_23 ?_
    refine V_putIG 14 X dX12_dampens_24 co12 (kM hZ 0 _ rfl) (by decide) rfl wfX12_180 rfl rfl rfl (fun s3 => ?_)
    refine V_iconst (v := 1) X dX12_dampens_27 (by decide) ?_
    exact V_zret X E hr dX12_dampens_28 (by decide)
  · refine V_iconst (v := 0) X dX12_dampens_15 (by decide) ?_
    exact V_zret X E hr dX12_dampens_16 (by decide)
theorem kX12_dampens (l : Launch) (z : Sx) (hZ : z.2.2.2.1 = kdM) (N : Nat) (v1 : Int32) (σ : Mem) : Ct QI yX12_dampens cX12_dampens 2 (some .boolean) 1 22 l z [.ref (z.2.2.1 0), .int v1] σ (fX12_dampens N v1 σ) := by
  refine Ct_of (by decide +kernel) (Nat.le_of_ble_eq_true rfl) rfl ?_
  intro x _ X E hr
  exact bX12_dampens_0 X E hr hZ N v1 σ
