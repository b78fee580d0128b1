def fX1_tellOne (N : Nat) (h : Nat) (v1 : Int32) (v2 : Int32) (σ : Mem) : Option (Int32 × Mem) :=
  if v1 = 4 then bd (fX0_hasPerson N ((h + 1) + 1) v2 σ) (fun r3 s4 => if r3 = 0 then some ((-2), s4) else gd (inb v2 6) (some ((s4.1 (((h + 1) + 1) + 8) v2.toNatClampNeg), s4))) else bd (fX0_hasPiece N ((h + 1) + 1) v2 σ) (fun r1 s2 => if r1 = 0 then some ((-2), s2) else if v1 = 1 then gd (inb v2 8) (some ((s2.1 (((h + 1) + 1) + 3) v2.toNatClampNeg), s2)) else if v1 = 2 then gd (inb v2 8) (some ((s2.1 ((h + 1) + 10) v2.toNatClampNeg), s2)) else gd (inb v2 8) (some ((s2.1 ((h + 1) + 11) v2.toNatClampNeg), s2)))
set_option maxRecDepth 100000 in
set_option maxHeartbeats 4000000 in
theorem bX1_tellOne_0 {x : Cx} {z : Sx} (X : XG x z RX1 cX1_tellOne 3 1 21) (E : XE x z) (hr : XR x (some .int)) (hZ : z.2.2.2.1 = kdC) (N : Nat) (h : Nat) (hh : z.2.2.2.1 h = (1, 0)) (v1 : Int32) (v2 : Int32) (σ : Mem) : VK x z 3 (BQ QI x z) 0 [(0, .ref (z.2.2.1 h)), (1, .int v1), (2, .int v2)] [] σ (fX1_tellOne N h v1 v2 σ) := by
  unfold fX1_tellOne
  refine V_iload_n 1 X dX1_tellOne_0 rfl rfl ?_
  refine V_iconst (v := 4) X dX1_tellOne_1 (by decide) ?_
  refine V_icmp_ne (tgt := 37) X dX1_tellOne_2 (by decide) ?_ ?_
  · refine V_aload_n 0 X dX1_tellOne_37 rfl rfl ?_
    refine V_getR (k1 := (h + 1)) 0 X dX1_tellOne_38 co1 hh (by decide) rfl rfl wfX1_12 ?_
    refine V_getR (k1 := ((h + 1) + 1)) 0 X dX1_tellOne_41 co2 (kt1_0 hZ hh) (by decide) rfl rfl wfX1_109 ?_
    refine V_iload_n 2 X dX1_tellOne_44 rfl rfl ?_
    refine V_callI [.int v2] [] X E dX1_tellOne_45 (kX0_hasPiece x.2.1 z hZ N ((h + 1) + 1) (kt2_0 hZ (kt1_0 hZ hh)) v2 σ) co0 (kt2_0 hZ (kt1_0 hZ hh)) gcX1_137 hyX0_hasPiece rfl ⟨by decide, by decide⟩ rfl (Nat.le_of_ble_eq_true rfl) (fun r1 s2 => ?_)
    refine V_if_ne (tgt := 54) X dX1_tellOne_48 (by decide) ?_ ?_
    · refine V_iload_n 1 X dX1_tellOne_54 rfl rfl ?_
      refine V_iconst (v := 1) X dX1_tellOne_55 (by decide) ?_
      refine V_icmp_ne (tgt := 72) X dX1_tellOne_56 (by decide) ?_ ?_
      · refine V_iload_n 1 X dX1_tellOne_72 rfl rfl ?_
        refine V_iconst (v := 2) X dX1_tellOne_73 (by decide) ?_
        refine V_icmp_ne (tgt := 89) X dX1_tellOne_74 (by decide) ?_ ?_
        · refine V_aload_n 0 X dX1_tellOne_89 rfl rfl ?_
          refine V_getR (k1 := (h + 1)) 0 X dX1_tellOne_90 co1 hh (by decide) rfl rfl wfX1_12 ?_
          refine V_getR (k1 := ((h + 1) + 11)) 2 X dX1_tellOne_93 co2 (kt1_0 hZ hh) (by decide) rfl rfl wfX1_177 ?_
          refine V_iload_n 2 X dX1_tellOne_96 rfl rfl ?_
          refine V_iald X dX1_tellOne_97 (kt2_2 hZ (kt1_0 hZ hh)) ?_
          exact V_iret X E hr dX1_tellOne_98
        · refine V_aload_n 0 X dX1_tellOne_77 rfl rfl ?_
          refine V_getR (k1 := (h + 1)) 0 X dX1_tellOne_78 co1 hh (by decide) rfl rfl wfX1_12 ?_
          refine V_getR (k1 := ((h + 1) + 10)) 1 X dX1_tellOne_81 co2 (kt1_0 hZ hh) (by decide) rfl rfl wfX1_143 ?_
          refine V_iload_n 2 X dX1_tellOne_84 rfl rfl ?_
          refine V_iald X dX1_tellOne_85 (kt2_1 hZ (kt1_0 hZ hh)) ?_
          refine V_goto (tgt := 98) X dX1_tellOne_86 (by decide) ?_
          exact V_iret X E hr dX1_tellOne_98
      · refine V_aload_n 0 X dX1_tellOne_59 rfl rfl ?_
        refine V_getR (k1 := (h + 1)) 0 X dX1_tellOne_60 co1 hh (by decide) rfl rfl wfX1_12 ?_
        refine V_getR (k1 := ((h + 1) + 1)) 0 X dX1_tellOne_63 co2 (kt1_0 hZ hh) (by decide) rfl rfl wfX1_109 ?_
        refine V_getR (k1 := (((h + 1) + 1) + 3)) 5 X dX1_tellOne_66 co0 (kt2_0 hZ (kt1_0 hZ hh)) (by decide) rfl rfl wfX1_174 ?_
        refine V_iload_n 2 X dX1_tellOne_69 rfl rfl ?_
        refine V_iald X dX1_tellOne_70 (kt0_5 hZ (kt2_0 hZ (kt1_0 hZ hh))) ?_
        exact V_iret X E hr dX1_tellOne_71
    · refine V_bipush (v := -2) X dX1_tellOne_51 (by decide) ?_
      exact V_iret X E hr dX1_tellOne_53
  · refine V_aload_n 0 X dX1_tellOne_5 rfl rfl ?_
    refine V_getR (k1 := (h + 1)) 0 X dX1_tellOne_6 co1 hh (by decide) rfl rfl wfX1_12 ?_
    refine V_getR (k1 := ((h + 1) + 1)) 0 X dX1_tellOne_9 co2 (kt1_0 hZ hh) (by decide) rfl rfl wfX1_109 ?_
    refine V_iload_n 2 X dX1_tellOne_12 rfl rfl ?_
    refine V_callI [.int v2] [] X E dX1_tellOne_13 (kX0_hasPerson x.2.1 z hZ N ((h + 1) + 1) (kt2_0 hZ (kt1_0 hZ hh)) v2 σ) co0 (kt2_0 hZ (kt1_0 hZ hh)) gcX1_127 hyX0_hasPerson rfl ⟨by decide, by decide⟩ rfl (Nat.le_of_ble_eq_true rfl) (fun r3 s4 => ?_)
    refine V_if_eq (tgt := 34) X dX1_tellOne_16 (by decide) ?_ ?_
    · refine V_bipush (v := -2) X dX1_tellOne_34 (by decide) ?_
      exact V_iret X E hr dX1_tellOne_36
    · refine V_aload_n 0 X dX1_tellOne_19 rfl rfl ?_
      refine V_getR (k1 := (h + 1)) 0 X dX1_tellOne_20 co1 hh (by decide) rfl rfl wfX1_12 ?_
      refine V_getR (k1 := ((h + 1) + 1)) 0 X dX1_tellOne_23 co2 (kt1_0 hZ hh) (by decide) rfl rfl wfX1_109 ?_
      refine V_getR (k1 := (((h + 1) + 1) + 8)) 10 X dX1_tellOne_26 co0 (kt2_0 hZ (kt1_0 hZ hh)) (by decide) rfl rfl wfX1_130 ?_
      refine V_iload_n 2 X dX1_tellOne_29 rfl rfl ?_
      refine V_iald X dX1_tellOne_30 (kt0_10 hZ (kt2_0 hZ (kt1_0 hZ hh))) ?_
      refine V_goto (tgt := 36) X dX1_tellOne_31 (by decide) ?_
      exact V_iret X E hr dX1_tellOne_36
theorem kX1_tellOne (l : Launch) (z : Sx) (hZ : z.2.2.2.1 = kdC) (N : Nat) (h : Nat) (hh : z.2.2.2.1 h = (1, 0)) (v1 : Int32) (v2 : Int32) (σ : Mem) : Ct QI yX1_tellOne cX1_tellOne 3 (some .int) 1 21 l z [.ref (z.2.2.1 h), .int v1, .int v2] σ (fX1_tellOne N h v1 v2 σ) := by
  refine Ct_of (by decide +kernel) (Nat.le_of_ble_eq_true rfl) rfl ?_
  intro x _ X E hr
  exact bX1_tellOne_0 X E hr hZ N h hh v1 v2 σ
def fX1_tell (N : Nat) (h : Nat) (v1 : Int32) (σ : Mem) : Option (Int32 × Mem) :=
  if v1 = 0 then some ((σ.1 h 1), σ) else if v1 = 1 then some ((σ.1 h 2), σ) else if v1 = 2 then some ((σ.1 ((h + 1) + 1) 2), σ) else if v1 = 3 then some ((σ.1 (h + 1) 4), σ) else if v1 = 4 then some ((σ.1 (h + 1) 5), σ) else if v1 = 5 then some ((σ.1 (h + 1) 6), σ) else if v1 < 10 then some ((-2), σ) else if 50 ≤ v1 then some ((-2), σ) else bd (fX1_tellOne N h (v1 / 10) (rmI v1 10) σ) (fun r1 s2 => some (r1, s2))
set_option maxRecDepth 100000 in
set_option maxHeartbeats 4000000 in
theorem bX1_tell_0 {x : Cx} {z : Sx} (X : XG x z RX1 cX1_tell 2 2 43) (E : XE x z) (hr : XR x (some .int)) (hZ : z.2.2.2.1 = kdC) (N : Nat) (h : Nat) (hh : z.2.2.2.1 h = (1, 0)) (v1 : Int32) (σ : Mem) : VK x z 2 (BQ QI x z) 0 [(0, .ref (z.2.2.1 h)), (1, .int v1)] [] σ (fX1_tell N h v1 σ) := by
  unfold fX1_tell
  refine V_iload_n 1 X dX1_tell_0 rfl rfl ?_
  refine V_split (c := 0) (fun n1_0 => ?_) (fun n1_0 => ?_)
  · refine V_tabAt (c := 0) (tgt := 40) X dX1_tell_1 n1_0 (by decide) (by decide) (by rfl) (by decide) ?_
    refine V_aload_n 0 X dX1_tell_40 rfl rfl ?_
    refine V_getI 1 X dX1_tell_41 co1 hh (by decide) rfl wfX1_26 ?_
    exact V_iret X E hr dX1_tell_44
  refine V_split (c := 1) (fun n1_1 => ?_) (fun n1_1 => ?_)
  · refine V_tabAt (c := 1) (tgt := 45) X dX1_tell_1 n1_1 (by decide) (by decide) (by rfl) (by decide) ?_
    refine V_aload_n 0 X dX1_tell_45 rfl rfl ?_
    refine V_getI 2 X dX1_tell_46 co1 hh (by decide) rfl wfX1_30 ?_
    exact V_iret X E hr dX1_tell_49
  refine V_split (c := 2) (fun n1_2 => ?_) (fun n1_2 => ?_)
  · refine V_tabAt (c := 2) (tgt := 50) X dX1_tell_1 n1_2 (by decide) (by decide) (by rfl) (by decide) ?_
    refine V_aload_n 0 X dX1_tell_50 rfl rfl ?_
    refine V_getR (k1 := (h + 1)) 0 X dX1_tell_51 co1 hh (by decide) rfl rfl wfX1_12 ?_
    refine V_getR (k1 := ((h + 1) + 1)) 0 X dX1_tell_54 co2 (kt1_0 hZ hh) (by decide) rfl rfl wfX1_109 ?_
    refine V_getI 2 X dX1_tell_57 co0 (kt2_0 hZ (kt1_0 hZ hh)) (by decide) rfl wfX1_146 ?_
    exact V_iret X E hr dX1_tell_60
  refine V_split (c := 3) (fun n1_3 => ?_) (fun n1_3 => ?_)
  · refine V_tabAt (c := 3) (tgt := 61) X dX1_tell_1 n1_3 (by decide) (by decide) (by rfl) (by decide) ?_
    refine V_aload_n 0 X dX1_tell_61 rfl rfl ?_
    refine V_getR (k1 := (h + 1)) 0 X dX1_tell_62 co1 hh (by decide) rfl rfl wfX1_12 ?_
    refine V_getI 4 X dX1_tell_65 co2 (kt1_0 hZ hh) (by decide) rfl wfX1_69 ?_
    exact V_iret X E hr dX1_tell_68
  refine V_split (c := 4) (fun n1_4 => ?_) (fun n1_4 => ?_)
  · refine V_tabAt (c := 4) (tgt := 69) X dX1_tell_1 n1_4 (by decide) (by decide) (by rfl) (by decide) ?_
    refine V_aload_n 0 X dX1_tell_69 rfl rfl ?_
    refine V_getR (k1 := (h + 1)) 0 X dX1_tell_70 co1 hh (by decide) rfl rfl wfX1_12 ?_
    refine V_getI 5 X dX1_tell_73 co2 (kt1_0 hZ hh) (by decide) rfl wfX1_165 ?_
    exact V_iret X E hr dX1_tell_76
  refine V_split (c := 5) (fun n1_5 => ?_) (fun n1_5 => ?_)
  · refine V_tabAt (c := 5) (tgt := 77) X dX1_tell_1 n1_5 (by decide) (by decide) (by rfl) (by decide) ?_
    refine V_aload_n 0 X dX1_tell_77 rfl rfl ?_
    refine V_getR (k1 := (h + 1)) 0 X dX1_tell_78 co1 hh (by decide) rfl rfl wfX1_12 ?_
    refine V_getI 6 X dX1_tell_81 co2 (kt1_0 hZ hh) (by decide) rfl wfX1_168 ?_
    exact V_iret X E hr dX1_tell_84
  refine V_tabDef (tgt := 85) X dX1_tell_1 (swOut (a := v1) (fun q q1 q2 => by rcases (show q = 0 ∨ q = 1 ∨ q = 2 ∨ q = 3 ∨ q = 4 ∨ q = 5 by omega) with rfl | rfl | rfl | rfl | rfl | rfl <;> first | exact sw_ne n1_0 (by decide) | exact sw_ne n1_1 (by decide) | exact sw_ne n1_2 (by decide) | exact sw_ne n1_3 (by decide) | exact sw_ne n1_4 (by decide) | exact sw_ne n1_5 (by decide))) (by decide) ?_
  refine V_iload_n 1 X dX1_tell_85 rfl rfl ?_
  refine V_bipush (v := 10) X dX1_tell_86 (by decide) ?_
  refine V_icmp_lt (tgt := 112) X dX1_tell_88 (by decide) ?_ ?_
  · refine V_bipush (v := -2) X dX1_tell_112 (by decide) ?_
    exact V_iret X E hr dX1_tell_114
  · refine V_iload_n 1 X dX1_tell_91 rfl rfl ?_
    refine V_bipush (v := 50) X dX1_tell_92 (by decide) ?_
    refine V_icmp_ge (tgt := 112) X dX1_tell_94 (by decide) ?_ ?_
    · refine V_bipush (v := -2) X dX1_tell_112 (by decide) ?_
      exact V_iret X E hr dX1_tell_114
    · refine V_aload_n 0 X dX1_tell_97 rfl rfl ?_
      refine V_iload_n 1 X dX1_tell_98 rfl rfl ?_
      refine V_bipush (v := 10) X dX1_tell_99 (by decide) ?_
      refine V_idivK X dX1_tell_101 (by decide) ?_
      refine V_iload_n 1 X dX1_tell_102 rfl rfl ?_
      refine V_bipush (v := 10) X dX1_tell_103 (by decide) ?_
      refine V_iremKG X dX1_tell_105 (by decide) ?_
      refine V_callI [.int (v1 / 10), .int (rmI v1 10)] [] X E dX1_tell_106 (kX1_tellOne x.2.1 z hZ N h hh (v1 / 10) (rmI v1 10) σ) co1 hh gcX1_171 hyX1_tellOne rfl ⟨by decide, by decide⟩ rfl (Nat.le_of_ble_eq_true rfl) (fun r1 s2 => ?_)
      refine V_goto (tgt := 114) X dX1_tell_109 (by decide) ?_
      exact V_iret X E hr dX1_tell_114
theorem kX1_tell (l : Launch) (z : Sx) (hZ : z.2.2.2.1 = kdC) (N : Nat) (h : Nat) (hh : z.2.2.2.1 h = (1, 0)) (v1 : Int32) (σ : Mem) : Ct QI yX1_tell cX1_tell 2 (some .int) 2 43 l z [.ref (z.2.2.1 h), .int v1] σ (fX1_tell N h v1 σ) := by
  refine Ct_of (by decide +kernel) (Nat.le_of_ble_eq_true rfl) rfl ?_
  intro x _ X E hr
  exact bX1_tell_0 X E hr hZ N h hh v1 σ
def fX11_state (N : Nat) (h : Nat) (v1 : Int32) (v2 : Int32) (v3 : Int32) (v4 : Int32) (σ : Mem) : Option (Int32 × Mem) :=
  bd (fX9_chamberAt N (h + 1) v1 σ) (fun or1 s2 => mqK (0, 0) or1 (bd (fX9_sessionAt N (h + 1) v2 s2) (fun or4 s5 => mqK (8, 0) or4 (some ((-2), s5)) (fun r4 => some ((-2), s5)))) (fun r1 => bd (fX9_sessionAt N (h + 1) v2 s2) (fun or7 s8 => mqK (8, 0) or7 (some ((-2), s8)) (fun r7 => if v3 < 0 then some ((-2), s8) else if v3 ≤ (s8.1 r7 0) then bd (fX1_follow N (h + 205) r1 r7 v3 s8) (fun r10 s11 => lt_ r10 (fun v7_12 => if v3 ≤ v7_12 then bd (fX1_tell N (h + 205) v4 s11) (fun r13 s14 => some (r13, s14)) else some ((-2), s11))) else some ((-2), s8)))))
set_option maxRecDepth 100000 in
set_option maxHeartbeats 4000000 in
theorem bX11_state_0 {x : Cx} {z : Sx} (X : XG x z RX11 cX11_state 8 7 164) (E : XE x z) (hr : XR x (some .int)) (hZ : z.2.2.2.1 = kdC) (N : Nat) (h : Nat) (hh : z.2.2.2.1 h = (11, 0)) (v1 : Int32) (v2 : Int32) (v3 : Int32) (v4 : Int32) (σ : Mem) : VK x z 8 (BQ QI x z) 0 [(0, .ref (z.2.2.1 h)), (1, .int v1), (2, .int v2), (3, .int v3), (4, .int v4)] [] σ (fX11_state N h v1 v2 v3 v4 σ) := by
  unfold fX11_state
  refine V_aload_n 0 X dX11_state_0 rfl rfl ?_
  refine V_getR (k1 := (h + 1)) 0 X dX11_state_1 co11 hh (by decide) rfl rfl wfX11_10 ?_
  refine V_iload_n 1 X dX11_state_4 rfl rfl ?_
  refine V_callQC (K := (0, 0)) [.int v1] [] X E hZ dX11_state_5 (kX9_chamberAt x.2.1 z hZ N (h + 1) (kt11_0 hZ hh) v1 σ) co9 (kt11_0 hZ hh) gcX11_105 hyX9_chamberAt rfl ⟨by decide, by decide⟩ rfl (Nat.le_of_ble_eq_true rfl) (fun s2 => ?_) (fun r1 s2 hb3 => ?_)
  · refine V_astoreN (L' := [(5, .null), (0, .ref (z.2.2.1 h)), (1, .int v1), (2, .int v2), (3, .int v3), (4, .int v4)]) X dX11_state_8 (by decide) rfl ?_
    refine V_aload_n 1 X dX11_state_10 rfl rfl ?_
    refine V_getR (k1 := (h + 1)) 0 X dX11_state_11 co11 hh (by decide) rfl rfl wfX11_10 ?_
    refine V_iload_n 3 X dX11_state_14 rfl rfl ?_
    refine V_callQC (K := (8, 0)) [.int v2] [] X E hZ dX11_state_15 (kX9_sessionAt x.2.1 z hZ N (h + 1) (kt11_0 hZ hh) v2 s2) co9 (kt11_0 hZ hh) gcX11_142 hyX9_sessionAt rfl ⟨by decide, by decide⟩ rfl (Nat.le_of_ble_eq_true rfl) (fun s5 => ?_) (fun r4 s5 hb6 => ?_)
    · refine V_astoreN (L' := [(6, .null), (5, .null), (0, .ref (z.2.2.1 h)), (1, .int v1), (2, .int v2), (3, .int v3), (4, .int v4)]) X dX11_state_18 (by decide) rfl ?_
      refine V_aloadN 1 X dX11_state_20 rfl ?_
      refine V_ifnullN (tgt := 43) X dX11_state_22 (by decide) ?_
      refine V_bipush (v := -2) X dX11_state_43 (by decide) ?_
      exact V_iret X E hr dX11_state_45
    · refine V_astore (L' := [(6, .ref (z.2.2.1 r4)), (5, .null), (0, .ref (z.2.2.1 h)), (1, .int v1), (2, .int v2), (3, .int v3), (4, .int v4)]) X dX11_state_18 (by decide) rfl ?_
      refine V_aloadN 1 X dX11_state_20 rfl ?_
      refine V_ifnullN (tgt := 43) X dX11_state_22 (by decide) ?_
      refine V_bipush (v := -2) X dX11_state_43 (by decide) ?_
      exact V_iret X E hr dX11_state_45
  · refine V_astore (L' := [(5, .ref (z.2.2.1 r1)), (0, .ref (z.2.2.1 h)), (1, .int v1), (2, .int v2), (3, .int v3), (4, .int v4)]) X dX11_state_8 (by decide) rfl ?_
    refine V_aload_n 1 X dX11_state_10 rfl rfl ?_
    refine V_getR (k1 := (h + 1)) 0 X dX11_state_11 co11 hh (by decide) rfl rfl wfX11_10 ?_
    refine V_iload_n 3 X dX11_state_14 rfl rfl ?_
    refine V_callQC (K := (8, 0)) [.int v2] [] X E hZ dX11_state_15 (kX9_sessionAt x.2.1 z hZ N (h + 1) (kt11_0 hZ hh) v2 s2) co9 (kt11_0 hZ hh) gcX11_142 hyX9_sessionAt rfl ⟨by decide, by decide⟩ rfl (Nat.le_of_ble_eq_true rfl) (fun s8 => ?_) (fun r7 s8 hb9 => ?_)
    · refine V_astoreN (L' := [(6, .null), (5, .ref (z.2.2.1 r1)), (0, .ref (z.2.2.1 h)), (1, .int v1), (2, .int v2), (3, .int v3), (4, .int v4)]) X dX11_state_18 (by decide) rfl ?_
      refine V_aload 1 X dX11_state_20 rfl ?_
      refine V_ifnull X dX11_state_22 ?_
      refine V_aloadN 0 X dX11_state_25 rfl ?_
      refine V_ifnullN (tgt := 43) X dX11_state_27 (by decide) ?_
      refine V_bipush (v := -2) X dX11_state_43 (by decide) ?_
      exact V_iret X E hr dX11_state_45
    · refine V_astore (L' := [(6, .ref (z.2.2.1 r7)), (5, .ref (z.2.2.1 r1)), (0, .ref (z.2.2.1 h)), (1, .int v1), (2, .int v2), (3, .int v3), (4, .int v4)]) X dX11_state_18 (by decide) rfl ?_
      refine V_aload 1 X dX11_state_20 rfl ?_
      refine V_ifnull X dX11_state_22 ?_
      refine V_aload 0 X dX11_state_25 rfl ?_
      refine V_ifnull X dX11_state_27 ?_
      refine V_iload_n 5 X dX11_state_30 rfl rfl ?_
      refine V_if_lt (tgt := 43) X dX11_state_31 (by decide) ?_ ?_
      · refine V_bipush (v := -2) X dX11_state_43 (by decide) ?_
        exact V_iret X E hr dX11_state_45
      · refine V_iload_n 5 X dX11_state_34 rfl rfl ?_
        refine V_aload 0 X dX11_state_35 rfl ?_
        refine V_getI 0 X dX11_state_37 co8 hb9 (by decide) rfl wfX11_150 ?_
        refine V_icmp_le (tgt := 46) X dX11_state_40 (by decide) ?_ ?_
        · refine V_aload_n 2 X dX11_state_46 rfl rfl ?_
          refine V_getR (k1 := (h + 205)) 5 X dX11_state_47 co11 hh (by decide) rfl rfl wfX11_41 ?_
          refine V_aload 1 X dX11_state_50 rfl ?_
          refine V_aload 0 X dX11_state_52 rfl ?_
          refine V_iload_n 5 X dX11_state_54 rfl rfl ?_
          refine V_callI [.ref (z.2.2.1 r1), .ref (z.2.2.1 r7), .int v3] [] X E dX11_state_55 (kX1_follow x.2.1 z hZ N (h + 205) (kt11_5 hZ hh) r1 r7 v3 hb3 hb9 s8) co1 (kt11_5 hZ hh) gcX11_153 hyX1_follow rfl ⟨by decide, by decide⟩ rfl (Nat.le_of_ble_eq_true rfl) (fun r10 s11 => ?_)
          refine V_istoreG (L' := fun v7_12 => [(7, .int v7_12), (6, .ref (z.2.2.1 r7)), (5, .ref (z.2.2.1 r1)), (0, .ref (z.2.2.1 h)), (1, .int v1), (2, .int v2), (3, .int v3), (4, .int v4)]) X dX11_state_58 (by decide) (fun _ => rfl) (fun v7_12 => ?_)
          refine V_iload 0 X dX11_state_60 rfl ?_
          refine V_iload_n 6 X dX11_state_62 rfl rfl ?_
          refine V_icmp_ge (tgt := 71) X dX11_state_63 (by decide) ?_ ?_
          · refine V_aload_n 3 X dX11_state_71 rfl rfl ?_
            refine V_getR (k1 := (h + 205)) 5 X dX11_state_72 co11 hh (by decide) rfl rfl wfX11_41 ?_
            refine V_iload 7 X dX11_state_75 rfl ?_
            refine V_callI [.int v4] [] X E dX11_state_77 (kX1_tell x.2.1 z hZ N (h + 205) (kt11_5 hZ hh) v4 s11) co1 (kt11_5 hZ hh) gcX11_157 hyX1_tell rfl ⟨by decide, by decide⟩ rfl (Nat.le_of_ble_eq_true rfl) (fun r13 s14 => ?_)
            exact V_iret X E hr dX11_state_80
          · refine V_bipush (v := -2) X dX11_state_66 (by decide) ?_
            refine V_goto (tgt := 80) X dX11_state_68 (by decide) ?_
            exact V_iret X E hr dX11_state_80
        · refine V_bipush (v := -2) X dX11_state_43 (by decide) ?_
          exact V_iret X E hr dX11_state_45
theorem kX11_state (l : Launch) (z : Sx) (hZ : z.2.2.2.1 = kdC) (N : Nat) (h : Nat) (hh : z.2.2.2.1 h = (11, 0)) (v1 : Int32) (v2 : Int32) (v3 : Int32) (v4 : Int32) (σ : Mem) : Ct QI yX11_state cX11_state 8 (some .int) 7 164 l z [.ref (z.2.2.1 h), .int v1, .int v2, .int v3, .int v4] σ (fX11_state N h v1 v2 v3 v4 σ) := by
  refine Ct_of (by decide +kernel) (Nat.le_of_ble_eq_true rfl) rfl ?_
  intro x _ X E hr
  exact bX11_state_0 X E hr hZ N h hh v1 v2 v3 v4 σ
def fX10_carriedSet_b39 (N : Nat) (h : Nat) (rc13 : Int64 → Int32 → Mem → Option (Int64 × Mem)) (v2 : Int64) (v4 : Int32) (σ : Mem) : Option (Int64 × Mem) :=
  lt_ (v4 + 1) (fun v4_8 => rc13 v2 v4_8 σ)
set_option maxRecDepth 100000 in
set_option maxHeartbeats 4000000 in
theorem bX10_carriedSet_39 {x : Cx} {z : Sx} (X : XG x z RX10 cX10_carriedSet 5 4 95) (E : XE x z) (hr : XR x (some .long)) (hZ : z.2.2.2.1 = kdC) (N : Nat) (h : Nat) (hh : z.2.2.2.1 h = (10, 0)) (rc13 : Int64 → Int32 → Mem → Option (Int64 × Mem)) (hc13 : ∀ (v2 : Int64) (v4 : Int32) (σ : Mem), VK x z 5 (BQ QL x z) 13 [(0, .ref (z.2.2.1 h)), (2, .long v2), (4, .int v4)] [] σ (rc13 v2 v4 σ)) (v2 : Int64) (v4 : Int32) (σ : Mem) : VK x z 5 (BQ QL x z) 39 [(0, .ref (z.2.2.1 h)), (2, .long v2), (4, .int v4)] [] σ (fX10_carriedSet_b39 N h rc13 v2 v4 σ) := by
  unfold fX10_carriedSet_b39
  refine V_iincG (L' := fun v4_8 => [(4, .int v4_8), (0, .ref (z.2.2.1 h)), (2, .long v2)]) 2 X dX10_carriedSet_39 rfl rfl (by decide) (fun _ => rfl) (fun v4_8 => ?_)
  refine V_goto (tgt := 13) X dX10_carriedSet_42 (by decide) ?_
  refine V_sub [1, 2, 0] rfl ?_
  exact hc13 v2 v4_8 σ
def fX10_carriedSet_b13 (N : Nat) (h : Nat) (rc13 : Int64 → Int32 → Mem → Option (Int64 × Mem)) (v2 : Int64) (v4 : Int32) (σ : Mem) : Option (Int64 × Mem) :=
  if 64 ≤ v4 then some (v2, σ) else bd (fX2_vote N (h + 1) v4 σ) (fun r5 s6 => if r5 ≤ 0 then fX10_carriedSet_b39 N h rc13 v2 v4 s6 else lt_ (v2 ||| ((1 : Int64) <<< ((v4 : Int32).toInt64 &&& 63))) (fun v2_7 => fX10_carriedSet_b39 N h rc13 v2_7 v4 s6))
set_option maxRecDepth 100000 in
set_option maxHeartbeats 4000000 in
theorem bX10_carriedSet_13 {x : Cx} {z : Sx} (X : XG x z RX10 cX10_carriedSet 5 4 95) (E : XE x z) (hr : XR x (some .long)) (hZ : z.2.2.2.1 = kdC) (N : Nat) (h : Nat) (hh : z.2.2.2.1 h = (10, 0)) (rc13 : Int64 → Int32 → Mem → Option (Int64 × Mem)) (hc13 : ∀ (v2 : Int64) (v4 : Int32) (σ : Mem), VK x z 5 (BQ QL x z) 13 [(0, .ref (z.2.2.1 h)), (2, .long v2), (4, .int v4)] [] σ (rc13 v2 v4 σ)) (v2 : Int64) (v4 : Int32) (σ : Mem) : VK x z 5 (BQ QL x z) 13 [(0, .ref (z.2.2.1 h)), (2, .long v2), (4, .int v4)] [] σ (fX10_carriedSet_b13 N h rc13 v2 v4 σ) := by
  unfold fX10_carriedSet_b13
  refine V_iload 2 X dX10_carriedSet_13 rfl ?_
  refine V_bipush (v := 64) X dX10_carriedSet_15 (by decide) ?_
  refine V_icmp_ge (tgt := 45) X dX10_carriedSet_17 (by decide) ?_ ?_
  · refine V_lload_n 1 X dX10_carriedSet_45 rfl rfl ?_
    exact V_lret X E hr dX10_carriedSet_46
  · refine V_aload_n 0 X dX10_carriedSet_20 rfl rfl ?_
    refine V_getR (k1 := (h + 1)) 0 X dX10_carriedSet_21 co10 hh (by decide) rfl rfl wfX10_12 ?_
    refine V_iload 2 X dX10_carriedSet_24 rfl ?_
    refine V_callI [.int v4] [] X E dX10_carriedSet_26 (kX2_vote x.2.1 z hZ N (h + 1) (kt10_0 hZ hh) v4 σ) co2 (kt10_0 hZ hh) gcX10_29 hyX2_vote rfl ⟨by decide, by decide⟩ rfl (Nat.le_of_ble_eq_true rfl) (fun r5 s6 => ?_)
    refine V_if_le (tgt := 39) X dX10_carriedSet_29 (by decide) ?_ ?_
    · refine V_sub [0, 1, 2] rfl ?_
      exact bX10_carriedSet_39 X E hr hZ N h hh rc13 hc13 v2 v4 s6
    · refine V_lload_n 1 X dX10_carriedSet_32 rfl rfl ?_
      refine V_lconst (v := 1) X dX10_carriedSet_33 (by decide) ?_
      refine V_iload 2 X dX10_carriedSet_34 rfl ?_
      refine V_lshl X dX10_carriedSet_36 ?_
      refine V_lor X dX10_carriedSet_37 ?_
      refine V_lstore_nG (L' := fun v2_7 => [(2, .long v2_7), (0, .ref (z.2.2.1 h)), (4, .int v4)]) X dX10_carriedSet_38 rfl (by decide) (fun _ => rfl) (fun v2_7 => ?_)
      refine V_sub [1, 0, 2] rfl ?_
      exact bX10_carriedSet_39 X E hr hZ N h hh rc13 hc13 v2_7 v4 s6
def fX10_carriedSet_l13 (N : Nat) (h : Nat) : Nat → Int64 → Int32 → Mem → Option (Int64 × Mem)
  | 0 => fun _ _ _ => none
  | n + 1 => fX10_carriedSet_b13 N h (fX10_carriedSet_l13 N h n)
theorem lX10_carriedSet_13 {x : Cx} {z : Sx} (X : XG x z RX10 cX10_carriedSet 5 4 95) (E : XE x z) (hr : XR x (some .long)) (hZ : z.2.2.2.1 = kdC) (N : Nat) (h : Nat) (hh : z.2.2.2.1 h = (10, 0)) (n : Nat) (v2 : Int64) (v4 : Int32) (σ : Mem) : VK x z 5 (BQ QL x z) 13 [(0, .ref (z.2.2.1 h)), (2, .long v2), (4, .int v4)] [] σ (fX10_carriedSet_l13 N h n v2 v4 σ) := by
  induction n generalizing v2 v4 σ with
  | zero => exact V_none
  | succ n ih => exact bX10_carriedSet_13 X E hr hZ N h hh (fX10_carriedSet_l13 N h n) ih v2 v4 σ
def fX10_carriedSet (N : Nat) (h : Nat) (v1 : Nat) (σ : Mem) : Option (Int64 × Mem) :=
  bd (fX2_enter N (h + 1) v1 σ) (fun r1 s2 => lt_ 0 (fun v2_3 => lt_ 0 (fun v4_4 => fX10_carriedSet_l13 N h N v2_3 v4_4 s2)))
set_option maxRecDepth 100000 in
set_option maxHeartbeats 4000000 in
theorem bX10_carriedSet_0 {x : Cx} {z : Sx} (X : XG x z RX10 cX10_carriedSet 5 4 95) (E : XE x z) (hr : XR x (some .long)) (hZ : z.2.2.2.1 = kdC) (N : Nat) (h : Nat) (hh : z.2.2.2.1 h = (10, 0)) (v1 : Nat) (hk1 : z.2.2.2.1 v1 = (0, 0)) (σ : Mem) : VK x z 5 (BQ QL x z) 0 [(0, .ref (z.2.2.1 h)), (1, .ref (z.2.2.1 v1))] [] σ (fX10_carriedSet N h v1 σ) := by
  unfold fX10_carriedSet
  refine V_aload_n 0 X dX10_carriedSet_0 rfl rfl ?_
  refine V_getR (k1 := (h + 1)) 0 X dX10_carriedSet_1 co10 hh (by decide) rfl rfl wfX10_12 ?_
  refine V_aload_n 1 X dX10_carriedSet_4 rfl rfl ?_
  refine V_callV [.ref (z.2.2.1 v1)] [] X E dX10_carriedSet_5 (kX2_enter x.2.1 z hZ N (h + 1) (kt10_0 hZ hh) v1 hk1 σ) co2 (kt10_0 hZ hh) gcX10_25 hyX2_enter rfl ⟨by decide, by decide⟩ rfl (Nat.le_of_ble_eq_true rfl) (fun r1 s2 => ?_)
  refine V_lconst (v := 0) X dX10_carriedSet_8 (by decide) ?_
  refine V_lstore_nG (L' := fun v2_3 => [(2, .long v2_3), (0, .ref (z.2.2.1 h)), (1, .ref (z.2.2.1 v1))]) X dX10_carriedSet_9 rfl (by decide) (fun _ => rfl) (fun v2_3 => ?_)
  refine V_iconst (v := 0) X dX10_carriedSet_10 (by decide) ?_
  refine V_istoreG (L' := fun v4_4 => [(4, .int v4_4), (2, .long v2_3), (0, .ref (z.2.2.1 h)), (1, .ref (z.2.2.1 v1))]) X dX10_carriedSet_11 (by decide) (fun _ => rfl) (fun v4_4 => ?_)
  refine V_sub [2, 1, 0] rfl ?_
  exact lX10_carriedSet_13 X E hr hZ N h hh N v2_3 v4_4 s2
theorem kX10_carriedSet (l : Launch) (z : Sx) (hZ : z.2.2.2.1 = kdC) (N : Nat) (h : Nat) (hh : z.2.2.2.1 h = (10, 0)) (v1 : Nat) (hk1 : z.2.2.2.1 v1 = (0, 0)) (σ : Mem) : Ct QL yX10_carriedSet cX10_carriedSet 5 (some .long) 4 95 l z [.ref (z.2.2.1 h), .ref (z.2.2.1 v1)] σ (fX10_carriedSet N h v1 σ) := by
  refine Ct_of (by decide +kernel) (Nat.le_of_ble_eq_true rfl) rfl ?_
  intro x _ X E hr
  exact bX10_carriedSet_0 X E hr hZ N h hh v1 hk1 σ
def fJ13_bitCount_95d88 (N : Nat) (v0 : Int64) (σ : Mem) : Option (Int32 × Mem) :=
  lt_ (v0 - ((usL v0 1) &&& 6148914691236517205)) (fun v0_1 => lt_ ((v0_1 &&& 3689348814741910323) + ((usL v0_1 2) &&& 3689348814741910323)) (fun v0_2 => lt_ ((v0_2 + (usL v0_2 4)) &&& 1085102592571150095) (fun v0_3 => lt_ (v0_3 + (usL v0_3 8)) (fun v0_4 => lt_ (v0_4 + (usL v0_4 16)) (fun v0_5 => lt_ (v0_5 + (usL v0_5 32)) (fun v0_6 => some ((((v0_6 : Int64).toInt32) &&& 127), σ)))))))
set_option maxRecDepth 100000 in
set_option maxHeartbeats 4000000 in
theorem bJ13_bitCount_95d88_0 {x : Cx} {z : Sx} (X : XG x z RJ13 cJ13_bitCount_95d88 2 0 0) (E : XE x z) (hr : XR x (some .int)) (hZ : z.2.2.2.1 = kdC) (N : Nat) (v0 : Int64) (σ : Mem) : VK x z 2 (BQ QI x z) 0 [(0, .long v0)] [] σ (fJ13_bitCount_95d88 N v0 σ) := by
  unfold fJ13_bitCount_95d88
  refine V_lload_n 0 X dJ13_bitCount_95d88_0 rfl rfl ?_
  refine V_lload_n 0 X dJ13_bitCount_95d88_1 rfl rfl ?_
  refine V_iconst (v := 1) X dJ13_bitCount_95d88_2 (by decide) ?_
  refine V_lushrG X dJ13_bitCount_95d88_3 ?_
  refine V_ldc2 (v := 6148914691236517205) X dJ13_bitCount_95d88_4 csJ13_314 ?_
  refine V_land X dJ13_bitCount_95d88_7 ?_
  refine V_lsub X dJ13_bitCount_95d88_8 ?_
  refine V_lstore_nG (L' := fun v0_1 => [(0, .long v0_1)]) X dJ13_bitCount_95d88_9 rfl (by decide) (fun _ => rfl) (fun v0_1 => ?_)
  refine V_lload_n 0 X dJ13_bitCount_95d88_10 rfl rfl ?_
  refine V_ldc2 (v := 3689348814741910323) X dJ13_bitCount_95d88_11 csJ13_316 ?_
  refine V_land X dJ13_bitCount_95d88_14 ?_
  refine V_lload_n 0 X dJ13_bitCount_95d88_15 rfl rfl ?_
  refine V_iconst (v := 2) X dJ13_bitCount_95d88_16 (by decide) ?_
  refine V_lushrG X dJ13_bitCount_95d88_17 ?_
  refine V_ldc2 (v := 3689348814741910323) X dJ13_bitCount_95d88_18 csJ13_316 ?_
  refine V_land X dJ13_bitCount_95d88_21 ?_
  refine V_ladd X dJ13_bitCount_95d88_22 ?_
  refine V_lstore_nG (L' := fun v0_2 => [(0, .long v0_2)]) X dJ13_bitCount_95d88_23 rfl (by decide) (fun _ => rfl) (fun v0_2 => ?_)
  refine V_lload_n 0 X dJ13_bitCount_95d88_24 rfl rfl ?_
  refine V_lload_n 0 X dJ13_bitCount_95d88_25 rfl rfl ?_
  refine V_iconst (v := 4) X dJ13_bitCount_95d88_26 (by decide) ?_
  refine V_lushrG X dJ13_bitCount_95d88_27 ?_
  refine V_ladd X dJ13_bitCount_95d88_28 ?_
  refine V_ldc2 (v := 1085102592571150095) X dJ13_bitCount_95d88_29 csJ13_318 ?_
  refine V_land X dJ13_bitCount_95d88_32 ?_
  refine V_lstore_nG (L' := fun v0_3 => [(0, .long v0_3)]) X dJ13_bitCount_95d88_33 rfl (by decide) (fun _ => rfl) (fun v0_3 => ?_)
  refine V_lload_n 0 X dJ13_bitCount_95d88_34 rfl rfl ?_
  refine V_lload_n 0 X dJ13_bitCount_95d88_35 rfl rfl ?_
  refine V_bipush (v := 8) X dJ13_bitCount_95d88_36 (by decide) ?_
  refine V_lushrG X dJ13_bitCount_95d88_38 ?_
  refine V_ladd X dJ13_bitCount_95d88_39 ?_
  refine V_lstore_nG (L' := fun v0_4 => [(0, .long v0_4)]) X dJ13_bitCount_95d88_40 rfl (by decide) (fun _ => rfl) (fun v0_4 => ?_)
  refine V_lload_n 0 X dJ13_bitCount_95d88_41 rfl rfl ?_
  refine V_lload_n 0 X dJ13_bitCount_95d88_42 rfl rfl ?_
  refine V_bipush (v := 16) X dJ13_bitCount_95d88_43 (by decide) ?_
  refine V_lushrG X dJ13_bitCount_95d88_45 ?_
  refine V_ladd X dJ13_bitCount_95d88_46 ?_
  refine V_lstore_nG (L' := fun v0_5 => [(0, .long v0_5)]) X dJ13_bitCount_95d88_47 rfl (by decide) (fun _ => rfl) (fun v0_5 => ?_)
  refine V_lload_n 0 X dJ13_bitCount_95d88_48 rfl rfl ?_
  refine V_lload_n 0 X dJ13_bitCount_95d88_49 rfl rfl ?_
  refine V_bipush (v := 32) X dJ13_bitCount_95d88_50 (by decide) ?_
  refine V_lushrG X dJ13_bitCount_95d88_52 ?_
  refine V_ladd X dJ13_bitCount_95d88_53 ?_
  refine V_lstore_nG (L' := fun v0_6 => [(0, .long v0_6)]) X dJ13_bitCount_95d88_54 rfl (by decide) (fun _ => rfl) (fun v0_6 => ?_)
  refine V_lload_n 0 X dJ13_bitCount_95d88_55 rfl rfl ?_
  refine V_l2i X dJ13_bitCount_95d88_56 ?_
  refine V_bipush (v := 127) X dJ13_bitCount_95d88_57 (by decide) ?_
  refine V_iand X dJ13_bitCount_95d88_59 ?_
  exact V_iret X E hr dJ13_bitCount_95d88_60
theorem kJ13_bitCount_95d88 (l : Launch) (z : Sx) (hZ : z.2.2.2.1 = kdC) (N : Nat) (v0 : Int64) (σ : Mem) : Ct QI yJ13_bitCount_95d88 cJ13_bitCount_95d88 2 (some .int) 0 0 l z [.long v0] σ (fJ13_bitCount_95d88 N v0 σ) := by
  refine Ct_of (by decide +kernel) (Nat.le_of_ble_eq_true rfl) rfl ?_
  intro x _ X E hr
  exact bJ13_bitCount_95d88_0 X E hr hZ N v0 σ
def fX10_isIn (N : Nat) (v0 : Int64) (v2 : Int32) (σ : Mem) : Option (Int32 × Mem) :=
  if (lg_cmp ((usL v0 v2) &&& 1) 0) = 0 then some (0, σ) else some (1, σ)
set_option maxRecDepth 100000 in
set_option maxHeartbeats 4000000 in
theorem bX10_isIn_0 {x : Cx} {z : Sx} (X : XG x z RX10 cX10_isIn 3 0 0) (E : XE x z) (hr : XR x (some .boolean)) (hZ : z.2.2.2.1 = kdC) (N : Nat) (v0 : Int64) (v2 : Int32) (σ : Mem) : VK x z 3 (BQ QI x z) 0 [(0, .long v0), (2, .int v2)] [] σ (fX10_isIn N v0 v2 σ) := by
  unfold fX10_isIn
  refine V_lload_n 0 X dX10_isIn_0 rfl rfl ?_
  refine V_iload_n 1 X dX10_isIn_1 rfl rfl ?_
  refine V_lushrG X dX10_isIn_2 ?_
  refine V_lconst (v := 1) X dX10_isIn_3 (by decide) ?_
  refine V_land X dX10_isIn_4 ?_
  refine V_lconst (v := 0) X dX10_isIn_5 (by decide) ?_
  refine V_lcmp X dX10_isIn_6 ?_
  refine V_if_eq (tgt := 14) X dX10_isIn_7 (by decide) ?_ ?_
  · refine V_iconst (v := 0) X dX10_isIn_14 (by decide) ?_
    exact V_zret X E hr dX10_isIn_15 (by decide)
  · refine V_iconst (v := 1) X dX10_isIn_10 (by decide) ?_
    refine V_goto (tgt := 15) X dX10_isIn_11 (by decide) ?_
    exact V_zret X E hr dX10_isIn_15 (by decide)
theorem kX10_isIn (l : Launch) (z : Sx) (hZ : z.2.2.2.1 = kdC) (N : Nat) (v0 : Int64) (v2 : Int32) (σ : Mem) : Ct QI yX10_isIn cX10_isIn 3 (some .boolean) 0 0 l z [.long v0, .int v2] σ (fX10_isIn N v0 v2 σ) := by
  refine Ct_of (by decide +kernel) (Nat.le_of_ble_eq_true rfl) rfl ?_
  intro x _ X E hr
  exact bX10_isIn_0 X E hr hZ N v0 v2 σ
def fX10_member_b45 (N : Nat) (rc15 : Int64 → Int32 → Int32 → Mem → Option (Int32 × Mem)) (v0 : Int64) (v3 : Int32) (v4 : Int32) (σ : Mem) : Option (Int32 × Mem) :=
  lt_ (v4 + 1) (fun v4_8 => rc15 v0 v3 v4_8 σ)
set_option maxRecDepth 100000 in
set_option maxHeartbeats 4000000 in
theorem bX10_member_45 {x : Cx} {z : Sx} (X : XG x z RX10 cX10_member 5 1 22) (E : XE x z) (hr : XR x (some .int)) (hZ : z.2.2.2.1 = kdC) (N : Nat) (rc15 : Int64 → Int32 → Int32 → Mem → Option (Int32 × Mem)) (hc15 : ∀ (v0 : Int64) (v3 : Int32) (v4 : Int32) (σ : Mem), VK x z 5 (BQ QI x z) 15 [(0, .long v0), (3, .int v3), (4, .int v4)] [] σ (rc15 v0 v3 v4 σ)) (v0 : Int64) (v3 : Int32) (v4 : Int32) (σ : Mem) : VK x z 5 (BQ QI x z) 45 [(0, .long v0), (3, .int v3), (4, .int v4)] [] σ (fX10_member_b45 N rc15 v0 v3 v4 σ) := by
  unfold fX10_member_b45
  refine V_iincG (L' := fun v4_8 => [(4, .int v4_8), (0, .long v0), (3, .int v3)]) 2 X dX10_member_45 rfl rfl (by decide) (fun _ => rfl) (fun v4_8 => ?_)
  refine V_goto (tgt := 15) X dX10_member_48 (by decide) ?_
  refine V_sub [1, 2, 0] rfl ?_
  exact hc15 v0 v3 v4_8 σ
def fX10_member_b15 (N : Nat) (rc15 : Int64 → Int32 → Int32 → Mem → Option (Int32 × Mem)) (v0 : Int64) (v3 : Int32) (v4 : Int32) (σ : Mem) : Option (Int32 × Mem) :=
  if 64 ≤ v4 then some ((-1), σ) else if v3 < 0 then some ((-1), σ) else bd (fX10_isIn N v0 v4 σ) (fun r5 s6 => if r5 = 0 then fX10_member_b45 N rc15 v0 v3 v4 s6 else if v3 = 0 then some (v4, s6) else lt_ (v3 + (-1)) (fun v3_7 => fX10_member_b45 N rc15 v0 v3_7 v4 s6))
set_option maxRecDepth 100000 in
set_option maxHeartbeats 4000000 in
theorem bX10_member_15 {x : Cx} {z : Sx} (X : XG x z RX10 cX10_member 5 1 22) (E : XE x z) (hr : XR x (some .int)) (hZ : z.2.2.2.1 = kdC) (N : Nat) (rc15 : Int64 → Int32 → Int32 → Mem → Option (Int32 × Mem)) (hc15 : ∀ (v0 : Int64) (v3 : Int32) (v4 : Int32) (σ : Mem), VK x z 5 (BQ QI x z) 15 [(0, .long v0), (3, .int v3), (4, .int v4)] [] σ (rc15 v0 v3 v4 σ)) (v0 : Int64) (v3 : Int32) (v4 : Int32) (σ : Mem) : VK x z 5 (BQ QI x z) 15 [(0, .long v0), (3, .int v3), (4, .int v4)] [] σ (fX10_member_b15 N rc15 v0 v3 v4 σ) := by
  unfold fX10_member_b15
  refine V_iload 2 X dX10_member_15 rfl ?_
  refine V_bipush (v := 64) X dX10_member_17 (by decide) ?_
  refine V_icmp_ge (tgt := 51) X dX10_member_19 (by decide) ?_ ?_
  · refine V_iconst (v := -1) X dX10_member_51 (by decide) ?_
    exact V_iret X E hr dX10_member_52
  · refine V_iload_n 1 X dX10_member_22 rfl rfl ?_
    refine V_if_lt (tgt := 51) X dX10_member_23 (by decide) ?_ ?_
    · refine V_iconst (v := -1) X dX10_member_51 (by decide) ?_
      exact V_iret X E hr dX10_member_52
    · refine V_lload_n 0 X dX10_member_26 rfl rfl ?_
      refine V_iload 2 X dX10_member_27 rfl ?_
      refine V_calSI [.long v0, .int v4] [] X E dX10_member_29 (kX10_isIn x.2.1 z hZ N v0 v4 σ) gcX10_56 hyX10_isIn rfl ⟨by decide, by decide⟩ rfl (Nat.le_of_ble_eq_true rfl) (fun r5 s6 => ?_)
      refine V_if_eq (tgt := 45) X dX10_member_32 (by decide) ?_ ?_
      · refine V_sub [0, 1, 2] rfl ?_
        exact bX10_member_45 X E hr hZ N rc15 hc15 v0 v3 v4 s6
      · refine V_iload_n 1 X dX10_member_35 rfl rfl ?_
        refine V_if_ne (tgt := 42) X dX10_member_36 (by decide) ?_ ?_
        · refine V_iincG (L' := fun v3_7 => [(3, .int v3_7), (0, .long v0), (4, .int v4)]) 1 X dX10_member_42 rfl rfl (by decide) (fun _ => rfl) (fun v3_7 => ?_)
          refine V_sub [1, 0, 2] rfl ?_
          exact bX10_member_45 X E hr hZ N rc15 hc15 v0 v3_7 v4 s6
        · refine V_iload 2 X dX10_member_39 rfl ?_
          exact V_iret X E hr dX10_member_41
def fX10_member_l15 (N : Nat) : Nat → Int64 → Int32 → Int32 → Mem → Option (Int32 × Mem)
  | 0 => fun _ _ _ _ => none
  | n + 1 => fX10_member_b15 N (fX10_member_l15 N n)
theorem lX10_member_15 {x : Cx} {z : Sx} (X : XG x z RX10 cX10_member 5 1 22) (E : XE x z) (hr : XR x (some .int)) (hZ : z.2.2.2.1 = kdC) (N : Nat) (n : Nat) (v0 : Int64) (v3 : Int32) (v4 : Int32) (σ : Mem) : VK x z 5 (BQ QI x z) 15 [(0, .long v0), (3, .int v3), (4, .int v4)] [] σ (fX10_member_l15 N n v0 v3 v4 σ) := by
  induction n generalizing v0 v3 v4 σ with
  | zero => exact V_none
  | succ n ih => exact bX10_member_15 X E hr hZ N (fX10_member_l15 N n) ih v0 v3 v4 σ
def fX10_member (N : Nat) (v0 : Int64) (v2 : Int32) (σ : Mem) : Option (Int32 × Mem) :=
  if v2 = (-1) then bd (fJ13_bitCount_95d88 N v0 σ) (fun r3 s4 => some (r3, s4)) else lt_ v2 (fun v3_1 => lt_ 0 (fun v4_2 => fX10_member_l15 N N v0 v3_1 v4_2 σ))
set_option maxRecDepth 100000 in
set_option maxHeartbeats 4000000 in
theorem bX10_member_0 {x : Cx} {z : Sx} (X : XG x z RX10 cX10_member 5 1 22) (E : XE x z) (hr : XR x (some .int)) (hZ : z.2.2.2.1 = kdC) (N : Nat) (v0 : Int64) (v2 : Int32) (σ : Mem) : VK x z 5 (BQ QI x z) 0 [(0, .long v0), (2, .int v2)] [] σ (fX10_member N v0 v2 σ) := by
  unfold fX10_member
  refine V_iload_n 1 X dX10_member_0 rfl rfl ?_
  refine V_iconst (v := -1) X dX10_member_1 (by decide) ?_
  refine V_icmp_ne (tgt := 10) X dX10_member_2 (by decide) ?_ ?_
  · refine V_iload_n 1 X dX10_member_10 rfl rfl ?_
    refine V_istore_nG (L' := fun v3_1 => [(3, .int v3_1), (0, .long v0), (2, .int v2)]) X dX10_member_11 rfl (by decide) (fun _ => rfl) (fun v3_1 => ?_)
    refine V_iconst (v := 0) X dX10_member_12 (by decide) ?_
    refine V_istoreG (L' := fun v4_2 => [(4, .int v4_2), (3, .int v3_1), (0, .long v0), (2, .int v2)]) X dX10_member_13 (by decide) (fun _ => rfl) (fun v4_2 => ?_)
    refine V_sub [2, 1, 0] rfl ?_
    exact lX10_member_15 X E hr hZ N N v0 v3_1 v4_2 σ
  · refine V_lload_n 0 X dX10_member_5 rfl rfl ?_
    refine V_calSI [.long v0] [] X E dX10_member_6 (kJ13_bitCount_95d88 x.2.1 z hZ N v0 σ) gcX10_50 hyJ13_bitCount_95d88 rfl ⟨by decide, by decide⟩ rfl (Nat.le_of_ble_eq_true rfl) (fun r3 s4 => ?_)
    exact V_iret X E hr dX10_member_9
theorem kX10_member (l : Launch) (z : Sx) (hZ : z.2.2.2.1 = kdC) (N : Nat) (v0 : Int64) (v2 : Int32) (σ : Mem) : Ct QI yX10_member cX10_member 5 (some .int) 1 22 l z [.long v0, .int v2] σ (fX10_member N v0 v2 σ) := by
  refine Ct_of (by decide +kernel) (Nat.le_of_ble_eq_true rfl) rfl ?_
  intro x _ X E hr
  exact bX10_member_0 X E hr hZ N v0 v2 σ
def fX11_carried (N : Nat) (h : Nat) (v1 : Int32) (v2 : Int32) (σ : Mem) : Option (Int32 × Mem) :=
  bd (fX9_chamberAt N (h + 1) v1 σ) (fun or1 s2 => mqK (0, 0) or1 (some ((-1), s2)) (fun r1 => bd (fX10_carriedSet N (h + 220) r1 s2) (fun r4 s5 => bd (fX10_member N r4 v2 s5) (fun r6 s7 => some (r6, s7)))))
set_option maxRecDepth 100000 in
set_option maxHeartbeats 4000000 in
theorem bX11_carried_0 {x : Cx} {z : Sx} (X : XG x z RX11 cX11_carried 4 5 119) (E : XE x z) (hr : XR x (some .int)) (hZ : z.2.2.2.1 = kdC) (N : Nat) (h : Nat) (hh : z.2.2.2.1 h = (11, 0)) (v1 : Int32) (v2 : Int32) (σ : Mem) : VK x z 4 (BQ QI x z) 0 [(0, .ref (z.2.2.1 h)), (1, .int v1), (2, .int v2)] [] σ (fX11_carried N h v1 v2 σ) := by
  unfold fX11_carried
  refine V_aload_n 0 X dX11_carried_0 rfl rfl ?_
  refine V_getR (k1 := (h + 1)) 0 X dX11_carried_1 co11 hh (by decide) rfl rfl wfX11_10 ?_
  refine V_iload_n 1 X dX11_carried_4 rfl rfl ?_
  refine V_callQC (K := (0, 0)) [.int v1] [] X E hZ dX11_carried_5 (kX9_chamberAt x.2.1 z hZ N (h + 1) (kt11_0 hZ hh) v1 σ) co9 (kt11_0 hZ hh) gcX11_105 hyX9_chamberAt rfl ⟨by decide, by decide⟩ rfl (Nat.le_of_ble_eq_true rfl) (fun s2 => ?_) (fun r1 s2 hb3 => ?_)
  · refine V_astore_nN (L' := [(3, .null), (0, .ref (z.2.2.1 h)), (1, .int v1), (2, .int v2)]) X dX11_carried_8 rfl (by decide) rfl ?_
    refine V_aload_nN 0 X dX11_carried_9 rfl rfl ?_
    refine V_ifnonnullN X dX11_carried_10 ?_
    refine V_iconst (v := -1) X dX11_carried_13 (by decide) ?_
    refine V_goto (tgt := 29) X dX11_carried_14 (by decide) ?_
    exact V_iret X E hr dX11_carried_29
  · refine V_astore_n (L' := [(3, .ref (z.2.2.1 r1)), (0, .ref (z.2.2.1 h)), (1, .int v1), (2, .int v2)]) X dX11_carried_8 rfl (by decide) rfl ?_
    refine V_aload_n 0 X dX11_carried_9 rfl rfl ?_
    refine V_ifnonnull (tgt := 17) X dX11_carried_10 (by decide) ?_
    refine V_aload_n 1 X dX11_carried_17 rfl rfl ?_
    refine V_getR (k1 := (h + 220)) 6 X dX11_carried_18 co11 hh (by decide) rfl rfl wfX11_48 ?_
    refine V_aload_n 0 X dX11_carried_21 rfl rfl ?_
    refine V_callL [.ref (z.2.2.1 r1)] [] X E dX11_carried_22 (kX10_carriedSet x.2.1 z hZ N (h + 220) (kt11_6 hZ hh) r1 hb3 s2) co10 (kt11_6 hZ hh) gcX11_158 hyX10_carriedSet rfl ⟨by decide, by decide⟩ rfl (Nat.le_of_ble_eq_true rfl) (fun r4 s5 => ?_)
    refine V_iload_n 3 X dX11_carried_25 rfl rfl ?_
    refine V_calSI [.long r4, .int v2] [] X E dX11_carried_26 (kX10_member x.2.1 z hZ N r4 v2 s5) gcX11_162 hyX10_member rfl ⟨by decide, by decide⟩ rfl (Nat.le_of_ble_eq_true rfl) (fun r6 s7 => ?_)
    exact V_iret X E hr dX11_carried_29
theorem kX11_carried (l : Launch) (z : Sx) (hZ : z.2.2.2.1 = kdC) (N : Nat) (h : Nat) (hh : z.2.2.2.1 h = (11, 0)) (v1 : Int32) (v2 : Int32) (σ : Mem) : Ct QI yX11_carried cX11_carried 4 (some .int) 5 119 l z [.ref (z.2.2.1 h), .int v1, .int v2] σ (fX11_carried N h v1 v2 σ) := by
  refine Ct_of (by decide +kernel) (Nat.le_of_ble_eq_true rfl) rfl ?_
  intro x _ X E hr
  exact bX11_carried_0 X E hr hZ N h hh v1 v2 σ
def fX7_keepLeastRow_b58 (N : Nat) (h : Nat) (v1 : Int32) (σ : Mem) : Option (Unit × Mem) :=
  lt_ (pI σ h 2 v1) (fun s5 => lt_ (cpM s5 (((h + 2) + 1) + 8) (h + 1) (6 : Int32).toNatClampNeg) (fun s6 => some ((), s6)))
set_option maxRecDepth 100000 in
set_option maxHeartbeats 4000000 in
theorem bX7_keepLeastRow_58 {x : Cx} {z : Sx} (X : XG x z RX7 cX7_keepLeastRow 3 1 26) (E : XE x z) (hr : XR x none) (hZ : z.2.2.2.1 = kdC) (N : Nat) (h : Nat) (hh : z.2.2.2.1 h = (7, 0)) (v1 : Int32) (σ : Mem) : VK x z 3 (BQ QV x z) 58 [(0, .ref (z.2.2.1 h)), (1, .int v1)] [] σ (fX7_keepLeastRow_b58 N h v1 σ) := by
  unfold fX7_keepLeastRow_b58
  refine V_aload_n 0 X dX7_keepLeastRow_58 rfl rfl ?_
  refine V_iload_n 1 X dX7_keepLeastRow_59 rfl rfl ?_
  refine V_putIG 2 X dX7_keepLeastRow_60 co7 hh (by decide) rfl wfX7_26 rfl rfl rfl (fun s5 => ?_)
  refine V_aload_n 0 X dX7_keepLeastRow_63 rfl rfl ?_
  refine V_getR (k1 := (h + 2)) 1 X dX7_keepLeastRow_64 co7 hh (by decide) rfl rfl wfX7_18 ?_
  refine V_getR (k1 := ((h + 2) + 1)) 0 X dX7_keepLeastRow_67 co2 (kt7_1 hZ hh) (by decide) rfl rfl wfX7_49 ?_
  refine V_getR (k1 := (((h + 2) + 1) + 8)) 10 X dX7_keepLeastRow_70 co0 (kt2_0 hZ (kt7_1 hZ hh)) (by decide) rfl rfl wfX7_53 ?_
  refine V_iconst (v := 0) X dX7_keepLeastRow_73 (by decide) ?_
  refine V_aload_n 0 X dX7_keepLeastRow_74 rfl rfl ?_
  refine V_getR (k1 := (h + 1)) 0 X dX7_keepLeastRow_75 co7 hh (by decide) rfl rfl wfX7_9 ?_
  refine V_iconst (v := 0) X dX7_keepLeastRow_78 (by decide) ?_
  refine V_bipush (v := 6) X dX7_keepLeastRow_79 (by decide) ?_
  refine V_copy50 X dX7_keepLeastRow_81 (kt0_10 hZ (kt2_0 hZ (kt7_1 hZ hh))) (kt7_0 hZ hh) acX7_65 acN acS acI (by decide) (by decide) (by decide) (by decide) (Nat.le_of_ble_eq_true rfl) (fun s6 => ?_)
  exact V_vret X E hr dX7_keepLeastRow_84
def fX7_keepLeastRow_b4 (N : Nat) (h : Nat) (rc4 : Int32 → Int32 → Mem → Option (Unit × Mem)) (v1 : Int32) (v2 : Int32) (σ : Mem) : Option (Unit × Mem) :=
  if (σ.1 ((h + 2) + 1) 1) ≤ v2 then if (σ.1 h 2) = (-1) then fX7_keepLeastRow_b58 N h v1 σ else if (σ.1 h 2) ≤ v1 then some ((), σ) else fX7_keepLeastRow_b58 N h v1 σ else gd (inb v2 6) (lt_ ((9 * v1) + (σ.1 (((h + 2) + 1) + 8) v2.toNatClampNeg)) (fun v1_3 => lt_ (v2 + 1) (fun v2_4 => rc4 v1_3 v2_4 σ)))
set_option maxRecDepth 100000 in
set_option maxHeartbeats 4000000 in
theorem bX7_keepLeastRow_4 {x : Cx} {z : Sx} (X : XG x z RX7 cX7_keepLeastRow 3 1 26) (E : XE x z) (hr : XR x none) (hZ : z.2.2.2.1 = kdC) (N : Nat) (h : Nat) (hh : z.2.2.2.1 h = (7, 0)) (rc4 : Int32 → Int32 → Mem → Option (Unit × Mem)) (hc4 : ∀ (v1 : Int32) (v2 : Int32) (σ : Mem), VK x z 3 (BQ QV x z) 4 [(0, .ref (z.2.2.1 h)), (1, .int v1), (2, .int v2)] [] σ (rc4 v1 v2 σ)) (v1 : Int32) (v2 : Int32) (σ : Mem) : VK x z 3 (BQ QV x z) 4 [(0, .ref (z.2.2.1 h)), (1, .int v1), (2, .int v2)] [] σ (fX7_keepLeastRow_b4 N h rc4 v1 v2 σ) := by
  unfold fX7_keepLeastRow_b4
  refine V_iload_n 2 X dX7_keepLeastRow_4 rfl rfl ?_
  refine V_aload_n 0 X dX7_keepLeastRow_5 rfl rfl ?_
  refine V_getR (k1 := (h + 2)) 1 X dX7_keepLeastRow_6 co7 hh (by decide) rfl rfl wfX7_18 ?_
  refine V_getR (k1 := ((h + 2) + 1)) 0 X dX7_keepLeastRow_9 co2 (kt7_1 hZ hh) (by decide) rfl rfl wfX7_49 ?_
  refine V_getI 1 X dX7_keepLeastRow_12 co0 (kt2_0 hZ (kt7_1 hZ hh)) (by decide) rfl wfX7_37 ?_
  refine V_icmp_ge (tgt := 42) X dX7_keepLeastRow_15 (by decide) ?_ ?_
  · refine V_aload_n 0 X dX7_keepLeastRow_42 rfl rfl ?_
    refine V_getI 2 X dX7_keepLeastRow_43 co7 hh (by decide) rfl wfX7_26 ?_
    refine V_iconst (v := -1) X dX7_keepLeastRow_46 (by decide) ?_
    refine V_icmp_eq (tgt := 58) X dX7_keepLeastRow_47 (by decide) ?_ ?_
    · refine V_sub [0, 1] rfl ?_
      exact bX7_keepLeastRow_58 X E hr hZ N h hh v1 σ
    · refine V_iload_n 1 X dX7_keepLeastRow_50 rfl rfl ?_
      refine V_aload_n 0 X dX7_keepLeastRow_51 rfl rfl ?_
      refine V_getI 2 X dX7_keepLeastRow_52 co7 hh (by decide) rfl wfX7_26 ?_
      refine V_icmp_ge (tgt := 84) X dX7_keepLeastRow_55 (by decide) ?_ ?_
      · exact V_vret X E hr dX7_keepLeastRow_84
      · refine V_sub [0, 1] rfl ?_
        exact bX7_keepLeastRow_58 X E hr hZ N h hh v1 σ
  · refine V_bipush (v := 9) X dX7_keepLeastRow_18 (by decide) ?_
    refine V_iload_n 1 X dX7_keepLeastRow_20 rfl rfl ?_
    refine V_imul X dX7_keepLeastRow_21 ?_
    refine V_aload_n 0 X dX7_keepLeastRow_22 rfl rfl ?_
    refine V_getR (k1 := (h + 2)) 1 X dX7_keepLeastRow_23 co7 hh (by decide) rfl rfl wfX7_18 ?_
    refine V_getR (k1 := ((h + 2) + 1)) 0 X dX7_keepLeastRow_26 co2 (kt7_1 hZ hh) (by decide) rfl rfl wfX7_49 ?_
    refine V_getR (k1 := (((h + 2) + 1) + 8)) 10 X dX7_keepLeastRow_29 co0 (kt2_0 hZ (kt7_1 hZ hh)) (by decide) rfl rfl wfX7_53 ?_
    refine V_iload_n 2 X dX7_keepLeastRow_32 rfl rfl ?_
    refine V_iald X dX7_keepLeastRow_33 (kt0_10 hZ (kt2_0 hZ (kt7_1 hZ hh))) ?_
    refine V_iadd X dX7_keepLeastRow_34 ?_
    refine V_istore_nG (L' := fun v1_3 => [(1, .int v1_3), (0, .ref (z.2.2.1 h)), (2, .int v2)]) X dX7_keepLeastRow_35 rfl (by decide) (fun _ => rfl) (fun v1_3 => ?_)
    refine V_iincG (L' := fun v2_4 => [(2, .int v2_4), (1, .int v1_3), (0, .ref (z.2.2.1 h))]) 2 X dX7_keepLeastRow_36 rfl rfl (by decide) (fun _ => rfl) (fun v2_4 => ?_)
    refine V_goto (tgt := 4) X dX7_keepLeastRow_39 (by decide) ?_
    refine V_sub [2, 1, 0] rfl ?_
    exact hc4 v1_3 v2_4 σ
def fX7_keepLeastRow_l4 (N : Nat) (h : Nat) : Nat → Int32 → Int32 → Mem → Option (Unit × Mem)
  | 0 => fun _ _ _ => none
  | n + 1 => fX7_keepLeastRow_b4 N h (fX7_keepLeastRow_l4 N h n)
theorem lX7_keepLeastRow_4 {x : Cx} {z : Sx} (X : XG x z RX7 cX7_keepLeastRow 3 1 26) (E : XE x z) (hr : XR x none) (hZ : z.2.2.2.1 = kdC) (N : Nat) (h : Nat) (hh : z.2.2.2.1 h = (7, 0)) (n : Nat) (v1 : Int32) (v2 : Int32) (σ : Mem) : VK x z 3 (BQ QV x z) 4 [(0, .ref (z.2.2.1 h)), (1, .int v1), (2, .int v2)] [] σ (fX7_keepLeastRow_l4 N h n v1 v2 σ) := by
  induction n generalizing v1 v2 σ with
  | zero => exact V_none
  | succ n ih => exact bX7_keepLeastRow_4 X E hr hZ N h hh (fX7_keepLeastRow_l4 N h n) ih v1 v2 σ
def fX7_keepLeastRow (N : Nat) (h : Nat) (σ : Mem) : Option (Unit × Mem) :=
  lt_ 0 (fun v1_1 => lt_ 0 (fun v2_2 => fX7_keepLeastRow_l4 N h N v1_1 v2_2 σ))
set_option maxRecDepth 100000 in
set_option maxHeartbeats 4000000 in
theorem bX7_keepLeastRow_0 {x : Cx} {z : Sx} (X : XG x z RX7 cX7_keepLeastRow 3 1 26) (E : XE x z) (hr : XR x none) (hZ : z.2.2.2.1 = kdC) (N : Nat) (h : Nat) (hh : z.2.2.2.1 h = (7, 0)) (σ : Mem) : VK x z 3 (BQ QV x z) 0 [(0, .ref (z.2.2.1 h))] [] σ (fX7_keepLeastRow N h σ) := by
  unfold fX7_keepLeastRow
  refine V_iconst (v := 0) X dX7_keepLeastRow_0 (by decide) ?_
  refine V_istore_nG (L' := fun v1_1 => [(1, .int v1_1), (0, .ref (z.2.2.1 h))]) X dX7_keepLeastRow_1 rfl (by decide) (fun _ => rfl) (fun v1_1 => ?_)
  refine V_iconst (v := 0) X dX7_keepLeastRow_2 (by decide) ?_
  refine V_istore_nG (L' := fun v2_2 => [(2, .int v2_2), (1, .int v1_1), (0, .ref (z.2.2.1 h))]) X dX7_keepLeastRow_3 rfl (by decide) (fun _ => rfl) (fun v2_2 => ?_)
  refine V_sub [2, 1, 0] rfl ?_
  exact lX7_keepLeastRow_4 X E hr hZ N h hh N v1_1 v2_2 σ
theorem kX7_keepLeastRow (l : Launch) (z : Sx) (hZ : z.2.2.2.1 = kdC) (N : Nat) (h : Nat) (hh : z.2.2.2.1 h = (7, 0)) (σ : Mem) : Ct QV yX7_keepLeastRow cX7_keepLeastRow 3 none 1 26 l z [.ref (z.2.2.1 h)] σ (fX7_keepLeastRow N h σ) := by
  refine Ct_of (by decide +kernel) (Nat.le_of_ble_eq_true rfl) rfl ?_
  intro x _ X E hr
  exact bX7_keepLeastRow_0 X E hr hZ N h hh σ
def fX2_seatTried (N : Nat) (h : Nat) (v1 : Int32) (σ : Mem) : Option (Int32 × Mem) :=
  if (σ.1 (h + 1) 0) ≤ v1 then some (8, σ) else some (v1, σ)
set_option maxRecDepth 100000 in
set_option maxHeartbeats 4000000 in
theorem bX2_seatTried_0 {x : Cx} {z : Sx} (X : XG x z RX2 cX2_seatTried 2 0 0) (E : XE x z) (hr : XR x (some .int)) (hZ : z.2.2.2.1 = kdC) (N : Nat) (h : Nat) (hh : z.2.2.2.1 h = (2, 0)) (v1 : Int32) (σ : Mem) : VK x z 2 (BQ QI x z) 0 [(0, .ref (z.2.2.1 h)), (1, .int v1)] [] σ (fX2_seatTried N h v1 σ) := by
  unfold fX2_seatTried
  refine V_iload_n 1 X dX2_seatTried_0 rfl rfl ?_
  refine V_aload_n 0 X dX2_seatTried_1 rfl rfl ?_
  refine V_getR (k1 := (h + 1)) 0 X dX2_seatTried_2 co2 hh (by decide) rfl rfl wfX2_12 ?_
  refine V_getI 0 X dX2_seatTried_5 co0 (kt2_0 hZ hh) (by decide) rfl wfX2_68 ?_
  refine V_icmp_ge (tgt := 15) X dX2_seatTried_8 (by decide) ?_ ?_
  · refine V_bipush (v := 8) X dX2_seatTried_15 (by decide) ?_
    exact V_iret X E hr dX2_seatTried_17
  · refine V_iload_n 1 X dX2_seatTried_11 rfl rfl ?_
    refine V_goto (tgt := 17) X dX2_seatTried_12 (by decide) ?_
    exact V_iret X E hr dX2_seatTried_17
theorem kX2_seatTried (l : Launch) (z : Sx) (hZ : z.2.2.2.1 = kdC) (N : Nat) (h : Nat) (hh : z.2.2.2.1 h = (2, 0)) (v1 : Int32) (σ : Mem) : Ct QI yX2_seatTried cX2_seatTried 2 (some .int) 0 0 l z [.ref (z.2.2.1 h), .int v1] σ (fX2_seatTried N h v1 σ) := by
  refine Ct_of (by decide +kernel) (Nat.le_of_ble_eq_true rfl) rfl ?_
  intro x _ X E hr
  exact bX2_seatTried_0 X E hr hZ N h hh v1 σ
def fX7_tryMoving_b73 (N : Nat) (h : Nat) (rc16 : Int32 → Int32 → Int32 → Int32 → Mem → Option (Unit × Mem)) (v1 : Int32) (v2 : Int32) (v3 : Int32) (v4 : Int32) (σ : Mem) : Option (Unit × Mem) :=
  lt_ (v4 + 1) (fun v4_14 => rc16 v1 v2 v3 v4_14 σ)
set_option maxRecDepth 100000 in
set_option maxHeartbeats 4000000 in
theorem bX7_tryMoving_73 {x : Cx} {z : Sx} (X : XG x z RX7 cX7_tryMoving 6 4 95) (E : XE x z) (hr : XR x none) (hZ : z.2.2.2.1 = kdC) (N : Nat) (h : Nat) (hh : z.2.2.2.1 h = (7, 0)) (rc16 : Int32 → Int32 → Int32 → Int32 → Mem → Option (Unit × Mem)) (hc16 : ∀ (v1 : Int32) (v2 : Int32) (v3 : Int32) (v4 : Int32) (σ : Mem), VK x z 6 (BQ QV x z) 16 [(0, .ref (z.2.2.1 h)), (1, .int v1), (2, .int v2), (3, .int v3), (4, .int v4)] [] σ (rc16 v1 v2 v3 v4 σ)) (v1 : Int32) (v2 : Int32) (v3 : Int32) (v4 : Int32) (σ : Mem) : VK x z 6 (BQ QV x z) 73 [(0, .ref (z.2.2.1 h)), (1, .int v1), (2, .int v2), (3, .int v3), (4, .int v4)] [] σ (fX7_tryMoving_b73 N h rc16 v1 v2 v3 v4 σ) := by
  unfold fX7_tryMoving_b73
  refine V_iincG (L' := fun v4_14 => [(4, .int v4_14), (0, .ref (z.2.2.1 h)), (1, .int v1), (2, .int v2), (3, .int v3)]) 4 X dX7_tryMoving_73 rfl rfl (by decide) (fun _ => rfl) (fun v4_14 => ?_)
  refine V_goto (tgt := 16) X dX7_tryMoving_76 (by decide) ?_
  refine V_sub [1, 2, 3, 4, 0] rfl ?_
  exact hc16 v1 v2 v3 v4_14 σ
def fX7_tryMoving_b16 (N : Nat) (h : Nat) (rc16 : Int32 → Int32 → Int32 → Int32 → Mem → Option (Unit × Mem)) (v1 : Int32) (v2 : Int32) (v3 : Int32) (v4 : Int32) (σ : Mem) : Option (Unit × Mem) :=
  if (σ.1 ((h + 2) + 1) 0) < v4 then bd (fX2_seatPerson N (h + 2) v1 v3 σ) (fun r3 s4 => some ((), s4)) else bd (fX2_seatTried N (h + 2) v4 σ) (fun r5 s6 => lt_ r5 (fun v5_7 => if v5_7 = v3 then fX7_tryMoving_b73 N h rc16 v1 v2 v3 v4 s6 else bd (fX2_seatPerson N (h + 2) v1 v5_7 s6) (fun r8 s9 => bd (fX2_vote N (h + 2) v2 s9) (fun r10 s11 => if r10 ≤ 0 then fX7_tryMoving_b73 N h rc16 v1 v2 v3 v4 s11 else bd (fX7_keepLeastRow N h s11) (fun r12 s13 => fX7_tryMoving_b73 N h rc16 v1 v2 v3 v4 s13)))))
set_option maxRecDepth 100000 in
set_option maxHeartbeats 4000000 in
theorem bX7_tryMoving_16 {x : Cx} {z : Sx} (X : XG x z RX7 cX7_tryMoving 6 4 95) (E : XE x z) (hr : XR x none) (hZ : z.2.2.2.1 = kdC) (N : Nat) (h : Nat) (hh : z.2.2.2.1 h = (7, 0)) (rc16 : Int32 → Int32 → Int32 → Int32 → Mem → Option (Unit × Mem)) (hc16 : ∀ (v1 : Int32) (v2 : Int32) (v3 : Int32) (v4 : Int32) (σ : Mem), VK x z 6 (BQ QV x z) 16 [(0, .ref (z.2.2.1 h)), (1, .int v1), (2, .int v2), (3, .int v3), (4, .int v4)] [] σ (rc16 v1 v2 v3 v4 σ)) (v1 : Int32) (v2 : Int32) (v3 : Int32) (v4 : Int32) (σ : Mem) : VK x z 6 (BQ QV x z) 16 [(0, .ref (z.2.2.1 h)), (1, .int v1), (2, .int v2), (3, .int v3), (4, .int v4)] [] σ (fX7_tryMoving_b16 N h rc16 v1 v2 v3 v4 σ) := by
  unfold fX7_tryMoving_b16
  refine V_iload 4 X dX7_tryMoving_16 rfl ?_
  refine V_aload_n 0 X dX7_tryMoving_18 rfl rfl ?_
  refine V_getR (k1 := (h + 2)) 1 X dX7_tryMoving_19 co7 hh (by decide) rfl rfl wfX7_18 ?_
  refine V_getR (k1 := ((h + 2) + 1)) 0 X dX7_tryMoving_22 co2 (kt7_1 hZ hh) (by decide) rfl rfl wfX7_49 ?_
  refine V_getI 0 X dX7_tryMoving_25 co0 (kt2_0 hZ (kt7_1 hZ hh)) (by decide) rfl wfX7_56 ?_
  refine V_icmp_gt (tgt := 79) X dX7_tryMoving_28 (by decide) ?_ ?_
  · refine V_aload_n 0 X dX7_tryMoving_79 rfl rfl ?_
    refine V_getR (k1 := (h + 2)) 1 X dX7_tryMoving_80 co7 hh (by decide) rfl rfl wfX7_18 ?_
    refine V_iload_n 1 X dX7_tryMoving_83 rfl rfl ?_
    refine V_iload_n 3 X dX7_tryMoving_84 rfl rfl ?_
    refine V_callV [.int v1, .int v3] [] X E dX7_tryMoving_85 (kX2_seatPerson x.2.1 z hZ N (h + 2) (kt7_1 hZ hh) v1 v3 σ) co2 (kt7_1 hZ hh) gcX7_62 hyX2_seatPerson rfl ⟨by decide, by decide⟩ rfl (Nat.le_of_ble_eq_true rfl) (fun r3 s4 => ?_)
    exact V_vret X E hr dX7_tryMoving_88
  · refine V_aload_n 0 X dX7_tryMoving_31 rfl rfl ?_
    refine V_getR (k1 := (h + 2)) 1 X dX7_tryMoving_32 co7 hh (by decide) rfl rfl wfX7_18 ?_
    refine V_iload 4 X dX7_tryMoving_35 rfl ?_
    refine V_callI [.int v4] [] X E dX7_tryMoving_37 (kX2_seatTried x.2.1 z hZ N (h + 2) (kt7_1 hZ hh) v4 σ) co2 (kt7_1 hZ hh) gcX7_59 hyX2_seatTried rfl ⟨by decide, by decide⟩ rfl (Nat.le_of_ble_eq_true rfl) (fun r5 s6 => ?_)
    refine V_istoreG (L' := fun v5_7 => [(5, .int v5_7), (0, .ref (z.2.2.1 h)), (1, .int v1), (2, .int v2), (3, .int v3), (4, .int v4)]) X dX7_tryMoving_40 (by decide) (fun _ => rfl) (fun v5_7 => ?_)
    refine V_iload 0 X dX7_tryMoving_42 rfl ?_
    refine V_iload_n 4 X dX7_tryMoving_44 rfl rfl ?_
    refine V_icmp_eq (tgt := 73) X dX7_tryMoving_45 (by decide) ?_ ?_
    · refine V_sub [1, 2, 3, 4, 5] rfl ?_
      exact bX7_tryMoving_73 X E hr hZ N h hh rc16 hc16 v1 v2 v3 v4 s6
    · refine V_aload_n 1 X dX7_tryMoving_48 rfl rfl ?_
      refine V_getR (k1 := (h + 2)) 1 X dX7_tryMoving_49 co7 hh (by decide) rfl rfl wfX7_18 ?_
      refine V_iload_n 2 X dX7_tryMoving_52 rfl rfl ?_
      refine V_iload 0 X dX7_tryMoving_53 rfl ?_
      refine V_callV [.int v1, .int v5_7] [] X E dX7_tryMoving_55 (kX2_seatPerson x.2.1 z hZ N (h + 2) (kt7_1 hZ hh) v1 v5_7 s6) co2 (kt7_1 hZ hh) gcX7_62 hyX2_seatPerson rfl ⟨by decide, by decide⟩ rfl (Nat.le_of_ble_eq_true rfl) (fun r8 s9 => ?_)
      refine V_aload_n 1 X dX7_tryMoving_58 rfl rfl ?_
      refine V_getR (k1 := (h + 2)) 1 X dX7_tryMoving_59 co7 hh (by decide) rfl rfl wfX7_18 ?_
      refine V_iload_n 3 X dX7_tryMoving_62 rfl rfl ?_
      refine V_callI [.int v2] [] X E dX7_tryMoving_63 (kX2_vote x.2.1 z hZ N (h + 2) (kt7_1 hZ hh) v2 s9) co2 (kt7_1 hZ hh) gcX7_30 hyX2_vote rfl ⟨by decide, by decide⟩ rfl (Nat.le_of_ble_eq_true rfl) (fun r10 s11 => ?_)
      refine V_if_le (tgt := 73) X dX7_tryMoving_66 (by decide) ?_ ?_
      · refine V_sub [1, 2, 3, 4, 5] rfl ?_
        exact bX7_tryMoving_73 X E hr hZ N h hh rc16 hc16 v1 v2 v3 v4 s11
      · refine V_aload_n 1 X dX7_tryMoving_69 rfl rfl ?_
        refine V_callV [] [] X E dX7_tryMoving_70 (kX7_keepLeastRow x.2.1 z hZ N h hh s11) co7 hh gcX7_34 hyX7_keepLeastRow rfl ⟨by decide, by decide⟩ rfl (Nat.le_of_ble_eq_true rfl) (fun r12 s13 => ?_)
        refine V_sub [1, 2, 3, 4, 5] rfl ?_
        exact bX7_tryMoving_73 X E hr hZ N h hh rc16 hc16 v1 v2 v3 v4 s13
def fX7_tryMoving_l16 (N : Nat) (h : Nat) : Nat → Int32 → Int32 → Int32 → Int32 → Mem → Option (Unit × Mem)
  | 0 => fun _ _ _ _ _ => none
  | n + 1 => fX7_tryMoving_b16 N h (fX7_tryMoving_l16 N h n)
theorem lX7_tryMoving_16 {x : Cx} {z : Sx} (X : XG x z RX7 cX7_tryMoving 6 4 95) (E : XE x z) (hr : XR x none) (hZ : z.2.2.2.1 = kdC) (N : Nat) (h : Nat) (hh : z.2.2.2.1 h = (7, 0)) (n : Nat) (v1 : Int32) (v2 : Int32) (v3 : Int32) (v4 : Int32) (σ : Mem) : VK x z 6 (BQ QV x z) 16 [(0, .ref (z.2.2.1 h)), (1, .int v1), (2, .int v2), (3, .int v3), (4, .int v4)] [] σ (fX7_tryMoving_l16 N h n v1 v2 v3 v4 σ) := by
  induction n generalizing v1 v2 v3 v4 σ with
  | zero => exact V_none
  | succ n ih => exact bX7_tryMoving_16 X E hr hZ N h hh (fX7_tryMoving_l16 N h n) ih v1 v2 v3 v4 σ
def fX7_tryMoving (N : Nat) (h : Nat) (v1 : Int32) (v2 : Int32) (σ : Mem) : Option (Unit × Mem) :=
  gd (inb v1 6) (lt_ (σ.1 (((h + 2) + 1) + 8) v1.toNatClampNeg) (fun v3_1 => lt_ 0 (fun v4_2 => fX7_tryMoving_l16 N h N v1 v2 v3_1 v4_2 σ)))
set_option maxRecDepth 100000 in
set_option maxHeartbeats 4000000 in
theorem bX7_tryMoving_0 {x : Cx} {z : Sx} (X : XG x z RX7 cX7_tryMoving 6 4 95) (E : XE x z) (hr : XR x none) (hZ : z.2.2.2.1 = kdC) (N : Nat) (h : Nat) (hh : z.2.2.2.1 h = (7, 0)) (v1 : Int32) (v2 : Int32) (σ : Mem) : VK x z 6 (BQ QV x z) 0 [(0, .ref (z.2.2.1 h)), (1, .int v1), (2, .int v2)] [] σ (fX7_tryMoving N h v1 v2 σ) := by
  unfold fX7_tryMoving
  refine V_aload_n 0 X dX7_tryMoving_0 rfl rfl ?_
  refine V_getR (k1 := (h + 2)) 1 X dX7_tryMoving_1 co7 hh (by decide) rfl rfl wfX7_18 ?_
  refine V_getR (k1 := ((h + 2) + 1)) 0 X dX7_tryMoving_4 co2 (kt7_1 hZ hh) (by decide) rfl rfl wfX7_49 ?_
  refine V_getR (k1 := (((h + 2) + 1) + 8)) 10 X dX7_tryMoving_7 co0 (kt2_0 hZ (kt7_1 hZ hh)) (by decide) rfl rfl wfX7_53 ?_
  refine V_iload_n 1 X dX7_tryMoving_10 rfl rfl ?_
  refine V_iald X dX7_tryMoving_11 (kt0_10 hZ (kt2_0 hZ (kt7_1 hZ hh))) ?_
  refine V_istore_nG (L' := fun v3_1 => [(3, .int v3_1), (0, .ref (z.2.2.1 h)), (1, .int v1), (2, .int v2)]) X dX7_tryMoving_12 rfl (by decide) (fun _ => rfl) (fun v3_1 => ?_)
  refine V_iconst (v := 0) X dX7_tryMoving_13 (by decide) ?_
  refine V_istoreG (L' := fun v4_2 => [(4, .int v4_2), (3, .int v3_1), (0, .ref (z.2.2.1 h)), (1, .int v1), (2, .int v2)]) X dX7_tryMoving_14 (by decide) (fun _ => rfl) (fun v4_2 => ?_)
  refine V_sub [2, 3, 4, 1, 0] rfl ?_
  exact lX7_tryMoving_16 X E hr hZ N h hh N v1 v2 v3_1 v4_2 σ
theorem kX7_tryMoving (l : Launch) (z : Sx) (hZ : z.2.2.2.1 = kdC) (N : Nat) (h : Nat) (hh : z.2.2.2.1 h = (7, 0)) (v1 : Int32) (v2 : Int32) (σ : Mem) : Ct QV yX7_tryMoving cX7_tryMoving 6 none 4 95 l z [.ref (z.2.2.1 h), .int v1, .int v2] σ (fX7_tryMoving N h v1 v2 σ) := by
  refine Ct_of (by decide +kernel) (Nat.le_of_ble_eq_true rfl) rfl ?_
  intro x _ X E hr
  exact bX7_tryMoving_0 X E hr hZ N h hh v1 v2 σ
def fX7_tryMovingTwo_b91 (N : Nat) (h : Nat) (rc16 : Int32 → Int32 → Int32 → Int32 → Mem → Option (Unit × Mem)) (v1 : Int32) (v2 : Int32) (v3 : Int32) (v4 : Int32) (σ : Mem) : Option (Unit × Mem) :=
  lt_ (v4 + 1) (fun v4_11 => rc16 v1 v2 v3 v4_11 σ)
set_option maxRecDepth 100000 in
set_option maxHeartbeats 4000000 in
theorem bX7_tryMovingTwo_91 {x : Cx} {z : Sx} (X : XG x z RX7 cX7_tryMovingTwo 7 5 120) (E : XE x z) (hr : XR x none) (hZ : z.2.2.2.1 = kdC) (N : Nat) (h : Nat) (hh : z.2.2.2.1 h = (7, 0)) (rc16 : Int32 → Int32 → Int32 → Int32 → Mem → Option (Unit × Mem)) (hc16 : ∀ (v1 : Int32) (v2 : Int32) (v3 : Int32) (v4 : Int32) (σ : Mem), VK x z 7 (BQ QV x z) 16 [(0, .ref (z.2.2.1 h)), (1, .int v1), (2, .int v2), (3, .int v3), (4, .int v4)] [] σ (rc16 v1 v2 v3 v4 σ)) (v1 : Int32) (v2 : Int32) (v3 : Int32) (v4 : Int32) (σ : Mem) : VK x z 7 (BQ QV x z) 91 [(0, .ref (z.2.2.1 h)), (1, .int v1), (2, .int v2), (3, .int v3), (4, .int v4)] [] σ (fX7_tryMovingTwo_b91 N h rc16 v1 v2 v3 v4 σ) := by
  unfold fX7_tryMovingTwo_b91
  refine V_iincG (L' := fun v4_11 => [(4, .int v4_11), (0, .ref (z.2.2.1 h)), (1, .int v1), (2, .int v2), (3, .int v3)]) 4 X dX7_tryMovingTwo_91 rfl rfl (by decide) (fun _ => rfl) (fun v4_11 => ?_)
  refine V_goto (tgt := 16) X dX7_tryMovingTwo_94 (by decide) ?_
  refine V_sub [1, 2, 3, 4, 0] rfl ?_
  exact hc16 v1 v2 v3 v4_11 σ
def fX7_tryMovingTwo_b63 (N : Nat) (h : Nat) (rc16 : Int32 → Int32 → Int32 → Int32 → Mem → Option (Unit × Mem)) (rc63 : Int32 → Int32 → Int32 → Int32 → Int32 → Mem → Option (Unit × Mem)) (v1 : Int32) (v2 : Int32) (v3 : Int32) (v4 : Int32) (v6 : Int32) (σ : Mem) : Option (Unit × Mem) :=
  if (σ.1 ((h + 2) + 1) 1) ≤ v6 then fX7_tryMovingTwo_b91 N h rc16 v1 v2 v3 v4 σ else bd (fX7_tryMoving N h v6 v2 σ) (fun r12 s13 => lt_ (v6 + 1) (fun v6_14 => rc63 v1 v2 v3 v4 v6_14 s13))
set_option maxRecDepth 100000 in
set_option maxHeartbeats 4000000 in
theorem bX7_tryMovingTwo_63 {x : Cx} {z : Sx} (X : XG x z RX7 cX7_tryMovingTwo 7 5 120) (E : XE x z) (hr : XR x none) (hZ : z.2.2.2.1 = kdC) (N : Nat) (h : Nat) (hh : z.2.2.2.1 h = (7, 0)) (rc16 : Int32 → Int32 → Int32 → Int32 → Mem → Option (Unit × Mem)) (hc16 : ∀ (v1 : Int32) (v2 : Int32) (v3 : Int32) (v4 : Int32) (σ : Mem), VK x z 7 (BQ QV x z) 16 [(0, .ref (z.2.2.1 h)), (1, .int v1), (2, .int v2), (3, .int v3), (4, .int v4)] [] σ (rc16 v1 v2 v3 v4 σ)) (rc63 : Int32 → Int32 → Int32 → Int32 → Int32 → Mem → Option (Unit × Mem)) (hc63 : ∀ (v1 : Int32) (v2 : Int32) (v3 : Int32) (v4 : Int32) (v6 : Int32) (σ : Mem), VK x z 7 (BQ QV x z) 63 [(0, .ref (z.2.2.1 h)), (1, .int v1), (2, .int v2), (3, .int v3), (4, .int v4), (6, .int v6)] [] σ (rc63 v1 v2 v3 v4 v6 σ)) (v1 : Int32) (v2 : Int32) (v3 : Int32) (v4 : Int32) (v6 : Int32) (σ : Mem) : VK x z 7 (BQ QV x z) 63 [(0, .ref (z.2.2.1 h)), (1, .int v1), (2, .int v2), (3, .int v3), (4, .int v4), (6, .int v6)] [] σ (fX7_tryMovingTwo_b63 N h rc16 rc63 v1 v2 v3 v4 v6 σ) := by
  unfold fX7_tryMovingTwo_b63
  refine V_iload 5 X dX7_tryMovingTwo_63 rfl ?_
  refine V_aload_n 0 X dX7_tryMovingTwo_65 rfl rfl ?_
  refine V_getR (k1 := (h + 2)) 1 X dX7_tryMovingTwo_66 co7 hh (by decide) rfl rfl wfX7_18 ?_
  refine V_getR (k1 := ((h + 2) + 1)) 0 X dX7_tryMovingTwo_69 co2 (kt7_1 hZ hh) (by decide) rfl rfl wfX7_49 ?_
  refine V_getI 1 X dX7_tryMovingTwo_72 co0 (kt2_0 hZ (kt7_1 hZ hh)) (by decide) rfl wfX7_37 ?_
  refine V_icmp_ge (tgt := 91) X dX7_tryMovingTwo_75 (by decide) ?_ ?_
  · refine V_sub [0, 1, 2, 3, 4] rfl ?_
    exact bX7_tryMovingTwo_91 X E hr hZ N h hh rc16 hc16 v1 v2 v3 v4 σ
  · refine V_aload_n 0 X dX7_tryMovingTwo_78 rfl rfl ?_
    refine V_iload 5 X dX7_tryMovingTwo_79 rfl ?_
    refine V_iload_n 2 X dX7_tryMovingTwo_81 rfl rfl ?_
    refine V_callV [.int v6, .int v2] [] X E dX7_tryMovingTwo_82 (kX7_tryMoving x.2.1 z hZ N h hh v6 v2 σ) co7 hh gcX7_42 hyX7_tryMoving rfl ⟨by decide, by decide⟩ rfl (Nat.le_of_ble_eq_true rfl) (fun r12 s13 => ?_)
    refine V_iincG (L' := fun v6_14 => [(6, .int v6_14), (0, .ref (z.2.2.1 h)), (1, .int v1), (2, .int v2), (3, .int v3), (4, .int v4)]) 5 X dX7_tryMovingTwo_85 rfl rfl (by decide) (fun _ => rfl) (fun v6_14 => ?_)
    refine V_goto (tgt := 63) X dX7_tryMovingTwo_88 (by decide) ?_
    refine V_sub [1, 2, 3, 4, 5, 0] rfl ?_
    exact hc63 v1 v2 v3 v4 v6_14 s13
def fX7_tryMovingTwo_l63 (N : Nat) (h : Nat) (rc16 : Int32 → Int32 → Int32 → Int32 → Mem → Option (Unit × Mem)) : Nat → Int32 → Int32 → Int32 → Int32 → Int32 → Mem → Option (Unit × Mem)
  | 0 => fun _ _ _ _ _ _ => none
  | n + 1 => fX7_tryMovingTwo_b63 N h rc16 (fX7_tryMovingTwo_l63 N h rc16 n)
theorem lX7_tryMovingTwo_63 {x : Cx} {z : Sx} (X : XG x z RX7 cX7_tryMovingTwo 7 5 120) (E : XE x z) (hr : XR x none) (hZ : z.2.2.2.1 = kdC) (N : Nat) (h : Nat) (hh : z.2.2.2.1 h = (7, 0)) (rc16 : Int32 → Int32 → Int32 → Int32 → Mem → Option (Unit × Mem)) (hc16 : ∀ (v1 : Int32) (v2 : Int32) (v3 : Int32) (v4 : Int32) (σ : Mem), VK x z 7 (BQ QV x z) 16 [(0, .ref (z.2.2.1 h)), (1, .int v1), (2, .int v2), (3, .int v3), (4, .int v4)] [] σ (rc16 v1 v2 v3 v4 σ)) (n : Nat) (v1 : Int32) (v2 : Int32) (v3 : Int32) (v4 : Int32) (v6 : Int32) (σ : Mem) : VK x z 7 (BQ QV x z) 63 [(0, .ref (z.2.2.1 h)), (1, .int v1), (2, .int v2), (3, .int v3), (4, .int v4), (6, .int v6)] [] σ (fX7_tryMovingTwo_l63 N h rc16 n v1 v2 v3 v4 v6 σ) := by
  induction n generalizing v1 v2 v3 v4 v6 σ with
  | zero => exact V_none
  | succ n ih => exact bX7_tryMovingTwo_63 X E hr hZ N h hh rc16 hc16 (fX7_tryMovingTwo_l63 N h rc16 n) ih v1 v2 v3 v4 v6 σ
def fX7_tryMovingTwo_b16 (N : Nat) (h : Nat) (rc16 : Int32 → Int32 → Int32 → Int32 → Mem → Option (Unit × Mem)) (v1 : Int32) (v2 : Int32) (v3 : Int32) (v4 : Int32) (σ : Mem) : Option (Unit × Mem) :=
  if (σ.1 ((h + 2) + 1) 0) < v4 then bd (fX2_seatPerson N (h + 2) v1 v3 σ) (fun r3 s4 => some ((), s4)) else bd (fX2_seatTried N (h + 2) v4 σ) (fun r5 s6 => lt_ r5 (fun v5_7 => if v5_7 = v3 then fX7_tryMovingTwo_b91 N h rc16 v1 v2 v3 v4 s6 else bd (fX2_seatPerson N (h + 2) v1 v5_7 s6) (fun r8 s9 => lt_ (v1 + 1) (fun v6_10 => fX7_tryMovingTwo_l63 N h rc16 N v1 v2 v3 v4 v6_10 s9))))
set_option maxRecDepth 100000 in
set_option maxHeartbeats 4000000 in
theorem bX7_tryMovingTwo_16 {x : Cx} {z : Sx} (X : XG x z RX7 cX7_tryMovingTwo 7 5 120) (E : XE x z) (hr : XR x none) (hZ : z.2.2.2.1 = kdC) (N : Nat) (h : Nat) (hh : z.2.2.2.1 h = (7, 0)) (rc16 : Int32 → Int32 → Int32 → Int32 → Mem → Option (Unit × Mem)) (hc16 : ∀ (v1 : Int32) (v2 : Int32) (v3 : Int32) (v4 : Int32) (σ : Mem), VK x z 7 (BQ QV x z) 16 [(0, .ref (z.2.2.1 h)), (1, .int v1), (2, .int v2), (3, .int v3), (4, .int v4)] [] σ (rc16 v1 v2 v3 v4 σ)) (v1 : Int32) (v2 : Int32) (v3 : Int32) (v4 : Int32) (σ : Mem) : VK x z 7 (BQ QV x z) 16 [(0, .ref (z.2.2.1 h)), (1, .int v1), (2, .int v2), (3, .int v3), (4, .int v4)] [] σ (fX7_tryMovingTwo_b16 N h rc16 v1 v2 v3 v4 σ) := by
  unfold fX7_tryMovingTwo_b16
  refine V_iload 4 X dX7_tryMovingTwo_16 rfl ?_
  refine V_aload_n 0 X dX7_tryMovingTwo_18 rfl rfl ?_
  refine V_getR (k1 := (h + 2)) 1 X dX7_tryMovingTwo_19 co7 hh (by decide) rfl rfl wfX7_18 ?_
  refine V_getR (k1 := ((h + 2) + 1)) 0 X dX7_tryMovingTwo_22 co2 (kt7_1 hZ hh) (by decide) rfl rfl wfX7_49 ?_
  refine V_getI 0 X dX7_tryMovingTwo_25 co0 (kt2_0 hZ (kt7_1 hZ hh)) (by decide) rfl wfX7_56 ?_
  refine V_icmp_gt (tgt := 97) X dX7_tryMovingTwo_28 (by decide) ?_ ?_
  · refine V_aload_n 0 X dX7_tryMovingTwo_97 rfl rfl ?_
    refine V_getR (k1 := (h + 2)) 1 X dX7_tryMovingTwo_98 co7 hh (by decide) rfl rfl wfX7_18 ?_
    refine V_iload_n 1 X dX7_tryMovingTwo_101 rfl rfl ?_
    refine V_iload_n 3 X dX7_tryMovingTwo_102 rfl rfl ?_
    refine V_callV [.int v1, .int v3] [] X E dX7_tryMovingTwo_103 (kX2_seatPerson x.2.1 z hZ N (h + 2) (kt7_1 hZ hh) v1 v3 σ) co2 (kt7_1 hZ hh) gcX7_62 hyX2_seatPerson rfl ⟨by decide, by decide⟩ rfl (Nat.le_of_ble_eq_true rfl) (fun r3 s4 => ?_)
    exact V_vret X E hr dX7_tryMovingTwo_106
  · refine V_aload_n 0 X dX7_tryMovingTwo_31 rfl rfl ?_
    refine V_getR (k1 := (h + 2)) 1 X dX7_tryMovingTwo_32 co7 hh (by decide) rfl rfl wfX7_18 ?_
    refine V_iload 4 X dX7_tryMovingTwo_35 rfl ?_
    refine V_callI [.int v4] [] X E dX7_tryMovingTwo_37 (kX2_seatTried x.2.1 z hZ N (h + 2) (kt7_1 hZ hh) v4 σ) co2 (kt7_1 hZ hh) gcX7_59 hyX2_seatTried rfl ⟨by decide, by decide⟩ rfl (Nat.le_of_ble_eq_true rfl) (fun r5 s6 => ?_)
    refine V_istoreG (L' := fun v5_7 => [(5, .int v5_7), (0, .ref (z.2.2.1 h)), (1, .int v1), (2, .int v2), (3, .int v3), (4, .int v4)]) X dX7_tryMovingTwo_40 (by decide) (fun _ => rfl) (fun v5_7 => ?_)
    refine V_iload 0 X dX7_tryMovingTwo_42 rfl ?_
    refine V_iload_n 4 X dX7_tryMovingTwo_44 rfl rfl ?_
    refine V_icmp_eq (tgt := 91) X dX7_tryMovingTwo_45 (by decide) ?_ ?_
    · refine V_sub [1, 2, 3, 4, 5] rfl ?_
      exact bX7_tryMovingTwo_91 X E hr hZ N h hh rc16 hc16 v1 v2 v3 v4 s6
    · refine V_aload_n 1 X dX7_tryMovingTwo_48 rfl rfl ?_
      refine V_getR (k1 := (h + 2)) 1 X dX7_tryMovingTwo_49 co7 hh (by decide) rfl rfl wfX7_18 ?_
      refine V_iload_n 2 X dX7_tryMovingTwo_52 rfl rfl ?_
      refine V_iload 0 X dX7_tryMovingTwo_53 rfl ?_
      refine V_callV [.int v1, .int v5_7] [] X E dX7_tryMovingTwo_55 (kX2_seatPerson x.2.1 z hZ N (h + 2) (kt7_1 hZ hh) v1 v5_7 s6) co2 (kt7_1 hZ hh) gcX7_62 hyX2_seatPerson rfl ⟨by decide, by decide⟩ rfl (Nat.le_of_ble_eq_true rfl) (fun r8 s9 => ?_)
      refine V_iload_n 2 X dX7_tryMovingTwo_58 rfl rfl ?_
      refine V_iconst (v := 1) X dX7_tryMovingTwo_59 (by decide) ?_
      refine V_iadd X dX7_tryMovingTwo_60 ?_
      refine V_istoreG (L' := fun v6_10 => [(6, .int v6_10), (5, .int v5_7), (0, .ref (z.2.2.1 h)), (1, .int v1), (2, .int v2), (3, .int v3), (4, .int v4)]) X dX7_tryMovingTwo_61 (by decide) (fun _ => rfl) (fun v6_10 => ?_)
      refine V_sub [2, 3, 4, 5, 6, 0] rfl ?_
      exact lX7_tryMovingTwo_63 X E hr hZ N h hh rc16 hc16 N v1 v2 v3 v4 v6_10 s9
def fX7_tryMovingTwo_l16 (N : Nat) (h : Nat) : Nat → Int32 → Int32 → Int32 → Int32 → Mem → Option (Unit × Mem)
  | 0 => fun _ _ _ _ _ => none
  | n + 1 => fX7_tryMovingTwo_b16 N h (fX7_tryMovingTwo_l16 N h n)
theorem lX7_tryMovingTwo_16 {x : Cx} {z : Sx} (X : XG x z RX7 cX7_tryMovingTwo 7 5 120) (E : XE x z) (hr : XR x none) (hZ : z.2.2.2.1 = kdC) (N : Nat) (h : Nat) (hh : z.2.2.2.1 h = (7, 0)) (n : Nat) (v1 : Int32) (v2 : Int32) (v3 : Int32) (v4 : Int32) (σ : Mem) : VK x z 7 (BQ QV x z) 16 [(0, .ref (z.2.2.1 h)), (1, .int v1), (2, .int v2), (3, .int v3), (4, .int v4)] [] σ (fX7_tryMovingTwo_l16 N h n v1 v2 v3 v4 σ) := by
  induction n generalizing v1 v2 v3 v4 σ with
  | zero => exact V_none
  | succ n ih => exact bX7_tryMovingTwo_16 X E hr hZ N h hh (fX7_tryMovingTwo_l16 N h n) ih v1 v2 v3 v4 σ
def fX7_tryMovingTwo (N : Nat) (h : Nat) (v1 : Int32) (v2 : Int32) (σ : Mem) : Option (Unit × Mem) :=
  gd (inb v1 6) (lt_ (σ.1 (((h + 2) + 1) + 8) v1.toNatClampNeg) (fun v3_1 => lt_ 0 (fun v4_2 => fX7_tryMovingTwo_l16 N h N v1 v2 v3_1 v4_2 σ)))
set_option maxRecDepth 100000 in
set_option maxHeartbeats 4000000 in
theorem bX7_tryMovingTwo_0 {x : Cx} {z : Sx} (X : XG x z RX7 cX7_tryMovingTwo 7 5 120) (E : XE x z) (hr : XR x none) (hZ : z.2.2.2.1 = kdC) (N : Nat) (h : Nat) (hh : z.2.2.2.1 h = (7, 0)) (v1 : Int32) (v2 : Int32) (σ : Mem) : VK x z 7 (BQ QV x z) 0 [(0, .ref (z.2.2.1 h)), (1, .int v1), (2, .int v2)] [] σ (fX7_tryMovingTwo N h v1 v2 σ) := by
  unfold fX7_tryMovingTwo
  refine V_aload_n 0 X dX7_tryMovingTwo_0 rfl rfl ?_
  refine V_getR (k1 := (h + 2)) 1 X dX7_tryMovingTwo_1 co7 hh (by decide) rfl rfl wfX7_18 ?_
  refine V_getR (k1 := ((h + 2) + 1)) 0 X dX7_tryMovingTwo_4 co2 (kt7_1 hZ hh) (by decide) rfl rfl wfX7_49 ?_
  refine V_getR (k1 := (((h + 2) + 1) + 8)) 10 X dX7_tryMovingTwo_7 co0 (kt2_0 hZ (kt7_1 hZ hh)) (by decide) rfl rfl wfX7_53 ?_
  refine V_iload_n 1 X dX7_tryMovingTwo_10 rfl rfl ?_
  refine V_iald X dX7_tryMovingTwo_11 (kt0_10 hZ (kt2_0 hZ (kt7_1 hZ hh))) ?_
  refine V_istore_nG (L' := fun v3_1 => [(3, .int v3_1), (0, .ref (z.2.2.1 h)), (1, .int v1), (2, .int v2)]) X dX7_tryMovingTwo_12 rfl (by decide) (fun _ => rfl) (fun v3_1 => ?_)
  refine V_iconst (v := 0) X dX7_tryMovingTwo_13 (by decide) ?_
  refine V_istoreG (L' := fun v4_2 => [(4, .int v4_2), (3, .int v3_1), (0, .ref (z.2.2.1 h)), (1, .int v1), (2, .int v2)]) X dX7_tryMovingTwo_14 (by decide) (fun _ => rfl) (fun v4_2 => ?_)
  refine V_sub [2, 3, 4, 1, 0] rfl ?_
  exact lX7_tryMovingTwo_16 X E hr hZ N h hh N v1 v2 v3_1 v4_2 σ
theorem kX7_tryMovingTwo (l : Launch) (z : Sx) (hZ : z.2.2.2.1 = kdC) (N : Nat) (h : Nat) (hh : z.2.2.2.1 h = (7, 0)) (v1 : Int32) (v2 : Int32) (σ : Mem) : Ct QV yX7_tryMovingTwo cX7_tryMovingTwo 7 none 5 120 l z [.ref (z.2.2.1 h), .int v1, .int v2] σ (fX7_tryMovingTwo N h v1 v2 σ) := by
  refine Ct_of (by decide +kernel) (Nat.le_of_ble_eq_true rfl) rfl ?_
  intro x _ X E hr
  exact bX7_tryMovingTwo_0 X E hr hZ N h hh v1 v2 σ
def fX7_fewestMoves_b64 (N : Nat) (h : Nat) (rc64 : Nat → Int32 → Int32 → Mem → Option (Int32 × Mem)) (v1 : Nat) (v2 : Int32) (v3 : Int32) (σ : Mem) : Option (Int32 × Mem) :=
  if (σ.1 v1 1) ≤ v3 then if (σ.1 h 2) = (-1) then some ((-1), σ) else some (2, σ) else bd (fX7_tryMovingTwo N h v3 v2 σ) (fun r13 s14 => lt_ (v3 + 1) (fun v3_15 => rc64 v1 v2 v3_15 s14))
set_option maxRecDepth 100000 in
set_option maxHeartbeats 4000000 in
theorem bX7_fewestMoves_64 {x : Cx} {z : Sx} (X : XG x z RX7 cX7_fewestMoves 4 6 146) (E : XE x z) (hr : XR x (some .int)) (hZ : z.2.2.2.1 = kdC) (N : Nat) (h : Nat) (hh : z.2.2.2.1 h = (7, 0)) (rc64 : Nat → Int32 → Int32 → Mem → Option (Int32 × Mem)) (hc64 : ∀ (v1 : Nat) (v2 : Int32) (v3 : Int32) (hk1 : z.2.2.2.1 v1 = (0, 0)) (σ : Mem), VK x z 4 (BQ QI x z) 64 [(0, .ref (z.2.2.1 h)), (1, .ref (z.2.2.1 v1)), (2, .int v2), (3, .int v3)] [] σ (rc64 v1 v2 v3 σ)) (v1 : Nat) (v2 : Int32) (v3 : Int32) (hk1 : z.2.2.2.1 v1 = (0, 0)) (σ : Mem) : VK x z 4 (BQ QI x z) 64 [(0, .ref (z.2.2.1 h)), (1, .ref (z.2.2.1 v1)), (2, .int v2), (3, .int v3)] [] σ (fX7_fewestMoves_b64 N h rc64 v1 v2 v3 σ) := by
  unfold fX7_fewestMoves_b64
  refine V_iload_n 3 X dX7_fewestMoves_64 rfl rfl ?_
  refine V_aload_n 1 X dX7_fewestMoves_65 rfl rfl ?_
  refine V_getI 1 X dX7_fewestMoves_66 co0 hk1 (by decide) rfl wfX7_37 ?_
  refine V_icmp_ge (tgt := 84) X dX7_fewestMoves_69 (by decide) ?_ ?_
  · refine V_aload_n 0 X dX7_fewestMoves_84 rfl rfl ?_
    refine V_getI 2 X dX7_fewestMoves_85 co7 hh (by decide) rfl wfX7_26 ?_
    refine V_iconst (v := -1) X dX7_fewestMoves_88 (by decide) ?_
    refine V_icmp_ne (tgt := 96) X dX7_fewestMoves_89 (by decide) ?_ ?_
    · refine V_iconst (v := 2) X dX7_fewestMoves_96 (by decide) ?_
      exact V_iret X E hr dX7_fewestMoves_97
    · refine V_iconst (v := -1) X dX7_fewestMoves_92 (by decide) ?_
      refine V_goto (tgt := 97) X dX7_fewestMoves_93 (by decide) ?_
      exact V_iret X E hr dX7_fewestMoves_97
  · refine V_aload_n 0 X dX7_fewestMoves_72 rfl rfl ?_
    refine V_iload_n 3 X dX7_fewestMoves_73 rfl rfl ?_
    refine V_iload_n 2 X dX7_fewestMoves_74 rfl rfl ?_
    refine V_callV [.int v3, .int v2] [] X E dX7_fewestMoves_75 (kX7_tryMovingTwo x.2.1 z hZ N h hh v3 v2 σ) co7 hh gcX7_46 hyX7_tryMovingTwo rfl ⟨by decide, by decide⟩ rfl (Nat.le_of_ble_eq_true rfl) (fun r13 s14 => ?_)
    refine V_iincG (L' := fun v3_15 => [(3, .int v3_15), (0, .ref (z.2.2.1 h)), (1, .ref (z.2.2.1 v1)), (2, .int v2)]) 3 X dX7_fewestMoves_78 rfl rfl (by decide) (fun _ => rfl) (fun v3_15 => ?_)
    refine V_goto (tgt := 64) X dX7_fewestMoves_81 (by decide) ?_
    refine V_sub [1, 2, 3, 0] rfl ?_
    exact hc64 v1 v2 v3_15 hk1 s14
def fX7_fewestMoves_l64 (N : Nat) (h : Nat) : Nat → Nat → Int32 → Int32 → Mem → Option (Int32 × Mem)
  | 0 => fun _ _ _ _ => none
  | n + 1 => fX7_fewestMoves_b64 N h (fX7_fewestMoves_l64 N h n)
theorem lX7_fewestMoves_64 {x : Cx} {z : Sx} (X : XG x z RX7 cX7_fewestMoves 4 6 146) (E : XE x z) (hr : XR x (some .int)) (hZ : z.2.2.2.1 = kdC) (N : Nat) (h : Nat) (hh : z.2.2.2.1 h = (7, 0)) (n : Nat) (v1 : Nat) (v2 : Int32) (v3 : Int32) (hk1 : z.2.2.2.1 v1 = (0, 0)) (σ : Mem) : VK x z 4 (BQ QI x z) 64 [(0, .ref (z.2.2.1 h)), (1, .ref (z.2.2.1 v1)), (2, .int v2), (3, .int v3)] [] σ (fX7_fewestMoves_l64 N h n v1 v2 v3 σ) := by
  induction n generalizing v1 v2 v3 hk1 σ with
  | zero => exact V_none
  | succ n ih => exact bX7_fewestMoves_64 X E hr hZ N h hh (fX7_fewestMoves_l64 N h n) ih v1 v2 v3 hk1 σ
def fX7_fewestMoves_b32 (N : Nat) (h : Nat) (rc32 : Nat → Int32 → Int32 → Mem → Option (Int32 × Mem)) (v1 : Nat) (v2 : Int32) (v3 : Int32) (σ : Mem) : Option (Int32 × Mem) :=
  if (σ.1 v1 1) ≤ v3 then if (σ.1 h 2) = (-1) then lt_ 0 (fun v3_9 => fX7_fewestMoves_l64 N h N v1 v2 v3_9 σ) else some (1, σ) else bd (fX7_tryMoving N h v3 v2 σ) (fun r10 s11 => lt_ (v3 + 1) (fun v3_12 => rc32 v1 v2 v3_12 s11))
set_option maxRecDepth 100000 in
set_option maxHeartbeats 4000000 in
theorem bX7_fewestMoves_32 {x : Cx} {z : Sx} (X : XG x z RX7 cX7_fewestMoves 4 6 146) (E : XE x z) (hr : XR x (some .int)) (hZ : z.2.2.2.1 = kdC) (N : Nat) (h : Nat) (hh : z.2.2.2.1 h = (7, 0)) (rc32 : Nat → Int32 → Int32 → Mem → Option (Int32 × Mem)) (hc32 : ∀ (v1 : Nat) (v2 : Int32) (v3 : Int32) (hk1 : z.2.2.2.1 v1 = (0, 0)) (σ : Mem), VK x z 4 (BQ QI x z) 32 [(0, .ref (z.2.2.1 h)), (1, .ref (z.2.2.1 v1)), (2, .int v2), (3, .int v3)] [] σ (rc32 v1 v2 v3 σ)) (v1 : Nat) (v2 : Int32) (v3 : Int32) (hk1 : z.2.2.2.1 v1 = (0, 0)) (σ : Mem) : VK x z 4 (BQ QI x z) 32 [(0, .ref (z.2.2.1 h)), (1, .ref (z.2.2.1 v1)), (2, .int v2), (3, .int v3)] [] σ (fX7_fewestMoves_b32 N h rc32 v1 v2 v3 σ) := by
  unfold fX7_fewestMoves_b32
  refine V_iload_n 3 X dX7_fewestMoves_32 rfl rfl ?_
  refine V_aload_n 1 X dX7_fewestMoves_33 rfl rfl ?_
  refine V_getI 1 X dX7_fewestMoves_34 co0 hk1 (by decide) rfl wfX7_37 ?_
  refine V_icmp_ge (tgt := 52) X dX7_fewestMoves_37 (by decide) ?_ ?_
  · refine V_aload_n 0 X dX7_fewestMoves_52 rfl rfl ?_
    refine V_getI 2 X dX7_fewestMoves_53 co7 hh (by decide) rfl wfX7_26 ?_
    refine V_iconst (v := -1) X dX7_fewestMoves_56 (by decide) ?_
    refine V_icmp_eq (tgt := 62) X dX7_fewestMoves_57 (by decide) ?_ ?_
    · refine V_iconst (v := 0) X dX7_fewestMoves_62 (by decide) ?_
      refine V_istore_nG (L' := fun v3_9 => [(3, .int v3_9), (0, .ref (z.2.2.1 h)), (1, .ref (z.2.2.1 v1)), (2, .int v2)]) X dX7_fewestMoves_63 rfl (by decide) (fun _ => rfl) (fun v3_9 => ?_)
      refine V_sub [1, 2, 3, 0] rfl ?_
      exact lX7_fewestMoves_64 X E hr hZ N h hh N v1 v2 v3_9 hk1 σ
    · refine V_iconst (v := 1) X dX7_fewestMoves_60 (by decide) ?_
      exact V_iret X E hr dX7_fewestMoves_61
  · refine V_aload_n 0 X dX7_fewestMoves_40 rfl rfl ?_
    refine V_iload_n 3 X dX7_fewestMoves_41 rfl rfl ?_
    refine V_iload_n 2 X dX7_fewestMoves_42 rfl rfl ?_
    refine V_callV [.int v3, .int v2] [] X E dX7_fewestMoves_43 (kX7_tryMoving x.2.1 z hZ N h hh v3 v2 σ) co7 hh gcX7_42 hyX7_tryMoving rfl ⟨by decide, by decide⟩ rfl (Nat.le_of_ble_eq_true rfl) (fun r10 s11 => ?_)
    refine V_iincG (L' := fun v3_12 => [(3, .int v3_12), (0, .ref (z.2.2.1 h)), (1, .ref (z.2.2.1 v1)), (2, .int v2)]) 3 X dX7_fewestMoves_46 rfl rfl (by decide) (fun _ => rfl) (fun v3_12 => ?_)
    refine V_goto (tgt := 32) X dX7_fewestMoves_49 (by decide) ?_
    refine V_sub [1, 2, 3, 0] rfl ?_
    exact hc32 v1 v2 v3_12 hk1 s11
def fX7_fewestMoves_l32 (N : Nat) (h : Nat) : Nat → Nat → Int32 → Int32 → Mem → Option (Int32 × Mem)
  | 0 => fun _ _ _ _ => none
  | n + 1 => fX7_fewestMoves_b32 N h (fX7_fewestMoves_l32 N h n)
theorem lX7_fewestMoves_32 {x : Cx} {z : Sx} (X : XG x z RX7 cX7_fewestMoves 4 6 146) (E : XE x z) (hr : XR x (some .int)) (hZ : z.2.2.2.1 = kdC) (N : Nat) (h : Nat) (hh : z.2.2.2.1 h = (7, 0)) (n : Nat) (v1 : Nat) (v2 : Int32) (v3 : Int32) (hk1 : z.2.2.2.1 v1 = (0, 0)) (σ : Mem) : VK x z 4 (BQ QI x z) 32 [(0, .ref (z.2.2.1 h)), (1, .ref (z.2.2.1 v1)), (2, .int v2), (3, .int v3)] [] σ (fX7_fewestMoves_l32 N h n v1 v2 v3 σ) := by
  induction n generalizing v1 v2 v3 hk1 σ with
  | zero => exact V_none
  | succ n ih => exact bX7_fewestMoves_32 X E hr hZ N h hh (fX7_fewestMoves_l32 N h n) ih v1 v2 v3 hk1 σ
def fX7_fewestMoves (N : Nat) (h : Nat) (v1 : Nat) (v2 : Int32) (σ : Mem) : Option (Int32 × Mem) :=
  bd (fX2_enter N (h + 2) v1 σ) (fun r1 s2 => lt_ (pI s2 h 2 (-1)) (fun s3 => bd (fX2_vote N (h + 2) v2 s3) (fun r4 s5 => if r4 ≤ 0 then lt_ 0 (fun v3_6 => fX7_fewestMoves_l32 N h N v1 v2 v3_6 s5) else bd (fX7_keepLeastRow N h s5) (fun r7 s8 => some (0, s8)))))
set_option maxRecDepth 100000 in
set_option maxHeartbeats 4000000 in
theorem bX7_fewestMoves_0 {x : Cx} {z : Sx} (X : XG x z RX7 cX7_fewestMoves 4 6 146) (E : XE x z) (hr : XR x (some .int)) (hZ : z.2.2.2.1 = kdC) (N : Nat) (h : Nat) (hh : z.2.2.2.1 h = (7, 0)) (v1 : Nat) (v2 : Int32) (hk1 : z.2.2.2.1 v1 = (0, 0)) (σ : Mem) : VK x z 4 (BQ QI x z) 0 [(0, .ref (z.2.2.1 h)), (1, .ref (z.2.2.1 v1)), (2, .int v2)] [] σ (fX7_fewestMoves N h v1 v2 σ) := by
  unfold fX7_fewestMoves
  refine V_aload_n 0 X dX7_fewestMoves_0 rfl rfl ?_
  refine V_getR (k1 := (h + 2)) 1 X dX7_fewestMoves_1 co7 hh (by decide) rfl rfl wfX7_18 ?_
  refine V_aload_n 1 X dX7_fewestMoves_4 rfl rfl ?_
  refine V_callV [.ref (z.2.2.1 v1)] [] X E dX7_fewestMoves_5 (kX2_enter x.2.1 z hZ N (h + 2) (kt7_1 hZ hh) v1 hk1 σ) co2 (kt7_1 hZ hh) gcX7_22 hyX2_enter rfl ⟨by decide, by decide⟩ rfl (Nat.le_of_ble_eq_true rfl) (fun r1 s2 => ?_)
  refine V_aload_n 0 X dX7_fewestMoves_8 rfl rfl ?_
  refine V_iconst (v := -1) X dX7_fewestMoves_9 (by decide) ?_
  refine V_putIG 2 X dX7_fewestMoves_10 co7 hh (by decide) rfl wfX7_26 rfl rfl rfl (fun s3 => ?_)
  refine V_aload_n 0 X dX7_fewestMoves_13 rfl rfl ?_
  refine V_getR (k1 := (h + 2)) 1 X dX7_fewestMoves_14 co7 hh (by decide) rfl rfl wfX7_18 ?_
  refine V_iload_n 2 X dX7_fewestMoves_17 rfl rfl ?_
  refine V_callI [.int v2] [] X E dX7_fewestMoves_18 (kX2_vote x.2.1 z hZ N (h + 2) (kt7_1 hZ hh) v2 s3) co2 (kt7_1 hZ hh) gcX7_30 hyX2_vote rfl ⟨by decide, by decide⟩ rfl (Nat.le_of_ble_eq_true rfl) (fun r4 s5 => ?_)
  refine V_if_le (tgt := 30) X dX7_fewestMoves_21 (by decide) ?_ ?_
  · refine V_iconst (v := 0) X dX7_fewestMoves_30 (by decide) ?_
    refine V_istore_nG (L' := fun v3_6 => [(3, .int v3_6), (0, .ref (z.2.2.1 h)), (1, .ref (z.2.2.1 v1)), (2, .int v2)]) X dX7_fewestMoves_31 rfl (by decide) (fun _ => rfl) (fun v3_6 => ?_)
    refine V_sub [1, 2, 3, 0] rfl ?_
    exact lX7_fewestMoves_32 X E hr hZ N h hh N v1 v2 v3_6 hk1 s5
  · refine V_aload_n 0 X dX7_fewestMoves_24 rfl rfl ?_
    refine V_callV [] [] X E dX7_fewestMoves_25 (kX7_keepLeastRow x.2.1 z hZ N h hh s5) co7 hh gcX7_34 hyX7_keepLeastRow rfl ⟨by decide, by decide⟩ rfl (Nat.le_of_ble_eq_true rfl) (fun r7 s8 => ?_)
    refine V_iconst (v := 0) X dX7_fewestMoves_28 (by decide) ?_
    exact V_iret X E hr dX7_fewestMoves_29
theorem kX7_fewestMoves (l : Launch) (z : Sx) (hZ : z.2.2.2.1 = kdC) (N : Nat) (h : Nat) (hh : z.2.2.2.1 h = (7, 0)) (v1 : Nat) (v2 : Int32) (hk1 : z.2.2.2.1 v1 = (0, 0)) (σ : Mem) : Ct QI yX7_fewestMoves cX7_fewestMoves 4 (some .int) 6 146 l z [.ref (z.2.2.1 h), .ref (z.2.2.1 v1), .int v2] σ (fX7_fewestMoves N h v1 v2 σ) := by
  refine Ct_of (by decide +kernel) (Nat.le_of_ble_eq_true rfl) rfl ?_
  intro x _ X E hr
  exact bX7_fewestMoves_0 X E hr hZ N h hh v1 v2 hk1 σ
def fX11_moves (N : Nat) (h : Nat) (v1 : Int32) (v2 : Int32) (v3 : Int32) (σ : Mem) : Option (Int32 × Mem) :=
  bd (fX11_asked N h v1 v2 σ) (fun or1 s2 => mqK (0, 0) or1 (some ((-1), s2)) (fun r1 => if v3 < (-1) then some ((-1), s2) else if v3 < (s2.1 r1 1) then bd (fX7_fewestMoves N (h + 236) r1 v2 s2) (fun r4 s5 => lt_ r4 (fun v5_6 => if v5_6 = (-1) then some (v5_6, s5) else if v3 = (-1) then some (v5_6, s5) else gd (inb v3 6) (some ((s5.1 ((h + 236) + 1) v3.toNatClampNeg), s5)))) else some ((-1), s2)))
set_option maxRecDepth 100000 in
set_option maxHeartbeats 4000000 in
theorem bX11_moves_0 {x : Cx} {z : Sx} (X : XG x z RX11 cX11_moves 6 7 169) (E : XE x z) (hr : XR x (some .int)) (hZ : z.2.2.2.1 = kdC) (N : Nat) (h : Nat) (hh : z.2.2.2.1 h = (11, 0)) (v1 : Int32) (v2 : Int32) (v3 : Int32) (σ : Mem) : VK x z 6 (BQ QI x z) 0 [(0, .ref (z.2.2.1 h)), (1, .int v1), (2, .int v2), (3, .int v3)] [] σ (fX11_moves N h v1 v2 v3 σ) := by
  unfold fX11_moves
  refine V_aload_n 0 X dX11_moves_0 rfl rfl ?_
  refine V_iload_n 1 X dX11_moves_1 rfl rfl ?_
  refine V_iload_n 2 X dX11_moves_2 rfl rfl ?_
  refine V_callQC (K := (0, 0)) [.int v1, .int v2] [] X E hZ dX11_moves_3 (kX11_asked x.2.1 z hZ N h hh v1 v2 σ) co11 hh gcX11_115 hyX11_asked rfl ⟨by decide, by decide⟩ rfl (Nat.le_of_ble_eq_true rfl) (fun s2 => ?_) (fun r1 s2 hb3 => ?_)
  · refine V_astoreN (L' := [(4, .null), (0, .ref (z.2.2.1 h)), (1, .int v1), (2, .int v2), (3, .int v3)]) X dX11_moves_6 (by decide) rfl ?_
    refine V_aloadN 0 X dX11_moves_8 rfl ?_
    refine V_ifnullN (tgt := 27) X dX11_moves_10 (by decide) ?_
    refine V_iconst (v := -1) X dX11_moves_27 (by decide) ?_
    exact V_iret X E hr dX11_moves_28
  · refine V_astore (L' := [(4, .ref (z.2.2.1 r1)), (0, .ref (z.2.2.1 h)), (1, .int v1), (2, .int v2), (3, .int v3)]) X dX11_moves_6 (by decide) rfl ?_
    refine V_aload 0 X dX11_moves_8 rfl ?_
    refine V_ifnull X dX11_moves_10 ?_
    refine V_iload_n 4 X dX11_moves_13 rfl rfl ?_
    refine V_iconst (v := -1) X dX11_moves_14 (by decide) ?_
    refine V_icmp_lt (tgt := 27) X dX11_moves_15 (by decide) ?_ ?_
    · refine V_iconst (v := -1) X dX11_moves_27 (by decide) ?_
      exact V_iret X E hr dX11_moves_28
    · refine V_iload_n 4 X dX11_moves_18 rfl rfl ?_
      refine V_aload 0 X dX11_moves_19 rfl ?_
      refine V_getI 1 X dX11_moves_21 co0 hb3 (by decide) rfl wfX11_166 ?_
      refine V_icmp_lt (tgt := 29) X dX11_moves_24 (by decide) ?_ ?_
      · refine V_aload_n 1 X dX11_moves_29 rfl rfl ?_
        refine V_getR (k1 := (h + 236)) 7 X dX11_moves_30 co11 hh (by decide) rfl rfl wfX11_55 ?_
        refine V_aload 0 X dX11_moves_33 rfl ?_
        refine V_iload_n 3 X dX11_moves_35 rfl rfl ?_
        refine V_callI [.ref (z.2.2.1 r1), .int v2] [] X E dX11_moves_36 (kX7_fewestMoves x.2.1 z hZ N (h + 236) (kt11_7 hZ hh) r1 v2 hb3 s2) co7 (kt11_7 hZ hh) gcX11_169 hyX7_fewestMoves rfl ⟨by decide, by decide⟩ rfl (Nat.le_of_ble_eq_true rfl) (fun r4 s5 => ?_)
        refine V_istoreG (L' := fun v5_6 => [(5, .int v5_6), (4, .ref (z.2.2.1 r1)), (0, .ref (z.2.2.1 h)), (1, .int v1), (2, .int v2), (3, .int v3)]) X dX11_moves_39 (by decide) (fun _ => rfl) (fun v5_6 => ?_)
        refine V_iload 0 X dX11_moves_41 rfl ?_
        refine V_iconst (v := -1) X dX11_moves_43 (by decide) ?_
        refine V_icmp_eq (tgt := 52) X dX11_moves_44 (by decide) ?_ ?_
        · refine V_iload 0 X dX11_moves_52 rfl ?_
          exact V_iret X E hr dX11_moves_54
        · refine V_iload_n 5 X dX11_moves_47 rfl rfl ?_
          refine V_iconst (v := -1) X dX11_moves_48 (by decide) ?_
          refine V_icmp_ne (tgt := 55) X dX11_moves_49 (by decide) ?_ ?_
          · refine V_aload_n 2 X dX11_moves_55 rfl rfl ?_
            refine V_getR (k1 := (h + 236)) 7 X dX11_moves_56 co11 hh (by decide) rfl rfl wfX11_55 ?_
            refine V_getR (k1 := ((h + 236) + 1)) 0 X dX11_moves_59 co7 (kt11_7 hZ hh) (by decide) rfl rfl wfX11_173 ?_
            refine V_iload_n 5 X dX11_moves_62 rfl rfl ?_
            refine V_iald X dX11_moves_63 (kt7_0 hZ (kt11_7 hZ hh)) ?_
            exact V_iret X E hr dX11_moves_64
          · refine V_iload 0 X dX11_moves_52 rfl ?_
            exact V_iret X E hr dX11_moves_54
      · refine V_iconst (v := -1) X dX11_moves_27 (by decide) ?_
        exact V_iret X E hr dX11_moves_28
theorem kX11_moves (l : Launch) (z : Sx) (hZ : z.2.2.2.1 = kdC) (N : Nat) (h : Nat) (hh : z.2.2.2.1 h = (11, 0)) (v1 : Int32) (v2 : Int32) (v3 : Int32) (σ : Mem) : Ct QI yX11_moves cX11_moves 6 (some .int) 7 169 l z [.ref (z.2.2.1 h), .int v1, .int v2, .int v3] σ (fX11_moves N h v1 v2 v3 σ) := by
  refine Ct_of (by decide +kernel) (Nat.le_of_ble_eq_true rfl) rfl ?_
  intro x _ X E hr
  exact bX11_moves_0 X E hr hZ N h hh v1 v2 v3 σ
def fX10_nightsToTurn_b58 (N : Nat) (h : Nat) (rc28 : Int32 → Int32 → Int32 → Mem → Option (Int32 × Mem)) (v2 : Int32) (v3 : Int32) (v4 : Int32) (t0 : Int32) (σ : Mem) : Option (Int32 × Mem) :=
  if t0 = v3 then lt_ (v4 + 1) (fun v4_11 => rc28 v2 v3 v4_11 σ) else some (v4, σ)
set_option maxRecDepth 100000 in
set_option maxHeartbeats 4000000 in
theorem bX10_nightsToTurn_58 {x : Cx} {z : Sx} (X : XG x z RX10 cX10_nightsToTurn 5 4 95) (E : XE x z) (hr : XR x (some .int)) (hZ : z.2.2.2.1 = kdC) (N : Nat) (h : Nat) (hh : z.2.2.2.1 h = (10, 0)) (rc28 : Int32 → Int32 → Int32 → Mem → Option (Int32 × Mem)) (hc28 : ∀ (v2 : Int32) (v3 : Int32) (v4 : Int32) (σ : Mem), VK x z 5 (BQ QI x z) 28 [(0, .ref (z.2.2.1 h)), (2, .int v2), (3, .int v3), (4, .int v4)] [] σ (rc28 v2 v3 v4 σ)) (v2 : Int32) (v3 : Int32) (v4 : Int32) (t0 : Int32) (σ : Mem) : VK x z 5 (BQ QI x z) 58 [(0, .ref (z.2.2.1 h)), (2, .int v2), (3, .int v3), (4, .int v4)] [.int t0] σ (fX10_nightsToTurn_b58 N h rc28 v2 v3 v4 t0 σ) := by
  unfold fX10_nightsToTurn_b58
  refine V_iload_n 2 X dX10_nightsToTurn_58 rfl rfl ?_
  refine V_icmp_eq (tgt := 65) X dX10_nightsToTurn_59 (by decide) ?_ ?_
  · refine V_iincG (L' := fun v4_11 => [(4, .int v4_11), (0, .ref (z.2.2.1 h)), (2, .int v2), (3, .int v3)]) 3 X dX10_nightsToTurn_65 rfl rfl (by decide) (fun _ => rfl) (fun v4_11 => ?_)
    refine V_goto (tgt := 28) X dX10_nightsToTurn_68 (by decide) ?_
    refine V_sub [1, 2, 3, 0] rfl ?_
    exact hc28 v2 v3 v4_11 σ
  · refine V_iload 3 X dX10_nightsToTurn_62 rfl ?_
    exact V_iret X E hr dX10_nightsToTurn_64
def fX10_nightsToTurn_b28 (N : Nat) (h : Nat) (rc28 : Int32 → Int32 → Int32 → Mem → Option (Int32 × Mem)) (v2 : Int32) (v3 : Int32) (v4 : Int32) (σ : Mem) : Option (Int32 × Mem) :=
  if 40 < v4 then some ((-1), σ) else bd (fX2_passNight N (h + 1) σ) (fun r7 s8 => bd (fX2_vote N (h + 1) v2 s8) (fun r9 s10 => if r9 ≤ 0 then fX10_nightsToTurn_b58 N h rc28 v2 v3 v4 0 s10 else fX10_nightsToTurn_b58 N h rc28 v2 v3 v4 1 s10))
set_option maxRecDepth 100000 in
set_option maxHeartbeats 4000000 in
theorem bX10_nightsToTurn_28 {x : Cx} {z : Sx} (X : XG x z RX10 cX10_nightsToTurn 5 4 95) (E : XE x z) (hr : XR x (some .int)) (hZ : z.2.2.2.1 = kdC) (N : Nat) (h : Nat) (hh : z.2.2.2.1 h = (10, 0)) (rc28 : Int32 → Int32 → Int32 → Mem → Option (Int32 × Mem)) (hc28 : ∀ (v2 : Int32) (v3 : Int32) (v4 : Int32) (σ : Mem), VK x z 5 (BQ QI x z) 28 [(0, .ref (z.2.2.1 h)), (2, .int v2), (3, .int v3), (4, .int v4)] [] σ (rc28 v2 v3 v4 σ)) (v2 : Int32) (v3 : Int32) (v4 : Int32) (σ : Mem) : VK x z 5 (BQ QI x z) 28 [(0, .ref (z.2.2.1 h)), (2, .int v2), (3, .int v3), (4, .int v4)] [] σ (fX10_nightsToTurn_b28 N h rc28 v2 v3 v4 σ) := by
  unfold fX10_nightsToTurn_b28
  refine V_iload 3 X dX10_nightsToTurn_28 rfl ?_
  refine V_bipush (v := 40) X dX10_nightsToTurn_30 (by decide) ?_
  refine V_icmp_gt (tgt := 71) X dX10_nightsToTurn_32 (by decide) ?_ ?_
  · refine V_iconst (v := -1) X dX10_nightsToTurn_71 (by decide) ?_
    exact V_iret X E hr dX10_nightsToTurn_72
  · refine V_aload_n 0 X dX10_nightsToTurn_35 rfl rfl ?_
    refine V_getR (k1 := (h + 1)) 0 X dX10_nightsToTurn_36 co10 hh (by decide) rfl rfl wfX10_12 ?_
    refine V_callV [] [] X E dX10_nightsToTurn_39 (kX2_passNight x.2.1 z hZ N (h + 1) (kt10_0 hZ hh) σ) co2 (kt10_0 hZ hh) gcX10_98 hyX2_passNight rfl ⟨by decide, by decide⟩ rfl (Nat.le_of_ble_eq_true rfl) (fun r7 s8 => ?_)
    refine V_aload_n 0 X dX10_nightsToTurn_42 rfl rfl ?_
    refine V_getR (k1 := (h + 1)) 0 X dX10_nightsToTurn_43 co10 hh (by decide) rfl rfl wfX10_12 ?_
    refine V_iload_n 1 X dX10_nightsToTurn_46 rfl rfl ?_
    refine V_callI [.int v2] [] X E dX10_nightsToTurn_47 (kX2_vote x.2.1 z hZ N (h + 1) (kt10_0 hZ hh) v2 s8) co2 (kt10_0 hZ hh) gcX10_29 hyX2_vote rfl ⟨by decide, by decide⟩ rfl (Nat.le_of_ble_eq_true rfl) (fun r9 s10 => ?_)
    refine V_if_le (tgt := 57) X dX10_nightsToTurn_50 (by decide) ?_ ?_
    · refine V_iconst (v := 0) X dX10_nightsToTurn_57 (by decide) ?_
      refine V_sub [0, 1, 2, 3] rfl ?_
      exact bX10_nightsToTurn_58 X E hr hZ N h hh rc28 hc28 v2 v3 v4 0 s10
    · refine V_iconst (v := 1) X dX10_nightsToTurn_53 (by decide) ?_
      refine V_goto (tgt := 58) X dX10_nightsToTurn_54 (by decide) ?_
      refine V_sub [0, 1, 2, 3] rfl ?_
      exact bX10_nightsToTurn_58 X E hr hZ N h hh rc28 hc28 v2 v3 v4 1 s10
def fX10_nightsToTurn_l28 (N : Nat) (h : Nat) : Nat → Int32 → Int32 → Int32 → Mem → Option (Int32 × Mem)
  | 0 => fun _ _ _ _ => none
  | n + 1 => fX10_nightsToTurn_b28 N h (fX10_nightsToTurn_l28 N h n)
theorem lX10_nightsToTurn_28 {x : Cx} {z : Sx} (X : XG x z RX10 cX10_nightsToTurn 5 4 95) (E : XE x z) (hr : XR x (some .int)) (hZ : z.2.2.2.1 = kdC) (N : Nat) (h : Nat) (hh : z.2.2.2.1 h = (10, 0)) (n : Nat) (v2 : Int32) (v3 : Int32) (v4 : Int32) (σ : Mem) : VK x z 5 (BQ QI x z) 28 [(0, .ref (z.2.2.1 h)), (2, .int v2), (3, .int v3), (4, .int v4)] [] σ (fX10_nightsToTurn_l28 N h n v2 v3 v4 σ) := by
  induction n generalizing v2 v3 v4 σ with
  | zero => exact V_none
  | succ n ih => exact bX10_nightsToTurn_28 X E hr hZ N h hh (fX10_nightsToTurn_l28 N h n) ih v2 v3 v4 σ
def fX10_nightsToTurn_b24 (N : Nat) (h : Nat) (v2 : Int32) (t0 : Int32) (σ : Mem) : Option (Int32 × Mem) :=
  lt_ t0 (fun v3_5 => lt_ 1 (fun v4_6 => fX10_nightsToTurn_l28 N h N v2 v3_5 v4_6 σ))
set_option maxRecDepth 100000 in
set_option maxHeartbeats 4000000 in
theorem bX10_nightsToTurn_24 {x : Cx} {z : Sx} (X : XG x z RX10 cX10_nightsToTurn 5 4 95) (E : XE x z) (hr : XR x (some .int)) (hZ : z.2.2.2.1 = kdC) (N : Nat) (h : Nat) (hh : z.2.2.2.1 h = (10, 0)) (v2 : Int32) (t0 : Int32) (σ : Mem) : VK x z 5 (BQ QI x z) 24 [(0, .ref (z.2.2.1 h)), (2, .int v2)] [.int t0] σ (fX10_nightsToTurn_b24 N h v2 t0 σ) := by
  unfold fX10_nightsToTurn_b24
  refine V_istore_nG (L' := fun v3_5 => [(3, .int v3_5), (0, .ref (z.2.2.1 h)), (2, .int v2)]) X dX10_nightsToTurn_24 rfl (by decide) (fun _ => rfl) (fun v3_5 => ?_)
  refine V_iconst (v := 1) X dX10_nightsToTurn_25 (by decide) ?_
  refine V_istoreG (L' := fun v4_6 => [(4, .int v4_6), (3, .int v3_5), (0, .ref (z.2.2.1 h)), (2, .int v2)]) X dX10_nightsToTurn_26 (by decide) (fun _ => rfl) (fun v4_6 => ?_)
  refine V_sub [2, 3, 1, 0] rfl ?_
  exact lX10_nightsToTurn_28 X E hr hZ N h hh N v2 v3_5 v4_6 σ
def fX10_nightsToTurn (N : Nat) (h : Nat) (v1 : Nat) (v2 : Int32) (σ : Mem) : Option (Int32 × Mem) :=
  bd (fX2_enter N (h + 1) v1 σ) (fun r1 s2 => bd (fX2_vote N (h + 1) v2 s2) (fun r3 s4 => if r3 ≤ 0 then fX10_nightsToTurn_b24 N h v2 0 s4 else fX10_nightsToTurn_b24 N h v2 1 s4))
set_option maxRecDepth 100000 in
set_option maxHeartbeats 4000000 in
theorem bX10_nightsToTurn_0 {x : Cx} {z : Sx} (X : XG x z RX10 cX10_nightsToTurn 5 4 95) (E : XE x z) (hr : XR x (some .int)) (hZ : z.2.2.2.1 = kdC) (N : Nat) (h : Nat) (hh : z.2.2.2.1 h = (10, 0)) (v1 : Nat) (v2 : Int32) (hk1 : z.2.2.2.1 v1 = (0, 0)) (σ : Mem) : VK x z 5 (BQ QI x z) 0 [(0, .ref (z.2.2.1 h)), (1, .ref (z.2.2.1 v1)), (2, .int v2)] [] σ (fX10_nightsToTurn N h v1 v2 σ) := by
  unfold fX10_nightsToTurn
  refine V_aload_n 0 X dX10_nightsToTurn_0 rfl rfl ?_
  refine V_getR (k1 := (h + 1)) 0 X dX10_nightsToTurn_1 co10 hh (by decide) rfl rfl wfX10_12 ?_
  refine V_aload_n 1 X dX10_nightsToTurn_4 rfl rfl ?_
  refine V_callV [.ref (z.2.2.1 v1)] [] X E dX10_nightsToTurn_5 (kX2_enter x.2.1 z hZ N (h + 1) (kt10_0 hZ hh) v1 hk1 σ) co2 (kt10_0 hZ hh) gcX10_25 hyX2_enter rfl ⟨by decide, by decide⟩ rfl (Nat.le_of_ble_eq_true rfl) (fun r1 s2 => ?_)
  refine V_aload_n 0 X dX10_nightsToTurn_8 rfl rfl ?_
  refine V_getR (k1 := (h + 1)) 0 X dX10_nightsToTurn_9 co10 hh (by decide) rfl rfl wfX10_12 ?_
  refine V_iload_n 2 X dX10_nightsToTurn_12 rfl rfl ?_
  refine V_callI [.int v2] [] X E dX10_nightsToTurn_13 (kX2_vote x.2.1 z hZ N (h + 1) (kt10_0 hZ hh) v2 s2) co2 (kt10_0 hZ hh) gcX10_29 hyX2_vote rfl ⟨by decide, by decide⟩ rfl (Nat.le_of_ble_eq_true rfl) (fun r3 s4 => ?_)
  refine V_if_le (tgt := 23) X dX10_nightsToTurn_16 (by decide) ?_ ?_
  · refine V_iconst (v := 0) X dX10_nightsToTurn_23 (by decide) ?_
    refine V_sub [0, 2] rfl ?_
    exact bX10_nightsToTurn_24 X E hr hZ N h hh v2 0 s4
  · refine V_iconst (v := 1) X dX10_nightsToTurn_19 (by decide) ?_
    refine V_goto (tgt := 24) X dX10_nightsToTurn_20 (by decide) ?_
    refine V_sub [0, 2] rfl ?_
    exact bX10_nightsToTurn_24 X E hr hZ N h hh v2 1 s4
theorem kX10_nightsToTurn (l : Launch) (z : Sx) (hZ : z.2.2.2.1 = kdC) (N : Nat) (h : Nat) (hh : z.2.2.2.1 h = (10, 0)) (v1 : Nat) (v2 : Int32) (hk1 : z.2.2.2.1 v1 = (0, 0)) (σ : Mem) : Ct QI yX10_nightsToTurn cX10_nightsToTurn 5 (some .int) 4 95 l z [.ref (z.2.2.1 h), .ref (z.2.2.1 v1), .int v2] σ (fX10_nightsToTurn N h v1 v2 σ) := by
  refine Ct_of (by decide +kernel) (Nat.le_of_ble_eq_true rfl) rfl ?_
  intro x _ X E hr
  exact bX10_nightsToTurn_0 X E hr hZ N h hh v1 v2 hk1 σ
def fX11_turn (N : Nat) (h : Nat) (v1 : Int32) (v2 : Int32) (σ : Mem) : Option (Int32 × Mem) :=
  bd (fX11_asked N h v1 v2 σ) (fun or1 s2 => mqK (0, 0) or1 (some ((-1), s2)) (fun r1 => bd (fX10_nightsToTurn N (h + 220) r1 v2 s2) (fun r4 s5 => some (r4, s5))))
set_option maxRecDepth 100000 in
set_option maxHeartbeats 4000000 in
theorem bX11_turn_0 {x : Cx} {z : Sx} (X : XG x z RX11 cX11_turn 4 5 119) (E : XE x z) (hr : XR x (some .int)) (hZ : z.2.2.2.1 = kdC) (N : Nat) (h : Nat) (hh : z.2.2.2.1 h = (11, 0)) (v1 : Int32) (v2 : Int32) (σ : Mem) : VK x z 4 (BQ QI x z) 0 [(0, .ref (z.2.2.1 h)), (1, .int v1), (2, .int v2)] [] σ (fX11_turn N h v1 v2 σ) := by
  unfold fX11_turn
  refine V_aload_n 0 X dX11_turn_0 rfl rfl ?_
  refine V_iload_n 1 X dX11_turn_1 rfl rfl ?_
  refine V_iload_n 2 X dX11_turn_2 rfl rfl ?_
  refine V_callQC (K := (0, 0)) [.int v1, .int v2] [] X E hZ dX11_turn_3 (kX11_asked x.2.1 z hZ N h hh v1 v2 σ) co11 hh gcX11_115 hyX11_asked rfl ⟨by decide, by decide⟩ rfl (Nat.le_of_ble_eq_true rfl) (fun s2 => ?_) (fun r1 s2 hb3 => ?_)
  · refine V_astore_nN (L' := [(3, .null), (0, .ref (z.2.2.1 h)), (1, .int v1), (2, .int v2)]) X dX11_turn_6 rfl (by decide) rfl ?_
    refine V_aload_nN 0 X dX11_turn_7 rfl rfl ?_
    refine V_ifnonnullN X dX11_turn_8 ?_
    refine V_iconst (v := -1) X dX11_turn_11 (by decide) ?_
    refine V_goto (tgt := 24) X dX11_turn_12 (by decide) ?_
    exact V_iret X E hr dX11_turn_24
  · refine V_astore_n (L' := [(3, .ref (z.2.2.1 r1)), (0, .ref (z.2.2.1 h)), (1, .int v1), (2, .int v2)]) X dX11_turn_6 rfl (by decide) rfl ?_
    refine V_aload_n 0 X dX11_turn_7 rfl rfl ?_
    refine V_ifnonnull (tgt := 15) X dX11_turn_8 (by decide) ?_
    refine V_aload_n 1 X dX11_turn_15 rfl rfl ?_
    refine V_getR (k1 := (h + 220)) 6 X dX11_turn_16 co11 hh (by decide) rfl rfl wfX11_48 ?_
    refine V_aload_n 0 X dX11_turn_19 rfl rfl ?_
    refine V_iload_n 3 X dX11_turn_20 rfl rfl ?_
    refine V_callI [.ref (z.2.2.1 r1), .int v2] [] X E dX11_turn_21 (kX10_nightsToTurn x.2.1 z hZ N (h + 220) (kt11_6 hZ hh) r1 v2 hb3 s2) co10 (kt11_6 hZ hh) gcX11_181 hyX10_nightsToTurn rfl ⟨by decide, by decide⟩ rfl (Nat.le_of_ble_eq_true rfl) (fun r4 s5 => ?_)
    exact V_iret X E hr dX11_turn_24
theorem kX11_turn (l : Launch) (z : Sx) (hZ : z.2.2.2.1 = kdC) (N : Nat) (h : Nat) (hh : z.2.2.2.1 h = (11, 0)) (v1 : Int32) (v2 : Int32) (σ : Mem) : Ct QI yX11_turn cX11_turn 4 (some .int) 5 119 l z [.ref (z.2.2.1 h), .int v1, .int v2] σ (fX11_turn N h v1 v2 σ) := by
  refine Ct_of (by decide +kernel) (Nat.le_of_ble_eq_true rfl) rfl ?_
  intro x _ X E hr
  exact bX11_turn_0 X E hr hZ N h hh v1 v2 σ
def fX10_nearestOf_b48 (N : Nat) (rc9 : Int64 → Int32 → Int32 → Int32 → Int32 → Mem → Option (Int32 × Mem)) (v0 : Int64) (v2 : Int32) (v3 : Int32) (v4 : Int32) (v5 : Int32) (σ : Mem) : Option (Int32 × Mem) :=
  lt_ (v5 + 1) (fun v5_11 => rc9 v0 v2 v3 v4 v5_11 σ)
set_option maxRecDepth 100000 in
set_option maxHeartbeats 4000000 in
theorem bX10_nearestOf_48 {x : Cx} {z : Sx} (X : XG x z RX10 cX10_nearestOf 7 1 22) (E : XE x z) (hr : XR x (some .int)) (hZ : z.2.2.2.1 = kdC) (N : Nat) (rc9 : Int64 → Int32 → Int32 → Int32 → Int32 → Mem → Option (Int32 × Mem)) (hc9 : ∀ (v0 : Int64) (v2 : Int32) (v3 : Int32) (v4 : Int32) (v5 : Int32) (σ : Mem), VK x z 7 (BQ QI x z) 9 [(0, .long v0), (2, .int v2), (3, .int v3), (4, .int v4), (5, .int v5)] [] σ (rc9 v0 v2 v3 v4 v5 σ)) (v0 : Int64) (v2 : Int32) (v3 : Int32) (v4 : Int32) (v5 : Int32) (σ : Mem) : VK x z 7 (BQ QI x z) 48 [(0, .long v0), (2, .int v2), (3, .int v3), (4, .int v4), (5, .int v5)] [] σ (fX10_nearestOf_b48 N rc9 v0 v2 v3 v4 v5 σ) := by
  unfold fX10_nearestOf_b48
  refine V_iincG (L' := fun v5_11 => [(5, .int v5_11), (0, .long v0), (2, .int v2), (3, .int v3), (4, .int v4)]) 4 X dX10_nearestOf_48 rfl rfl (by decide) (fun _ => rfl) (fun v5_11 => ?_)
  refine V_goto (tgt := 9) X dX10_nearestOf_51 (by decide) ?_
  refine V_sub [1, 2, 3, 4, 0] rfl ?_
  exact hc9 v0 v2 v3 v4 v5_11 σ
def fX10_nearestOf_b9 (N : Nat) (rc9 : Int64 → Int32 → Int32 → Int32 → Int32 → Mem → Option (Int32 × Mem)) (v0 : Int64) (v2 : Int32) (v3 : Int32) (v4 : Int32) (v5 : Int32) (σ : Mem) : Option (Int32 × Mem) :=
  if 64 ≤ v5 then some (v3, σ) else bd (fJ6_bitCount_0f7a4 N (v5 ^^^ v2) σ) (fun r4 s5 => lt_ r4 (fun v6_6 => if v4 ≤ v6_6 then fX10_nearestOf_b48 N rc9 v0 v2 v3 v4 v5 s5 else bd (fX10_isIn N v0 v5 s5) (fun r7 s8 => if r7 = 0 then fX10_nearestOf_b48 N rc9 v0 v2 v3 v4 v5 s8 else lt_ v6_6 (fun v4_9 => lt_ v5 (fun v3_10 => fX10_nearestOf_b48 N rc9 v0 v2 v3_10 v4_9 v5 s8)))))
set_option maxRecDepth 100000 in
set_option maxHeartbeats 4000000 in
theorem bX10_nearestOf_9 {x : Cx} {z : Sx} (X : XG x z RX10 cX10_nearestOf 7 1 22) (E : XE x z) (hr : XR x (some .int)) (hZ : z.2.2.2.1 = kdC) (N : Nat) (rc9 : Int64 → Int32 → Int32 → Int32 → Int32 → Mem → Option (Int32 × Mem)) (hc9 : ∀ (v0 : Int64) (v2 : Int32) (v3 : Int32) (v4 : Int32) (v5 : Int32) (σ : Mem), VK x z 7 (BQ QI x z) 9 [(0, .long v0), (2, .int v2), (3, .int v3), (4, .int v4), (5, .int v5)] [] σ (rc9 v0 v2 v3 v4 v5 σ)) (v0 : Int64) (v2 : Int32) (v3 : Int32) (v4 : Int32) (v5 : Int32) (σ : Mem) : VK x z 7 (BQ QI x z) 9 [(0, .long v0), (2, .int v2), (3, .int v3), (4, .int v4), (5, .int v5)] [] σ (fX10_nearestOf_b9 N rc9 v0 v2 v3 v4 v5 σ) := by
  unfold fX10_nearestOf_b9
  refine V_iload 4 X dX10_nearestOf_9 rfl ?_
  refine V_bipush (v := 64) X dX10_nearestOf_11 (by decide) ?_
  refine V_icmp_ge (tgt := 54) X dX10_nearestOf_13 (by decide) ?_ ?_
  · refine V_iload_n 2 X dX10_nearestOf_54 rfl rfl ?_
    exact V_iret X E hr dX10_nearestOf_55
  · refine V_iload 4 X dX10_nearestOf_16 rfl ?_
    refine V_iload_n 1 X dX10_nearestOf_18 rfl rfl ?_
    refine V_ixor X dX10_nearestOf_19 ?_
    refine V_calSI [.int (v5 ^^^ v2)] [] X E dX10_nearestOf_20 (kJ6_bitCount_0f7a4 x.2.1 z hZ N (v5 ^^^ v2) σ) gcX10_60 hyJ6_bitCount_0f7a4 rfl ⟨by decide, by decide⟩ rfl (Nat.le_of_ble_eq_true rfl) (fun r4 s5 => ?_)
    refine V_istoreG (L' := fun v6_6 => [(6, .int v6_6), (0, .long v0), (2, .int v2), (3, .int v3), (4, .int v4), (5, .int v5)]) X dX10_nearestOf_23 (by decide) (fun _ => rfl) (fun v6_6 => ?_)
    refine V_iload 0 X dX10_nearestOf_25 rfl ?_
    refine V_iload 4 X dX10_nearestOf_27 rfl ?_
    refine V_icmp_ge (tgt := 48) X dX10_nearestOf_29 (by decide) ?_ ?_
    · refine V_sub [1, 2, 3, 4, 5] rfl ?_
      exact bX10_nearestOf_48 X E hr hZ N rc9 hc9 v0 v2 v3 v4 v5 s5
    · refine V_lload_n 1 X dX10_nearestOf_32 rfl rfl ?_
      refine V_iload 5 X dX10_nearestOf_33 rfl ?_
      refine V_calSI [.long v0, .int v5] [] X E dX10_nearestOf_35 (kX10_isIn x.2.1 z hZ N v0 v5 s5) gcX10_56 hyX10_isIn rfl ⟨by decide, by decide⟩ rfl (Nat.le_of_ble_eq_true rfl) (fun r7 s8 => ?_)
      refine V_if_eq (tgt := 48) X dX10_nearestOf_38 (by decide) ?_ ?_
      · refine V_sub [1, 2, 3, 4, 5] rfl ?_
        exact bX10_nearestOf_48 X E hr hZ N rc9 hc9 v0 v2 v3 v4 v5 s8
      · refine V_iload 0 X dX10_nearestOf_41 rfl ?_
        refine V_istoreG (L' := fun v4_9 => [(4, .int v4_9), (6, .int v6_6), (0, .long v0), (2, .int v2), (3, .int v3), (5, .int v5)]) X dX10_nearestOf_43 (by decide) (fun _ => rfl) (fun v4_9 => ?_)
        refine V_iload 5 X dX10_nearestOf_45 rfl ?_
        refine V_istore_nG (L' := fun v3_10 => [(3, .int v3_10), (4, .int v4_9), (6, .int v6_6), (0, .long v0), (2, .int v2), (5, .int v5)]) X dX10_nearestOf_47 rfl (by decide) (fun _ => rfl) (fun v3_10 => ?_)
        refine V_sub [3, 4, 0, 1, 5] rfl ?_
        exact bX10_nearestOf_48 X E hr hZ N rc9 hc9 v0 v2 v3_10 v4_9 v5 s8
def fX10_nearestOf_l9 (N : Nat) : Nat → Int64 → Int32 → Int32 → Int32 → Int32 → Mem → Option (Int32 × Mem)
  | 0 => fun _ _ _ _ _ _ => none
  | n + 1 => fX10_nearestOf_b9 N (fX10_nearestOf_l9 N n)
theorem lX10_nearestOf_9 {x : Cx} {z : Sx} (X : XG x z RX10 cX10_nearestOf 7 1 22) (E : XE x z) (hr : XR x (some .int)) (hZ : z.2.2.2.1 = kdC) (N : Nat) (n : Nat) (v0 : Int64) (v2 : Int32) (v3 : Int32) (v4 : Int32) (v5 : Int32) (σ : Mem) : VK x z 7 (BQ QI x z) 9 [(0, .long v0), (2, .int v2), (3, .int v3), (4, .int v4), (5, .int v5)] [] σ (fX10_nearestOf_l9 N n v0 v2 v3 v4 v5 σ) := by
  induction n generalizing v0 v2 v3 v4 v5 σ with
  | zero => exact V_none
  | succ n ih => exact bX10_nearestOf_9 X E hr hZ N (fX10_nearestOf_l9 N n) ih v0 v2 v3 v4 v5 σ
def fX10_nearestOf (N : Nat) (v0 : Int64) (v2 : Int32) (σ : Mem) : Option (Int32 × Mem) :=
  lt_ (-1) (fun v3_1 => lt_ 7 (fun v4_2 => lt_ 0 (fun v5_3 => fX10_nearestOf_l9 N N v0 v2 v3_1 v4_2 v5_3 σ)))
set_option maxRecDepth 100000 in
set_option maxHeartbeats 4000000 in
theorem bX10_nearestOf_0 {x : Cx} {z : Sx} (X : XG x z RX10 cX10_nearestOf 7 1 22) (E : XE x z) (hr : XR x (some .int)) (hZ : z.2.2.2.1 = kdC) (N : Nat) (v0 : Int64) (v2 : Int32) (σ : Mem) : VK x z 7 (BQ QI x z) 0 [(0, .long v0), (2, .int v2)] [] σ (fX10_nearestOf N v0 v2 σ) := by
  unfold fX10_nearestOf
  refine V_iconst (v := -1) X dX10_nearestOf_0 (by decide) ?_
  refine V_istore_nG (L' := fun v3_1 => [(3, .int v3_1), (0, .long v0), (2, .int v2)]) X dX10_nearestOf_1 rfl (by decide) (fun _ => rfl) (fun v3_1 => ?_)
  refine V_bipush (v := 7) X dX10_nearestOf_2 (by decide) ?_
  refine V_istoreG (L' := fun v4_2 => [(4, .int v4_2), (3, .int v3_1), (0, .long v0), (2, .int v2)]) X dX10_nearestOf_4 (by decide) (fun _ => rfl) (fun v4_2 => ?_)
  refine V_iconst (v := 0) X dX10_nearestOf_6 (by decide) ?_
  refine V_istoreG (L' := fun v5_3 => [(5, .int v5_3), (4, .int v4_2), (3, .int v3_1), (0, .long v0), (2, .int v2)]) X dX10_nearestOf_7 (by decide) (fun _ => rfl) (fun v5_3 => ?_)
  refine V_sub [3, 4, 2, 1, 0] rfl ?_
  exact lX10_nearestOf_9 X E hr hZ N N v0 v2 v3_1 v4_2 v5_3 σ
theorem kX10_nearestOf (l : Launch) (z : Sx) (hZ : z.2.2.2.1 = kdC) (N : Nat) (v0 : Int64) (v2 : Int32) (σ : Mem) : Ct QI yX10_nearestOf cX10_nearestOf 7 (some .int) 1 22 l z [.long v0, .int v2] σ (fX10_nearestOf N v0 v2 σ) := by
  refine Ct_of (by decide +kernel) (Nat.le_of_ble_eq_true rfl) rfl ?_
  intro x _ X E hr
  exact bX10_nearestOf_0 X E hr hZ N v0 v2 σ
def fX11_nearest (N : Nat) (h : Nat) (v1 : Int32) (v2 : Int32) (σ : Mem) : Option (Int32 × Mem) :=
  bd (fX11_asked N h v1 v2 σ) (fun or1 s2 => mqK (0, 0) or1 (some ((-1), s2)) (fun r1 => bd (fX10_carriedSet N (h + 220) r1 s2) (fun r4 s5 => bd (fX10_nearestOf N r4 v2 s5) (fun r6 s7 => some (r6, s7)))))
set_option maxRecDepth 100000 in
set_option maxHeartbeats 4000000 in
theorem bX11_nearest_0 {x : Cx} {z : Sx} (X : XG x z RX11 cX11_nearest 4 5 119) (E : XE x z) (hr : XR x (some .int)) (hZ : z.2.2.2.1 = kdC) (N : Nat) (h : Nat) (hh : z.2.2.2.1 h = (11, 0)) (v1 : Int32) (v2 : Int32) (σ : Mem) : VK x z 4 (BQ QI x z) 0 [(0, .ref (z.2.2.1 h)), (1, .int v1), (2, .int v2)] [] σ (fX11_nearest N h v1 v2 σ) := by
  unfold fX11_nearest
  refine V_aload_n 0 X dX11_nearest_0 rfl rfl ?_
  refine V_iload_n 1 X dX11_nearest_1 rfl rfl ?_
  refine V_iload_n 2 X dX11_nearest_2 rfl rfl ?_
  refine V_callQC (K := (0, 0)) [.int v1, .int v2] [] X E hZ dX11_nearest_3 (kX11_asked x.2.1 z hZ N h hh v1 v2 σ) co11 hh gcX11_115 hyX11_asked rfl ⟨by decide, by decide⟩ rfl (Nat.le_of_ble_eq_true rfl) (fun s2 => ?_) (fun r1 s2 hb3 => ?_)
  · refine V_astore_nN (L' := [(3, .null), (0, .ref (z.2.2.1 h)), (1, .int v1), (2, .int v2)]) X dX11_nearest_6 rfl (by decide) rfl ?_
    refine V_aload_nN 0 X dX11_nearest_7 rfl rfl ?_
    refine V_ifnonnullN X dX11_nearest_8 ?_
    refine V_iconst (v := -1) X dX11_nearest_11 (by decide) ?_
    refine V_goto (tgt := 27) X dX11_nearest_12 (by decide) ?_
    exact V_iret X E hr dX11_nearest_27
  · refine V_astore_n (L' := [(3, .ref (z.2.2.1 r1)), (0, .ref (z.2.2.1 h)), (1, .int v1), (2, .int v2)]) X dX11_nearest_6 rfl (by decide) rfl ?_
    refine V_aload_n 0 X dX11_nearest_7 rfl rfl ?_
    refine V_ifnonnull (tgt := 15) X dX11_nearest_8 (by decide) ?_
    refine V_aload_n 1 X dX11_nearest_15 rfl rfl ?_
    refine V_getR (k1 := (h + 220)) 6 X dX11_nearest_16 co11 hh (by decide) rfl rfl wfX11_48 ?_
    refine V_aload_n 0 X dX11_nearest_19 rfl rfl ?_
    refine V_callL [.ref (z.2.2.1 r1)] [] X E dX11_nearest_20 (kX10_carriedSet x.2.1 z hZ N (h + 220) (kt11_6 hZ hh) r1 hb3 s2) co10 (kt11_6 hZ hh) gcX11_158 hyX10_carriedSet rfl ⟨by decide, by decide⟩ rfl (Nat.le_of_ble_eq_true rfl) (fun r4 s5 => ?_)
    refine V_iload_n 3 X dX11_nearest_23 rfl rfl ?_
    refine V_calSI [.long r4, .int v2] [] X E dX11_nearest_24 (kX10_nearestOf x.2.1 z hZ N r4 v2 s5) gcX11_184 hyX10_nearestOf rfl ⟨by decide, by decide⟩ rfl (Nat.le_of_ble_eq_true rfl) (fun r6 s7 => ?_)
    exact V_iret X E hr dX11_nearest_27
theorem kX11_nearest (l : Launch) (z : Sx) (hZ : z.2.2.2.1 = kdC) (N : Nat) (h : Nat) (hh : z.2.2.2.1 h = (11, 0)) (v1 : Int32) (v2 : Int32) (σ : Mem) : Ct QI yX11_nearest cX11_nearest 4 (some .int) 5 119 l z [.ref (z.2.2.1 h), .int v1, .int v2] σ (fX11_nearest N h v1 v2 σ) := by
  refine Ct_of (by decide +kernel) (Nat.le_of_ble_eq_true rfl) rfl ?_
  intro x _ X E hr
  exact bX11_nearest_0 X E hr hZ N h hh v1 v2 σ
def fX2_sounds (N : Nat) (h : Nat) (v1 : Int32) (v2 : Int32) (σ : Mem) : Option (Int32 × Mem) :=
  bd (fX0_hasPiece N (h + 1) v1 σ) (fun r1 s2 => if r1 = 0 then some (0, s2) else bd (fX2_loud N h v1 v2 s2) (fun r3 s4 => gd (inb v1 8) (if r3 < (s4.1 ((h + 1) + 4) v1.toNatClampNeg) then some (0, s4) else some (1, s4))))
set_option maxRecDepth 100000 in
set_option maxHeartbeats 4000000 in
theorem bX2_sounds_0 {x : Cx} {z : Sx} (X : XG x z RX2 cX2_sounds 3 2 50) (E : XE x z) (hr : XR x (some .boolean)) (hZ : z.2.2.2.1 = kdC) (N : Nat) (h : Nat) (hh : z.2.2.2.1 h = (2, 0)) (v1 : Int32) (v2 : Int32) (σ : Mem) : VK x z 3 (BQ QI x z) 0 [(0, .ref (z.2.2.1 h)), (1, .int v1), (2, .int v2)] [] σ (fX2_sounds N h v1 v2 σ) := by
  unfold fX2_sounds
  refine V_aload_n 0 X dX2_sounds_0 rfl rfl ?_
  refine V_getR (k1 := (h + 1)) 0 X dX2_sounds_1 co2 hh (by decide) rfl rfl wfX2_12 ?_
  refine V_iload_n 1 X dX2_sounds_4 rfl rfl ?_
  refine V_callI [.int v1] [] X E dX2_sounds_5 (kX0_hasPiece x.2.1 z hZ N (h + 1) (kt2_0 hZ hh) v1 σ) co0 (kt2_0 hZ hh) gcX2_61 hyX0_hasPiece rfl ⟨by decide, by decide⟩ rfl (Nat.le_of_ble_eq_true rfl) (fun r1 s2 => ?_)
  refine V_if_eq (tgt := 33) X dX2_sounds_8 (by decide) ?_ ?_
  · refine V_iconst (v := 0) X dX2_sounds_33 (by decide) ?_
    exact V_zret X E hr dX2_sounds_34 (by decide)
  · refine V_aload_n 0 X dX2_sounds_11 rfl rfl ?_
    refine V_iload_n 1 X dX2_sounds_12 rfl rfl ?_
    refine V_iload_n 2 X dX2_sounds_13 rfl rfl ?_
    refine V_callI [.int v1, .int v2] [] X E dX2_sounds_14 (kX2_loud x.2.1 z hZ N h hh v1 v2 s2) co2 hh gcX2_95 hyX2_loud rfl ⟨by decide, by decide⟩ rfl (Nat.le_of_ble_eq_true rfl) (fun r3 s4 => ?_)
    refine V_aload_n 0 X dX2_sounds_17 rfl rfl ?_
    refine V_getR (k1 := (h + 1)) 0 X dX2_sounds_18 co2 hh (by decide) rfl rfl wfX2_12 ?_
    refine V_getR (k1 := ((h + 1) + 4)) 6 X dX2_sounds_21 co0 (kt2_0 hZ hh) (by decide) rfl rfl wfX2_98 ?_
    refine V_iload_n 1 X dX2_sounds_24 rfl rfl ?_
    refine V_iald X dX2_sounds_25 (kt0_6 hZ (kt2_0 hZ hh)) ?_
    refine V_icmp_lt (tgt := 33) X dX2_sounds_26 (by decide) ?_ ?_
    · refine V_iconst (v := 0) X dX2_sounds_33 (by decide) ?_
      exact V_zret X E hr dX2_sounds_34 (by decide)
    · refine V_iconst (v := 1) X dX2_sounds_29 (by decide) ?_
      refine V_goto (tgt := 34) X dX2_sounds_30 (by decide) ?_
      exact V_zret X E hr dX2_sounds_34 (by decide)
theorem kX2_sounds (l : Launch) (z : Sx) (hZ : z.2.2.2.1 = kdC) (N : Nat) (h : Nat) (hh : z.2.2.2.1 h = (2, 0)) (v1 : Int32) (v2 : Int32) (σ : Mem) : Ct QI yX2_sounds cX2_sounds 3 (some .boolean) 2 50 l z [.ref (z.2.2.1 h), .int v1, .int v2] σ (fX2_sounds N h v1 v2 σ) := by
  refine Ct_of (by decide +kernel) (Nat.le_of_ble_eq_true rfl) rfl ?_
  intro x _ X E hr
  exact bX2_sounds_0 X E hr hZ N h hh v1 v2 σ
def fX5_wins (N : Nat) (h : Nat) (v1 : Int32) (σ : Mem) : Option (Int32 × Mem) :=
  if v1 < 0 then some (0, σ) else if 256 ≤ v1 then some (0, σ) else gd (inb v1 256) (if (2 * (σ.1 (h + 3) v1.toNatClampNeg)) ≤ (σ.1 h 5) then some (0, σ) else some (1, σ))
set_option maxRecDepth 100000 in
set_option maxHeartbeats 4000000 in
theorem bX5_wins_0 {x : Cx} {z : Sx} (X : XG x z RX5 cX5_wins 2 0 0) (E : XE x z) (hr : XR x (some .boolean)) (hZ : z.2.2.2.1 = kdC) (N : Nat) (h : Nat) (hh : z.2.2.2.1 h = (5, 0)) (v1 : Int32) (σ : Mem) : VK x z 2 (BQ QI x z) 0 [(0, .ref (z.2.2.1 h)), (1, .int v1)] [] σ (fX5_wins N h v1 σ) := by
  unfold fX5_wins
  refine V_iload_n 1 X dX5_wins_0 rfl rfl ?_
  refine V_if_lt (tgt := 32) X dX5_wins_1 (by decide) ?_ ?_
  · refine V_iconst (v := 0) X dX5_wins_32 (by decide) ?_
    exact V_zret X E hr dX5_wins_33 (by decide)
  · refine V_iload_n 1 X dX5_wins_4 rfl rfl ?_
    refine V_aload_n 0 X dX5_wins_5 rfl rfl ?_
    refine V_getR (k1 := (h + 3)) 2 X dX5_wins_6 co5 hh (by decide) rfl rfl wfX5_18 ?_
    refine V_alen50 (v := 256) X dX5_wins_9 (kt5_2 hZ hh) (by decide) ?_
    refine V_icmp_ge (tgt := 32) X dX5_wins_10 (by decide) ?_ ?_
    · refine V_iconst (v := 0) X dX5_wins_32 (by decide) ?_
      exact V_zret X E hr dX5_wins_33 (by decide)
    · refine V_iconst (v := 2) X dX5_wins_13 (by decide) ?_
      refine V_aload_n 0 X dX5_wins_14 rfl rfl ?_
      refine V_getR (k1 := (h + 3)) 2 X dX5_wins_15 co5 hh (by decide) rfl rfl wfX5_18 ?_
      refine V_iload_n 1 X dX5_wins_18 rfl rfl ?_
      refine V_iald X dX5_wins_19 (kt5_2 hZ hh) ?_
      refine V_imul X dX5_wins_20 ?_
      refine V_aload_n 0 X dX5_wins_21 rfl rfl ?_
      refine V_getI 5 X dX5_wins_22 co5 hh (by decide) rfl wfX5_32 ?_
      refine V_icmp_le (tgt := 32) X dX5_wins_25 (by decide) ?_ ?_
      · refine V_iconst (v := 0) X dX5_wins_32 (by decide) ?_
        exact V_zret X E hr dX5_wins_33 (by decide)
      · refine V_iconst (v := 1) X dX5_wins_28 (by decide) ?_
        refine V_goto (tgt := 33) X dX5_wins_29 (by decide) ?_
        exact V_zret X E hr dX5_wins_33 (by decide)
theorem kX5_wins (l : Launch) (z : Sx) (hZ : z.2.2.2.1 = kdC) (N : Nat) (h : Nat) (hh : z.2.2.2.1 h = (5, 0)) (v1 : Int32) (σ : Mem) : Ct QI yX5_wins cX5_wins 2 (some .boolean) 0 0 l z [.ref (z.2.2.1 h), .int v1] σ (fX5_wins N h v1 σ) := by
  refine Ct_of (by decide +kernel) (Nat.le_of_ble_eq_true rfl) rfl ?_
  intro x _ X E hr
  exact bX5_wins_0 X E hr hZ N h hh v1 σ
def fX5_isSwing (N : Nat) (h : Nat) (v1 : Int32) (v2 : Int32) (σ : Mem) : Option (Int32 × Mem) :=
  lt_ ((1 : Int32) <<< (v2 &&& 31)) (fun v3_1 => if (v1 &&& v3_1) = 0 then bd (fX5_wins N h v1 σ) (fun r2 s3 => if r2 = 0 then bd (fX5_wins N h (v1 ||| v3_1) s3) (fun r4 s5 => if r4 = 0 then some (0, s5) else some (1, s5)) else some (0, s3)) else some (0, σ))
set_option maxRecDepth 100000 in
set_option maxHeartbeats 4000000 in
theorem bX5_isSwing_0 {x : Cx} {z : Sx} (X : XG x z RX5 cX5_isSwing 4 1 21) (E : XE x z) (hr : XR x (some .boolean)) (hZ : z.2.2.2.1 = kdC) (N : Nat) (h : Nat) (hh : z.2.2.2.1 h = (5, 0)) (v1 : Int32) (v2 : Int32) (σ : Mem) : VK x z 4 (BQ QI x z) 0 [(0, .ref (z.2.2.1 h)), (1, .int v1), (2, .int v2)] [] σ (fX5_isSwing N h v1 v2 σ) := by
  unfold fX5_isSwing
  refine V_iconst (v := 1) X dX5_isSwing_0 (by decide) ?_
  refine V_iload_n 2 X dX5_isSwing_1 rfl rfl ?_
  refine V_ishl X dX5_isSwing_2 ?_
  refine V_istore_nG (L' := fun v3_1 => [(3, .int v3_1), (0, .ref (z.2.2.1 h)), (1, .int v1), (2, .int v2)]) X dX5_isSwing_3 rfl (by decide) (fun _ => rfl) (fun v3_1 => ?_)
  refine V_iload_n 2 X dX5_isSwing_4 rfl rfl ?_
  refine V_iload_n 0 X dX5_isSwing_5 rfl rfl ?_
  refine V_iand X dX5_isSwing_6 ?_
  refine V_if_ne (tgt := 32) X dX5_isSwing_7 (by decide) ?_ ?_
  · refine V_iconst (v := 0) X dX5_isSwing_32 (by decide) ?_
    exact V_zret X E hr dX5_isSwing_33 (by decide)
  · refine V_aload_n 1 X dX5_isSwing_10 rfl rfl ?_
    refine V_iload_n 2 X dX5_isSwing_11 rfl rfl ?_
    refine V_callI [.int v1] [] X E dX5_isSwing_12 (kX5_wins x.2.1 z hZ N h hh v1 σ) co5 hh gcX5_39 hyX5_wins rfl ⟨by decide, by decide⟩ rfl (Nat.le_of_ble_eq_true rfl) (fun r2 s3 => ?_)
    refine V_if_ne (tgt := 32) X dX5_isSwing_15 (by decide) ?_ ?_
    · refine V_iconst (v := 0) X dX5_isSwing_32 (by decide) ?_
      exact V_zret X E hr dX5_isSwing_33 (by decide)
    · refine V_aload_n 1 X dX5_isSwing_18 rfl rfl ?_
      refine V_iload_n 2 X dX5_isSwing_19 rfl rfl ?_
      refine V_iload_n 0 X dX5_isSwing_20 rfl rfl ?_
      refine V_ior X dX5_isSwing_21 ?_
      refine V_callI [.int (v1 ||| v3_1)] [] X E dX5_isSwing_22 (kX5_wins x.2.1 z hZ N h hh (v1 ||| v3_1) s3) co5 hh gcX5_39 hyX5_wins rfl ⟨by decide, by decide⟩ rfl (Nat.le_of_ble_eq_true rfl) (fun r4 s5 => ?_)
      refine V_if_eq (tgt := 32) X dX5_isSwing_25 (by decide) ?_ ?_
      · refine V_iconst (v := 0) X dX5_isSwing_32 (by decide) ?_
        exact V_zret X E hr dX5_isSwing_33 (by decide)
      · refine V_iconst (v := 1) X dX5_isSwing_28 (by decide) ?_
        refine V_goto (tgt := 33) X dX5_isSwing_29 (by decide) ?_
        exact V_zret X E hr dX5_isSwing_33 (by decide)
theorem kX5_isSwing (l : Launch) (z : Sx) (hZ : z.2.2.2.1 = kdC) (N : Nat) (h : Nat) (hh : z.2.2.2.1 h = (5, 0)) (v1 : Int32) (v2 : Int32) (σ : Mem) : Ct QI yX5_isSwing cX5_isSwing 4 (some .boolean) 1 21 l z [.ref (z.2.2.1 h), .int v1, .int v2] σ (fX5_isSwing N h v1 v2 σ) := by
  refine Ct_of (by decide +kernel) (Nat.le_of_ble_eq_true rfl) rfl ?_
  intro x _ X E hr
  exact bX5_isSwing_0 X E hr hZ N h hh v1 v2 σ
def fX5_countSwings_b24 (N : Nat) (h : Nat) (rc4 : Int32 → Int32 → Int32 → Mem → Option (Int32 × Mem)) (v1 : Int32) (v2 : Int32) (v3 : Int32) (σ : Mem) : Option (Int32 × Mem) :=
  lt_ (v3 + 1) (fun v3_6 => rc4 v1 v2 v3_6 σ)
set_option maxRecDepth 100000 in
set_option maxHeartbeats 4000000 in
theorem bX5_countSwings_24 {x : Cx} {z : Sx} (X : XG x z RX5 cX5_countSwings 4 2 44) (E : XE x z) (hr : XR x (some .int)) (hZ : z.2.2.2.1 = kdC) (N : Nat) (h : Nat) (hh : z.2.2.2.1 h = (5, 0)) (rc4 : Int32 → Int32 → Int32 → Mem → Option (Int32 × Mem)) (hc4 : ∀ (v1 : Int32) (v2 : Int32) (v3 : Int32) (σ : Mem), VK x z 4 (BQ QI x z) 4 [(0, .ref (z.2.2.1 h)), (1, .int v1), (2, .int v2), (3, .int v3)] [] σ (rc4 v1 v2 v3 σ)) (v1 : Int32) (v2 : Int32) (v3 : Int32) (σ : Mem) : VK x z 4 (BQ QI x z) 24 [(0, .ref (z.2.2.1 h)), (1, .int v1), (2, .int v2), (3, .int v3)] [] σ (fX5_countSwings_b24 N h rc4 v1 v2 v3 σ) := by
  unfold fX5_countSwings_b24
  refine V_iincG (L' := fun v3_6 => [(3, .int v3_6), (0, .ref (z.2.2.1 h)), (1, .int v1), (2, .int v2)]) 3 X dX5_countSwings_24 rfl rfl (by decide) (fun _ => rfl) (fun v3_6 => ?_)
  refine V_goto (tgt := 4) X dX5_countSwings_27 (by decide) ?_
  refine V_sub [1, 2, 3, 0] rfl ?_
  exact hc4 v1 v2 v3_6 σ
def fX5_countSwings_b4 (N : Nat) (h : Nat) (rc4 : Int32 → Int32 → Int32 → Mem → Option (Int32 × Mem)) (v1 : Int32) (v2 : Int32) (v3 : Int32) (σ : Mem) : Option (Int32 × Mem) :=
  if (σ.1 h 4) ≤ v3 then some (v2, σ) else bd (fX5_isSwing N h v3 v1 σ) (fun r3 s4 => if r3 = 0 then fX5_countSwings_b24 N h rc4 v1 v2 v3 s4 else lt_ (v2 + 1) (fun v2_5 => fX5_countSwings_b24 N h rc4 v1 v2_5 v3 s4))
set_option maxRecDepth 100000 in
set_option maxHeartbeats 4000000 in
theorem bX5_countSwings_4 {x : Cx} {z : Sx} (X : XG x z RX5 cX5_countSwings 4 2 44) (E : XE x z) (hr : XR x (some .int)) (hZ : z.2.2.2.1 = kdC) (N : Nat) (h : Nat) (hh : z.2.2.2.1 h = (5, 0)) (rc4 : Int32 → Int32 → Int32 → Mem → Option (Int32 × Mem)) (hc4 : ∀ (v1 : Int32) (v2 : Int32) (v3 : Int32) (σ : Mem), VK x z 4 (BQ QI x z) 4 [(0, .ref (z.2.2.1 h)), (1, .int v1), (2, .int v2), (3, .int v3)] [] σ (rc4 v1 v2 v3 σ)) (v1 : Int32) (v2 : Int32) (v3 : Int32) (σ : Mem) : VK x z 4 (BQ QI x z) 4 [(0, .ref (z.2.2.1 h)), (1, .int v1), (2, .int v2), (3, .int v3)] [] σ (fX5_countSwings_b4 N h rc4 v1 v2 v3 σ) := by
  unfold fX5_countSwings_b4
  refine V_iload_n 3 X dX5_countSwings_4 rfl rfl ?_
  refine V_aload_n 0 X dX5_countSwings_5 rfl rfl ?_
  refine V_getI 4 X dX5_countSwings_6 co5 hh (by decide) rfl wfX5_28 ?_
  refine V_icmp_ge (tgt := 30) X dX5_countSwings_9 (by decide) ?_ ?_
  · refine V_iload_n 2 X dX5_countSwings_30 rfl rfl ?_
    exact V_iret X E hr dX5_countSwings_31
  · refine V_aload_n 0 X dX5_countSwings_12 rfl rfl ?_
    refine V_iload_n 3 X dX5_countSwings_13 rfl rfl ?_
    refine V_iload_n 1 X dX5_countSwings_14 rfl rfl ?_
    refine V_callI [.int v3, .int v1] [] X E dX5_countSwings_15 (kX5_isSwing x.2.1 z hZ N h hh v3 v1 σ) co5 hh gcX5_43 hyX5_isSwing rfl ⟨by decide, by decide⟩ rfl (Nat.le_of_ble_eq_true rfl) (fun r3 s4 => ?_)
    refine V_if_eq (tgt := 24) X dX5_countSwings_18 (by decide) ?_ ?_
    · refine V_sub [0, 1, 2, 3] rfl ?_
      exact bX5_countSwings_24 X E hr hZ N h hh rc4 hc4 v1 v2 v3 s4
    · refine V_iincG (L' := fun v2_5 => [(2, .int v2_5), (0, .ref (z.2.2.1 h)), (1, .int v1), (3, .int v3)]) 2 X dX5_countSwings_21 rfl rfl (by decide) (fun _ => rfl) (fun v2_5 => ?_)
      refine V_sub [1, 2, 0, 3] rfl ?_
      exact bX5_countSwings_24 X E hr hZ N h hh rc4 hc4 v1 v2_5 v3 s4
def fX5_countSwings_l4 (N : Nat) (h : Nat) : Nat → Int32 → Int32 → Int32 → Mem → Option (Int32 × Mem)
  | 0 => fun _ _ _ _ => none
  | n + 1 => fX5_countSwings_b4 N h (fX5_countSwings_l4 N h n)
theorem lX5_countSwings_4 {x : Cx} {z : Sx} (X : XG x z RX5 cX5_countSwings 4 2 44) (E : XE x z) (hr : XR x (some .int)) (hZ : z.2.2.2.1 = kdC) (N : Nat) (h : Nat) (hh : z.2.2.2.1 h = (5, 0)) (n : Nat) (v1 : Int32) (v2 : Int32) (v3 : Int32) (σ : Mem) : VK x z 4 (BQ QI x z) 4 [(0, .ref (z.2.2.1 h)), (1, .int v1), (2, .int v2), (3, .int v3)] [] σ (fX5_countSwings_l4 N h n v1 v2 v3 σ) := by
  induction n generalizing v1 v2 v3 σ with
  | zero => exact V_none
  | succ n ih => exact bX5_countSwings_4 X E hr hZ N h hh (fX5_countSwings_l4 N h n) ih v1 v2 v3 σ
def fX5_countSwings (N : Nat) (h : Nat) (v1 : Int32) (σ : Mem) : Option (Int32 × Mem) :=
  lt_ 0 (fun v2_1 => lt_ 0 (fun v3_2 => fX5_countSwings_l4 N h N v1 v2_1 v3_2 σ))
set_option maxRecDepth 100000 in
set_option maxHeartbeats 4000000 in
theorem bX5_countSwings_0 {x : Cx} {z : Sx} (X : XG x z RX5 cX5_countSwings 4 2 44) (E : XE x z) (hr : XR x (some .int)) (hZ : z.2.2.2.1 = kdC) (N : Nat) (h : Nat) (hh : z.2.2.2.1 h = (5, 0)) (v1 : Int32) (σ : Mem) : VK x z 4 (BQ QI x z) 0 [(0, .ref (z.2.2.1 h)), (1, .int v1)] [] σ (fX5_countSwings N h v1 σ) := by
  unfold fX5_countSwings
  refine V_iconst (v := 0) X dX5_countSwings_0 (by decide) ?_
  refine V_istore_nG (L' := fun v2_1 => [(2, .int v2_1), (0, .ref (z.2.2.1 h)), (1, .int v1)]) X dX5_countSwings_1 rfl (by decide) (fun _ => rfl) (fun v2_1 => ?_)
  refine V_iconst (v := 0) X dX5_countSwings_2 (by decide) ?_
  refine V_istore_nG (L' := fun v3_2 => [(3, .int v3_2), (2, .int v2_1), (0, .ref (z.2.2.1 h)), (1, .int v1)]) X dX5_countSwings_3 rfl (by decide) (fun _ => rfl) (fun v3_2 => ?_)
  refine V_sub [2, 3, 1, 0] rfl ?_
  exact lX5_countSwings_4 X E hr hZ N h hh N v1 v2_1 v3_2 σ
theorem kX5_countSwings (l : Launch) (z : Sx) (hZ : z.2.2.2.1 = kdC) (N : Nat) (h : Nat) (hh : z.2.2.2.1 h = (5, 0)) (v1 : Int32) (σ : Mem) : Ct QI yX5_countSwings cX5_countSwings 4 (some .int) 2 44 l z [.ref (z.2.2.1 h), .int v1] σ (fX5_countSwings N h v1 σ) := by
  refine Ct_of (by decide +kernel) (Nat.le_of_ble_eq_true rfl) rfl ?_
  intro x _ X E hr
  exact bX5_countSwings_0 X E hr hZ N h hh v1 σ
