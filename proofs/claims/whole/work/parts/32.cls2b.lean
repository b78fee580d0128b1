def fX2_vote_b98 (N : Nat) (h : Nat) (rc12 : Int32 → Int32 → Mem → Option (Int32 × Mem)) (v1 : Int32) (v2 : Int32) (σ : Mem) : Option (Int32 × Mem) :=
  lt_ (v2 + 1) (fun v2_12 => rc12 v1 v2_12 σ)
set_option maxRecDepth 100000 in
set_option maxHeartbeats 4000000 in
theorem bX2_vote_98 {x : Cx} {z : Sx} (X : XG x z RX2 cX2_vote 4 3 72) (E : XE x z) (hr : XR x (some .int)) (hZ : z.2.2.2.1 = kdC) (N : Nat) (h : Nat) (hh : z.2.2.2.1 h = (2, 0)) (rc12 : Int32 → Int32 → Mem → Option (Int32 × Mem)) (hc12 : ∀ (v1 : Int32) (v2 : Int32) (σ : Mem), VK x z 4 (BQ QI x z) 12 [(0, .ref (z.2.2.1 h)), (1, .int v1), (2, .int v2)] [] σ (rc12 v1 v2 σ)) (v1 : Int32) (v2 : Int32) (σ : Mem) : VK x z 4 (BQ QI x z) 98 [(0, .ref (z.2.2.1 h)), (1, .int v1), (2, .int v2)] [] σ (fX2_vote_b98 N h rc12 v1 v2 σ) := by
  unfold fX2_vote_b98
  refine V_iincG (L' := fun v2_12 => [(2, .int v2_12), (0, .ref (z.2.2.1 h)), (1, .int v1)]) 2 X dX2_vote_98 rfl rfl (by decide) (fun _ => rfl) (fun v2_12 => ?_)
  refine V_goto (tgt := 12) X dX2_vote_101 (by decide) ?_
  refine V_sub [1, 2, 0] rfl ?_
  exact hc12 v1 v2_12 σ
def fX2_vote_b41 (N : Nat) (h : Nat) (rc12 : Int32 → Int32 → Mem → Option (Int32 × Mem)) (v1 : Int32) (v2 : Int32) (t0 : Int32) (σ : Mem) : Option (Int32 × Mem) :=
  lt_ t0 (fun v3_8 => gd (inb v2 8) (lt_ (pI σ (h + 12) v2.toNatClampNeg v3_8) (fun s9 => if v3_8 = 1 then gd (inb v2 8) (lt_ (pI s9 h 5 ((s9.1 h 5) + (s9.1 ((h + 1) + 6) v2.toNatClampNeg))) (fun s11 => fX2_vote_b98 N h rc12 v1 v2 s11)) else if v3_8 = 2 then gd (inb v2 8) (lt_ (pI s9 h 6 ((s9.1 h 6) + (s9.1 ((h + 1) + 6) v2.toNatClampNeg))) (fun s10 => fX2_vote_b98 N h rc12 v1 v2 s10)) else fX2_vote_b98 N h rc12 v1 v2 s9)))
set_option maxRecDepth 100000 in
set_option maxHeartbeats 4000000 in
theorem bX2_vote_41 {x : Cx} {z : Sx} (X : XG x z RX2 cX2_vote 4 3 72) (E : XE x z) (hr : XR x (some .int)) (hZ : z.2.2.2.1 = kdC) (N : Nat) (h : Nat) (hh : z.2.2.2.1 h = (2, 0)) (rc12 : Int32 → Int32 → Mem → Option (Int32 × Mem)) (hc12 : ∀ (v1 : Int32) (v2 : Int32) (σ : Mem), VK x z 4 (BQ QI x z) 12 [(0, .ref (z.2.2.1 h)), (1, .int v1), (2, .int v2)] [] σ (rc12 v1 v2 σ)) (v1 : Int32) (v2 : Int32) (t0 : Int32) (σ : Mem) : VK x z 4 (BQ QI x z) 41 [(0, .ref (z.2.2.1 h)), (1, .int v1), (2, .int v2)] [.int t0] σ (fX2_vote_b41 N h rc12 v1 v2 t0 σ) := by
  unfold fX2_vote_b41
  refine V_istore_nG (L' := fun v3_8 => [(3, .int v3_8), (0, .ref (z.2.2.1 h)), (1, .int v1), (2, .int v2)]) X dX2_vote_41 rfl (by decide) (fun _ => rfl) (fun v3_8 => ?_)
  refine V_aload_n 1 X dX2_vote_42 rfl rfl ?_
  refine V_getR (k1 := (h + 12)) 3 X dX2_vote_43 co2 hh (by decide) rfl rfl wfX2_25 ?_
  refine V_iload_n 3 X dX2_vote_46 rfl rfl ?_
  refine V_iload_n 0 X dX2_vote_47 rfl rfl ?_
  refine V_iastG X dX2_vote_48 (kt2_3 hZ hh) (fun s9 => ?_)
  refine V_iload_n 0 X dX2_vote_49 rfl rfl ?_
  refine V_iconst (v := 1) X dX2_vote_50 (by decide) ?_
  refine V_icmp_ne (tgt := 75) X dX2_vote_51 (by decide) ?_ ?_
  · refine V_iload_n 0 X dX2_vote_75 rfl rfl ?_
    refine V_iconst (v := 2) X dX2_vote_76 (by decide) ?_
    refine V_icmp_ne (tgt := 98) X dX2_vote_77 (by decide) ?_ ?_
    · refine V_sub [1, 2, 3] rfl ?_
      exact bX2_vote_98 X E hr hZ N h hh rc12 hc12 v1 v2 s9
    · refine V_aload_n 1 X dX2_vote_80 rfl rfl ?_
      refine V_dup X dX2_vote_81 rfl ?_
      refine V_getI 6 X dX2_vote_82 co2 hh (by decide) rfl wfX2_45 ?_
      refine V_aload_n 1 X dX2_vote_85 rfl rfl ?_
      refine V_getR (k1 := (h + 1)) 0 X dX2_vote_86 co2 hh (by decide) rfl rfl wfX2_12 ?_
      refine V_getR (k1 := ((h + 1) + 6)) 8 X dX2_vote_89 co0 (kt2_0 hZ hh) (by decide) rfl rfl wfX2_107 ?_
      refine V_iload_n 3 X dX2_vote_92 rfl rfl ?_
      refine V_iald X dX2_vote_93 (kt0_8 hZ (kt2_0 hZ hh)) ?_
      refine V_iadd X dX2_vote_94 ?_
      refine V_putIG 6 X dX2_vote_95 co2 hh (by decide) rfl wfX2_45 rfl rfl rfl (fun s10 => ?_)
      refine V_sub [1, 2, 3] rfl ?_
      exact bX2_vote_98 X E hr hZ N h hh rc12 hc12 v1 v2 s10
  · refine V_aload_n 1 X dX2_vote_54 rfl rfl ?_
    refine V_dup X dX2_vote_55 rfl ?_
    refine V_getI 5 X dX2_vote_56 co2 hh (by decide) rfl wfX2_42 ?_
    refine V_aload_n 1 X dX2_vote_59 rfl rfl ?_
    refine V_getR (k1 := (h + 1)) 0 X dX2_vote_60 co2 hh (by decide) rfl rfl wfX2_12 ?_
    refine V_getR (k1 := ((h + 1) + 6)) 8 X dX2_vote_63 co0 (kt2_0 hZ hh) (by decide) rfl rfl wfX2_107 ?_
    refine V_iload_n 3 X dX2_vote_66 rfl rfl ?_
    refine V_iald X dX2_vote_67 (kt0_8 hZ (kt2_0 hZ hh)) ?_
    refine V_iadd X dX2_vote_68 ?_
    refine V_putIG 5 X dX2_vote_69 co2 hh (by decide) rfl wfX2_42 rfl rfl rfl (fun s11 => ?_)
    refine V_goto (tgt := 98) X dX2_vote_72 (by decide) ?_
    refine V_sub [1, 2, 3] rfl ?_
    exact bX2_vote_98 X E hr hZ N h hh rc12 hc12 v1 v2 s11
def fX2_vote_b12 (N : Nat) (h : Nat) (rc12 : Int32 → Int32 → Mem → Option (Int32 × Mem)) (v1 : Int32) (v2 : Int32) (σ : Mem) : Option (Int32 × Mem) :=
  if (σ.1 (h + 1) 0) ≤ v2 then some (((σ.1 h 5) - (σ.1 h 6)), σ) else bd (fX2_isOver N h v2 σ) (fun r4 s5 => if r4 = 0 then bd (fX2_says N h v2 v1 s5) (fun r6 s7 => fX2_vote_b41 N h rc12 v1 v2 r6 s7) else fX2_vote_b41 N h rc12 v1 v2 0 s5)
set_option maxRecDepth 100000 in
set_option maxHeartbeats 4000000 in
theorem bX2_vote_12 {x : Cx} {z : Sx} (X : XG x z RX2 cX2_vote 4 3 72) (E : XE x z) (hr : XR x (some .int)) (hZ : z.2.2.2.1 = kdC) (N : Nat) (h : Nat) (hh : z.2.2.2.1 h = (2, 0)) (rc12 : Int32 → Int32 → Mem → Option (Int32 × Mem)) (hc12 : ∀ (v1 : Int32) (v2 : Int32) (σ : Mem), VK x z 4 (BQ QI x z) 12 [(0, .ref (z.2.2.1 h)), (1, .int v1), (2, .int v2)] [] σ (rc12 v1 v2 σ)) (v1 : Int32) (v2 : Int32) (σ : Mem) : VK x z 4 (BQ QI x z) 12 [(0, .ref (z.2.2.1 h)), (1, .int v1), (2, .int v2)] [] σ (fX2_vote_b12 N h rc12 v1 v2 σ) := by
  unfold fX2_vote_b12
  refine V_iload_n 2 X dX2_vote_12 rfl rfl ?_
  refine V_aload_n 0 X dX2_vote_13 rfl rfl ?_
  refine V_getR (k1 := (h + 1)) 0 X dX2_vote_14 co2 hh (by decide) rfl rfl wfX2_12 ?_
  refine V_getI 0 X dX2_vote_17 co0 (kt2_0 hZ hh) (by decide) rfl wfX2_68 ?_
  refine V_icmp_ge (tgt := 104) X dX2_vote_20 (by decide) ?_ ?_
  · refine V_aload_n 0 X dX2_vote_104 rfl rfl ?_
    refine V_getI 5 X dX2_vote_105 co2 hh (by decide) rfl wfX2_42 ?_
    refine V_aload_n 0 X dX2_vote_108 rfl rfl ?_
    refine V_getI 6 X dX2_vote_109 co2 hh (by decide) rfl wfX2_45 ?_
    refine V_isub X dX2_vote_112 ?_
    exact V_iret X E hr dX2_vote_113
  · refine V_aload_n 0 X dX2_vote_23 rfl rfl ?_
    refine V_iload_n 2 X dX2_vote_24 rfl rfl ?_
    refine V_callI [.int v2] [] X E dX2_vote_25 (kX2_isOver x.2.1 z hZ N h hh v2 σ) co2 hh gcX2_101 hyX2_isOver rfl ⟨by decide, by decide⟩ rfl (Nat.le_of_ble_eq_true rfl) (fun r4 s5 => ?_)
    refine V_if_eq (tgt := 35) X dX2_vote_28 (by decide) ?_ ?_
    · refine V_aload_n 0 X dX2_vote_35 rfl rfl ?_
      refine V_iload_n 2 X dX2_vote_36 rfl rfl ?_
      refine V_iload_n 1 X dX2_vote_37 rfl rfl ?_
      refine V_callI [.int v2, .int v1] [] X E dX2_vote_38 (kX2_says x.2.1 z hZ N h hh v2 v1 s5) co2 hh gcX2_104 hyX2_says rfl ⟨by decide, by decide⟩ rfl (Nat.le_of_ble_eq_true rfl) (fun r6 s7 => ?_)
      refine V_sub [0, 1, 2] rfl ?_
      exact bX2_vote_41 X E hr hZ N h hh rc12 hc12 v1 v2 r6 s7
    · refine V_iconst (v := 0) X dX2_vote_31 (by decide) ?_
      refine V_goto (tgt := 41) X dX2_vote_32 (by decide) ?_
      refine V_sub [0, 1, 2] rfl ?_
      exact bX2_vote_41 X E hr hZ N h hh rc12 hc12 v1 v2 0 s5
def fX2_vote_l12 (N : Nat) (h : Nat) : Nat → Int32 → Int32 → Mem → Option (Int32 × Mem)
  | 0 => fun _ _ _ => none
  | n + 1 => fX2_vote_b12 N h (fX2_vote_l12 N h n)
theorem lX2_vote_12 {x : Cx} {z : Sx} (X : XG x z RX2 cX2_vote 4 3 72) (E : XE x z) (hr : XR x (some .int)) (hZ : z.2.2.2.1 = kdC) (N : Nat) (h : Nat) (hh : z.2.2.2.1 h = (2, 0)) (n : Nat) (v1 : Int32) (v2 : Int32) (σ : Mem) : VK x z 4 (BQ QI x z) 12 [(0, .ref (z.2.2.1 h)), (1, .int v1), (2, .int v2)] [] σ (fX2_vote_l12 N h n v1 v2 σ) := by
  induction n generalizing v1 v2 σ with
  | zero => exact V_none
  | succ n ih => exact bX2_vote_12 X E hr hZ N h hh (fX2_vote_l12 N h n) ih v1 v2 σ
def fX2_vote (N : Nat) (h : Nat) (v1 : Int32) (σ : Mem) : Option (Int32 × Mem) :=
  lt_ (pI σ h 5 0) (fun s1 => lt_ (pI s1 h 6 0) (fun s2 => lt_ 0 (fun v2_3 => fX2_vote_l12 N h N v1 v2_3 s2)))
set_option maxRecDepth 100000 in
set_option maxHeartbeats 4000000 in
theorem bX2_vote_0 {x : Cx} {z : Sx} (X : XG x z RX2 cX2_vote 4 3 72) (E : XE x z) (hr : XR x (some .int)) (hZ : z.2.2.2.1 = kdC) (N : Nat) (h : Nat) (hh : z.2.2.2.1 h = (2, 0)) (v1 : Int32) (σ : Mem) : VK x z 4 (BQ QI x z) 0 [(0, .ref (z.2.2.1 h)), (1, .int v1)] [] σ (fX2_vote N h v1 σ) := by
  unfold fX2_vote
  refine V_aload_n 0 X dX2_vote_0 rfl rfl ?_
  refine V_iconst (v := 0) X dX2_vote_1 (by decide) ?_
  refine V_putIG 5 X dX2_vote_2 co2 hh (by decide) rfl wfX2_42 rfl rfl rfl (fun s1 => ?_)
  refine V_aload_n 0 X dX2_vote_5 rfl rfl ?_
  refine V_iconst (v := 0) X dX2_vote_6 (by decide) ?_
  refine V_putIG 6 X dX2_vote_7 co2 hh (by decide) rfl wfX2_45 rfl rfl rfl (fun s2 => ?_)
  refine V_iconst (v := 0) X dX2_vote_10 (by decide) ?_
  refine V_istore_nG (L' := fun v2_3 => [(2, .int v2_3), (0, .ref (z.2.2.1 h)), (1, .int v1)]) X dX2_vote_11 rfl (by decide) (fun _ => rfl) (fun v2_3 => ?_)
  refine V_sub [1, 2, 0] rfl ?_
  exact lX2_vote_12 X E hr hZ N h hh N v1 v2_3 s2
theorem kX2_vote (l : Launch) (z : Sx) (hZ : z.2.2.2.1 = kdC) (N : Nat) (h : Nat) (hh : z.2.2.2.1 h = (2, 0)) (v1 : Int32) (σ : Mem) : Ct QI yX2_vote cX2_vote 4 (some .int) 3 72 l z [.ref (z.2.2.1 h), .int v1] σ (fX2_vote N h v1 σ) := by
  refine Ct_of (by decide +kernel) (Nat.le_of_ble_eq_true rfl) rfl ?_
  intro x _ X E hr
  exact bX2_vote_0 X E hr hZ N h hh v1 σ
def fX11_answer_b117 (N : Nat) (h : Nat) (v3 : Int32) (v4 : Nat) (σ : Mem) : Option (Int32 × Mem) :=
  if v3 < 20 then some ((-1), σ) else if (20 + (σ.1 v4 0)) ≤ v3 then some ((-1), σ) else gd (inb (v3 - 20) 8) (some ((σ.1 ((h + 192) + 12) (v3 - 20).toNatClampNeg), σ))
set_option maxRecDepth 100000 in
set_option maxHeartbeats 4000000 in
theorem bX11_answer_117 {x : Cx} {z : Sx} (X : XG x z RX11 cX11_answer 5 4 95) (E : XE x z) (hr : XR x (some .int)) (hZ : z.2.2.2.1 = kdC) (N : Nat) (h : Nat) (hh : z.2.2.2.1 h = (11, 0)) (v3 : Int32) (v4 : Nat) (hk4 : z.2.2.2.1 v4 = (0, 0)) (σ : Mem) : VK x z 5 (BQ QI x z) 117 [(0, .ref (z.2.2.1 h)), (3, .int v3), (4, .ref (z.2.2.1 v4))] [] σ (fX11_answer_b117 N h v3 v4 σ) := by
  unfold fX11_answer_b117
  refine V_iload_n 1 X dX11_answer_117 rfl rfl ?_
  refine V_bipush (v := 20) X dX11_answer_118 (by decide) ?_
  refine V_icmp_lt (tgt := 148) X dX11_answer_120 (by decide) ?_ ?_
  · refine V_iconst (v := -1) X dX11_answer_148 (by decide) ?_
    exact V_iret X E hr dX11_answer_149
  · refine V_iload_n 1 X dX11_answer_123 rfl rfl ?_
    refine V_bipush (v := 20) X dX11_answer_124 (by decide) ?_
    refine V_aload 2 X dX11_answer_126 rfl ?_
    refine V_getI 0 X dX11_answer_128 co0 hk4 (by decide) rfl wfX11_132 ?_
    refine V_iadd X dX11_answer_131 ?_
    refine V_icmp_ge (tgt := 148) X dX11_answer_132 (by decide) ?_ ?_
    · refine V_iconst (v := -1) X dX11_answer_148 (by decide) ?_
      exact V_iret X E hr dX11_answer_149
    · refine V_aload_n 0 X dX11_answer_135 rfl rfl ?_
      refine V_getR (k1 := (h + 192)) 4 X dX11_answer_136 co11 hh (by decide) rfl rfl wfX11_34 ?_
      refine V_getR (k1 := ((h + 192) + 12)) 3 X dX11_answer_139 co2 (kt11_4 hZ hh) (by decide) rfl rfl wfX11_138 ?_
      refine V_iload_n 1 X dX11_answer_142 rfl rfl ?_
      refine V_bipush (v := 20) X dX11_answer_143 (by decide) ?_
      refine V_isub X dX11_answer_145 ?_
      refine V_iald X dX11_answer_146 (kt2_3 hZ (kt11_4 hZ hh)) ?_
      exact V_iret X E hr dX11_answer_147
def fX11_answer (N : Nat) (h : Nat) (v1 : Int32) (v2 : Int32) (v3 : Int32) (σ : Mem) : Option (Int32 × Mem) :=
  bd (fX11_asked N h v1 v2 σ) (fun or1 s2 => mqK (0, 0) or1 (some ((-1), s2)) (fun r1 => bd (fX2_enter N (h + 192) r1 s2) (fun r4 s5 => bd (fX2_vote N (h + 192) v2 s5) (fun r6 s7 => if v3 = 0 then if (s7.1 (h + 192) 5) ≤ (s7.1 (h + 192) 6) then some (0, s7) else some (1, s7) else if v3 = 1 then some ((s7.1 (h + 192) 5), s7) else if v3 = 2 then some ((s7.1 (h + 192) 6), s7) else if v3 < 10 then fX11_answer_b117 N h v3 r1 s7 else if (10 + (s7.1 r1 0)) ≤ v3 then fX11_answer_b117 N h v3 r1 s7 else bd (fX2_loud N (h + 192) (v3 - 10) v2 s7) (fun r8 s9 => some (r8, s9))))))
set_option maxRecDepth 100000 in
set_option maxHeartbeats 4000000 in
theorem bX11_answer_0 {x : Cx} {z : Sx} (X : XG x z RX11 cX11_answer 5 4 95) (E : XE x z) (hr : XR x (some .int)) (hZ : z.2.2.2.1 = kdC) (N : Nat) (h : Nat) (hh : z.2.2.2.1 h = (11, 0)) (v1 : Int32) (v2 : Int32) (v3 : Int32) (σ : Mem) : VK x z 5 (BQ QI x z) 0 [(0, .ref (z.2.2.1 h)), (1, .int v1), (2, .int v2), (3, .int v3)] [] σ (fX11_answer N h v1 v2 v3 σ) := by
  unfold fX11_answer
  refine V_aload_n 0 X dX11_answer_0 rfl rfl ?_
  refine V_iload_n 1 X dX11_answer_1 rfl rfl ?_
  refine V_iload_n 2 X dX11_answer_2 rfl rfl ?_
  refine V_callQC (K := (0, 0)) [.int v1, .int v2] [] X E hZ dX11_answer_3 (kX11_asked x.2.1 z hZ N h hh v1 v2 σ) co11 hh gcX11_115 hyX11_asked rfl ⟨by decide, by decide⟩ rfl (Nat.le_of_ble_eq_true rfl) (fun s2 => ?_) (fun r1 s2 hb3 => ?_)
  · refine V_astoreN (L' := [(4, .null), (0, .ref (z.2.2.1 h)), (1, .int v1), (2, .int v2), (3, .int v3)]) X dX11_answer_6 (by decide) rfl ?_
    refine V_aloadN 0 X dX11_answer_8 rfl ?_
    refine V_ifnonnullN X dX11_answer_10 ?_
    refine V_iconst (v := -1) X dX11_answer_13 (by decide) ?_
    exact V_iret X E hr dX11_answer_14
  · refine V_astore (L' := [(4, .ref (z.2.2.1 r1)), (0, .ref (z.2.2.1 h)), (1, .int v1), (2, .int v2), (3, .int v3)]) X dX11_answer_6 (by decide) rfl ?_
    refine V_aload 0 X dX11_answer_8 rfl ?_
    refine V_ifnonnull (tgt := 15) X dX11_answer_10 (by decide) ?_
    refine V_aload_n 1 X dX11_answer_15 rfl rfl ?_
    refine V_getR (k1 := (h + 192)) 4 X dX11_answer_16 co11 hh (by decide) rfl rfl wfX11_34 ?_
    refine V_aload 0 X dX11_answer_19 rfl ?_
    refine V_callV [.ref (z.2.2.1 r1)] [] X E dX11_answer_21 (kX2_enter x.2.1 z hZ N (h + 192) (kt11_4 hZ hh) r1 hb3 s2) co2 (kt11_4 hZ hh) gcX11_119 hyX2_enter rfl ⟨by decide, by decide⟩ rfl (Nat.le_of_ble_eq_true rfl) (fun r4 s5 => ?_)
    refine V_aload_n 1 X dX11_answer_24 rfl rfl ?_
    refine V_getR (k1 := (h + 192)) 4 X dX11_answer_25 co11 hh (by decide) rfl rfl wfX11_34 ?_
    refine V_iload_n 3 X dX11_answer_28 rfl rfl ?_
    refine V_callI [.int v2] [] X E dX11_answer_29 (kX2_vote x.2.1 z hZ N (h + 192) (kt11_4 hZ hh) v2 s5) co2 (kt11_4 hZ hh) gcX11_123 hyX2_vote rfl ⟨by decide, by decide⟩ rfl (Nat.le_of_ble_eq_true rfl) (fun r6 s7 => ?_)
    refine V_pop X dX11_answer_32 rfl ?_
    refine V_iload_n 4 X dX11_answer_33 rfl rfl ?_
    refine V_if_ne (tgt := 60) X dX11_answer_34 (by decide) ?_ ?_
    · refine V_iload_n 4 X dX11_answer_60 rfl rfl ?_
      refine V_iconst (v := 1) X dX11_answer_61 (by decide) ?_
      refine V_icmp_ne (tgt := 73) X dX11_answer_62 (by decide) ?_ ?_
      · refine V_iload_n 4 X dX11_answer_73 rfl rfl ?_
        refine V_iconst (v := 2) X dX11_answer_74 (by decide) ?_
        refine V_icmp_ne (tgt := 86) X dX11_answer_75 (by decide) ?_ ?_
        · refine V_iload_n 4 X dX11_answer_86 rfl rfl ?_
          refine V_bipush (v := 10) X dX11_answer_87 (by decide) ?_
          refine V_icmp_lt (tgt := 117) X dX11_answer_89 (by decide) ?_ ?_
          · refine V_sub [1, 4, 0] rfl ?_
            exact bX11_answer_117 X E hr hZ N h hh v3 r1 hb3 s7
          · refine V_iload_n 4 X dX11_answer_92 rfl rfl ?_
            refine V_bipush (v := 10) X dX11_answer_93 (by decide) ?_
            refine V_aload 0 X dX11_answer_95 rfl ?_
            refine V_getI 0 X dX11_answer_97 co0 hb3 (by decide) rfl wfX11_132 ?_
            refine V_iadd X dX11_answer_100 ?_
            refine V_icmp_ge (tgt := 117) X dX11_answer_101 (by decide) ?_ ?_
            · refine V_sub [1, 4, 0] rfl ?_
              exact bX11_answer_117 X E hr hZ N h hh v3 r1 hb3 s7
            · refine V_aload_n 1 X dX11_answer_104 rfl rfl ?_
              refine V_getR (k1 := (h + 192)) 4 X dX11_answer_105 co11 hh (by decide) rfl rfl wfX11_34 ?_
              refine V_iload_n 4 X dX11_answer_108 rfl rfl ?_
              refine V_bipush (v := 10) X dX11_answer_109 (by decide) ?_
              refine V_isub X dX11_answer_111 ?_
              refine V_iload_n 3 X dX11_answer_112 rfl rfl ?_
              refine V_callI [.int (v3 - 10), .int v2] [] X E dX11_answer_113 (kX2_loud x.2.1 z hZ N (h + 192) (kt11_4 hZ hh) (v3 - 10) v2 s7) co2 (kt11_4 hZ hh) gcX11_135 hyX2_loud rfl ⟨by decide, by decide⟩ rfl (Nat.le_of_ble_eq_true rfl) (fun r8 s9 => ?_)
              exact V_iret X E hr dX11_answer_116
        · refine V_aload_n 1 X dX11_answer_78 rfl rfl ?_
          refine V_getR (k1 := (h + 192)) 4 X dX11_answer_79 co11 hh (by decide) rfl rfl wfX11_34 ?_
          refine V_getI 6 X dX11_answer_82 co2 (kt11_4 hZ hh) (by decide) rfl wfX11_129 ?_
          exact V_iret X E hr dX11_answer_85
      · refine V_aload_n 1 X dX11_answer_65 rfl rfl ?_
        refine V_getR (k1 := (h + 192)) 4 X dX11_answer_66 co11 hh (by decide) rfl rfl wfX11_34 ?_
        refine V_getI 5 X dX11_answer_69 co2 (kt11_4 hZ hh) (by decide) rfl wfX11_126 ?_
        exact V_iret X E hr dX11_answer_72
    · refine V_aload_n 1 X dX11_answer_37 rfl rfl ?_
      refine V_getR (k1 := (h + 192)) 4 X dX11_answer_38 co11 hh (by decide) rfl rfl wfX11_34 ?_
      refine V_getI 5 X dX11_answer_41 co2 (kt11_4 hZ hh) (by decide) rfl wfX11_126 ?_
      refine V_aload_n 1 X dX11_answer_44 rfl rfl ?_
      refine V_getR (k1 := (h + 192)) 4 X dX11_answer_45 co11 hh (by decide) rfl rfl wfX11_34 ?_
      refine V_getI 6 X dX11_answer_48 co2 (kt11_4 hZ hh) (by decide) rfl wfX11_129 ?_
      refine V_icmp_le (tgt := 58) X dX11_answer_51 (by decide) ?_ ?_
      · refine V_iconst (v := 0) X dX11_answer_58 (by decide) ?_
        exact V_iret X E hr dX11_answer_59
      · refine V_iconst (v := 1) X dX11_answer_54 (by decide) ?_
        refine V_goto (tgt := 59) X dX11_answer_55 (by decide) ?_
        exact V_iret X E hr dX11_answer_59
theorem kX11_answer (l : Launch) (z : Sx) (hZ : z.2.2.2.1 = kdC) (N : Nat) (h : Nat) (hh : z.2.2.2.1 h = (11, 0)) (v1 : Int32) (v2 : Int32) (v3 : Int32) (σ : Mem) : Ct QI yX11_answer cX11_answer 5 (some .int) 4 95 l z [.ref (z.2.2.1 h), .int v1, .int v2, .int v3] σ (fX11_answer N h v1 v2 v3 σ) := by
  refine Ct_of (by decide +kernel) (Nat.le_of_ble_eq_true rfl) rfl ?_
  intro x _ X E hr
  exact bX11_answer_0 X E hr hZ N h hh v1 v2 v3 σ
def fX9_sessionAt (N : Nat) (h : Nat) (v1 : Int32) (σ : Mem) : Option (Option Nat × Mem) :=
  bd (fX9_isThere N h 1 v1 σ) (fun r1 s2 => if r1 = 0 then some (none, s2) else gd (inb v1 2) (some (some (raE 61 (h + 4) v1.toNatClampNeg), s2)))
set_option maxRecDepth 100000 in
set_option maxHeartbeats 4000000 in
theorem bX9_sessionAt_0 {x : Cx} {z : Sx} (X : XG x z RX9 cX9_sessionAt 2 1 22) (E : XE x z) (hr : XR x (some (.object "FurnitureVotes$Session"))) (hZ : z.2.2.2.1 = kdC) (N : Nat) (h : Nat) (hh : z.2.2.2.1 h = (9, 0)) (v1 : Int32) (σ : Mem) : VK x z 2 (BQ QQ x z) 0 [(0, .ref (z.2.2.1 h)), (1, .int v1)] [] σ (fX9_sessionAt N h v1 σ) := by
  unfold fX9_sessionAt
  refine V_aload_n 0 X dX9_sessionAt_0 rfl rfl ?_
  refine V_iconst (v := 1) X dX9_sessionAt_1 (by decide) ?_
  refine V_iload_n 1 X dX9_sessionAt_2 rfl rfl ?_
  refine V_callI [.int 1, .int v1] [] X E dX9_sessionAt_3 (kX9_isThere x.2.1 z hZ N h hh 1 v1 σ) co9 hh gcX9_77 hyX9_isThere rfl ⟨by decide, by decide⟩ rfl (Nat.le_of_ble_eq_true rfl) (fun r1 s2 => ?_)
  refine V_if_eq (tgt := 18) X dX9_sessionAt_6 (by decide) ?_ ?_
  · refine V_null X dX9_sessionAt_18 ?_
    exact V_aretN X E hr dX9_sessionAt_19
  · refine V_aload_n 0 X dX9_sessionAt_9 rfl rfl ?_
    refine V_getR (k1 := (h + 4)) 6 X dX9_sessionAt_10 co9 hh (by decide) rfl rfl wfX9_31 ?_
    refine V_iload_n 1 X dX9_sessionAt_13 rfl rfl ?_
    refine V_aald61 X dX9_sessionAt_14 (kt9_6 hZ hh) (fun hi3 => ?_)
    refine V_goto (tgt := 19) X dX9_sessionAt_15 (by decide) ?_
    exact V_aret X E hr dX9_sessionAt_19
theorem kX9_sessionAt (l : Launch) (z : Sx) (hZ : z.2.2.2.1 = kdC) (N : Nat) (h : Nat) (hh : z.2.2.2.1 h = (9, 0)) (v1 : Int32) (σ : Mem) : Ct QQ yX9_sessionAt cX9_sessionAt 2 (some (.object "FurnitureVotes$Session")) 1 22 l z [.ref (z.2.2.1 h), .int v1] σ (fX9_sessionAt N h v1 σ) := by
  refine Ct_of (by decide +kernel) (Nat.le_of_ble_eq_true rfl) rfl ?_
  intro x _ X E hr
  exact bX9_sessionAt_0 X E hr hZ N h hh v1 σ
def fX8_tell (N : Nat) (h : Nat) (v1 : Int32) (v2 : Int32) (σ : Mem) : Option (Int32 × Mem) :=
  if v1 = (-1) then if v2 = 0 then some ((σ.1 h 0), σ) else some ((-2), σ) else if v1 < 0 then some ((-2), σ) else if v1 < (σ.1 h 0) then if v2 = 0 then gd (inb v1 40) (some ((σ.1 (h + 1) v1.toNatClampNeg), σ)) else if v2 = 1 then gd (inb v1 40) (some ((σ.1 (h + 2) v1.toNatClampNeg), σ)) else if v2 = 2 then gd (inb v1 40) (some ((σ.1 (h + 3) v1.toNatClampNeg), σ)) else some ((-2), σ) else some ((-2), σ)
set_option maxRecDepth 100000 in
set_option maxHeartbeats 4000000 in
theorem bX8_tell_0 {x : Cx} {z : Sx} (X : XG x z RX8 cX8_tell 3 0 0) (E : XE x z) (hr : XR x (some .int)) (hZ : z.2.2.2.1 = kdC) (N : Nat) (h : Nat) (hh : z.2.2.2.1 h = (8, 0)) (v1 : Int32) (v2 : Int32) (σ : Mem) : VK x z 3 (BQ QI x z) 0 [(0, .ref (z.2.2.1 h)), (1, .int v1), (2, .int v2)] [] σ (fX8_tell N h v1 v2 σ) := by
  unfold fX8_tell
  refine V_iload_n 1 X dX8_tell_0 rfl rfl ?_
  refine V_iconst (v := -1) X dX8_tell_1 (by decide) ?_
  refine V_icmp_ne (tgt := 19) X dX8_tell_2 (by decide) ?_ ?_
  · refine V_iload_n 1 X dX8_tell_19 rfl rfl ?_
    refine V_if_lt (tgt := 31) X dX8_tell_20 (by decide) ?_ ?_
    · refine V_bipush (v := -2) X dX8_tell_31 (by decide) ?_
      exact V_iret X E hr dX8_tell_33
    · refine V_iload_n 1 X dX8_tell_23 rfl rfl ?_
      refine V_aload_n 0 X dX8_tell_24 rfl rfl ?_
      refine V_getI 0 X dX8_tell_25 co8 hh (by decide) rfl wfX8_21 ?_
      refine V_icmp_lt (tgt := 34) X dX8_tell_28 (by decide) ?_ ?_
      · refine V_iload_n 2 X dX8_tell_34 rfl rfl ?_
        refine V_if_ne (tgt := 45) X dX8_tell_35 (by decide) ?_ ?_
        · refine V_iload_n 2 X dX8_tell_45 rfl rfl ?_
          refine V_iconst (v := 1) X dX8_tell_46 (by decide) ?_
          refine V_icmp_ne (tgt := 57) X dX8_tell_47 (by decide) ?_ ?_
          · refine V_iload_n 2 X dX8_tell_57 rfl rfl ?_
            refine V_iconst (v := 2) X dX8_tell_58 (by decide) ?_
            refine V_icmp_ne (tgt := 71) X dX8_tell_59 (by decide) ?_ ?_
            · refine V_bipush (v := -2) X dX8_tell_71 (by decide) ?_
              exact V_iret X E hr dX8_tell_73
            · refine V_aload_n 0 X dX8_tell_62 rfl rfl ?_
              refine V_getR (k1 := (h + 3)) 3 X dX8_tell_63 co8 hh (by decide) rfl rfl wfX8_18 ?_
              refine V_iload_n 1 X dX8_tell_66 rfl rfl ?_
              refine V_iald X dX8_tell_67 (kt8_3 hZ hh) ?_
              refine V_goto (tgt := 73) X dX8_tell_68 (by decide) ?_
              exact V_iret X E hr dX8_tell_73
          · refine V_aload_n 0 X dX8_tell_50 rfl rfl ?_
            refine V_getR (k1 := (h + 2)) 2 X dX8_tell_51 co8 hh (by decide) rfl rfl wfX8_15 ?_
            refine V_iload_n 1 X dX8_tell_54 rfl rfl ?_
            refine V_iald X dX8_tell_55 (kt8_2 hZ hh) ?_
            exact V_iret X E hr dX8_tell_56
        · refine V_aload_n 0 X dX8_tell_38 rfl rfl ?_
          refine V_getR (k1 := (h + 1)) 1 X dX8_tell_39 co8 hh (by decide) rfl rfl wfX8_9 ?_
          refine V_iload_n 1 X dX8_tell_42 rfl rfl ?_
          refine V_iald X dX8_tell_43 (kt8_1 hZ hh) ?_
          exact V_iret X E hr dX8_tell_44
      · refine V_bipush (v := -2) X dX8_tell_31 (by decide) ?_
        exact V_iret X E hr dX8_tell_33
  · refine V_iload_n 2 X dX8_tell_5 rfl rfl ?_
    refine V_if_ne (tgt := 16) X dX8_tell_6 (by decide) ?_ ?_
    · refine V_bipush (v := -2) X dX8_tell_16 (by decide) ?_
      exact V_iret X E hr dX8_tell_18
    · refine V_aload_n 0 X dX8_tell_9 rfl rfl ?_
      refine V_getI 0 X dX8_tell_10 co8 hh (by decide) rfl wfX8_21 ?_
      refine V_goto (tgt := 18) X dX8_tell_13 (by decide) ?_
      exact V_iret X E hr dX8_tell_18
theorem kX8_tell (l : Launch) (z : Sx) (hZ : z.2.2.2.1 = kdC) (N : Nat) (h : Nat) (hh : z.2.2.2.1 h = (8, 0)) (v1 : Int32) (v2 : Int32) (σ : Mem) : Ct QI yX8_tell cX8_tell 3 (some .int) 0 0 l z [.ref (z.2.2.1 h), .int v1, .int v2] σ (fX8_tell N h v1 v2 σ) := by
  refine Ct_of (by decide +kernel) (Nat.le_of_ble_eq_true rfl) rfl ?_
  intro x _ X E hr
  exact bX8_tell_0 X E hr hZ N h hh v1 v2 σ
def fX11_deed (N : Nat) (h : Nat) (v1 : Int32) (v2 : Int32) (v3 : Int32) (σ : Mem) : Option (Int32 × Mem) :=
  bd (fX9_sessionAt N (h + 1) v1 σ) (fun or1 s2 => mqK (8, 0) or1 (some ((-2), s2)) (fun r1 => bd (fX8_tell N r1 v2 v3 s2) (fun r4 s5 => some (r4, s5))))
set_option maxRecDepth 100000 in
set_option maxHeartbeats 4000000 in
theorem bX11_deed_0 {x : Cx} {z : Sx} (X : XG x z RX11 cX11_deed 5 2 43) (E : XE x z) (hr : XR x (some .int)) (hZ : z.2.2.2.1 = kdC) (N : Nat) (h : Nat) (hh : z.2.2.2.1 h = (11, 0)) (v1 : Int32) (v2 : Int32) (v3 : Int32) (σ : Mem) : VK x z 5 (BQ QI x z) 0 [(0, .ref (z.2.2.1 h)), (1, .int v1), (2, .int v2), (3, .int v3)] [] σ (fX11_deed N h v1 v2 v3 σ) := by
  unfold fX11_deed
  refine V_aload_n 0 X dX11_deed_0 rfl rfl ?_
  refine V_getR (k1 := (h + 1)) 0 X dX11_deed_1 co11 hh (by decide) rfl rfl wfX11_10 ?_
  refine V_iload_n 1 X dX11_deed_4 rfl rfl ?_
  refine V_callQC (K := (8, 0)) [.int v1] [] X E hZ dX11_deed_5 (kX9_sessionAt x.2.1 z hZ N (h + 1) (kt11_0 hZ hh) v1 σ) co9 (kt11_0 hZ hh) gcX11_142 hyX9_sessionAt rfl ⟨by decide, by decide⟩ rfl (Nat.le_of_ble_eq_true rfl) (fun s2 => ?_) (fun r1 s2 hb3 => ?_)
  · refine V_astoreN (L' := [(4, .null), (0, .ref (z.2.2.1 h)), (1, .int v1), (2, .int v2), (3, .int v3)]) X dX11_deed_8 (by decide) rfl ?_
    refine V_aloadN 0 X dX11_deed_10 rfl ?_
    refine V_ifnonnullN X dX11_deed_12 ?_
    refine V_bipush (v := -2) X dX11_deed_15 (by decide) ?_
    refine V_goto (tgt := 27) X dX11_deed_17 (by decide) ?_
    exact V_iret X E hr dX11_deed_27
  · refine V_astore (L' := [(4, .ref (z.2.2.1 r1)), (0, .ref (z.2.2.1 h)), (1, .int v1), (2, .int v2), (3, .int v3)]) X dX11_deed_8 (by decide) rfl ?_
    refine V_aload 0 X dX11_deed_10 rfl ?_
    refine V_ifnonnull (tgt := 20) X dX11_deed_12 (by decide) ?_
    refine V_aload 0 X dX11_deed_20 rfl ?_
    refine V_iload_n 3 X dX11_deed_22 rfl rfl ?_
    refine V_iload_n 4 X dX11_deed_23 rfl rfl ?_
    refine V_callI [.int v2, .int v3] [] X E dX11_deed_24 (kX8_tell x.2.1 z hZ N r1 hb3 v2 v3 s2) co8 hb3 gcX11_146 hyX8_tell rfl ⟨by decide, by decide⟩ rfl (Nat.le_of_ble_eq_true rfl) (fun r4 s5 => ?_)
    exact V_iret X E hr dX11_deed_27
theorem kX11_deed (l : Launch) (z : Sx) (hZ : z.2.2.2.1 = kdC) (N : Nat) (h : Nat) (hh : z.2.2.2.1 h = (11, 0)) (v1 : Int32) (v2 : Int32) (v3 : Int32) (σ : Mem) : Ct QI yX11_deed cX11_deed 5 (some .int) 2 43 l z [.ref (z.2.2.1 h), .int v1, .int v2, .int v3] σ (fX11_deed N h v1 v2 v3 σ) := by
  refine Ct_of (by decide +kernel) (Nat.le_of_ble_eq_true rfl) rfl ?_
  intro x _ X E hr
  exact bX11_deed_0 X E hr hZ N h hh v1 v2 v3 σ
def fX1_begin (N : Nat) (h : Nat) (v1 : Nat) (σ : Mem) : Option (Unit × Mem) :=
  bd (fX2_enter N (h + 1) v1 σ) (fun r1 s2 => lt_ (pI s2 h 1 0) (fun s3 => lt_ (pI s3 h 2 0) (fun s4 => lt_ (pI s4 h 3 0) (fun s5 => lt_ (pI s5 h 4 0) (fun s6 => lt_ (pI s6 h 5 (-1)) (fun s7 => bd (fJ7_fill_53178 N (h + 14) 0 s7) (fun r8 s9 => some ((), s9))))))))
set_option maxRecDepth 100000 in
set_option maxHeartbeats 4000000 in
theorem bX1_begin_0 {x : Cx} {z : Sx} (X : XG x z RX1 cX1_begin 2 3 69) (E : XE x z) (hr : XR x none) (hZ : z.2.2.2.1 = kdC) (N : Nat) (h : Nat) (hh : z.2.2.2.1 h = (1, 0)) (v1 : Nat) (hk1 : z.2.2.2.1 v1 = (0, 0)) (σ : Mem) : VK x z 2 (BQ QV x z) 0 [(0, .ref (z.2.2.1 h)), (1, .ref (z.2.2.1 v1))] [] σ (fX1_begin N h v1 σ) := by
  unfold fX1_begin
  refine V_aload_n 0 X dX1_begin_0 rfl rfl ?_
  refine V_getR (k1 := (h + 1)) 0 X dX1_begin_1 co1 hh (by decide) rfl rfl wfX1_12 ?_
  refine V_aload_n 1 X dX1_begin_4 rfl rfl ?_
  refine V_callV [.ref (z.2.2.1 v1)] [] X E dX1_begin_5 (kX2_enter x.2.1 z hZ N (h + 1) (kt1_0 hZ hh) v1 hk1 σ) co2 (kt1_0 hZ hh) gcX1_22 hyX2_enter rfl ⟨by decide, by decide⟩ rfl (Nat.le_of_ble_eq_true rfl) (fun r1 s2 => ?_)
  refine V_aload_n 0 X dX1_begin_8 rfl rfl ?_
  refine V_iconst (v := 0) X dX1_begin_9 (by decide) ?_
  refine V_putIG 1 X dX1_begin_10 co1 hh (by decide) rfl wfX1_26 rfl rfl rfl (fun s3 => ?_)
  refine V_aload_n 0 X dX1_begin_13 rfl rfl ?_
  refine V_iconst (v := 0) X dX1_begin_14 (by decide) ?_
  refine V_putIG 2 X dX1_begin_15 co1 hh (by decide) rfl wfX1_30 rfl rfl rfl (fun s4 => ?_)
  refine V_aload_n 0 X dX1_begin_18 rfl rfl ?_
  refine V_iconst (v := 0) X dX1_begin_19 (by decide) ?_
  refine V_putIG 3 X dX1_begin_20 co1 hh (by decide) rfl wfX1_33 rfl rfl rfl (fun s5 => ?_)
  refine V_aload_n 0 X dX1_begin_23 rfl rfl ?_
  refine V_iconst (v := 0) X dX1_begin_24 (by decide) ?_
  refine V_putIG 4 X dX1_begin_25 co1 hh (by decide) rfl wfX1_36 rfl rfl rfl (fun s6 => ?_)
  refine V_aload_n 0 X dX1_begin_28 rfl rfl ?_
  refine V_iconst (v := -1) X dX1_begin_29 (by decide) ?_
  refine V_putIG 5 X dX1_begin_30 co1 hh (by decide) rfl wfX1_39 rfl rfl rfl (fun s7 => ?_)
  refine V_aload_n 0 X dX1_begin_33 rfl rfl ?_
  refine V_getR (k1 := (h + 14)) 7 X dX1_begin_34 co1 hh (by decide) rfl rfl wfX1_18 ?_
  refine V_iconst (v := 0) X dX1_begin_37 (by decide) ?_
  refine V_calSV [.ref (z.2.2.1 (h + 14)), .int 0] [] X E dX1_begin_38 (kJ7_fill_53178 x.2.1 z hZ N (h + 14) 0 (kt1_7 hZ hh) s7) gcX1_42 hyJ7_fill_53178 rfl ⟨by decide, by decide⟩ rfl (Nat.le_of_ble_eq_true rfl) (fun r8 s9 => ?_)
  exact V_vret X E hr dX1_begin_41
theorem kX1_begin (l : Launch) (z : Sx) (hZ : z.2.2.2.1 = kdC) (N : Nat) (h : Nat) (hh : z.2.2.2.1 h = (1, 0)) (v1 : Nat) (hk1 : z.2.2.2.1 v1 = (0, 0)) (σ : Mem) : Ct QV yX1_begin cX1_begin 2 none 3 69 l z [.ref (z.2.2.1 h), .ref (z.2.2.1 v1)] σ (fX1_begin N h v1 σ) := by
  refine Ct_of (by decide +kernel) (Nat.le_of_ble_eq_true rfl) rfl ?_
  intro x _ X E hr
  exact bX1_begin_0 X E hr hZ N h hh v1 hk1 σ
def fX2_seatPerson (N : Nat) (h : Nat) (v1 : Int32) (v2 : Int32) (σ : Mem) : Option (Unit × Mem) :=
  bd (fX0_hasPerson N (h + 1) v1 σ) (fun r1 s2 => if r1 = 0 then some ((), s2) else gd (inb v1 6) (gd (inb v1 6) (bd (fX2_putLoad N h (s2.1 ((h + 1) + 8) v1.toNatClampNeg) (-(s2.1 ((h + 1) + 7) v1.toNatClampNeg)) s2) (fun r3 s4 => gd (inb v1 6) (bd (fX2_putLoad N h v2 (s4.1 ((h + 1) + 7) v1.toNatClampNeg) s4) (fun r5 s6 => gd (inb v1 6) (lt_ (pI s6 ((h + 1) + 8) v1.toNatClampNeg v2) (fun s7 => some ((), s7)))))))))
set_option maxRecDepth 100000 in
set_option maxHeartbeats 4000000 in
theorem bX2_seatPerson_0 {x : Cx} {z : Sx} (X : XG x z RX2 cX2_seatPerson 3 2 43) (E : XE x z) (hr : XR x none) (hZ : z.2.2.2.1 = kdC) (N : Nat) (h : Nat) (hh : z.2.2.2.1 h = (2, 0)) (v1 : Int32) (v2 : Int32) (σ : Mem) : VK x z 3 (BQ QV x z) 0 [(0, .ref (z.2.2.1 h)), (1, .int v1), (2, .int v2)] [] σ (fX2_seatPerson N h v1 v2 σ) := by
  unfold fX2_seatPerson
  refine V_aload_n 0 X dX2_seatPerson_0 rfl rfl ?_
  refine V_getR (k1 := (h + 1)) 0 X dX2_seatPerson_1 co2 hh (by decide) rfl rfl wfX2_12 ?_
  refine V_iload_n 1 X dX2_seatPerson_4 rfl rfl ?_
  refine V_callI [.int v1] [] X E dX2_seatPerson_5 (kX0_hasPerson x.2.1 z hZ N (h + 1) (kt2_0 hZ hh) v1 σ) co0 (kt2_0 hZ hh) gcX2_65 hyX0_hasPerson rfl ⟨by decide, by decide⟩ rfl (Nat.le_of_ble_eq_true rfl) (fun r1 s2 => ?_)
  refine V_if_ne (tgt := 12) X dX2_seatPerson_8 (by decide) ?_ ?_
  · refine V_aload_n 0 X dX2_seatPerson_12 rfl rfl ?_
    refine V_aload_n 0 X dX2_seatPerson_13 rfl rfl ?_
    refine V_getR (k1 := (h + 1)) 0 X dX2_seatPerson_14 co2 hh (by decide) rfl rfl wfX2_12 ?_
    refine V_getR (k1 := ((h + 1) + 8)) 10 X dX2_seatPerson_17 co0 (kt2_0 hZ hh) (by decide) rfl rfl wfX2_51 ?_
    refine V_iload_n 1 X dX2_seatPerson_20 rfl rfl ?_
    refine V_iald X dX2_seatPerson_21 (kt0_10 hZ (kt2_0 hZ hh)) ?_
    refine V_aload_n 0 X dX2_seatPerson_22 rfl rfl ?_
    refine V_getR (k1 := (h + 1)) 0 X dX2_seatPerson_23 co2 hh (by decide) rfl rfl wfX2_12 ?_
    refine V_getR (k1 := ((h + 1) + 7)) 9 X dX2_seatPerson_26 co0 (kt2_0 hZ hh) (by decide) rfl rfl wfX2_54 ?_
    refine V_iload_n 1 X dX2_seatPerson_29 rfl rfl ?_
    refine V_iald X dX2_seatPerson_30 (kt0_9 hZ (kt2_0 hZ hh)) ?_
    refine V_ineg X dX2_seatPerson_31 ?_
    refine V_callV [.int (s2.1 ((h + 1) + 8) v1.toNatClampNeg), .int (-(s2.1 ((h + 1) + 7) v1.toNatClampNeg))] [] X E dX2_seatPerson_32 (kX2_putLoad x.2.1 z hZ N h hh (s2.1 ((h + 1) + 8) v1.toNatClampNeg) (-(s2.1 ((h + 1) + 7) v1.toNatClampNeg)) s2) co2 hh gcX2_57 hyX2_putLoad rfl ⟨by decide, by decide⟩ rfl (Nat.le_of_ble_eq_true rfl) (fun r3 s4 => ?_)
    refine V_aload_n 0 X dX2_seatPerson_35 rfl rfl ?_
    refine V_iload_n 2 X dX2_seatPerson_36 rfl rfl ?_
    refine V_aload_n 0 X dX2_seatPerson_37 rfl rfl ?_
    refine V_getR (k1 := (h + 1)) 0 X dX2_seatPerson_38 co2 hh (by decide) rfl rfl wfX2_12 ?_
    refine V_getR (k1 := ((h + 1) + 7)) 9 X dX2_seatPerson_41 co0 (kt2_0 hZ hh) (by decide) rfl rfl wfX2_54 ?_
    refine V_iload_n 1 X dX2_seatPerson_44 rfl rfl ?_
    refine V_iald X dX2_seatPerson_45 (kt0_9 hZ (kt2_0 hZ hh)) ?_
    refine V_callV [.int v2, .int (s4.1 ((h + 1) + 7) v1.toNatClampNeg)] [] X E dX2_seatPerson_46 (kX2_putLoad x.2.1 z hZ N h hh v2 (s4.1 ((h + 1) + 7) v1.toNatClampNeg) s4) co2 hh gcX2_57 hyX2_putLoad rfl ⟨by decide, by decide⟩ rfl (Nat.le_of_ble_eq_true rfl) (fun r5 s6 => ?_)
    refine V_aload_n 0 X dX2_seatPerson_49 rfl rfl ?_
    refine V_getR (k1 := (h + 1)) 0 X dX2_seatPerson_50 co2 hh (by decide) rfl rfl wfX2_12 ?_
    refine V_getR (k1 := ((h + 1) + 8)) 10 X dX2_seatPerson_53 co0 (kt2_0 hZ hh) (by decide) rfl rfl wfX2_51 ?_
    refine V_iload_n 1 X dX2_seatPerson_56 rfl rfl ?_
    refine V_iload_n 2 X dX2_seatPerson_57 rfl rfl ?_
    refine V_iastG X dX2_seatPerson_58 (kt0_10 hZ (kt2_0 hZ hh)) (fun s7 => ?_)
    exact V_vret X E hr dX2_seatPerson_59
  · exact V_vret X E hr dX2_seatPerson_11
theorem kX2_seatPerson (l : Launch) (z : Sx) (hZ : z.2.2.2.1 = kdC) (N : Nat) (h : Nat) (hh : z.2.2.2.1 h = (2, 0)) (v1 : Int32) (v2 : Int32) (σ : Mem) : Ct QV yX2_seatPerson cX2_seatPerson 3 none 2 43 l z [.ref (z.2.2.1 h), .int v1, .int v2] σ (fX2_seatPerson N h v1 v2 σ) := by
  refine Ct_of (by decide +kernel) (Nat.le_of_ble_eq_true rfl) rfl ?_
  intro x _ X E hr
  exact bX2_seatPerson_0 X E hr hZ N h hh v1 v2 σ
def fX2_goOver_b45 (N : Nat) (h : Nat) (rc14 : Int32 → Int32 → Mem → Option (Unit × Mem)) (v1 : Int32) (v2 : Int32) (σ : Mem) : Option (Unit × Mem) :=
  lt_ (v2 + 1) (fun v2_5 => rc14 v1 v2_5 σ)
set_option maxRecDepth 100000 in
set_option maxHeartbeats 4000000 in
theorem bX2_goOver_45 {x : Cx} {z : Sx} (X : XG x z RX2 cX2_goOver 3 3 65) (E : XE x z) (hr : XR x none) (hZ : z.2.2.2.1 = kdC) (N : Nat) (h : Nat) (hh : z.2.2.2.1 h = (2, 0)) (rc14 : Int32 → Int32 → Mem → Option (Unit × Mem)) (hc14 : ∀ (v1 : Int32) (v2 : Int32) (σ : Mem), VK x z 3 (BQ QV x z) 14 [(0, .ref (z.2.2.1 h)), (1, .int v1), (2, .int v2)] [] σ (rc14 v1 v2 σ)) (v1 : Int32) (v2 : Int32) (σ : Mem) : VK x z 3 (BQ QV x z) 45 [(0, .ref (z.2.2.1 h)), (1, .int v1), (2, .int v2)] [] σ (fX2_goOver_b45 N h rc14 v1 v2 σ) := by
  unfold fX2_goOver_b45
  refine V_iincG (L' := fun v2_5 => [(2, .int v2_5), (0, .ref (z.2.2.1 h)), (1, .int v1)]) 2 X dX2_goOver_45 rfl rfl (by decide) (fun _ => rfl) (fun v2_5 => ?_)
  refine V_goto (tgt := 14) X dX2_goOver_48 (by decide) ?_
  refine V_sub [1, 2, 0] rfl ?_
  exact hc14 v1 v2_5 σ
def fX2_goOver_b14 (N : Nat) (h : Nat) (rc14 : Int32 → Int32 → Mem → Option (Unit × Mem)) (v1 : Int32) (v2 : Int32) (σ : Mem) : Option (Unit × Mem) :=
  if (σ.1 (h + 1) 1) ≤ v2 then some ((), σ) else gd (inb v2 6) (if (σ.1 ((h + 1) + 8) v2.toNatClampNeg) = v1 then bd (fX2_seatPerson N h v2 8 σ) (fun r3 s4 => fX2_goOver_b45 N h rc14 v1 v2 s4) else fX2_goOver_b45 N h rc14 v1 v2 σ)
set_option maxRecDepth 100000 in
set_option maxHeartbeats 4000000 in
theorem bX2_goOver_14 {x : Cx} {z : Sx} (X : XG x z RX2 cX2_goOver 3 3 65) (E : XE x z) (hr : XR x none) (hZ : z.2.2.2.1 = kdC) (N : Nat) (h : Nat) (hh : z.2.2.2.1 h = (2, 0)) (rc14 : Int32 → Int32 → Mem → Option (Unit × Mem)) (hc14 : ∀ (v1 : Int32) (v2 : Int32) (σ : Mem), VK x z 3 (BQ QV x z) 14 [(0, .ref (z.2.2.1 h)), (1, .int v1), (2, .int v2)] [] σ (rc14 v1 v2 σ)) (v1 : Int32) (v2 : Int32) (σ : Mem) : VK x z 3 (BQ QV x z) 14 [(0, .ref (z.2.2.1 h)), (1, .int v1), (2, .int v2)] [] σ (fX2_goOver_b14 N h rc14 v1 v2 σ) := by
  unfold fX2_goOver_b14
  refine V_iload_n 2 X dX2_goOver_14 rfl rfl ?_
  refine V_aload_n 0 X dX2_goOver_15 rfl rfl ?_
  refine V_getR (k1 := (h + 1)) 0 X dX2_goOver_16 co2 hh (by decide) rfl rfl wfX2_12 ?_
  refine V_getI 1 X dX2_goOver_19 co0 (kt2_0 hZ hh) (by decide) rfl wfX2_48 ?_
  refine V_icmp_ge (tgt := 51) X dX2_goOver_22 (by decide) ?_ ?_
  · exact V_vret X E hr dX2_goOver_51
  · refine V_aload_n 0 X dX2_goOver_25 rfl rfl ?_
    refine V_getR (k1 := (h + 1)) 0 X dX2_goOver_26 co2 hh (by decide) rfl rfl wfX2_12 ?_
    refine V_getR (k1 := ((h + 1) + 8)) 10 X dX2_goOver_29 co0 (kt2_0 hZ hh) (by decide) rfl rfl wfX2_51 ?_
    refine V_iload_n 2 X dX2_goOver_32 rfl rfl ?_
    refine V_iald X dX2_goOver_33 (kt0_10 hZ (kt2_0 hZ hh)) ?_
    refine V_iload_n 1 X dX2_goOver_34 rfl rfl ?_
    refine V_icmp_ne (tgt := 45) X dX2_goOver_35 (by decide) ?_ ?_
    · refine V_sub [0, 1, 2] rfl ?_
      exact bX2_goOver_45 X E hr hZ N h hh rc14 hc14 v1 v2 σ
    · refine V_aload_n 0 X dX2_goOver_38 rfl rfl ?_
      refine V_iload_n 2 X dX2_goOver_39 rfl rfl ?_
      refine V_bipush (v := 8) X dX2_goOver_40 (by decide) ?_
      refine V_callV [.int v2, .int 8] [] X E dX2_goOver_42 (kX2_seatPerson x.2.1 z hZ N h hh v2 8 σ) co2 hh gcX2_113 hyX2_seatPerson rfl ⟨by decide, by decide⟩ rfl (Nat.le_of_ble_eq_true rfl) (fun r3 s4 => ?_)
      refine V_sub [0, 1, 2] rfl ?_
      exact bX2_goOver_45 X E hr hZ N h hh rc14 hc14 v1 v2 s4
def fX2_goOver_l14 (N : Nat) (h : Nat) : Nat → Int32 → Int32 → Mem → Option (Unit × Mem)
  | 0 => fun _ _ _ => none
  | n + 1 => fX2_goOver_b14 N h (fX2_goOver_l14 N h n)
theorem lX2_goOver_14 {x : Cx} {z : Sx} (X : XG x z RX2 cX2_goOver 3 3 65) (E : XE x z) (hr : XR x none) (hZ : z.2.2.2.1 = kdC) (N : Nat) (h : Nat) (hh : z.2.2.2.1 h = (2, 0)) (n : Nat) (v1 : Int32) (v2 : Int32) (σ : Mem) : VK x z 3 (BQ QV x z) 14 [(0, .ref (z.2.2.1 h)), (1, .int v1), (2, .int v2)] [] σ (fX2_goOver_l14 N h n v1 v2 σ) := by
  induction n generalizing v1 v2 σ with
  | zero => exact V_none
  | succ n ih => exact bX2_goOver_14 X E hr hZ N h hh (fX2_goOver_l14 N h n) ih v1 v2 σ
def fX2_goOver (N : Nat) (h : Nat) (v1 : Int32) (σ : Mem) : Option (Unit × Mem) :=
  lt_ (pI σ h 4 ((σ.1 h 4) ||| ((1 : Int32) <<< (v1 &&& 31)))) (fun s1 => lt_ 0 (fun v2_2 => fX2_goOver_l14 N h N v1 v2_2 s1))
set_option maxRecDepth 100000 in
set_option maxHeartbeats 4000000 in
theorem bX2_goOver_0 {x : Cx} {z : Sx} (X : XG x z RX2 cX2_goOver 3 3 65) (E : XE x z) (hr : XR x none) (hZ : z.2.2.2.1 = kdC) (N : Nat) (h : Nat) (hh : z.2.2.2.1 h = (2, 0)) (v1 : Int32) (σ : Mem) : VK x z 3 (BQ QV x z) 0 [(0, .ref (z.2.2.1 h)), (1, .int v1)] [] σ (fX2_goOver N h v1 σ) := by
  unfold fX2_goOver
  refine V_aload_n 0 X dX2_goOver_0 rfl rfl ?_
  refine V_dup X dX2_goOver_1 rfl ?_
  refine V_getI 4 X dX2_goOver_2 co2 hh (by decide) rfl wfX2_38 ?_
  refine V_iconst (v := 1) X dX2_goOver_5 (by decide) ?_
  refine V_iload_n 1 X dX2_goOver_6 rfl rfl ?_
  refine V_ishl X dX2_goOver_7 ?_
  refine V_ior X dX2_goOver_8 ?_
  refine V_putIG 4 X dX2_goOver_9 co2 hh (by decide) rfl wfX2_38 rfl rfl rfl (fun s1 => ?_)
  refine V_iconst (v := 0) X dX2_goOver_12 (by decide) ?_
  refine V_istore_nG (L' := fun v2_2 => [(2, .int v2_2), (0, .ref (z.2.2.1 h)), (1, .int v1)]) X dX2_goOver_13 rfl (by decide) (fun _ => rfl) (fun v2_2 => ?_)
  refine V_sub [1, 2, 0] rfl ?_
  exact lX2_goOver_14 X E hr hZ N h hh N v1 v2_2 s1
theorem kX2_goOver (l : Launch) (z : Sx) (hZ : z.2.2.2.1 = kdC) (N : Nat) (h : Nat) (hh : z.2.2.2.1 h = (2, 0)) (v1 : Int32) (σ : Mem) : Ct QV yX2_goOver cX2_goOver 3 none 3 65 l z [.ref (z.2.2.1 h), .int v1] σ (fX2_goOver N h v1 σ) := by
  refine Ct_of (by decide +kernel) (Nat.le_of_ble_eq_true rfl) rfl ?_
  intro x _ X E hr
  exact bX2_goOver_0 X E hr hZ N h hh v1 σ
def fX1_putMotion_b127 (N : Nat) (h : Nat) (rc66 : Int32 → Mem → Option (Unit × Mem)) (v2 : Int32) (σ : Mem) : Option (Unit × Mem) :=
  lt_ (v2 + 1) (fun v2_12 => rc66 v2_12 σ)
set_option maxRecDepth 100000 in
set_option maxHeartbeats 4000000 in
theorem bX1_putMotion_127 {x : Cx} {z : Sx} (X : XG x z RX1 cX1_putMotion 3 4 95) (E : XE x z) (hr : XR x none) (hZ : z.2.2.2.1 = kdC) (N : Nat) (h : Nat) (hh : z.2.2.2.1 h = (1, 0)) (rc66 : Int32 → Mem → Option (Unit × Mem)) (hc66 : ∀ (v2 : Int32) (σ : Mem), VK x z 3 (BQ QV x z) 66 [(0, .ref (z.2.2.1 h)), (2, .int v2)] [] σ (rc66 v2 σ)) (v2 : Int32) (σ : Mem) : VK x z 3 (BQ QV x z) 127 [(0, .ref (z.2.2.1 h)), (2, .int v2)] [] σ (fX1_putMotion_b127 N h rc66 v2 σ) := by
  unfold fX1_putMotion_b127
  refine V_iincG (L' := fun v2_12 => [(2, .int v2_12), (0, .ref (z.2.2.1 h))]) 1 X dX1_putMotion_127 rfl rfl (by decide) (fun _ => rfl) (fun v2_12 => ?_)
  refine V_goto (tgt := 66) X dX1_putMotion_130 (by decide) ?_
  refine V_sub [1, 0] rfl ?_
  exact hc66 v2_12 σ
def fX1_putMotion_b66 (N : Nat) (h : Nat) (rc66 : Int32 → Mem → Option (Unit × Mem)) (v2 : Int32) (σ : Mem) : Option (Unit × Mem) :=
  if (σ.1 ((h + 1) + 1) 0) ≤ v2 then some ((), σ) else gd (inb v2 8) (if (σ.1 ((h + 1) + 12) v2.toNatClampNeg) = 2 then gd (inb v2 8) (gd (inb v2 8) (lt_ (pI σ (h + 14) v2.toNatClampNeg ((σ.1 (h + 14) v2.toNatClampNeg) + 1)) (fun s9 => gd (inb v2 8) (if (s9.1 (((h + 1) + 1) + 1) v2.toNatClampNeg) = 1 then bd (fX2_goOver N (h + 1) v2 s9) (fun r10 s11 => fX1_putMotion_b127 N h rc66 v2 s11) else fX1_putMotion_b127 N h rc66 v2 s9)))) else fX1_putMotion_b127 N h rc66 v2 σ)
set_option maxRecDepth 100000 in
set_option maxHeartbeats 4000000 in
theorem bX1_putMotion_66 {x : Cx} {z : Sx} (X : XG x z RX1 cX1_putMotion 3 4 95) (E : XE x z) (hr : XR x none) (hZ : z.2.2.2.1 = kdC) (N : Nat) (h : Nat) (hh : z.2.2.2.1 h = (1, 0)) (rc66 : Int32 → Mem → Option (Unit × Mem)) (hc66 : ∀ (v2 : Int32) (σ : Mem), VK x z 3 (BQ QV x z) 66 [(0, .ref (z.2.2.1 h)), (2, .int v2)] [] σ (rc66 v2 σ)) (v2 : Int32) (σ : Mem) : VK x z 3 (BQ QV x z) 66 [(0, .ref (z.2.2.1 h)), (2, .int v2)] [] σ (fX1_putMotion_b66 N h rc66 v2 σ) := by
  unfold fX1_putMotion_b66
  refine V_iload_n 1 X dX1_putMotion_66 rfl rfl ?_
  refine V_aload_n 0 X dX1_putMotion_67 rfl rfl ?_
  refine V_getR (k1 := (h + 1)) 0 X dX1_putMotion_68 co1 hh (by decide) rfl rfl wfX1_12 ?_
  refine V_getR (k1 := ((h + 1) + 1)) 0 X dX1_putMotion_71 co2 (kt1_0 hZ hh) (by decide) rfl rfl wfX1_109 ?_
  refine V_getI 0 X dX1_putMotion_74 co0 (kt2_0 hZ (kt1_0 hZ hh)) (by decide) rfl wfX1_113 ?_
  refine V_icmp_ge (tgt := 133) X dX1_putMotion_77 (by decide) ?_ ?_
  · exact V_vret X E hr dX1_putMotion_133
  · refine V_aload_n 0 X dX1_putMotion_80 rfl rfl ?_
    refine V_getR (k1 := (h + 1)) 0 X dX1_putMotion_81 co1 hh (by decide) rfl rfl wfX1_12 ?_
    refine V_getR (k1 := ((h + 1) + 12)) 3 X dX1_putMotion_84 co2 (kt1_0 hZ hh) (by decide) rfl rfl wfX1_118 ?_
    refine V_iload_n 1 X dX1_putMotion_87 rfl rfl ?_
    refine V_iald X dX1_putMotion_88 (kt2_3 hZ (kt1_0 hZ hh)) ?_
    refine V_iconst (v := 2) X dX1_putMotion_89 (by decide) ?_
    refine V_icmp_ne (tgt := 127) X dX1_putMotion_90 (by decide) ?_ ?_
    · refine V_sub [0, 1] rfl ?_
      exact bX1_putMotion_127 X E hr hZ N h hh rc66 hc66 v2 σ
    · refine V_aload_n 0 X dX1_putMotion_93 rfl rfl ?_
      refine V_getR (k1 := (h + 14)) 7 X dX1_putMotion_94 co1 hh (by decide) rfl rfl wfX1_18 ?_
      refine V_iload_n 1 X dX1_putMotion_97 rfl rfl ?_
      refine V_dup2 X dX1_putMotion_98 rfl rfl ?_
      refine V_iald X dX1_putMotion_99 (kt1_7 hZ hh) ?_
      refine V_iconst (v := 1) X dX1_putMotion_100 (by decide) ?_
      refine V_iadd X dX1_putMotion_101 ?_
      refine V_iastG X dX1_putMotion_102 (kt1_7 hZ hh) (fun s9 => ?_)
      refine V_aload_n 0 X dX1_putMotion_103 rfl rfl ?_
      refine V_getR (k1 := (h + 1)) 0 X dX1_putMotion_104 co1 hh (by decide) rfl rfl wfX1_12 ?_
      refine V_getR (k1 := ((h + 1) + 1)) 0 X dX1_putMotion_107 co2 (kt1_0 hZ hh) (by decide) rfl rfl wfX1_109 ?_
      refine V_getR (k1 := (((h + 1) + 1) + 1)) 3 X dX1_putMotion_110 co0 (kt2_0 hZ (kt1_0 hZ hh)) (by decide) rfl rfl wfX1_121 ?_
      refine V_iload_n 1 X dX1_putMotion_113 rfl rfl ?_
      refine V_iald X dX1_putMotion_114 (kt0_3 hZ (kt2_0 hZ (kt1_0 hZ hh))) ?_
      refine V_iconst (v := 1) X dX1_putMotion_115 (by decide) ?_
      refine V_icmp_ne (tgt := 127) X dX1_putMotion_116 (by decide) ?_ ?_
      · refine V_sub [0, 1] rfl ?_
        exact bX1_putMotion_127 X E hr hZ N h hh rc66 hc66 v2 s9
      · refine V_aload_n 0 X dX1_putMotion_119 rfl rfl ?_
        refine V_getR (k1 := (h + 1)) 0 X dX1_putMotion_120 co1 hh (by decide) rfl rfl wfX1_12 ?_
        refine V_iload_n 1 X dX1_putMotion_123 rfl rfl ?_
        refine V_callV [.int v2] [] X E dX1_putMotion_124 (kX2_goOver x.2.1 z hZ N (h + 1) (kt1_0 hZ hh) v2 s9) co2 (kt1_0 hZ hh) gcX1_124 hyX2_goOver rfl ⟨by decide, by decide⟩ rfl (Nat.le_of_ble_eq_true rfl) (fun r10 s11 => ?_)
        refine V_sub [0, 1] rfl ?_
        exact bX1_putMotion_127 X E hr hZ N h hh rc66 hc66 v2 s11
def fX1_putMotion_l66 (N : Nat) (h : Nat) : Nat → Int32 → Mem → Option (Unit × Mem)
  | 0 => fun _ _ => none
  | n + 1 => fX1_putMotion_b66 N h (fX1_putMotion_l66 N h n)
theorem lX1_putMotion_66 {x : Cx} {z : Sx} (X : XG x z RX1 cX1_putMotion 3 4 95) (E : XE x z) (hr : XR x none) (hZ : z.2.2.2.1 = kdC) (N : Nat) (h : Nat) (hh : z.2.2.2.1 h = (1, 0)) (n : Nat) (v2 : Int32) (σ : Mem) : VK x z 3 (BQ QV x z) 66 [(0, .ref (z.2.2.1 h)), (2, .int v2)] [] σ (fX1_putMotion_l66 N h n v2 σ) := by
  induction n generalizing v2 σ with
  | zero => exact V_none
  | succ n ih => exact bX1_putMotion_66 X E hr hZ N h hh (fX1_putMotion_l66 N h n) ih v2 σ
def fX1_putMotion_b64 (N : Nat) (h : Nat) (σ : Mem) : Option (Unit × Mem) :=
  lt_ 0 (fun v2_8 => fX1_putMotion_l66 N h N v2_8 σ)
set_option maxRecDepth 100000 in
set_option maxHeartbeats 4000000 in
theorem bX1_putMotion_64 {x : Cx} {z : Sx} (X : XG x z RX1 cX1_putMotion 3 4 95) (E : XE x z) (hr : XR x none) (hZ : z.2.2.2.1 = kdC) (N : Nat) (h : Nat) (hh : z.2.2.2.1 h = (1, 0)) (σ : Mem) : VK x z 3 (BQ QV x z) 64 [(0, .ref (z.2.2.1 h))] [] σ (fX1_putMotion_b64 N h σ) := by
  unfold fX1_putMotion_b64
  refine V_iconst (v := 0) X dX1_putMotion_64 (by decide) ?_
  refine V_istore_nG (L' := fun v2_8 => [(2, .int v2_8), (0, .ref (z.2.2.1 h))]) X dX1_putMotion_65 rfl (by decide) (fun _ => rfl) (fun v2_8 => ?_)
  refine V_sub [1, 0] rfl ?_
  exact lX1_putMotion_66 X E hr hZ N h hh N v2_8 σ
def fX1_putMotion (N : Nat) (h : Nat) (v1 : Int32) (σ : Mem) : Option (Unit × Mem) :=
  lt_ (pI σ h 1 ((σ.1 h 1) + 1)) (fun s1 => bd (fX2_vote N (h + 1) v1 s1) (fun r2 s3 => if r2 ≤ 0 then lt_ (pI s3 h 3 0) (fun s4 => fX1_putMotion_b64 N h s4) else lt_ (pI s3 h 2 ((s3.1 h 2) + 1)) (fun s5 => lt_ (pI s5 h 3 ((s5.1 h 3) + 1)) (fun s6 => lt_ (pI s6 h 4 (mxI (s6.1 h 4) (s6.1 h 3))) (fun s7 => fX1_putMotion_b64 N h s7)))))
set_option maxRecDepth 100000 in
set_option maxHeartbeats 4000000 in
theorem bX1_putMotion_0 {x : Cx} {z : Sx} (X : XG x z RX1 cX1_putMotion 3 4 95) (E : XE x z) (hr : XR x none) (hZ : z.2.2.2.1 = kdC) (N : Nat) (h : Nat) (hh : z.2.2.2.1 h = (1, 0)) (v1 : Int32) (σ : Mem) : VK x z 3 (BQ QV x z) 0 [(0, .ref (z.2.2.1 h)), (1, .int v1)] [] σ (fX1_putMotion N h v1 σ) := by
  unfold fX1_putMotion
  refine V_aload_n 0 X dX1_putMotion_0 rfl rfl ?_
  refine V_dup X dX1_putMotion_1 rfl ?_
  refine V_getI 1 X dX1_putMotion_2 co1 hh (by decide) rfl wfX1_26 ?_
  refine V_iconst (v := 1) X dX1_putMotion_5 (by decide) ?_
  refine V_iadd X dX1_putMotion_6 ?_
  refine V_putIG 1 X dX1_putMotion_7 co1 hh (by decide) rfl wfX1_26 rfl rfl rfl (fun s1 => ?_)
  refine V_aload_n 0 X dX1_putMotion_10 rfl rfl ?_
  refine V_getR (k1 := (h + 1)) 0 X dX1_putMotion_11 co1 hh (by decide) rfl rfl wfX1_12 ?_
  refine V_iload_n 1 X dX1_putMotion_14 rfl rfl ?_
  refine V_callI [.int v1] [] X E dX1_putMotion_15 (kX2_vote x.2.1 z hZ N (h + 1) (kt1_0 hZ hh) v1 s1) co2 (kt1_0 hZ hh) gcX1_102 hyX2_vote rfl ⟨by decide, by decide⟩ rfl (Nat.le_of_ble_eq_true rfl) (fun r2 s3 => ?_)
  refine V_if_le (tgt := 59) X dX1_putMotion_18 (by decide) ?_ ?_
  · refine V_aload_n 0 X dX1_putMotion_59 rfl rfl ?_
    refine V_iconst (v := 0) X dX1_putMotion_60 (by decide) ?_
    refine V_putIG 3 X dX1_putMotion_61 co1 hh (by decide) rfl wfX1_33 rfl rfl rfl (fun s4 => ?_)
    refine V_sub [0] rfl ?_
    exact bX1_putMotion_64 X E hr hZ N h hh s4
  · refine V_aload_n 0 X dX1_putMotion_21 rfl rfl ?_
    refine V_dup X dX1_putMotion_22 rfl ?_
    refine V_getI 2 X dX1_putMotion_23 co1 hh (by decide) rfl wfX1_30 ?_
    refine V_iconst (v := 1) X dX1_putMotion_26 (by decide) ?_
    refine V_iadd X dX1_putMotion_27 ?_
    refine V_putIG 2 X dX1_putMotion_28 co1 hh (by decide) rfl wfX1_30 rfl rfl rfl (fun s5 => ?_)
    refine V_aload_n 0 X dX1_putMotion_31 rfl rfl ?_
    refine V_dup X dX1_putMotion_32 rfl ?_
    refine V_getI 3 X dX1_putMotion_33 co1 hh (by decide) rfl wfX1_33 ?_
    refine V_iconst (v := 1) X dX1_putMotion_36 (by decide) ?_
    refine V_iadd X dX1_putMotion_37 ?_
    refine V_putIG 3 X dX1_putMotion_38 co1 hh (by decide) rfl wfX1_33 rfl rfl rfl (fun s6 => ?_)
    refine V_aload_n 0 X dX1_putMotion_41 rfl rfl ?_
    refine V_aload_n 0 X dX1_putMotion_42 rfl rfl ?_
    refine V_getI 4 X dX1_putMotion_43 co1 hh (by decide) rfl wfX1_36 ?_
    refine V_aload_n 0 X dX1_putMotion_46 rfl rfl ?_
    refine V_getI 3 X dX1_putMotion_47 co1 hh (by decide) rfl wfX1_33 ?_
    refine V_mmax X dX1_putMotion_50 mtX1_106 mtS_max mtI mtC_max (by decide) (Nat.le_of_ble_eq_true rfl) ?_
    refine V_putIG 4 X dX1_putMotion_53 co1 hh (by decide) rfl wfX1_36 rfl rfl rfl (fun s7 => ?_)
    refine V_goto (tgt := 64) X dX1_putMotion_56 (by decide) ?_
    refine V_sub [0] rfl ?_
    exact bX1_putMotion_64 X E hr hZ N h hh s7
theorem kX1_putMotion (l : Launch) (z : Sx) (hZ : z.2.2.2.1 = kdC) (N : Nat) (h : Nat) (hh : z.2.2.2.1 h = (1, 0)) (v1 : Int32) (σ : Mem) : Ct QV yX1_putMotion cX1_putMotion 3 none 4 95 l z [.ref (z.2.2.1 h), .int v1] σ (fX1_putMotion N h v1 σ) := by
  refine Ct_of (by decide +kernel) (Nat.le_of_ble_eq_true rfl) rfl ?_
  intro x _ X E hr
  exact bX1_putMotion_0 X E hr hZ N h hh v1 σ
def fX1_standsUp (N : Nat) (h : Nat) (v1 : Int32) (σ : Mem) : Option (Int32 × Mem) :=
  bd (fX0_hasPerson N ((h + 1) + 1) v1 σ) (fun r1 s2 => if r1 = 0 then some (0, s2) else gd (inb v1 6) (if (s2.1 (((h + 1) + 1) + 8) v1.toNatClampNeg) = 8 then some (0, s2) else bd (fX2_seatPerson N (h + 1) v1 8 s2) (fun r3 s4 => some (1, s4))))
set_option maxRecDepth 100000 in
set_option maxHeartbeats 4000000 in
theorem bX1_standsUp_0 {x : Cx} {z : Sx} (X : XG x z RX1 cX1_standsUp 2 3 65) (E : XE x z) (hr : XR x (some .boolean)) (hZ : z.2.2.2.1 = kdC) (N : Nat) (h : Nat) (hh : z.2.2.2.1 h = (1, 0)) (v1 : Int32) (σ : Mem) : VK x z 2 (BQ QI x z) 0 [(0, .ref (z.2.2.1 h)), (1, .int v1)] [] σ (fX1_standsUp N h v1 σ) := by
  unfold fX1_standsUp
  refine V_aload_n 0 X dX1_standsUp_0 rfl rfl ?_
  refine V_getR (k1 := (h + 1)) 0 X dX1_standsUp_1 co1 hh (by decide) rfl rfl wfX1_12 ?_
  refine V_getR (k1 := ((h + 1) + 1)) 0 X dX1_standsUp_4 co2 (kt1_0 hZ hh) (by decide) rfl rfl wfX1_109 ?_
  refine V_iload_n 1 X dX1_standsUp_7 rfl rfl ?_
  refine V_callI [.int v1] [] X E dX1_standsUp_8 (kX0_hasPerson x.2.1 z hZ N ((h + 1) + 1) (kt2_0 hZ (kt1_0 hZ hh)) v1 σ) co0 (kt2_0 hZ (kt1_0 hZ hh)) gcX1_127 hyX0_hasPerson rfl ⟨by decide, by decide⟩ rfl (Nat.le_of_ble_eq_true rfl) (fun r1 s2 => ?_)
  refine V_if_eq (tgt := 31) X dX1_standsUp_11 (by decide) ?_ ?_
  · refine V_iconst (v := 0) X dX1_standsUp_31 (by decide) ?_
    exact V_zret X E hr dX1_standsUp_32 (by decide)
  · refine V_aload_n 0 X dX1_standsUp_14 rfl rfl ?_
    refine V_getR (k1 := (h + 1)) 0 X dX1_standsUp_15 co1 hh (by decide) rfl rfl wfX1_12 ?_
    refine V_getR (k1 := ((h + 1) + 1)) 0 X dX1_standsUp_18 co2 (kt1_0 hZ hh) (by decide) rfl rfl wfX1_109 ?_
    refine V_getR (k1 := (((h + 1) + 1) + 8)) 10 X dX1_standsUp_21 co0 (kt2_0 hZ (kt1_0 hZ hh)) (by decide) rfl rfl wfX1_130 ?_
    refine V_iload_n 1 X dX1_standsUp_24 rfl rfl ?_
    refine V_iald X dX1_standsUp_25 (kt0_10 hZ (kt2_0 hZ (kt1_0 hZ hh))) ?_
    refine V_bipush (v := 8) X dX1_standsUp_26 (by decide) ?_
    refine V_icmp_ne (tgt := 33) X dX1_standsUp_28 (by decide) ?_ ?_
    · refine V_aload_n 0 X dX1_standsUp_33 rfl rfl ?_
      refine V_getR (k1 := (h + 1)) 0 X dX1_standsUp_34 co1 hh (by decide) rfl rfl wfX1_12 ?_
      refine V_iload_n 1 X dX1_standsUp_37 rfl rfl ?_
      refine V_bipush (v := 8) X dX1_standsUp_38 (by decide) ?_
      refine V_callV [.int v1, .int 8] [] X E dX1_standsUp_40 (kX2_seatPerson x.2.1 z hZ N (h + 1) (kt1_0 hZ hh) v1 8 s2) co2 (kt1_0 hZ hh) gcX1_133 hyX2_seatPerson rfl ⟨by decide, by decide⟩ rfl (Nat.le_of_ble_eq_true rfl) (fun r3 s4 => ?_)
      refine V_iconst (v := 1) X dX1_standsUp_43 (by decide) ?_
      exact V_zret X E hr dX1_standsUp_44 (by decide)
    · refine V_iconst (v := 0) X dX1_standsUp_31 (by decide) ?_
      exact V_zret X E hr dX1_standsUp_32 (by decide)
theorem kX1_standsUp (l : Launch) (z : Sx) (hZ : z.2.2.2.1 = kdC) (N : Nat) (h : Nat) (hh : z.2.2.2.1 h = (1, 0)) (v1 : Int32) (σ : Mem) : Ct QI yX1_standsUp cX1_standsUp 2 (some .boolean) 3 65 l z [.ref (z.2.2.1 h), .int v1] σ (fX1_standsUp N h v1 σ) := by
  refine Ct_of (by decide +kernel) (Nat.le_of_ble_eq_true rfl) rfl ?_
  intro x _ X E hr
  exact bX1_standsUp_0 X E hr hZ N h hh v1 σ
def fX1_takesWax (N : Nat) (h : Nat) (v1 : Int32) (σ : Mem) : Option (Int32 × Mem) :=
  bd (fX0_hasPiece N ((h + 1) + 1) v1 σ) (fun r1 s2 => if r1 = 0 then some (0, s2) else gd (inb v1 8) (if (s2.1 ((h + 1) + 10) v1.toNatClampNeg) < 9 then gd (inb v1 8) (gd (inb v1 8) (lt_ (pI s2 ((h + 1) + 10) v1.toNatClampNeg ((s2.1 ((h + 1) + 10) v1.toNatClampNeg) + 1)) (fun s3 => some (1, s3)))) else some (0, s2)))
set_option maxRecDepth 100000 in
set_option maxHeartbeats 4000000 in
theorem bX1_takesWax_0 {x : Cx} {z : Sx} (X : XG x z RX1 cX1_takesWax 2 1 21) (E : XE x z) (hr : XR x (some .boolean)) (hZ : z.2.2.2.1 = kdC) (N : Nat) (h : Nat) (hh : z.2.2.2.1 h = (1, 0)) (v1 : Int32) (σ : Mem) : VK x z 2 (BQ QI x z) 0 [(0, .ref (z.2.2.1 h)), (1, .int v1)] [] σ (fX1_takesWax N h v1 σ) := by
  unfold fX1_takesWax
  refine V_aload_n 0 X dX1_takesWax_0 rfl rfl ?_
  refine V_getR (k1 := (h + 1)) 0 X dX1_takesWax_1 co1 hh (by decide) rfl rfl wfX1_12 ?_
  refine V_getR (k1 := ((h + 1) + 1)) 0 X dX1_takesWax_4 co2 (kt1_0 hZ hh) (by decide) rfl rfl wfX1_109 ?_
  refine V_iload_n 1 X dX1_takesWax_7 rfl rfl ?_
  refine V_callI [.int v1] [] X E dX1_takesWax_8 (kX0_hasPiece x.2.1 z hZ N ((h + 1) + 1) (kt2_0 hZ (kt1_0 hZ hh)) v1 σ) co0 (kt2_0 hZ (kt1_0 hZ hh)) gcX1_137 hyX0_hasPiece rfl ⟨by decide, by decide⟩ rfl (Nat.le_of_ble_eq_true rfl) (fun r1 s2 => ?_)
  refine V_if_eq (tgt := 28) X dX1_takesWax_11 (by decide) ?_ ?_
  · refine V_iconst (v := 0) X dX1_takesWax_28 (by decide) ?_
    exact V_zret X E hr dX1_takesWax_29 (by decide)
  · refine V_aload_n 0 X dX1_takesWax_14 rfl rfl ?_
    refine V_getR (k1 := (h + 1)) 0 X dX1_takesWax_15 co1 hh (by decide) rfl rfl wfX1_12 ?_
    refine V_getR (k1 := ((h + 1) + 10)) 1 X dX1_takesWax_18 co2 (kt1_0 hZ hh) (by decide) rfl rfl wfX1_143 ?_
    refine V_iload_n 1 X dX1_takesWax_21 rfl rfl ?_
    refine V_iald X dX1_takesWax_22 (kt2_1 hZ (kt1_0 hZ hh)) ?_
    refine V_bipush (v := 9) X dX1_takesWax_23 (by decide) ?_
    refine V_icmp_lt (tgt := 30) X dX1_takesWax_25 (by decide) ?_ ?_
    · refine V_aload_n 0 X dX1_takesWax_30 rfl rfl ?_
      refine V_getR (k1 := (h + 1)) 0 X dX1_takesWax_31 co1 hh (by decide) rfl rfl wfX1_12 ?_
      refine V_getR (k1 := ((h + 1) + 10)) 1 X dX1_takesWax_34 co2 (kt1_0 hZ hh) (by decide) rfl rfl wfX1_143 ?_
      refine V_iload_n 1 X dX1_takesWax_37 rfl rfl ?_
      refine V_dup2 X dX1_takesWax_38 rfl rfl ?_
      refine V_iald X dX1_takesWax_39 (kt2_1 hZ (kt1_0 hZ hh)) ?_
      refine V_iconst (v := 1) X dX1_takesWax_40 (by decide) ?_
      refine V_iadd X dX1_takesWax_41 ?_
      refine V_iastG X dX1_takesWax_42 (kt2_1 hZ (kt1_0 hZ hh)) (fun s3 => ?_)
      refine V_iconst (v := 1) X dX1_takesWax_43 (by decide) ?_
      exact V_zret X E hr dX1_takesWax_44 (by decide)
    · refine V_iconst (v := 0) X dX1_takesWax_28 (by decide) ?_
      exact V_zret X E hr dX1_takesWax_29 (by decide)
theorem kX1_takesWax (l : Launch) (z : Sx) (hZ : z.2.2.2.1 = kdC) (N : Nat) (h : Nat) (hh : z.2.2.2.1 h = (1, 0)) (v1 : Int32) (σ : Mem) : Ct QI yX1_takesWax cX1_takesWax 2 (some .boolean) 1 21 l z [.ref (z.2.2.1 h), .int v1] σ (fX1_takesWax N h v1 σ) := by
  refine Ct_of (by decide +kernel) (Nat.le_of_ble_eq_true rfl) rfl ?_
  intro x _ X E hr
  exact bX1_takesWax_0 X E hr hZ N h hh v1 σ
def fX1_isSetUp (N : Nat) (h : Nat) (v1 : Int32) (σ : Mem) : Option (Int32 × Mem) :=
  bd (fX0_hasPiece N ((h + 1) + 1) v1 σ) (fun r1 s2 => if r1 = 0 then some (0, s2) else bd (fX2_isOver N (h + 1) v1 s2) (fun r3 s4 => if r3 = 0 then some (0, s4) else lt_ (pI s4 (h + 1) 4 ((s4.1 (h + 1) 4) &&& (((1 : Int32) <<< (v1 &&& 31)) ^^^ (-1)))) (fun s5 => some (1, s5))))
set_option maxRecDepth 100000 in
set_option maxHeartbeats 4000000 in
theorem bX1_isSetUp_0 {x : Cx} {z : Sx} (X : XG x z RX1 cX1_isSetUp 2 1 21) (E : XE x z) (hr : XR x (some .boolean)) (hZ : z.2.2.2.1 = kdC) (N : Nat) (h : Nat) (hh : z.2.2.2.1 h = (1, 0)) (v1 : Int32) (σ : Mem) : VK x z 2 (BQ QI x z) 0 [(0, .ref (z.2.2.1 h)), (1, .int v1)] [] σ (fX1_isSetUp N h v1 σ) := by
  unfold fX1_isSetUp
  refine V_aload_n 0 X dX1_isSetUp_0 rfl rfl ?_
  refine V_getR (k1 := (h + 1)) 0 X dX1_isSetUp_1 co1 hh (by decide) rfl rfl wfX1_12 ?_
  refine V_getR (k1 := ((h + 1) + 1)) 0 X dX1_isSetUp_4 co2 (kt1_0 hZ hh) (by decide) rfl rfl wfX1_109 ?_
  refine V_iload_n 1 X dX1_isSetUp_7 rfl rfl ?_
  refine V_callI [.int v1] [] X E dX1_isSetUp_8 (kX0_hasPiece x.2.1 z hZ N ((h + 1) + 1) (kt2_0 hZ (kt1_0 hZ hh)) v1 σ) co0 (kt2_0 hZ (kt1_0 hZ hh)) gcX1_137 hyX0_hasPiece rfl ⟨by decide, by decide⟩ rfl (Nat.le_of_ble_eq_true rfl) (fun r1 s2 => ?_)
  refine V_if_eq (tgt := 25) X dX1_isSetUp_11 (by decide) ?_ ?_
  · refine V_iconst (v := 0) X dX1_isSetUp_25 (by decide) ?_
    exact V_zret X E hr dX1_isSetUp_26 (by decide)
  · refine V_aload_n 0 X dX1_isSetUp_14 rfl rfl ?_
    refine V_getR (k1 := (h + 1)) 0 X dX1_isSetUp_15 co1 hh (by decide) rfl rfl wfX1_12 ?_
    refine V_iload_n 1 X dX1_isSetUp_18 rfl rfl ?_
    refine V_callI [.int v1] [] X E dX1_isSetUp_19 (kX2_isOver x.2.1 z hZ N (h + 1) (kt1_0 hZ hh) v1 s2) co2 (kt1_0 hZ hh) gcX1_140 hyX2_isOver rfl ⟨by decide, by decide⟩ rfl (Nat.le_of_ble_eq_true rfl) (fun r3 s4 => ?_)
    refine V_if_ne (tgt := 27) X dX1_isSetUp_22 (by decide) ?_ ?_
    · refine V_aload_n 0 X dX1_isSetUp_27 rfl rfl ?_
      refine V_getR (k1 := (h + 1)) 0 X dX1_isSetUp_28 co1 hh (by decide) rfl rfl wfX1_12 ?_
      refine V_dup X dX1_isSetUp_31 rfl ?_
      refine V_getI 4 X dX1_isSetUp_32 co2 (kt1_0 hZ hh) (by decide) rfl wfX1_69 ?_
      refine V_iconst (v := 1) X dX1_isSetUp_35 (by decide) ?_
      refine V_iload_n 1 X dX1_isSetUp_36 rfl rfl ?_
      refine V_ishl X dX1_isSetUp_37 ?_
      refine V_iconst (v := -1) X dX1_isSetUp_38 (by decide) ?_
      refine V_ixor X dX1_isSetUp_39 ?_
      refine V_iand X dX1_isSetUp_40 ?_
      refine V_putIG 4 X dX1_isSetUp_41 co2 (kt1_0 hZ hh) (by decide) rfl wfX1_69 rfl rfl rfl (fun s5 => ?_)
      refine V_iconst (v := 1) X dX1_isSetUp_44 (by decide) ?_
      exact V_zret X E hr dX1_isSetUp_45 (by decide)
    · refine V_iconst (v := 0) X dX1_isSetUp_25 (by decide) ?_
      exact V_zret X E hr dX1_isSetUp_26 (by decide)
theorem kX1_isSetUp (l : Launch) (z : Sx) (hZ : z.2.2.2.1 = kdC) (N : Nat) (h : Nat) (hh : z.2.2.2.1 h = (1, 0)) (v1 : Int32) (σ : Mem) : Ct QI yX1_isSetUp cX1_isSetUp 2 (some .boolean) 1 21 l z [.ref (z.2.2.1 h), .int v1] σ (fX1_isSetUp N h v1 σ) := by
  refine Ct_of (by decide +kernel) (Nat.le_of_ble_eq_true rfl) rfl ?_
  intro x _ X E hr
  exact bX1_isSetUp_0 X E hr hZ N h hh v1 σ
def fX1_sitsDown (N : Nat) (h : Nat) (v1 : Int32) (v2 : Int32) (σ : Mem) : Option (Int32 × Mem) :=
  bd (fX0_hasPerson N ((h + 1) + 1) v1 σ) (fun r1 s2 => if r1 = 0 then some (0, s2) else bd (fX0_hasPiece N ((h + 1) + 1) v2 s2) (fun r3 s4 => if r3 = 0 then some (0, s4) else bd (fX2_isOver N (h + 1) v2 s4) (fun r5 s6 => if r5 = 0 then gd (inb v1 6) (if (s6.1 (((h + 1) + 1) + 8) v1.toNatClampNeg) = v2 then some (0, s6) else bd (fX2_seatPerson N (h + 1) v1 v2 s6) (fun r7 s8 => some (1, s8))) else some (0, s6))))
set_option maxRecDepth 100000 in
set_option maxHeartbeats 4000000 in
theorem bX1_sitsDown_0 {x : Cx} {z : Sx} (X : XG x z RX1 cX1_sitsDown 3 3 65) (E : XE x z) (hr : XR x (some .boolean)) (hZ : z.2.2.2.1 = kdC) (N : Nat) (h : Nat) (hh : z.2.2.2.1 h = (1, 0)) (v1 : Int32) (v2 : Int32) (σ : Mem) : VK x z 3 (BQ QI x z) 0 [(0, .ref (z.2.2.1 h)), (1, .int v1), (2, .int v2)] [] σ (fX1_sitsDown N h v1 v2 σ) := by
  unfold fX1_sitsDown
  refine V_aload_n 0 X dX1_sitsDown_0 rfl rfl ?_
  refine V_getR (k1 := (h + 1)) 0 X dX1_sitsDown_1 co1 hh (by decide) rfl rfl wfX1_12 ?_
  refine V_getR (k1 := ((h + 1) + 1)) 0 X dX1_sitsDown_4 co2 (kt1_0 hZ hh) (by decide) rfl rfl wfX1_109 ?_
  refine V_iload_n 1 X dX1_sitsDown_7 rfl rfl ?_
  refine V_callI [.int v1] [] X E dX1_sitsDown_8 (kX0_hasPerson x.2.1 z hZ N ((h + 1) + 1) (kt2_0 hZ (kt1_0 hZ hh)) v1 σ) co0 (kt2_0 hZ (kt1_0 hZ hh)) gcX1_127 hyX0_hasPerson rfl ⟨by decide, by decide⟩ rfl (Nat.le_of_ble_eq_true rfl) (fun r1 s2 => ?_)
  refine V_if_eq (tgt := 28) X dX1_sitsDown_11 (by decide) ?_ ?_
  · refine V_iconst (v := 0) X dX1_sitsDown_28 (by decide) ?_
    exact V_zret X E hr dX1_sitsDown_29 (by decide)
  · refine V_aload_n 0 X dX1_sitsDown_14 rfl rfl ?_
    refine V_getR (k1 := (h + 1)) 0 X dX1_sitsDown_15 co1 hh (by decide) rfl rfl wfX1_12 ?_
    refine V_getR (k1 := ((h + 1) + 1)) 0 X dX1_sitsDown_18 co2 (kt1_0 hZ hh) (by decide) rfl rfl wfX1_109 ?_
    refine V_iload_n 2 X dX1_sitsDown_21 rfl rfl ?_
    refine V_callI [.int v2] [] X E dX1_sitsDown_22 (kX0_hasPiece x.2.1 z hZ N ((h + 1) + 1) (kt2_0 hZ (kt1_0 hZ hh)) v2 s2) co0 (kt2_0 hZ (kt1_0 hZ hh)) gcX1_137 hyX0_hasPiece rfl ⟨by decide, by decide⟩ rfl (Nat.le_of_ble_eq_true rfl) (fun r3 s4 => ?_)
    refine V_if_ne (tgt := 30) X dX1_sitsDown_25 (by decide) ?_ ?_
    · refine V_aload_n 0 X dX1_sitsDown_30 rfl rfl ?_
      refine V_getR (k1 := (h + 1)) 0 X dX1_sitsDown_31 co1 hh (by decide) rfl rfl wfX1_12 ?_
      refine V_iload_n 2 X dX1_sitsDown_34 rfl rfl ?_
      refine V_callI [.int v2] [] X E dX1_sitsDown_35 (kX2_isOver x.2.1 z hZ N (h + 1) (kt1_0 hZ hh) v2 s4) co2 (kt1_0 hZ hh) gcX1_140 hyX2_isOver rfl ⟨by decide, by decide⟩ rfl (Nat.le_of_ble_eq_true rfl) (fun r5 s6 => ?_)
      refine V_if_ne (tgt := 57) X dX1_sitsDown_38 (by decide) ?_ ?_
      · refine V_iconst (v := 0) X dX1_sitsDown_57 (by decide) ?_
        exact V_zret X E hr dX1_sitsDown_58 (by decide)
      · refine V_aload_n 0 X dX1_sitsDown_41 rfl rfl ?_
        refine V_getR (k1 := (h + 1)) 0 X dX1_sitsDown_42 co1 hh (by decide) rfl rfl wfX1_12 ?_
        refine V_getR (k1 := ((h + 1) + 1)) 0 X dX1_sitsDown_45 co2 (kt1_0 hZ hh) (by decide) rfl rfl wfX1_109 ?_
        refine V_getR (k1 := (((h + 1) + 1) + 8)) 10 X dX1_sitsDown_48 co0 (kt2_0 hZ (kt1_0 hZ hh)) (by decide) rfl rfl wfX1_130 ?_
        refine V_iload_n 1 X dX1_sitsDown_51 rfl rfl ?_
        refine V_iald X dX1_sitsDown_52 (kt0_10 hZ (kt2_0 hZ (kt1_0 hZ hh))) ?_
        refine V_iload_n 2 X dX1_sitsDown_53 rfl rfl ?_
        refine V_icmp_ne (tgt := 59) X dX1_sitsDown_54 (by decide) ?_ ?_
        · refine V_aload_n 0 X dX1_sitsDown_59 rfl rfl ?_
          refine V_getR (k1 := (h + 1)) 0 X dX1_sitsDown_60 co1 hh (by decide) rfl rfl wfX1_12 ?_
          refine V_iload_n 1 X dX1_sitsDown_63 rfl rfl ?_
          refine V_iload_n 2 X dX1_sitsDown_64 rfl rfl ?_
          refine V_callV [.int v1, .int v2] [] X E dX1_sitsDown_65 (kX2_seatPerson x.2.1 z hZ N (h + 1) (kt1_0 hZ hh) v1 v2 s6) co2 (kt1_0 hZ hh) gcX1_133 hyX2_seatPerson rfl ⟨by decide, by decide⟩ rfl (Nat.le_of_ble_eq_true rfl) (fun r7 s8 => ?_)
          refine V_iconst (v := 1) X dX1_sitsDown_68 (by decide) ?_
          exact V_zret X E hr dX1_sitsDown_69 (by decide)
        · refine V_iconst (v := 0) X dX1_sitsDown_57 (by decide) ?_
          exact V_zret X E hr dX1_sitsDown_58 (by decide)
    · refine V_iconst (v := 0) X dX1_sitsDown_28 (by decide) ?_
      exact V_zret X E hr dX1_sitsDown_29 (by decide)
theorem kX1_sitsDown (l : Launch) (z : Sx) (hZ : z.2.2.2.1 = kdC) (N : Nat) (h : Nat) (hh : z.2.2.2.1 h = (1, 0)) (v1 : Int32) (v2 : Int32) (σ : Mem) : Ct QI yX1_sitsDown cX1_sitsDown 3 (some .boolean) 3 65 l z [.ref (z.2.2.1 h), .int v1, .int v2] σ (fX1_sitsDown N h v1 v2 σ) := by
  refine Ct_of (by decide +kernel) (Nat.le_of_ble_eq_true rfl) rfl ?_
  intro x _ X E hr
  exact bX1_sitsDown_0 X E hr hZ N h hh v1 v2 σ
def fX1_changesDamp (N : Nat) (h : Nat) (v1 : Int32) (σ : Mem) : Option (Int32 × Mem) :=
  lt_ ((σ.1 ((h + 1) + 1) 2) + v1) (fun v2_1 => if v2_1 < 0 then some (0, σ) else if v2_1 ≤ 9 then lt_ (pI σ ((h + 1) + 1) 2 v2_1) (fun s2 => some (1, s2)) else some (0, σ))
set_option maxRecDepth 100000 in
set_option maxHeartbeats 4000000 in
theorem bX1_changesDamp_0 {x : Cx} {z : Sx} (X : XG x z RX1 cX1_changesDamp 3 0 0) (E : XE x z) (hr : XR x (some .boolean)) (hZ : z.2.2.2.1 = kdC) (N : Nat) (h : Nat) (hh : z.2.2.2.1 h = (1, 0)) (v1 : Int32) (σ : Mem) : VK x z 3 (BQ QI x z) 0 [(0, .ref (z.2.2.1 h)), (1, .int v1)] [] σ (fX1_changesDamp N h v1 σ) := by
  unfold fX1_changesDamp
  refine V_aload_n 0 X dX1_changesDamp_0 rfl rfl ?_
  refine V_getR (k1 := (h + 1)) 0 X dX1_changesDamp_1 co1 hh (by decide) rfl rfl wfX1_12 ?_
  refine V_getR (k1 := ((h + 1) + 1)) 0 X dX1_changesDamp_4 co2 (kt1_0 hZ hh) (by decide) rfl rfl wfX1_109 ?_
  refine V_getI 2 X dX1_changesDamp_7 co0 (kt2_0 hZ (kt1_0 hZ hh)) (by decide) rfl wfX1_146 ?_
  refine V_iload_n 1 X dX1_changesDamp_10 rfl rfl ?_
  refine V_iadd X dX1_changesDamp_11 ?_
  refine V_istore_nG (L' := fun v2_1 => [(2, .int v2_1), (0, .ref (z.2.2.1 h)), (1, .int v1)]) X dX1_changesDamp_12 rfl (by decide) (fun _ => rfl) (fun v2_1 => ?_)
  refine V_iload_n 0 X dX1_changesDamp_13 rfl rfl ?_
  refine V_if_lt (tgt := 23) X dX1_changesDamp_14 (by decide) ?_ ?_
  · refine V_iconst (v := 0) X dX1_changesDamp_23 (by decide) ?_
    exact V_zret X E hr dX1_changesDamp_24 (by decide)
  · refine V_iload_n 0 X dX1_changesDamp_17 rfl rfl ?_
    refine V_bipush (v := 9) X dX1_changesDamp_18 (by decide) ?_
    refine V_icmp_le (tgt := 25) X dX1_changesDamp_20 (by decide) ?_ ?_
    · refine V_aload_n 1 X dX1_changesDamp_25 rfl rfl ?_
      refine V_getR (k1 := (h + 1)) 0 X dX1_changesDamp_26 co1 hh (by decide) rfl rfl wfX1_12 ?_
      refine V_getR (k1 := ((h + 1) + 1)) 0 X dX1_changesDamp_29 co2 (kt1_0 hZ hh) (by decide) rfl rfl wfX1_109 ?_
      refine V_iload_n 0 X dX1_changesDamp_32 rfl rfl ?_
      refine V_putIG 2 X dX1_changesDamp_33 co0 (kt2_0 hZ (kt1_0 hZ hh)) (by decide) rfl wfX1_146 rfl rfl rfl (fun s2 => ?_)
      refine V_iconst (v := 1) X dX1_changesDamp_36 (by decide) ?_
      exact V_zret X E hr dX1_changesDamp_37 (by decide)
    · refine V_iconst (v := 0) X dX1_changesDamp_23 (by decide) ?_
      exact V_zret X E hr dX1_changesDamp_24 (by decide)
theorem kX1_changesDamp (l : Launch) (z : Sx) (hZ : z.2.2.2.1 = kdC) (N : Nat) (h : Nat) (hh : z.2.2.2.1 h = (1, 0)) (v1 : Int32) (σ : Mem) : Ct QI yX1_changesDamp cX1_changesDamp 3 (some .boolean) 0 0 l z [.ref (z.2.2.1 h), .int v1] σ (fX1_changesDamp N h v1 σ) := by
  refine Ct_of (by decide +kernel) (Nat.le_of_ble_eq_true rfl) rfl ?_
  intro x _ X E hr
  exact bX1_changesDamp_0 X E hr hZ N h hh v1 σ
def fX2_passNight_b31 (N : Nat) (h : Nat) (rc2 : Int32 → Mem → Option (Unit × Mem)) (v1 : Int32) (t0 : Int32) (σ : Mem) : Option (Unit × Mem) :=
  lt_ t0 (fun v2_2 => gd (inb v1 8) (gd (inb v1 8) (lt_ (pI σ ((h + 1) + 3) v1.toNatClampNeg (mnI 99 ((σ.1 ((h + 1) + 3) v1.toNatClampNeg) + v2_2))) (fun s3 => gd (inb v1 8) (gd (inb v1 8) (lt_ (pI s3 (h + 10) v1.toNatClampNeg (mxI 0 ((s3.1 (h + 10) v1.toNatClampNeg) - 1))) (fun s4 => lt_ (v1 + 1) (fun v1_5 => rc2 v1_5 s4))))))))
set_option maxRecDepth 100000 in
set_option maxHeartbeats 4000000 in
theorem bX2_passNight_31 {x : Cx} {z : Sx} (X : XG x z RX2 cX2_passNight 3 1 26) (E : XE x z) (hr : XR x none) (hZ : z.2.2.2.1 = kdC) (N : Nat) (h : Nat) (hh : z.2.2.2.1 h = (2, 0)) (rc2 : Int32 → Mem → Option (Unit × Mem)) (hc2 : ∀ (v1 : Int32) (σ : Mem), VK x z 3 (BQ QV x z) 2 [(0, .ref (z.2.2.1 h)), (1, .int v1)] [] σ (rc2 v1 σ)) (v1 : Int32) (t0 : Int32) (σ : Mem) : VK x z 3 (BQ QV x z) 31 [(0, .ref (z.2.2.1 h)), (1, .int v1)] [.int t0] σ (fX2_passNight_b31 N h rc2 v1 t0 σ) := by
  unfold fX2_passNight_b31
  refine V_istore_nG (L' := fun v2_2 => [(2, .int v2_2), (0, .ref (z.2.2.1 h)), (1, .int v1)]) X dX2_passNight_31 rfl (by decide) (fun _ => rfl) (fun v2_2 => ?_)
  refine V_aload_n 1 X dX2_passNight_32 rfl rfl ?_
  refine V_getR (k1 := (h + 1)) 0 X dX2_passNight_33 co2 hh (by decide) rfl rfl wfX2_12 ?_
  refine V_getR (k1 := ((h + 1) + 3)) 5 X dX2_passNight_36 co0 (kt2_0 hZ hh) (by decide) rfl rfl wfX2_80 ?_
  refine V_iload_n 2 X dX2_passNight_39 rfl rfl ?_
  refine V_bipush (v := 99) X dX2_passNight_40 (by decide) ?_
  refine V_aload_n 1 X dX2_passNight_42 rfl rfl ?_
  refine V_getR (k1 := (h + 1)) 0 X dX2_passNight_43 co2 hh (by decide) rfl rfl wfX2_12 ?_
  refine V_getR (k1 := ((h + 1) + 3)) 5 X dX2_passNight_46 co0 (kt2_0 hZ hh) (by decide) rfl rfl wfX2_80 ?_
  refine V_iload_n 2 X dX2_passNight_49 rfl rfl ?_
  refine V_iald X dX2_passNight_50 (kt0_5 hZ (kt2_0 hZ hh)) ?_
  refine V_iload_n 0 X dX2_passNight_51 rfl rfl ?_
  refine V_iadd X dX2_passNight_52 ?_
  refine V_mmin X dX2_passNight_53 mtX2_116 mtS_min mtI mtC_min (by decide) (Nat.le_of_ble_eq_true rfl) ?_
  refine V_iastG X dX2_passNight_56 (kt0_5 hZ (kt2_0 hZ hh)) (fun s3 => ?_)
  refine V_aload_n 1 X dX2_passNight_57 rfl rfl ?_
  refine V_getR (k1 := (h + 10)) 1 X dX2_passNight_58 co2 hh (by decide) rfl rfl wfX2_18 ?_
  refine V_iload_n 2 X dX2_passNight_61 rfl rfl ?_
  refine V_iconst (v := 0) X dX2_passNight_62 (by decide) ?_
  refine V_aload_n 1 X dX2_passNight_63 rfl rfl ?_
  refine V_getR (k1 := (h + 10)) 1 X dX2_passNight_64 co2 hh (by decide) rfl rfl wfX2_18 ?_
  refine V_iload_n 2 X dX2_passNight_67 rfl rfl ?_
  refine V_iald X dX2_passNight_68 (kt2_1 hZ hh) ?_
  refine V_iconst (v := 1) X dX2_passNight_69 (by decide) ?_
  refine V_isub X dX2_passNight_70 ?_
  refine V_mmax X dX2_passNight_71 mtX2_89 mtS_max mtI mtC_max (by decide) (Nat.le_of_ble_eq_true rfl) ?_
  refine V_iastG X dX2_passNight_74 (kt2_1 hZ hh) (fun s4 => ?_)
  refine V_iincG (L' := fun v1_5 => [(1, .int v1_5), (2, .int v2_2), (0, .ref (z.2.2.1 h))]) 2 X dX2_passNight_75 rfl rfl (by decide) (fun _ => rfl) (fun v1_5 => ?_)
  refine V_goto (tgt := 2) X dX2_passNight_78 (by decide) ?_
  refine V_sub [2, 0] rfl ?_
  exact hc2 v1_5 s4
def fX2_passNight_b2 (N : Nat) (h : Nat) (rc2 : Int32 → Mem → Option (Unit × Mem)) (v1 : Int32) (σ : Mem) : Option (Unit × Mem) :=
  if (σ.1 (h + 1) 0) ≤ v1 then some ((), σ) else gd (inb v1 8) (if (σ.1 ((h + 1) + 2) v1.toNatClampNeg) = 2 then fX2_passNight_b31 N h rc2 v1 2 σ else fX2_passNight_b31 N h rc2 v1 1 σ)
set_option maxRecDepth 100000 in
set_option maxHeartbeats 4000000 in
theorem bX2_passNight_2 {x : Cx} {z : Sx} (X : XG x z RX2 cX2_passNight 3 1 26) (E : XE x z) (hr : XR x none) (hZ : z.2.2.2.1 = kdC) (N : Nat) (h : Nat) (hh : z.2.2.2.1 h = (2, 0)) (rc2 : Int32 → Mem → Option (Unit × Mem)) (hc2 : ∀ (v1 : Int32) (σ : Mem), VK x z 3 (BQ QV x z) 2 [(0, .ref (z.2.2.1 h)), (1, .int v1)] [] σ (rc2 v1 σ)) (v1 : Int32) (σ : Mem) : VK x z 3 (BQ QV x z) 2 [(0, .ref (z.2.2.1 h)), (1, .int v1)] [] σ (fX2_passNight_b2 N h rc2 v1 σ) := by
  unfold fX2_passNight_b2
  refine V_iload_n 1 X dX2_passNight_2 rfl rfl ?_
  refine V_aload_n 0 X dX2_passNight_3 rfl rfl ?_
  refine V_getR (k1 := (h + 1)) 0 X dX2_passNight_4 co2 hh (by decide) rfl rfl wfX2_12 ?_
  refine V_getI 0 X dX2_passNight_7 co0 (kt2_0 hZ hh) (by decide) rfl wfX2_68 ?_
  refine V_icmp_ge (tgt := 81) X dX2_passNight_10 (by decide) ?_ ?_
  · exact V_vret X E hr dX2_passNight_81
  · refine V_aload_n 0 X dX2_passNight_13 rfl rfl ?_
    refine V_getR (k1 := (h + 1)) 0 X dX2_passNight_14 co2 hh (by decide) rfl rfl wfX2_12 ?_
    refine V_getR (k1 := ((h + 1) + 2)) 4 X dX2_passNight_17 co0 (kt2_0 hZ hh) (by decide) rfl rfl wfX2_86 ?_
    refine V_iload_n 1 X dX2_passNight_20 rfl rfl ?_
    refine V_iald X dX2_passNight_21 (kt0_4 hZ (kt2_0 hZ hh)) ?_
    refine V_iconst (v := 2) X dX2_passNight_22 (by decide) ?_
    refine V_icmp_ne (tgt := 30) X dX2_passNight_23 (by decide) ?_ ?_
    · refine V_iconst (v := 1) X dX2_passNight_30 (by decide) ?_
      refine V_sub [0, 1] rfl ?_
      exact bX2_passNight_31 X E hr hZ N h hh rc2 hc2 v1 1 σ
    · refine V_iconst (v := 2) X dX2_passNight_26 (by decide) ?_
      refine V_goto (tgt := 31) X dX2_passNight_27 (by decide) ?_
      refine V_sub [0, 1] rfl ?_
      exact bX2_passNight_31 X E hr hZ N h hh rc2 hc2 v1 2 σ
def fX2_passNight_l2 (N : Nat) (h : Nat) : Nat → Int32 → Mem → Option (Unit × Mem)
  | 0 => fun _ _ => none
  | n + 1 => fX2_passNight_b2 N h (fX2_passNight_l2 N h n)
theorem lX2_passNight_2 {x : Cx} {z : Sx} (X : XG x z RX2 cX2_passNight 3 1 26) (E : XE x z) (hr : XR x none) (hZ : z.2.2.2.1 = kdC) (N : Nat) (h : Nat) (hh : z.2.2.2.1 h = (2, 0)) (n : Nat) (v1 : Int32) (σ : Mem) : VK x z 3 (BQ QV x z) 2 [(0, .ref (z.2.2.1 h)), (1, .int v1)] [] σ (fX2_passNight_l2 N h n v1 σ) := by
  induction n generalizing v1 σ with
  | zero => exact V_none
  | succ n ih => exact bX2_passNight_2 X E hr hZ N h hh (fX2_passNight_l2 N h n) ih v1 σ
def fX2_passNight (N : Nat) (h : Nat) (σ : Mem) : Option (Unit × Mem) :=
  lt_ 0 (fun v1_1 => fX2_passNight_l2 N h N v1_1 σ)
set_option maxRecDepth 100000 in
set_option maxHeartbeats 4000000 in
theorem bX2_passNight_0 {x : Cx} {z : Sx} (X : XG x z RX2 cX2_passNight 3 1 26) (E : XE x z) (hr : XR x none) (hZ : z.2.2.2.1 = kdC) (N : Nat) (h : Nat) (hh : z.2.2.2.1 h = (2, 0)) (σ : Mem) : VK x z 3 (BQ QV x z) 0 [(0, .ref (z.2.2.1 h))] [] σ (fX2_passNight N h σ) := by
  unfold fX2_passNight
  refine V_iconst (v := 0) X dX2_passNight_0 (by decide) ?_
  refine V_istore_nG (L' := fun v1_1 => [(1, .int v1_1), (0, .ref (z.2.2.1 h))]) X dX2_passNight_1 rfl (by decide) (fun _ => rfl) (fun v1_1 => ?_)
  refine V_sub [1, 0] rfl ?_
  exact lX2_passNight_2 X E hr hZ N h hh N v1_1 σ
theorem kX2_passNight (l : Launch) (z : Sx) (hZ : z.2.2.2.1 = kdC) (N : Nat) (h : Nat) (hh : z.2.2.2.1 h = (2, 0)) (σ : Mem) : Ct QV yX2_passNight cX2_passNight 3 none 1 26 l z [.ref (z.2.2.1 h)] σ (fX2_passNight N h σ) := by
  refine Ct_of (by decide +kernel) (Nat.le_of_ble_eq_true rfl) rfl ?_
  intro x _ X E hr
  exact bX2_passNight_0 X E hr hZ N h hh σ
def fX1_does (N : Nat) (h : Nat) (v1 : Int32) (v2 : Int32) (v3 : Int32) (σ : Mem) : Option (Int32 × Mem) :=
  if v1 = 0 then bd (fX1_putMotion N h v2 σ) (fun r1 s2 => some (1, s2)) else if v1 = 1 then bd (fX1_standsUp N h v2 σ) (fun r3 s4 => gd (decide (r3 = 0 ∨ r3 = 1)) (some (r3, s4))) else if v1 = 2 then bd (fX1_takesWax N h v2 σ) (fun r5 s6 => gd (decide (r5 = 0 ∨ r5 = 1)) (some (r5, s6))) else if v1 = 3 then bd (fX1_isSetUp N h v2 σ) (fun r7 s8 => gd (decide (r7 = 0 ∨ r7 = 1)) (some (r7, s8))) else if v1 = 4 then bd (fX1_sitsDown N h v2 v3 σ) (fun r9 s10 => gd (decide (r9 = 0 ∨ r9 = 1)) (some (r9, s10))) else if v1 = 5 then bd (fX1_changesDamp N h 1 σ) (fun r11 s12 => gd (decide (r11 = 0 ∨ r11 = 1)) (some (r11, s12))) else if v1 = 6 then bd (fX1_changesDamp N h (-1) σ) (fun r13 s14 => gd (decide (r13 = 0 ∨ r13 = 1)) (some (r13, s14))) else if v1 = 7 then bd (fX2_passNight N (h + 1) σ) (fun r15 s16 => some (1, s16)) else some (0, σ)
set_option maxRecDepth 100000 in
set_option maxHeartbeats 4000000 in
theorem bX1_does_0 {x : Cx} {z : Sx} (X : XG x z RX1 cX1_does 4 5 117) (E : XE x z) (hr : XR x (some .boolean)) (hZ : z.2.2.2.1 = kdC) (N : Nat) (h : Nat) (hh : z.2.2.2.1 h = (1, 0)) (v1 : Int32) (v2 : Int32) (v3 : Int32) (σ : Mem) : VK x z 4 (BQ QI x z) 0 [(0, .ref (z.2.2.1 h)), (1, .int v1), (2, .int v2), (3, .int v3)] [] σ (fX1_does N h v1 v2 v3 σ) := by
  unfold fX1_does
  refine V_iload_n 1 X dX1_does_0 rfl rfl ?_
  refine V_split (c := 0) (fun n1_0 => ?_) (fun n1_0 => ?_)
  · refine V_tabAt (c := 0) (tgt := 48) X dX1_does_1 n1_0 (by decide) (by decide) (by rfl) (by decide) ?_
    refine V_aload_n 0 X dX1_does_48 rfl rfl ?_
    refine V_iload_n 2 X dX1_does_49 rfl rfl ?_
    refine V_callV [.int v2] [] X E dX1_does_50 (kX1_putMotion x.2.1 z hZ N h hh v2 σ) co1 hh gcX1_78 hyX1_putMotion rfl ⟨by decide, by decide⟩ rfl (Nat.le_of_ble_eq_true rfl) (fun r1 s2 => ?_)
    refine V_iconst (v := 1) X dX1_does_53 (by decide) ?_
    exact V_zret X E hr dX1_does_54 (by decide)
  refine V_split (c := 1) (fun n1_1 => ?_) (fun n1_1 => ?_)
  · refine V_tabAt (c := 1) (tgt := 55) X dX1_does_1 n1_1 (by decide) (by decide) (by rfl) (by decide) ?_
    refine V_aload_n 0 X dX1_does_55 rfl rfl ?_
    refine V_iload_n 2 X dX1_does_56 rfl rfl ?_
    refine V_callI [.int v2] [] X E dX1_does_57 (kX1_standsUp x.2.1 z hZ N h hh v2 σ) co1 hh gcX1_82 hyX1_standsUp rfl ⟨by decide, by decide⟩ rfl (Nat.le_of_ble_eq_true rfl) (fun r3 s4 => ?_)
    exact V_zretG X E hr dX1_does_60
  refine V_split (c := 2) (fun n1_2 => ?_) (fun n1_2 => ?_)
  · refine V_tabAt (c := 2) (tgt := 61) X dX1_does_1 n1_2 (by decide) (by decide) (by rfl) (by decide) ?_
    refine V_aload_n 0 X dX1_does_61 rfl rfl ?_
    refine V_iload_n 2 X dX1_does_62 rfl rfl ?_
    refine V_callI [.int v2] [] X E dX1_does_63 (kX1_takesWax x.2.1 z hZ N h hh v2 σ) co1 hh gcX1_86 hyX1_takesWax rfl ⟨by decide, by decide⟩ rfl (Nat.le_of_ble_eq_true rfl) (fun r5 s6 => ?_)
    exact V_zretG X E hr dX1_does_66
  refine V_split (c := 3) (fun n1_3 => ?_) (fun n1_3 => ?_)
  · refine V_tabAt (c := 3) (tgt := 67) X dX1_does_1 n1_3 (by decide) (by decide) (by rfl) (by decide) ?_
    refine V_aload_n 0 X dX1_does_67 rfl rfl ?_
    refine V_iload_n 2 X dX1_does_68 rfl rfl ?_
    refine V_callI [.int v2] [] X E dX1_does_69 (kX1_isSetUp x.2.1 z hZ N h hh v2 σ) co1 hh gcX1_89 hyX1_isSetUp rfl ⟨by decide, by decide⟩ rfl (Nat.le_of_ble_eq_true rfl) (fun r7 s8 => ?_)
    exact V_zretG X E hr dX1_does_72
  refine V_split (c := 4) (fun n1_4 => ?_) (fun n1_4 => ?_)
  · refine V_tabAt (c := 4) (tgt := 73) X dX1_does_1 n1_4 (by decide) (by decide) (by rfl) (by decide) ?_
    refine V_aload_n 0 X dX1_does_73 rfl rfl ?_
    refine V_iload_n 2 X dX1_does_74 rfl rfl ?_
    refine V_iload_n 3 X dX1_does_75 rfl rfl ?_
    refine V_callI [.int v2, .int v3] [] X E dX1_does_76 (kX1_sitsDown x.2.1 z hZ N h hh v2 v3 σ) co1 hh gcX1_92 hyX1_sitsDown rfl ⟨by decide, by decide⟩ rfl (Nat.le_of_ble_eq_true rfl) (fun r9 s10 => ?_)
    exact V_zretG X E hr dX1_does_79
  refine V_split (c := 5) (fun n1_5 => ?_) (fun n1_5 => ?_)
  · refine V_tabAt (c := 5) (tgt := 80) X dX1_does_1 n1_5 (by decide) (by decide) (by rfl) (by decide) ?_
    refine V_aload_n 0 X dX1_does_80 rfl rfl ?_
    refine V_iconst (v := 1) X dX1_does_81 (by decide) ?_
    refine V_callI [.int 1] [] X E dX1_does_82 (kX1_changesDamp x.2.1 z hZ N h hh 1 σ) co1 hh gcX1_96 hyX1_changesDamp rfl ⟨by decide, by decide⟩ rfl (Nat.le_of_ble_eq_true rfl) (fun r11 s12 => ?_)
    exact V_zretG X E hr dX1_does_85
  refine V_split (c := 6) (fun n1_6 => ?_) (fun n1_6 => ?_)
  · refine V_tabAt (c := 6) (tgt := 86) X dX1_does_1 n1_6 (by decide) (by decide) (by rfl) (by decide) ?_
    refine V_aload_n 0 X dX1_does_86 rfl rfl ?_
    refine V_iconst (v := -1) X dX1_does_87 (by decide) ?_
    refine V_callI [.int (-1)] [] X E dX1_does_88 (kX1_changesDamp x.2.1 z hZ N h hh (-1) σ) co1 hh gcX1_96 hyX1_changesDamp rfl ⟨by decide, by decide⟩ rfl (Nat.le_of_ble_eq_true rfl) (fun r13 s14 => ?_)
    exact V_zretG X E hr dX1_does_91
  refine V_split (c := 7) (fun n1_7 => ?_) (fun n1_7 => ?_)
  · refine V_tabAt (c := 7) (tgt := 92) X dX1_does_1 n1_7 (by decide) (by decide) (by rfl) (by decide) ?_
    refine V_aload_n 0 X dX1_does_92 rfl rfl ?_
    refine V_getR (k1 := (h + 1)) 0 X dX1_does_93 co1 hh (by decide) rfl rfl wfX1_12 ?_
    refine V_callV [] [] X E dX1_does_96 (kX2_passNight x.2.1 z hZ N (h + 1) (kt1_0 hZ hh) σ) co2 (kt1_0 hZ hh) gcX1_99 hyX2_passNight rfl ⟨by decide, by decide⟩ rfl (Nat.le_of_ble_eq_true rfl) (fun r15 s16 => ?_)
    refine V_iconst (v := 1) X dX1_does_99 (by decide) ?_
    exact V_zret X E hr dX1_does_100 (by decide)
  refine V_tabDef (tgt := 101) X dX1_does_1 (swOut (a := v1) (fun q q1 q2 => by rcases (show q = 0 ∨ q = 1 ∨ q = 2 ∨ q = 3 ∨ q = 4 ∨ q = 5 ∨ q = 6 ∨ q = 7 by omega) with rfl | rfl | rfl | rfl | rfl | rfl | rfl | rfl <;> first | exact sw_ne n1_0 (by decide) | exact sw_ne n1_1 (by decide) | exact sw_ne n1_2 (by decide) | exact sw_ne n1_3 (by decide) | exact sw_ne n1_4 (by decide) | exact sw_ne n1_5 (by decide) | exact sw_ne n1_6 (by decide) | exact sw_ne n1_7 (by decide))) (by decide) ?_
  refine V_iconst (v := 0) X dX1_does_101 (by decide) ?_
  exact V_zret X E hr dX1_does_102 (by decide)
theorem kX1_does (l : Launch) (z : Sx) (hZ : z.2.2.2.1 = kdC) (N : Nat) (h : Nat) (hh : z.2.2.2.1 h = (1, 0)) (v1 : Int32) (v2 : Int32) (v3 : Int32) (σ : Mem) : Ct QI yX1_does cX1_does 4 (some .boolean) 5 117 l z [.ref (z.2.2.1 h), .int v1, .int v2, .int v3] σ (fX1_does N h v1 v2 v3 σ) := by
  refine Ct_of (by decide +kernel) (Nat.le_of_ble_eq_true rfl) rfl ?_
  intro x _ X E hr
  exact bX1_does_0 X E hr hZ N h hh v1 v2 v3 σ
def fX1_follow_b86 (N : Nat) (h : Nat) (v2 : Nat) (v3 : Int32) (σ : Mem) : Option (Int32 × Mem) :=
  some ((mnI v3 (σ.1 v2 0)), σ)
set_option maxRecDepth 100000 in
set_option maxHeartbeats 4000000 in
theorem bX1_follow_86 {x : Cx} {z : Sx} (X : XG x z RX1 cX1_follow 5 6 140) (E : XE x z) (hr : XR x (some .int)) (hZ : z.2.2.2.1 = kdC) (N : Nat) (h : Nat) (hh : z.2.2.2.1 h = (1, 0)) (v2 : Nat) (v3 : Int32) (hk2 : z.2.2.2.1 v2 = (8, 0)) (σ : Mem) : VK x z 5 (BQ QI x z) 86 [(0, .ref (z.2.2.1 h)), (2, .ref (z.2.2.1 v2)), (3, .int v3)] [] σ (fX1_follow_b86 N h v2 v3 σ) := by
  unfold fX1_follow_b86
  refine V_iload_n 2 X dX1_follow_86 rfl rfl ?_
  refine V_aload_n 1 X dX1_follow_87 rfl rfl ?_
  refine V_getI 0 X dX1_follow_88 co8 hk2 (by decide) rfl wfX1_51 ?_
  refine V_mmin X dX1_follow_91 mtX1_72 mtS_min mtI mtC_min (by decide) (Nat.le_of_ble_eq_true rfl) ?_
  exact V_iret X E hr dX1_follow_94
def fX1_follow_b80 (N : Nat) (h : Nat) (rc8 : Nat → Int32 → Int32 → Mem → Option (Int32 × Mem)) (v2 : Nat) (v3 : Int32) (v4 : Int32) (σ : Mem) : Option (Int32 × Mem) :=
  lt_ (v4 + 1) (fun v4_7 => rc8 v2 v3 v4_7 σ)
set_option maxRecDepth 100000 in
set_option maxHeartbeats 4000000 in
theorem bX1_follow_80 {x : Cx} {z : Sx} (X : XG x z RX1 cX1_follow 5 6 140) (E : XE x z) (hr : XR x (some .int)) (hZ : z.2.2.2.1 = kdC) (N : Nat) (h : Nat) (hh : z.2.2.2.1 h = (1, 0)) (rc8 : Nat → Int32 → Int32 → Mem → Option (Int32 × Mem)) (hc8 : ∀ (v2 : Nat) (v3 : Int32) (v4 : Int32) (hk2 : z.2.2.2.1 v2 = (8, 0)) (σ : Mem), VK x z 5 (BQ QI x z) 8 [(0, .ref (z.2.2.1 h)), (2, .ref (z.2.2.1 v2)), (3, .int v3), (4, .int v4)] [] σ (rc8 v2 v3 v4 σ)) (v2 : Nat) (v3 : Int32) (v4 : Int32) (hk2 : z.2.2.2.1 v2 = (8, 0)) (σ : Mem) : VK x z 5 (BQ QI x z) 80 [(0, .ref (z.2.2.1 h)), (2, .ref (z.2.2.1 v2)), (3, .int v3), (4, .int v4)] [] σ (fX1_follow_b80 N h rc8 v2 v3 v4 σ) := by
  unfold fX1_follow_b80
  refine V_iincG (L' := fun v4_7 => [(4, .int v4_7), (0, .ref (z.2.2.1 h)), (2, .ref (z.2.2.1 v2)), (3, .int v3)]) 3 X dX1_follow_80 rfl rfl (by decide) (fun _ => rfl) (fun v4_7 => ?_)
  refine V_goto (tgt := 8) X dX1_follow_83 (by decide) ?_
  refine V_sub [1, 2, 3, 0] rfl ?_
  exact hc8 v2 v3 v4_7 hk2 σ
def fX1_follow_b8 (N : Nat) (h : Nat) (rc8 : Nat → Int32 → Int32 → Mem → Option (Int32 × Mem)) (v2 : Nat) (v3 : Int32) (v4 : Int32) (σ : Mem) : Option (Int32 × Mem) :=
  if v3 ≤ v4 then fX1_follow_b86 N h v2 v3 σ else if (σ.1 v2 0) ≤ v4 then fX1_follow_b86 N h v2 v3 σ else gd (inb v4 40) (gd (inb v4 40) (gd (inb v4 40) (bd (fX1_does N h (σ.1 (v2 + 1) v4.toNatClampNeg) (σ.1 (v2 + 2) v4.toNatClampNeg) (σ.1 (v2 + 3) v4.toNatClampNeg) σ) (fun r4 s5 => if r4 = 0 then some (v4, s5) else if (s5.1 h 5) = (-1) then if (s5.1 (h + 1) 4) = 0 then fX1_follow_b80 N h rc8 v2 v3 v4 s5 else lt_ (pI s5 h 5 (v4 + 1)) (fun s6 => fX1_follow_b80 N h rc8 v2 v3 v4 s6) else fX1_follow_b80 N h rc8 v2 v3 v4 s5))))
set_option maxRecDepth 100000 in
set_option maxHeartbeats 4000000 in
theorem bX1_follow_8 {x : Cx} {z : Sx} (X : XG x z RX1 cX1_follow 5 6 140) (E : XE x z) (hr : XR x (some .int)) (hZ : z.2.2.2.1 = kdC) (N : Nat) (h : Nat) (hh : z.2.2.2.1 h = (1, 0)) (rc8 : Nat → Int32 → Int32 → Mem → Option (Int32 × Mem)) (hc8 : ∀ (v2 : Nat) (v3 : Int32) (v4 : Int32) (hk2 : z.2.2.2.1 v2 = (8, 0)) (σ : Mem), VK x z 5 (BQ QI x z) 8 [(0, .ref (z.2.2.1 h)), (2, .ref (z.2.2.1 v2)), (3, .int v3), (4, .int v4)] [] σ (rc8 v2 v3 v4 σ)) (v2 : Nat) (v3 : Int32) (v4 : Int32) (hk2 : z.2.2.2.1 v2 = (8, 0)) (σ : Mem) : VK x z 5 (BQ QI x z) 8 [(0, .ref (z.2.2.1 h)), (2, .ref (z.2.2.1 v2)), (3, .int v3), (4, .int v4)] [] σ (fX1_follow_b8 N h rc8 v2 v3 v4 σ) := by
  unfold fX1_follow_b8
  refine V_iload 3 X dX1_follow_8 rfl ?_
  refine V_iload_n 2 X dX1_follow_10 rfl rfl ?_
  refine V_icmp_ge (tgt := 86) X dX1_follow_11 (by decide) ?_ ?_
  · refine V_sub [0, 1, 2] rfl ?_
    exact bX1_follow_86 X E hr hZ N h hh v2 v3 hk2 σ
  · refine V_iload 3 X dX1_follow_14 rfl ?_
    refine V_aload_n 1 X dX1_follow_16 rfl rfl ?_
    refine V_getI 0 X dX1_follow_17 co8 hk2 (by decide) rfl wfX1_51 ?_
    refine V_icmp_ge (tgt := 86) X dX1_follow_20 (by decide) ?_ ?_
    · refine V_sub [0, 1, 2] rfl ?_
      exact bX1_follow_86 X E hr hZ N h hh v2 v3 hk2 σ
    · refine V_aload_n 0 X dX1_follow_23 rfl rfl ?_
      refine V_aload_n 1 X dX1_follow_24 rfl rfl ?_
      refine V_getR (k1 := (v2 + 1)) 1 X dX1_follow_25 co8 hk2 (by decide) rfl rfl wfX1_56 ?_
      refine V_iload 3 X dX1_follow_28 rfl ?_
      refine V_iald X dX1_follow_30 (kt8_1 hZ hk2) ?_
      refine V_aload_n 1 X dX1_follow_31 rfl rfl ?_
      refine V_getR (k1 := (v2 + 2)) 2 X dX1_follow_32 co8 hk2 (by decide) rfl rfl wfX1_59 ?_
      refine V_iload 3 X dX1_follow_35 rfl ?_
      refine V_iald X dX1_follow_37 (kt8_2 hZ hk2) ?_
      refine V_aload_n 1 X dX1_follow_38 rfl rfl ?_
      refine V_getR (k1 := (v2 + 3)) 3 X dX1_follow_39 co8 hk2 (by decide) rfl rfl wfX1_62 ?_
      refine V_iload 3 X dX1_follow_42 rfl ?_
      refine V_iald X dX1_follow_44 (kt8_3 hZ hk2) ?_
      refine V_callI [.int (σ.1 (v2 + 1) v4.toNatClampNeg), .int (σ.1 (v2 + 2) v4.toNatClampNeg), .int (σ.1 (v2 + 3) v4.toNatClampNeg)] [] X E dX1_follow_45 (kX1_does x.2.1 z hZ N h hh (σ.1 (v2 + 1) v4.toNatClampNeg) (σ.1 (v2 + 2) v4.toNatClampNeg) (σ.1 (v2 + 3) v4.toNatClampNeg) σ) co1 hh gcX1_65 hyX1_does rfl ⟨by decide, by decide⟩ rfl (Nat.le_of_ble_eq_true rfl) (fun r4 s5 => ?_)
      refine V_if_ne (tgt := 54) X dX1_follow_48 (by decide) ?_ ?_
      · refine V_aload_n 0 X dX1_follow_54 rfl rfl ?_
        refine V_getI 5 X dX1_follow_55 co1 hh (by decide) rfl wfX1_39 ?_
        refine V_iconst (v := -1) X dX1_follow_58 (by decide) ?_
        refine V_icmp_ne (tgt := 80) X dX1_follow_59 (by decide) ?_ ?_
        · refine V_sub [0, 1, 2, 3] rfl ?_
          exact bX1_follow_80 X E hr hZ N h hh rc8 hc8 v2 v3 v4 hk2 s5
        · refine V_aload_n 0 X dX1_follow_62 rfl rfl ?_
          refine V_getR (k1 := (h + 1)) 0 X dX1_follow_63 co1 hh (by decide) rfl rfl wfX1_12 ?_
          refine V_getI 4 X dX1_follow_66 co2 (kt1_0 hZ hh) (by decide) rfl wfX1_69 ?_
          refine V_if_eq (tgt := 80) X dX1_follow_69 (by decide) ?_ ?_
          · refine V_sub [0, 1, 2, 3] rfl ?_
            exact bX1_follow_80 X E hr hZ N h hh rc8 hc8 v2 v3 v4 hk2 s5
          · refine V_aload_n 0 X dX1_follow_72 rfl rfl ?_
            refine V_iload 3 X dX1_follow_73 rfl ?_
            refine V_iconst (v := 1) X dX1_follow_75 (by decide) ?_
            refine V_iadd X dX1_follow_76 ?_
            refine V_putIG 5 X dX1_follow_77 co1 hh (by decide) rfl wfX1_39 rfl rfl rfl (fun s6 => ?_)
            refine V_sub [0, 1, 2, 3] rfl ?_
            exact bX1_follow_80 X E hr hZ N h hh rc8 hc8 v2 v3 v4 hk2 s6
      · refine V_iload 3 X dX1_follow_51 rfl ?_
        exact V_iret X E hr dX1_follow_53
def fX1_follow_l8 (N : Nat) (h : Nat) : Nat → Nat → Int32 → Int32 → Mem → Option (Int32 × Mem)
  | 0 => fun _ _ _ _ => none
  | n + 1 => fX1_follow_b8 N h (fX1_follow_l8 N h n)
theorem lX1_follow_8 {x : Cx} {z : Sx} (X : XG x z RX1 cX1_follow 5 6 140) (E : XE x z) (hr : XR x (some .int)) (hZ : z.2.2.2.1 = kdC) (N : Nat) (h : Nat) (hh : z.2.2.2.1 h = (1, 0)) (n : Nat) (v2 : Nat) (v3 : Int32) (v4 : Int32) (hk2 : z.2.2.2.1 v2 = (8, 0)) (σ : Mem) : VK x z 5 (BQ QI x z) 8 [(0, .ref (z.2.2.1 h)), (2, .ref (z.2.2.1 v2)), (3, .int v3), (4, .int v4)] [] σ (fX1_follow_l8 N h n v2 v3 v4 σ) := by
  induction n generalizing v2 v3 v4 hk2 σ with
  | zero => exact V_none
  | succ n ih => exact bX1_follow_8 X E hr hZ N h hh (fX1_follow_l8 N h n) ih v2 v3 v4 hk2 σ
def fX1_follow (N : Nat) (h : Nat) (v1 : Nat) (v2 : Nat) (v3 : Int32) (σ : Mem) : Option (Int32 × Mem) :=
  bd (fX1_begin N h v1 σ) (fun r1 s2 => lt_ 0 (fun v4_3 => fX1_follow_l8 N h N v2 v3 v4_3 s2))
set_option maxRecDepth 100000 in
set_option maxHeartbeats 4000000 in
theorem bX1_follow_0 {x : Cx} {z : Sx} (X : XG x z RX1 cX1_follow 5 6 140) (E : XE x z) (hr : XR x (some .int)) (hZ : z.2.2.2.1 = kdC) (N : Nat) (h : Nat) (hh : z.2.2.2.1 h = (1, 0)) (v1 : Nat) (v2 : Nat) (v3 : Int32) (hk1 : z.2.2.2.1 v1 = (0, 0)) (hk2 : z.2.2.2.1 v2 = (8, 0)) (σ : Mem) : VK x z 5 (BQ QI x z) 0 [(0, .ref (z.2.2.1 h)), (1, .ref (z.2.2.1 v1)), (2, .ref (z.2.2.1 v2)), (3, .int v3)] [] σ (fX1_follow N h v1 v2 v3 σ) := by
  unfold fX1_follow
  refine V_aload_n 0 X dX1_follow_0 rfl rfl ?_
  refine V_aload_n 1 X dX1_follow_1 rfl rfl ?_
  refine V_callV [.ref (z.2.2.1 v1)] [] X E dX1_follow_2 (kX1_begin x.2.1 z hZ N h hh v1 hk1 σ) co1 hh gcX1_48 hyX1_begin rfl ⟨by decide, by decide⟩ rfl (Nat.le_of_ble_eq_true rfl) (fun r1 s2 => ?_)
  refine V_iconst (v := 0) X dX1_follow_5 (by decide) ?_
  refine V_istoreG (L' := fun v4_3 => [(4, .int v4_3), (0, .ref (z.2.2.1 h)), (1, .ref (z.2.2.1 v1)), (2, .ref (z.2.2.1 v2)), (3, .int v3)]) X dX1_follow_6 (by decide) (fun _ => rfl) (fun v4_3 => ?_)
  refine V_sub [1, 3, 4, 0] rfl ?_
  exact lX1_follow_8 X E hr hZ N h hh N v2 v3 v4_3 hk2 s2
theorem kX1_follow (l : Launch) (z : Sx) (hZ : z.2.2.2.1 = kdC) (N : Nat) (h : Nat) (hh : z.2.2.2.1 h = (1, 0)) (v1 : Nat) (v2 : Nat) (v3 : Int32) (hk1 : z.2.2.2.1 v1 = (0, 0)) (hk2 : z.2.2.2.1 v2 = (8, 0)) (σ : Mem) : Ct QI yX1_follow cX1_follow 5 (some .int) 6 140 l z [.ref (z.2.2.1 h), .ref (z.2.2.1 v1), .ref (z.2.2.1 v2), .int v3] σ (fX1_follow N h v1 v2 v3 σ) := by
  refine Ct_of (by decide +kernel) (Nat.le_of_ble_eq_true rfl) rfl ?_
  intro x _ X E hr
  exact bX1_follow_0 X E hr hZ N h hh v1 v2 v3 hk1 hk2 σ
def fX11_stop (N : Nat) (h : Nat) (v1 : Int32) (v2 : Int32) (σ : Mem) : Option (Int32 × Mem) :=
  bd (fX9_chamberAt N (h + 1) v1 σ) (fun or1 s2 => mqK (0, 0) or1 (bd (fX9_sessionAt N (h + 1) v2 s2) (fun or4 s5 => mqK (8, 0) or4 (some ((-1), s5)) (fun r4 => some ((-1), s5)))) (fun r1 => bd (fX9_sessionAt N (h + 1) v2 s2) (fun or7 s8 => mqK (8, 0) or7 (some ((-1), s8)) (fun r7 => bd (fX1_follow N (h + 205) r1 r7 (s8.1 r7 0) s8) (fun r10 s11 => some (r10, s11))))))
set_option maxRecDepth 100000 in
set_option maxHeartbeats 4000000 in
theorem bX11_stop_0 {x : Cx} {z : Sx} (X : XG x z RX11 cX11_stop 5 7 164) (E : XE x z) (hr : XR x (some .int)) (hZ : z.2.2.2.1 = kdC) (N : Nat) (h : Nat) (hh : z.2.2.2.1 h = (11, 0)) (v1 : Int32) (v2 : Int32) (σ : Mem) : VK x z 5 (BQ QI x z) 0 [(0, .ref (z.2.2.1 h)), (1, .int v1), (2, .int v2)] [] σ (fX11_stop N h v1 v2 σ) := by
  unfold fX11_stop
  refine V_aload_n 0 X dX11_stop_0 rfl rfl ?_
  refine V_getR (k1 := (h + 1)) 0 X dX11_stop_1 co11 hh (by decide) rfl rfl wfX11_10 ?_
  refine V_iload_n 1 X dX11_stop_4 rfl rfl ?_
  refine V_callQC (K := (0, 0)) [.int v1] [] X E hZ dX11_stop_5 (kX9_chamberAt x.2.1 z hZ N (h + 1) (kt11_0 hZ hh) v1 σ) co9 (kt11_0 hZ hh) gcX11_105 hyX9_chamberAt rfl ⟨by decide, by decide⟩ rfl (Nat.le_of_ble_eq_true rfl) (fun s2 => ?_) (fun r1 s2 hb3 => ?_)
  · refine V_astore_nN (L' := [(3, .null), (0, .ref (z.2.2.1 h)), (1, .int v1), (2, .int v2)]) X dX11_stop_8 rfl (by decide) rfl ?_
    refine V_aload_n 1 X dX11_stop_9 rfl rfl ?_
    refine V_getR (k1 := (h + 1)) 0 X dX11_stop_10 co11 hh (by decide) rfl rfl wfX11_10 ?_
    refine V_iload_n 3 X dX11_stop_13 rfl rfl ?_
    refine V_callQC (K := (8, 0)) [.int v2] [] X E hZ dX11_stop_14 (kX9_sessionAt x.2.1 z hZ N (h + 1) (kt11_0 hZ hh) v2 s2) co9 (kt11_0 hZ hh) gcX11_142 hyX9_sessionAt rfl ⟨by decide, by decide⟩ rfl (Nat.le_of_ble_eq_true rfl) (fun s5 => ?_) (fun r4 s5 hb6 => ?_)
    · refine V_astoreN (L' := [(4, .null), (3, .null), (0, .ref (z.2.2.1 h)), (1, .int v1), (2, .int v2)]) X dX11_stop_17 (by decide) rfl ?_
      refine V_aload_nN 1 X dX11_stop_19 rfl rfl ?_
      refine V_ifnullN (tgt := 28) X dX11_stop_20 (by decide) ?_
      refine V_iconst (v := -1) X dX11_stop_28 (by decide) ?_
      exact V_iret X E hr dX11_stop_29
    · refine V_astore (L' := [(4, .ref (z.2.2.1 r4)), (3, .null), (0, .ref (z.2.2.1 h)), (1, .int v1), (2, .int v2)]) X dX11_stop_17 (by decide) rfl ?_
      refine V_aload_nN 1 X dX11_stop_19 rfl rfl ?_
      refine V_ifnullN (tgt := 28) X dX11_stop_20 (by decide) ?_
      refine V_iconst (v := -1) X dX11_stop_28 (by decide) ?_
      exact V_iret X E hr dX11_stop_29
  · refine V_astore_n (L' := [(3, .ref (z.2.2.1 r1)), (0, .ref (z.2.2.1 h)), (1, .int v1), (2, .int v2)]) X dX11_stop_8 rfl (by decide) rfl ?_
    refine V_aload_n 1 X dX11_stop_9 rfl rfl ?_
    refine V_getR (k1 := (h + 1)) 0 X dX11_stop_10 co11 hh (by decide) rfl rfl wfX11_10 ?_
    refine V_iload_n 3 X dX11_stop_13 rfl rfl ?_
    refine V_callQC (K := (8, 0)) [.int v2] [] X E hZ dX11_stop_14 (kX9_sessionAt x.2.1 z hZ N (h + 1) (kt11_0 hZ hh) v2 s2) co9 (kt11_0 hZ hh) gcX11_142 hyX9_sessionAt rfl ⟨by decide, by decide⟩ rfl (Nat.le_of_ble_eq_true rfl) (fun s8 => ?_) (fun r7 s8 hb9 => ?_)
    · refine V_astoreN (L' := [(4, .null), (3, .ref (z.2.2.1 r1)), (0, .ref (z.2.2.1 h)), (1, .int v1), (2, .int v2)]) X dX11_stop_17 (by decide) rfl ?_
      refine V_aload_n 1 X dX11_stop_19 rfl rfl ?_
      refine V_ifnull X dX11_stop_20 ?_
      refine V_aloadN 0 X dX11_stop_23 rfl ?_
      refine V_ifnonnullN X dX11_stop_25 ?_
      refine V_iconst (v := -1) X dX11_stop_28 (by decide) ?_
      exact V_iret X E hr dX11_stop_29
    · refine V_astore (L' := [(4, .ref (z.2.2.1 r7)), (3, .ref (z.2.2.1 r1)), (0, .ref (z.2.2.1 h)), (1, .int v1), (2, .int v2)]) X dX11_stop_17 (by decide) rfl ?_
      refine V_aload_n 1 X dX11_stop_19 rfl rfl ?_
      refine V_ifnull X dX11_stop_20 ?_
      refine V_aload 0 X dX11_stop_23 rfl ?_
      refine V_ifnonnull (tgt := 30) X dX11_stop_25 (by decide) ?_
      refine V_aload_n 2 X dX11_stop_30 rfl rfl ?_
      refine V_getR (k1 := (h + 205)) 5 X dX11_stop_31 co11 hh (by decide) rfl rfl wfX11_41 ?_
      refine V_aload_n 1 X dX11_stop_34 rfl rfl ?_
      refine V_aload 0 X dX11_stop_35 rfl ?_
      refine V_aload 0 X dX11_stop_37 rfl ?_
      refine V_getI 0 X dX11_stop_39 co8 hb9 (by decide) rfl wfX11_150 ?_
      refine V_callI [.ref (z.2.2.1 r1), .ref (z.2.2.1 r7), .int (s8.1 r7 0)] [] X E dX11_stop_42 (kX1_follow x.2.1 z hZ N (h + 205) (kt11_5 hZ hh) r1 r7 (s8.1 r7 0) hb3 hb9 s8) co1 (kt11_5 hZ hh) gcX11_153 hyX1_follow rfl ⟨by decide, by decide⟩ rfl (Nat.le_of_ble_eq_true rfl) (fun r10 s11 => ?_)
      exact V_iret X E hr dX11_stop_45
theorem kX11_stop (l : Launch) (z : Sx) (hZ : z.2.2.2.1 = kdC) (N : Nat) (h : Nat) (hh : z.2.2.2.1 h = (11, 0)) (v1 : Int32) (v2 : Int32) (σ : Mem) : Ct QI yX11_stop cX11_stop 5 (some .int) 7 164 l z [.ref (z.2.2.1 h), .int v1, .int v2] σ (fX11_stop N h v1 v2 σ) := by
  refine Ct_of (by decide +kernel) (Nat.le_of_ble_eq_true rfl) rfl ?_
  intro x _ X E hr
  exact bX11_stop_0 X E hr hZ N h hh v1 v2 σ
