def fX3_waxFurther_b145 (N : Nat) (h : Nat) (q0 : Nat → Int32 → Int32 → Int32 → Int32 → Int32 → Mem → Option (Int32 × Mem)) (rc55 : Int32 → Int32 → Int32 → Int32 → Int32 → Mem → Option (Int32 × Mem)) (v1 : Int32) (v2 : Int32) (v4 : Int32) (v5 : Int32) (v6 : Int32) (σ : Mem) : Option (Int32 × Mem) :=
  lt_ (v6 + 1) (fun v6_10 => rc55 v1 v2 v4 v5 v6_10 σ)
set_option maxRecDepth 100000 in
set_option maxHeartbeats 4000000 in
theorem bX3_waxFurther_145 {x : Cx} {z : Sx} {d : Nat} (X : XG x z RX3 cX3_waxFurther 8 (4 + (d + 1)) (95 + 27 * (d + 1))) (E : XE x z) (hr : XR x (some .boolean)) (hZ : z.2.2.2.1 = kdC) (N : Nat) (h : Nat) (hh : z.2.2.2.1 h = (3, 0)) (q0 : Nat → Int32 → Int32 → Int32 → Int32 → Int32 → Mem → Option (Int32 × Mem)) (g0 : ∀ (l : Launch) (h : Nat) (hh : z.2.2.2.1 h = (3, 0)) (a0 a1 a2 a3 a4 : Int32) (σ : Mem), Ct QI yX3_waxFurther cX3_waxFurther 8 (some .boolean) (4 + d) (95 + 27 * d) l z [.ref (z.2.2.1 h), .int a0, .int a1, .int a2, .int a3, .int a4] σ (q0 h a0 a1 a2 a3 a4 σ)) (rc55 : Int32 → Int32 → Int32 → Int32 → Int32 → Mem → Option (Int32 × Mem)) (hc55 : ∀ (v1 : Int32) (v2 : Int32) (v4 : Int32) (v5 : Int32) (v6 : Int32) (σ : Mem), VK x z 8 (BQ QI x z) 55 [(0, .ref (z.2.2.1 h)), (1, .int v1), (2, .int v2), (4, .int v4), (5, .int v5), (6, .int v6)] [] σ (rc55 v1 v2 v4 v5 v6 σ)) (v1 : Int32) (v2 : Int32) (v4 : Int32) (v5 : Int32) (v6 : Int32) (σ : Mem) : VK x z 8 (BQ QI x z) 145 [(0, .ref (z.2.2.1 h)), (1, .int v1), (2, .int v2), (4, .int v4), (5, .int v5), (6, .int v6)] [] σ (fX3_waxFurther_b145 N h q0 rc55 v1 v2 v4 v5 v6 σ) := by
  unfold fX3_waxFurther_b145
  refine V_iincG (L' := fun v6_10 => [(6, .int v6_10), (0, .ref (z.2.2.1 h)), (1, .int v1), (2, .int v2), (4, .int v4), (5, .int v5)]) 5 X dX3_waxFurther_145 rfl rfl (by decide) (fun _ => rfl) (fun v6_10 => ?_)
  refine V_goto (tgt := 55) X dX3_waxFurther_148 (by decide) ?_
  refine V_sub [1, 2, 3, 4, 5, 0] rfl ?_
  exact hc55 v1 v2 v4 v5 v6_10 σ
def fX3_waxFurther_b55 (N : Nat) (h : Nat) (q0 : Nat → Int32 → Int32 → Int32 → Int32 → Int32 → Mem → Option (Int32 × Mem)) (rc55 : Int32 → Int32 → Int32 → Int32 → Int32 → Mem → Option (Int32 × Mem)) (v1 : Int32) (v2 : Int32) (v4 : Int32) (v5 : Int32) (v6 : Int32) (σ : Mem) : Option (Int32 × Mem) :=
  if (σ.1 ((h + 2) + 1) 0) ≤ v6 then some (0, σ) else gd (inb v6 8) (if 9 ≤ (σ.1 ((h + 2) + 10) v6.toNatClampNeg) then fX3_waxFurther_b145 N h q0 rc55 v1 v2 v4 v5 v6 σ else gd (inb v4 3) (lt_ (pI σ (h + 1) v4.toNatClampNeg v6) (fun s4 => gd (inb v6 8) (gd (inb v6 8) (lt_ (pI s4 ((h + 2) + 10) v6.toNatClampNeg ((s4.1 ((h + 2) + 10) v6.toNatClampNeg) + 1)) (fun s5 => bd (q0 h v1 v2 v6 (v4 + 1) v5 s5) (fun r6 s7 => lt_ r6 (fun v7_8 => gd (inb v6 8) (gd (inb v6 8) (lt_ (pI s7 ((h + 2) + 10) v6.toNatClampNeg ((s7.1 ((h + 2) + 10) v6.toNatClampNeg) - 1)) (fun s9 => if v7_8 = 0 then fX3_waxFurther_b145 N h q0 rc55 v1 v2 v4 v5 v6 s9 else some (1, s9))))))))))))
set_option maxRecDepth 100000 in
set_option maxHeartbeats 4000000 in
theorem bX3_waxFurther_55 {x : Cx} {z : Sx} {d : Nat} (X : XG x z RX3 cX3_waxFurther 8 (4 + (d + 1)) (95 + 27 * (d + 1))) (E : XE x z) (hr : XR x (some .boolean)) (hZ : z.2.2.2.1 = kdC) (N : Nat) (h : Nat) (hh : z.2.2.2.1 h = (3, 0)) (q0 : Nat → Int32 → Int32 → Int32 → Int32 → Int32 → Mem → Option (Int32 × Mem)) (g0 : ∀ (l : Launch) (h : Nat) (hh : z.2.2.2.1 h = (3, 0)) (a0 a1 a2 a3 a4 : Int32) (σ : Mem), Ct QI yX3_waxFurther cX3_waxFurther 8 (some .boolean) (4 + d) (95 + 27 * d) l z [.ref (z.2.2.1 h), .int a0, .int a1, .int a2, .int a3, .int a4] σ (q0 h a0 a1 a2 a3 a4 σ)) (rc55 : Int32 → Int32 → Int32 → Int32 → Int32 → Mem → Option (Int32 × Mem)) (hc55 : ∀ (v1 : Int32) (v2 : Int32) (v4 : Int32) (v5 : Int32) (v6 : Int32) (σ : Mem), VK x z 8 (BQ QI x z) 55 [(0, .ref (z.2.2.1 h)), (1, .int v1), (2, .int v2), (4, .int v4), (5, .int v5), (6, .int v6)] [] σ (rc55 v1 v2 v4 v5 v6 σ)) (v1 : Int32) (v2 : Int32) (v4 : Int32) (v5 : Int32) (v6 : Int32) (σ : Mem) : VK x z 8 (BQ QI x z) 55 [(0, .ref (z.2.2.1 h)), (1, .int v1), (2, .int v2), (4, .int v4), (5, .int v5), (6, .int v6)] [] σ (fX3_waxFurther_b55 N h q0 rc55 v1 v2 v4 v5 v6 σ) := by
  unfold fX3_waxFurther_b55
  refine V_iload 5 X dX3_waxFurther_55 rfl ?_
  refine V_aload_n 0 X dX3_waxFurther_57 rfl rfl ?_
  refine V_getR (k1 := (h + 2)) 1 X dX3_waxFurther_58 co3 hh (by decide) rfl rfl wfX3_18 ?_
  refine V_getR (k1 := ((h + 2) + 1)) 0 X dX3_waxFurther_61 co2 (kt3_1 hZ hh) (by decide) rfl rfl wfX3_40 ?_
  refine V_getI 0 X dX3_waxFurther_64 co0 (kt2_0 hZ (kt3_1 hZ hh)) (by decide) rfl wfX3_44 ?_
  refine V_icmp_ge (tgt := 151) X dX3_waxFurther_67 (by decide) ?_ ?_
  · refine V_iconst (v := 0) X dX3_waxFurther_151 (by decide) ?_
    exact V_zret X E hr dX3_waxFurther_152 (by decide)
  · refine V_aload_n 0 X dX3_waxFurther_70 rfl rfl ?_
    refine V_getR (k1 := (h + 2)) 1 X dX3_waxFurther_71 co3 hh (by decide) rfl rfl wfX3_18 ?_
    refine V_getR (k1 := ((h + 2) + 10)) 1 X dX3_waxFurther_74 co2 (kt3_1 hZ hh) (by decide) rfl rfl wfX3_50 ?_
    refine V_iload 5 X dX3_waxFurther_77 rfl ?_
    refine V_iald X dX3_waxFurther_79 (kt2_1 hZ (kt3_1 hZ hh)) ?_
    refine V_bipush (v := 9) X dX3_waxFurther_80 (by decide) ?_
    refine V_icmp_ge (tgt := 145) X dX3_waxFurther_82 (by decide) ?_ ?_
    · refine V_sub [0, 1, 2, 3, 4, 5] rfl ?_
      exact bX3_waxFurther_145 X E hr hZ N h hh q0 g0 rc55 hc55 v1 v2 v4 v5 v6 σ
    · refine V_aload_n 0 X dX3_waxFurther_85 rfl rfl ?_
      refine V_getR (k1 := (h + 1)) 0 X dX3_waxFurther_86 co3 hh (by decide) rfl rfl wfX3_11 ?_
      refine V_iload 3 X dX3_waxFurther_89 rfl ?_
      refine V_iload 5 X dX3_waxFurther_91 rfl ?_
      refine V_iastG X dX3_waxFurther_93 (kt3_0 hZ hh) (fun s4 => ?_)
      refine V_aload_n 0 X dX3_waxFurther_94 rfl rfl ?_
      refine V_getR (k1 := (h + 2)) 1 X dX3_waxFurther_95 co3 hh (by decide) rfl rfl wfX3_18 ?_
      refine V_getR (k1 := ((h + 2) + 10)) 1 X dX3_waxFurther_98 co2 (kt3_1 hZ hh) (by decide) rfl rfl wfX3_50 ?_
      refine V_iload 5 X dX3_waxFurther_101 rfl ?_
      refine V_dup2 X dX3_waxFurther_103 rfl rfl ?_
      refine V_iald X dX3_waxFurther_104 (kt2_1 hZ (kt3_1 hZ hh)) ?_
      refine V_iconst (v := 1) X dX3_waxFurther_105 (by decide) ?_
      refine V_iadd X dX3_waxFurther_106 ?_
      refine V_iastG X dX3_waxFurther_107 (kt2_1 hZ (kt3_1 hZ hh)) (fun s5 => ?_)
      refine V_aload_n 0 X dX3_waxFurther_108 rfl rfl ?_
      refine V_iload_n 1 X dX3_waxFurther_109 rfl rfl ?_
      refine V_iload_n 2 X dX3_waxFurther_110 rfl rfl ?_
      refine V_iload 5 X dX3_waxFurther_111 rfl ?_
      refine V_iload 3 X dX3_waxFurther_113 rfl ?_
      refine V_iconst (v := 1) X dX3_waxFurther_115 (by decide) ?_
      refine V_iadd X dX3_waxFurther_116 ?_
      refine V_iload 4 X dX3_waxFurther_117 rfl ?_
      refine V_callI [.int v1, .int v2, .int v6, .int (v4 + 1), .int v5] [] X E dX3_waxFurther_119 (g0 x.2.1 h hh v1 v2 v6 (v4 + 1) v5 s5) co3 hh gcX3_26 hyX3_waxFurther rfl ⟨by omega, by omega⟩ rfl (Nat.le_of_ble_eq_true rfl) (fun r6 s7 => ?_)
      refine V_istoreG (L' := fun v7_8 => [(7, .int v7_8), (0, .ref (z.2.2.1 h)), (1, .int v1), (2, .int v2), (4, .int v4), (5, .int v5), (6, .int v6)]) X dX3_waxFurther_122 (by decide) (fun _ => rfl) (fun v7_8 => ?_)
      refine V_aload_n 1 X dX3_waxFurther_124 rfl rfl ?_
      refine V_getR (k1 := (h + 2)) 1 X dX3_waxFurther_125 co3 hh (by decide) rfl rfl wfX3_18 ?_
      refine V_getR (k1 := ((h + 2) + 10)) 1 X dX3_waxFurther_128 co2 (kt3_1 hZ hh) (by decide) rfl rfl wfX3_50 ?_
      refine V_iload 6 X dX3_waxFurther_131 rfl ?_
      refine V_dup2 X dX3_waxFurther_133 rfl rfl ?_
      refine V_iald X dX3_waxFurther_134 (kt2_1 hZ (kt3_1 hZ hh)) ?_
      refine V_iconst (v := 1) X dX3_waxFurther_135 (by decide) ?_
      refine V_isub X dX3_waxFurther_136 ?_
      refine V_iastG X dX3_waxFurther_137 (kt2_1 hZ (kt3_1 hZ hh)) (fun s9 => ?_)
      refine V_iload 0 X dX3_waxFurther_138 rfl ?_
      refine V_if_eq (tgt := 145) X dX3_waxFurther_140 (by decide) ?_ ?_
      · refine V_sub [1, 2, 3, 4, 5, 6] rfl ?_
        exact bX3_waxFurther_145 X E hr hZ N h hh q0 g0 rc55 hc55 v1 v2 v4 v5 v6 s9
      · refine V_iconst (v := 1) X dX3_waxFurther_143 (by decide) ?_
        exact V_zret X E hr dX3_waxFurther_144 (by decide)
def fX3_waxFurther_l55 (N : Nat) (h : Nat) (q0 : Nat → Int32 → Int32 → Int32 → Int32 → Int32 → Mem → Option (Int32 × Mem)) : Nat → Int32 → Int32 → Int32 → Int32 → Int32 → Mem → Option (Int32 × Mem)
  | 0 => fun _ _ _ _ _ _ => none
  | n + 1 => fX3_waxFurther_b55 N h q0 (fX3_waxFurther_l55 N h q0 n)
theorem lX3_waxFurther_55 {x : Cx} {z : Sx} {d : Nat} (X : XG x z RX3 cX3_waxFurther 8 (4 + (d + 1)) (95 + 27 * (d + 1))) (E : XE x z) (hr : XR x (some .boolean)) (hZ : z.2.2.2.1 = kdC) (N : Nat) (h : Nat) (hh : z.2.2.2.1 h = (3, 0)) (q0 : Nat → Int32 → Int32 → Int32 → Int32 → Int32 → Mem → Option (Int32 × Mem)) (g0 : ∀ (l : Launch) (h : Nat) (hh : z.2.2.2.1 h = (3, 0)) (a0 a1 a2 a3 a4 : Int32) (σ : Mem), Ct QI yX3_waxFurther cX3_waxFurther 8 (some .boolean) (4 + d) (95 + 27 * d) l z [.ref (z.2.2.1 h), .int a0, .int a1, .int a2, .int a3, .int a4] σ (q0 h a0 a1 a2 a3 a4 σ)) (n : Nat) (v1 : Int32) (v2 : Int32) (v4 : Int32) (v5 : Int32) (v6 : Int32) (σ : Mem) : VK x z 8 (BQ QI x z) 55 [(0, .ref (z.2.2.1 h)), (1, .int v1), (2, .int v2), (4, .int v4), (5, .int v5), (6, .int v6)] [] σ (fX3_waxFurther_l55 N h q0 n v1 v2 v4 v5 v6 σ) := by
  induction n generalizing v1 v2 v4 v5 v6 σ with
  | zero => exact V_none
  | succ n ih => exact bX3_waxFurther_55 X E hr hZ N h hh q0 g0 (fX3_waxFurther_l55 N h q0 n) ih v1 v2 v4 v5 v6 σ
def fX3_waxFurther_b38 (N : Nat) (h : Nat) (q0 : Nat → Int32 → Int32 → Int32 → Int32 → Int32 → Mem → Option (Int32 × Mem)) (v2 : Int32) (t0 : Int32) (σ : Mem) : Option (Int32 × Mem) :=
  if t0 = v2 then some (1, σ) else some (0, σ)
set_option maxRecDepth 100000 in
set_option maxHeartbeats 4000000 in
theorem bX3_waxFurther_38 {x : Cx} {z : Sx} {d : Nat} (X : XG x z RX3 cX3_waxFurther 8 (4 + (d + 1)) (95 + 27 * (d + 1))) (E : XE x z) (hr : XR x (some .boolean)) (hZ : z.2.2.2.1 = kdC) (N : Nat) (h : Nat) (hh : z.2.2.2.1 h = (3, 0)) (q0 : Nat → Int32 → Int32 → Int32 → Int32 → Int32 → Mem → Option (Int32 × Mem)) (g0 : ∀ (l : Launch) (h : Nat) (hh : z.2.2.2.1 h = (3, 0)) (a0 a1 a2 a3 a4 : Int32) (σ : Mem), Ct QI yX3_waxFurther cX3_waxFurther 8 (some .boolean) (4 + d) (95 + 27 * d) l z [.ref (z.2.2.1 h), .int a0, .int a1, .int a2, .int a3, .int a4] σ (q0 h a0 a1 a2 a3 a4 σ)) (v2 : Int32) (t0 : Int32) (σ : Mem) : VK x z 8 (BQ QI x z) 38 [(0, .ref (z.2.2.1 h)), (2, .int v2)] [.int t0] σ (fX3_waxFurther_b38 N h q0 v2 t0 σ) := by
  unfold fX3_waxFurther_b38
  refine V_iload_n 1 X dX3_waxFurther_38 rfl rfl ?_
  refine V_icmp_ne (tgt := 46) X dX3_waxFurther_39 (by decide) ?_ ?_
  · refine V_iconst (v := 0) X dX3_waxFurther_46 (by decide) ?_
    exact V_zret X E hr dX3_waxFurther_47 (by decide)
  · refine V_iconst (v := 1) X dX3_waxFurther_42 (by decide) ?_
    refine V_goto (tgt := 47) X dX3_waxFurther_43 (by decide) ?_
    exact V_zret X E hr dX3_waxFurther_47 (by decide)
def fX3_waxFurther_b22 (N : Nat) (h : Nat) (q0 : Nat → Int32 → Int32 → Int32 → Int32 → Int32 → Mem → Option (Int32 × Mem)) (v1 : Int32) (v2 : Int32) (σ : Mem) : Option (Int32 × Mem) :=
  bd (fX2_vote N (h + 2) v1 σ) (fun r2 s3 => if r2 ≤ 0 then fX3_waxFurther_b38 N h q0 v2 0 s3 else fX3_waxFurther_b38 N h q0 v2 1 s3)
set_option maxRecDepth 100000 in
set_option maxHeartbeats 4000000 in
theorem bX3_waxFurther_22 {x : Cx} {z : Sx} {d : Nat} (X : XG x z RX3 cX3_waxFurther 8 (4 + (d + 1)) (95 + 27 * (d + 1))) (E : XE x z) (hr : XR x (some .boolean)) (hZ : z.2.2.2.1 = kdC) (N : Nat) (h : Nat) (hh : z.2.2.2.1 h = (3, 0)) (q0 : Nat → Int32 → Int32 → Int32 → Int32 → Int32 → Mem → Option (Int32 × Mem)) (g0 : ∀ (l : Launch) (h : Nat) (hh : z.2.2.2.1 h = (3, 0)) (a0 a1 a2 a3 a4 : Int32) (σ : Mem), Ct QI yX3_waxFurther cX3_waxFurther 8 (some .boolean) (4 + d) (95 + 27 * d) l z [.ref (z.2.2.1 h), .int a0, .int a1, .int a2, .int a3, .int a4] σ (q0 h a0 a1 a2 a3 a4 σ)) (v1 : Int32) (v2 : Int32) (σ : Mem) : VK x z 8 (BQ QI x z) 22 [(0, .ref (z.2.2.1 h)), (1, .int v1), (2, .int v2)] [] σ (fX3_waxFurther_b22 N h q0 v1 v2 σ) := by
  unfold fX3_waxFurther_b22
  refine V_aload_n 0 X dX3_waxFurther_22 rfl rfl ?_
  refine V_getR (k1 := (h + 2)) 1 X dX3_waxFurther_23 co3 hh (by decide) rfl rfl wfX3_18 ?_
  refine V_iload_n 1 X dX3_waxFurther_26 rfl rfl ?_
  refine V_callI [.int v1] [] X E dX3_waxFurther_27 (kX2_vote x.2.1 z hZ N (h + 2) (kt3_1 hZ hh) v1 σ) co2 (kt3_1 hZ hh) gcX3_30 hyX2_vote rfl ⟨by omega, by omega⟩ rfl (Nat.le_of_ble_eq_true rfl) (fun r2 s3 => ?_)
  refine V_if_le (tgt := 37) X dX3_waxFurther_30 (by decide) ?_ ?_
  · refine V_iconst (v := 0) X dX3_waxFurther_37 (by decide) ?_
    refine V_sub [0, 2] rfl ?_
    exact bX3_waxFurther_38 X E hr hZ N h hh q0 g0 v2 0 s3
  · refine V_iconst (v := 1) X dX3_waxFurther_33 (by decide) ?_
    refine V_goto (tgt := 38) X dX3_waxFurther_34 (by decide) ?_
    refine V_sub [0, 2] rfl ?_
    exact bX3_waxFurther_38 X E hr hZ N h hh q0 g0 v2 1 s3
def fX3_waxFurther (N : Nat) (h : Nat) (q0 : Nat → Int32 → Int32 → Int32 → Int32 → Int32 → Mem → Option (Int32 × Mem)) (v1 : Int32) (v2 : Int32) (v3 : Int32) (v4 : Int32) (v5 : Int32) (σ : Mem) : Option (Int32 × Mem) :=
  if v5 ≤ v4 then fX3_waxFurther_b22 N h q0 v1 v2 σ else if v4 < 0 then fX3_waxFurther_b22 N h q0 v1 v2 σ else if v4 < 3 then lt_ (mxI 0 v3) (fun v6_1 => fX3_waxFurther_l55 N h q0 N v1 v2 v4 v5 v6_1 σ) else fX3_waxFurther_b22 N h q0 v1 v2 σ
set_option maxRecDepth 100000 in
set_option maxHeartbeats 4000000 in
theorem bX3_waxFurther_0 {x : Cx} {z : Sx} {d : Nat} (X : XG x z RX3 cX3_waxFurther 8 (4 + (d + 1)) (95 + 27 * (d + 1))) (E : XE x z) (hr : XR x (some .boolean)) (hZ : z.2.2.2.1 = kdC) (N : Nat) (h : Nat) (hh : z.2.2.2.1 h = (3, 0)) (q0 : Nat → Int32 → Int32 → Int32 → Int32 → Int32 → Mem → Option (Int32 × Mem)) (g0 : ∀ (l : Launch) (h : Nat) (hh : z.2.2.2.1 h = (3, 0)) (a0 a1 a2 a3 a4 : Int32) (σ : Mem), Ct QI yX3_waxFurther cX3_waxFurther 8 (some .boolean) (4 + d) (95 + 27 * d) l z [.ref (z.2.2.1 h), .int a0, .int a1, .int a2, .int a3, .int a4] σ (q0 h a0 a1 a2 a3 a4 σ)) (v1 : Int32) (v2 : Int32) (v3 : Int32) (v4 : Int32) (v5 : Int32) (σ : Mem) : VK x z 8 (BQ QI x z) 0 [(0, .ref (z.2.2.1 h)), (1, .int v1), (2, .int v2), (3, .int v3), (4, .int v4), (5, .int v5)] [] σ (fX3_waxFurther N h q0 v1 v2 v3 v4 v5 σ) := by
  unfold fX3_waxFurther
  refine V_iload 4 X dX3_waxFurther_0 rfl ?_
  refine V_iload 5 X dX3_waxFurther_2 rfl ?_
  refine V_icmp_ge (tgt := 22) X dX3_waxFurther_4 (by decide) ?_ ?_
  · refine V_sub [0, 1, 2] rfl ?_
    exact bX3_waxFurther_22 X E hr hZ N h hh q0 g0 v1 v2 σ
  · refine V_iload 4 X dX3_waxFurther_7 rfl ?_
    refine V_if_lt (tgt := 22) X dX3_waxFurther_9 (by decide) ?_ ?_
    · refine V_sub [0, 1, 2] rfl ?_
      exact bX3_waxFurther_22 X E hr hZ N h hh q0 g0 v1 v2 σ
    · refine V_iload 4 X dX3_waxFurther_12 rfl ?_
      refine V_aload_n 0 X dX3_waxFurther_14 rfl rfl ?_
      refine V_getR (k1 := (h + 1)) 0 X dX3_waxFurther_15 co3 hh (by decide) rfl rfl wfX3_11 ?_
      refine V_alen50 (v := 3) X dX3_waxFurther_18 (kt3_0 hZ hh) (by decide) ?_
      refine V_icmp_lt (tgt := 48) X dX3_waxFurther_19 (by decide) ?_ ?_
      · refine V_iconst (v := 0) X dX3_waxFurther_48 (by decide) ?_
        refine V_iload_n 3 X dX3_waxFurther_49 rfl rfl ?_
        refine V_mmax X dX3_waxFurther_50 mtX3_34 mtS_max mtI mtC_max (by omega) (by simp [Value.category]; try omega) ?_
        refine V_istoreG (L' := fun v6_1 => [(6, .int v6_1), (0, .ref (z.2.2.1 h)), (1, .int v1), (2, .int v2), (3, .int v3), (4, .int v4), (5, .int v5)]) X dX3_waxFurther_53 (by decide) (fun _ => rfl) (fun v6_1 => ?_)
        refine V_sub [1, 2, 3, 5, 6, 0] rfl ?_
        exact lX3_waxFurther_55 X E hr hZ N h hh q0 g0 N v1 v2 v4 v5 v6_1 σ
      · refine V_sub [0, 1, 2] rfl ?_
        exact bX3_waxFurther_22 X E hr hZ N h hh q0 g0 v1 v2 σ
def fX3_endsCarriedBy_b67 (N : Nat) (h : Nat) (q0 : Nat → Int32 → Int32 → Int32 → Mem → Option (Int32 × Mem)) (v1 : Int32) (t0 : Int32) (t1 : Int32) (t2 : Int32) (t3 : Nat) (σ : Mem) : Option (Int32 × Mem) :=
  bd (q0 t3 t2 t1 t0 σ) (fun r4 s5 => lt_ r4 (fun v5_6 => gd (inb v1 8) (gd (inb v1 8) (lt_ (pI s5 ((h + 2) + 10) v1.toNatClampNeg ((s5.1 ((h + 2) + 10) v1.toNatClampNeg) - 1)) (fun s7 => gd (decide (v5_6 = 0 ∨ v5_6 = 1)) (some (v5_6, s7)))))))
set_option maxRecDepth 100000 in
set_option maxHeartbeats 4000000 in
theorem bX3_endsCarriedBy_67 {x : Cx} {z : Sx} {d : Nat} (X : XG x z RX3 cX3_endsCarriedBy 6 (4 + 2 * d + 1) (95 + 49 * d + 24)) (E : XE x z) (hr : XR x (some .boolean)) (hZ : z.2.2.2.1 = kdC) (N : Nat) (h : Nat) (hh : z.2.2.2.1 h = (3, 0)) (q0 : Nat → Int32 → Int32 → Int32 → Mem → Option (Int32 × Mem)) (g0 : ∀ (l : Launch) (h : Nat) (hh : z.2.2.2.1 h = (3, 0)) (a0 a1 a2 : Int32) (σ : Mem), Ct QI yX3_endsCarried cX3_endsCarried 5 (some .boolean) (4 + 2 * d) (95 + 49 * d) l z [.ref (z.2.2.1 h), .int a0, .int a1, .int a2] σ (q0 h a0 a1 a2 σ)) (v1 : Int32) (t0 : Int32) (t1 : Int32) (t2 : Int32) (t3 : Nat) (hkt3 : z.2.2.2.1 t3 = (3, 0)) (σ : Mem) : VK x z 6 (BQ QI x z) 67 [(0, .ref (z.2.2.1 h)), (1, .int v1)] [.int t0, .int t1, .int t2, .ref (z.2.2.1 t3)] σ (fX3_endsCarriedBy_b67 N h q0 v1 t0 t1 t2 t3 σ) := by
  unfold fX3_endsCarriedBy_b67
  refine V_callI [.int t2, .int t1, .int t0] [] X E dX3_endsCarriedBy_67 (g0 x.2.1 t3 hkt3 t2 t1 t0 σ) co3 hkt3 gcX3_53 hyX3_endsCarried rfl ⟨by omega, by omega⟩ rfl (Nat.le_of_ble_eq_true rfl) (fun r4 s5 => ?_)
  refine V_istoreG (L' := fun v5_6 => [(5, .int v5_6), (0, .ref (z.2.2.1 h)), (1, .int v1)]) X dX3_endsCarriedBy_70 (by decide) (fun _ => rfl) (fun v5_6 => ?_)
  refine V_aload_n 1 X dX3_endsCarriedBy_72 rfl rfl ?_
  refine V_getR (k1 := (h + 2)) 1 X dX3_endsCarriedBy_73 co3 hh (by decide) rfl rfl wfX3_18 ?_
  refine V_getR (k1 := ((h + 2) + 10)) 1 X dX3_endsCarriedBy_76 co2 (kt3_1 hZ hh) (by decide) rfl rfl wfX3_50 ?_
  refine V_iload_n 2 X dX3_endsCarriedBy_79 rfl rfl ?_
  refine V_dup2 X dX3_endsCarriedBy_80 rfl rfl ?_
  refine V_iald X dX3_endsCarriedBy_81 (kt2_1 hZ (kt3_1 hZ hh)) ?_
  refine V_iconst (v := 1) X dX3_endsCarriedBy_82 (by decide) ?_
  refine V_isub X dX3_endsCarriedBy_83 ?_
  refine V_iastG X dX3_endsCarriedBy_84 (kt2_1 hZ (kt3_1 hZ hh)) (fun s7 => ?_)
  refine V_iload 0 X dX3_endsCarriedBy_85 rfl ?_
  exact V_zretG X E hr dX3_endsCarriedBy_87
def fX3_endsCarriedBy_b28 (N : Nat) (h : Nat) (q0 : Nat → Int32 → Int32 → Int32 → Mem → Option (Int32 × Mem)) (v4 : Int32) (σ : Mem) : Option (Int32 × Mem) :=
  if v4 = 0 then some (1, σ) else some (0, σ)
set_option maxRecDepth 100000 in
set_option maxHeartbeats 4000000 in
theorem bX3_endsCarriedBy_28 {x : Cx} {z : Sx} {d : Nat} (X : XG x z RX3 cX3_endsCarriedBy 6 (4 + 2 * d + 1) (95 + 49 * d + 24)) (E : XE x z) (hr : XR x (some .boolean)) (hZ : z.2.2.2.1 = kdC) (N : Nat) (h : Nat) (hh : z.2.2.2.1 h = (3, 0)) (q0 : Nat → Int32 → Int32 → Int32 → Mem → Option (Int32 × Mem)) (g0 : ∀ (l : Launch) (h : Nat) (hh : z.2.2.2.1 h = (3, 0)) (a0 a1 a2 : Int32) (σ : Mem), Ct QI yX3_endsCarried cX3_endsCarried 5 (some .boolean) (4 + 2 * d) (95 + 49 * d) l z [.ref (z.2.2.1 h), .int a0, .int a1, .int a2] σ (q0 h a0 a1 a2 σ)) (v4 : Int32) (σ : Mem) : VK x z 6 (BQ QI x z) 28 [(0, .ref (z.2.2.1 h)), (4, .int v4)] [] σ (fX3_endsCarriedBy_b28 N h q0 v4 σ) := by
  unfold fX3_endsCarriedBy_b28
  refine V_iload 1 X dX3_endsCarriedBy_28 rfl ?_
  refine V_if_ne (tgt := 37) X dX3_endsCarriedBy_30 (by decide) ?_ ?_
  · refine V_iconst (v := 0) X dX3_endsCarriedBy_37 (by decide) ?_
    exact V_zret X E hr dX3_endsCarriedBy_38 (by decide)
  · refine V_iconst (v := 1) X dX3_endsCarriedBy_33 (by decide) ?_
    refine V_goto (tgt := 38) X dX3_endsCarriedBy_34 (by decide) ?_
    exact V_zret X E hr dX3_endsCarriedBy_38 (by decide)
def fX3_endsCarriedBy (N : Nat) (h : Nat) (q0 : Nat → Int32 → Int32 → Int32 → Mem → Option (Int32 × Mem)) (v1 : Int32) (v2 : Int32) (v3 : Int32) (v4 : Int32) (σ : Mem) : Option (Int32 × Mem) :=
  bd (fX0_hasPiece N ((h + 2) + 1) v1 σ) (fun r1 s2 => if r1 = 0 then fX3_endsCarriedBy_b28 N h q0 v4 s2 else gd (inb v1 8) (if (s2.1 ((h + 2) + 10) v1.toNatClampNeg) < 9 then gd (inb v1 8) (gd (inb v1 8) (lt_ (pI s2 ((h + 2) + 10) v1.toNatClampNeg ((s2.1 ((h + 2) + 10) v1.toNatClampNeg) + 1)) (fun s3 => if v4 = 0 then fX3_endsCarriedBy_b67 N h q0 v1 1 (v3 - 1) v2 h s3 else fX3_endsCarriedBy_b67 N h q0 v1 0 (v3 - 1) v2 h s3))) else fX3_endsCarriedBy_b28 N h q0 v4 s2))
set_option maxRecDepth 100000 in
set_option maxHeartbeats 4000000 in
theorem bX3_endsCarriedBy_0 {x : Cx} {z : Sx} {d : Nat} (X : XG x z RX3 cX3_endsCarriedBy 6 (4 + 2 * d + 1) (95 + 49 * d + 24)) (E : XE x z) (hr : XR x (some .boolean)) (hZ : z.2.2.2.1 = kdC) (N : Nat) (h : Nat) (hh : z.2.2.2.1 h = (3, 0)) (q0 : Nat → Int32 → Int32 → Int32 → Mem → Option (Int32 × Mem)) (g0 : ∀ (l : Launch) (h : Nat) (hh : z.2.2.2.1 h = (3, 0)) (a0 a1 a2 : Int32) (σ : Mem), Ct QI yX3_endsCarried cX3_endsCarried 5 (some .boolean) (4 + 2 * d) (95 + 49 * d) l z [.ref (z.2.2.1 h), .int a0, .int a1, .int a2] σ (q0 h a0 a1 a2 σ)) (v1 : Int32) (v2 : Int32) (v3 : Int32) (v4 : Int32) (σ : Mem) : VK x z 6 (BQ QI x z) 0 [(0, .ref (z.2.2.1 h)), (1, .int v1), (2, .int v2), (3, .int v3), (4, .int v4)] [] σ (fX3_endsCarriedBy N h q0 v1 v2 v3 v4 σ) := by
  unfold fX3_endsCarriedBy
  refine V_aload_n 0 X dX3_endsCarriedBy_0 rfl rfl ?_
  refine V_getR (k1 := (h + 2)) 1 X dX3_endsCarriedBy_1 co3 hh (by decide) rfl rfl wfX3_18 ?_
  refine V_getR (k1 := ((h + 2) + 1)) 0 X dX3_endsCarriedBy_4 co2 (kt3_1 hZ hh) (by decide) rfl rfl wfX3_40 ?_
  refine V_iload_n 1 X dX3_endsCarriedBy_7 rfl rfl ?_
  refine V_callI [.int v1] [] X E dX3_endsCarriedBy_8 (kX0_hasPiece x.2.1 z hZ N ((h + 2) + 1) (kt2_0 hZ (kt3_1 hZ hh)) v1 σ) co0 (kt2_0 hZ (kt3_1 hZ hh)) gcX3_65 hyX0_hasPiece rfl ⟨by omega, by omega⟩ rfl (Nat.le_of_ble_eq_true rfl) (fun r1 s2 => ?_)
  refine V_if_eq (tgt := 28) X dX3_endsCarriedBy_11 (by decide) ?_ ?_
  · refine V_sub [0, 4] rfl ?_
    exact bX3_endsCarriedBy_28 X E hr hZ N h hh q0 g0 v4 s2
  · refine V_aload_n 0 X dX3_endsCarriedBy_14 rfl rfl ?_
    refine V_getR (k1 := (h + 2)) 1 X dX3_endsCarriedBy_15 co3 hh (by decide) rfl rfl wfX3_18 ?_
    refine V_getR (k1 := ((h + 2) + 10)) 1 X dX3_endsCarriedBy_18 co2 (kt3_1 hZ hh) (by decide) rfl rfl wfX3_50 ?_
    refine V_iload_n 1 X dX3_endsCarriedBy_21 rfl rfl ?_
    refine V_iald X dX3_endsCarriedBy_22 (kt2_1 hZ (kt3_1 hZ hh)) ?_
    refine V_bipush (v := 9) X dX3_endsCarriedBy_23 (by decide) ?_
    refine V_icmp_lt (tgt := 39) X dX3_endsCarriedBy_25 (by decide) ?_ ?_
    · refine V_aload_n 0 X dX3_endsCarriedBy_39 rfl rfl ?_
      refine V_getR (k1 := (h + 2)) 1 X dX3_endsCarriedBy_40 co3 hh (by decide) rfl rfl wfX3_18 ?_
      refine V_getR (k1 := ((h + 2) + 10)) 1 X dX3_endsCarriedBy_43 co2 (kt3_1 hZ hh) (by decide) rfl rfl wfX3_50 ?_
      refine V_iload_n 1 X dX3_endsCarriedBy_46 rfl rfl ?_
      refine V_dup2 X dX3_endsCarriedBy_47 rfl rfl ?_
      refine V_iald X dX3_endsCarriedBy_48 (kt2_1 hZ (kt3_1 hZ hh)) ?_
      refine V_iconst (v := 1) X dX3_endsCarriedBy_49 (by decide) ?_
      refine V_iadd X dX3_endsCarriedBy_50 ?_
      refine V_iastG X dX3_endsCarriedBy_51 (kt2_1 hZ (kt3_1 hZ hh)) (fun s3 => ?_)
      refine V_aload_n 0 X dX3_endsCarriedBy_52 rfl rfl ?_
      refine V_iload_n 2 X dX3_endsCarriedBy_53 rfl rfl ?_
      refine V_iload_n 3 X dX3_endsCarriedBy_54 rfl rfl ?_
      refine V_iconst (v := 1) X dX3_endsCarriedBy_55 (by decide) ?_
      refine V_isub X dX3_endsCarriedBy_56 ?_
      refine V_iload 4 X dX3_endsCarriedBy_57 rfl ?_
      refine V_if_ne (tgt := 66) X dX3_endsCarriedBy_59 (by decide) ?_ ?_
      · refine V_iconst (v := 0) X dX3_endsCarriedBy_66 (by decide) ?_
        refine V_sub [0, 1] rfl ?_
        exact bX3_endsCarriedBy_67 X E hr hZ N h hh q0 g0 v1 0 (v3 - 1) v2 h hh s3
      · refine V_iconst (v := 1) X dX3_endsCarriedBy_62 (by decide) ?_
        refine V_goto (tgt := 67) X dX3_endsCarriedBy_63 (by decide) ?_
        refine V_sub [0, 1] rfl ?_
        exact bX3_endsCarriedBy_67 X E hr hZ N h hh q0 g0 v1 1 (v3 - 1) v2 h hh s3
    · refine V_sub [0, 4] rfl ?_
      exact bX3_endsCarriedBy_28 X E hr hZ N h hh q0 g0 v4 s2
def fX3_endsCarried_b90 (N : Nat) (h : Nat) (q0 : Nat → Int32 → Int32 → Int32 → Mem → Option (Int32 × Mem)) (q1 : Nat → Int32 → Int32 → Int32 → Int32 → Mem → Option (Int32 × Mem)) (rc47 : Int32 → Int32 → Int32 → Int32 → Mem → Option (Int32 × Mem)) (v1 : Int32) (v2 : Int32) (v3 : Int32) (v4 : Int32) (σ : Mem) : Option (Int32 × Mem) :=
  lt_ (v4 + 1) (fun v4_10 => rc47 v1 v2 v3 v4_10 σ)
set_option maxRecDepth 100000 in
set_option maxHeartbeats 4000000 in
theorem bX3_endsCarried_90 {x : Cx} {z : Sx} {d : Nat} (X : XG x z RX3 cX3_endsCarried 5 (4 + 2 * (d + 1)) (95 + 49 * (d + 1))) (E : XE x z) (hr : XR x (some .boolean)) (hZ : z.2.2.2.1 = kdC) (N : Nat) (h : Nat) (hh : z.2.2.2.1 h = (3, 0)) (q0 : Nat → Int32 → Int32 → Int32 → Mem → Option (Int32 × Mem)) (g0 : ∀ (l : Launch) (h : Nat) (hh : z.2.2.2.1 h = (3, 0)) (a0 a1 a2 : Int32) (σ : Mem), Ct QI yX3_endsCarried cX3_endsCarried 5 (some .boolean) (4 + 2 * d) (95 + 49 * d) l z [.ref (z.2.2.1 h), .int a0, .int a1, .int a2] σ (q0 h a0 a1 a2 σ)) (q1 : Nat → Int32 → Int32 → Int32 → Int32 → Mem → Option (Int32 × Mem)) (g1 : ∀ (l : Launch) (h : Nat) (hh : z.2.2.2.1 h = (3, 0)) (a0 a1 a2 a3 : Int32) (σ : Mem), Ct QI yX3_endsCarriedBy cX3_endsCarriedBy 6 (some .boolean) (4 + 2 * d + 1) (95 + 49 * d + 24) l z [.ref (z.2.2.1 h), .int a0, .int a1, .int a2, .int a3] σ (q1 h a0 a1 a2 a3 σ)) (rc47 : Int32 → Int32 → Int32 → Int32 → Mem → Option (Int32 × Mem)) (hc47 : ∀ (v1 : Int32) (v2 : Int32) (v3 : Int32) (v4 : Int32) (σ : Mem), VK x z 5 (BQ QI x z) 47 [(0, .ref (z.2.2.1 h)), (1, .int v1), (2, .int v2), (3, .int v3), (4, .int v4)] [] σ (rc47 v1 v2 v3 v4 σ)) (v1 : Int32) (v2 : Int32) (v3 : Int32) (v4 : Int32) (σ : Mem) : VK x z 5 (BQ QI x z) 90 [(0, .ref (z.2.2.1 h)), (1, .int v1), (2, .int v2), (3, .int v3), (4, .int v4)] [] σ (fX3_endsCarried_b90 N h q0 q1 rc47 v1 v2 v3 v4 σ) := by
  unfold fX3_endsCarried_b90
  refine V_iincG (L' := fun v4_10 => [(4, .int v4_10), (0, .ref (z.2.2.1 h)), (1, .int v1), (2, .int v2), (3, .int v3)]) 4 X dX3_endsCarried_90 rfl rfl (by decide) (fun _ => rfl) (fun v4_10 => ?_)
  refine V_goto (tgt := 47) X dX3_endsCarried_93 (by decide) ?_
  refine V_sub [1, 2, 3, 4, 0] rfl ?_
  exact hc47 v1 v2 v3 v4_10 σ
def fX3_endsCarried_b47 (N : Nat) (h : Nat) (q0 : Nat → Int32 → Int32 → Int32 → Mem → Option (Int32 × Mem)) (q1 : Nat → Int32 → Int32 → Int32 → Int32 → Mem → Option (Int32 × Mem)) (rc47 : Int32 → Int32 → Int32 → Int32 → Mem → Option (Int32 × Mem)) (v1 : Int32) (v2 : Int32) (v3 : Int32) (v4 : Int32) (σ : Mem) : Option (Int32 × Mem) :=
  if (σ.1 ((h + 2) + 1) 0) ≤ v4 then if v3 = 0 then some (1, σ) else some (0, σ) else bd (fX2_sounds N (h + 2) v4 v1 σ) (fun r6 s7 => if r6 = 0 then fX3_endsCarried_b90 N h q0 q1 rc47 v1 v2 v3 v4 s7 else bd (q1 h v4 v1 v2 v3 s7) (fun r8 s9 => if r8 = v3 then gd (decide (v3 = 0 ∨ v3 = 1)) (some (v3, s9)) else fX3_endsCarried_b90 N h q0 q1 rc47 v1 v2 v3 v4 s9))
set_option maxRecDepth 100000 in
set_option maxHeartbeats 4000000 in
theorem bX3_endsCarried_47 {x : Cx} {z : Sx} {d : Nat} (X : XG x z RX3 cX3_endsCarried 5 (4 + 2 * (d + 1)) (95 + 49 * (d + 1))) (E : XE x z) (hr : XR x (some .boolean)) (hZ : z.2.2.2.1 = kdC) (N : Nat) (h : Nat) (hh : z.2.2.2.1 h = (3, 0)) (q0 : Nat → Int32 → Int32 → Int32 → Mem → Option (Int32 × Mem)) (g0 : ∀ (l : Launch) (h : Nat) (hh : z.2.2.2.1 h = (3, 0)) (a0 a1 a2 : Int32) (σ : Mem), Ct QI yX3_endsCarried cX3_endsCarried 5 (some .boolean) (4 + 2 * d) (95 + 49 * d) l z [.ref (z.2.2.1 h), .int a0, .int a1, .int a2] σ (q0 h a0 a1 a2 σ)) (q1 : Nat → Int32 → Int32 → Int32 → Int32 → Mem → Option (Int32 × Mem)) (g1 : ∀ (l : Launch) (h : Nat) (hh : z.2.2.2.1 h = (3, 0)) (a0 a1 a2 a3 : Int32) (σ : Mem), Ct QI yX3_endsCarriedBy cX3_endsCarriedBy 6 (some .boolean) (4 + 2 * d + 1) (95 + 49 * d + 24) l z [.ref (z.2.2.1 h), .int a0, .int a1, .int a2, .int a3] σ (q1 h a0 a1 a2 a3 σ)) (rc47 : Int32 → Int32 → Int32 → Int32 → Mem → Option (Int32 × Mem)) (hc47 : ∀ (v1 : Int32) (v2 : Int32) (v3 : Int32) (v4 : Int32) (σ : Mem), VK x z 5 (BQ QI x z) 47 [(0, .ref (z.2.2.1 h)), (1, .int v1), (2, .int v2), (3, .int v3), (4, .int v4)] [] σ (rc47 v1 v2 v3 v4 σ)) (v1 : Int32) (v2 : Int32) (v3 : Int32) (v4 : Int32) (σ : Mem) : VK x z 5 (BQ QI x z) 47 [(0, .ref (z.2.2.1 h)), (1, .int v1), (2, .int v2), (3, .int v3), (4, .int v4)] [] σ (fX3_endsCarried_b47 N h q0 q1 rc47 v1 v2 v3 v4 σ) := by
  unfold fX3_endsCarried_b47
  refine V_iload 4 X dX3_endsCarried_47 rfl ?_
  refine V_aload_n 0 X dX3_endsCarried_49 rfl rfl ?_
  refine V_getR (k1 := (h + 2)) 1 X dX3_endsCarried_50 co3 hh (by decide) rfl rfl wfX3_18 ?_
  refine V_getR (k1 := ((h + 2) + 1)) 0 X dX3_endsCarried_53 co2 (kt3_1 hZ hh) (by decide) rfl rfl wfX3_40 ?_
  refine V_getI 0 X dX3_endsCarried_56 co0 (kt2_0 hZ (kt3_1 hZ hh)) (by decide) rfl wfX3_44 ?_
  refine V_icmp_ge (tgt := 96) X dX3_endsCarried_59 (by decide) ?_ ?_
  · refine V_iload_n 3 X dX3_endsCarried_96 rfl rfl ?_
    refine V_if_ne (tgt := 104) X dX3_endsCarried_97 (by decide) ?_ ?_
    · refine V_iconst (v := 0) X dX3_endsCarried_104 (by decide) ?_
      exact V_zret X E hr dX3_endsCarried_105 (by decide)
    · refine V_iconst (v := 1) X dX3_endsCarried_100 (by decide) ?_
      refine V_goto (tgt := 105) X dX3_endsCarried_101 (by decide) ?_
      exact V_zret X E hr dX3_endsCarried_105 (by decide)
  · refine V_aload_n 0 X dX3_endsCarried_62 rfl rfl ?_
    refine V_getR (k1 := (h + 2)) 1 X dX3_endsCarried_63 co3 hh (by decide) rfl rfl wfX3_18 ?_
    refine V_iload 4 X dX3_endsCarried_66 rfl ?_
    refine V_iload_n 1 X dX3_endsCarried_68 rfl rfl ?_
    refine V_callI [.int v4, .int v1] [] X E dX3_endsCarried_69 (kX2_sounds x.2.1 z hZ N (h + 2) (kt3_1 hZ hh) v4 v1 σ) co2 (kt3_1 hZ hh) gcX3_57 hyX2_sounds rfl ⟨by omega, by omega⟩ rfl (Nat.le_of_ble_eq_true rfl) (fun r6 s7 => ?_)
    refine V_if_eq (tgt := 90) X dX3_endsCarried_72 (by decide) ?_ ?_
    · refine V_sub [0, 1, 2, 3, 4] rfl ?_
      exact bX3_endsCarried_90 X E hr hZ N h hh q0 g0 q1 g1 rc47 hc47 v1 v2 v3 v4 s7
    · refine V_aload_n 0 X dX3_endsCarried_75 rfl rfl ?_
      refine V_iload 4 X dX3_endsCarried_76 rfl ?_
      refine V_iload_n 1 X dX3_endsCarried_78 rfl rfl ?_
      refine V_iload_n 2 X dX3_endsCarried_79 rfl rfl ?_
      refine V_iload_n 3 X dX3_endsCarried_80 rfl rfl ?_
      refine V_callI [.int v4, .int v1, .int v2, .int v3] [] X E dX3_endsCarried_81 (g1 x.2.1 h hh v4 v1 v2 v3 s7) co3 hh gcX3_61 hyX3_endsCarriedBy rfl ⟨by omega, by omega⟩ rfl (Nat.le_of_ble_eq_true rfl) (fun r8 s9 => ?_)
      refine V_iload_n 3 X dX3_endsCarried_84 rfl rfl ?_
      refine V_icmp_ne (tgt := 90) X dX3_endsCarried_85 (by decide) ?_ ?_
      · refine V_sub [0, 1, 2, 3, 4] rfl ?_
        exact bX3_endsCarried_90 X E hr hZ N h hh q0 g0 q1 g1 rc47 hc47 v1 v2 v3 v4 s9
      · refine V_iload_n 3 X dX3_endsCarried_88 rfl rfl ?_
        exact V_zretG X E hr dX3_endsCarried_89
def fX3_endsCarried_l47 (N : Nat) (h : Nat) (q0 : Nat → Int32 → Int32 → Int32 → Mem → Option (Int32 × Mem)) (q1 : Nat → Int32 → Int32 → Int32 → Int32 → Mem → Option (Int32 × Mem)) : Nat → Int32 → Int32 → Int32 → Int32 → Mem → Option (Int32 × Mem)
  | 0 => fun _ _ _ _ _ => none
  | n + 1 => fX3_endsCarried_b47 N h q0 q1 (fX3_endsCarried_l47 N h q0 q1 n)
theorem lX3_endsCarried_47 {x : Cx} {z : Sx} {d : Nat} (X : XG x z RX3 cX3_endsCarried 5 (4 + 2 * (d + 1)) (95 + 49 * (d + 1))) (E : XE x z) (hr : XR x (some .boolean)) (hZ : z.2.2.2.1 = kdC) (N : Nat) (h : Nat) (hh : z.2.2.2.1 h = (3, 0)) (q0 : Nat → Int32 → Int32 → Int32 → Mem → Option (Int32 × Mem)) (g0 : ∀ (l : Launch) (h : Nat) (hh : z.2.2.2.1 h = (3, 0)) (a0 a1 a2 : Int32) (σ : Mem), Ct QI yX3_endsCarried cX3_endsCarried 5 (some .boolean) (4 + 2 * d) (95 + 49 * d) l z [.ref (z.2.2.1 h), .int a0, .int a1, .int a2] σ (q0 h a0 a1 a2 σ)) (q1 : Nat → Int32 → Int32 → Int32 → Int32 → Mem → Option (Int32 × Mem)) (g1 : ∀ (l : Launch) (h : Nat) (hh : z.2.2.2.1 h = (3, 0)) (a0 a1 a2 a3 : Int32) (σ : Mem), Ct QI yX3_endsCarriedBy cX3_endsCarriedBy 6 (some .boolean) (4 + 2 * d + 1) (95 + 49 * d + 24) l z [.ref (z.2.2.1 h), .int a0, .int a1, .int a2, .int a3] σ (q1 h a0 a1 a2 a3 σ)) (n : Nat) (v1 : Int32) (v2 : Int32) (v3 : Int32) (v4 : Int32) (σ : Mem) : VK x z 5 (BQ QI x z) 47 [(0, .ref (z.2.2.1 h)), (1, .int v1), (2, .int v2), (3, .int v3), (4, .int v4)] [] σ (fX3_endsCarried_l47 N h q0 q1 n v1 v2 v3 v4 σ) := by
  induction n generalizing v1 v2 v3 v4 σ with
  | zero => exact V_none
  | succ n ih => exact bX3_endsCarried_47 X E hr hZ N h hh q0 g0 q1 g1 (fX3_endsCarried_l47 N h q0 q1 n) ih v1 v2 v3 v4 σ
def fX3_endsCarried_b35 (N : Nat) (h : Nat) (q0 : Nat → Int32 → Int32 → Int32 → Mem → Option (Int32 × Mem)) (q1 : Nat → Int32 → Int32 → Int32 → Int32 → Mem → Option (Int32 × Mem)) (v1 : Int32) (v2 : Int32) (v3 : Int32) (t0 : Int32) (t1 : Int32) (t2 : Int32) (t3 : Nat) (σ : Mem) : Option (Int32 × Mem) :=
  bd (q0 t3 t2 t1 t0 σ) (fun r3 s4 => if r3 = v3 then gd (decide (v3 = 0 ∨ v3 = 1)) (some (v3, s4)) else lt_ 0 (fun v4_5 => fX3_endsCarried_l47 N h q0 q1 N v1 v2 v3 v4_5 s4))
set_option maxRecDepth 100000 in
set_option maxHeartbeats 4000000 in
theorem bX3_endsCarried_35 {x : Cx} {z : Sx} {d : Nat} (X : XG x z RX3 cX3_endsCarried 5 (4 + 2 * (d + 1)) (95 + 49 * (d + 1))) (E : XE x z) (hr : XR x (some .boolean)) (hZ : z.2.2.2.1 = kdC) (N : Nat) (h : Nat) (hh : z.2.2.2.1 h = (3, 0)) (q0 : Nat → Int32 → Int32 → Int32 → Mem → Option (Int32 × Mem)) (g0 : ∀ (l : Launch) (h : Nat) (hh : z.2.2.2.1 h = (3, 0)) (a0 a1 a2 : Int32) (σ : Mem), Ct QI yX3_endsCarried cX3_endsCarried 5 (some .boolean) (4 + 2 * d) (95 + 49 * d) l z [.ref (z.2.2.1 h), .int a0, .int a1, .int a2] σ (q0 h a0 a1 a2 σ)) (q1 : Nat → Int32 → Int32 → Int32 → Int32 → Mem → Option (Int32 × Mem)) (g1 : ∀ (l : Launch) (h : Nat) (hh : z.2.2.2.1 h = (3, 0)) (a0 a1 a2 a3 : Int32) (σ : Mem), Ct QI yX3_endsCarriedBy cX3_endsCarriedBy 6 (some .boolean) (4 + 2 * d + 1) (95 + 49 * d + 24) l z [.ref (z.2.2.1 h), .int a0, .int a1, .int a2, .int a3] σ (q1 h a0 a1 a2 a3 σ)) (v1 : Int32) (v2 : Int32) (v3 : Int32) (t0 : Int32) (t1 : Int32) (t2 : Int32) (t3 : Nat) (hkt3 : z.2.2.2.1 t3 = (3, 0)) (σ : Mem) : VK x z 5 (BQ QI x z) 35 [(0, .ref (z.2.2.1 h)), (1, .int v1), (2, .int v2), (3, .int v3)] [.int t0, .int t1, .int t2, .ref (z.2.2.1 t3)] σ (fX3_endsCarried_b35 N h q0 q1 v1 v2 v3 t0 t1 t2 t3 σ) := by
  unfold fX3_endsCarried_b35
  refine V_callI [.int t2, .int t1, .int t0] [] X E dX3_endsCarried_35 (g0 x.2.1 t3 hkt3 t2 t1 t0 σ) co3 hkt3 gcX3_53 hyX3_endsCarried rfl ⟨by omega, by omega⟩ rfl (Nat.le_of_ble_eq_true rfl) (fun r3 s4 => ?_)
  refine V_iload_n 3 X dX3_endsCarried_38 rfl rfl ?_
  refine V_icmp_ne (tgt := 44) X dX3_endsCarried_39 (by decide) ?_ ?_
  · refine V_iconst (v := 0) X dX3_endsCarried_44 (by decide) ?_
    refine V_istoreG (L' := fun v4_5 => [(4, .int v4_5), (0, .ref (z.2.2.1 h)), (1, .int v1), (2, .int v2), (3, .int v3)]) X dX3_endsCarried_45 (by decide) (fun _ => rfl) (fun v4_5 => ?_)
    refine V_sub [1, 2, 3, 4, 0] rfl ?_
    exact lX3_endsCarried_47 X E hr hZ N h hh q0 g0 q1 g1 N v1 v2 v3 v4_5 s4
  · refine V_iload_n 3 X dX3_endsCarried_42 rfl rfl ?_
    exact V_zretG X E hr dX3_endsCarried_43
def fX3_endsCarried (N : Nat) (h : Nat) (q0 : Nat → Int32 → Int32 → Int32 → Mem → Option (Int32 × Mem)) (q1 : Nat → Int32 → Int32 → Int32 → Int32 → Mem → Option (Int32 × Mem)) (v1 : Int32) (v2 : Int32) (v3 : Int32) (σ : Mem) : Option (Int32 × Mem) :=
  if 0 < v2 then if v3 = 0 then fX3_endsCarried_b35 N h q0 q1 v1 v2 v3 1 (v2 - 1) v1 h σ else fX3_endsCarried_b35 N h q0 q1 v1 v2 v3 0 (v2 - 1) v1 h σ else bd (fX2_vote N (h + 2) v1 σ) (fun r1 s2 => if r1 ≤ 0 then some (0, s2) else some (1, s2))
set_option maxRecDepth 100000 in
set_option maxHeartbeats 4000000 in
theorem bX3_endsCarried_0 {x : Cx} {z : Sx} {d : Nat} (X : XG x z RX3 cX3_endsCarried 5 (4 + 2 * (d + 1)) (95 + 49 * (d + 1))) (E : XE x z) (hr : XR x (some .boolean)) (hZ : z.2.2.2.1 = kdC) (N : Nat) (h : Nat) (hh : z.2.2.2.1 h = (3, 0)) (q0 : Nat → Int32 → Int32 → Int32 → Mem → Option (Int32 × Mem)) (g0 : ∀ (l : Launch) (h : Nat) (hh : z.2.2.2.1 h = (3, 0)) (a0 a1 a2 : Int32) (σ : Mem), Ct QI yX3_endsCarried cX3_endsCarried 5 (some .boolean) (4 + 2 * d) (95 + 49 * d) l z [.ref (z.2.2.1 h), .int a0, .int a1, .int a2] σ (q0 h a0 a1 a2 σ)) (q1 : Nat → Int32 → Int32 → Int32 → Int32 → Mem → Option (Int32 × Mem)) (g1 : ∀ (l : Launch) (h : Nat) (hh : z.2.2.2.1 h = (3, 0)) (a0 a1 a2 a3 : Int32) (σ : Mem), Ct QI yX3_endsCarriedBy cX3_endsCarriedBy 6 (some .boolean) (4 + 2 * d + 1) (95 + 49 * d + 24) l z [.ref (z.2.2.1 h), .int a0, .int a1, .int a2, .int a3] σ (q1 h a0 a1 a2 a3 σ)) (v1 : Int32) (v2 : Int32) (v3 : Int32) (σ : Mem) : VK x z 5 (BQ QI x z) 0 [(0, .ref (z.2.2.1 h)), (1, .int v1), (2, .int v2), (3, .int v3)] [] σ (fX3_endsCarried N h q0 q1 v1 v2 v3 σ) := by
  unfold fX3_endsCarried
  refine V_iload_n 2 X dX3_endsCarried_0 rfl rfl ?_
  refine V_if_gt (tgt := 21) X dX3_endsCarried_1 (by decide) ?_ ?_
  · refine V_aload_n 0 X dX3_endsCarried_21 rfl rfl ?_
    refine V_iload_n 1 X dX3_endsCarried_22 rfl rfl ?_
    refine V_iload_n 2 X dX3_endsCarried_23 rfl rfl ?_
    refine V_iconst (v := 1) X dX3_endsCarried_24 (by decide) ?_
    refine V_isub X dX3_endsCarried_25 ?_
    refine V_iload_n 3 X dX3_endsCarried_26 rfl rfl ?_
    refine V_if_ne (tgt := 34) X dX3_endsCarried_27 (by decide) ?_ ?_
    · refine V_iconst (v := 0) X dX3_endsCarried_34 (by decide) ?_
      refine V_sub [0, 1, 2, 3] rfl ?_
      exact bX3_endsCarried_35 X E hr hZ N h hh q0 g0 q1 g1 v1 v2 v3 0 (v2 - 1) v1 h hh σ
    · refine V_iconst (v := 1) X dX3_endsCarried_30 (by decide) ?_
      refine V_goto (tgt := 35) X dX3_endsCarried_31 (by decide) ?_
      refine V_sub [0, 1, 2, 3] rfl ?_
      exact bX3_endsCarried_35 X E hr hZ N h hh q0 g0 q1 g1 v1 v2 v3 1 (v2 - 1) v1 h hh σ
  · refine V_aload_n 0 X dX3_endsCarried_4 rfl rfl ?_
    refine V_getR (k1 := (h + 2)) 1 X dX3_endsCarried_5 co3 hh (by decide) rfl rfl wfX3_18 ?_
    refine V_iload_n 1 X dX3_endsCarried_8 rfl rfl ?_
    refine V_callI [.int v1] [] X E dX3_endsCarried_9 (kX2_vote x.2.1 z hZ N (h + 2) (kt3_1 hZ hh) v1 σ) co2 (kt3_1 hZ hh) gcX3_30 hyX2_vote rfl ⟨by omega, by omega⟩ rfl (Nat.le_of_ble_eq_true rfl) (fun r1 s2 => ?_)
    refine V_if_le (tgt := 19) X dX3_endsCarried_12 (by decide) ?_ ?_
    · refine V_iconst (v := 0) X dX3_endsCarried_19 (by decide) ?_
      exact V_zret X E hr dX3_endsCarried_20 (by decide)
    · refine V_iconst (v := 1) X dX3_endsCarried_15 (by decide) ?_
      refine V_goto (tgt := 20) X dX3_endsCarried_16 (by decide) ?_
      exact V_zret X E hr dX3_endsCarried_20 (by decide)
def gX3_waxFurther (N : Nat) : Nat → Nat → Int32 → Int32 → Int32 → Int32 → Int32 → Mem → Option (Int32 × Mem)
  | 0 => fun _ _ _ _ _ _ _ => none
  | d + 1 => fun h => fX3_waxFurther N h (gX3_waxFurther N d)
theorem kX3_waxFurther (N d : Nat) (l : Launch) (z : Sx) (hZ : z.2.2.2.1 = kdC) (h : Nat) (hh : z.2.2.2.1 h = (3, 0)) (v1 v2 v3 v4 v5 : Int32) (σ : Mem) : Ct QI yX3_waxFurther cX3_waxFurther 8 (some .boolean) (4 + d) (95 + 27 * d) l z [.ref (z.2.2.1 h), .int v1, .int v2, .int v3, .int v4, .int v5] σ (gX3_waxFurther N d h v1 v2 v3 v4 v5 σ) := by
  induction d generalizing l h v1 v2 v3 v4 v5 σ with
  | zero => intro r σ' q; cases q
  | succ d ih =>
    refine Ct_of (by decide +kernel) (Nat.le_of_ble_eq_true rfl) rfl ?_
    intro x _ X E hr
    exact bX3_waxFurther_0 X E hr hZ N h hh (gX3_waxFurther N d) (fun l h hh a0 a1 a2 a3 a4 σ => ih l h hh a0 a1 a2 a3 a4 σ) v1 v2 v3 v4 v5 σ
def gX3_endsCarried (N : Nat) : Nat → Nat → Int32 → Int32 → Int32 → Mem → Option (Int32 × Mem)
  | 0 => fun _ _ _ _ _ => none
  | d + 1 => fun h => fX3_endsCarried N h (gX3_endsCarried N d) (fun h => fX3_endsCarriedBy N h (gX3_endsCarried N d))
def gX3_endsCarriedBy (N d h : Nat) : Int32 → Int32 → Int32 → Int32 → Mem → Option (Int32 × Mem) := fX3_endsCarriedBy N h (gX3_endsCarried N d)
theorem kX3_endsCarriedBy_of (N d : Nat) (z : Sx) (hZ : z.2.2.2.1 = kdC) (ih : ∀ (l : Launch) (h : Nat) (hh : z.2.2.2.1 h = (3, 0)) (v1 v2 v3 : Int32) (σ : Mem), Ct QI yX3_endsCarried cX3_endsCarried 5 (some .boolean) (4 + 2 * d) (95 + 49 * d) l z [.ref (z.2.2.1 h), .int v1, .int v2, .int v3] σ (gX3_endsCarried N d h v1 v2 v3 σ)) (l : Launch) (h : Nat) (hh : z.2.2.2.1 h = (3, 0)) (v1 v2 v3 v4 : Int32) (σ : Mem) : Ct QI yX3_endsCarriedBy cX3_endsCarriedBy 6 (some .boolean) (4 + 2 * d + 1) (95 + 49 * d + 24) l z [.ref (z.2.2.1 h), .int v1, .int v2, .int v3, .int v4] σ (fX3_endsCarriedBy N h (gX3_endsCarried N d) v1 v2 v3 v4 σ) := by
  refine Ct_of (by decide +kernel) (Nat.le_of_ble_eq_true rfl) rfl ?_
  intro x _ X E hr
  exact bX3_endsCarriedBy_0 X E hr hZ N h hh (gX3_endsCarried N d) ih v1 v2 v3 v4 σ
theorem kX3_endsCarried (N d : Nat) (l : Launch) (z : Sx) (hZ : z.2.2.2.1 = kdC) (h : Nat) (hh : z.2.2.2.1 h = (3, 0)) (v1 v2 v3 : Int32) (σ : Mem) : Ct QI yX3_endsCarried cX3_endsCarried 5 (some .boolean) (4 + 2 * d) (95 + 49 * d) l z [.ref (z.2.2.1 h), .int v1, .int v2, .int v3] σ (gX3_endsCarried N d h v1 v2 v3 σ) := by
  induction d generalizing l h v1 v2 v3 σ with
  | zero => intro r σ' q; cases q
  | succ d ih =>
    refine Ct_of (by decide +kernel) (Nat.le_of_ble_eq_true rfl) rfl ?_
    intro x _ X E hr
    exact bX3_endsCarried_0 X E hr hZ N h hh (gX3_endsCarried N d) (fun l h hh a0 a1 a2 σ => ih l h hh a0 a1 a2 σ) (fun h => fX3_endsCarriedBy N h (gX3_endsCarried N d)) (fun l h hh a0 a1 a2 a3 σ => kX3_endsCarriedBy_of N d z hZ (fun l h hh a0 a1 a2 σ => ih l h hh a0 a1 a2 σ) l h hh a0 a1 a2 a3 σ) v1 v2 v3 σ
theorem kX3_endsCarriedBy (N d : Nat) (l : Launch) (z : Sx) (hZ : z.2.2.2.1 = kdC) (h : Nat) (hh : z.2.2.2.1 h = (3, 0)) (v1 v2 v3 v4 : Int32) (σ : Mem) : Ct QI yX3_endsCarriedBy cX3_endsCarriedBy 6 (some .boolean) (4 + 2 * d + 1) (95 + 49 * d + 24) l z [.ref (z.2.2.1 h), .int v1, .int v2, .int v3, .int v4] σ (gX3_endsCarriedBy N d h v1 v2 v3 v4 σ) := kX3_endsCarriedBy_of N d z hZ (fun l h hh a0 a1 a2 σ => kX3_endsCarried N d l z hZ h hh a0 a1 a2 σ) l h hh v1 v2 v3 v4 σ
def fX6_isSame_b2 (N : Nat) (h : Nat) (rc2 : Nat → Int32 → Int32 → Mem → Option (Int32 × Mem)) (v1 : Nat) (v2 : Int32) (v3 : Int32) (σ : Mem) : Option (Int32 × Mem) :=
  if (σ.1 h 9) ≤ ((σ.1 h 8) + v3) then some (1, σ) else bd (fJ0_ch v1 (v2 + v3) σ) (fun r2 s3 => gd (decide (kdC (s3.1 h 5).toNatClampNeg = (52, 600))) (gd (inb ((s3.1 h 8) + v3) 600) (if r2 = (s3.1 ((s3.1 h 5).toNatClampNeg) ((s3.1 h 8) + v3).toNatClampNeg) then lt_ (v3 + 1) (fun v3_5 => rc2 v1 v2 v3_5 s3) else some (0, s3))))
set_option maxRecDepth 100000 in
set_option maxHeartbeats 4000000 in
theorem bX6_isSame_2 {x : Cx} {z : Sx} (X : XG x z RX6 cX6_isSame 4 4 85) (E : XE x z) (hr : XR x (some .boolean)) (hZ : z.2.2.2.1 = kdC) (N : Nat) (h : Nat) (hh : z.2.2.2.1 h = (6, 0)) (rc2 : Nat → Int32 → Int32 → Mem → Option (Int32 × Mem)) (hc2 : ∀ (v1 : Nat) (v2 : Int32) (v3 : Int32) (hk1 : v1 < 4) (σ : Mem), VK x z 4 (BQ QI x z) 2 [(0, .ref (z.2.2.1 h)), (1, .ref (adK z v1)), (2, .int v2), (3, .int v3)] [] σ (rc2 v1 v2 v3 σ)) (v1 : Nat) (v2 : Int32) (v3 : Int32) (hk1 : v1 < 4) (σ : Mem) : VK x z 4 (BQ QI x z) 2 [(0, .ref (z.2.2.1 h)), (1, .ref (adK z v1)), (2, .int v2), (3, .int v3)] [] σ (fX6_isSame_b2 N h rc2 v1 v2 v3 σ) := by
  unfold fX6_isSame_b2
  refine V_aload_n 0 X dX6_isSame_2 rfl rfl ?_
  refine V_getI 8 X dX6_isSame_3 co6 hh (by decide) rfl wfX6_82 ?_
  refine V_iload_n 3 X dX6_isSame_6 rfl rfl ?_
  refine V_iadd X dX6_isSame_7 ?_
  refine V_aload_n 0 X dX6_isSame_8 rfl rfl ?_
  refine V_getI 9 X dX6_isSame_9 co6 hh (by decide) rfl wfX6_61 ?_
  refine V_icmp_ge (tgt := 44) X dX6_isSame_12 (by decide) ?_ ?_
  · refine V_iconst (v := 1) X dX6_isSame_44 (by decide) ?_
    exact V_zret X E hr dX6_isSame_45 (by decide)
  · refine V_aload_n 1 X dX6_isSame_15 rfl rfl ?_
    refine V_iload_n 2 X dX6_isSame_16 rfl rfl ?_
    refine V_iload_n 3 X dX6_isSame_17 rfl rfl ?_
    refine V_iadd X dX6_isSame_18 ?_
    refine V_strI [.int (v2 + v3)] [] X E dX6_isSame_19 (kJ0_ch x.2.1 z v1 hk1 (v2 + v3) σ) hk1 gcX6_165 hyJ0_charAt_5068e rfl ⟨by decide, by decide⟩ rfl (Nat.le_of_ble_eq_true rfl) (fun r2 s3 => ?_)
    refine V_aload_n 0 X dX6_isSame_22 rfl rfl ?_
    refine V_getQC (K := (52, 600)) 5 X hZ dX6_isSame_23 co6 hh (by decide) rfl wfX6_32 (fun hq4 => ?_)
    refine V_aload_n 0 X dX6_isSame_26 rfl rfl ?_
    refine V_getI 8 X dX6_isSame_27 co6 hh (by decide) rfl wfX6_82 ?_
    refine V_iload_n 3 X dX6_isSame_30 rfl rfl ?_
    refine V_iadd X dX6_isSame_31 ?_
    refine V_bald X dX6_isSame_32 hq4 ?_
    refine V_icmp_eq (tgt := 38) X dX6_isSame_33 (by decide) ?_ ?_
    · refine V_iincG (L' := fun v3_5 => [(3, .int v3_5), (0, .ref (z.2.2.1 h)), (1, .ref (adK z v1)), (2, .int v2)]) 3 X dX6_isSame_38 rfl rfl (by decide) (fun _ => rfl) (fun v3_5 => ?_)
      refine V_goto (tgt := 2) X dX6_isSame_41 (by decide) ?_
      refine V_sub [1, 2, 3, 0] rfl ?_
      exact hc2 v1 v2 v3_5 hk1 s3
    · refine V_iconst (v := 0) X dX6_isSame_36 (by decide) ?_
      exact V_zret X E hr dX6_isSame_37 (by decide)
def fX6_isSame_l2 (N : Nat) (h : Nat) : Nat → Nat → Int32 → Int32 → Mem → Option (Int32 × Mem)
  | 0 => fun _ _ _ _ => none
  | n + 1 => fX6_isSame_b2 N h (fX6_isSame_l2 N h n)
theorem lX6_isSame_2 {x : Cx} {z : Sx} (X : XG x z RX6 cX6_isSame 4 4 85) (E : XE x z) (hr : XR x (some .boolean)) (hZ : z.2.2.2.1 = kdC) (N : Nat) (h : Nat) (hh : z.2.2.2.1 h = (6, 0)) (n : Nat) (v1 : Nat) (v2 : Int32) (v3 : Int32) (hk1 : v1 < 4) (σ : Mem) : VK x z 4 (BQ QI x z) 2 [(0, .ref (z.2.2.1 h)), (1, .ref (adK z v1)), (2, .int v2), (3, .int v3)] [] σ (fX6_isSame_l2 N h n v1 v2 v3 σ) := by
  induction n generalizing v1 v2 v3 hk1 σ with
  | zero => exact V_none
  | succ n ih => exact bX6_isSame_2 X E hr hZ N h hh (fX6_isSame_l2 N h n) ih v1 v2 v3 hk1 σ
def fX6_isSame (N : Nat) (h : Nat) (v1 : Nat) (v2 : Int32) (σ : Mem) : Option (Int32 × Mem) :=
  lt_ 0 (fun v3_1 => fX6_isSame_l2 N h N v1 v2 v3_1 σ)
set_option maxRecDepth 100000 in
set_option maxHeartbeats 4000000 in
theorem bX6_isSame_0 {x : Cx} {z : Sx} (X : XG x z RX6 cX6_isSame 4 4 85) (E : XE x z) (hr : XR x (some .boolean)) (hZ : z.2.2.2.1 = kdC) (N : Nat) (h : Nat) (hh : z.2.2.2.1 h = (6, 0)) (v1 : Nat) (v2 : Int32) (hk1 : v1 < 4) (σ : Mem) : VK x z 4 (BQ QI x z) 0 [(0, .ref (z.2.2.1 h)), (1, .ref (adK z v1)), (2, .int v2)] [] σ (fX6_isSame N h v1 v2 σ) := by
  unfold fX6_isSame
  refine V_iconst (v := 0) X dX6_isSame_0 (by decide) ?_
  refine V_istore_nG (L' := fun v3_1 => [(3, .int v3_1), (0, .ref (z.2.2.1 h)), (1, .ref (adK z v1)), (2, .int v2)]) X dX6_isSame_1 rfl (by decide) (fun _ => rfl) (fun v3_1 => ?_)
  refine V_sub [1, 2, 3, 0] rfl ?_
  exact lX6_isSame_2 X E hr hZ N h hh N v1 v2 v3_1 hk1 σ
theorem kX6_isSame (l : Launch) (z : Sx) (hZ : z.2.2.2.1 = kdC) (N : Nat) (h : Nat) (hh : z.2.2.2.1 h = (6, 0)) (v1 : Nat) (v2 : Int32) (hk1 : v1 < 4) (σ : Mem) : Ct QI yX6_isSame cX6_isSame 4 (some .boolean) 4 85 l z [.ref (z.2.2.1 h), .ref (adK z v1), .int v2] σ (fX6_isSame N h v1 v2 σ) := by
  refine Ct_of (by decide +kernel) (Nat.le_of_ble_eq_true rfl) rfl ?_
  intro x _ X E hr
  exact bX6_isSame_0 X E hr hZ N h hh v1 v2 hk1 σ
def fX6_wordAmong_b72 (N : Nat) (h : Nat) (rc17 : Nat → Int32 → Int32 → Int32 → Mem → Option (Int32 × Mem)) (v1 : Nat) (v2 : Int32) (v3 : Int32) (v4 : Int32) (σ : Mem) : Option (Int32 × Mem) :=
  lt_ (v4 + 1) (fun v4_10 => rc17 v1 v2 v3 v4_10 σ)
set_option maxRecDepth 100000 in
set_option maxHeartbeats 4000000 in
theorem bX6_wordAmong_72 {x : Cx} {z : Sx} (X : XG x z RX6 cX6_wordAmong 5 5 108) (E : XE x z) (hr : XR x (some .int)) (hZ : z.2.2.2.1 = kdC) (N : Nat) (h : Nat) (hh : z.2.2.2.1 h = (6, 0)) (rc17 : Nat → Int32 → Int32 → Int32 → Mem → Option (Int32 × Mem)) (hc17 : ∀ (v1 : Nat) (v2 : Int32) (v3 : Int32) (v4 : Int32) (hk1 : v1 < 4) (σ : Mem), VK x z 5 (BQ QI x z) 17 [(0, .ref (z.2.2.1 h)), (1, .ref (adK z v1)), (2, .int v2), (3, .int v3), (4, .int v4)] [] σ (rc17 v1 v2 v3 v4 σ)) (v1 : Nat) (v2 : Int32) (v3 : Int32) (v4 : Int32) (hk1 : v1 < 4) (σ : Mem) : VK x z 5 (BQ QI x z) 72 [(0, .ref (z.2.2.1 h)), (1, .ref (adK z v1)), (2, .int v2), (3, .int v3), (4, .int v4)] [] σ (fX6_wordAmong_b72 N h rc17 v1 v2 v3 v4 σ) := by
  unfold fX6_wordAmong_b72
  refine V_iincG (L' := fun v4_10 => [(4, .int v4_10), (0, .ref (z.2.2.1 h)), (1, .ref (adK z v1)), (2, .int v2), (3, .int v3)]) 4 X dX6_wordAmong_72 rfl rfl (by decide) (fun _ => rfl) (fun v4_10 => ?_)
  refine V_goto (tgt := 17) X dX6_wordAmong_75 (by decide) ?_
  refine V_sub [1, 2, 3, 4, 0] rfl ?_
  exact hc17 v1 v2 v3 v4_10 hk1 σ
def fX6_wordAmong_b64 (N : Nat) (h : Nat) (rc17 : Nat → Int32 → Int32 → Int32 → Mem → Option (Int32 × Mem)) (v1 : Nat) (v2 : Int32) (v4 : Int32) (σ : Mem) : Option (Int32 × Mem) :=
  lt_ (v2 + 1) (fun v2_11 => lt_ (v4 + 1) (fun v3_12 => fX6_wordAmong_b72 N h rc17 v1 v2_11 v3_12 v4 σ))
set_option maxRecDepth 100000 in
set_option maxHeartbeats 4000000 in
theorem bX6_wordAmong_64 {x : Cx} {z : Sx} (X : XG x z RX6 cX6_wordAmong 5 5 108) (E : XE x z) (hr : XR x (some .int)) (hZ : z.2.2.2.1 = kdC) (N : Nat) (h : Nat) (hh : z.2.2.2.1 h = (6, 0)) (rc17 : Nat → Int32 → Int32 → Int32 → Mem → Option (Int32 × Mem)) (hc17 : ∀ (v1 : Nat) (v2 : Int32) (v3 : Int32) (v4 : Int32) (hk1 : v1 < 4) (σ : Mem), VK x z 5 (BQ QI x z) 17 [(0, .ref (z.2.2.1 h)), (1, .ref (adK z v1)), (2, .int v2), (3, .int v3), (4, .int v4)] [] σ (rc17 v1 v2 v3 v4 σ)) (v1 : Nat) (v2 : Int32) (v4 : Int32) (hk1 : v1 < 4) (σ : Mem) : VK x z 5 (BQ QI x z) 64 [(0, .ref (z.2.2.1 h)), (1, .ref (adK z v1)), (2, .int v2), (4, .int v4)] [] σ (fX6_wordAmong_b64 N h rc17 v1 v2 v4 σ) := by
  unfold fX6_wordAmong_b64
  refine V_iincG (L' := fun v2_11 => [(2, .int v2_11), (0, .ref (z.2.2.1 h)), (1, .ref (adK z v1)), (4, .int v4)]) 2 X dX6_wordAmong_64 rfl rfl (by decide) (fun _ => rfl) (fun v2_11 => ?_)
  refine V_iload 3 X dX6_wordAmong_67 rfl ?_
  refine V_iconst (v := 1) X dX6_wordAmong_69 (by decide) ?_
  refine V_iadd X dX6_wordAmong_70 ?_
  refine V_istore_nG (L' := fun v3_12 => [(3, .int v3_12), (2, .int v2_11), (0, .ref (z.2.2.1 h)), (1, .ref (adK z v1)), (4, .int v4)]) X dX6_wordAmong_71 rfl (by decide) (fun _ => rfl) (fun v3_12 => ?_)
  refine V_sub [2, 3, 1, 0, 4] rfl ?_
  exact bX6_wordAmong_72 X E hr hZ N h hh rc17 hc17 v1 v2_11 v3_12 v4 hk1 σ
def fX6_wordAmong_b17 (N : Nat) (h : Nat) (rc17 : Nat → Int32 → Int32 → Int32 → Mem → Option (Int32 × Mem)) (v1 : Nat) (v2 : Int32) (v3 : Int32) (v4 : Int32) (σ : Mem) : Option (Int32 × Mem) :=
  bd (fJ0_len v1 σ) (fun r4 s5 => if r4 ≤ v4 then some ((-1), s5) else bd (fJ0_ch v1 v4 s5) (fun r6 s7 => if r6 = 32 then if (v4 - v3) = ((s7.1 h 9) - (s7.1 h 8)) then bd (fX6_isSame N h v1 v3 s7) (fun r8 s9 => if r8 = 0 then fX6_wordAmong_b64 N h rc17 v1 v2 v4 s9 else some (v2, s9)) else fX6_wordAmong_b64 N h rc17 v1 v2 v4 s7 else fX6_wordAmong_b72 N h rc17 v1 v2 v3 v4 s7))
set_option maxRecDepth 100000 in
set_option maxHeartbeats 4000000 in
theorem bX6_wordAmong_17 {x : Cx} {z : Sx} (X : XG x z RX6 cX6_wordAmong 5 5 108) (E : XE x z) (hr : XR x (some .int)) (hZ : z.2.2.2.1 = kdC) (N : Nat) (h : Nat) (hh : z.2.2.2.1 h = (6, 0)) (rc17 : Nat → Int32 → Int32 → Int32 → Mem → Option (Int32 × Mem)) (hc17 : ∀ (v1 : Nat) (v2 : Int32) (v3 : Int32) (v4 : Int32) (hk1 : v1 < 4) (σ : Mem), VK x z 5 (BQ QI x z) 17 [(0, .ref (z.2.2.1 h)), (1, .ref (adK z v1)), (2, .int v2), (3, .int v3), (4, .int v4)] [] σ (rc17 v1 v2 v3 v4 σ)) (v1 : Nat) (v2 : Int32) (v3 : Int32) (v4 : Int32) (hk1 : v1 < 4) (σ : Mem) : VK x z 5 (BQ QI x z) 17 [(0, .ref (z.2.2.1 h)), (1, .ref (adK z v1)), (2, .int v2), (3, .int v3), (4, .int v4)] [] σ (fX6_wordAmong_b17 N h rc17 v1 v2 v3 v4 σ) := by
  unfold fX6_wordAmong_b17
  refine V_iload 4 X dX6_wordAmong_17 rfl ?_
  refine V_aload_n 1 X dX6_wordAmong_19 rfl rfl ?_
  refine V_strI [] [.int v4] X E dX6_wordAmong_20 (kJ0_len x.2.1 z v1 hk1 σ) hk1 gcX6_160 hyJ0_length_8abf5 rfl ⟨by decide, by decide⟩ rfl (Nat.le_of_ble_eq_true rfl) (fun r4 s5 => ?_)
  refine V_icmp_ge (tgt := 78) X dX6_wordAmong_23 (by decide) ?_ ?_
  · refine V_iconst (v := -1) X dX6_wordAmong_78 (by decide) ?_
    exact V_iret X E hr dX6_wordAmong_79
  · refine V_aload_n 1 X dX6_wordAmong_26 rfl rfl ?_
    refine V_iload 4 X dX6_wordAmong_27 rfl ?_
    refine V_strI [.int v4] [] X E dX6_wordAmong_29 (kJ0_ch x.2.1 z v1 hk1 v4 s5) hk1 gcX6_165 hyJ0_charAt_5068e rfl ⟨by decide, by decide⟩ rfl (Nat.le_of_ble_eq_true rfl) (fun r6 s7 => ?_)
    refine V_bipush (v := 32) X dX6_wordAmong_32 (by decide) ?_
    refine V_icmp_ne (tgt := 72) X dX6_wordAmong_34 (by decide) ?_ ?_
    · refine V_sub [0, 1, 2, 3, 4] rfl ?_
      exact bX6_wordAmong_72 X E hr hZ N h hh rc17 hc17 v1 v2 v3 v4 hk1 s7
    · refine V_iload 4 X dX6_wordAmong_37 rfl ?_
      refine V_iload_n 3 X dX6_wordAmong_39 rfl rfl ?_
      refine V_isub X dX6_wordAmong_40 ?_
      refine V_aload_n 0 X dX6_wordAmong_41 rfl rfl ?_
      refine V_getI 9 X dX6_wordAmong_42 co6 hh (by decide) rfl wfX6_61 ?_
      refine V_aload_n 0 X dX6_wordAmong_45 rfl rfl ?_
      refine V_getI 8 X dX6_wordAmong_46 co6 hh (by decide) rfl wfX6_82 ?_
      refine V_isub X dX6_wordAmong_49 ?_
      refine V_icmp_ne (tgt := 64) X dX6_wordAmong_50 (by decide) ?_ ?_
      · refine V_sub [0, 1, 2, 4] rfl ?_
        exact bX6_wordAmong_64 X E hr hZ N h hh rc17 hc17 v1 v2 v4 hk1 s7
      · refine V_aload_n 0 X dX6_wordAmong_53 rfl rfl ?_
        refine V_aload_n 1 X dX6_wordAmong_54 rfl rfl ?_
        refine V_iload_n 3 X dX6_wordAmong_55 rfl rfl ?_
        refine V_callI [.ref (adK z v1), .int v3] [] X E dX6_wordAmong_56 (kX6_isSame x.2.1 z hZ N h hh v1 v3 hk1 s7) co6 hh gcX6_169 hyX6_isSame rfl ⟨by decide, by decide⟩ rfl (Nat.le_of_ble_eq_true rfl) (fun r8 s9 => ?_)
        refine V_if_eq (tgt := 64) X dX6_wordAmong_59 (by decide) ?_ ?_
        · refine V_sub [0, 1, 2, 4] rfl ?_
          exact bX6_wordAmong_64 X E hr hZ N h hh rc17 hc17 v1 v2 v4 hk1 s9
        · refine V_iload_n 2 X dX6_wordAmong_62 rfl rfl ?_
          exact V_iret X E hr dX6_wordAmong_63
def fX6_wordAmong_l17 (N : Nat) (h : Nat) : Nat → Nat → Int32 → Int32 → Int32 → Mem → Option (Int32 × Mem)
  | 0 => fun _ _ _ _ _ => none
  | n + 1 => fX6_wordAmong_b17 N h (fX6_wordAmong_l17 N h n)
theorem lX6_wordAmong_17 {x : Cx} {z : Sx} (X : XG x z RX6 cX6_wordAmong 5 5 108) (E : XE x z) (hr : XR x (some .int)) (hZ : z.2.2.2.1 = kdC) (N : Nat) (h : Nat) (hh : z.2.2.2.1 h = (6, 0)) (n : Nat) (v1 : Nat) (v2 : Int32) (v3 : Int32) (v4 : Int32) (hk1 : v1 < 4) (σ : Mem) : VK x z 5 (BQ QI x z) 17 [(0, .ref (z.2.2.1 h)), (1, .ref (adK z v1)), (2, .int v2), (3, .int v3), (4, .int v4)] [] σ (fX6_wordAmong_l17 N h n v1 v2 v3 v4 σ) := by
  induction n generalizing v1 v2 v3 v4 hk1 σ with
  | zero => exact V_none
  | succ n ih => exact bX6_wordAmong_17 X E hr hZ N h hh (fX6_wordAmong_l17 N h n) ih v1 v2 v3 v4 hk1 σ
def fX6_wordAmong (N : Nat) (h : Nat) (v1 : Nat) (σ : Mem) : Option (Int32 × Mem) :=
  if (σ.1 h 7) = 1 then lt_ 0 (fun v2_1 => lt_ 0 (fun v3_2 => lt_ 0 (fun v4_3 => fX6_wordAmong_l17 N h N v1 v2_1 v3_2 v4_3 σ))) else some ((-1), σ)
set_option maxRecDepth 100000 in
set_option maxHeartbeats 4000000 in
theorem bX6_wordAmong_0 {x : Cx} {z : Sx} (X : XG x z RX6 cX6_wordAmong 5 5 108) (E : XE x z) (hr : XR x (some .int)) (hZ : z.2.2.2.1 = kdC) (N : Nat) (h : Nat) (hh : z.2.2.2.1 h = (6, 0)) (v1 : Nat) (hk1 : v1 < 4) (σ : Mem) : VK x z 5 (BQ QI x z) 0 [(0, .ref (z.2.2.1 h)), (1, .ref (adK z v1))] [] σ (fX6_wordAmong N h v1 σ) := by
  unfold fX6_wordAmong
  refine V_aload_n 0 X dX6_wordAmong_0 rfl rfl ?_
  refine V_getI 7 X dX6_wordAmong_1 co6 hh (by decide) rfl wfX6_67 ?_
  refine V_iconst (v := 1) X dX6_wordAmong_4 (by decide) ?_
  refine V_icmp_eq (tgt := 10) X dX6_wordAmong_5 (by decide) ?_ ?_
  · refine V_iconst (v := 0) X dX6_wordAmong_10 (by decide) ?_
    refine V_istore_nG (L' := fun v2_1 => [(2, .int v2_1), (0, .ref (z.2.2.1 h)), (1, .ref (adK z v1))]) X dX6_wordAmong_11 rfl (by decide) (fun _ => rfl) (fun v2_1 => ?_)
    refine V_iconst (v := 0) X dX6_wordAmong_12 (by decide) ?_
    refine V_istore_nG (L' := fun v3_2 => [(3, .int v3_2), (2, .int v2_1), (0, .ref (z.2.2.1 h)), (1, .ref (adK z v1))]) X dX6_wordAmong_13 rfl (by decide) (fun _ => rfl) (fun v3_2 => ?_)
    refine V_iconst (v := 0) X dX6_wordAmong_14 (by decide) ?_
    refine V_istoreG (L' := fun v4_3 => [(4, .int v4_3), (3, .int v3_2), (2, .int v2_1), (0, .ref (z.2.2.1 h)), (1, .ref (adK z v1))]) X dX6_wordAmong_15 (by decide) (fun _ => rfl) (fun v4_3 => ?_)
    refine V_sub [3, 4, 2, 1, 0] rfl ?_
    exact lX6_wordAmong_17 X E hr hZ N h hh N v1 v2_1 v3_2 v4_3 hk1 σ
  · refine V_iconst (v := -1) X dX6_wordAmong_8 (by decide) ?_
    exact V_iret X E hr dX6_wordAmong_9
theorem kX6_wordAmong (l : Launch) (z : Sx) (hZ : z.2.2.2.1 = kdC) (N : Nat) (h : Nat) (hh : z.2.2.2.1 h = (6, 0)) (v1 : Nat) (hk1 : v1 < 4) (σ : Mem) : Ct QI yX6_wordAmong cX6_wordAmong 5 (some .int) 5 108 l z [.ref (z.2.2.1 h), .ref (adK z v1)] σ (fX6_wordAmong N h v1 σ) := by
  refine Ct_of (by decide +kernel) (Nat.le_of_ble_eq_true rfl) rfl ?_
  intro x _ X E hr
  exact bX6_wordAmong_0 X E hr hZ N h hh v1 hk1 σ
def fX6_headOf_b48 (N : Nat) (h : Nat) (t0 : Int32) (t1 : Int32) (σ : Mem) : Option (Int32 × Mem) :=
  some ((t1 + t0), σ)
set_option maxRecDepth 100000 in
set_option maxHeartbeats 4000000 in
theorem bX6_headOf_48 {x : Cx} {z : Sx} (X : XG x z RX6 cX6_headOf 3 6 132) (E : XE x z) (hr : XR x (some .int)) (hZ : z.2.2.2.1 = kdC) (N : Nat) (h : Nat) (hh : z.2.2.2.1 h = (6, 0)) (t0 : Int32) (t1 : Int32) (σ : Mem) : VK x z 3 (BQ QI x z) 48 [(0, .ref (z.2.2.1 h))] [.int t0, .int t1] σ (fX6_headOf_b48 N h t0 t1 σ) := by
  unfold fX6_headOf_b48
  refine V_iadd X dX6_headOf_48 ?_
  exact V_iret X E hr dX6_headOf_49
def fX6_headOf_b24 (N : Nat) (h : Nat) (v1 : Int32) (t0 : Nat) (t1 : Nat) (σ : Mem) : Option (Int32 × Mem) :=
  bd (fX6_wordAmong N t1 t0 σ) (fun r3 s4 => lt_ r3 (fun v2_5 => if v2_5 = (-1) then some ((-1), s4) else if v1 = 1 then fX6_headOf_b48 N h 7 v2_5 s4 else fX6_headOf_b48 N h 15 v2_5 s4))
set_option maxRecDepth 100000 in
set_option maxHeartbeats 4000000 in
theorem bX6_headOf_24 {x : Cx} {z : Sx} (X : XG x z RX6 cX6_headOf 3 6 132) (E : XE x z) (hr : XR x (some .int)) (hZ : z.2.2.2.1 = kdC) (N : Nat) (h : Nat) (hh : z.2.2.2.1 h = (6, 0)) (v1 : Int32) (t0 : Nat) (t1 : Nat) (hkt0 : t0 < 4) (hkt1 : z.2.2.2.1 t1 = (6, 0)) (σ : Mem) : VK x z 3 (BQ QI x z) 24 [(0, .ref (z.2.2.1 h)), (1, .int v1)] [.ref (adK z t0), .ref (z.2.2.1 t1)] σ (fX6_headOf_b24 N h v1 t0 t1 σ) := by
  unfold fX6_headOf_b24
  refine V_callI [.ref (adK z t0)] [] X E dX6_headOf_24 (kX6_wordAmong x.2.1 z hZ N t1 hkt1 t0 hkt0 σ) co6 hkt1 gcX6_94 hyX6_wordAmong rfl ⟨by decide, by decide⟩ rfl (Nat.le_of_ble_eq_true rfl) (fun r3 s4 => ?_)
  refine V_istore_nG (L' := fun v2_5 => [(2, .int v2_5), (0, .ref (z.2.2.1 h)), (1, .int v1)]) X dX6_headOf_27 rfl (by decide) (fun _ => rfl) (fun v2_5 => ?_)
  refine V_iload_n 0 X dX6_headOf_28 rfl rfl ?_
  refine V_iconst (v := -1) X dX6_headOf_29 (by decide) ?_
  refine V_icmp_ne (tgt := 35) X dX6_headOf_30 (by decide) ?_ ?_
  · refine V_iload_n 0 X dX6_headOf_35 rfl rfl ?_
    refine V_iload_n 2 X dX6_headOf_36 rfl rfl ?_
    refine V_iconst (v := 1) X dX6_headOf_37 (by decide) ?_
    refine V_icmp_ne (tgt := 46) X dX6_headOf_38 (by decide) ?_ ?_
    · refine V_bipush (v := 15) X dX6_headOf_46 (by decide) ?_
      refine V_sub [1] rfl ?_
      exact bX6_headOf_48 X E hr hZ N h hh 15 v2_5 s4
    · refine V_bipush (v := 7) X dX6_headOf_41 (by decide) ?_
      refine V_goto (tgt := 48) X dX6_headOf_43 (by decide) ?_
      refine V_sub [1] rfl ?_
      exact bX6_headOf_48 X E hr hZ N h hh 7 v2_5 s4
  · refine V_iconst (v := -1) X dX6_headOf_33 (by decide) ?_
    exact V_iret X E hr dX6_headOf_34
def fX6_headOf (N : Nat) (h : Nat) (v1 : Int32) (σ : Mem) : Option (Int32 × Mem) :=
  if v1 = 0 then bd (fX6_wordAmong N h 0 σ) (fun r1 s2 => some (r1, s2)) else if v1 = 1 then fX6_headOf_b24 N h v1 1 h σ else fX6_headOf_b24 N h v1 2 h σ
set_option maxRecDepth 100000 in
set_option maxHeartbeats 4000000 in
theorem bX6_headOf_0 {x : Cx} {z : Sx} (X : XG x z RX6 cX6_headOf 3 6 132) (E : XE x z) (hr : XR x (some .int)) (hZ : z.2.2.2.1 = kdC) (N : Nat) (h : Nat) (hh : z.2.2.2.1 h = (6, 0)) (v1 : Int32) (σ : Mem) : VK x z 3 (BQ QI x z) 0 [(0, .ref (z.2.2.1 h)), (1, .int v1)] [] σ (fX6_headOf N h v1 σ) := by
  unfold fX6_headOf
  refine V_iload_n 1 X dX6_headOf_0 rfl rfl ?_
  refine V_if_ne (tgt := 11) X dX6_headOf_1 (by decide) ?_ ?_
  · refine V_aload_n 0 X dX6_headOf_11 rfl rfl ?_
    refine V_iload_n 1 X dX6_headOf_12 rfl rfl ?_
    refine V_iconst (v := 1) X dX6_headOf_13 (by decide) ?_
    refine V_icmp_ne (tgt := 22) X dX6_headOf_14 (by decide) ?_ ?_
    · refine V_ldcS (i := 2) X E (by decide) rfl dX6_headOf_22 ?_
      refine V_sub [0, 1] rfl ?_
      exact bX6_headOf_24 X E hr hZ N h hh v1 2 h (by decide) hh σ
    · refine V_ldcS (i := 1) X E (by decide) rfl dX6_headOf_17 ?_
      refine V_goto (tgt := 24) X dX6_headOf_19 (by decide) ?_
      refine V_sub [0, 1] rfl ?_
      exact bX6_headOf_24 X E hr hZ N h hh v1 1 h (by decide) hh σ
  · refine V_aload_n 0 X dX6_headOf_4 rfl rfl ?_
    refine V_ldcS (i := 0) X E (by decide) rfl dX6_headOf_5 ?_
    refine V_callI [.ref (adK z 0)] [] X E dX6_headOf_7 (kX6_wordAmong x.2.1 z hZ N h hh 0 (by decide) σ) co6 hh gcX6_94 hyX6_wordAmong rfl ⟨by decide, by decide⟩ rfl (Nat.le_of_ble_eq_true rfl) (fun r1 s2 => ?_)
    exact V_iret X E hr dX6_headOf_10
theorem kX6_headOf (l : Launch) (z : Sx) (hZ : z.2.2.2.1 = kdC) (N : Nat) (h : Nat) (hh : z.2.2.2.1 h = (6, 0)) (v1 : Int32) (σ : Mem) : Ct QI yX6_headOf cX6_headOf 3 (some .int) 6 132 l z [.ref (z.2.2.1 h), .int v1] σ (fX6_headOf N h v1 σ) := by
  refine Ct_of (by decide +kernel) (Nat.le_of_ble_eq_true rfl) rfl ?_
  intro x _ X E hr
  exact bX6_headOf_0 X E hr hZ N h hh v1 σ
def fX6_readNumbers_b102 (N : Nat) (h : Nat) (rc33 : Int32 → Int32 → Mem → Option (Int32 × Mem)) (v2 : Int32) (v3 : Int32) (σ : Mem) : Option (Int32 × Mem) :=
  gd (inb v3 4) (lt_ (pI σ (h + 20) v3.toNatClampNeg (σ.1 h 10)) (fun s7 => bd (fX6_advance N h s7) (fun r8 s9 => lt_ (v3 + 1) (fun v3_10 => rc33 v2 v3_10 s9))))
set_option maxRecDepth 100000 in
set_option maxHeartbeats 4000000 in
theorem bX6_readNumbers_102 {x : Cx} {z : Sx} (X : XG x z RX6 cX6_readNumbers 4 3 62) (E : XE x z) (hr : XR x (some .boolean)) (hZ : z.2.2.2.1 = kdC) (N : Nat) (h : Nat) (hh : z.2.2.2.1 h = (6, 0)) (rc33 : Int32 → Int32 → Mem → Option (Int32 × Mem)) (hc33 : ∀ (v2 : Int32) (v3 : Int32) (σ : Mem), VK x z 4 (BQ QI x z) 33 [(0, .ref (z.2.2.1 h)), (2, .int v2), (3, .int v3)] [] σ (rc33 v2 v3 σ)) (v2 : Int32) (v3 : Int32) (σ : Mem) : VK x z 4 (BQ QI x z) 102 [(0, .ref (z.2.2.1 h)), (2, .int v2), (3, .int v3)] [] σ (fX6_readNumbers_b102 N h rc33 v2 v3 σ) := by
  unfold fX6_readNumbers_b102
  refine V_aload_n 0 X dX6_readNumbers_102 rfl rfl ?_
  refine V_getR (k1 := (h + 20)) 11 X dX6_readNumbers_103 co6 hh (by decide) rfl rfl wfX6_36 ?_
  refine V_iload_n 2 X dX6_readNumbers_106 rfl rfl ?_
  refine V_aload_n 0 X dX6_readNumbers_107 rfl rfl ?_
  refine V_getI 10 X dX6_readNumbers_108 co6 hh (by decide) rfl wfX6_111 ?_
  refine V_iastG X dX6_readNumbers_111 (kt6_11 hZ hh) (fun s7 => ?_)
  refine V_aload_n 0 X dX6_readNumbers_112 rfl rfl ?_
  refine V_callV [] [] X E dX6_readNumbers_113 (kX6_advance x.2.1 z hZ N h hh s7) co6 hh gcX6_64 hyX6_advance rfl ⟨by decide, by decide⟩ rfl (Nat.le_of_ble_eq_true rfl) (fun r8 s9 => ?_)
  refine V_iincG (L' := fun v3_10 => [(3, .int v3_10), (0, .ref (z.2.2.1 h)), (2, .int v2)]) 2 X dX6_readNumbers_116 rfl rfl (by decide) (fun _ => rfl) (fun v3_10 => ?_)
  refine V_goto (tgt := 33) X dX6_readNumbers_119 (by decide) ?_
  refine V_sub [1, 2, 0] rfl ?_
  exact hc33 v2 v3_10 s9
def fX6_readNumbers_b93 (N : Nat) (h : Nat) (rc33 : Int32 → Int32 → Mem → Option (Int32 × Mem)) (v2 : Int32) (v3 : Int32) (σ : Mem) : Option (Int32 × Mem) :=
  bd (fX6_note N h 2 (σ.1 h 8) σ) (fun r5 s6 => fX6_readNumbers_b102 N h rc33 v2 v3 s6)
set_option maxRecDepth 100000 in
set_option maxHeartbeats 4000000 in
theorem bX6_readNumbers_93 {x : Cx} {z : Sx} (X : XG x z RX6 cX6_readNumbers 4 3 62) (E : XE x z) (hr : XR x (some .boolean)) (hZ : z.2.2.2.1 = kdC) (N : Nat) (h : Nat) (hh : z.2.2.2.1 h = (6, 0)) (rc33 : Int32 → Int32 → Mem → Option (Int32 × Mem)) (hc33 : ∀ (v2 : Int32) (v3 : Int32) (σ : Mem), VK x z 4 (BQ QI x z) 33 [(0, .ref (z.2.2.1 h)), (2, .int v2), (3, .int v3)] [] σ (rc33 v2 v3 σ)) (v2 : Int32) (v3 : Int32) (σ : Mem) : VK x z 4 (BQ QI x z) 93 [(0, .ref (z.2.2.1 h)), (2, .int v2), (3, .int v3)] [] σ (fX6_readNumbers_b93 N h rc33 v2 v3 σ) := by
  unfold fX6_readNumbers_b93
  refine V_aload_n 0 X dX6_readNumbers_93 rfl rfl ?_
  refine V_iconst (v := 2) X dX6_readNumbers_94 (by decide) ?_
  refine V_aload_n 0 X dX6_readNumbers_95 rfl rfl ?_
  refine V_getI 8 X dX6_readNumbers_96 co6 hh (by decide) rfl wfX6_82 ?_
  refine V_callV [.int 2, .int (σ.1 h 8)] [] X E dX6_readNumbers_99 (kX6_note x.2.1 z hZ N h hh 2 (σ.1 h 8) σ) co6 hh gcX6_78 hyX6_note rfl ⟨by decide, by decide⟩ rfl (Nat.le_of_ble_eq_true rfl) (fun r5 s6 => ?_)
  refine V_sub [0, 1, 2] rfl ?_
  exact bX6_readNumbers_102 X E hr hZ N h hh rc33 hc33 v2 v3 s6
def fX6_readNumbers_b33 (N : Nat) (h : Nat) (rc33 : Int32 → Int32 → Mem → Option (Int32 × Mem)) (v2 : Int32) (v3 : Int32) (σ : Mem) : Option (Int32 × Mem) :=
  gd (inb v2 153) (if (rngT.getD v2.toNatClampNeg 0) ≤ v3 then some (1, σ) else if 4 ≤ v3 then some (1, σ) else if (σ.1 h 7) = 2 then gd (inb ((v2 + 1) + v3) 153) (if (σ.1 h 10) < (rngT.getD ((v2 + 1) + v3).toNatClampNeg 0) then fX6_readNumbers_b93 N h rc33 v2 v3 σ else gd (inb ((v2 + 5) + v3) 153) (if (σ.1 h 10) ≤ (rngT.getD ((v2 + 5) + v3).toNatClampNeg 0) then fX6_readNumbers_b102 N h rc33 v2 v3 σ else fX6_readNumbers_b93 N h rc33 v2 v3 σ)) else some (0, σ))
set_option maxRecDepth 100000 in
set_option maxHeartbeats 4000000 in
theorem bX6_readNumbers_33 {x : Cx} {z : Sx} (X : XG x z RX6 cX6_readNumbers 4 3 62) (E : XE x z) (hr : XR x (some .boolean)) (hZ : z.2.2.2.1 = kdC) (N : Nat) (h : Nat) (hh : z.2.2.2.1 h = (6, 0)) (rc33 : Int32 → Int32 → Mem → Option (Int32 × Mem)) (hc33 : ∀ (v2 : Int32) (v3 : Int32) (σ : Mem), VK x z 4 (BQ QI x z) 33 [(0, .ref (z.2.2.1 h)), (2, .int v2), (3, .int v3)] [] σ (rc33 v2 v3 σ)) (v2 : Int32) (v3 : Int32) (σ : Mem) : VK x z 4 (BQ QI x z) 33 [(0, .ref (z.2.2.1 h)), (2, .int v2), (3, .int v3)] [] σ (fX6_readNumbers_b33 N h rc33 v2 v3 σ) := by
  unfold fX6_readNumbers_b33
  refine V_iload_n 2 X dX6_readNumbers_33 rfl rfl ?_
  refine V_gets X E (fun _ h9 => exR h9) wgX6_108 dX6_readNumbers_34 ?_
  refine V_iload_n 1 X dX6_readNumbers_37 rfl rfl ?_
  refine V_tald X E (fun _ h9 => exR h9) dX6_readNumbers_38 ?_
  refine V_icmp_ge (tgt := 122) X dX6_readNumbers_39 (by decide) ?_ ?_
  · refine V_iconst (v := 1) X dX6_readNumbers_122 (by decide) ?_
    exact V_zret X E hr dX6_readNumbers_123 (by decide)
  · refine V_iload_n 2 X dX6_readNumbers_42 rfl rfl ?_
    refine V_aload_n 0 X dX6_readNumbers_43 rfl rfl ?_
    refine V_getR (k1 := (h + 20)) 11 X dX6_readNumbers_44 co6 hh (by decide) rfl rfl wfX6_36 ?_
    refine V_alen50 (v := 4) X dX6_readNumbers_47 (kt6_11 hZ hh) (by decide) ?_
    refine V_icmp_ge (tgt := 122) X dX6_readNumbers_48 (by decide) ?_ ?_
    · refine V_iconst (v := 1) X dX6_readNumbers_122 (by decide) ?_
      exact V_zret X E hr dX6_readNumbers_123 (by decide)
    · refine V_aload_n 0 X dX6_readNumbers_51 rfl rfl ?_
      refine V_getI 7 X dX6_readNumbers_52 co6 hh (by decide) rfl wfX6_67 ?_
      refine V_iconst (v := 2) X dX6_readNumbers_55 (by decide) ?_
      refine V_icmp_eq (tgt := 61) X dX6_readNumbers_56 (by decide) ?_ ?_
      · refine V_aload_n 0 X dX6_readNumbers_61 rfl rfl ?_
        refine V_getI 10 X dX6_readNumbers_62 co6 hh (by decide) rfl wfX6_111 ?_
        refine V_gets X E (fun _ h9 => exR h9) wgX6_108 dX6_readNumbers_65 ?_
        refine V_iload_n 1 X dX6_readNumbers_68 rfl rfl ?_
        refine V_iconst (v := 1) X dX6_readNumbers_69 (by decide) ?_
        refine V_iadd X dX6_readNumbers_70 ?_
        refine V_iload_n 2 X dX6_readNumbers_71 rfl rfl ?_
        refine V_iadd X dX6_readNumbers_72 ?_
        refine V_tald X E (fun _ h9 => exR h9) dX6_readNumbers_73 ?_
        refine V_icmp_lt (tgt := 93) X dX6_readNumbers_74 (by decide) ?_ ?_
        · refine V_sub [0, 1, 2] rfl ?_
          exact bX6_readNumbers_93 X E hr hZ N h hh rc33 hc33 v2 v3 σ
        · refine V_aload_n 0 X dX6_readNumbers_77 rfl rfl ?_
          refine V_getI 10 X dX6_readNumbers_78 co6 hh (by decide) rfl wfX6_111 ?_
          refine V_gets X E (fun _ h9 => exR h9) wgX6_108 dX6_readNumbers_81 ?_
          refine V_iload_n 1 X dX6_readNumbers_84 rfl rfl ?_
          refine V_iconst (v := 5) X dX6_readNumbers_85 (by decide) ?_
          refine V_iadd X dX6_readNumbers_86 ?_
          refine V_iload_n 2 X dX6_readNumbers_87 rfl rfl ?_
          refine V_iadd X dX6_readNumbers_88 ?_
          refine V_tald X E (fun _ h9 => exR h9) dX6_readNumbers_89 ?_
          refine V_icmp_le (tgt := 102) X dX6_readNumbers_90 (by decide) ?_ ?_
          · refine V_sub [0, 1, 2] rfl ?_
            exact bX6_readNumbers_102 X E hr hZ N h hh rc33 hc33 v2 v3 σ
          · refine V_sub [0, 1, 2] rfl ?_
            exact bX6_readNumbers_93 X E hr hZ N h hh rc33 hc33 v2 v3 σ
      · refine V_iconst (v := 0) X dX6_readNumbers_59 (by decide) ?_
        exact V_zret X E hr dX6_readNumbers_60 (by decide)
def fX6_readNumbers_l33 (N : Nat) (h : Nat) : Nat → Int32 → Int32 → Mem → Option (Int32 × Mem)
  | 0 => fun _ _ _ => none
  | n + 1 => fX6_readNumbers_b33 N h (fX6_readNumbers_l33 N h n)
theorem lX6_readNumbers_33 {x : Cx} {z : Sx} (X : XG x z RX6 cX6_readNumbers 4 3 62) (E : XE x z) (hr : XR x (some .boolean)) (hZ : z.2.2.2.1 = kdC) (N : Nat) (h : Nat) (hh : z.2.2.2.1 h = (6, 0)) (n : Nat) (v2 : Int32) (v3 : Int32) (σ : Mem) : VK x z 4 (BQ QI x z) 33 [(0, .ref (z.2.2.1 h)), (2, .int v2), (3, .int v3)] [] σ (fX6_readNumbers_l33 N h n v2 v3 σ) := by
  induction n generalizing v2 v3 σ with
  | zero => exact V_none
  | succ n ih => exact bX6_readNumbers_33 X E hr hZ N h hh (fX6_readNumbers_l33 N h n) ih v2 v3 σ
def fX6_readNumbers (N : Nat) (h : Nat) (v1 : Int32) (σ : Mem) : Option (Int32 × Mem) :=
  if v1 < 0 then some (0, σ) else if v1 < 17 then lt_ (v1 * 9) (fun v2_1 => gd (inb 0 4) (lt_ (pI σ (h + 20) (0 : Int32).toNatClampNeg (-1)) (fun s2 => gd (inb 1 4) (lt_ (pI s2 (h + 20) (1 : Int32).toNatClampNeg (-1)) (fun s3 => lt_ 0 (fun v3_4 => fX6_readNumbers_l33 N h N v2_1 v3_4 s3)))))) else some (0, σ)
set_option maxRecDepth 100000 in
set_option maxHeartbeats 4000000 in
theorem bX6_readNumbers_0 {x : Cx} {z : Sx} (X : XG x z RX6 cX6_readNumbers 4 3 62) (E : XE x z) (hr : XR x (some .boolean)) (hZ : z.2.2.2.1 = kdC) (N : Nat) (h : Nat) (hh : z.2.2.2.1 h = (6, 0)) (v1 : Int32) (σ : Mem) : VK x z 4 (BQ QI x z) 0 [(0, .ref (z.2.2.1 h)), (1, .int v1)] [] σ (fX6_readNumbers N h v1 σ) := by
  unfold fX6_readNumbers
  refine V_iload_n 1 X dX6_readNumbers_0 rfl rfl ?_
  refine V_if_lt (tgt := 10) X dX6_readNumbers_1 (by decide) ?_ ?_
  · refine V_iconst (v := 0) X dX6_readNumbers_10 (by decide) ?_
    exact V_zret X E hr dX6_readNumbers_11 (by decide)
  · refine V_iload_n 1 X dX6_readNumbers_4 rfl rfl ?_
    refine V_bipush (v := 17) X dX6_readNumbers_5 (by decide) ?_
    refine V_icmp_lt (tgt := 12) X dX6_readNumbers_7 (by decide) ?_ ?_
    · refine V_iload_n 1 X dX6_readNumbers_12 rfl rfl ?_
      refine V_bipush (v := 9) X dX6_readNumbers_13 (by decide) ?_
      refine V_imul X dX6_readNumbers_15 ?_
      refine V_istore_nG (L' := fun v2_1 => [(2, .int v2_1), (0, .ref (z.2.2.1 h)), (1, .int v1)]) X dX6_readNumbers_16 rfl (by decide) (fun _ => rfl) (fun v2_1 => ?_)
      refine V_aload_n 1 X dX6_readNumbers_17 rfl rfl ?_
      refine V_getR (k1 := (h + 20)) 11 X dX6_readNumbers_18 co6 hh (by decide) rfl rfl wfX6_36 ?_
      refine V_iconst (v := 0) X dX6_readNumbers_21 (by decide) ?_
      refine V_iconst (v := -1) X dX6_readNumbers_22 (by decide) ?_
      refine V_iastG X dX6_readNumbers_23 (kt6_11 hZ hh) (fun s2 => ?_)
      refine V_aload_n 1 X dX6_readNumbers_24 rfl rfl ?_
      refine V_getR (k1 := (h + 20)) 11 X dX6_readNumbers_25 co6 hh (by decide) rfl rfl wfX6_36 ?_
      refine V_iconst (v := 1) X dX6_readNumbers_28 (by decide) ?_
      refine V_iconst (v := -1) X dX6_readNumbers_29 (by decide) ?_
      refine V_iastG X dX6_readNumbers_30 (kt6_11 hZ hh) (fun s3 => ?_)
      refine V_iconst (v := 0) X dX6_readNumbers_31 (by decide) ?_
      refine V_istore_nG (L' := fun v3_4 => [(3, .int v3_4), (2, .int v2_1), (0, .ref (z.2.2.1 h)), (1, .int v1)]) X dX6_readNumbers_32 rfl (by decide) (fun _ => rfl) (fun v3_4 => ?_)
      refine V_sub [2, 1, 0] rfl ?_
      exact lX6_readNumbers_33 X E hr hZ N h hh N v2_1 v3_4 s3
    · refine V_iconst (v := 0) X dX6_readNumbers_10 (by decide) ?_
      exact V_zret X E hr dX6_readNumbers_11 (by decide)
theorem kX6_readNumbers (l : Launch) (z : Sx) (hZ : z.2.2.2.1 = kdC) (N : Nat) (h : Nat) (hh : z.2.2.2.1 h = (6, 0)) (v1 : Int32) (σ : Mem) : Ct QI yX6_readNumbers cX6_readNumbers 4 (some .boolean) 3 62 l z [.ref (z.2.2.1 h), .int v1] σ (fX6_readNumbers N h v1 σ) := by
  refine Ct_of (by decide +kernel) (Nat.le_of_ble_eq_true rfl) rfl ?_
  intro x _ X E hr
  exact bX6_readNumbers_0 X E hr hZ N h hh v1 σ
def fX6_readLine_b86 (N : Nat) (h : Nat) (σ : Mem) : Option (Unit × Mem) :=
  bd (fX6_refuse N h σ) (fun r27 s28 => some ((), s28))
set_option maxRecDepth 100000 in
set_option maxHeartbeats 4000000 in
theorem bX6_readLine_86 {x : Cx} {z : Sx} (X : XG x z RX6 cX6_readLine 5 7 154) (E : XE x z) (hr : XR x none) (hZ : z.2.2.2.1 = kdC) (N : Nat) (h : Nat) (hh : z.2.2.2.1 h = (6, 0)) (σ : Mem) : VK x z 5 (BQ QV x z) 86 [(0, .ref (z.2.2.1 h))] [] σ (fX6_readLine_b86 N h σ) := by
  unfold fX6_readLine_b86
  refine V_aload_n 0 X dX6_readLine_86 rfl rfl ?_
  refine V_callV [] [] X E dX6_readLine_87 (kX6_refuse x.2.1 z hZ N h hh σ) co6 hh gcX6_89 hyX6_refuse rfl ⟨by decide, by decide⟩ rfl (Nat.le_of_ble_eq_true rfl) (fun r27 s28 => ?_)
  exact V_vret X E hr dX6_readLine_90
def fX6_readLine_b70 (N : Nat) (h : Nat) (v3 : Int32) (v4 : Int32) (σ : Mem) : Option (Unit × Mem) :=
  bd (fX6_readNumbers N h v3 σ) (fun r21 s22 => if r21 = 0 then fX6_readLine_b86 N h s22 else if (s22.1 h 7) = 3 then bd (fX6_advance N h s22) (fun r23 s24 => bd (fX6_addLine N h v3 v4 s24) (fun r25 s26 => some ((), s26))) else fX6_readLine_b86 N h s22)
set_option maxRecDepth 100000 in
set_option maxHeartbeats 4000000 in
theorem bX6_readLine_70 {x : Cx} {z : Sx} (X : XG x z RX6 cX6_readLine 5 7 154) (E : XE x z) (hr : XR x none) (hZ : z.2.2.2.1 = kdC) (N : Nat) (h : Nat) (hh : z.2.2.2.1 h = (6, 0)) (v3 : Int32) (v4 : Int32) (σ : Mem) : VK x z 5 (BQ QV x z) 70 [(0, .ref (z.2.2.1 h)), (3, .int v3), (4, .int v4)] [] σ (fX6_readLine_b70 N h v3 v4 σ) := by
  unfold fX6_readLine_b70
  refine V_aload_n 0 X dX6_readLine_70 rfl rfl ?_
  refine V_iload_n 1 X dX6_readLine_71 rfl rfl ?_
  refine V_callI [.int v3] [] X E dX6_readLine_72 (kX6_readNumbers x.2.1 z hZ N h hh v3 σ) co6 hh gcX6_102 hyX6_readNumbers rfl ⟨by decide, by decide⟩ rfl (Nat.le_of_ble_eq_true rfl) (fun r21 s22 => ?_)
  refine V_if_eq (tgt := 86) X dX6_readLine_75 (by decide) ?_ ?_
  · refine V_sub [0] rfl ?_
    exact bX6_readLine_86 X E hr hZ N h hh s22
  · refine V_aload_n 0 X dX6_readLine_78 rfl rfl ?_
    refine V_getI 7 X dX6_readLine_79 co6 hh (by decide) rfl wfX6_67 ?_
    refine V_iconst (v := 3) X dX6_readLine_82 (by decide) ?_
    refine V_icmp_eq (tgt := 91) X dX6_readLine_83 (by decide) ?_ ?_
    · refine V_aload_n 0 X dX6_readLine_91 rfl rfl ?_
      refine V_callV [] [] X E dX6_readLine_92 (kX6_advance x.2.1 z hZ N h hh s22) co6 hh gcX6_64 hyX6_advance rfl ⟨by decide, by decide⟩ rfl (Nat.le_of_ble_eq_true rfl) (fun r23 s24 => ?_)
      refine V_aload_n 0 X dX6_readLine_95 rfl rfl ?_
      refine V_iload_n 1 X dX6_readLine_96 rfl rfl ?_
      refine V_iload 2 X dX6_readLine_97 rfl ?_
      refine V_callV [.int v3, .int v4] [] X E dX6_readLine_99 (kX6_addLine x.2.1 z hZ N h hh v3 v4 s24) co6 hh gcX6_105 hyX6_addLine rfl ⟨by decide, by decide⟩ rfl (Nat.le_of_ble_eq_true rfl) (fun r25 s26 => ?_)
      exact V_vret X E hr dX6_readLine_102
    · refine V_sub [0] rfl ?_
      exact bX6_readLine_86 X E hr hZ N h hh s22
def fX6_readLine_b56 (N : Nat) (h : Nat) (v2 : Int32) (v3 : Int32) (v4 : Int32) (σ : Mem) : Option (Unit × Mem) :=
  bd (fX6_isFull N h v3 σ) (fun r17 s18 => if r17 = 0 then fX6_readLine_b70 N h v3 v4 s18 else bd (fX6_note N h 3 v2 s18) (fun r19 s20 => fX6_readLine_b70 N h v3 v4 s20))
set_option maxRecDepth 100000 in
set_option maxHeartbeats 4000000 in
theorem bX6_readLine_56 {x : Cx} {z : Sx} (X : XG x z RX6 cX6_readLine 5 7 154) (E : XE x z) (hr : XR x none) (hZ : z.2.2.2.1 = kdC) (N : Nat) (h : Nat) (hh : z.2.2.2.1 h = (6, 0)) (v2 : Int32) (v3 : Int32) (v4 : Int32) (σ : Mem) : VK x z 5 (BQ QV x z) 56 [(0, .ref (z.2.2.1 h)), (2, .int v2), (3, .int v3), (4, .int v4)] [] σ (fX6_readLine_b56 N h v2 v3 v4 σ) := by
  unfold fX6_readLine_b56
  refine V_aload_n 0 X dX6_readLine_56 rfl rfl ?_
  refine V_iload_n 2 X dX6_readLine_57 rfl rfl ?_
  refine V_callI [.int v3] [] X E dX6_readLine_58 (kX6_isFull x.2.1 z hZ N h hh v3 σ) co6 hh gcX6_98 hyX6_isFull rfl ⟨by decide, by decide⟩ rfl (Nat.le_of_ble_eq_true rfl) (fun r17 s18 => ?_)
  refine V_if_eq (tgt := 70) X dX6_readLine_61 (by decide) ?_ ?_
  · refine V_sub [0, 2, 3] rfl ?_
    exact bX6_readLine_70 X E hr hZ N h hh v3 v4 s18
  · refine V_aload_n 0 X dX6_readLine_64 rfl rfl ?_
    refine V_iconst (v := 3) X dX6_readLine_65 (by decide) ?_
    refine V_iload_n 1 X dX6_readLine_66 rfl rfl ?_
    refine V_callV [.int 3, .int v2] [] X E dX6_readLine_67 (kX6_note x.2.1 z hZ N h hh 3 v2 s18) co6 hh gcX6_78 hyX6_note rfl ⟨by decide, by decide⟩ rfl (Nat.le_of_ble_eq_true rfl) (fun r19 s20 => ?_)
    refine V_sub [0, 2, 3] rfl ?_
    exact bX6_readLine_70 X E hr hZ N h hh v3 v4 s20
def fX6_readLine (N : Nat) (h : Nat) (v1 : Int32) (σ : Mem) : Option (Unit × Mem) :=
  lt_ (σ.1 h 8) (fun v2_1 => bd (fX6_headOf N h v1 σ) (fun r2 s3 => lt_ r2 (fun v3_4 => if v3_4 = (-1) then bd (fX6_refuse N h s3) (fun r15 s16 => some ((), s16)) else bd (fX6_advance N h s3) (fun r5 s6 => lt_ (-1) (fun v4_7 => if 4 ≤ v3_4 then fX6_readLine_b56 N h v2_1 v3_4 v4_7 s6 else bd (fX6_wordAmong N h 3 s6) (fun r8 s9 => lt_ r8 (fun v4_10 => if v4_10 = (-1) then bd (fX6_refuse N h s9) (fun r13 s14 => some ((), s14)) else bd (fX6_advance N h s9) (fun r11 s12 => fX6_readLine_b56 N h v2_1 v3_4 v4_10 s12))))))))
set_option maxRecDepth 100000 in
set_option maxHeartbeats 4000000 in
theorem bX6_readLine_0 {x : Cx} {z : Sx} (X : XG x z RX6 cX6_readLine 5 7 154) (E : XE x z) (hr : XR x none) (hZ : z.2.2.2.1 = kdC) (N : Nat) (h : Nat) (hh : z.2.2.2.1 h = (6, 0)) (v1 : Int32) (σ : Mem) : VK x z 5 (BQ QV x z) 0 [(0, .ref (z.2.2.1 h)), (1, .int v1)] [] σ (fX6_readLine N h v1 σ) := by
  unfold fX6_readLine
  refine V_aload_n 0 X dX6_readLine_0 rfl rfl ?_
  refine V_getI 8 X dX6_readLine_1 co6 hh (by decide) rfl wfX6_82 ?_
  refine V_istore_nG (L' := fun v2_1 => [(2, .int v2_1), (0, .ref (z.2.2.1 h)), (1, .int v1)]) X dX6_readLine_4 rfl (by decide) (fun _ => rfl) (fun v2_1 => ?_)
  refine V_aload_n 1 X dX6_readLine_5 rfl rfl ?_
  refine V_iload_n 2 X dX6_readLine_6 rfl rfl ?_
  refine V_callI [.int v1] [] X E dX6_readLine_7 (kX6_headOf x.2.1 z hZ N h hh v1 σ) co6 hh gcX6_85 hyX6_headOf rfl ⟨by decide, by decide⟩ rfl (Nat.le_of_ble_eq_true rfl) (fun r2 s3 => ?_)
  refine V_istore_nG (L' := fun v3_4 => [(3, .int v3_4), (2, .int v2_1), (0, .ref (z.2.2.1 h)), (1, .int v1)]) X dX6_readLine_10 rfl (by decide) (fun _ => rfl) (fun v3_4 => ?_)
  refine V_iload_n 0 X dX6_readLine_11 rfl rfl ?_
  refine V_iconst (v := -1) X dX6_readLine_12 (by decide) ?_
  refine V_icmp_ne (tgt := 21) X dX6_readLine_13 (by decide) ?_ ?_
  · refine V_aload_n 2 X dX6_readLine_21 rfl rfl ?_
    refine V_callV [] [] X E dX6_readLine_22 (kX6_advance x.2.1 z hZ N h hh s3) co6 hh gcX6_64 hyX6_advance rfl ⟨by decide, by decide⟩ rfl (Nat.le_of_ble_eq_true rfl) (fun r5 s6 => ?_)
    refine V_iconst (v := -1) X dX6_readLine_25 (by decide) ?_
    refine V_istoreG (L' := fun v4_7 => [(4, .int v4_7), (3, .int v3_4), (2, .int v2_1), (0, .ref (z.2.2.1 h)), (1, .int v1)]) X dX6_readLine_26 (by decide) (fun _ => rfl) (fun v4_7 => ?_)
    refine V_iload_n 1 X dX6_readLine_28 rfl rfl ?_
    refine V_iconst (v := 4) X dX6_readLine_29 (by decide) ?_
    refine V_icmp_ge (tgt := 56) X dX6_readLine_30 (by decide) ?_ ?_
    · refine V_sub [3, 2, 1, 0] rfl ?_
      exact bX6_readLine_56 X E hr hZ N h hh v2_1 v3_4 v4_7 s6
    · refine V_aload_n 3 X dX6_readLine_33 rfl rfl ?_
      refine V_ldcS (i := 3) X E (by decide) rfl dX6_readLine_34 ?_
      refine V_callI [.ref (adK z 3)] [] X E dX6_readLine_36 (kX6_wordAmong x.2.1 z hZ N h hh 3 (by decide) s6) co6 hh gcX6_94 hyX6_wordAmong rfl ⟨by decide, by decide⟩ rfl (Nat.le_of_ble_eq_true rfl) (fun r8 s9 => ?_)
      refine V_istoreG (L' := fun v4_10 => [(4, .int v4_10), (3, .int v3_4), (2, .int v2_1), (0, .ref (z.2.2.1 h)), (1, .int v1)]) X dX6_readLine_39 (by decide) (fun _ => rfl) (fun v4_10 => ?_)
      refine V_iload 0 X dX6_readLine_41 rfl ?_
      refine V_iconst (v := -1) X dX6_readLine_43 (by decide) ?_
      refine V_icmp_ne (tgt := 52) X dX6_readLine_44 (by decide) ?_ ?_
      · refine V_aload_n 3 X dX6_readLine_52 rfl rfl ?_
        refine V_callV [] [] X E dX6_readLine_53 (kX6_advance x.2.1 z hZ N h hh s9) co6 hh gcX6_64 hyX6_advance rfl ⟨by decide, by decide⟩ rfl (Nat.le_of_ble_eq_true rfl) (fun r11 s12 => ?_)
        refine V_sub [3, 2, 1, 0] rfl ?_
        exact bX6_readLine_56 X E hr hZ N h hh v2_1 v3_4 v4_10 s12
      · refine V_aload_n 3 X dX6_readLine_47 rfl rfl ?_
        refine V_callV [] [] X E dX6_readLine_48 (kX6_refuse x.2.1 z hZ N h hh s9) co6 hh gcX6_89 hyX6_refuse rfl ⟨by decide, by decide⟩ rfl (Nat.le_of_ble_eq_true rfl) (fun r13 s14 => ?_)
        exact V_vret X E hr dX6_readLine_51
  · refine V_aload_n 2 X dX6_readLine_16 rfl rfl ?_
    refine V_callV [] [] X E dX6_readLine_17 (kX6_refuse x.2.1 z hZ N h hh s3) co6 hh gcX6_89 hyX6_refuse rfl ⟨by decide, by decide⟩ rfl (Nat.le_of_ble_eq_true rfl) (fun r15 s16 => ?_)
    exact V_vret X E hr dX6_readLine_20
theorem kX6_readLine (l : Launch) (z : Sx) (hZ : z.2.2.2.1 = kdC) (N : Nat) (h : Nat) (hh : z.2.2.2.1 h = (6, 0)) (v1 : Int32) (σ : Mem) : Ct QV yX6_readLine cX6_readLine 5 none 7 154 l z [.ref (z.2.2.1 h), .int v1] σ (fX6_readLine N h v1 σ) := by
  refine Ct_of (by decide +kernel) (Nat.le_of_ble_eq_true rfl) rfl ?_
  intro x _ X E hr
  exact bX6_readLine_0 X E hr hZ N h hh v1 σ
def fX6_read_b92 (N : Nat) (h : Nat) (v1 : Int32) (σ : Mem) : Option (Unit × Mem) :=
  if v1 = 0 then if (σ.1 h 3) = 0 then bd (fX0_hasLostSeat N (h + 1) σ) (fun r18 s19 => if r18 = 0 then some ((), s19) else bd (fX6_note N h 4 (s19.1 h 6) s19) (fun r20 s21 => some ((), s21))) else some ((), σ) else some ((), σ)
set_option maxRecDepth 100000 in
set_option maxHeartbeats 4000000 in
theorem bX6_read_92 {x : Cx} {z : Sx} (X : XG x z RX6 cX6_read 5 8 178) (E : XE x z) (hr : XR x none) (hZ : z.2.2.2.1 = kdC) (N : Nat) (h : Nat) (hh : z.2.2.2.1 h = (6, 0)) (v1 : Int32) (σ : Mem) : VK x z 5 (BQ QV x z) 92 [(0, .ref (z.2.2.1 h)), (1, .int v1)] [] σ (fX6_read_b92 N h v1 σ) := by
  unfold fX6_read_b92
  refine V_iload_n 1 X dX6_read_92 rfl rfl ?_
  refine V_if_ne (tgt := 122) X dX6_read_93 (by decide) ?_ ?_
  · exact V_vret X E hr dX6_read_122
  · refine V_aload_n 0 X dX6_read_96 rfl rfl ?_
    refine V_getI 3 X dX6_read_97 co6 hh (by decide) rfl wfX6_45 ?_
    refine V_if_ne (tgt := 122) X dX6_read_100 (by decide) ?_ ?_
    · exact V_vret X E hr dX6_read_122
    · refine V_aload_n 0 X dX6_read_103 rfl rfl ?_
      refine V_getR (k1 := (h + 1)) 0 X dX6_read_104 co6 hh (by decide) rfl rfl wfX6_12 ?_
      refine V_callI [] [] X E dX6_read_107 (kX0_hasLostSeat x.2.1 z hZ N (h + 1) (kt6_0 hZ hh) σ) co0 (kt6_0 hZ hh) gcX6_74 hyX0_hasLostSeat rfl ⟨by decide, by decide⟩ rfl (Nat.le_of_ble_eq_true rfl) (fun r18 s19 => ?_)
      refine V_if_eq (tgt := 122) X dX6_read_110 (by decide) ?_ ?_
      · exact V_vret X E hr dX6_read_122
      · refine V_aload_n 0 X dX6_read_113 rfl rfl ?_
        refine V_iconst (v := 4) X dX6_read_114 (by decide) ?_
        refine V_aload_n 0 X dX6_read_115 rfl rfl ?_
        refine V_getI 6 X dX6_read_116 co6 hh (by decide) rfl wfX6_58 ?_
        refine V_callV [.int 4, .int (s19.1 h 6)] [] X E dX6_read_119 (kX6_note x.2.1 z hZ N h hh 4 (s19.1 h 6) s19) co6 hh gcX6_78 hyX6_note rfl ⟨by decide, by decide⟩ rfl (Nat.le_of_ble_eq_true rfl) (fun r20 s21 => ?_)
        exact V_vret X E hr dX6_read_122
def fX6_read_b58 (N : Nat) (h : Nat) (rc58 : Int32 → Int32 → Mem → Option (Unit × Mem)) (v1 : Int32) (v4 : Int32) (σ : Mem) : Option (Unit × Mem) :=
  if 600 < v4 then fX6_read_b92 N h v1 σ else if (σ.1 h 7) = 0 then fX6_read_b92 N h v1 σ else if (σ.1 h 3) = 1 then fX6_read_b92 N h v1 σ else bd (fX6_readLine N h v1 σ) (fun r15 s16 => lt_ (v4 + 1) (fun v4_17 => rc58 v1 v4_17 s16))
set_option maxRecDepth 100000 in
set_option maxHeartbeats 4000000 in
theorem bX6_read_58 {x : Cx} {z : Sx} (X : XG x z RX6 cX6_read 5 8 178) (E : XE x z) (hr : XR x none) (hZ : z.2.2.2.1 = kdC) (N : Nat) (h : Nat) (hh : z.2.2.2.1 h = (6, 0)) (rc58 : Int32 → Int32 → Mem → Option (Unit × Mem)) (hc58 : ∀ (v1 : Int32) (v4 : Int32) (σ : Mem), VK x z 5 (BQ QV x z) 58 [(0, .ref (z.2.2.1 h)), (1, .int v1), (4, .int v4)] [] σ (rc58 v1 v4 σ)) (v1 : Int32) (v4 : Int32) (σ : Mem) : VK x z 5 (BQ QV x z) 58 [(0, .ref (z.2.2.1 h)), (1, .int v1), (4, .int v4)] [] σ (fX6_read_b58 N h rc58 v1 v4 σ) := by
  unfold fX6_read_b58
  refine V_iload 2 X dX6_read_58 rfl ?_
  refine V_sipush (v := 600) X dX6_read_60 (by decide) ?_
  refine V_icmp_gt (tgt := 92) X dX6_read_63 (by decide) ?_ ?_
  · refine V_sub [0, 1] rfl ?_
    exact bX6_read_92 X E hr hZ N h hh v1 σ
  · refine V_aload_n 0 X dX6_read_66 rfl rfl ?_
    refine V_getI 7 X dX6_read_67 co6 hh (by decide) rfl wfX6_67 ?_
    refine V_if_eq (tgt := 92) X dX6_read_70 (by decide) ?_ ?_
    · refine V_sub [0, 1] rfl ?_
      exact bX6_read_92 X E hr hZ N h hh v1 σ
    · refine V_aload_n 0 X dX6_read_73 rfl rfl ?_
      refine V_getI 3 X dX6_read_74 co6 hh (by decide) rfl wfX6_45 ?_
      refine V_iconst (v := 1) X dX6_read_77 (by decide) ?_
      refine V_icmp_eq (tgt := 92) X dX6_read_78 (by decide) ?_ ?_
      · refine V_sub [0, 1] rfl ?_
        exact bX6_read_92 X E hr hZ N h hh v1 σ
      · refine V_aload_n 0 X dX6_read_81 rfl rfl ?_
        refine V_iload_n 1 X dX6_read_82 rfl rfl ?_
        refine V_callV [.int v1] [] X E dX6_read_83 (kX6_readLine x.2.1 z hZ N h hh v1 σ) co6 hh gcX6_70 hyX6_readLine rfl ⟨by decide, by decide⟩ rfl (Nat.le_of_ble_eq_true rfl) (fun r15 s16 => ?_)
        refine V_iincG (L' := fun v4_17 => [(4, .int v4_17), (0, .ref (z.2.2.1 h)), (1, .int v1)]) 2 X dX6_read_86 rfl rfl (by decide) (fun _ => rfl) (fun v4_17 => ?_)
        refine V_goto (tgt := 58) X dX6_read_89 (by decide) ?_
        refine V_sub [1, 2, 0] rfl ?_
        exact hc58 v1 v4_17 s16
def fX6_read_l58 (N : Nat) (h : Nat) : Nat → Int32 → Int32 → Mem → Option (Unit × Mem)
  | 0 => fun _ _ _ => none
  | n + 1 => fX6_read_b58 N h (fX6_read_l58 N h n)
theorem lX6_read_58 {x : Cx} {z : Sx} (X : XG x z RX6 cX6_read 5 8 178) (E : XE x z) (hr : XR x none) (hZ : z.2.2.2.1 = kdC) (N : Nat) (h : Nat) (hh : z.2.2.2.1 h = (6, 0)) (n : Nat) (v1 : Int32) (v4 : Int32) (σ : Mem) : VK x z 5 (BQ QV x z) 58 [(0, .ref (z.2.2.1 h)), (1, .int v1), (4, .int v4)] [] σ (fX6_read_l58 N h n v1 v4 σ) := by
  induction n generalizing v1 v4 σ with
  | zero => exact V_none
  | succ n ih => exact bX6_read_58 X E hr hZ N h hh (fX6_read_l58 N h n) ih v1 v4 σ
def fX6_read (N : Nat) (h : Nat) (v1 : Int32) (v2 : Nat) (v3 : Int32) (σ : Mem) : Option (Unit × Mem) :=
  bd (fX0_empty N (h + 1) σ) (fun r1 s2 => bd (fX8_empty N (h + 10) s2) (fun r3 s4 => bd (fX4_empty N (h + 14) s4) (fun r5 s6 => lt_ (pI s6 h 3 0) (fun s7 => lt_ (pI s7 h 4 (-1)) (fun s8 => lt_ (pI s8 h 5 (Int32.ofNat v2)) (fun s9 => lt_ (pI s9 h 6 (mnI v3 600)) (fun s10 => lt_ (pI s10 h 9 0) (fun s11 => bd (fX6_advance N h s11) (fun r12 s13 => lt_ 0 (fun v4_14 => fX6_read_l58 N h N v1 v4_14 s13))))))))))
set_option maxRecDepth 100000 in
set_option maxHeartbeats 4000000 in
theorem bX6_read_0 {x : Cx} {z : Sx} (X : XG x z RX6 cX6_read 5 8 178) (E : XE x z) (hr : XR x none) (hZ : z.2.2.2.1 = kdC) (N : Nat) (h : Nat) (hh : z.2.2.2.1 h = (6, 0)) (v1 : Int32) (v2 : Nat) (v3 : Int32) (hk2 : z.2.2.2.1 v2 = (52, 600)) (σ : Mem) : VK x z 5 (BQ QV x z) 0 [(0, .ref (z.2.2.1 h)), (1, .int v1), (2, .ref (z.2.2.1 v2)), (3, .int v3)] [] σ (fX6_read N h v1 v2 v3 σ) := by
  unfold fX6_read
  refine V_aload_n 0 X dX6_read_0 rfl rfl ?_
  refine V_getR (k1 := (h + 1)) 0 X dX6_read_1 co6 hh (by decide) rfl rfl wfX6_12 ?_
  refine V_callV [] [] X E dX6_read_4 (kX0_empty x.2.1 z hZ N (h + 1) (kt6_0 hZ hh) σ) co0 (kt6_0 hZ hh) gcX6_40 hyX0_empty rfl ⟨by decide, by decide⟩ rfl (Nat.le_of_ble_eq_true rfl) (fun r1 s2 => ?_)
  refine V_aload_n 0 X dX6_read_7 rfl rfl ?_
  refine V_getR (k1 := (h + 10)) 1 X dX6_read_8 co6 hh (by decide) rfl rfl wfX6_21 ?_
  refine V_callV [] [] X E dX6_read_11 (kX8_empty x.2.1 z hZ N (h + 10) (kt6_1 hZ hh) s2) co8 (kt6_1 hZ hh) gcX6_43 hyX8_empty rfl ⟨by decide, by decide⟩ rfl (Nat.le_of_ble_eq_true rfl) (fun r3 s4 => ?_)
  refine V_aload_n 0 X dX6_read_14 rfl rfl ?_
  refine V_getR (k1 := (h + 14)) 2 X dX6_read_15 co6 hh (by decide) rfl rfl wfX6_28 ?_
  refine V_callV [] [] X E dX6_read_18 (kX4_empty x.2.1 z hZ N (h + 14) (kt6_2 hZ hh) s4) co4 (kt6_2 hZ hh) gcX6_44 hyX4_empty rfl ⟨by decide, by decide⟩ rfl (Nat.le_of_ble_eq_true rfl) (fun r5 s6 => ?_)
  refine V_aload_n 0 X dX6_read_21 rfl rfl ?_
  refine V_iconst (v := 0) X dX6_read_22 (by decide) ?_
  refine V_putIG 3 X dX6_read_23 co6 hh (by decide) rfl wfX6_45 rfl rfl rfl (fun s7 => ?_)
  refine V_aload_n 0 X dX6_read_26 rfl rfl ?_
  refine V_iconst (v := -1) X dX6_read_27 (by decide) ?_
  refine V_putIG 4 X dX6_read_28 co6 hh (by decide) rfl wfX6_49 rfl rfl rfl (fun s8 => ?_)
  refine V_aload_n 0 X dX6_read_31 rfl rfl ?_
  refine V_aload_n 2 X dX6_read_32 rfl rfl ?_
  refine V_putQG 5 X dX6_read_33 co6 hh (kbl (xz X) hk2 (by decide)) (by decide) rfl wfX6_32 rfl (fun _ => rfl) (fun _ => rfl) (fun s9 => ?_)
  refine V_aload_n 0 X dX6_read_36 rfl rfl ?_
  refine V_iload_n 3 X dX6_read_37 rfl rfl ?_
  refine V_aload_n 2 X dX6_read_38 rfl rfl ?_
  refine V_alen52 (v := 600) X dX6_read_39 hk2 (by decide) ?_
  refine V_mmin X dX6_read_40 mtX6_52 mtS_min mtI mtC_min (by decide) (Nat.le_of_ble_eq_true rfl) ?_
  refine V_putIG 6 X dX6_read_43 co6 hh (by decide) rfl wfX6_58 rfl rfl rfl (fun s10 => ?_)
  refine V_aload_n 0 X dX6_read_46 rfl rfl ?_
  refine V_iconst (v := 0) X dX6_read_47 (by decide) ?_
  refine V_putIG 9 X dX6_read_48 co6 hh (by decide) rfl wfX6_61 rfl rfl rfl (fun s11 => ?_)
  refine V_aload_n 0 X dX6_read_51 rfl rfl ?_
  refine V_callV [] [] X E dX6_read_52 (kX6_advance x.2.1 z hZ N h hh s11) co6 hh gcX6_64 hyX6_advance rfl ⟨by decide, by decide⟩ rfl (Nat.le_of_ble_eq_true rfl) (fun r12 s13 => ?_)
  refine V_iconst (v := 0) X dX6_read_55 (by decide) ?_
  refine V_istoreG (L' := fun v4_14 => [(4, .int v4_14), (0, .ref (z.2.2.1 h)), (1, .int v1), (2, .ref (z.2.2.1 v2)), (3, .int v3)]) X dX6_read_56 (by decide) (fun _ => rfl) (fun v4_14 => ?_)
  refine V_sub [1, 2, 0] rfl ?_
  exact lX6_read_58 X E hr hZ N h hh N v1 v4_14 s13
theorem kX6_read (l : Launch) (z : Sx) (hZ : z.2.2.2.1 = kdC) (N : Nat) (h : Nat) (hh : z.2.2.2.1 h = (6, 0)) (v1 : Int32) (v2 : Nat) (v3 : Int32) (hk2 : z.2.2.2.1 v2 = (52, 600)) (σ : Mem) : Ct QV yX6_read cX6_read 5 none 8 178 l z [.ref (z.2.2.1 h), .int v1, .ref (z.2.2.1 v2), .int v3] σ (fX6_read N h v1 v2 v3 σ) := by
  refine Ct_of (by decide +kernel) (Nat.le_of_ble_eq_true rfl) rfl ?_
  intro x _ X E hr
  exact bX6_read_0 X E hr hZ N h hh v1 v2 v3 hk2 σ
def fX11_text (N : Nat) (h : Nat) (v1 : Int32) (v2 : Int32) (σ : Mem) : Option (Int32 × Mem) :=
  lt_ (σ.1 (h + 1) 1) (fun v3_1 => lt_ (pI σ (h + 1) 1 0) (fun s2 => lt_ (pI s2 (h + 1) 2 0) (fun s3 => lt_ (pI s3 (h + 1) 3 (-1)) (fun s4 => bd (fX9_numberFor N (h + 1) v1 v2 s4) (fun r5 s6 => lt_ r5 (fun v4_7 => if v4_7 = (-1) then some ((-2), s6) else bd (fX6_read N (h + 171) v1 ((h + 1) + 1) v3_1 s6) (fun r8 s9 => lt_ (pI s9 (h + 1) 2 (s9.1 (h + 171) 3)) (fun s10 => lt_ (pI s10 (h + 1) 3 (s10.1 (h + 171) 4)) (fun s11 => if (s11.1 (h + 171) 3) = 0 then bd (fX9_keep N (h + 1) v1 v4_7 (h + 171) s11) (fun r12 s13 => some (v4_7, s13)) else some ((-1), s11))))))))))
set_option maxRecDepth 100000 in
set_option maxHeartbeats 4000000 in
theorem bX11_text_0 {x : Cx} {z : Sx} (X : XG x z RX11 cX11_text 5 9 202) (E : XE x z) (hr : XR x (some .int)) (hZ : z.2.2.2.1 = kdC) (N : Nat) (h : Nat) (hh : z.2.2.2.1 h = (11, 0)) (v1 : Int32) (v2 : Int32) (σ : Mem) : VK x z 5 (BQ QI x z) 0 [(0, .ref (z.2.2.1 h)), (1, .int v1), (2, .int v2)] [] σ (fX11_text N h v1 v2 σ) := by
  unfold fX11_text
  refine V_aload_n 0 X dX11_text_0 rfl rfl ?_
  refine V_getR (k1 := (h + 1)) 0 X dX11_text_1 co11 hh (by decide) rfl rfl wfX11_10 ?_
  refine V_getI 1 X dX11_text_4 co9 (kt11_0 hZ hh) (by decide) rfl wfX11_73 ?_
  refine V_istore_nG (L' := fun v3_1 => [(3, .int v3_1), (0, .ref (z.2.2.1 h)), (1, .int v1), (2, .int v2)]) X dX11_text_7 rfl (by decide) (fun _ => rfl) (fun v3_1 => ?_)
  refine V_aload_n 1 X dX11_text_8 rfl rfl ?_
  refine V_getR (k1 := (h + 1)) 0 X dX11_text_9 co11 hh (by decide) rfl rfl wfX11_10 ?_
  refine V_iconst (v := 0) X dX11_text_12 (by decide) ?_
  refine V_putIG 1 X dX11_text_13 co9 (kt11_0 hZ hh) (by decide) rfl wfX11_73 rfl rfl rfl (fun s2 => ?_)
  refine V_aload_n 1 X dX11_text_16 rfl rfl ?_
  refine V_getR (k1 := (h + 1)) 0 X dX11_text_17 co11 hh (by decide) rfl rfl wfX11_10 ?_
  refine V_iconst (v := 0) X dX11_text_20 (by decide) ?_
  refine V_putIG 2 X dX11_text_21 co9 (kt11_0 hZ hh) (by decide) rfl wfX11_81 rfl rfl rfl (fun s3 => ?_)
  refine V_aload_n 1 X dX11_text_24 rfl rfl ?_
  refine V_getR (k1 := (h + 1)) 0 X dX11_text_25 co11 hh (by decide) rfl rfl wfX11_10 ?_
  refine V_iconst (v := -1) X dX11_text_28 (by decide) ?_
  refine V_putIG 3 X dX11_text_29 co9 (kt11_0 hZ hh) (by decide) rfl wfX11_84 rfl rfl rfl (fun s4 => ?_)
  refine V_aload_n 1 X dX11_text_32 rfl rfl ?_
  refine V_getR (k1 := (h + 1)) 0 X dX11_text_33 co11 hh (by decide) rfl rfl wfX11_10 ?_
  refine V_iload_n 2 X dX11_text_36 rfl rfl ?_
  refine V_iload_n 3 X dX11_text_37 rfl rfl ?_
  refine V_callI [.int v1, .int v2] [] X E dX11_text_38 (kX9_numberFor x.2.1 z hZ N (h + 1) (kt11_0 hZ hh) v1 v2 s4) co9 (kt11_0 hZ hh) gcX11_87 hyX9_numberFor rfl ⟨by decide, by decide⟩ rfl (Nat.le_of_ble_eq_true rfl) (fun r5 s6 => ?_)
  refine V_istoreG (L' := fun v4_7 => [(4, .int v4_7), (3, .int v3_1), (0, .ref (z.2.2.1 h)), (1, .int v1), (2, .int v2)]) X dX11_text_41 (by decide) (fun _ => rfl) (fun v4_7 => ?_)
  refine V_iload 0 X dX11_text_43 rfl ?_
  refine V_iconst (v := -1) X dX11_text_45 (by decide) ?_
  refine V_icmp_ne (tgt := 52) X dX11_text_46 (by decide) ?_ ?_
  · refine V_aload_n 2 X dX11_text_52 rfl rfl ?_
    refine V_getR (k1 := (h + 171)) 3 X dX11_text_53 co11 hh (by decide) rfl rfl wfX11_27 ?_
    refine V_iload_n 3 X dX11_text_56 rfl rfl ?_
    refine V_aload_n 2 X dX11_text_57 rfl rfl ?_
    refine V_getR (k1 := (h + 1)) 0 X dX11_text_58 co11 hh (by decide) rfl rfl wfX11_10 ?_
    refine V_getR (k1 := ((h + 1) + 1)) 0 X dX11_text_61 co9 (kt11_0 hZ hh) (by decide) rfl rfl wfX11_91 ?_
    refine V_iload_n 1 X dX11_text_64 rfl rfl ?_
    refine V_callV [.int v1, .ref (z.2.2.1 ((h + 1) + 1)), .int v3_1] [] X E dX11_text_65 (kX6_read x.2.1 z hZ N (h + 171) (kt11_3 hZ hh) v1 ((h + 1) + 1) v3_1 (kt9_0 hZ (kt11_0 hZ hh)) s6) co6 (kt11_3 hZ hh) gcX11_95 hyX6_read rfl ⟨by decide, by decide⟩ rfl (Nat.le_of_ble_eq_true rfl) (fun r8 s9 => ?_)
    refine V_aload_n 2 X dX11_text_68 rfl rfl ?_
    refine V_getR (k1 := (h + 1)) 0 X dX11_text_69 co11 hh (by decide) rfl rfl wfX11_10 ?_
    refine V_aload_n 2 X dX11_text_72 rfl rfl ?_
    refine V_getR (k1 := (h + 171)) 3 X dX11_text_73 co11 hh (by decide) rfl rfl wfX11_27 ?_
    refine V_getI 3 X dX11_text_76 co6 (kt11_3 hZ hh) (by decide) rfl wfX11_99 ?_
    refine V_putIG 2 X dX11_text_79 co9 (kt11_0 hZ hh) (by decide) rfl wfX11_81 rfl rfl rfl (fun s10 => ?_)
    refine V_aload_n 2 X dX11_text_82 rfl rfl ?_
    refine V_getR (k1 := (h + 1)) 0 X dX11_text_83 co11 hh (by decide) rfl rfl wfX11_10 ?_
    refine V_aload_n 2 X dX11_text_86 rfl rfl ?_
    refine V_getR (k1 := (h + 171)) 3 X dX11_text_87 co11 hh (by decide) rfl rfl wfX11_27 ?_
    refine V_getI 4 X dX11_text_90 co6 (kt11_3 hZ hh) (by decide) rfl wfX11_100 ?_
    refine V_putIG 3 X dX11_text_93 co9 (kt11_0 hZ hh) (by decide) rfl wfX11_84 rfl rfl rfl (fun s11 => ?_)
    refine V_aload_n 2 X dX11_text_96 rfl rfl ?_
    refine V_getR (k1 := (h + 171)) 3 X dX11_text_97 co11 hh (by decide) rfl rfl wfX11_27 ?_
    refine V_getI 3 X dX11_text_100 co6 (kt11_3 hZ hh) (by decide) rfl wfX11_99 ?_
    refine V_if_eq (tgt := 108) X dX11_text_103 (by decide) ?_ ?_
    · refine V_aload_n 2 X dX11_text_108 rfl rfl ?_
      refine V_getR (k1 := (h + 1)) 0 X dX11_text_109 co11 hh (by decide) rfl rfl wfX11_10 ?_
      refine V_iload_n 3 X dX11_text_112 rfl rfl ?_
      refine V_iload 0 X dX11_text_113 rfl ?_
      refine V_aload_n 2 X dX11_text_115 rfl rfl ?_
      refine V_getR (k1 := (h + 171)) 3 X dX11_text_116 co11 hh (by decide) rfl rfl wfX11_27 ?_
      refine V_callV [.int v1, .int v4_7, .ref (z.2.2.1 (h + 171))] [] X E dX11_text_119 (kX9_keep x.2.1 z hZ N (h + 1) (kt11_0 hZ hh) v1 v4_7 (h + 171) (kt11_3 hZ hh) s11) co9 (kt11_0 hZ hh) gcX11_101 hyX9_keep rfl ⟨by decide, by decide⟩ rfl (Nat.le_of_ble_eq_true rfl) (fun r12 s13 => ?_)
      refine V_iload 0 X dX11_text_122 rfl ?_
      exact V_iret X E hr dX11_text_124
    · refine V_iconst (v := -1) X dX11_text_106 (by decide) ?_
      exact V_iret X E hr dX11_text_107
  · refine V_bipush (v := -2) X dX11_text_49 (by decide) ?_
    exact V_iret X E hr dX11_text_51
theorem kX11_text (l : Launch) (z : Sx) (hZ : z.2.2.2.1 = kdC) (N : Nat) (h : Nat) (hh : z.2.2.2.1 h = (11, 0)) (v1 : Int32) (v2 : Int32) (σ : Mem) : Ct QI yX11_text cX11_text 5 (some .int) 9 202 l z [.ref (z.2.2.1 h), .int v1, .int v2] σ (fX11_text N h v1 v2 σ) := by
  refine Ct_of (by decide +kernel) (Nat.le_of_ble_eq_true rfl) rfl ?_
  intro x _ X E hr
  exact bX11_text_0 X E hr hZ N h hh v1 v2 σ
def fX3_fewestWaxes_b11 (N : Nat) (h : Nat) (rc11 : Int32 → Int32 → Int32 → Mem → Option (Int32 × Mem)) (v2 : Int32) (v3 : Int32) (v4 : Int32) (σ : Mem) : Option (Int32 × Mem) :=
  if 3 < v4 then some ((-1), σ) else bd (gX3_waxFurther N 5 h v2 v3 0 0 v4 σ) (fun r4 s5 => if r4 = 0 then lt_ (v4 + 1) (fun v4_6 => rc11 v2 v3 v4_6 s5) else some (v4, s5))
set_option maxRecDepth 100000 in
set_option maxHeartbeats 4000000 in
theorem bX3_fewestWaxes_11 {x : Cx} {z : Sx} (X : XG x z RX3 cX3_fewestWaxes 5 10 257) (E : XE x z) (hr : XR x (some .int)) (hZ : z.2.2.2.1 = kdC) (N : Nat) (h : Nat) (hh : z.2.2.2.1 h = (3, 0)) (rc11 : Int32 → Int32 → Int32 → Mem → Option (Int32 × Mem)) (hc11 : ∀ (v2 : Int32) (v3 : Int32) (v4 : Int32) (σ : Mem), VK x z 5 (BQ QI x z) 11 [(0, .ref (z.2.2.1 h)), (2, .int v2), (3, .int v3), (4, .int v4)] [] σ (rc11 v2 v3 v4 σ)) (v2 : Int32) (v3 : Int32) (v4 : Int32) (σ : Mem) : VK x z 5 (BQ QI x z) 11 [(0, .ref (z.2.2.1 h)), (2, .int v2), (3, .int v3), (4, .int v4)] [] σ (fX3_fewestWaxes_b11 N h rc11 v2 v3 v4 σ) := by
  unfold fX3_fewestWaxes_b11
  refine V_iload 3 X dX3_fewestWaxes_11 rfl ?_
  refine V_iconst (v := 3) X dX3_fewestWaxes_13 (by decide) ?_
  refine V_icmp_gt (tgt := 39) X dX3_fewestWaxes_14 (by decide) ?_ ?_
  · refine V_iconst (v := -1) X dX3_fewestWaxes_39 (by decide) ?_
    exact V_iret X E hr dX3_fewestWaxes_40
  · refine V_aload_n 0 X dX3_fewestWaxes_17 rfl rfl ?_
    refine V_iload_n 1 X dX3_fewestWaxes_18 rfl rfl ?_
    refine V_iload_n 2 X dX3_fewestWaxes_19 rfl rfl ?_
    refine V_iconst (v := 0) X dX3_fewestWaxes_20 (by decide) ?_
    refine V_iconst (v := 0) X dX3_fewestWaxes_21 (by decide) ?_
    refine V_iload 3 X dX3_fewestWaxes_22 rfl ?_
    refine V_callI [.int v2, .int v3, .int 0, .int 0, .int v4] [] X E dX3_fewestWaxes_24 (kX3_waxFurther N 5 x.2.1 z hZ h hh v2 v3 0 0 v4 σ) co3 hh gcX3_26 hyX3_waxFurther rfl ⟨by decide, by decide⟩ rfl (Nat.le_of_ble_eq_true rfl) (fun r4 s5 => ?_)
    refine V_if_eq (tgt := 33) X dX3_fewestWaxes_27 (by decide) ?_ ?_
    · refine V_iincG (L' := fun v4_6 => [(4, .int v4_6), (0, .ref (z.2.2.1 h)), (2, .int v2), (3, .int v3)]) 3 X dX3_fewestWaxes_33 rfl rfl (by decide) (fun _ => rfl) (fun v4_6 => ?_)
      refine V_goto (tgt := 11) X dX3_fewestWaxes_36 (by decide) ?_
      refine V_sub [1, 2, 3, 0] rfl ?_
      exact hc11 v2 v3 v4_6 s5
    · refine V_iload 3 X dX3_fewestWaxes_30 rfl ?_
      exact V_iret X E hr dX3_fewestWaxes_32
def fX3_fewestWaxes_l11 (N : Nat) (h : Nat) : Nat → Int32 → Int32 → Int32 → Mem → Option (Int32 × Mem)
  | 0 => fun _ _ _ _ => none
  | n + 1 => fX3_fewestWaxes_b11 N h (fX3_fewestWaxes_l11 N h n)
theorem lX3_fewestWaxes_11 {x : Cx} {z : Sx} (X : XG x z RX3 cX3_fewestWaxes 5 10 257) (E : XE x z) (hr : XR x (some .int)) (hZ : z.2.2.2.1 = kdC) (N : Nat) (h : Nat) (hh : z.2.2.2.1 h = (3, 0)) (n : Nat) (v2 : Int32) (v3 : Int32) (v4 : Int32) (σ : Mem) : VK x z 5 (BQ QI x z) 11 [(0, .ref (z.2.2.1 h)), (2, .int v2), (3, .int v3), (4, .int v4)] [] σ (fX3_fewestWaxes_l11 N h n v2 v3 v4 σ) := by
  induction n generalizing v2 v3 v4 σ with
  | zero => exact V_none
  | succ n ih => exact bX3_fewestWaxes_11 X E hr hZ N h hh (fX3_fewestWaxes_l11 N h n) ih v2 v3 v4 σ
def fX3_fewestWaxes (N : Nat) (h : Nat) (v1 : Nat) (v2 : Int32) (v3 : Int32) (σ : Mem) : Option (Int32 × Mem) :=
  bd (fX2_enter N (h + 2) v1 σ) (fun r1 s2 => lt_ 0 (fun v4_3 => fX3_fewestWaxes_l11 N h N v2 v3 v4_3 s2))
set_option maxRecDepth 100000 in
set_option maxHeartbeats 4000000 in
theorem bX3_fewestWaxes_0 {x : Cx} {z : Sx} (X : XG x z RX3 cX3_fewestWaxes 5 10 257) (E : XE x z) (hr : XR x (some .int)) (hZ : z.2.2.2.1 = kdC) (N : Nat) (h : Nat) (hh : z.2.2.2.1 h = (3, 0)) (v1 : Nat) (v2 : Int32) (v3 : Int32) (hk1 : z.2.2.2.1 v1 = (0, 0)) (σ : Mem) : VK x z 5 (BQ QI x z) 0 [(0, .ref (z.2.2.1 h)), (1, .ref (z.2.2.1 v1)), (2, .int v2), (3, .int v3)] [] σ (fX3_fewestWaxes N h v1 v2 v3 σ) := by
  unfold fX3_fewestWaxes
  refine V_aload_n 0 X dX3_fewestWaxes_0 rfl rfl ?_
  refine V_getR (k1 := (h + 2)) 1 X dX3_fewestWaxes_1 co3 hh (by decide) rfl rfl wfX3_18 ?_
  refine V_aload_n 1 X dX3_fewestWaxes_4 rfl rfl ?_
  refine V_callV [.ref (z.2.2.1 v1)] [] X E dX3_fewestWaxes_5 (kX2_enter x.2.1 z hZ N (h + 2) (kt3_1 hZ hh) v1 hk1 σ) co2 (kt3_1 hZ hh) gcX3_22 hyX2_enter rfl ⟨by decide, by decide⟩ rfl (Nat.le_of_ble_eq_true rfl) (fun r1 s2 => ?_)
  refine V_iconst (v := 0) X dX3_fewestWaxes_8 (by decide) ?_
  refine V_istoreG (L' := fun v4_3 => [(4, .int v4_3), (0, .ref (z.2.2.1 h)), (1, .ref (z.2.2.1 v1)), (2, .int v2), (3, .int v3)]) X dX3_fewestWaxes_9 (by decide) (fun _ => rfl) (fun v4_3 => ?_)
  refine V_sub [1, 3, 4, 0] rfl ?_
  exact lX3_fewestWaxes_11 X E hr hZ N h hh N v2 v3 v4_3 s2
theorem kX3_fewestWaxes (l : Launch) (z : Sx) (hZ : z.2.2.2.1 = kdC) (N : Nat) (h : Nat) (hh : z.2.2.2.1 h = (3, 0)) (v1 : Nat) (v2 : Int32) (v3 : Int32) (hk1 : z.2.2.2.1 v1 = (0, 0)) (σ : Mem) : Ct QI yX3_fewestWaxes cX3_fewestWaxes 5 (some .int) 10 257 l z [.ref (z.2.2.1 h), .ref (z.2.2.1 v1), .int v2, .int v3] σ (fX3_fewestWaxes N h v1 v2 v3 σ) := by
  refine Ct_of (by decide +kernel) (Nat.le_of_ble_eq_true rfl) rfl ?_
  intro x _ X E hr
  exact bX3_fewestWaxes_0 X E hr hZ N h hh v1 v2 v3 hk1 σ
def fX11_waxed (N : Nat) (h : Nat) (v1 : Int32) (v2 : Int32) (v3 : Int32) (v4 : Int32) (σ : Mem) : Option (Int32 × Mem) :=
  bd (fX11_asked N h v1 v2 σ) (fun or1 s2 => mqK (0, 0) or1 (some ((-1), s2)) (fun r1 => bd (fX3_fewestWaxes N (h + 251) r1 v2 v3 s2) (fun r4 s5 => lt_ r4 (fun v6_6 => if v4 = (-1) then some (v6_6, s5) else if v4 < 0 then some ((-1), s5) else if v6_6 ≤ v4 then some ((-1), s5) else gd (inb v4 3) (some ((s5.1 ((h + 251) + 1) v4.toNatClampNeg), s5))))))
set_option maxRecDepth 100000 in
set_option maxHeartbeats 4000000 in
theorem bX11_waxed_0 {x : Cx} {z : Sx} (X : XG x z RX11 cX11_waxed 7 11 281) (E : XE x z) (hr : XR x (some .int)) (hZ : z.2.2.2.1 = kdC) (N : Nat) (h : Nat) (hh : z.2.2.2.1 h = (11, 0)) (v1 : Int32) (v2 : Int32) (v3 : Int32) (v4 : Int32) (σ : Mem) : VK x z 7 (BQ QI x z) 0 [(0, .ref (z.2.2.1 h)), (1, .int v1), (2, .int v2), (3, .int v3), (4, .int v4)] [] σ (fX11_waxed N h v1 v2 v3 v4 σ) := by
  unfold fX11_waxed
  refine V_aload_n 0 X dX11_waxed_0 rfl rfl ?_
  refine V_iload_n 1 X dX11_waxed_1 rfl rfl ?_
  refine V_iload_n 2 X dX11_waxed_2 rfl rfl ?_
  refine V_callQC (K := (0, 0)) [.int v1, .int v2] [] X E hZ dX11_waxed_3 (kX11_asked x.2.1 z hZ N h hh v1 v2 σ) co11 hh gcX11_115 hyX11_asked rfl ⟨by decide, by decide⟩ rfl (Nat.le_of_ble_eq_true rfl) (fun s2 => ?_) (fun r1 s2 hb3 => ?_)
  · refine V_astoreN (L' := [(5, .null), (0, .ref (z.2.2.1 h)), (1, .int v1), (2, .int v2), (3, .int v3), (4, .int v4)]) X dX11_waxed_6 (by decide) rfl ?_
    refine V_aloadN 0 X dX11_waxed_8 rfl ?_
    refine V_ifnonnullN X dX11_waxed_10 ?_
    refine V_iconst (v := -1) X dX11_waxed_13 (by decide) ?_
    exact V_iret X E hr dX11_waxed_14
  · refine V_astore (L' := [(5, .ref (z.2.2.1 r1)), (0, .ref (z.2.2.1 h)), (1, .int v1), (2, .int v2), (3, .int v3), (4, .int v4)]) X dX11_waxed_6 (by decide) rfl ?_
    refine V_aload 0 X dX11_waxed_8 rfl ?_
    refine V_ifnonnull (tgt := 15) X dX11_waxed_10 (by decide) ?_
    refine V_aload_n 1 X dX11_waxed_15 rfl rfl ?_
    refine V_getR (k1 := (h + 251)) 8 X dX11_waxed_16 co11 hh (by decide) rfl rfl wfX11_62 ?_
    refine V_aload 0 X dX11_waxed_19 rfl ?_
    refine V_iload_n 3 X dX11_waxed_21 rfl rfl ?_
    refine V_iload_n 4 X dX11_waxed_22 rfl rfl ?_
    refine V_callI [.ref (z.2.2.1 r1), .int v2, .int v3] [] X E dX11_waxed_23 (kX3_fewestWaxes x.2.1 z hZ N (h + 251) (kt11_8 hZ hh) r1 v2 v3 hb3 s2) co3 (kt11_8 hZ hh) gcX11_176 hyX3_fewestWaxes rfl ⟨by decide, by decide⟩ rfl (Nat.le_of_ble_eq_true rfl) (fun r4 s5 => ?_)
    refine V_istoreG (L' := fun v6_6 => [(6, .int v6_6), (5, .ref (z.2.2.1 r1)), (0, .ref (z.2.2.1 h)), (1, .int v1), (2, .int v2), (3, .int v3), (4, .int v4)]) X dX11_waxed_26 (by decide) (fun _ => rfl) (fun v6_6 => ?_)
    refine V_iload 6 X dX11_waxed_28 rfl ?_
    refine V_iconst (v := -1) X dX11_waxed_30 (by decide) ?_
    refine V_icmp_ne (tgt := 37) X dX11_waxed_31 (by decide) ?_ ?_
    · refine V_iload 6 X dX11_waxed_37 rfl ?_
      refine V_if_lt (tgt := 62) X dX11_waxed_39 (by decide) ?_ ?_
      · refine V_iconst (v := -1) X dX11_waxed_62 (by decide) ?_
        exact V_iret X E hr dX11_waxed_63
      · refine V_iload 6 X dX11_waxed_42 rfl ?_
        refine V_iload 0 X dX11_waxed_44 rfl ?_
        refine V_icmp_ge (tgt := 62) X dX11_waxed_46 (by decide) ?_ ?_
        · refine V_iconst (v := -1) X dX11_waxed_62 (by decide) ?_
          exact V_iret X E hr dX11_waxed_63
        · refine V_aload_n 2 X dX11_waxed_49 rfl rfl ?_
          refine V_getR (k1 := (h + 251)) 8 X dX11_waxed_50 co11 hh (by decide) rfl rfl wfX11_62 ?_
          refine V_getR (k1 := ((h + 251) + 1)) 0 X dX11_waxed_53 co3 (kt11_8 hZ hh) (by decide) rfl rfl wfX11_180 ?_
          refine V_iload 6 X dX11_waxed_56 rfl ?_
          refine V_iald X dX11_waxed_58 (kt3_0 hZ (kt11_8 hZ hh)) ?_
          refine V_goto (tgt := 63) X dX11_waxed_59 (by decide) ?_
          exact V_iret X E hr dX11_waxed_63
    · refine V_iload 0 X dX11_waxed_34 rfl ?_
      exact V_iret X E hr dX11_waxed_36
theorem kX11_waxed (l : Launch) (z : Sx) (hZ : z.2.2.2.1 = kdC) (N : Nat) (h : Nat) (hh : z.2.2.2.1 h = (11, 0)) (v1 : Int32) (v2 : Int32) (v3 : Int32) (v4 : Int32) (σ : Mem) : Ct QI yX11_waxed cX11_waxed 7 (some .int) 11 281 l z [.ref (z.2.2.1 h), .int v1, .int v2, .int v3, .int v4] σ (fX11_waxed N h v1 v2 v3 v4 σ) := by
  refine Ct_of (by decide +kernel) (Nat.le_of_ble_eq_true rfl) rfl ?_
  intro x _ X E hr
  exact bX11_waxed_0 X E hr hZ N h hh v1 v2 v3 v4 σ
def fX3_firstChoice_b11 (N : Nat) (h : Nat) (rc11 : Nat → Int32 → Int32 → Int32 → Mem → Option (Int32 × Mem)) (v1 : Nat) (v2 : Int32) (v3 : Int32) (v4 : Int32) (σ : Mem) : Option (Int32 × Mem) :=
  if (σ.1 v1 0) ≤ v4 then bd (gX3_endsCarried N 6 h v2 (v3 - 1) 0 σ) (fun r4 s5 => if r4 = 0 then some ((-1), s5) else some (8, s5)) else bd (gX3_endsCarriedBy N 6 h v4 v2 v3 1 σ) (fun r6 s7 => if r6 = 0 then lt_ (v4 + 1) (fun v4_8 => rc11 v1 v2 v3 v4_8 s7) else some (v4, s7))
set_option maxRecDepth 100000 in
set_option maxHeartbeats 4000000 in
theorem bX3_firstChoice_11 {x : Cx} {z : Sx} (X : XG x z RX3 cX3_firstChoice 5 18 438) (E : XE x z) (hr : XR x (some .int)) (hZ : z.2.2.2.1 = kdC) (N : Nat) (h : Nat) (hh : z.2.2.2.1 h = (3, 0)) (rc11 : Nat → Int32 → Int32 → Int32 → Mem → Option (Int32 × Mem)) (hc11 : ∀ (v1 : Nat) (v2 : Int32) (v3 : Int32) (v4 : Int32) (hk1 : z.2.2.2.1 v1 = (0, 0)) (σ : Mem), VK x z 5 (BQ QI x z) 11 [(0, .ref (z.2.2.1 h)), (1, .ref (z.2.2.1 v1)), (2, .int v2), (3, .int v3), (4, .int v4)] [] σ (rc11 v1 v2 v3 v4 σ)) (v1 : Nat) (v2 : Int32) (v3 : Int32) (v4 : Int32) (hk1 : z.2.2.2.1 v1 = (0, 0)) (σ : Mem) : VK x z 5 (BQ QI x z) 11 [(0, .ref (z.2.2.1 h)), (1, .ref (z.2.2.1 v1)), (2, .int v2), (3, .int v3), (4, .int v4)] [] σ (fX3_firstChoice_b11 N h rc11 v1 v2 v3 v4 σ) := by
  unfold fX3_firstChoice_b11
  refine V_iload 4 X dX3_firstChoice_11 rfl ?_
  refine V_aload_n 1 X dX3_firstChoice_13 rfl rfl ?_
  refine V_getI 0 X dX3_firstChoice_14 co0 hk1 (by decide) rfl wfX3_44 ?_
  refine V_icmp_ge (tgt := 41) X dX3_firstChoice_17 (by decide) ?_ ?_
  · refine V_aload_n 0 X dX3_firstChoice_41 rfl rfl ?_
    refine V_iload_n 2 X dX3_firstChoice_42 rfl rfl ?_
    refine V_iload_n 3 X dX3_firstChoice_43 rfl rfl ?_
    refine V_iconst (v := 1) X dX3_firstChoice_44 (by decide) ?_
    refine V_isub X dX3_firstChoice_45 ?_
    refine V_iconst (v := 0) X dX3_firstChoice_46 (by decide) ?_
    refine V_callI [.int v2, .int (v3 - 1), .int 0] [] X E dX3_firstChoice_47 (kX3_endsCarried N 6 x.2.1 z hZ h hh v2 (v3 - 1) 0 σ) co3 hh gcX3_53 hyX3_endsCarried rfl ⟨by decide, by decide⟩ rfl (Nat.le_of_ble_eq_true rfl) (fun r4 s5 => ?_)
    refine V_if_eq (tgt := 58) X dX3_firstChoice_50 (by decide) ?_ ?_
    · refine V_iconst (v := -1) X dX3_firstChoice_58 (by decide) ?_
      exact V_iret X E hr dX3_firstChoice_59
    · refine V_bipush (v := 8) X dX3_firstChoice_53 (by decide) ?_
      refine V_goto (tgt := 59) X dX3_firstChoice_55 (by decide) ?_
      exact V_iret X E hr dX3_firstChoice_59
  · refine V_aload_n 0 X dX3_firstChoice_20 rfl rfl ?_
    refine V_iload 4 X dX3_firstChoice_21 rfl ?_
    refine V_iload_n 2 X dX3_firstChoice_23 rfl rfl ?_
    refine V_iload_n 3 X dX3_firstChoice_24 rfl rfl ?_
    refine V_iconst (v := 1) X dX3_firstChoice_25 (by decide) ?_
    refine V_callI [.int v4, .int v2, .int v3, .int 1] [] X E dX3_firstChoice_26 (kX3_endsCarriedBy N 6 x.2.1 z hZ h hh v4 v2 v3 1 σ) co3 hh gcX3_61 hyX3_endsCarriedBy rfl ⟨by decide, by decide⟩ rfl (Nat.le_of_ble_eq_true rfl) (fun r6 s7 => ?_)
    refine V_if_eq (tgt := 35) X dX3_firstChoice_29 (by decide) ?_ ?_
    · refine V_iincG (L' := fun v4_8 => [(4, .int v4_8), (0, .ref (z.2.2.1 h)), (1, .ref (z.2.2.1 v1)), (2, .int v2), (3, .int v3)]) 4 X dX3_firstChoice_35 rfl rfl (by decide) (fun _ => rfl) (fun v4_8 => ?_)
      refine V_goto (tgt := 11) X dX3_firstChoice_38 (by decide) ?_
      refine V_sub [1, 2, 3, 4, 0] rfl ?_
      exact hc11 v1 v2 v3 v4_8 hk1 s7
    · refine V_iload 4 X dX3_firstChoice_32 rfl ?_
      exact V_iret X E hr dX3_firstChoice_34
def fX3_firstChoice_l11 (N : Nat) (h : Nat) : Nat → Nat → Int32 → Int32 → Int32 → Mem → Option (Int32 × Mem)
  | 0 => fun _ _ _ _ _ => none
  | n + 1 => fX3_firstChoice_b11 N h (fX3_firstChoice_l11 N h n)
theorem lX3_firstChoice_11 {x : Cx} {z : Sx} (X : XG x z RX3 cX3_firstChoice 5 18 438) (E : XE x z) (hr : XR x (some .int)) (hZ : z.2.2.2.1 = kdC) (N : Nat) (h : Nat) (hh : z.2.2.2.1 h = (3, 0)) (n : Nat) (v1 : Nat) (v2 : Int32) (v3 : Int32) (v4 : Int32) (hk1 : z.2.2.2.1 v1 = (0, 0)) (σ : Mem) : VK x z 5 (BQ QI x z) 11 [(0, .ref (z.2.2.1 h)), (1, .ref (z.2.2.1 v1)), (2, .int v2), (3, .int v3), (4, .int v4)] [] σ (fX3_firstChoice_l11 N h n v1 v2 v3 v4 σ) := by
  induction n generalizing v1 v2 v3 v4 hk1 σ with
  | zero => exact V_none
  | succ n ih => exact bX3_firstChoice_11 X E hr hZ N h hh (fX3_firstChoice_l11 N h n) ih v1 v2 v3 v4 hk1 σ
def fX3_firstChoice (N : Nat) (h : Nat) (v1 : Nat) (v2 : Int32) (v3 : Int32) (σ : Mem) : Option (Int32 × Mem) :=
  bd (fX2_enter N (h + 2) v1 σ) (fun r1 s2 => lt_ 0 (fun v4_3 => fX3_firstChoice_l11 N h N v1 v2 v3 v4_3 s2))
set_option maxRecDepth 100000 in
set_option maxHeartbeats 4000000 in
theorem bX3_firstChoice_0 {x : Cx} {z : Sx} (X : XG x z RX3 cX3_firstChoice 5 18 438) (E : XE x z) (hr : XR x (some .int)) (hZ : z.2.2.2.1 = kdC) (N : Nat) (h : Nat) (hh : z.2.2.2.1 h = (3, 0)) (v1 : Nat) (v2 : Int32) (v3 : Int32) (hk1 : z.2.2.2.1 v1 = (0, 0)) (σ : Mem) : VK x z 5 (BQ QI x z) 0 [(0, .ref (z.2.2.1 h)), (1, .ref (z.2.2.1 v1)), (2, .int v2), (3, .int v3)] [] σ (fX3_firstChoice N h v1 v2 v3 σ) := by
  unfold fX3_firstChoice
  refine V_aload_n 0 X dX3_firstChoice_0 rfl rfl ?_
  refine V_getR (k1 := (h + 2)) 1 X dX3_firstChoice_1 co3 hh (by decide) rfl rfl wfX3_18 ?_
  refine V_aload_n 1 X dX3_firstChoice_4 rfl rfl ?_
  refine V_callV [.ref (z.2.2.1 v1)] [] X E dX3_firstChoice_5 (kX2_enter x.2.1 z hZ N (h + 2) (kt3_1 hZ hh) v1 hk1 σ) co2 (kt3_1 hZ hh) gcX3_22 hyX2_enter rfl ⟨by decide, by decide⟩ rfl (Nat.le_of_ble_eq_true rfl) (fun r1 s2 => ?_)
  refine V_iconst (v := 0) X dX3_firstChoice_8 (by decide) ?_
  refine V_istoreG (L' := fun v4_3 => [(4, .int v4_3), (0, .ref (z.2.2.1 h)), (1, .ref (z.2.2.1 v1)), (2, .int v2), (3, .int v3)]) X dX3_firstChoice_9 (by decide) (fun _ => rfl) (fun v4_3 => ?_)
  refine V_sub [1, 2, 3, 4, 0] rfl ?_
  exact lX3_firstChoice_11 X E hr hZ N h hh N v1 v2 v3 v4_3 hk1 s2
theorem kX3_firstChoice (l : Launch) (z : Sx) (hZ : z.2.2.2.1 = kdC) (N : Nat) (h : Nat) (hh : z.2.2.2.1 h = (3, 0)) (v1 : Nat) (v2 : Int32) (v3 : Int32) (hk1 : z.2.2.2.1 v1 = (0, 0)) (σ : Mem) : Ct QI yX3_firstChoice cX3_firstChoice 5 (some .int) 18 438 l z [.ref (z.2.2.1 h), .ref (z.2.2.1 v1), .int v2, .int v3] σ (fX3_firstChoice N h v1 v2 v3 σ) := by
  refine Ct_of (by decide +kernel) (Nat.le_of_ble_eq_true rfl) rfl ?_
  intro x _ X E hr
  exact bX3_firstChoice_0 X E hr hZ N h hh v1 v2 v3 hk1 σ
def fX3_lobbied (N : Nat) (h : Nat) (v1 : Nat) (v2 : Int32) (v3 : Int32) (σ : Mem) : Option (Int32 × Mem) :=
  bd (fX2_enter N (h + 2) v1 σ) (fun r1 s2 => bd (gX3_endsCarried N 6 h v2 v3 1 s2) (fun r3 s4 => gd (decide (r3 = 0 ∨ r3 = 1)) (some (r3, s4))))
set_option maxRecDepth 100000 in
set_option maxHeartbeats 4000000 in
theorem bX3_lobbied_0 {x : Cx} {z : Sx} (X : XG x z RX3 cX3_lobbied 4 17 413) (E : XE x z) (hr : XR x (some .boolean)) (hZ : z.2.2.2.1 = kdC) (N : Nat) (h : Nat) (hh : z.2.2.2.1 h = (3, 0)) (v1 : Nat) (v2 : Int32) (v3 : Int32) (hk1 : z.2.2.2.1 v1 = (0, 0)) (σ : Mem) : VK x z 4 (BQ QI x z) 0 [(0, .ref (z.2.2.1 h)), (1, .ref (z.2.2.1 v1)), (2, .int v2), (3, .int v3)] [] σ (fX3_lobbied N h v1 v2 v3 σ) := by
  unfold fX3_lobbied
  refine V_aload_n 0 X dX3_lobbied_0 rfl rfl ?_
  refine V_getR (k1 := (h + 2)) 1 X dX3_lobbied_1 co3 hh (by decide) rfl rfl wfX3_18 ?_
  refine V_aload_n 1 X dX3_lobbied_4 rfl rfl ?_
  refine V_callV [.ref (z.2.2.1 v1)] [] X E dX3_lobbied_5 (kX2_enter x.2.1 z hZ N (h + 2) (kt3_1 hZ hh) v1 hk1 σ) co2 (kt3_1 hZ hh) gcX3_22 hyX2_enter rfl ⟨by decide, by decide⟩ rfl (Nat.le_of_ble_eq_true rfl) (fun r1 s2 => ?_)
  refine V_aload_n 0 X dX3_lobbied_8 rfl rfl ?_
  refine V_iload_n 2 X dX3_lobbied_9 rfl rfl ?_
  refine V_iload_n 3 X dX3_lobbied_10 rfl rfl ?_
  refine V_iconst (v := 1) X dX3_lobbied_11 (by decide) ?_
  refine V_callI [.int v2, .int v3, .int 1] [] X E dX3_lobbied_12 (kX3_endsCarried N 6 x.2.1 z hZ h hh v2 v3 1 s2) co3 hh gcX3_53 hyX3_endsCarried rfl ⟨by decide, by decide⟩ rfl (Nat.le_of_ble_eq_true rfl) (fun r3 s4 => ?_)
  exact V_zretG X E hr dX3_lobbied_15
theorem kX3_lobbied (l : Launch) (z : Sx) (hZ : z.2.2.2.1 = kdC) (N : Nat) (h : Nat) (hh : z.2.2.2.1 h = (3, 0)) (v1 : Nat) (v2 : Int32) (v3 : Int32) (hk1 : z.2.2.2.1 v1 = (0, 0)) (σ : Mem) : Ct QI yX3_lobbied cX3_lobbied 4 (some .boolean) 17 413 l z [.ref (z.2.2.1 h), .ref (z.2.2.1 v1), .int v2, .int v3] σ (fX3_lobbied N h v1 v2 v3 σ) := by
  refine Ct_of (by decide +kernel) (Nat.le_of_ble_eq_true rfl) rfl ?_
  intro x _ X E hr
  exact bX3_lobbied_0 X E hr hZ N h hh v1 v2 v3 hk1 σ
def fX11_lobby (N : Nat) (h : Nat) (v1 : Int32) (v2 : Int32) (v3 : Int32) (v4 : Int32) (σ : Mem) : Option (Int32 × Mem) :=
  bd (fX11_asked N h v1 v2 σ) (fun or1 s2 => mqK (0, 0) or1 (some ((-2), s2)) (fun r1 => if v3 < 0 then some ((-2), s2) else if v3 ≤ 4 then if v4 = 0 then bd (fX3_lobbied N (h + 251) r1 v2 v3 s2) (fun r4 s5 => if r4 = 0 then some (0, s5) else some (1, s5)) else if v3 = 0 then some ((-1), s2) else bd (fX3_firstChoice N (h + 251) r1 v2 v3 s2) (fun r6 s7 => some (r6, s7)) else some ((-2), s2)))
set_option maxRecDepth 100000 in
set_option maxHeartbeats 4000000 in
theorem bX11_lobby_0 {x : Cx} {z : Sx} (X : XG x z RX11 cX11_lobby 6 19 462) (E : XE x z) (hr : XR x (some .int)) (hZ : z.2.2.2.1 = kdC) (N : Nat) (h : Nat) (hh : z.2.2.2.1 h = (11, 0)) (v1 : Int32) (v2 : Int32) (v3 : Int32) (v4 : Int32) (σ : Mem) : VK x z 6 (BQ QI x z) 0 [(0, .ref (z.2.2.1 h)), (1, .int v1), (2, .int v2), (3, .int v3), (4, .int v4)] [] σ (fX11_lobby N h v1 v2 v3 v4 σ) := by
  unfold fX11_lobby
  refine V_aload_n 0 X dX11_lobby_0 rfl rfl ?_
  refine V_iload_n 1 X dX11_lobby_1 rfl rfl ?_
  refine V_iload_n 2 X dX11_lobby_2 rfl rfl ?_
  refine V_callQC (K := (0, 0)) [.int v1, .int v2] [] X E hZ dX11_lobby_3 (kX11_asked x.2.1 z hZ N h hh v1 v2 σ) co11 hh gcX11_115 hyX11_asked rfl ⟨by decide, by decide⟩ rfl (Nat.le_of_ble_eq_true rfl) (fun s2 => ?_) (fun r1 s2 hb3 => ?_)
  · refine V_astoreN (L' := [(5, .null), (0, .ref (z.2.2.1 h)), (1, .int v1), (2, .int v2), (3, .int v3), (4, .int v4)]) X dX11_lobby_6 (by decide) rfl ?_
    refine V_aloadN 0 X dX11_lobby_8 rfl ?_
    refine V_ifnullN (tgt := 22) X dX11_lobby_10 (by decide) ?_
    refine V_bipush (v := -2) X dX11_lobby_22 (by decide) ?_
    exact V_iret X E hr dX11_lobby_24
  · refine V_astore (L' := [(5, .ref (z.2.2.1 r1)), (0, .ref (z.2.2.1 h)), (1, .int v1), (2, .int v2), (3, .int v3), (4, .int v4)]) X dX11_lobby_6 (by decide) rfl ?_
    refine V_aload 0 X dX11_lobby_8 rfl ?_
    refine V_ifnull X dX11_lobby_10 ?_
    refine V_iload_n 4 X dX11_lobby_13 rfl rfl ?_
    refine V_if_lt (tgt := 22) X dX11_lobby_14 (by decide) ?_ ?_
    · refine V_bipush (v := -2) X dX11_lobby_22 (by decide) ?_
      exact V_iret X E hr dX11_lobby_24
    · refine V_iload_n 4 X dX11_lobby_17 rfl rfl ?_
      refine V_iconst (v := 4) X dX11_lobby_18 (by decide) ?_
      refine V_icmp_le (tgt := 25) X dX11_lobby_19 (by decide) ?_ ?_
      · refine V_iload 5 X dX11_lobby_25 rfl ?_
        refine V_if_eq (tgt := 50) X dX11_lobby_27 (by decide) ?_ ?_
        · refine V_aload_n 1 X dX11_lobby_50 rfl rfl ?_
          refine V_getR (k1 := (h + 251)) 8 X dX11_lobby_51 co11 hh (by decide) rfl rfl wfX11_62 ?_
          refine V_aload 0 X dX11_lobby_54 rfl ?_
          refine V_iload_n 3 X dX11_lobby_56 rfl rfl ?_
          refine V_iload_n 4 X dX11_lobby_57 rfl rfl ?_
          refine V_callI [.ref (z.2.2.1 r1), .int v2, .int v3] [] X E dX11_lobby_58 (kX3_lobbied x.2.1 z hZ N (h + 251) (kt11_8 hZ hh) r1 v2 v3 hb3 s2) co3 (kt11_8 hZ hh) gcX11_191 hyX3_lobbied rfl ⟨by decide, by decide⟩ rfl (Nat.le_of_ble_eq_true rfl) (fun r4 s5 => ?_)
          refine V_if_eq (tgt := 68) X dX11_lobby_61 (by decide) ?_ ?_
          · refine V_iconst (v := 0) X dX11_lobby_68 (by decide) ?_
            exact V_iret X E hr dX11_lobby_69
          · refine V_iconst (v := 1) X dX11_lobby_64 (by decide) ?_
            refine V_goto (tgt := 69) X dX11_lobby_65 (by decide) ?_
            exact V_iret X E hr dX11_lobby_69
        · refine V_iload_n 4 X dX11_lobby_30 rfl rfl ?_
          refine V_if_ne (tgt := 38) X dX11_lobby_31 (by decide) ?_ ?_
          · refine V_aload_n 1 X dX11_lobby_38 rfl rfl ?_
            refine V_getR (k1 := (h + 251)) 8 X dX11_lobby_39 co11 hh (by decide) rfl rfl wfX11_62 ?_
            refine V_aload 0 X dX11_lobby_42 rfl ?_
            refine V_iload_n 3 X dX11_lobby_44 rfl rfl ?_
            refine V_iload_n 4 X dX11_lobby_45 rfl rfl ?_
            refine V_callI [.ref (z.2.2.1 r1), .int v2, .int v3] [] X E dX11_lobby_46 (kX3_firstChoice x.2.1 z hZ N (h + 251) (kt11_8 hZ hh) r1 v2 v3 hb3 s2) co3 (kt11_8 hZ hh) gcX11_187 hyX3_firstChoice rfl ⟨by decide, by decide⟩ rfl (Nat.le_of_ble_eq_true rfl) (fun r6 s7 => ?_)
            exact V_iret X E hr dX11_lobby_49
          · refine V_iconst (v := -1) X dX11_lobby_34 (by decide) ?_
            refine V_goto (tgt := 49) X dX11_lobby_35 (by decide) ?_
            exact V_iret X E hr dX11_lobby_49
      · refine V_bipush (v := -2) X dX11_lobby_22 (by decide) ?_
        exact V_iret X E hr dX11_lobby_24
theorem kX11_lobby (l : Launch) (z : Sx) (hZ : z.2.2.2.1 = kdC) (N : Nat) (h : Nat) (hh : z.2.2.2.1 h = (11, 0)) (v1 : Int32) (v2 : Int32) (v3 : Int32) (v4 : Int32) (σ : Mem) : Ct QI yX11_lobby cX11_lobby 6 (some .int) 19 462 l z [.ref (z.2.2.1 h), .int v1, .int v2, .int v3, .int v4] σ (fX11_lobby N h v1 v2 v3 v4 σ) := by
  refine Ct_of (by decide +kernel) (Nat.le_of_ble_eq_true rfl) rfl ?_
  intro x _ X E hr
  exact bX11_lobby_0 X E hr hZ N h hh v1 v2 v3 v4 σ
def fX5_part_b84 (N : Nat) (h : Nat) (rc26 : Int32 → Int32 → Int32 → Int32 → Mem → Option (Int32 × Mem)) (v1 : Int32) (v2 : Int32) (v3 : Int32) (v4 : Int32) (σ : Mem) : Option (Int32 × Mem) :=
  lt_ (v4 + 1) (fun v4_11 => rc26 v1 v2 v3 v4_11 σ)
set_option maxRecDepth 100000 in
set_option maxHeartbeats 4000000 in
theorem bX5_part_84 {x : Cx} {z : Sx} (X : XG x z RX5 cX5_part 6 2 44) (E : XE x z) (hr : XR x (some .int)) (hZ : z.2.2.2.1 = kdC) (N : Nat) (h : Nat) (hh : z.2.2.2.1 h = (5, 0)) (rc26 : Int32 → Int32 → Int32 → Int32 → Mem → Option (Int32 × Mem)) (hc26 : ∀ (v1 : Int32) (v2 : Int32) (v3 : Int32) (v4 : Int32) (σ : Mem), VK x z 6 (BQ QI x z) 26 [(0, .ref (z.2.2.1 h)), (1, .int v1), (2, .int v2), (3, .int v3), (4, .int v4)] [] σ (rc26 v1 v2 v3 v4 σ)) (v1 : Int32) (v2 : Int32) (v3 : Int32) (v4 : Int32) (σ : Mem) : VK x z 6 (BQ QI x z) 84 [(0, .ref (z.2.2.1 h)), (1, .int v1), (2, .int v2), (3, .int v3), (4, .int v4)] [] σ (fX5_part_b84 N h rc26 v1 v2 v3 v4 σ) := by
  unfold fX5_part_b84
  refine V_iincG (L' := fun v4_11 => [(4, .int v4_11), (0, .ref (z.2.2.1 h)), (1, .int v1), (2, .int v2), (3, .int v3)]) 4 X dX5_part_84 rfl rfl (by decide) (fun _ => rfl) (fun v4_11 => ?_)
  refine V_goto (tgt := 26) X dX5_part_87 (by decide) ?_
  refine V_sub [1, 2, 3, 4, 0] rfl ?_
  exact hc26 v1 v2 v3 v4_11 σ
def fX5_part_b26 (N : Nat) (h : Nat) (rc26 : Int32 → Int32 → Int32 → Int32 → Mem → Option (Int32 × Mem)) (v1 : Int32) (v2 : Int32) (v3 : Int32) (v4 : Int32) (σ : Mem) : Option (Int32 × Mem) :=
  if (σ.1 h 4) ≤ v4 then gd (inb (σ.1 h 3) 9) (bd (fX11_leastTerms N ((v3 : Int32).toInt64) (((facT.getD (σ.1 h 3).toNatClampNeg 0) : Int32).toInt64) v2 σ) (fun r3 s4 => some ((r3 : Int64).toInt32, s4))) else bd (fJ6_bitCount_0f7a4 N v4 σ) (fun r5 s6 => lt_ r5 (fun v5_7 => if (s6.1 h 3) ≤ v5_7 then fX5_part_b84 N h rc26 v1 v2 v3 v4 s6 else bd (fX5_isSwing N h v4 v1 s6) (fun r8 s9 => if r8 = 0 then fX5_part_b84 N h rc26 v1 v2 v3 v4 s9 else gd (inb v5_7 9) (gd (inb (((s9.1 h 3) - 1) - v5_7) 9) (lt_ (v3 + ((facT.getD v5_7.toNatClampNeg 0) * (facT.getD (((s9.1 h 3) - 1) - v5_7).toNatClampNeg 0))) (fun v3_10 => fX5_part_b84 N h rc26 v1 v2 v3_10 v4 s9))))))
set_option maxRecDepth 100000 in
set_option maxHeartbeats 4000000 in
theorem bX5_part_26 {x : Cx} {z : Sx} (X : XG x z RX5 cX5_part 6 2 44) (E : XE x z) (hr : XR x (some .int)) (hZ : z.2.2.2.1 = kdC) (N : Nat) (h : Nat) (hh : z.2.2.2.1 h = (5, 0)) (rc26 : Int32 → Int32 → Int32 → Int32 → Mem → Option (Int32 × Mem)) (hc26 : ∀ (v1 : Int32) (v2 : Int32) (v3 : Int32) (v4 : Int32) (σ : Mem), VK x z 6 (BQ QI x z) 26 [(0, .ref (z.2.2.1 h)), (1, .int v1), (2, .int v2), (3, .int v3), (4, .int v4)] [] σ (rc26 v1 v2 v3 v4 σ)) (v1 : Int32) (v2 : Int32) (v3 : Int32) (v4 : Int32) (σ : Mem) : VK x z 6 (BQ QI x z) 26 [(0, .ref (z.2.2.1 h)), (1, .int v1), (2, .int v2), (3, .int v3), (4, .int v4)] [] σ (fX5_part_b26 N h rc26 v1 v2 v3 v4 σ) := by
  unfold fX5_part_b26
  refine V_iload 4 X dX5_part_26 rfl ?_
  refine V_aload_n 0 X dX5_part_28 rfl rfl ?_
  refine V_getI 4 X dX5_part_29 co5 hh (by decide) rfl wfX5_28 ?_
  refine V_icmp_ge (tgt := 90) X dX5_part_32 (by decide) ?_ ?_
  · refine V_iload_n 3 X dX5_part_90 rfl rfl ?_
    refine V_i2l X dX5_part_91 ?_
    refine V_gets X E (fun _ h9 => exF h9) wgX5_47 dX5_part_92 ?_
    refine V_aload_n 0 X dX5_part_95 rfl rfl ?_
    refine V_getI 3 X dX5_part_96 co5 hh (by decide) rfl wfX5_27 ?_
    refine V_tald X E (fun _ h9 => exF h9) dX5_part_99 ?_
    refine V_i2l X dX5_part_100 ?_
    refine V_iload_n 2 X dX5_part_101 rfl rfl ?_
    refine V_calNL [.long ((v3 : Int32).toInt64), .long (((facT.getD (σ.1 h 3).toNatClampNeg 0) : Int32).toInt64), .int v2] [] X E dX5_part_102 (kX11_leastTerms x.2.1 z hZ N ((v3 : Int32).toInt64) (((facT.getD (σ.1 h 3).toNatClampNeg 0) : Int32).toInt64) v2 σ) ncode nstat ninit hyX11_leastTerms rfl ⟨by decide, by decide⟩ rfl (Nat.le_of_ble_eq_true rfl) (fun r3 s4 => ?_)
    refine V_l2i X dX5_part_105 ?_
    exact V_iret X E hr dX5_part_106
  · refine V_iload 4 X dX5_part_35 rfl ?_
    refine V_calSI [.int v4] [] X E dX5_part_37 (kJ6_bitCount_0f7a4 x.2.1 z hZ N v4 σ) gcX5_50 hyJ6_bitCount_0f7a4 rfl ⟨by decide, by decide⟩ rfl (Nat.le_of_ble_eq_true rfl) (fun r5 s6 => ?_)
    refine V_istoreG (L' := fun v5_7 => [(5, .int v5_7), (0, .ref (z.2.2.1 h)), (1, .int v1), (2, .int v2), (3, .int v3), (4, .int v4)]) X dX5_part_40 (by decide) (fun _ => rfl) (fun v5_7 => ?_)
    refine V_iload 0 X dX5_part_42 rfl ?_
    refine V_aload_n 1 X dX5_part_44 rfl rfl ?_
    refine V_getI 3 X dX5_part_45 co5 hh (by decide) rfl wfX5_27 ?_
    refine V_icmp_ge (tgt := 84) X dX5_part_48 (by decide) ?_ ?_
    · refine V_sub [1, 2, 3, 4, 5] rfl ?_
      exact bX5_part_84 X E hr hZ N h hh rc26 hc26 v1 v2 v3 v4 s6
    · refine V_aload_n 1 X dX5_part_51 rfl rfl ?_
      refine V_iload 5 X dX5_part_52 rfl ?_
      refine V_iload_n 2 X dX5_part_54 rfl rfl ?_
      refine V_callI [.int v4, .int v1] [] X E dX5_part_55 (kX5_isSwing x.2.1 z hZ N h hh v4 v1 s6) co5 hh gcX5_43 hyX5_isSwing rfl ⟨by decide, by decide⟩ rfl (Nat.le_of_ble_eq_true rfl) (fun r8 s9 => ?_)
      refine V_if_eq (tgt := 84) X dX5_part_58 (by decide) ?_ ?_
      · refine V_sub [1, 2, 3, 4, 5] rfl ?_
        exact bX5_part_84 X E hr hZ N h hh rc26 hc26 v1 v2 v3 v4 s9
      · refine V_iload_n 4 X dX5_part_61 rfl rfl ?_
        refine V_gets X E (fun _ h9 => exF h9) wgX5_47 dX5_part_62 ?_
        refine V_iload 0 X dX5_part_65 rfl ?_
        refine V_tald X E (fun _ h9 => exF h9) dX5_part_67 ?_
        refine V_gets X E (fun _ h9 => exF h9) wgX5_47 dX5_part_68 ?_
        refine V_aload_n 1 X dX5_part_71 rfl rfl ?_
        refine V_getI 3 X dX5_part_72 co5 hh (by decide) rfl wfX5_27 ?_
        refine V_iconst (v := 1) X dX5_part_75 (by decide) ?_
        refine V_isub X dX5_part_76 ?_
        refine V_iload 0 X dX5_part_77 rfl ?_
        refine V_isub X dX5_part_79 ?_
        refine V_tald X E (fun _ h9 => exF h9) dX5_part_80 ?_
        refine V_imul X dX5_part_81 ?_
        refine V_iadd X dX5_part_82 ?_
        refine V_istore_nG (L' := fun v3_10 => [(3, .int v3_10), (5, .int v5_7), (0, .ref (z.2.2.1 h)), (1, .int v1), (2, .int v2), (4, .int v4)]) X dX5_part_83 rfl (by decide) (fun _ => rfl) (fun v3_10 => ?_)
        refine V_sub [2, 3, 4, 0, 5] rfl ?_
        exact bX5_part_84 X E hr hZ N h hh rc26 hc26 v1 v2 v3_10 v4 s9
def fX5_part_l26 (N : Nat) (h : Nat) : Nat → Int32 → Int32 → Int32 → Int32 → Mem → Option (Int32 × Mem)
  | 0 => fun _ _ _ _ _ => none
  | n + 1 => fX5_part_b26 N h (fX5_part_l26 N h n)
theorem lX5_part_26 {x : Cx} {z : Sx} (X : XG x z RX5 cX5_part 6 2 44) (E : XE x z) (hr : XR x (some .int)) (hZ : z.2.2.2.1 = kdC) (N : Nat) (h : Nat) (hh : z.2.2.2.1 h = (5, 0)) (n : Nat) (v1 : Int32) (v2 : Int32) (v3 : Int32) (v4 : Int32) (σ : Mem) : VK x z 6 (BQ QI x z) 26 [(0, .ref (z.2.2.1 h)), (1, .int v1), (2, .int v2), (3, .int v3), (4, .int v4)] [] σ (fX5_part_l26 N h n v1 v2 v3 v4 σ) := by
  induction n generalizing v1 v2 v3 v4 σ with
  | zero => exact V_none
  | succ n ih => exact bX5_part_26 X E hr hZ N h hh (fX5_part_l26 N h n) ih v1 v2 v3 v4 σ
def fX5_part (N : Nat) (h : Nat) (v1 : Int32) (v2 : Int32) (σ : Mem) : Option (Int32 × Mem) :=
  if (σ.1 h 3) < 1 then some ((-1), σ) else if (σ.1 h 3) < 9 then lt_ 0 (fun v3_1 => lt_ 0 (fun v4_2 => fX5_part_l26 N h N v1 v2 v3_1 v4_2 σ)) else some ((-1), σ)
set_option maxRecDepth 100000 in
set_option maxHeartbeats 4000000 in
theorem bX5_part_0 {x : Cx} {z : Sx} (X : XG x z RX5 cX5_part 6 2 44) (E : XE x z) (hr : XR x (some .int)) (hZ : z.2.2.2.1 = kdC) (N : Nat) (h : Nat) (hh : z.2.2.2.1 h = (5, 0)) (v1 : Int32) (v2 : Int32) (σ : Mem) : VK x z 6 (BQ QI x z) 0 [(0, .ref (z.2.2.1 h)), (1, .int v1), (2, .int v2)] [] σ (fX5_part N h v1 v2 σ) := by
  unfold fX5_part
  refine V_aload_n 0 X dX5_part_0 rfl rfl ?_
  refine V_getI 3 X dX5_part_1 co5 hh (by decide) rfl wfX5_27 ?_
  refine V_iconst (v := 1) X dX5_part_4 (by decide) ?_
  refine V_icmp_lt (tgt := 19) X dX5_part_5 (by decide) ?_ ?_
  · refine V_iconst (v := -1) X dX5_part_19 (by decide) ?_
    exact V_iret X E hr dX5_part_20
  · refine V_aload_n 0 X dX5_part_8 rfl rfl ?_
    refine V_getI 3 X dX5_part_9 co5 hh (by decide) rfl wfX5_27 ?_
    refine V_gets X E (fun _ h9 => exF h9) wgX5_47 dX5_part_12 ?_
    refine V_tlen (v := 9) X E (fun _ h9 => exF h9) dX5_part_15 (by decide) ?_
    refine V_icmp_lt (tgt := 21) X dX5_part_16 (by decide) ?_ ?_
    · refine V_iconst (v := 0) X dX5_part_21 (by decide) ?_
      refine V_istore_nG (L' := fun v3_1 => [(3, .int v3_1), (0, .ref (z.2.2.1 h)), (1, .int v1), (2, .int v2)]) X dX5_part_22 rfl (by decide) (fun _ => rfl) (fun v3_1 => ?_)
      refine V_iconst (v := 0) X dX5_part_23 (by decide) ?_
      refine V_istoreG (L' := fun v4_2 => [(4, .int v4_2), (3, .int v3_1), (0, .ref (z.2.2.1 h)), (1, .int v1), (2, .int v2)]) X dX5_part_24 (by decide) (fun _ => rfl) (fun v4_2 => ?_)
      refine V_sub [2, 3, 4, 1, 0] rfl ?_
      exact lX5_part_26 X E hr hZ N h hh N v1 v2 v3_1 v4_2 σ
    · refine V_iconst (v := -1) X dX5_part_19 (by decide) ?_
      exact V_iret X E hr dX5_part_20
theorem kX5_part (l : Launch) (z : Sx) (hZ : z.2.2.2.1 = kdC) (N : Nat) (h : Nat) (hh : z.2.2.2.1 h = (5, 0)) (v1 : Int32) (v2 : Int32) (σ : Mem) : Ct QI yX5_part cX5_part 6 (some .int) 2 44 l z [.ref (z.2.2.1 h), .int v1, .int v2] σ (fX5_part N h v1 v2 σ) := by
  refine Ct_of (by decide +kernel) (Nat.le_of_ble_eq_true rfl) rfl ?_
  intro x _ X E hr
  exact bX5_part_0 X E hr hZ N h hh v1 v2 σ
def fX11_power_b95 (N : Nat) (h : Nat) (v2 : Int32) (v3 : Nat) (σ : Mem) : Option (Int32 × Mem) :=
  if v2 < 30 then some ((-1), σ) else if (30 + (σ.1 v3 0)) ≤ v2 then some ((-1), σ) else bd (fX5_part N (h + 266) (v2 - 30) 1 σ) (fun r10 s11 => some (r10, s11))
set_option maxRecDepth 100000 in
set_option maxHeartbeats 4000000 in
theorem bX11_power_95 {x : Cx} {z : Sx} (X : XG x z RX11 cX11_power 4 4 91) (E : XE x z) (hr : XR x (some .int)) (hZ : z.2.2.2.1 = kdC) (N : Nat) (h : Nat) (hh : z.2.2.2.1 h = (11, 0)) (v2 : Int32) (v3 : Nat) (hk3 : z.2.2.2.1 v3 = (0, 0)) (σ : Mem) : VK x z 4 (BQ QI x z) 95 [(0, .ref (z.2.2.1 h)), (2, .int v2), (3, .ref (z.2.2.1 v3))] [] σ (fX11_power_b95 N h v2 v3 σ) := by
  unfold fX11_power_b95
  refine V_iload_n 1 X dX11_power_95 rfl rfl ?_
  refine V_bipush (v := 30) X dX11_power_96 (by decide) ?_
  refine V_icmp_lt (tgt := 125) X dX11_power_98 (by decide) ?_ ?_
  · refine V_iconst (v := -1) X dX11_power_125 (by decide) ?_
    exact V_iret X E hr dX11_power_126
  · refine V_iload_n 1 X dX11_power_101 rfl rfl ?_
    refine V_bipush (v := 30) X dX11_power_102 (by decide) ?_
    refine V_aload_n 2 X dX11_power_104 rfl rfl ?_
    refine V_getI 0 X dX11_power_105 co0 hk3 (by decide) rfl wfX11_132 ?_
    refine V_iadd X dX11_power_108 ?_
    refine V_icmp_ge (tgt := 125) X dX11_power_109 (by decide) ?_ ?_
    · refine V_iconst (v := -1) X dX11_power_125 (by decide) ?_
      exact V_iret X E hr dX11_power_126
    · refine V_aload_n 0 X dX11_power_112 rfl rfl ?_
      refine V_getR (k1 := (h + 266)) 9 X dX11_power_113 co11 hh (by decide) rfl rfl wfX11_69 ?_
      refine V_iload_n 1 X dX11_power_116 rfl rfl ?_
      refine V_bipush (v := 30) X dX11_power_117 (by decide) ?_
      refine V_isub X dX11_power_119 ?_
      refine V_iconst (v := 1) X dX11_power_120 (by decide) ?_
      refine V_callI [.int (v2 - 30), .int 1] [] X E dX11_power_121 (kX5_part x.2.1 z hZ N (h + 266) (kt11_9 hZ hh) (v2 - 30) 1 σ) co5 (kt11_9 hZ hh) gcX11_205 hyX5_part rfl ⟨by decide, by decide⟩ rfl (Nat.le_of_ble_eq_true rfl) (fun r10 s11 => ?_)
      exact V_iret X E hr dX11_power_124
def fX11_power_b65 (N : Nat) (h : Nat) (v2 : Int32) (v3 : Nat) (σ : Mem) : Option (Int32 × Mem) :=
  if v2 < 20 then fX11_power_b95 N h v2 v3 σ else if (20 + (σ.1 v3 0)) ≤ v2 then fX11_power_b95 N h v2 v3 σ else bd (fX5_part N (h + 266) (v2 - 20) 0 σ) (fun r8 s9 => some (r8, s9))
set_option maxRecDepth 100000 in
set_option maxHeartbeats 4000000 in
theorem bX11_power_65 {x : Cx} {z : Sx} (X : XG x z RX11 cX11_power 4 4 91) (E : XE x z) (hr : XR x (some .int)) (hZ : z.2.2.2.1 = kdC) (N : Nat) (h : Nat) (hh : z.2.2.2.1 h = (11, 0)) (v2 : Int32) (v3 : Nat) (hk3 : z.2.2.2.1 v3 = (0, 0)) (σ : Mem) : VK x z 4 (BQ QI x z) 65 [(0, .ref (z.2.2.1 h)), (2, .int v2), (3, .ref (z.2.2.1 v3))] [] σ (fX11_power_b65 N h v2 v3 σ) := by
  unfold fX11_power_b65
  refine V_iload_n 1 X dX11_power_65 rfl rfl ?_
  refine V_bipush (v := 20) X dX11_power_66 (by decide) ?_
  refine V_icmp_lt (tgt := 95) X dX11_power_68 (by decide) ?_ ?_
  · refine V_sub [0, 1, 2] rfl ?_
    exact bX11_power_95 X E hr hZ N h hh v2 v3 hk3 σ
  · refine V_iload_n 1 X dX11_power_71 rfl rfl ?_
    refine V_bipush (v := 20) X dX11_power_72 (by decide) ?_
    refine V_aload_n 2 X dX11_power_74 rfl rfl ?_
    refine V_getI 0 X dX11_power_75 co0 hk3 (by decide) rfl wfX11_132 ?_
    refine V_iadd X dX11_power_78 ?_
    refine V_icmp_ge (tgt := 95) X dX11_power_79 (by decide) ?_ ?_
    · refine V_sub [0, 1, 2] rfl ?_
      exact bX11_power_95 X E hr hZ N h hh v2 v3 hk3 σ
    · refine V_aload_n 0 X dX11_power_82 rfl rfl ?_
      refine V_getR (k1 := (h + 266)) 9 X dX11_power_83 co11 hh (by decide) rfl rfl wfX11_69 ?_
      refine V_iload_n 1 X dX11_power_86 rfl rfl ?_
      refine V_bipush (v := 20) X dX11_power_87 (by decide) ?_
      refine V_isub X dX11_power_89 ?_
      refine V_iconst (v := 0) X dX11_power_90 (by decide) ?_
      refine V_callI [.int (v2 - 20), .int 0] [] X E dX11_power_91 (kX5_part x.2.1 z hZ N (h + 266) (kt11_9 hZ hh) (v2 - 20) 0 σ) co5 (kt11_9 hZ hh) gcX11_205 hyX5_part rfl ⟨by decide, by decide⟩ rfl (Nat.le_of_ble_eq_true rfl) (fun r8 s9 => ?_)
      exact V_iret X E hr dX11_power_94
def fX11_power (N : Nat) (h : Nat) (v1 : Int32) (v2 : Int32) (σ : Mem) : Option (Int32 × Mem) :=
  bd (fX9_chamberAt N (h + 1) v1 σ) (fun or1 s2 => mqK (0, 0) or1 (some ((-1), s2)) (fun r1 => bd (fX5_hear N (h + 266) r1 s2) (fun r4 s5 => if v2 = 0 then bd (fX5_leastSet N (h + 266) s5) (fun r6 s7 => some (r6, s7)) else if v2 < 10 then fX11_power_b65 N h v2 r1 s5 else if (10 + (s5.1 r1 0)) ≤ v2 then fX11_power_b65 N h v2 r1 s5 else gd (inb (v2 - 10) 8) (some ((s5.1 ((h + 266) + 1) (v2 - 10).toNatClampNeg), s5)))))
set_option maxRecDepth 100000 in
set_option maxHeartbeats 4000000 in
theorem bX11_power_0 {x : Cx} {z : Sx} (X : XG x z RX11 cX11_power 4 4 91) (E : XE x z) (hr : XR x (some .int)) (hZ : z.2.2.2.1 = kdC) (N : Nat) (h : Nat) (hh : z.2.2.2.1 h = (11, 0)) (v1 : Int32) (v2 : Int32) (σ : Mem) : VK x z 4 (BQ QI x z) 0 [(0, .ref (z.2.2.1 h)), (1, .int v1), (2, .int v2)] [] σ (fX11_power N h v1 v2 σ) := by
  unfold fX11_power
  refine V_aload_n 0 X dX11_power_0 rfl rfl ?_
  refine V_getR (k1 := (h + 1)) 0 X dX11_power_1 co11 hh (by decide) rfl rfl wfX11_10 ?_
  refine V_iload_n 1 X dX11_power_4 rfl rfl ?_
  refine V_callQC (K := (0, 0)) [.int v1] [] X E hZ dX11_power_5 (kX9_chamberAt x.2.1 z hZ N (h + 1) (kt11_0 hZ hh) v1 σ) co9 (kt11_0 hZ hh) gcX11_105 hyX9_chamberAt rfl ⟨by decide, by decide⟩ rfl (Nat.le_of_ble_eq_true rfl) (fun s2 => ?_) (fun r1 s2 hb3 => ?_)
  · refine V_astore_nN (L' := [(3, .null), (0, .ref (z.2.2.1 h)), (1, .int v1), (2, .int v2)]) X dX11_power_8 rfl (by decide) rfl ?_
    refine V_aload_nN 0 X dX11_power_9 rfl rfl ?_
    refine V_ifnonnullN X dX11_power_10 ?_
    refine V_iconst (v := -1) X dX11_power_13 (by decide) ?_
    exact V_iret X E hr dX11_power_14
  · refine V_astore_n (L' := [(3, .ref (z.2.2.1 r1)), (0, .ref (z.2.2.1 h)), (1, .int v1), (2, .int v2)]) X dX11_power_8 rfl (by decide) rfl ?_
    refine V_aload_n 0 X dX11_power_9 rfl rfl ?_
    refine V_ifnonnull (tgt := 15) X dX11_power_10 (by decide) ?_
    refine V_aload_n 1 X dX11_power_15 rfl rfl ?_
    refine V_getR (k1 := (h + 266)) 9 X dX11_power_16 co11 hh (by decide) rfl rfl wfX11_69 ?_
    refine V_aload_n 0 X dX11_power_19 rfl rfl ?_
    refine V_callV [.ref (z.2.2.1 r1)] [] X E dX11_power_20 (kX5_hear x.2.1 z hZ N (h + 266) (kt11_9 hZ hh) r1 hb3 s2) co5 (kt11_9 hZ hh) gcX11_195 hyX5_hear rfl ⟨by decide, by decide⟩ rfl (Nat.le_of_ble_eq_true rfl) (fun r4 s5 => ?_)
    refine V_iload_n 3 X dX11_power_23 rfl rfl ?_
    refine V_if_ne (tgt := 35) X dX11_power_24 (by decide) ?_ ?_
    · refine V_iload_n 3 X dX11_power_35 rfl rfl ?_
      refine V_bipush (v := 10) X dX11_power_36 (by decide) ?_
      refine V_icmp_lt (tgt := 65) X dX11_power_38 (by decide) ?_ ?_
      · refine V_sub [1, 3, 0] rfl ?_
        exact bX11_power_65 X E hr hZ N h hh v2 r1 hb3 s5
      · refine V_iload_n 3 X dX11_power_41 rfl rfl ?_
        refine V_bipush (v := 10) X dX11_power_42 (by decide) ?_
        refine V_aload_n 0 X dX11_power_44 rfl rfl ?_
        refine V_getI 0 X dX11_power_45 co0 hb3 (by decide) rfl wfX11_132 ?_
        refine V_iadd X dX11_power_48 ?_
        refine V_icmp_ge (tgt := 65) X dX11_power_49 (by decide) ?_ ?_
        · refine V_sub [1, 3, 0] rfl ?_
          exact bX11_power_65 X E hr hZ N h hh v2 r1 hb3 s5
        · refine V_aload_n 1 X dX11_power_52 rfl rfl ?_
          refine V_getR (k1 := (h + 266)) 9 X dX11_power_53 co11 hh (by decide) rfl rfl wfX11_69 ?_
          refine V_getR (k1 := ((h + 266) + 1)) 0 X dX11_power_56 co5 (kt11_9 hZ hh) (by decide) rfl rfl wfX11_202 ?_
          refine V_iload_n 3 X dX11_power_59 rfl rfl ?_
          refine V_bipush (v := 10) X dX11_power_60 (by decide) ?_
          refine V_isub X dX11_power_62 ?_
          refine V_iald X dX11_power_63 (kt5_0 hZ (kt11_9 hZ hh)) ?_
          exact V_iret X E hr dX11_power_64
    · refine V_aload_n 1 X dX11_power_27 rfl rfl ?_
      refine V_getR (k1 := (h + 266)) 9 X dX11_power_28 co11 hh (by decide) rfl rfl wfX11_69 ?_
      refine V_callI [] [] X E dX11_power_31 (kX5_leastSet x.2.1 z hZ N (h + 266) (kt11_9 hZ hh) s5) co5 (kt11_9 hZ hh) gcX11_198 hyX5_leastSet rfl ⟨by decide, by decide⟩ rfl (Nat.le_of_ble_eq_true rfl) (fun r6 s7 => ?_)
      exact V_iret X E hr dX11_power_34
theorem kX11_power (l : Launch) (z : Sx) (hZ : z.2.2.2.1 = kdC) (N : Nat) (h : Nat) (hh : z.2.2.2.1 h = (11, 0)) (v1 : Int32) (v2 : Int32) (σ : Mem) : Ct QI yX11_power cX11_power 4 (some .int) 4 91 l z [.ref (z.2.2.1 h), .int v1, .int v2] σ (fX11_power N h v1 v2 σ) := by
  refine Ct_of (by decide +kernel) (Nat.le_of_ble_eq_true rfl) rfl ?_
  intro x _ X E hr
  exact bX11_power_0 X E hr hZ N h hh v1 v2 σ
def fX11_agenda_b150 (N : Nat) (h : Nat) (rc48 : Int32 → Int32 → Int32 → Int32 → Nat → Int32 → Int32 → Int32 → Mem → Option (Int32 × Mem)) (v2 : Int32) (v3 : Int32) (v4 : Int32) (v5 : Int32) (v6 : Nat) (v7 : Int32) (v8 : Int32) (v9 : Int32) (σ : Mem) : Option (Int32 × Mem) :=
  lt_ (v9 + 1) (fun v9_27 => rc48 v2 v3 v4 v5 v6 v7 v8 v9_27 σ)
set_option maxRecDepth 100000 in
set_option maxHeartbeats 4000000 in
theorem bX11_agenda_150 {x : Cx} {z : Sx} (X : XG x z RX11 cX11_agenda 14 6 141) (E : XE x z) (hr : XR x (some .int)) (hZ : z.2.2.2.1 = kdC) (N : Nat) (h : Nat) (hh : z.2.2.2.1 h = (11, 0)) (rc48 : Int32 → Int32 → Int32 → Int32 → Nat → Int32 → Int32 → Int32 → Mem → Option (Int32 × Mem)) (hc48 : ∀ (v2 : Int32) (v3 : Int32) (v4 : Int32) (v5 : Int32) (v6 : Nat) (v7 : Int32) (v8 : Int32) (v9 : Int32) (hk6 : z.2.2.2.1 v6 = (0, 0)) (σ : Mem), VK x z 14 (BQ QI x z) 48 [(0, .ref (z.2.2.1 h)), (2, .int v2), (3, .int v3), (4, .int v4), (5, .int v5), (6, .ref (z.2.2.1 v6)), (7, .int v7), (8, .int v8), (9, .int v9)] [] σ (rc48 v2 v3 v4 v5 v6 v7 v8 v9 σ)) (v2 : Int32) (v3 : Int32) (v4 : Int32) (v5 : Int32) (v6 : Nat) (v7 : Int32) (v8 : Int32) (v9 : Int32) (hk6 : z.2.2.2.1 v6 = (0, 0)) (σ : Mem) : VK x z 14 (BQ QI x z) 150 [(0, .ref (z.2.2.1 h)), (2, .int v2), (3, .int v3), (4, .int v4), (5, .int v5), (6, .ref (z.2.2.1 v6)), (7, .int v7), (8, .int v8), (9, .int v9)] [] σ (fX11_agenda_b150 N h rc48 v2 v3 v4 v5 v6 v7 v8 v9 σ) := by
  unfold fX11_agenda_b150
  refine V_iincG (L' := fun v9_27 => [(9, .int v9_27), (0, .ref (z.2.2.1 h)), (2, .int v2), (3, .int v3), (4, .int v4), (5, .int v5), (6, .ref (z.2.2.1 v6)), (7, .int v7), (8, .int v8)]) 8 X dX11_agenda_150 rfl rfl (by decide) (fun _ => rfl) (fun v9_27 => ?_)
  refine V_goto (tgt := 48) X dX11_agenda_153 (by decide) ?_
  refine V_sub [1, 2, 3, 4, 5, 6, 7, 8, 0] rfl ?_
  exact hc48 v2 v3 v4 v5 v6 v7 v8 v9_27 hk6 σ
def fX11_agenda_b48 (N : Nat) (h : Nat) (rc48 : Int32 → Int32 → Int32 → Int32 → Nat → Int32 → Int32 → Int32 → Mem → Option (Int32 × Mem)) (v2 : Int32) (v3 : Int32) (v4 : Int32) (v5 : Int32) (v6 : Nat) (v7 : Int32) (v8 : Int32) (v9 : Int32) (σ : Mem) : Option (Int32 × Mem) :=
  if 6 ≤ v9 then if v5 = 0 then some (v7, σ) else some (v8, σ) else gd (inb v9 6) (bd (fX11_pick N ((ordT.getD v9.toNatClampNeg 0) / 100) v2 v3 v4 σ) (fun r13 s14 => lt_ r13 (fun v10_15 => gd (inb v9 6) (bd (fX11_pick N (rmI ((ordT.getD v9.toNatClampNeg 0) / 10) 10) v2 v3 v4 s14) (fun r16 s17 => lt_ r16 (fun v11_18 => gd (inb v9 6) (bd (fX11_pick N (rmI (ordT.getD v9.toNatClampNeg 0) 10) v2 v3 v4 s17) (fun r19 s20 => lt_ r19 (fun v12_21 => bd (fX1_putThree N (h + 205) v6 v10_15 v11_18 v12_21 s20) (fun r22 s23 => lt_ r22 (fun v13_24 => if v13_24 ≤ v7 then fX11_agenda_b150 N h rc48 v2 v3 v4 v5 v6 v7 v8 v9 s23 else lt_ v13_24 (fun v7_25 => gd (inb v9 6) (lt_ (ordT.getD v9.toNatClampNeg 0) (fun v8_26 => fX11_agenda_b150 N h rc48 v2 v3 v4 v5 v6 v7_25 v8_26 v9 s23))))))))))))))
set_option maxRecDepth 100000 in
set_option maxHeartbeats 4000000 in
theorem bX11_agenda_48 {x : Cx} {z : Sx} (X : XG x z RX11 cX11_agenda 14 6 141) (E : XE x z) (hr : XR x (some .int)) (hZ : z.2.2.2.1 = kdC) (N : Nat) (h : Nat) (hh : z.2.2.2.1 h = (11, 0)) (rc48 : Int32 → Int32 → Int32 → Int32 → Nat → Int32 → Int32 → Int32 → Mem → Option (Int32 × Mem)) (hc48 : ∀ (v2 : Int32) (v3 : Int32) (v4 : Int32) (v5 : Int32) (v6 : Nat) (v7 : Int32) (v8 : Int32) (v9 : Int32) (hk6 : z.2.2.2.1 v6 = (0, 0)) (σ : Mem), VK x z 14 (BQ QI x z) 48 [(0, .ref (z.2.2.1 h)), (2, .int v2), (3, .int v3), (4, .int v4), (5, .int v5), (6, .ref (z.2.2.1 v6)), (7, .int v7), (8, .int v8), (9, .int v9)] [] σ (rc48 v2 v3 v4 v5 v6 v7 v8 v9 σ)) (v2 : Int32) (v3 : Int32) (v4 : Int32) (v5 : Int32) (v6 : Nat) (v7 : Int32) (v8 : Int32) (v9 : Int32) (hk6 : z.2.2.2.1 v6 = (0, 0)) (σ : Mem) : VK x z 14 (BQ QI x z) 48 [(0, .ref (z.2.2.1 h)), (2, .int v2), (3, .int v3), (4, .int v4), (5, .int v5), (6, .ref (z.2.2.1 v6)), (7, .int v7), (8, .int v8), (9, .int v9)] [] σ (fX11_agenda_b48 N h rc48 v2 v3 v4 v5 v6 v7 v8 v9 σ) := by
  unfold fX11_agenda_b48
  refine V_iload 8 X dX11_agenda_48 rfl ?_
  refine V_gets X E (fun _ h9 => exO h9) wgX11_284 dX11_agenda_50 ?_
  refine V_tlen (v := 6) X E (fun _ h9 => exO h9) dX11_agenda_53 (by decide) ?_
  refine V_icmp_ge (tgt := 156) X dX11_agenda_54 (by decide) ?_ ?_
  · refine V_iload 4 X dX11_agenda_156 rfl ?_
    refine V_if_eq (tgt := 166) X dX11_agenda_158 (by decide) ?_ ?_
    · refine V_iload 6 X dX11_agenda_166 rfl ?_
      exact V_iret X E hr dX11_agenda_168
    · refine V_iload 7 X dX11_agenda_161 rfl ?_
      refine V_goto (tgt := 168) X dX11_agenda_163 (by decide) ?_
      exact V_iret X E hr dX11_agenda_168
  · refine V_gets X E (fun _ h9 => exO h9) wgX11_284 dX11_agenda_57 ?_
    refine V_iload 8 X dX11_agenda_60 rfl ?_
    refine V_tald X E (fun _ h9 => exO h9) dX11_agenda_62 ?_
    refine V_bipush (v := 100) X dX11_agenda_63 (by decide) ?_
    refine V_idivK X dX11_agenda_65 (by decide) ?_
    refine V_iload_n 1 X dX11_agenda_66 rfl rfl ?_
    refine V_iload_n 2 X dX11_agenda_67 rfl rfl ?_
    refine V_iload 3 X dX11_agenda_68 rfl ?_
    refine V_calSI [.int ((ordT.getD v9.toNatClampNeg 0) / 100), .int v2, .int v3, .int v4] [] X E dX11_agenda_70 (kX11_pick x.2.1 z hZ N ((ordT.getD v9.toNatClampNeg 0) / 100) v2 v3 v4 σ) gcX11_287 hyX11_pick rfl ⟨by decide, by decide⟩ rfl (Nat.le_of_ble_eq_true rfl) (fun r13 s14 => ?_)
    refine V_istoreG (L' := fun v10_15 => [(10, .int v10_15), (0, .ref (z.2.2.1 h)), (2, .int v2), (3, .int v3), (4, .int v4), (5, .int v5), (6, .ref (z.2.2.1 v6)), (7, .int v7), (8, .int v8), (9, .int v9)]) X dX11_agenda_73 (by decide) (fun _ => rfl) (fun v10_15 => ?_)
    refine V_gets X E (fun _ h9 => exO h9) wgX11_284 dX11_agenda_75 ?_
    refine V_iload 9 X dX11_agenda_78 rfl ?_
    refine V_tald X E (fun _ h9 => exO h9) dX11_agenda_80 ?_
    refine V_bipush (v := 10) X dX11_agenda_81 (by decide) ?_
    refine V_idivK X dX11_agenda_83 (by decide) ?_
    refine V_bipush (v := 10) X dX11_agenda_84 (by decide) ?_
    refine V_iremKG X dX11_agenda_86 (by decide) ?_
    refine V_iload_n 2 X dX11_agenda_87 rfl rfl ?_
    refine V_iload_n 3 X dX11_agenda_88 rfl rfl ?_
    refine V_iload 4 X dX11_agenda_89 rfl ?_
    refine V_calSI [.int (rmI ((ordT.getD v9.toNatClampNeg 0) / 10) 10), .int v2, .int v3, .int v4] [] X E dX11_agenda_91 (kX11_pick x.2.1 z hZ N (rmI ((ordT.getD v9.toNatClampNeg 0) / 10) 10) v2 v3 v4 s14) gcX11_287 hyX11_pick rfl ⟨by decide, by decide⟩ rfl (Nat.le_of_ble_eq_true rfl) (fun r16 s17 => ?_)
    refine V_istoreG (L' := fun v11_18 => [(11, .int v11_18), (10, .int v10_15), (0, .ref (z.2.2.1 h)), (2, .int v2), (3, .int v3), (4, .int v4), (5, .int v5), (6, .ref (z.2.2.1 v6)), (7, .int v7), (8, .int v8), (9, .int v9)]) X dX11_agenda_94 (by decide) (fun _ => rfl) (fun v11_18 => ?_)
    refine V_gets X E (fun _ h9 => exO h9) wgX11_284 dX11_agenda_96 ?_
    refine V_iload 10 X dX11_agenda_99 rfl ?_
    refine V_tald X E (fun _ h9 => exO h9) dX11_agenda_101 ?_
    refine V_bipush (v := 10) X dX11_agenda_102 (by decide) ?_
    refine V_iremKG X dX11_agenda_104 (by decide) ?_
    refine V_iload_n 3 X dX11_agenda_105 rfl rfl ?_
    refine V_iload_n 4 X dX11_agenda_106 rfl rfl ?_
    refine V_iload 5 X dX11_agenda_107 rfl ?_
    refine V_calSI [.int (rmI (ordT.getD v9.toNatClampNeg 0) 10), .int v2, .int v3, .int v4] [] X E dX11_agenda_109 (kX11_pick x.2.1 z hZ N (rmI (ordT.getD v9.toNatClampNeg 0) 10) v2 v3 v4 s17) gcX11_287 hyX11_pick rfl ⟨by decide, by decide⟩ rfl (Nat.le_of_ble_eq_true rfl) (fun r19 s20 => ?_)
    refine V_istoreG (L' := fun v12_21 => [(12, .int v12_21), (11, .int v11_18), (10, .int v10_15), (0, .ref (z.2.2.1 h)), (2, .int v2), (3, .int v3), (4, .int v4), (5, .int v5), (6, .ref (z.2.2.1 v6)), (7, .int v7), (8, .int v8), (9, .int v9)]) X dX11_agenda_112 (by decide) (fun _ => rfl) (fun v12_21 => ?_)
    refine V_aload_n 3 X dX11_agenda_114 rfl rfl ?_
    refine V_getR (k1 := (h + 205)) 5 X dX11_agenda_115 co11 hh (by decide) rfl rfl wfX11_41 ?_
    refine V_aload 8 X dX11_agenda_118 rfl ?_
    refine V_iload 2 X dX11_agenda_120 rfl ?_
    refine V_iload 1 X dX11_agenda_122 rfl ?_
    refine V_iload 0 X dX11_agenda_124 rfl ?_
    refine V_callI [.ref (z.2.2.1 v6), .int v10_15, .int v11_18, .int v12_21] [] X E dX11_agenda_126 (kX1_putThree x.2.1 z hZ N (h + 205) (kt11_5 hZ hh) v6 v10_15 v11_18 v12_21 hk6 s20) co1 (kt11_5 hZ hh) gcX11_291 hyX1_putThree rfl ⟨by decide, by decide⟩ rfl (Nat.le_of_ble_eq_true rfl) (fun r22 s23 => ?_)
    refine V_istoreG (L' := fun v13_24 => [(13, .int v13_24), (12, .int v12_21), (11, .int v11_18), (10, .int v10_15), (0, .ref (z.2.2.1 h)), (2, .int v2), (3, .int v3), (4, .int v4), (5, .int v5), (6, .ref (z.2.2.1 v6)), (7, .int v7), (8, .int v8), (9, .int v9)]) X dX11_agenda_129 (by decide) (fun _ => rfl) (fun v13_24 => ?_)
    refine V_iload 0 X dX11_agenda_131 rfl ?_
    refine V_iload 10 X dX11_agenda_133 rfl ?_
    refine V_icmp_le (tgt := 150) X dX11_agenda_135 (by decide) ?_ ?_
    · refine V_sub [4, 5, 6, 7, 8, 9, 10, 11, 12] rfl ?_
      exact bX11_agenda_150 X E hr hZ N h hh rc48 hc48 v2 v3 v4 v5 v6 v7 v8 v9 hk6 s23
    · refine V_iload 0 X dX11_agenda_138 rfl ?_
      refine V_istoreG (L' := fun v7_25 => [(7, .int v7_25), (13, .int v13_24), (12, .int v12_21), (11, .int v11_18), (10, .int v10_15), (0, .ref (z.2.2.1 h)), (2, .int v2), (3, .int v3), (4, .int v4), (5, .int v5), (6, .ref (z.2.2.1 v6)), (8, .int v8), (9, .int v9)]) X dX11_agenda_140 (by decide) (fun _ => rfl) (fun v7_25 => ?_)
      refine V_gets X E (fun _ h9 => exO h9) wgX11_284 dX11_agenda_142 ?_
      refine V_iload 12 X dX11_agenda_145 rfl ?_
      refine V_tald X E (fun _ h9 => exO h9) dX11_agenda_147 ?_
      refine V_istoreG (L' := fun v8_26 => [(8, .int v8_26), (7, .int v7_25), (13, .int v13_24), (12, .int v12_21), (11, .int v11_18), (10, .int v10_15), (0, .ref (z.2.2.1 h)), (2, .int v2), (3, .int v3), (4, .int v4), (5, .int v5), (6, .ref (z.2.2.1 v6)), (9, .int v9)]) X dX11_agenda_148 (by decide) (fun _ => rfl) (fun v8_26 => ?_)
      refine V_sub [6, 7, 8, 9, 10, 11, 1, 0, 12] rfl ?_
      exact bX11_agenda_150 X E hr hZ N h hh rc48 hc48 v2 v3 v4 v5 v6 v7_25 v8_26 v9 hk6 s23
def fX11_agenda_l48 (N : Nat) (h : Nat) : Nat → Int32 → Int32 → Int32 → Int32 → Nat → Int32 → Int32 → Int32 → Mem → Option (Int32 × Mem)
  | 0 => fun _ _ _ _ _ _ _ _ _ => none
  | n + 1 => fX11_agenda_b48 N h (fX11_agenda_l48 N h n)
theorem lX11_agenda_48 {x : Cx} {z : Sx} (X : XG x z RX11 cX11_agenda 14 6 141) (E : XE x z) (hr : XR x (some .int)) (hZ : z.2.2.2.1 = kdC) (N : Nat) (h : Nat) (hh : z.2.2.2.1 h = (11, 0)) (n : Nat) (v2 : Int32) (v3 : Int32) (v4 : Int32) (v5 : Int32) (v6 : Nat) (v7 : Int32) (v8 : Int32) (v9 : Int32) (hk6 : z.2.2.2.1 v6 = (0, 0)) (σ : Mem) : VK x z 14 (BQ QI x z) 48 [(0, .ref (z.2.2.1 h)), (2, .int v2), (3, .int v3), (4, .int v4), (5, .int v5), (6, .ref (z.2.2.1 v6)), (7, .int v7), (8, .int v8), (9, .int v9)] [] σ (fX11_agenda_l48 N h n v2 v3 v4 v5 v6 v7 v8 v9 σ) := by
  induction n generalizing v2 v3 v4 v5 v6 v7 v8 v9 hk6 σ with
  | zero => exact V_none
  | succ n ih => exact bX11_agenda_48 X E hr hZ N h hh (fX11_agenda_l48 N h n) ih v2 v3 v4 v5 v6 v7 v8 v9 hk6 σ
def fX11_agenda (N : Nat) (h : Nat) (v1 : Int32) (v2 : Int32) (v3 : Int32) (v4 : Int32) (v5 : Int32) (σ : Mem) : Option (Int32 × Mem) :=
  bd (fX9_chamberAt N (h + 1) v1 σ) (fun or1 s2 => mqK (0, 0) or1 (some ((-1), s2)) (fun r1 => bd (fX11_isMotion N v2 s2) (fun r4 s5 => if r4 = 0 then some ((-1), s5) else bd (fX11_isMotion N v3 s5) (fun r6 s7 => if r6 = 0 then some ((-1), s7) else bd (fX11_isMotion N v4 s7) (fun r8 s9 => if r8 = 0 then some ((-1), s9) else lt_ (-1) (fun v7_10 => lt_ (-1) (fun v8_11 => lt_ 0 (fun v9_12 => fX11_agenda_l48 N h N v2 v3 v4 v5 r1 v7_10 v8_11 v9_12 s9))))))))
set_option maxRecDepth 100000 in
set_option maxHeartbeats 4000000 in
theorem bX11_agenda_0 {x : Cx} {z : Sx} (X : XG x z RX11 cX11_agenda 14 6 141) (E : XE x z) (hr : XR x (some .int)) (hZ : z.2.2.2.1 = kdC) (N : Nat) (h : Nat) (hh : z.2.2.2.1 h = (11, 0)) (v1 : Int32) (v2 : Int32) (v3 : Int32) (v4 : Int32) (v5 : Int32) (σ : Mem) : VK x z 14 (BQ QI x z) 0 [(0, .ref (z.2.2.1 h)), (1, .int v1), (2, .int v2), (3, .int v3), (4, .int v4), (5, .int v5)] [] σ (fX11_agenda N h v1 v2 v3 v4 v5 σ) := by
  unfold fX11_agenda
  refine V_aload_n 0 X dX11_agenda_0 rfl rfl ?_
  refine V_getR (k1 := (h + 1)) 0 X dX11_agenda_1 co11 hh (by decide) rfl rfl wfX11_10 ?_
  refine V_iload_n 1 X dX11_agenda_4 rfl rfl ?_
  refine V_callQC (K := (0, 0)) [.int v1] [] X E hZ dX11_agenda_5 (kX9_chamberAt x.2.1 z hZ N (h + 1) (kt11_0 hZ hh) v1 σ) co9 (kt11_0 hZ hh) gcX11_105 hyX9_chamberAt rfl ⟨by decide, by decide⟩ rfl (Nat.le_of_ble_eq_true rfl) (fun s2 => ?_) (fun r1 s2 hb3 => ?_)
  · refine V_astoreN (L' := [(6, .null), (0, .ref (z.2.2.1 h)), (1, .int v1), (2, .int v2), (3, .int v3), (4, .int v4), (5, .int v5)]) X dX11_agenda_8 (by decide) rfl ?_
    refine V_aloadN 0 X dX11_agenda_10 rfl ?_
    refine V_ifnullN (tgt := 37) X dX11_agenda_12 (by decide) ?_
    refine V_iconst (v := -1) X dX11_agenda_37 (by decide) ?_
    exact V_iret X E hr dX11_agenda_38
  · refine V_astore (L' := [(6, .ref (z.2.2.1 r1)), (0, .ref (z.2.2.1 h)), (1, .int v1), (2, .int v2), (3, .int v3), (4, .int v4), (5, .int v5)]) X dX11_agenda_8 (by decide) rfl ?_
    refine V_aload 0 X dX11_agenda_10 rfl ?_
    refine V_ifnull X dX11_agenda_12 ?_
    refine V_iload_n 3 X dX11_agenda_15 rfl rfl ?_
    refine V_calSI [.int v2] [] X E dX11_agenda_16 (kX11_isMotion x.2.1 z hZ N v2 s2) gcX11_280 hyX11_isMotion rfl ⟨by decide, by decide⟩ rfl (Nat.le_of_ble_eq_true rfl) (fun r4 s5 => ?_)
    refine V_if_eq (tgt := 37) X dX11_agenda_19 (by decide) ?_ ?_
    · refine V_iconst (v := -1) X dX11_agenda_37 (by decide) ?_
      exact V_iret X E hr dX11_agenda_38
    · refine V_iload_n 4 X dX11_agenda_22 rfl rfl ?_
      refine V_calSI [.int v3] [] X E dX11_agenda_23 (kX11_isMotion x.2.1 z hZ N v3 s5) gcX11_280 hyX11_isMotion rfl ⟨by decide, by decide⟩ rfl (Nat.le_of_ble_eq_true rfl) (fun r6 s7 => ?_)
      refine V_if_eq (tgt := 37) X dX11_agenda_26 (by decide) ?_ ?_
      · refine V_iconst (v := -1) X dX11_agenda_37 (by decide) ?_
        exact V_iret X E hr dX11_agenda_38
      · refine V_iload 5 X dX11_agenda_29 rfl ?_
        refine V_calSI [.int v4] [] X E dX11_agenda_31 (kX11_isMotion x.2.1 z hZ N v4 s7) gcX11_280 hyX11_isMotion rfl ⟨by decide, by decide⟩ rfl (Nat.le_of_ble_eq_true rfl) (fun r8 s9 => ?_)
        refine V_if_ne (tgt := 39) X dX11_agenda_34 (by decide) ?_ ?_
        · refine V_iconst (v := -1) X dX11_agenda_39 (by decide) ?_
          refine V_istoreG (L' := fun v7_10 => [(7, .int v7_10), (6, .ref (z.2.2.1 r1)), (0, .ref (z.2.2.1 h)), (1, .int v1), (2, .int v2), (3, .int v3), (4, .int v4), (5, .int v5)]) X dX11_agenda_40 (by decide) (fun _ => rfl) (fun v7_10 => ?_)
          refine V_iconst (v := -1) X dX11_agenda_42 (by decide) ?_
          refine V_istoreG (L' := fun v8_11 => [(8, .int v8_11), (7, .int v7_10), (6, .ref (z.2.2.1 r1)), (0, .ref (z.2.2.1 h)), (1, .int v1), (2, .int v2), (3, .int v3), (4, .int v4), (5, .int v5)]) X dX11_agenda_43 (by decide) (fun _ => rfl) (fun v8_11 => ?_)
          refine V_iconst (v := 0) X dX11_agenda_45 (by decide) ?_
          refine V_istoreG (L' := fun v9_12 => [(9, .int v9_12), (8, .int v8_11), (7, .int v7_10), (6, .ref (z.2.2.1 r1)), (0, .ref (z.2.2.1 h)), (1, .int v1), (2, .int v2), (3, .int v3), (4, .int v4), (5, .int v5)]) X dX11_agenda_46 (by decide) (fun _ => rfl) (fun v9_12 => ?_)
          refine V_sub [4, 6, 7, 8, 9, 3, 2, 1, 0] rfl ?_
          exact lX11_agenda_48 X E hr hZ N h hh N v2 v3 v4 v5 r1 v7_10 v8_11 v9_12 hb3 s9
        · refine V_iconst (v := -1) X dX11_agenda_37 (by decide) ?_
          exact V_iret X E hr dX11_agenda_38
theorem kX11_agenda (l : Launch) (z : Sx) (hZ : z.2.2.2.1 = kdC) (N : Nat) (h : Nat) (hh : z.2.2.2.1 h = (11, 0)) (v1 : Int32) (v2 : Int32) (v3 : Int32) (v4 : Int32) (v5 : Int32) (σ : Mem) : Ct QI yX11_agenda cX11_agenda 14 (some .int) 6 141 l z [.ref (z.2.2.1 h), .int v1, .int v2, .int v3, .int v4, .int v5] σ (fX11_agenda N h v1 v2 v3 v4 v5 σ) := by
  refine Ct_of (by decide +kernel) (Nat.le_of_ble_eq_true rfl) rfl ?_
  intro x _ X E hr
  exact bX11_agenda_0 X E hr hZ N h hh v1 v2 v3 v4 v5 σ
