def fX12_movers_b6 (N : Nat) (rc6 : Int32 → Int32 → Mem → Option (Int32 × Mem)) (v1 : Int32) (v2 : Int32) (σ : Mem) : Option (Int32 × Mem) :=
  if (σ.1 0 13) ≤ v2 then bd (fX12_answers N v1 σ) (fun r4 s5 => if r4 = 0 then bd (fX12_areMoved N v1 0 s5) (fun r6 s7 => if r6 = 0 then bd (fX12_areMoved N v1 1 s7) (fun r8 s9 => if r8 = 0 then some ((-1), s9) else some (2, s9)) else some (1, s7)) else some (0, s5)) else gd (inb v2 6) (gd (inb v2 6) (lt_ (pI σ 9 v2.toNatClampNeg (σ.1 6 v2.toNatClampNeg)) (fun s10 => lt_ (v2 + 1) (fun v2_11 => rc6 v1 v2_11 s10))))
set_option maxRecDepth 100000 in
set_option maxHeartbeats 4000000 in
theorem bX12_movers_6 {x : Cx} {z : Sx} (X : XG x z RX12 cX12_movers 3 6 141) (E : XE x z) (hr : XR x (some .int)) (hZ : z.2.2.2.1 = kdM) (N : Nat) (rc6 : Int32 → Int32 → Mem → Option (Int32 × Mem)) (hc6 : ∀ (v1 : Int32) (v2 : Int32) (σ : Mem), VK x z 3 (BQ QI x z) 6 [(0, .ref (z.2.2.1 0)), (1, .int v1), (2, .int v2)] [] σ (rc6 v1 v2 σ)) (v1 : Int32) (v2 : Int32) (σ : Mem) : VK x z 3 (BQ QI x z) 6 [(0, .ref (z.2.2.1 0)), (1, .int v1), (2, .int v2)] [] σ (fX12_movers_b6 N rc6 v1 v2 σ) := by
  unfold fX12_movers_b6
  refine V_iload_n 2 X dX12_movers_6 rfl rfl ?_
  refine V_aload_n 0 X dX12_movers_7 rfl rfl ?_
  refine V_getI 13 X dX12_movers_8 co12 (kM hZ 0 _ rfl) (by decide) rfl wfX12_162 ?_
  refine V_icmp_ge (tgt := 32) X dX12_movers_11 (by decide) ?_ ?_
  · refine V_aload_n 0 X dX12_movers_32 rfl rfl ?_
    refine V_iload_n 1 X dX12_movers_33 rfl rfl ?_
    refine V_callI [.int v1] [] X E dX12_movers_34 (kX12_answers x.2.1 z hZ N v1 σ) co12 (kM hZ 0 _ rfl) gcX12_216 hyX12_answers rfl ⟨by decide, by decide⟩ rfl (Nat.le_of_ble_eq_true rfl) (fun r4 s5 => ?_)
    refine V_if_eq (tgt := 42) X dX12_movers_37 (by decide) ?_ ?_
    · refine V_aload_n 0 X dX12_movers_42 rfl rfl ?_
      refine V_iload_n 1 X dX12_movers_43 rfl rfl ?_
      refine V_iconst (v := 0) X dX12_movers_44 (by decide) ?_
      refine V_callI [.int v1, .int 0] [] X E dX12_movers_45 (kX12_areMoved x.2.1 z hZ N v1 0 s5) co12 (kM hZ 0 _ rfl) gcX12_274 hyX12_areMoved rfl ⟨by decide, by decide⟩ rfl (Nat.le_of_ble_eq_true rfl) (fun r6 s7 => ?_)
      refine V_if_eq (tgt := 55) X dX12_movers_48 (by decide) ?_ ?_
      · refine V_aload_n 0 X dX12_movers_55 rfl rfl ?_
        refine V_iload_n 1 X dX12_movers_56 rfl rfl ?_
        refine V_iconst (v := 1) X dX12_movers_57 (by decide) ?_
        refine V_callI [.int v1, .int 1] [] X E dX12_movers_58 (kX12_areMoved x.2.1 z hZ N v1 1 s7) co12 (kM hZ 0 _ rfl) gcX12_274 hyX12_areMoved rfl ⟨by decide, by decide⟩ rfl (Nat.le_of_ble_eq_true rfl) (fun r8 s9 => ?_)
        refine V_if_eq (tgt := 68) X dX12_movers_61 (by decide) ?_ ?_
        · refine V_iconst (v := -1) X dX12_movers_68 (by decide) ?_
          exact V_iret X E hr dX12_movers_69
        · refine V_iconst (v := 2) X dX12_movers_64 (by decide) ?_
          refine V_goto (tgt := 69) X dX12_movers_65 (by decide) ?_
          exact V_iret X E hr dX12_movers_69
      · refine V_iconst (v := 1) X dX12_movers_51 (by decide) ?_
        refine V_goto (tgt := 69) X dX12_movers_52 (by decide) ?_
        exact V_iret X E hr dX12_movers_69
    · refine V_iconst (v := 0) X dX12_movers_40 (by decide) ?_
      exact V_iret X E hr dX12_movers_41
  · refine V_aload_n 0 X dX12_movers_14 rfl rfl ?_
    refine V_getR (k1 := 9) 28 X dX12_movers_15 co12 (kM hZ 0 _ rfl) (by decide) rfl rfl wfX12_35 ?_
    refine V_iload_n 2 X dX12_movers_18 rfl rfl ?_
    refine V_aload_n 0 X dX12_movers_19 rfl rfl ?_
    refine V_getR (k1 := 6) 19 X dX12_movers_20 co12 (kM hZ 0 _ rfl) (by decide) rfl rfl wfX12_26 ?_
    refine V_iload_n 2 X dX12_movers_23 rfl rfl ?_
    refine V_iald X dX12_movers_24 (kM hZ 6 _ rfl) ?_
    refine V_iastG X dX12_movers_25 (kM hZ 9 _ rfl) (fun s10 => ?_)
    refine V_iincG (L' := fun v2_11 => [(2, .int v2_11), (0, .ref (z.2.2.1 0)), (1, .int v1)]) 2 X dX12_movers_26 rfl rfl (by decide) (fun _ => rfl) (fun v2_11 => ?_)
    refine V_goto (tgt := 6) X dX12_movers_29 (by decide) ?_
    refine V_sub [1, 2, 0] rfl ?_
    exact hc6 v1 v2_11 s10
def fX12_movers_l6 (N : Nat) : Nat → Int32 → Int32 → Mem → Option (Int32 × Mem)
  | 0 => fun _ _ _ => none
  | n + 1 => fX12_movers_b6 N (fX12_movers_l6 N n)
theorem lX12_movers_6 {x : Cx} {z : Sx} (X : XG x z RX12 cX12_movers 3 6 141) (E : XE x z) (hr : XR x (some .int)) (hZ : z.2.2.2.1 = kdM) (N : Nat) (n : Nat) (v1 : Int32) (v2 : Int32) (σ : Mem) : VK x z 3 (BQ QI x z) 6 [(0, .ref (z.2.2.1 0)), (1, .int v1), (2, .int v2)] [] σ (fX12_movers_l6 N n v1 v2 σ) := by
  induction n generalizing v1 v2 σ with
  | zero => exact V_none
  | succ n ih => exact bX12_movers_6 X E hr hZ N (fX12_movers_l6 N n) ih v1 v2 σ
def fX12_movers (N : Nat) (v1 : Int32) (σ : Mem) : Option (Int32 × Mem) :=
  bd (fX12_asTold N σ) (fun r1 s2 => lt_ 0 (fun v2_3 => fX12_movers_l6 N N v1 v2_3 s2))
set_option maxRecDepth 100000 in
set_option maxHeartbeats 4000000 in
theorem bX12_movers_0 {x : Cx} {z : Sx} (X : XG x z RX12 cX12_movers 3 6 141) (E : XE x z) (hr : XR x (some .int)) (hZ : z.2.2.2.1 = kdM) (N : Nat) (v1 : Int32) (σ : Mem) : VK x z 3 (BQ QI x z) 0 [(0, .ref (z.2.2.1 0)), (1, .int v1)] [] σ (fX12_movers N v1 σ) := by
  unfold fX12_movers
  refine V_aload_n 0 X dX12_movers_0 rfl rfl ?_
  refine V_callV [] [] X E dX12_movers_1 (kX12_asTold x.2.1 z hZ N σ) co12 (kM hZ 0 _ rfl) gcX12_213 hyX12_asTold rfl ⟨by decide, by decide⟩ rfl (Nat.le_of_ble_eq_true rfl) (fun r1 s2 => ?_)
  refine V_iconst (v := 0) X dX12_movers_4 (by decide) ?_
  refine V_istore_nG (L' := fun v2_3 => [(2, .int v2_3), (0, .ref (z.2.2.1 0)), (1, .int v1)]) X dX12_movers_5 rfl (by decide) (fun _ => rfl) (fun v2_3 => ?_)
  refine V_sub [1, 2, 0] rfl ?_
  exact lX12_movers_6 X E hr hZ N N v1 v2_3 s2
theorem kX12_movers (l : Launch) (z : Sx) (hZ : z.2.2.2.1 = kdM) (N : Nat) (v1 : Int32) (σ : Mem) : Ct QI yX12_movers cX12_movers 3 (some .int) 6 141 l z [.ref (z.2.2.1 0), .int v1] σ (fX12_movers N v1 σ) := by
  refine Ct_of (by decide +kernel) (Nat.le_of_ble_eq_true rfl) rfl ?_
  intro x _ X E hr
  exact bX12_movers_0 X E hr hZ N v1 σ
def fX12_moves_b48 (N : Nat) (v4 : Int32) (σ : Mem) : Option (Int32 × Mem) :=
  some (v4, σ)
set_option maxRecDepth 100000 in
set_option maxHeartbeats 4000000 in
theorem bX12_moves_48 {x : Cx} {z : Sx} (X : XG x z RX12 cX12_moves 5 7 163) (E : XE x z) (hr : XR x (some .int)) (hZ : z.2.2.2.1 = kdM) (N : Nat) (v4 : Int32) (σ : Mem) : VK x z 5 (BQ QI x z) 48 [(0, .ref (z.2.2.1 0)), (4, .int v4)] [] σ (fX12_moves_b48 N v4 σ) := by
  unfold fX12_moves_b48
  refine V_iload 1 X dX12_moves_48 rfl ?_
  refine V_goto (tgt := 59) X dX12_moves_50 (by decide) ?_
  exact V_iret X E hr dX12_moves_59
def fX12_moves_b30 (N : Nat) (v2 : Int32) (v3 : Int32) (σ : Mem) : Option (Int32 × Mem) :=
  bd (fX12_movers N v2 σ) (fun r7 s8 => lt_ r7 (fun v4_9 => if v4_9 = (-1) then fX12_moves_b48 N v4_9 s8 else if v3 = (-1) then fX12_moves_b48 N v4_9 s8 else gd (inb v3 6) (some ((s8.1 9 v3.toNatClampNeg), s8))))
set_option maxRecDepth 100000 in
set_option maxHeartbeats 4000000 in
theorem bX12_moves_30 {x : Cx} {z : Sx} (X : XG x z RX12 cX12_moves 5 7 163) (E : XE x z) (hr : XR x (some .int)) (hZ : z.2.2.2.1 = kdM) (N : Nat) (v2 : Int32) (v3 : Int32) (σ : Mem) : VK x z 5 (BQ QI x z) 30 [(0, .ref (z.2.2.1 0)), (2, .int v2), (3, .int v3)] [] σ (fX12_moves_b30 N v2 v3 σ) := by
  unfold fX12_moves_b30
  refine V_aload_n 0 X dX12_moves_30 rfl rfl ?_
  refine V_iload_n 1 X dX12_moves_31 rfl rfl ?_
  refine V_callI [.int v2] [] X E dX12_moves_32 (kX12_movers x.2.1 z hZ N v2 σ) co12 (kM hZ 0 _ rfl) gcX12_278 hyX12_movers rfl ⟨by decide, by decide⟩ rfl (Nat.le_of_ble_eq_true rfl) (fun r7 s8 => ?_)
  refine V_istoreG (L' := fun v4_9 => [(4, .int v4_9), (0, .ref (z.2.2.1 0)), (2, .int v2), (3, .int v3)]) X dX12_moves_35 (by decide) (fun _ => rfl) (fun v4_9 => ?_)
  refine V_iload 0 X dX12_moves_37 rfl ?_
  refine V_iconst (v := -1) X dX12_moves_39 (by decide) ?_
  refine V_icmp_eq (tgt := 48) X dX12_moves_40 (by decide) ?_ ?_
  · refine V_sub [1, 0] rfl ?_
    exact bX12_moves_48 X E hr hZ N v4_9 s8
  · refine V_iload_n 3 X dX12_moves_43 rfl rfl ?_
    refine V_iconst (v := -1) X dX12_moves_44 (by decide) ?_
    refine V_icmp_ne (tgt := 53) X dX12_moves_45 (by decide) ?_ ?_
    · refine V_aload_n 1 X dX12_moves_53 rfl rfl ?_
      refine V_getR (k1 := 9) 28 X dX12_moves_54 co12 (kM hZ 0 _ rfl) (by decide) rfl rfl wfX12_35 ?_
      refine V_iload_n 3 X dX12_moves_57 rfl rfl ?_
      refine V_iald X dX12_moves_58 (kM hZ 9 _ rfl) ?_
      exact V_iret X E hr dX12_moves_59
    · refine V_sub [1, 0] rfl ?_
      exact bX12_moves_48 X E hr hZ N v4_9 s8
def fX12_moves (N : Nat) (v1 : Int32) (v2 : Int32) (v3 : Int32) (σ : Mem) : Option (Int32 × Mem) :=
  bd (fX12_isChamber N v1 σ) (fun r1 s2 => if r1 = 0 then some ((-1), s2) else bd (fX12_isMotion N v2 s2) (fun r3 s4 => if r3 = 0 then some ((-1), s4) else if v3 = (-1) then fX12_moves_b30 N v2 v3 s4 else bd (fX12_isPerson N v3 s4) (fun r5 s6 => if r5 = 0 then some ((-1), s6) else fX12_moves_b30 N v2 v3 s6)))
set_option maxRecDepth 100000 in
set_option maxHeartbeats 4000000 in
theorem bX12_moves_0 {x : Cx} {z : Sx} (X : XG x z RX12 cX12_moves 5 7 163) (E : XE x z) (hr : XR x (some .int)) (hZ : z.2.2.2.1 = kdM) (N : Nat) (v1 : Int32) (v2 : Int32) (v3 : Int32) (σ : Mem) : VK x z 5 (BQ QI x z) 0 [(0, .ref (z.2.2.1 0)), (1, .int v1), (2, .int v2), (3, .int v3)] [] σ (fX12_moves N v1 v2 v3 σ) := by
  unfold fX12_moves
  refine V_aload_n 0 X dX12_moves_0 rfl rfl ?_
  refine V_iload_n 1 X dX12_moves_1 rfl rfl ?_
  refine V_callI [.int v1] [] X E dX12_moves_2 (kX12_isChamber x.2.1 z hZ N v1 σ) co12 (kM hZ 0 _ rfl) gcX12_165 hyX12_isChamber rfl ⟨by decide, by decide⟩ rfl (Nat.le_of_ble_eq_true rfl) (fun r1 s2 => ?_)
  refine V_if_eq (tgt := 28) X dX12_moves_5 (by decide) ?_ ?_
  · refine V_iconst (v := -1) X dX12_moves_28 (by decide) ?_
    exact V_iret X E hr dX12_moves_29
  · refine V_iload_n 2 X dX12_moves_8 rfl rfl ?_
    refine V_calSI [.int v2] [] X E dX12_moves_9 (kX12_isMotion x.2.1 z hZ N v2 s2) gcX12_210 hyX12_isMotion rfl ⟨by decide, by decide⟩ rfl (Nat.le_of_ble_eq_true rfl) (fun r3 s4 => ?_)
    refine V_if_eq (tgt := 28) X dX12_moves_12 (by decide) ?_ ?_
    · refine V_iconst (v := -1) X dX12_moves_28 (by decide) ?_
      exact V_iret X E hr dX12_moves_29
    · refine V_iload_n 3 X dX12_moves_15 rfl rfl ?_
      refine V_iconst (v := -1) X dX12_moves_16 (by decide) ?_
      refine V_icmp_eq (tgt := 30) X dX12_moves_17 (by decide) ?_ ?_
      · refine V_sub [0, 2, 3] rfl ?_
        exact bX12_moves_30 X E hr hZ N v2 v3 s4
      · refine V_aload_n 0 X dX12_moves_20 rfl rfl ?_
        refine V_iload_n 3 X dX12_moves_21 rfl rfl ?_
        refine V_callI [.int v3] [] X E dX12_moves_22 (kX12_isPerson x.2.1 z hZ N v3 s4) co12 (kM hZ 0 _ rfl) gcX12_174 hyX12_isPerson rfl ⟨by decide, by decide⟩ rfl (Nat.le_of_ble_eq_true rfl) (fun r5 s6 => ?_)
        refine V_if_ne (tgt := 30) X dX12_moves_25 (by decide) ?_ ?_
        · refine V_sub [0, 2, 3] rfl ?_
          exact bX12_moves_30 X E hr hZ N v2 v3 s6
        · refine V_iconst (v := -1) X dX12_moves_28 (by decide) ?_
          exact V_iret X E hr dX12_moves_29
theorem kX12_moves (l : Launch) (z : Sx) (hZ : z.2.2.2.1 = kdM) (N : Nat) (v1 : Int32) (v2 : Int32) (v3 : Int32) (σ : Mem) : Ct QI yX12_moves cX12_moves 5 (some .int) 7 163 l z [.ref (z.2.2.1 0), .int v1, .int v2, .int v3] σ (fX12_moves N v1 v2 v3 σ) := by
  refine Ct_of (by decide +kernel) (Nat.le_of_ble_eq_true rfl) rfl ?_
  intro x _ X E hr
  exact bX12_moves_0 X E hr hZ N v1 v2 v3 σ
def fX12_areWaxed_b173 (N : Nat) (rc3 : Int32 → Int32 → Int32 → Int32 → Mem → Option (Int32 × Mem)) (v1 : Int32) (v2 : Int32) (v3 : Int32) (v4 : Int32) (σ : Mem) : Option (Int32 × Mem) :=
  lt_ (v4 + 1) (fun v4_14 => rc3 v1 v2 v3 v4_14 σ)
set_option maxRecDepth 100000 in
set_option maxHeartbeats 4000000 in
theorem bX12_areWaxed_173 {x : Cx} {z : Sx} (X : XG x z RX12 cX12_areWaxed 8 5 113) (E : XE x z) (hr : XR x (some .boolean)) (hZ : z.2.2.2.1 = kdM) (N : Nat) (rc3 : Int32 → Int32 → Int32 → Int32 → Mem → Option (Int32 × Mem)) (hc3 : ∀ (v1 : Int32) (v2 : Int32) (v3 : Int32) (v4 : Int32) (σ : Mem), VK x z 8 (BQ QI x z) 3 [(0, .ref (z.2.2.1 0)), (1, .int v1), (2, .int v2), (3, .int v3), (4, .int v4)] [] σ (rc3 v1 v2 v3 v4 σ)) (v1 : Int32) (v2 : Int32) (v3 : Int32) (v4 : Int32) (σ : Mem) : VK x z 8 (BQ QI x z) 173 [(0, .ref (z.2.2.1 0)), (1, .int v1), (2, .int v2), (3, .int v3), (4, .int v4)] [] σ (fX12_areWaxed_b173 N rc3 v1 v2 v3 v4 σ) := by
  unfold fX12_areWaxed_b173
  refine V_iincG (L' := fun v4_14 => [(4, .int v4_14), (0, .ref (z.2.2.1 0)), (1, .int v1), (2, .int v2), (3, .int v3)]) 4 X dX12_areWaxed_173 rfl rfl (by decide) (fun _ => rfl) (fun v4_14 => ?_)
  refine V_goto (tgt := 3) X dX12_areWaxed_176 (by decide) ?_
  refine V_sub [1, 2, 3, 4, 0] rfl ?_
  exact hc3 v1 v2 v3 v4_14 σ
def fX12_areWaxed_b134 (N : Nat) (rc3 : Int32 → Int32 → Int32 → Int32 → Mem → Option (Int32 × Mem)) (rc134 : Int32 → Int32 → Int32 → Int32 → Int32 → Mem → Option (Int32 × Mem)) (v1 : Int32) (v2 : Int32) (v3 : Int32) (v4 : Int32) (v7 : Int32) (σ : Mem) : Option (Int32 × Mem) :=
  if v3 ≤ v7 then bd (fX12_answers N v1 σ) (fun r10 s11 => if r10 = v2 then some (1, s11) else fX12_areWaxed_b173 N rc3 v1 v2 v3 v4 s11) else gd (inb v7 3) (gd (inb (σ.1 10 v7.toNatClampNeg) 8) (gd (inb (σ.1 10 v7.toNatClampNeg) 8) (lt_ (pI σ 5 (σ.1 10 v7.toNatClampNeg).toNatClampNeg ((σ.1 5 (σ.1 10 v7.toNatClampNeg).toNatClampNeg) + 1)) (fun s12 => lt_ (v7 + 1) (fun v7_13 => rc134 v1 v2 v3 v4 v7_13 s12)))))
set_option maxRecDepth 100000 in
set_option maxHeartbeats 4000000 in
theorem bX12_areWaxed_134 {x : Cx} {z : Sx} (X : XG x z RX12 cX12_areWaxed 8 5 113) (E : XE x z) (hr : XR x (some .boolean)) (hZ : z.2.2.2.1 = kdM) (N : Nat) (rc3 : Int32 → Int32 → Int32 → Int32 → Mem → Option (Int32 × Mem)) (hc3 : ∀ (v1 : Int32) (v2 : Int32) (v3 : Int32) (v4 : Int32) (σ : Mem), VK x z 8 (BQ QI x z) 3 [(0, .ref (z.2.2.1 0)), (1, .int v1), (2, .int v2), (3, .int v3), (4, .int v4)] [] σ (rc3 v1 v2 v3 v4 σ)) (rc134 : Int32 → Int32 → Int32 → Int32 → Int32 → Mem → Option (Int32 × Mem)) (hc134 : ∀ (v1 : Int32) (v2 : Int32) (v3 : Int32) (v4 : Int32) (v7 : Int32) (σ : Mem), VK x z 8 (BQ QI x z) 134 [(0, .ref (z.2.2.1 0)), (1, .int v1), (2, .int v2), (3, .int v3), (4, .int v4), (7, .int v7)] [] σ (rc134 v1 v2 v3 v4 v7 σ)) (v1 : Int32) (v2 : Int32) (v3 : Int32) (v4 : Int32) (v7 : Int32) (σ : Mem) : VK x z 8 (BQ QI x z) 134 [(0, .ref (z.2.2.1 0)), (1, .int v1), (2, .int v2), (3, .int v3), (4, .int v4), (7, .int v7)] [] σ (fX12_areWaxed_b134 N rc3 rc134 v1 v2 v3 v4 v7 σ) := by
  unfold fX12_areWaxed_b134
  refine V_iload 5 X dX12_areWaxed_134 rfl ?_
  refine V_iload_n 3 X dX12_areWaxed_136 rfl rfl ?_
  refine V_icmp_ge (tgt := 162) X dX12_areWaxed_137 (by decide) ?_ ?_
  · refine V_aload_n 0 X dX12_areWaxed_162 rfl rfl ?_
    refine V_iload_n 1 X dX12_areWaxed_163 rfl rfl ?_
    refine V_callI [.int v1] [] X E dX12_areWaxed_164 (kX12_answers x.2.1 z hZ N v1 σ) co12 (kM hZ 0 _ rfl) gcX12_216 hyX12_answers rfl ⟨by decide, by decide⟩ rfl (Nat.le_of_ble_eq_true rfl) (fun r10 s11 => ?_)
    refine V_iload_n 2 X dX12_areWaxed_167 rfl rfl ?_
    refine V_icmp_ne (tgt := 173) X dX12_areWaxed_168 (by decide) ?_ ?_
    · refine V_sub [0, 1, 2, 3, 4] rfl ?_
      exact bX12_areWaxed_173 X E hr hZ N rc3 hc3 v1 v2 v3 v4 s11
    · refine V_iconst (v := 1) X dX12_areWaxed_171 (by decide) ?_
      exact V_zret X E hr dX12_areWaxed_172 (by decide)
  · refine V_aload_n 0 X dX12_areWaxed_140 rfl rfl ?_
    refine V_getR (k1 := 5) 18 X dX12_areWaxed_141 co12 (kM hZ 0 _ rfl) (by decide) rfl rfl wfX12_23 ?_
    refine V_aload_n 0 X dX12_areWaxed_144 rfl rfl ?_
    refine V_getR (k1 := 10) 29 X dX12_areWaxed_145 co12 (kM hZ 0 _ rfl) (by decide) rfl rfl wfX12_38 ?_
    refine V_iload 5 X dX12_areWaxed_148 rfl ?_
    refine V_iald X dX12_areWaxed_150 (kM hZ 10 _ rfl) ?_
    refine V_dup2 X dX12_areWaxed_151 rfl rfl ?_
    refine V_iald X dX12_areWaxed_152 (kM hZ 5 _ rfl) ?_
    refine V_iconst (v := 1) X dX12_areWaxed_153 (by decide) ?_
    refine V_iadd X dX12_areWaxed_154 ?_
    refine V_iastG X dX12_areWaxed_155 (kM hZ 5 _ rfl) (fun s12 => ?_)
    refine V_iincG (L' := fun v7_13 => [(7, .int v7_13), (0, .ref (z.2.2.1 0)), (1, .int v1), (2, .int v2), (3, .int v3), (4, .int v4)]) 5 X dX12_areWaxed_156 rfl rfl (by decide) (fun _ => rfl) (fun v7_13 => ?_)
    refine V_goto (tgt := 134) X dX12_areWaxed_159 (by decide) ?_
    refine V_sub [1, 2, 3, 4, 5, 0] rfl ?_
    exact hc134 v1 v2 v3 v4 v7_13 s12
def fX12_areWaxed_l134 (N : Nat) (rc3 : Int32 → Int32 → Int32 → Int32 → Mem → Option (Int32 × Mem)) : Nat → Int32 → Int32 → Int32 → Int32 → Int32 → Mem → Option (Int32 × Mem)
  | 0 => fun _ _ _ _ _ _ => none
  | n + 1 => fX12_areWaxed_b134 N rc3 (fX12_areWaxed_l134 N rc3 n)
theorem lX12_areWaxed_134 {x : Cx} {z : Sx} (X : XG x z RX12 cX12_areWaxed 8 5 113) (E : XE x z) (hr : XR x (some .boolean)) (hZ : z.2.2.2.1 = kdM) (N : Nat) (rc3 : Int32 → Int32 → Int32 → Int32 → Mem → Option (Int32 × Mem)) (hc3 : ∀ (v1 : Int32) (v2 : Int32) (v3 : Int32) (v4 : Int32) (σ : Mem), VK x z 8 (BQ QI x z) 3 [(0, .ref (z.2.2.1 0)), (1, .int v1), (2, .int v2), (3, .int v3), (4, .int v4)] [] σ (rc3 v1 v2 v3 v4 σ)) (n : Nat) (v1 : Int32) (v2 : Int32) (v3 : Int32) (v4 : Int32) (v7 : Int32) (σ : Mem) : VK x z 8 (BQ QI x z) 134 [(0, .ref (z.2.2.1 0)), (1, .int v1), (2, .int v2), (3, .int v3), (4, .int v4), (7, .int v7)] [] σ (fX12_areWaxed_l134 N rc3 n v1 v2 v3 v4 v7 σ) := by
  induction n generalizing v1 v2 v3 v4 v7 σ with
  | zero => exact V_none
  | succ n ih => exact bX12_areWaxed_134 X E hr hZ N rc3 hc3 (fX12_areWaxed_l134 N rc3 n) ih v1 v2 v3 v4 v7 σ
def fX12_areWaxed_b111 (N : Nat) (rc3 : Int32 → Int32 → Int32 → Int32 → Mem → Option (Int32 × Mem)) (rc37 : Int32 → Int32 → Int32 → Int32 → Int32 → Int32 → Int32 → Mem → Option (Int32 × Mem)) (v1 : Int32) (v2 : Int32) (v3 : Int32) (v4 : Int32) (v5 : Int32) (v7 : Int32) (t0 : Int32) (σ : Mem) : Option (Int32 × Mem) :=
  lt_ t0 (fun v6_15 => lt_ (v7 + (-1)) (fun v7_16 => rc37 v1 v2 v3 v4 v5 v6_15 v7_16 σ))
set_option maxRecDepth 100000 in
set_option maxHeartbeats 4000000 in
theorem bX12_areWaxed_111 {x : Cx} {z : Sx} (X : XG x z RX12 cX12_areWaxed 8 5 113) (E : XE x z) (hr : XR x (some .boolean)) (hZ : z.2.2.2.1 = kdM) (N : Nat) (rc3 : Int32 → Int32 → Int32 → Int32 → Mem → Option (Int32 × Mem)) (hc3 : ∀ (v1 : Int32) (v2 : Int32) (v3 : Int32) (v4 : Int32) (σ : Mem), VK x z 8 (BQ QI x z) 3 [(0, .ref (z.2.2.1 0)), (1, .int v1), (2, .int v2), (3, .int v3), (4, .int v4)] [] σ (rc3 v1 v2 v3 v4 σ)) (rc37 : Int32 → Int32 → Int32 → Int32 → Int32 → Int32 → Int32 → Mem → Option (Int32 × Mem)) (hc37 : ∀ (v1 : Int32) (v2 : Int32) (v3 : Int32) (v4 : Int32) (v5 : Int32) (v6 : Int32) (v7 : Int32) (σ : Mem), VK x z 8 (BQ QI x z) 37 [(0, .ref (z.2.2.1 0)), (1, .int v1), (2, .int v2), (3, .int v3), (4, .int v4), (5, .int v5), (6, .int v6), (7, .int v7)] [] σ (rc37 v1 v2 v3 v4 v5 v6 v7 σ)) (v1 : Int32) (v2 : Int32) (v3 : Int32) (v4 : Int32) (v5 : Int32) (v7 : Int32) (t0 : Int32) (σ : Mem) : VK x z 8 (BQ QI x z) 111 [(0, .ref (z.2.2.1 0)), (1, .int v1), (2, .int v2), (3, .int v3), (4, .int v4), (5, .int v5), (7, .int v7)] [.int t0] σ (fX12_areWaxed_b111 N rc3 rc37 v1 v2 v3 v4 v5 v7 t0 σ) := by
  unfold fX12_areWaxed_b111
  refine V_istoreG (L' := fun v6_15 => [(6, .int v6_15), (0, .ref (z.2.2.1 0)), (1, .int v1), (2, .int v2), (3, .int v3), (4, .int v4), (5, .int v5), (7, .int v7)]) X dX12_areWaxed_111 (by decide) (fun _ => rfl) (fun v6_15 => ?_)
  refine V_iincG (L' := fun v7_16 => [(7, .int v7_16), (6, .int v6_15), (0, .ref (z.2.2.1 0)), (1, .int v1), (2, .int v2), (3, .int v3), (4, .int v4), (5, .int v5)]) 7 X dX12_areWaxed_113 rfl rfl (by decide) (fun _ => rfl) (fun v7_16 => ?_)
  refine V_goto (tgt := 37) X dX12_areWaxed_116 (by decide) ?_
  refine V_sub [2, 3, 4, 5, 6, 7, 1, 0] rfl ?_
  exact hc37 v1 v2 v3 v4 v5 v6_15 v7_16 σ
def fX12_areWaxed_b110 (N : Nat) (rc3 : Int32 → Int32 → Int32 → Int32 → Mem → Option (Int32 × Mem)) (rc37 : Int32 → Int32 → Int32 → Int32 → Int32 → Int32 → Int32 → Mem → Option (Int32 × Mem)) (v1 : Int32) (v2 : Int32) (v3 : Int32) (v4 : Int32) (v5 : Int32) (v7 : Int32) (σ : Mem) : Option (Int32 × Mem) :=
  fX12_areWaxed_b111 N rc3 rc37 v1 v2 v3 v4 v5 v7 0 σ
set_option maxRecDepth 100000 in
set_option maxHeartbeats 4000000 in
theorem bX12_areWaxed_110 {x : Cx} {z : Sx} (X : XG x z RX12 cX12_areWaxed 8 5 113) (E : XE x z) (hr : XR x (some .boolean)) (hZ : z.2.2.2.1 = kdM) (N : Nat) (rc3 : Int32 → Int32 → Int32 → Int32 → Mem → Option (Int32 × Mem)) (hc3 : ∀ (v1 : Int32) (v2 : Int32) (v3 : Int32) (v4 : Int32) (σ : Mem), VK x z 8 (BQ QI x z) 3 [(0, .ref (z.2.2.1 0)), (1, .int v1), (2, .int v2), (3, .int v3), (4, .int v4)] [] σ (rc3 v1 v2 v3 v4 σ)) (rc37 : Int32 → Int32 → Int32 → Int32 → Int32 → Int32 → Int32 → Mem → Option (Int32 × Mem)) (hc37 : ∀ (v1 : Int32) (v2 : Int32) (v3 : Int32) (v4 : Int32) (v5 : Int32) (v6 : Int32) (v7 : Int32) (σ : Mem), VK x z 8 (BQ QI x z) 37 [(0, .ref (z.2.2.1 0)), (1, .int v1), (2, .int v2), (3, .int v3), (4, .int v4), (5, .int v5), (6, .int v6), (7, .int v7)] [] σ (rc37 v1 v2 v3 v4 v5 v6 v7 σ)) (v1 : Int32) (v2 : Int32) (v3 : Int32) (v4 : Int32) (v5 : Int32) (v7 : Int32) (σ : Mem) : VK x z 8 (BQ QI x z) 110 [(0, .ref (z.2.2.1 0)), (1, .int v1), (2, .int v2), (3, .int v3), (4, .int v4), (5, .int v5), (7, .int v7)] [] σ (fX12_areWaxed_b110 N rc3 rc37 v1 v2 v3 v4 v5 v7 σ) := by
  unfold fX12_areWaxed_b110
  refine V_iconst (v := 0) X dX12_areWaxed_110 (by decide) ?_
  refine V_sub [0, 1, 2, 3, 4, 5, 6] rfl ?_
  exact bX12_areWaxed_111 X E hr hZ N rc3 hc3 rc37 hc37 v1 v2 v3 v4 v5 v7 0 σ
def fX12_areWaxed_b106 (N : Nat) (rc3 : Int32 → Int32 → Int32 → Int32 → Mem → Option (Int32 × Mem)) (rc37 : Int32 → Int32 → Int32 → Int32 → Int32 → Int32 → Int32 → Mem → Option (Int32 × Mem)) (v1 : Int32) (v2 : Int32) (v3 : Int32) (v4 : Int32) (v5 : Int32) (v7 : Int32) (σ : Mem) : Option (Int32 × Mem) :=
  fX12_areWaxed_b111 N rc3 rc37 v1 v2 v3 v4 v5 v7 1 σ
set_option maxRecDepth 100000 in
set_option maxHeartbeats 4000000 in
theorem bX12_areWaxed_106 {x : Cx} {z : Sx} (X : XG x z RX12 cX12_areWaxed 8 5 113) (E : XE x z) (hr : XR x (some .boolean)) (hZ : z.2.2.2.1 = kdM) (N : Nat) (rc3 : Int32 → Int32 → Int32 → Int32 → Mem → Option (Int32 × Mem)) (hc3 : ∀ (v1 : Int32) (v2 : Int32) (v3 : Int32) (v4 : Int32) (σ : Mem), VK x z 8 (BQ QI x z) 3 [(0, .ref (z.2.2.1 0)), (1, .int v1), (2, .int v2), (3, .int v3), (4, .int v4)] [] σ (rc3 v1 v2 v3 v4 σ)) (rc37 : Int32 → Int32 → Int32 → Int32 → Int32 → Int32 → Int32 → Mem → Option (Int32 × Mem)) (hc37 : ∀ (v1 : Int32) (v2 : Int32) (v3 : Int32) (v4 : Int32) (v5 : Int32) (v6 : Int32) (v7 : Int32) (σ : Mem), VK x z 8 (BQ QI x z) 37 [(0, .ref (z.2.2.1 0)), (1, .int v1), (2, .int v2), (3, .int v3), (4, .int v4), (5, .int v5), (6, .int v6), (7, .int v7)] [] σ (rc37 v1 v2 v3 v4 v5 v6 v7 σ)) (v1 : Int32) (v2 : Int32) (v3 : Int32) (v4 : Int32) (v5 : Int32) (v7 : Int32) (σ : Mem) : VK x z 8 (BQ QI x z) 106 [(0, .ref (z.2.2.1 0)), (1, .int v1), (2, .int v2), (3, .int v3), (4, .int v4), (5, .int v5), (7, .int v7)] [] σ (fX12_areWaxed_b106 N rc3 rc37 v1 v2 v3 v4 v5 v7 σ) := by
  unfold fX12_areWaxed_b106
  refine V_iconst (v := 1) X dX12_areWaxed_106 (by decide) ?_
  refine V_goto (tgt := 111) X dX12_areWaxed_107 (by decide) ?_
  refine V_sub [0, 1, 2, 3, 4, 5, 6] rfl ?_
  exact bX12_areWaxed_111 X E hr hZ N rc3 hc3 rc37 hc37 v1 v2 v3 v4 v5 v7 1 σ
def fX12_areWaxed_b37 (N : Nat) (rc3 : Int32 → Int32 → Int32 → Int32 → Mem → Option (Int32 × Mem)) (rc37 : Int32 → Int32 → Int32 → Int32 → Int32 → Int32 → Int32 → Mem → Option (Int32 × Mem)) (v1 : Int32) (v2 : Int32) (v3 : Int32) (v4 : Int32) (v5 : Int32) (v6 : Int32) (v7 : Int32) (σ : Mem) : Option (Int32 × Mem) :=
  if v7 < 0 then if v6 = 0 then fX12_areWaxed_b173 N rc3 v1 v2 v3 v4 σ else bd (fX12_asTold N σ) (fun r5 s6 => lt_ 0 (fun v7_7 => fX12_areWaxed_l134 N rc3 N v1 v2 v3 v4 v7_7 s6)) else gd (inb v7 3) (lt_ (pI σ 10 v7.toNatClampNeg (v5 &&& 7)) (fun s8 => lt_ (v5 >>> (3 &&& 31)) (fun v5_9 => if v6 = 0 then fX12_areWaxed_b110 N rc3 rc37 v1 v2 v3 v4 v5_9 v7 s8 else gd (inb v7 3) (if (s8.1 0 12) ≤ (s8.1 10 v7.toNatClampNeg) then fX12_areWaxed_b110 N rc3 rc37 v1 v2 v3 v4 v5_9 v7 s8 else if v7 = (v3 - 1) then fX12_areWaxed_b106 N rc3 rc37 v1 v2 v3 v4 v5_9 v7 s8 else gd (inb v7 3) (gd (inb (v7 + 1) 3) (if (s8.1 10 (v7 + 1).toNatClampNeg) < (s8.1 10 v7.toNatClampNeg) then fX12_areWaxed_b110 N rc3 rc37 v1 v2 v3 v4 v5_9 v7 s8 else fX12_areWaxed_b106 N rc3 rc37 v1 v2 v3 v4 v5_9 v7 s8))))))
set_option maxRecDepth 100000 in
set_option maxHeartbeats 4000000 in
theorem bX12_areWaxed_37 {x : Cx} {z : Sx} (X : XG x z RX12 cX12_areWaxed 8 5 113) (E : XE x z) (hr : XR x (some .boolean)) (hZ : z.2.2.2.1 = kdM) (N : Nat) (rc3 : Int32 → Int32 → Int32 → Int32 → Mem → Option (Int32 × Mem)) (hc3 : ∀ (v1 : Int32) (v2 : Int32) (v3 : Int32) (v4 : Int32) (σ : Mem), VK x z 8 (BQ QI x z) 3 [(0, .ref (z.2.2.1 0)), (1, .int v1), (2, .int v2), (3, .int v3), (4, .int v4)] [] σ (rc3 v1 v2 v3 v4 σ)) (rc37 : Int32 → Int32 → Int32 → Int32 → Int32 → Int32 → Int32 → Mem → Option (Int32 × Mem)) (hc37 : ∀ (v1 : Int32) (v2 : Int32) (v3 : Int32) (v4 : Int32) (v5 : Int32) (v6 : Int32) (v7 : Int32) (σ : Mem), VK x z 8 (BQ QI x z) 37 [(0, .ref (z.2.2.1 0)), (1, .int v1), (2, .int v2), (3, .int v3), (4, .int v4), (5, .int v5), (6, .int v6), (7, .int v7)] [] σ (rc37 v1 v2 v3 v4 v5 v6 v7 σ)) (v1 : Int32) (v2 : Int32) (v3 : Int32) (v4 : Int32) (v5 : Int32) (v6 : Int32) (v7 : Int32) (σ : Mem) : VK x z 8 (BQ QI x z) 37 [(0, .ref (z.2.2.1 0)), (1, .int v1), (2, .int v2), (3, .int v3), (4, .int v4), (5, .int v5), (6, .int v6), (7, .int v7)] [] σ (fX12_areWaxed_b37 N rc3 rc37 v1 v2 v3 v4 v5 v6 v7 σ) := by
  unfold fX12_areWaxed_b37
  refine V_iload 7 X dX12_areWaxed_37 rfl ?_
  refine V_if_lt (tgt := 119) X dX12_areWaxed_39 (by decide) ?_ ?_
  · refine V_iload 6 X dX12_areWaxed_119 rfl ?_
    refine V_if_ne (tgt := 127) X dX12_areWaxed_121 (by decide) ?_ ?_
    · refine V_aload_n 0 X dX12_areWaxed_127 rfl rfl ?_
      refine V_callV [] [] X E dX12_areWaxed_128 (kX12_asTold x.2.1 z hZ N σ) co12 (kM hZ 0 _ rfl) gcX12_213 hyX12_asTold rfl ⟨by decide, by decide⟩ rfl (Nat.le_of_ble_eq_true rfl) (fun r5 s6 => ?_)
      refine V_iconst (v := 0) X dX12_areWaxed_131 (by decide) ?_
      refine V_istoreG (L' := fun v7_7 => [(7, .int v7_7), (0, .ref (z.2.2.1 0)), (1, .int v1), (2, .int v2), (3, .int v3), (4, .int v4), (5, .int v5), (6, .int v6)]) X dX12_areWaxed_132 (by decide) (fun _ => rfl) (fun v7_7 => ?_)
      refine V_sub [1, 2, 3, 4, 5, 0] rfl ?_
      exact lX12_areWaxed_134 X E hr hZ N rc3 hc3 N v1 v2 v3 v4 v7_7 s6
    · refine V_goto (tgt := 173) X dX12_areWaxed_124 (by decide) ?_
      refine V_sub [0, 1, 2, 3, 4] rfl ?_
      exact bX12_areWaxed_173 X E hr hZ N rc3 hc3 v1 v2 v3 v4 σ
  · refine V_aload_n 0 X dX12_areWaxed_42 rfl rfl ?_
    refine V_getR (k1 := 10) 29 X dX12_areWaxed_43 co12 (kM hZ 0 _ rfl) (by decide) rfl rfl wfX12_38 ?_
    refine V_iload 7 X dX12_areWaxed_46 rfl ?_
    refine V_iload 5 X dX12_areWaxed_48 rfl ?_
    refine V_bipush (v := 7) X dX12_areWaxed_50 (by decide) ?_
    refine V_iand X dX12_areWaxed_52 ?_
    refine V_iastG X dX12_areWaxed_53 (kM hZ 10 _ rfl) (fun s8 => ?_)
    refine V_iload 5 X dX12_areWaxed_54 rfl ?_
    refine V_iconst (v := 3) X dX12_areWaxed_56 (by decide) ?_
    refine V_ishr X dX12_areWaxed_57 ?_
    refine V_istoreG (L' := fun v5_9 => [(5, .int v5_9), (0, .ref (z.2.2.1 0)), (1, .int v1), (2, .int v2), (3, .int v3), (4, .int v4), (6, .int v6), (7, .int v7)]) X dX12_areWaxed_58 (by decide) (fun _ => rfl) (fun v5_9 => ?_)
    refine V_iload 6 X dX12_areWaxed_60 rfl ?_
    refine V_if_eq (tgt := 110) X dX12_areWaxed_62 (by decide) ?_ ?_
    · refine V_sub [1, 2, 3, 4, 5, 0, 7] rfl ?_
      exact bX12_areWaxed_110 X E hr hZ N rc3 hc3 rc37 hc37 v1 v2 v3 v4 v5_9 v7 s8
    · refine V_aload_n 1 X dX12_areWaxed_65 rfl rfl ?_
      refine V_getR (k1 := 10) 29 X dX12_areWaxed_66 co12 (kM hZ 0 _ rfl) (by decide) rfl rfl wfX12_38 ?_
      refine V_iload 7 X dX12_areWaxed_69 rfl ?_
      refine V_iald X dX12_areWaxed_71 (kM hZ 10 _ rfl) ?_
      refine V_aload_n 1 X dX12_areWaxed_72 rfl rfl ?_
      refine V_getI 12 X dX12_areWaxed_73 co12 (kM hZ 0 _ rfl) (by decide) rfl wfX12_159 ?_
      refine V_icmp_ge (tgt := 110) X dX12_areWaxed_76 (by decide) ?_ ?_
      · refine V_sub [1, 2, 3, 4, 5, 0, 7] rfl ?_
        exact bX12_areWaxed_110 X E hr hZ N rc3 hc3 rc37 hc37 v1 v2 v3 v4 v5_9 v7 s8
      · refine V_iload 7 X dX12_areWaxed_79 rfl ?_
        refine V_iload_n 4 X dX12_areWaxed_81 rfl rfl ?_
        refine V_iconst (v := 1) X dX12_areWaxed_82 (by decide) ?_
        refine V_isub X dX12_areWaxed_83 ?_
        refine V_icmp_eq (tgt := 106) X dX12_areWaxed_84 (by decide) ?_ ?_
        · refine V_sub [1, 2, 3, 4, 5, 0, 7] rfl ?_
          exact bX12_areWaxed_106 X E hr hZ N rc3 hc3 rc37 hc37 v1 v2 v3 v4 v5_9 v7 s8
        · refine V_aload_n 1 X dX12_areWaxed_87 rfl rfl ?_
          refine V_getR (k1 := 10) 29 X dX12_areWaxed_88 co12 (kM hZ 0 _ rfl) (by decide) rfl rfl wfX12_38 ?_
          refine V_iload 7 X dX12_areWaxed_91 rfl ?_
          refine V_iald X dX12_areWaxed_93 (kM hZ 10 _ rfl) ?_
          refine V_aload_n 1 X dX12_areWaxed_94 rfl rfl ?_
          refine V_getR (k1 := 10) 29 X dX12_areWaxed_95 co12 (kM hZ 0 _ rfl) (by decide) rfl rfl wfX12_38 ?_
          refine V_iload 7 X dX12_areWaxed_98 rfl ?_
          refine V_iconst (v := 1) X dX12_areWaxed_100 (by decide) ?_
          refine V_iadd X dX12_areWaxed_101 ?_
          refine V_iald X dX12_areWaxed_102 (kM hZ 10 _ rfl) ?_
          refine V_icmp_gt (tgt := 110) X dX12_areWaxed_103 (by decide) ?_ ?_
          · refine V_sub [1, 2, 3, 4, 5, 0, 7] rfl ?_
            exact bX12_areWaxed_110 X E hr hZ N rc3 hc3 rc37 hc37 v1 v2 v3 v4 v5_9 v7 s8
          · refine V_sub [1, 2, 3, 4, 5, 0, 7] rfl ?_
            exact bX12_areWaxed_106 X E hr hZ N rc3 hc3 rc37 hc37 v1 v2 v3 v4 v5_9 v7 s8
def fX12_areWaxed_l37 (N : Nat) (rc3 : Int32 → Int32 → Int32 → Int32 → Mem → Option (Int32 × Mem)) : Nat → Int32 → Int32 → Int32 → Int32 → Int32 → Int32 → Int32 → Mem → Option (Int32 × Mem)
  | 0 => fun _ _ _ _ _ _ _ _ => none
  | n + 1 => fX12_areWaxed_b37 N rc3 (fX12_areWaxed_l37 N rc3 n)
theorem lX12_areWaxed_37 {x : Cx} {z : Sx} (X : XG x z RX12 cX12_areWaxed 8 5 113) (E : XE x z) (hr : XR x (some .boolean)) (hZ : z.2.2.2.1 = kdM) (N : Nat) (rc3 : Int32 → Int32 → Int32 → Int32 → Mem → Option (Int32 × Mem)) (hc3 : ∀ (v1 : Int32) (v2 : Int32) (v3 : Int32) (v4 : Int32) (σ : Mem), VK x z 8 (BQ QI x z) 3 [(0, .ref (z.2.2.1 0)), (1, .int v1), (2, .int v2), (3, .int v3), (4, .int v4)] [] σ (rc3 v1 v2 v3 v4 σ)) (n : Nat) (v1 : Int32) (v2 : Int32) (v3 : Int32) (v4 : Int32) (v5 : Int32) (v6 : Int32) (v7 : Int32) (σ : Mem) : VK x z 8 (BQ QI x z) 37 [(0, .ref (z.2.2.1 0)), (1, .int v1), (2, .int v2), (3, .int v3), (4, .int v4), (5, .int v5), (6, .int v6), (7, .int v7)] [] σ (fX12_areWaxed_l37 N rc3 n v1 v2 v3 v4 v5 v6 v7 σ) := by
  induction n generalizing v1 v2 v3 v4 v5 v6 v7 σ with
  | zero => exact V_none
  | succ n ih => exact bX12_areWaxed_37 X E hr hZ N rc3 hc3 (fX12_areWaxed_l37 N rc3 n) ih v1 v2 v3 v4 v5 v6 v7 σ
def fX12_areWaxed_b30 (N : Nat) (rc3 : Int32 → Int32 → Int32 → Int32 → Mem → Option (Int32 × Mem)) (v1 : Int32) (v2 : Int32) (v3 : Int32) (v4 : Int32) (v5 : Int32) (t0 : Int32) (σ : Mem) : Option (Int32 × Mem) :=
  lt_ t0 (fun v6_3 => lt_ (v3 - 1) (fun v7_4 => fX12_areWaxed_l37 N rc3 N v1 v2 v3 v4 v5 v6_3 v7_4 σ))
set_option maxRecDepth 100000 in
set_option maxHeartbeats 4000000 in
theorem bX12_areWaxed_30 {x : Cx} {z : Sx} (X : XG x z RX12 cX12_areWaxed 8 5 113) (E : XE x z) (hr : XR x (some .boolean)) (hZ : z.2.2.2.1 = kdM) (N : Nat) (rc3 : Int32 → Int32 → Int32 → Int32 → Mem → Option (Int32 × Mem)) (hc3 : ∀ (v1 : Int32) (v2 : Int32) (v3 : Int32) (v4 : Int32) (σ : Mem), VK x z 8 (BQ QI x z) 3 [(0, .ref (z.2.2.1 0)), (1, .int v1), (2, .int v2), (3, .int v3), (4, .int v4)] [] σ (rc3 v1 v2 v3 v4 σ)) (v1 : Int32) (v2 : Int32) (v3 : Int32) (v4 : Int32) (v5 : Int32) (t0 : Int32) (σ : Mem) : VK x z 8 (BQ QI x z) 30 [(0, .ref (z.2.2.1 0)), (1, .int v1), (2, .int v2), (3, .int v3), (4, .int v4), (5, .int v5)] [.int t0] σ (fX12_areWaxed_b30 N rc3 v1 v2 v3 v4 v5 t0 σ) := by
  unfold fX12_areWaxed_b30
  refine V_istoreG (L' := fun v6_3 => [(6, .int v6_3), (0, .ref (z.2.2.1 0)), (1, .int v1), (2, .int v2), (3, .int v3), (4, .int v4), (5, .int v5)]) X dX12_areWaxed_30 (by decide) (fun _ => rfl) (fun v6_3 => ?_)
  refine V_iload_n 4 X dX12_areWaxed_32 rfl rfl ?_
  refine V_iconst (v := 1) X dX12_areWaxed_33 (by decide) ?_
  refine V_isub X dX12_areWaxed_34 ?_
  refine V_istoreG (L' := fun v7_4 => [(7, .int v7_4), (6, .int v6_3), (0, .ref (z.2.2.1 0)), (1, .int v1), (2, .int v2), (3, .int v3), (4, .int v4), (5, .int v5)]) X dX12_areWaxed_35 (by decide) (fun _ => rfl) (fun v7_4 => ?_)
  refine V_sub [2, 3, 4, 5, 6, 7, 1, 0] rfl ?_
  exact lX12_areWaxed_37 X E hr hZ N rc3 hc3 N v1 v2 v3 v4 v5 v6_3 v7_4 σ
def fX12_areWaxed_b3 (N : Nat) (rc3 : Int32 → Int32 → Int32 → Int32 → Mem → Option (Int32 × Mem)) (v1 : Int32) (v2 : Int32) (v3 : Int32) (v4 : Int32) (σ : Mem) : Option (Int32 × Mem) :=
  if 512 ≤ v4 then some (0, σ) else lt_ v4 (fun v5_2 => if (1 <<< ((3 * v3) &&& 31)) ≤ v4 then fX12_areWaxed_b30 N rc3 v1 v2 v3 v4 v5_2 0 σ else fX12_areWaxed_b30 N rc3 v1 v2 v3 v4 v5_2 1 σ)
set_option maxRecDepth 100000 in
set_option maxHeartbeats 4000000 in
theorem bX12_areWaxed_3 {x : Cx} {z : Sx} (X : XG x z RX12 cX12_areWaxed 8 5 113) (E : XE x z) (hr : XR x (some .boolean)) (hZ : z.2.2.2.1 = kdM) (N : Nat) (rc3 : Int32 → Int32 → Int32 → Int32 → Mem → Option (Int32 × Mem)) (hc3 : ∀ (v1 : Int32) (v2 : Int32) (v3 : Int32) (v4 : Int32) (σ : Mem), VK x z 8 (BQ QI x z) 3 [(0, .ref (z.2.2.1 0)), (1, .int v1), (2, .int v2), (3, .int v3), (4, .int v4)] [] σ (rc3 v1 v2 v3 v4 σ)) (v1 : Int32) (v2 : Int32) (v3 : Int32) (v4 : Int32) (σ : Mem) : VK x z 8 (BQ QI x z) 3 [(0, .ref (z.2.2.1 0)), (1, .int v1), (2, .int v2), (3, .int v3), (4, .int v4)] [] σ (fX12_areWaxed_b3 N rc3 v1 v2 v3 v4 σ) := by
  unfold fX12_areWaxed_b3
  refine V_iload 4 X dX12_areWaxed_3 rfl ?_
  refine V_sipush (v := 512) X dX12_areWaxed_5 (by decide) ?_
  refine V_icmp_ge (tgt := 179) X dX12_areWaxed_8 (by decide) ?_ ?_
  · refine V_iconst (v := 0) X dX12_areWaxed_179 (by decide) ?_
    exact V_zret X E hr dX12_areWaxed_180 (by decide)
  · refine V_iload 4 X dX12_areWaxed_11 rfl ?_
    refine V_istoreG (L' := fun v5_2 => [(5, .int v5_2), (0, .ref (z.2.2.1 0)), (1, .int v1), (2, .int v2), (3, .int v3), (4, .int v4)]) X dX12_areWaxed_13 (by decide) (fun _ => rfl) (fun v5_2 => ?_)
    refine V_iload 5 X dX12_areWaxed_15 rfl ?_
    refine V_iconst (v := 1) X dX12_areWaxed_17 (by decide) ?_
    refine V_iconst (v := 3) X dX12_areWaxed_18 (by decide) ?_
    refine V_iload_n 4 X dX12_areWaxed_19 rfl rfl ?_
    refine V_imul X dX12_areWaxed_20 ?_
    refine V_ishl X dX12_areWaxed_21 ?_
    refine V_icmp_ge (tgt := 29) X dX12_areWaxed_22 (by decide) ?_ ?_
    · refine V_iconst (v := 0) X dX12_areWaxed_29 (by decide) ?_
      refine V_sub [1, 2, 3, 4, 5, 0] rfl ?_
      exact bX12_areWaxed_30 X E hr hZ N rc3 hc3 v1 v2 v3 v4 v5_2 0 σ
    · refine V_iconst (v := 1) X dX12_areWaxed_25 (by decide) ?_
      refine V_goto (tgt := 30) X dX12_areWaxed_26 (by decide) ?_
      refine V_sub [1, 2, 3, 4, 5, 0] rfl ?_
      exact bX12_areWaxed_30 X E hr hZ N rc3 hc3 v1 v2 v3 v4 v5_2 1 σ
def fX12_areWaxed_l3 (N : Nat) : Nat → Int32 → Int32 → Int32 → Int32 → Mem → Option (Int32 × Mem)
  | 0 => fun _ _ _ _ _ => none
  | n + 1 => fX12_areWaxed_b3 N (fX12_areWaxed_l3 N n)
theorem lX12_areWaxed_3 {x : Cx} {z : Sx} (X : XG x z RX12 cX12_areWaxed 8 5 113) (E : XE x z) (hr : XR x (some .boolean)) (hZ : z.2.2.2.1 = kdM) (N : Nat) (n : Nat) (v1 : Int32) (v2 : Int32) (v3 : Int32) (v4 : Int32) (σ : Mem) : VK x z 8 (BQ QI x z) 3 [(0, .ref (z.2.2.1 0)), (1, .int v1), (2, .int v2), (3, .int v3), (4, .int v4)] [] σ (fX12_areWaxed_l3 N n v1 v2 v3 v4 σ) := by
  induction n generalizing v1 v2 v3 v4 σ with
  | zero => exact V_none
  | succ n ih => exact bX12_areWaxed_3 X E hr hZ N (fX12_areWaxed_l3 N n) ih v1 v2 v3 v4 σ
def fX12_areWaxed (N : Nat) (v1 : Int32) (v2 : Int32) (v3 : Int32) (σ : Mem) : Option (Int32 × Mem) :=
  lt_ 0 (fun v4_1 => fX12_areWaxed_l3 N N v1 v2 v3 v4_1 σ)
set_option maxRecDepth 100000 in
set_option maxHeartbeats 4000000 in
theorem bX12_areWaxed_0 {x : Cx} {z : Sx} (X : XG x z RX12 cX12_areWaxed 8 5 113) (E : XE x z) (hr : XR x (some .boolean)) (hZ : z.2.2.2.1 = kdM) (N : Nat) (v1 : Int32) (v2 : Int32) (v3 : Int32) (σ : Mem) : VK x z 8 (BQ QI x z) 0 [(0, .ref (z.2.2.1 0)), (1, .int v1), (2, .int v2), (3, .int v3)] [] σ (fX12_areWaxed N v1 v2 v3 σ) := by
  unfold fX12_areWaxed
  refine V_iconst (v := 0) X dX12_areWaxed_0 (by decide) ?_
  refine V_istoreG (L' := fun v4_1 => [(4, .int v4_1), (0, .ref (z.2.2.1 0)), (1, .int v1), (2, .int v2), (3, .int v3)]) X dX12_areWaxed_1 (by decide) (fun _ => rfl) (fun v4_1 => ?_)
  refine V_sub [1, 2, 3, 4, 0] rfl ?_
  exact lX12_areWaxed_3 X E hr hZ N N v1 v2 v3 v4_1 σ
theorem kX12_areWaxed (l : Launch) (z : Sx) (hZ : z.2.2.2.1 = kdM) (N : Nat) (v1 : Int32) (v2 : Int32) (v3 : Int32) (σ : Mem) : Ct QI yX12_areWaxed cX12_areWaxed 8 (some .boolean) 5 113 l z [.ref (z.2.2.1 0), .int v1, .int v2, .int v3] σ (fX12_areWaxed N v1 v2 v3 σ) := by
  refine Ct_of (by decide +kernel) (Nat.le_of_ble_eq_true rfl) rfl ?_
  intro x _ X E hr
  exact bX12_areWaxed_0 X E hr hZ N v1 v2 v3 σ
def fX12_waxed_b26 (N : Nat) (rc26 : Int32 → Int32 → Int32 → Int32 → Mem → Option (Int32 × Mem)) (v2 : Int32) (v3 : Int32) (v4 : Int32) (v5 : Int32) (σ : Mem) : Option (Int32 × Mem) :=
  if 4 ≤ v5 then some ((-1), σ) else bd (fX12_areWaxed N v2 v3 v5 σ) (fun r6 s7 => if r6 = 0 then lt_ (v5 + 1) (fun v5_8 => rc26 v2 v3 v4 v5_8 s7) else if v4 = (-1) then some (v5, s7) else if v5 ≤ v4 then some ((-1), s7) else gd (inb v4 3) (some ((s7.1 10 v4.toNatClampNeg), s7)))
set_option maxRecDepth 100000 in
set_option maxHeartbeats 4000000 in
theorem bX12_waxed_26 {x : Cx} {z : Sx} (X : XG x z RX12 cX12_waxed 6 6 140) (E : XE x z) (hr : XR x (some .int)) (hZ : z.2.2.2.1 = kdM) (N : Nat) (rc26 : Int32 → Int32 → Int32 → Int32 → Mem → Option (Int32 × Mem)) (hc26 : ∀ (v2 : Int32) (v3 : Int32) (v4 : Int32) (v5 : Int32) (σ : Mem), VK x z 6 (BQ QI x z) 26 [(0, .ref (z.2.2.1 0)), (2, .int v2), (3, .int v3), (4, .int v4), (5, .int v5)] [] σ (rc26 v2 v3 v4 v5 σ)) (v2 : Int32) (v3 : Int32) (v4 : Int32) (v5 : Int32) (σ : Mem) : VK x z 6 (BQ QI x z) 26 [(0, .ref (z.2.2.1 0)), (2, .int v2), (3, .int v3), (4, .int v4), (5, .int v5)] [] σ (fX12_waxed_b26 N rc26 v2 v3 v4 v5 σ) := by
  unfold fX12_waxed_b26
  refine V_iload 4 X dX12_waxed_26 rfl ?_
  refine V_iconst (v := 4) X dX12_waxed_28 (by decide) ?_
  refine V_icmp_ge (tgt := 79) X dX12_waxed_29 (by decide) ?_ ?_
  · refine V_iconst (v := -1) X dX12_waxed_79 (by decide) ?_
    exact V_iret X E hr dX12_waxed_80
  · refine V_aload_n 0 X dX12_waxed_32 rfl rfl ?_
    refine V_iload_n 1 X dX12_waxed_33 rfl rfl ?_
    refine V_iload_n 2 X dX12_waxed_34 rfl rfl ?_
    refine V_iload 4 X dX12_waxed_35 rfl ?_
    refine V_callI [.int v2, .int v3, .int v5] [] X E dX12_waxed_37 (kX12_areWaxed x.2.1 z hZ N v2 v3 v5 σ) co12 (kM hZ 0 _ rfl) gcX12_281 hyX12_areWaxed rfl ⟨by decide, by decide⟩ rfl (Nat.le_of_ble_eq_true rfl) (fun r6 s7 => ?_)
    refine V_if_eq (tgt := 73) X dX12_waxed_40 (by decide) ?_ ?_
    · refine V_iincG (L' := fun v5_8 => [(5, .int v5_8), (0, .ref (z.2.2.1 0)), (2, .int v2), (3, .int v3), (4, .int v4)]) 4 X dX12_waxed_73 rfl rfl (by decide) (fun _ => rfl) (fun v5_8 => ?_)
      refine V_goto (tgt := 26) X dX12_waxed_76 (by decide) ?_
      refine V_sub [1, 2, 3, 4, 0] rfl ?_
      exact hc26 v2 v3 v4 v5_8 s7
    · refine V_iload 3 X dX12_waxed_43 rfl ?_
      refine V_iconst (v := -1) X dX12_waxed_45 (by decide) ?_
      refine V_icmp_ne (tgt := 54) X dX12_waxed_46 (by decide) ?_ ?_
      · refine V_iload 3 X dX12_waxed_54 rfl ?_
        refine V_iload 4 X dX12_waxed_56 rfl ?_
        refine V_icmp_ge (tgt := 71) X dX12_waxed_58 (by decide) ?_ ?_
        · refine V_iconst (v := -1) X dX12_waxed_71 (by decide) ?_
          exact V_iret X E hr dX12_waxed_72
        · refine V_aload_n 0 X dX12_waxed_61 rfl rfl ?_
          refine V_getR (k1 := 10) 29 X dX12_waxed_62 co12 (kM hZ 0 _ rfl) (by decide) rfl rfl wfX12_38 ?_
          refine V_iload 3 X dX12_waxed_65 rfl ?_
          refine V_iald X dX12_waxed_67 (kM hZ 10 _ rfl) ?_
          refine V_goto (tgt := 72) X dX12_waxed_68 (by decide) ?_
          exact V_iret X E hr dX12_waxed_72
      · refine V_iload 4 X dX12_waxed_49 rfl ?_
        refine V_goto (tgt := 72) X dX12_waxed_51 (by decide) ?_
        exact V_iret X E hr dX12_waxed_72
def fX12_waxed_l26 (N : Nat) : Nat → Int32 → Int32 → Int32 → Int32 → Mem → Option (Int32 × Mem)
  | 0 => fun _ _ _ _ _ => none
  | n + 1 => fX12_waxed_b26 N (fX12_waxed_l26 N n)
theorem lX12_waxed_26 {x : Cx} {z : Sx} (X : XG x z RX12 cX12_waxed 6 6 140) (E : XE x z) (hr : XR x (some .int)) (hZ : z.2.2.2.1 = kdM) (N : Nat) (n : Nat) (v2 : Int32) (v3 : Int32) (v4 : Int32) (v5 : Int32) (σ : Mem) : VK x z 6 (BQ QI x z) 26 [(0, .ref (z.2.2.1 0)), (2, .int v2), (3, .int v3), (4, .int v4), (5, .int v5)] [] σ (fX12_waxed_l26 N n v2 v3 v4 v5 σ) := by
  induction n generalizing v2 v3 v4 v5 σ with
  | zero => exact V_none
  | succ n ih => exact bX12_waxed_26 X E hr hZ N (fX12_waxed_l26 N n) ih v2 v3 v4 v5 σ
def fX12_waxed (N : Nat) (v1 : Int32) (v2 : Int32) (v3 : Int32) (v4 : Int32) (σ : Mem) : Option (Int32 × Mem) :=
  bd (fX12_isChamber N v1 σ) (fun r1 s2 => if r1 = 0 then some ((-1), s2) else bd (fX12_isMotion N v2 s2) (fun r3 s4 => if r3 = 0 then some ((-1), s4) else if (-1) ≤ v4 then lt_ 0 (fun v5_5 => fX12_waxed_l26 N N v2 v3 v4 v5_5 s4) else some ((-1), s4)))
set_option maxRecDepth 100000 in
set_option maxHeartbeats 4000000 in
theorem bX12_waxed_0 {x : Cx} {z : Sx} (X : XG x z RX12 cX12_waxed 6 6 140) (E : XE x z) (hr : XR x (some .int)) (hZ : z.2.2.2.1 = kdM) (N : Nat) (v1 : Int32) (v2 : Int32) (v3 : Int32) (v4 : Int32) (σ : Mem) : VK x z 6 (BQ QI x z) 0 [(0, .ref (z.2.2.1 0)), (1, .int v1), (2, .int v2), (3, .int v3), (4, .int v4)] [] σ (fX12_waxed N v1 v2 v3 v4 σ) := by
  unfold fX12_waxed
  refine V_aload_n 0 X dX12_waxed_0 rfl rfl ?_
  refine V_iload_n 1 X dX12_waxed_1 rfl rfl ?_
  refine V_callI [.int v1] [] X E dX12_waxed_2 (kX12_isChamber x.2.1 z hZ N v1 σ) co12 (kM hZ 0 _ rfl) gcX12_165 hyX12_isChamber rfl ⟨by decide, by decide⟩ rfl (Nat.le_of_ble_eq_true rfl) (fun r1 s2 => ?_)
  refine V_if_eq (tgt := 21) X dX12_waxed_5 (by decide) ?_ ?_
  · refine V_iconst (v := -1) X dX12_waxed_21 (by decide) ?_
    exact V_iret X E hr dX12_waxed_22
  · refine V_iload_n 2 X dX12_waxed_8 rfl rfl ?_
    refine V_calSI [.int v2] [] X E dX12_waxed_9 (kX12_isMotion x.2.1 z hZ N v2 s2) gcX12_210 hyX12_isMotion rfl ⟨by decide, by decide⟩ rfl (Nat.le_of_ble_eq_true rfl) (fun r3 s4 => ?_)
    refine V_if_eq (tgt := 21) X dX12_waxed_12 (by decide) ?_ ?_
    · refine V_iconst (v := -1) X dX12_waxed_21 (by decide) ?_
      exact V_iret X E hr dX12_waxed_22
    · refine V_iload 4 X dX12_waxed_15 rfl ?_
      refine V_iconst (v := -1) X dX12_waxed_17 (by decide) ?_
      refine V_icmp_ge (tgt := 23) X dX12_waxed_18 (by decide) ?_ ?_
      · refine V_iconst (v := 0) X dX12_waxed_23 (by decide) ?_
        refine V_istoreG (L' := fun v5_5 => [(5, .int v5_5), (0, .ref (z.2.2.1 0)), (1, .int v1), (2, .int v2), (3, .int v3), (4, .int v4)]) X dX12_waxed_24 (by decide) (fun _ => rfl) (fun v5_5 => ?_)
        refine V_sub [1, 3, 4, 5, 0] rfl ?_
        exact lX12_waxed_26 X E hr hZ N N v2 v3 v4 v5_5 s4
      · refine V_iconst (v := -1) X dX12_waxed_21 (by decide) ?_
        exact V_iret X E hr dX12_waxed_22
theorem kX12_waxed (l : Launch) (z : Sx) (hZ : z.2.2.2.1 = kdM) (N : Nat) (v1 : Int32) (v2 : Int32) (v3 : Int32) (v4 : Int32) (σ : Mem) : Ct QI yX12_waxed cX12_waxed 6 (some .int) 6 140 l z [.ref (z.2.2.1 0), .int v1, .int v2, .int v3, .int v4] σ (fX12_waxed N v1 v2 v3 v4 σ) := by
  refine Ct_of (by decide +kernel) (Nat.le_of_ble_eq_true rfl) rfl ?_
  intro x _ X E hr
  exact bX12_waxed_0 X E hr hZ N v1 v2 v3 v4 σ
def fX12_turn_b30 (N : Nat) (rc30 : Int32 → Int32 → Int32 → Mem → Option (Int32 × Mem)) (v2 : Int32) (v3 : Int32) (v4 : Int32) (σ : Mem) : Option (Int32 × Mem) :=
  if 40 < v4 then some ((-1), σ) else bd (fX12_sleeps N σ) (fun r11 s12 => bd (fX12_answers N v2 s12) (fun r13 s14 => if r13 = v3 then lt_ (v4 + 1) (fun v4_15 => rc30 v2 v3 v4_15 s14) else some (v4, s14)))
set_option maxRecDepth 100000 in
set_option maxHeartbeats 4000000 in
theorem bX12_turn_30 {x : Cx} {z : Sx} (X : XG x z RX12 cX12_turn 5 5 113) (E : XE x z) (hr : XR x (some .int)) (hZ : z.2.2.2.1 = kdM) (N : Nat) (rc30 : Int32 → Int32 → Int32 → Mem → Option (Int32 × Mem)) (hc30 : ∀ (v2 : Int32) (v3 : Int32) (v4 : Int32) (σ : Mem), VK x z 5 (BQ QI x z) 30 [(0, .ref (z.2.2.1 0)), (2, .int v2), (3, .int v3), (4, .int v4)] [] σ (rc30 v2 v3 v4 σ)) (v2 : Int32) (v3 : Int32) (v4 : Int32) (σ : Mem) : VK x z 5 (BQ QI x z) 30 [(0, .ref (z.2.2.1 0)), (2, .int v2), (3, .int v3), (4, .int v4)] [] σ (fX12_turn_b30 N rc30 v2 v3 v4 σ) := by
  unfold fX12_turn_b30
  refine V_iload 3 X dX12_turn_30 rfl ?_
  refine V_bipush (v := 40) X dX12_turn_32 (by decide) ?_
  refine V_icmp_gt (tgt := 59) X dX12_turn_34 (by decide) ?_ ?_
  · refine V_iconst (v := -1) X dX12_turn_59 (by decide) ?_
    exact V_iret X E hr dX12_turn_60
  · refine V_aload_n 0 X dX12_turn_37 rfl rfl ?_
    refine V_callV [] [] X E dX12_turn_38 (kX12_sleeps x.2.1 z hZ N σ) co12 (kM hZ 0 _ rfl) gcX12_252 hyX12_sleeps rfl ⟨by decide, by decide⟩ rfl (Nat.le_of_ble_eq_true rfl) (fun r11 s12 => ?_)
    refine V_aload_n 0 X dX12_turn_41 rfl rfl ?_
    refine V_iload_n 1 X dX12_turn_42 rfl rfl ?_
    refine V_callI [.int v2] [] X E dX12_turn_43 (kX12_answers x.2.1 z hZ N v2 s12) co12 (kM hZ 0 _ rfl) gcX12_216 hyX12_answers rfl ⟨by decide, by decide⟩ rfl (Nat.le_of_ble_eq_true rfl) (fun r13 s14 => ?_)
    refine V_iload_n 2 X dX12_turn_46 rfl rfl ?_
    refine V_icmp_eq (tgt := 53) X dX12_turn_47 (by decide) ?_ ?_
    · refine V_iincG (L' := fun v4_15 => [(4, .int v4_15), (0, .ref (z.2.2.1 0)), (2, .int v2), (3, .int v3)]) 3 X dX12_turn_53 rfl rfl (by decide) (fun _ => rfl) (fun v4_15 => ?_)
      refine V_goto (tgt := 30) X dX12_turn_56 (by decide) ?_
      refine V_sub [1, 2, 3, 0] rfl ?_
      exact hc30 v2 v3 v4_15 s14
    · refine V_iload 3 X dX12_turn_50 rfl ?_
      exact V_iret X E hr dX12_turn_52
def fX12_turn_l30 (N : Nat) : Nat → Int32 → Int32 → Int32 → Mem → Option (Int32 × Mem)
  | 0 => fun _ _ _ _ => none
  | n + 1 => fX12_turn_b30 N (fX12_turn_l30 N n)
theorem lX12_turn_30 {x : Cx} {z : Sx} (X : XG x z RX12 cX12_turn 5 5 113) (E : XE x z) (hr : XR x (some .int)) (hZ : z.2.2.2.1 = kdM) (N : Nat) (n : Nat) (v2 : Int32) (v3 : Int32) (v4 : Int32) (σ : Mem) : VK x z 5 (BQ QI x z) 30 [(0, .ref (z.2.2.1 0)), (2, .int v2), (3, .int v3), (4, .int v4)] [] σ (fX12_turn_l30 N n v2 v3 v4 σ) := by
  induction n generalizing v2 v3 v4 σ with
  | zero => exact V_none
  | succ n ih => exact bX12_turn_30 X E hr hZ N (fX12_turn_l30 N n) ih v2 v3 v4 σ
def fX12_turn (N : Nat) (v1 : Int32) (v2 : Int32) (σ : Mem) : Option (Int32 × Mem) :=
  bd (fX12_isChamber N v1 σ) (fun r1 s2 => if r1 = 0 then some ((-1), s2) else bd (fX12_isMotion N v2 s2) (fun r3 s4 => if r3 = 0 then some ((-1), s4) else bd (fX12_asTold N s4) (fun r5 s6 => bd (fX12_answers N v2 s6) (fun r7 s8 => lt_ r7 (fun v3_9 => lt_ 1 (fun v4_10 => fX12_turn_l30 N N v2 v3_9 v4_10 s8))))))
set_option maxRecDepth 100000 in
set_option maxHeartbeats 4000000 in
theorem bX12_turn_0 {x : Cx} {z : Sx} (X : XG x z RX12 cX12_turn 5 5 113) (E : XE x z) (hr : XR x (some .int)) (hZ : z.2.2.2.1 = kdM) (N : Nat) (v1 : Int32) (v2 : Int32) (σ : Mem) : VK x z 5 (BQ QI x z) 0 [(0, .ref (z.2.2.1 0)), (1, .int v1), (2, .int v2)] [] σ (fX12_turn N v1 v2 σ) := by
  unfold fX12_turn
  refine V_aload_n 0 X dX12_turn_0 rfl rfl ?_
  refine V_iload_n 1 X dX12_turn_1 rfl rfl ?_
  refine V_callI [.int v1] [] X E dX12_turn_2 (kX12_isChamber x.2.1 z hZ N v1 σ) co12 (kM hZ 0 _ rfl) gcX12_165 hyX12_isChamber rfl ⟨by decide, by decide⟩ rfl (Nat.le_of_ble_eq_true rfl) (fun r1 s2 => ?_)
  refine V_if_eq (tgt := 15) X dX12_turn_5 (by decide) ?_ ?_
  · refine V_iconst (v := -1) X dX12_turn_15 (by decide) ?_
    exact V_iret X E hr dX12_turn_16
  · refine V_iload_n 2 X dX12_turn_8 rfl rfl ?_
    refine V_calSI [.int v2] [] X E dX12_turn_9 (kX12_isMotion x.2.1 z hZ N v2 s2) gcX12_210 hyX12_isMotion rfl ⟨by decide, by decide⟩ rfl (Nat.le_of_ble_eq_true rfl) (fun r3 s4 => ?_)
    refine V_if_ne (tgt := 17) X dX12_turn_12 (by decide) ?_ ?_
    · refine V_aload_n 0 X dX12_turn_17 rfl rfl ?_
      refine V_callV [] [] X E dX12_turn_18 (kX12_asTold x.2.1 z hZ N s4) co12 (kM hZ 0 _ rfl) gcX12_213 hyX12_asTold rfl ⟨by decide, by decide⟩ rfl (Nat.le_of_ble_eq_true rfl) (fun r5 s6 => ?_)
      refine V_aload_n 0 X dX12_turn_21 rfl rfl ?_
      refine V_iload_n 2 X dX12_turn_22 rfl rfl ?_
      refine V_callI [.int v2] [] X E dX12_turn_23 (kX12_answers x.2.1 z hZ N v2 s6) co12 (kM hZ 0 _ rfl) gcX12_216 hyX12_answers rfl ⟨by decide, by decide⟩ rfl (Nat.le_of_ble_eq_true rfl) (fun r7 s8 => ?_)
      refine V_istore_nG (L' := fun v3_9 => [(3, .int v3_9), (0, .ref (z.2.2.1 0)), (1, .int v1), (2, .int v2)]) X dX12_turn_26 rfl (by decide) (fun _ => rfl) (fun v3_9 => ?_)
      refine V_iconst (v := 1) X dX12_turn_27 (by decide) ?_
      refine V_istoreG (L' := fun v4_10 => [(4, .int v4_10), (3, .int v3_9), (0, .ref (z.2.2.1 0)), (1, .int v1), (2, .int v2)]) X dX12_turn_28 (by decide) (fun _ => rfl) (fun v4_10 => ?_)
      refine V_sub [2, 4, 1, 0] rfl ?_
      exact lX12_turn_30 X E hr hZ N N v2 v3_9 v4_10 s8
    · refine V_iconst (v := -1) X dX12_turn_15 (by decide) ?_
      exact V_iret X E hr dX12_turn_16
theorem kX12_turn (l : Launch) (z : Sx) (hZ : z.2.2.2.1 = kdM) (N : Nat) (v1 : Int32) (v2 : Int32) (σ : Mem) : Ct QI yX12_turn cX12_turn 5 (some .int) 5 113 l z [.ref (z.2.2.1 0), .int v1, .int v2] σ (fX12_turn N v1 v2 σ) := by
  refine Ct_of (by decide +kernel) (Nat.le_of_ble_eq_true rfl) rfl ?_
  intro x _ X E hr
  exact bX12_turn_0 X E hr hZ N v1 v2 σ
def fX12_isWon_b50 (N : Nat) (rc10 : Int32 → Int32 → Int32 → Int32 → Mem → Option (Int32 × Mem)) (v1 : Int32) (v3 : Int32) (v4 : Int32) (v5 : Int32) (σ : Mem) : Option (Int32 × Mem) :=
  lt_ (v5 + 1) (fun v5_12 => rc10 v1 v3 v4 v5_12 σ)
set_option maxRecDepth 100000 in
set_option maxHeartbeats 4000000 in
theorem bX12_isWon_50 {x : Cx} {z : Sx} (X : XG x z RX12 cX12_isWon 7 5 113) (E : XE x z) (hr : XR x (some .boolean)) (hZ : z.2.2.2.1 = kdM) (N : Nat) (rc10 : Int32 → Int32 → Int32 → Int32 → Mem → Option (Int32 × Mem)) (hc10 : ∀ (v1 : Int32) (v3 : Int32) (v4 : Int32) (v5 : Int32) (σ : Mem), VK x z 7 (BQ QI x z) 10 [(0, .ref (z.2.2.1 0)), (1, .int v1), (3, .int v3), (4, .int v4), (5, .int v5)] [] σ (rc10 v1 v3 v4 v5 σ)) (v1 : Int32) (v3 : Int32) (v4 : Int32) (v5 : Int32) (σ : Mem) : VK x z 7 (BQ QI x z) 50 [(0, .ref (z.2.2.1 0)), (1, .int v1), (3, .int v3), (4, .int v4), (5, .int v5)] [] σ (fX12_isWon_b50 N rc10 v1 v3 v4 v5 σ) := by
  unfold fX12_isWon_b50
  refine V_iincG (L' := fun v5_12 => [(5, .int v5_12), (0, .ref (z.2.2.1 0)), (1, .int v1), (3, .int v3), (4, .int v4)]) 4 X dX12_isWon_50 rfl rfl (by decide) (fun _ => rfl) (fun v5_12 => ?_)
  refine V_goto (tgt := 10) X dX12_isWon_53 (by decide) ?_
  refine V_sub [1, 2, 3, 4, 0] rfl ?_
  exact hc10 v1 v3 v4 v5_12 σ
def fX12_isWon_b10 (N : Nat) (rc10 : Int32 → Int32 → Int32 → Int32 → Mem → Option (Int32 × Mem)) (v1 : Int32) (v3 : Int32) (v4 : Int32) (v5 : Int32) (σ : Mem) : Option (Int32 × Mem) :=
  if v3 ≤ v5 then bd (fX12_answers N v1 σ) (fun r5 s6 => gd (decide (r5 = 0 ∨ r5 = 1)) (some (r5, s6))) else lt_ (rmI v4 9) (fun v6_7 => lt_ (v4 / 9) (fun v4_8 => bd (fX12_isPiece N v6_7 σ) (fun r9 s10 => if r9 = 0 then fX12_isWon_b50 N rc10 v1 v3 v4_8 v5 s10 else gd (inb v6_7 8) (gd (inb v6_7 8) (lt_ (pI s10 5 v6_7.toNatClampNeg ((s10.1 5 v6_7.toNatClampNeg) + 1)) (fun s11 => fX12_isWon_b50 N rc10 v1 v3 v4_8 v5 s11))))))
set_option maxRecDepth 100000 in
set_option maxHeartbeats 4000000 in
theorem bX12_isWon_10 {x : Cx} {z : Sx} (X : XG x z RX12 cX12_isWon 7 5 113) (E : XE x z) (hr : XR x (some .boolean)) (hZ : z.2.2.2.1 = kdM) (N : Nat) (rc10 : Int32 → Int32 → Int32 → Int32 → Mem → Option (Int32 × Mem)) (hc10 : ∀ (v1 : Int32) (v3 : Int32) (v4 : Int32) (v5 : Int32) (σ : Mem), VK x z 7 (BQ QI x z) 10 [(0, .ref (z.2.2.1 0)), (1, .int v1), (3, .int v3), (4, .int v4), (5, .int v5)] [] σ (rc10 v1 v3 v4 v5 σ)) (v1 : Int32) (v3 : Int32) (v4 : Int32) (v5 : Int32) (σ : Mem) : VK x z 7 (BQ QI x z) 10 [(0, .ref (z.2.2.1 0)), (1, .int v1), (3, .int v3), (4, .int v4), (5, .int v5)] [] σ (fX12_isWon_b10 N rc10 v1 v3 v4 v5 σ) := by
  unfold fX12_isWon_b10
  refine V_iload 4 X dX12_isWon_10 rfl ?_
  refine V_iload_n 2 X dX12_isWon_12 rfl rfl ?_
  refine V_icmp_ge (tgt := 56) X dX12_isWon_13 (by decide) ?_ ?_
  · refine V_aload_n 0 X dX12_isWon_56 rfl rfl ?_
    refine V_iload_n 1 X dX12_isWon_57 rfl rfl ?_
    refine V_callI [.int v1] [] X E dX12_isWon_58 (kX12_answers x.2.1 z hZ N v1 σ) co12 (kM hZ 0 _ rfl) gcX12_216 hyX12_answers rfl ⟨by decide, by decide⟩ rfl (Nat.le_of_ble_eq_true rfl) (fun r5 s6 => ?_)
    exact V_zretG X E hr dX12_isWon_61
  · refine V_iload 3 X dX12_isWon_16 rfl ?_
    refine V_bipush (v := 9) X dX12_isWon_18 (by decide) ?_
    refine V_iremKG X dX12_isWon_20 (by decide) ?_
    refine V_istoreG (L' := fun v6_7 => [(6, .int v6_7), (0, .ref (z.2.2.1 0)), (1, .int v1), (3, .int v3), (4, .int v4), (5, .int v5)]) X dX12_isWon_21 (by decide) (fun _ => rfl) (fun v6_7 => ?_)
    refine V_iload 4 X dX12_isWon_23 rfl ?_
    refine V_bipush (v := 9) X dX12_isWon_25 (by decide) ?_
    refine V_idivK X dX12_isWon_27 (by decide) ?_
    refine V_istoreG (L' := fun v4_8 => [(4, .int v4_8), (6, .int v6_7), (0, .ref (z.2.2.1 0)), (1, .int v1), (3, .int v3), (5, .int v5)]) X dX12_isWon_28 (by decide) (fun _ => rfl) (fun v4_8 => ?_)
    refine V_aload_n 2 X dX12_isWon_30 rfl rfl ?_
    refine V_iload 1 X dX12_isWon_31 rfl ?_
    refine V_callI [.int v6_7] [] X E dX12_isWon_33 (kX12_isPiece x.2.1 z hZ N v6_7 σ) co12 (kM hZ 0 _ rfl) gcX12_168 hyX12_isPiece rfl ⟨by decide, by decide⟩ rfl (Nat.le_of_ble_eq_true rfl) (fun r9 s10 => ?_)
    refine V_if_eq (tgt := 50) X dX12_isWon_36 (by decide) ?_ ?_
    · refine V_sub [2, 3, 4, 0, 5] rfl ?_
      exact bX12_isWon_50 X E hr hZ N rc10 hc10 v1 v3 v4_8 v5 s10
    · refine V_aload_n 2 X dX12_isWon_39 rfl rfl ?_
      refine V_getR (k1 := 5) 18 X dX12_isWon_40 co12 (kM hZ 0 _ rfl) (by decide) rfl rfl wfX12_23 ?_
      refine V_iload 1 X dX12_isWon_43 rfl ?_
      refine V_dup2 X dX12_isWon_45 rfl rfl ?_
      refine V_iald X dX12_isWon_46 (kM hZ 5 _ rfl) ?_
      refine V_iconst (v := 1) X dX12_isWon_47 (by decide) ?_
      refine V_iadd X dX12_isWon_48 ?_
      refine V_iastG X dX12_isWon_49 (kM hZ 5 _ rfl) (fun s11 => ?_)
      refine V_sub [2, 3, 4, 0, 5] rfl ?_
      exact bX12_isWon_50 X E hr hZ N rc10 hc10 v1 v3 v4_8 v5 s11
def fX12_isWon_l10 (N : Nat) : Nat → Int32 → Int32 → Int32 → Int32 → Mem → Option (Int32 × Mem)
  | 0 => fun _ _ _ _ _ => none
  | n + 1 => fX12_isWon_b10 N (fX12_isWon_l10 N n)
theorem lX12_isWon_10 {x : Cx} {z : Sx} (X : XG x z RX12 cX12_isWon 7 5 113) (E : XE x z) (hr : XR x (some .boolean)) (hZ : z.2.2.2.1 = kdM) (N : Nat) (n : Nat) (v1 : Int32) (v3 : Int32) (v4 : Int32) (v5 : Int32) (σ : Mem) : VK x z 7 (BQ QI x z) 10 [(0, .ref (z.2.2.1 0)), (1, .int v1), (3, .int v3), (4, .int v4), (5, .int v5)] [] σ (fX12_isWon_l10 N n v1 v3 v4 v5 σ) := by
  induction n generalizing v1 v3 v4 v5 σ with
  | zero => exact V_none
  | succ n ih => exact bX12_isWon_10 X E hr hZ N (fX12_isWon_l10 N n) ih v1 v3 v4 v5 σ
def fX12_isWon (N : Nat) (v1 : Int32) (v2 : Int32) (v3 : Int32) (σ : Mem) : Option (Int32 × Mem) :=
  bd (fX12_asTold N σ) (fun r1 s2 => lt_ v2 (fun v4_3 => lt_ 0 (fun v5_4 => fX12_isWon_l10 N N v1 v3 v4_3 v5_4 s2)))
set_option maxRecDepth 100000 in
set_option maxHeartbeats 4000000 in
theorem bX12_isWon_0 {x : Cx} {z : Sx} (X : XG x z RX12 cX12_isWon 7 5 113) (E : XE x z) (hr : XR x (some .boolean)) (hZ : z.2.2.2.1 = kdM) (N : Nat) (v1 : Int32) (v2 : Int32) (v3 : Int32) (σ : Mem) : VK x z 7 (BQ QI x z) 0 [(0, .ref (z.2.2.1 0)), (1, .int v1), (2, .int v2), (3, .int v3)] [] σ (fX12_isWon N v1 v2 v3 σ) := by
  unfold fX12_isWon
  refine V_aload_n 0 X dX12_isWon_0 rfl rfl ?_
  refine V_callV [] [] X E dX12_isWon_1 (kX12_asTold x.2.1 z hZ N σ) co12 (kM hZ 0 _ rfl) gcX12_213 hyX12_asTold rfl ⟨by decide, by decide⟩ rfl (Nat.le_of_ble_eq_true rfl) (fun r1 s2 => ?_)
  refine V_iload_n 2 X dX12_isWon_4 rfl rfl ?_
  refine V_istoreG (L' := fun v4_3 => [(4, .int v4_3), (0, .ref (z.2.2.1 0)), (1, .int v1), (2, .int v2), (3, .int v3)]) X dX12_isWon_5 (by decide) (fun _ => rfl) (fun v4_3 => ?_)
  refine V_iconst (v := 0) X dX12_isWon_7 (by decide) ?_
  refine V_istoreG (L' := fun v5_4 => [(5, .int v5_4), (4, .int v4_3), (0, .ref (z.2.2.1 0)), (1, .int v1), (2, .int v2), (3, .int v3)]) X dX12_isWon_8 (by decide) (fun _ => rfl) (fun v5_4 => ?_)
  refine V_sub [2, 3, 5, 1, 0] rfl ?_
  exact lX12_isWon_10 X E hr hZ N N v1 v3 v4_3 v5_4 s2
theorem kX12_isWon (l : Launch) (z : Sx) (hZ : z.2.2.2.1 = kdM) (N : Nat) (v1 : Int32) (v2 : Int32) (v3 : Int32) (σ : Mem) : Ct QI yX12_isWon cX12_isWon 7 (some .boolean) 5 113 l z [.ref (z.2.2.1 0), .int v1, .int v2, .int v3] σ (fX12_isWon N v1 v2 v3 σ) := by
  refine Ct_of (by decide +kernel) (Nat.le_of_ble_eq_true rfl) rfl ?_
  intro x _ X E hr
  exact bX12_isWon_0 X E hr hZ N v1 v2 v3 σ
def fX12_isGot_b86 (N : Nat) (rc8 : Int32 → Int32 → Int32 → Int32 → Int32 → Mem → Option (Int32 × Mem)) (v1 : Int32) (v2 : Int32) (v3 : Int32) (v4 : Int32) (v5 : Int32) (σ : Mem) : Option (Int32 × Mem) :=
  lt_ (v5 + 1) (fun v5_6 => rc8 v1 v2 v3 v4 v5_6 σ)
set_option maxRecDepth 100000 in
set_option maxHeartbeats 4000000 in
theorem bX12_isGot_86 {x : Cx} {z : Sx} (X : XG x z RX12 cX12_isGot 6 2 43) (E : XE x z) (hr : XR x (some .boolean)) (hZ : z.2.2.2.1 = kdM) (N : Nat) (rc8 : Int32 → Int32 → Int32 → Int32 → Int32 → Mem → Option (Int32 × Mem)) (hc8 : ∀ (v1 : Int32) (v2 : Int32) (v3 : Int32) (v4 : Int32) (v5 : Int32) (σ : Mem), VK x z 6 (BQ QI x z) 8 [(0, .ref (z.2.2.1 0)), (1, .int v1), (2, .int v2), (3, .int v3), (4, .int v4), (5, .int v5)] [] σ (rc8 v1 v2 v3 v4 v5 σ)) (v1 : Int32) (v2 : Int32) (v3 : Int32) (v4 : Int32) (v5 : Int32) (σ : Mem) : VK x z 6 (BQ QI x z) 86 [(0, .ref (z.2.2.1 0)), (1, .int v1), (2, .int v2), (3, .int v3), (4, .int v4), (5, .int v5)] [] σ (fX12_isGot_b86 N rc8 v1 v2 v3 v4 v5 σ) := by
  unfold fX12_isGot_b86
  refine V_iincG (L' := fun v5_6 => [(5, .int v5_6), (0, .ref (z.2.2.1 0)), (1, .int v1), (2, .int v2), (3, .int v3), (4, .int v4)]) 5 X dX12_isGot_86 rfl rfl (by decide) (fun _ => rfl) (fun v5_6 => ?_)
  refine V_goto (tgt := 8) X dX12_isGot_89 (by decide) ?_
  refine V_sub [1, 2, 3, 4, 5, 0] rfl ?_
  exact hc8 v1 v2 v3 v4 v5_6 σ
def fX12_isGot_b84 (N : Nat) (rc8 : Int32 → Int32 → Int32 → Int32 → Int32 → Mem → Option (Int32 × Mem)) (v1 : Int32) (v2 : Int32) (v3 : Int32) (v5 : Int32) (t0 : Int32) (σ : Mem) : Option (Int32 × Mem) :=
  lt_ t0 (fun v4_8 => fX12_isGot_b86 N rc8 v1 v2 v3 v4_8 v5 σ)
set_option maxRecDepth 100000 in
set_option maxHeartbeats 4000000 in
theorem bX12_isGot_84 {x : Cx} {z : Sx} (X : XG x z RX12 cX12_isGot 6 2 43) (E : XE x z) (hr : XR x (some .boolean)) (hZ : z.2.2.2.1 = kdM) (N : Nat) (rc8 : Int32 → Int32 → Int32 → Int32 → Int32 → Mem → Option (Int32 × Mem)) (hc8 : ∀ (v1 : Int32) (v2 : Int32) (v3 : Int32) (v4 : Int32) (v5 : Int32) (σ : Mem), VK x z 6 (BQ QI x z) 8 [(0, .ref (z.2.2.1 0)), (1, .int v1), (2, .int v2), (3, .int v3), (4, .int v4), (5, .int v5)] [] σ (rc8 v1 v2 v3 v4 v5 σ)) (v1 : Int32) (v2 : Int32) (v3 : Int32) (v5 : Int32) (t0 : Int32) (σ : Mem) : VK x z 6 (BQ QI x z) 84 [(0, .ref (z.2.2.1 0)), (1, .int v1), (2, .int v2), (3, .int v3), (5, .int v5)] [.int t0] σ (fX12_isGot_b84 N rc8 v1 v2 v3 v5 t0 σ) := by
  unfold fX12_isGot_b84
  refine V_istoreG (L' := fun v4_8 => [(4, .int v4_8), (0, .ref (z.2.2.1 0)), (1, .int v1), (2, .int v2), (3, .int v3), (5, .int v5)]) X dX12_isGot_84 (by decide) (fun _ => rfl) (fun v4_8 => ?_)
  refine V_sub [1, 2, 3, 4, 0, 5] rfl ?_
  exact bX12_isGot_86 X E hr hZ N rc8 hc8 v1 v2 v3 v4_8 v5 σ
def fX12_isGot_b83 (N : Nat) (rc8 : Int32 → Int32 → Int32 → Int32 → Int32 → Mem → Option (Int32 × Mem)) (v1 : Int32) (v2 : Int32) (v3 : Int32) (v5 : Int32) (σ : Mem) : Option (Int32 × Mem) :=
  fX12_isGot_b84 N rc8 v1 v2 v3 v5 0 σ
set_option maxRecDepth 100000 in
set_option maxHeartbeats 4000000 in
theorem bX12_isGot_83 {x : Cx} {z : Sx} (X : XG x z RX12 cX12_isGot 6 2 43) (E : XE x z) (hr : XR x (some .boolean)) (hZ : z.2.2.2.1 = kdM) (N : Nat) (rc8 : Int32 → Int32 → Int32 → Int32 → Int32 → Mem → Option (Int32 × Mem)) (hc8 : ∀ (v1 : Int32) (v2 : Int32) (v3 : Int32) (v4 : Int32) (v5 : Int32) (σ : Mem), VK x z 6 (BQ QI x z) 8 [(0, .ref (z.2.2.1 0)), (1, .int v1), (2, .int v2), (3, .int v3), (4, .int v4), (5, .int v5)] [] σ (rc8 v1 v2 v3 v4 v5 σ)) (v1 : Int32) (v2 : Int32) (v3 : Int32) (v5 : Int32) (σ : Mem) : VK x z 6 (BQ QI x z) 83 [(0, .ref (z.2.2.1 0)), (1, .int v1), (2, .int v2), (3, .int v3), (5, .int v5)] [] σ (fX12_isGot_b83 N rc8 v1 v2 v3 v5 σ) := by
  unfold fX12_isGot_b83
  refine V_iconst (v := 0) X dX12_isGot_83 (by decide) ?_
  refine V_sub [0, 1, 2, 3, 4] rfl ?_
  exact bX12_isGot_84 X E hr hZ N rc8 hc8 v1 v2 v3 v5 0 σ
def fX12_isGot_b58 (N : Nat) (rc8 : Int32 → Int32 → Int32 → Int32 → Int32 → Mem → Option (Int32 × Mem)) (v1 : Int32) (v2 : Int32) (v4 : Int32) (v5 : Int32) (t0 : Int32) (σ : Mem) : Option (Int32 × Mem) :=
  lt_ t0 (fun v3_7 => if v4 = 0 then fX12_isGot_b83 N rc8 v1 v2 v3_7 v5 σ else gd (inb ((9 * v1) + v5) 6561) (if (σ.1 11 ((9 * v1) + v5).toNatClampNeg) = 0 then fX12_isGot_b83 N rc8 v1 v2 v3_7 v5 σ else fX12_isGot_b84 N rc8 v1 v2 v3_7 v5 1 σ))
set_option maxRecDepth 100000 in
set_option maxHeartbeats 4000000 in
theorem bX12_isGot_58 {x : Cx} {z : Sx} (X : XG x z RX12 cX12_isGot 6 2 43) (E : XE x z) (hr : XR x (some .boolean)) (hZ : z.2.2.2.1 = kdM) (N : Nat) (rc8 : Int32 → Int32 → Int32 → Int32 → Int32 → Mem → Option (Int32 × Mem)) (hc8 : ∀ (v1 : Int32) (v2 : Int32) (v3 : Int32) (v4 : Int32) (v5 : Int32) (σ : Mem), VK x z 6 (BQ QI x z) 8 [(0, .ref (z.2.2.1 0)), (1, .int v1), (2, .int v2), (3, .int v3), (4, .int v4), (5, .int v5)] [] σ (rc8 v1 v2 v3 v4 v5 σ)) (v1 : Int32) (v2 : Int32) (v4 : Int32) (v5 : Int32) (t0 : Int32) (σ : Mem) : VK x z 6 (BQ QI x z) 58 [(0, .ref (z.2.2.1 0)), (1, .int v1), (2, .int v2), (4, .int v4), (5, .int v5)] [.int t0] σ (fX12_isGot_b58 N rc8 v1 v2 v4 v5 t0 σ) := by
  unfold fX12_isGot_b58
  refine V_istore_nG (L' := fun v3_7 => [(3, .int v3_7), (0, .ref (z.2.2.1 0)), (1, .int v1), (2, .int v2), (4, .int v4), (5, .int v5)]) X dX12_isGot_58 rfl (by decide) (fun _ => rfl) (fun v3_7 => ?_)
  refine V_iload 4 X dX12_isGot_59 rfl ?_
  refine V_if_eq (tgt := 83) X dX12_isGot_61 (by decide) ?_ ?_
  · refine V_sub [1, 2, 3, 0, 5] rfl ?_
    exact bX12_isGot_83 X E hr hZ N rc8 hc8 v1 v2 v3_7 v5 σ
  · refine V_aload_n 1 X dX12_isGot_64 rfl rfl ?_
    refine V_getR (k1 := 11) 30 X dX12_isGot_65 co12 (kM hZ 0 _ rfl) (by decide) rfl rfl wfX12_41 ?_
    refine V_bipush (v := 9) X dX12_isGot_68 (by decide) ?_
    refine V_iload_n 2 X dX12_isGot_70 rfl rfl ?_
    refine V_imul X dX12_isGot_71 ?_
    refine V_iload 5 X dX12_isGot_72 rfl ?_
    refine V_iadd X dX12_isGot_74 ?_
    refine V_zald X dX12_isGot_75 (kM hZ 11 _ rfl) ?_
    refine V_if_eq (tgt := 83) X dX12_isGot_76 (by decide) ?_ ?_
    · refine V_sub [1, 2, 3, 0, 5] rfl ?_
      exact bX12_isGot_83 X E hr hZ N rc8 hc8 v1 v2 v3_7 v5 σ
    · refine V_iconst (v := 1) X dX12_isGot_79 (by decide) ?_
      refine V_goto (tgt := 84) X dX12_isGot_80 (by decide) ?_
      refine V_sub [1, 2, 3, 0, 5] rfl ?_
      exact bX12_isGot_84 X E hr hZ N rc8 hc8 v1 v2 v3_7 v5 1 σ
def fX12_isGot_b53 (N : Nat) (rc8 : Int32 → Int32 → Int32 → Int32 → Int32 → Mem → Option (Int32 × Mem)) (v1 : Int32) (v2 : Int32) (v4 : Int32) (v5 : Int32) (σ : Mem) : Option (Int32 × Mem) :=
  fX12_isGot_b58 N rc8 v1 v2 v4 v5 1 σ
set_option maxRecDepth 100000 in
set_option maxHeartbeats 4000000 in
theorem bX12_isGot_53 {x : Cx} {z : Sx} (X : XG x z RX12 cX12_isGot 6 2 43) (E : XE x z) (hr : XR x (some .boolean)) (hZ : z.2.2.2.1 = kdM) (N : Nat) (rc8 : Int32 → Int32 → Int32 → Int32 → Int32 → Mem → Option (Int32 × Mem)) (hc8 : ∀ (v1 : Int32) (v2 : Int32) (v3 : Int32) (v4 : Int32) (v5 : Int32) (σ : Mem), VK x z 6 (BQ QI x z) 8 [(0, .ref (z.2.2.1 0)), (1, .int v1), (2, .int v2), (3, .int v3), (4, .int v4), (5, .int v5)] [] σ (rc8 v1 v2 v3 v4 v5 σ)) (v1 : Int32) (v2 : Int32) (v4 : Int32) (v5 : Int32) (σ : Mem) : VK x z 6 (BQ QI x z) 53 [(0, .ref (z.2.2.1 0)), (1, .int v1), (2, .int v2), (4, .int v4), (5, .int v5)] [] σ (fX12_isGot_b53 N rc8 v1 v2 v4 v5 σ) := by
  unfold fX12_isGot_b53
  refine V_iconst (v := 1) X dX12_isGot_53 (by decide) ?_
  refine V_goto (tgt := 58) X dX12_isGot_54 (by decide) ?_
  refine V_sub [0, 1, 2, 3, 4] rfl ?_
  exact bX12_isGot_58 X E hr hZ N rc8 hc8 v1 v2 v4 v5 1 σ
def fX12_isGot_b34 (N : Nat) (rc8 : Int32 → Int32 → Int32 → Int32 → Int32 → Mem → Option (Int32 × Mem)) (v1 : Int32) (v2 : Int32) (v3 : Int32) (v4 : Int32) (v5 : Int32) (σ : Mem) : Option (Int32 × Mem) :=
  if v3 = 0 then gd (inb ((9 * v1) + v5) 6561) (if (σ.1 11 ((9 * v1) + v5).toNatClampNeg) = 0 then fX12_isGot_b58 N rc8 v1 v2 v4 v5 0 σ else fX12_isGot_b53 N rc8 v1 v2 v4 v5 σ) else fX12_isGot_b53 N rc8 v1 v2 v4 v5 σ
set_option maxRecDepth 100000 in
set_option maxHeartbeats 4000000 in
theorem bX12_isGot_34 {x : Cx} {z : Sx} (X : XG x z RX12 cX12_isGot 6 2 43) (E : XE x z) (hr : XR x (some .boolean)) (hZ : z.2.2.2.1 = kdM) (N : Nat) (rc8 : Int32 → Int32 → Int32 → Int32 → Int32 → Mem → Option (Int32 × Mem)) (hc8 : ∀ (v1 : Int32) (v2 : Int32) (v3 : Int32) (v4 : Int32) (v5 : Int32) (σ : Mem), VK x z 6 (BQ QI x z) 8 [(0, .ref (z.2.2.1 0)), (1, .int v1), (2, .int v2), (3, .int v3), (4, .int v4), (5, .int v5)] [] σ (rc8 v1 v2 v3 v4 v5 σ)) (v1 : Int32) (v2 : Int32) (v3 : Int32) (v4 : Int32) (v5 : Int32) (σ : Mem) : VK x z 6 (BQ QI x z) 34 [(0, .ref (z.2.2.1 0)), (1, .int v1), (2, .int v2), (3, .int v3), (4, .int v4), (5, .int v5)] [] σ (fX12_isGot_b34 N rc8 v1 v2 v3 v4 v5 σ) := by
  unfold fX12_isGot_b34
  refine V_iload_n 3 X dX12_isGot_34 rfl rfl ?_
  refine V_if_ne (tgt := 53) X dX12_isGot_35 (by decide) ?_ ?_
  · refine V_sub [0, 1, 2, 4, 5] rfl ?_
    exact bX12_isGot_53 X E hr hZ N rc8 hc8 v1 v2 v4 v5 σ
  · refine V_aload_n 0 X dX12_isGot_38 rfl rfl ?_
    refine V_getR (k1 := 11) 30 X dX12_isGot_39 co12 (kM hZ 0 _ rfl) (by decide) rfl rfl wfX12_41 ?_
    refine V_bipush (v := 9) X dX12_isGot_42 (by decide) ?_
    refine V_iload_n 1 X dX12_isGot_44 rfl rfl ?_
    refine V_imul X dX12_isGot_45 ?_
    refine V_iload 5 X dX12_isGot_46 rfl ?_
    refine V_iadd X dX12_isGot_48 ?_
    refine V_zald X dX12_isGot_49 (kM hZ 11 _ rfl) ?_
    refine V_if_eq (tgt := 57) X dX12_isGot_50 (by decide) ?_ ?_
    · refine V_iconst (v := 0) X dX12_isGot_57 (by decide) ?_
      refine V_sub [0, 1, 2, 4, 5] rfl ?_
      exact bX12_isGot_58 X E hr hZ N rc8 hc8 v1 v2 v4 v5 0 σ
    · refine V_sub [0, 1, 2, 4, 5] rfl ?_
      exact bX12_isGot_53 X E hr hZ N rc8 hc8 v1 v2 v4 v5 σ
def fX12_isGot_b8 (N : Nat) (rc8 : Int32 → Int32 → Int32 → Int32 → Int32 → Mem → Option (Int32 × Mem)) (v1 : Int32) (v2 : Int32) (v3 : Int32) (v4 : Int32) (v5 : Int32) (σ : Mem) : Option (Int32 × Mem) :=
  if 9 ≤ v5 then if v2 = 0 then gd (decide (v4 = 0 ∨ v4 = 1)) (some (v4, σ)) else gd (decide (v3 = 0 ∨ v3 = 1)) (some (v3, σ)) else bd (fX12_isPiece N v5 σ) (fun r4 s5 => if r4 = 0 then if v5 = 8 then fX12_isGot_b34 N rc8 v1 v2 v3 v4 v5 s5 else fX12_isGot_b86 N rc8 v1 v2 v3 v4 v5 s5 else fX12_isGot_b34 N rc8 v1 v2 v3 v4 v5 s5)
set_option maxRecDepth 100000 in
set_option maxHeartbeats 4000000 in
theorem bX12_isGot_8 {x : Cx} {z : Sx} (X : XG x z RX12 cX12_isGot 6 2 43) (E : XE x z) (hr : XR x (some .boolean)) (hZ : z.2.2.2.1 = kdM) (N : Nat) (rc8 : Int32 → Int32 → Int32 → Int32 → Int32 → Mem → Option (Int32 × Mem)) (hc8 : ∀ (v1 : Int32) (v2 : Int32) (v3 : Int32) (v4 : Int32) (v5 : Int32) (σ : Mem), VK x z 6 (BQ QI x z) 8 [(0, .ref (z.2.2.1 0)), (1, .int v1), (2, .int v2), (3, .int v3), (4, .int v4), (5, .int v5)] [] σ (rc8 v1 v2 v3 v4 v5 σ)) (v1 : Int32) (v2 : Int32) (v3 : Int32) (v4 : Int32) (v5 : Int32) (σ : Mem) : VK x z 6 (BQ QI x z) 8 [(0, .ref (z.2.2.1 0)), (1, .int v1), (2, .int v2), (3, .int v3), (4, .int v4), (5, .int v5)] [] σ (fX12_isGot_b8 N rc8 v1 v2 v3 v4 v5 σ) := by
  unfold fX12_isGot_b8
  refine V_iload 5 X dX12_isGot_8 rfl ?_
  refine V_bipush (v := 9) X dX12_isGot_10 (by decide) ?_
  refine V_icmp_ge (tgt := 92) X dX12_isGot_12 (by decide) ?_ ?_
  · refine V_iload_n 2 X dX12_isGot_92 rfl rfl ?_
    refine V_if_eq (tgt := 100) X dX12_isGot_93 (by decide) ?_ ?_
    · refine V_iload 4 X dX12_isGot_100 rfl ?_
      exact V_zretG X E hr dX12_isGot_102
    · refine V_iload_n 3 X dX12_isGot_96 rfl rfl ?_
      refine V_goto (tgt := 102) X dX12_isGot_97 (by decide) ?_
      exact V_zretG X E hr dX12_isGot_102
  · refine V_aload_n 0 X dX12_isGot_15 rfl rfl ?_
    refine V_iload 5 X dX12_isGot_16 rfl ?_
    refine V_callI [.int v5] [] X E dX12_isGot_18 (kX12_isPiece x.2.1 z hZ N v5 σ) co12 (kM hZ 0 _ rfl) gcX12_168 hyX12_isPiece rfl ⟨by decide, by decide⟩ rfl (Nat.le_of_ble_eq_true rfl) (fun r4 s5 => ?_)
    refine V_if_ne (tgt := 34) X dX12_isGot_21 (by decide) ?_ ?_
    · refine V_sub [0, 1, 2, 3, 4, 5] rfl ?_
      exact bX12_isGot_34 X E hr hZ N rc8 hc8 v1 v2 v3 v4 v5 s5
    · refine V_iload 5 X dX12_isGot_24 rfl ?_
      refine V_bipush (v := 8) X dX12_isGot_26 (by decide) ?_
      refine V_icmp_eq (tgt := 34) X dX12_isGot_28 (by decide) ?_ ?_
      · refine V_sub [0, 1, 2, 3, 4, 5] rfl ?_
        exact bX12_isGot_34 X E hr hZ N rc8 hc8 v1 v2 v3 v4 v5 s5
      · refine V_goto (tgt := 86) X dX12_isGot_31 (by decide) ?_
        refine V_sub [0, 1, 2, 3, 4, 5] rfl ?_
        exact bX12_isGot_86 X E hr hZ N rc8 hc8 v1 v2 v3 v4 v5 s5
def fX12_isGot_l8 (N : Nat) : Nat → Int32 → Int32 → Int32 → Int32 → Int32 → Mem → Option (Int32 × Mem)
  | 0 => fun _ _ _ _ _ _ => none
  | n + 1 => fX12_isGot_b8 N (fX12_isGot_l8 N n)
theorem lX12_isGot_8 {x : Cx} {z : Sx} (X : XG x z RX12 cX12_isGot 6 2 43) (E : XE x z) (hr : XR x (some .boolean)) (hZ : z.2.2.2.1 = kdM) (N : Nat) (n : Nat) (v1 : Int32) (v2 : Int32) (v3 : Int32) (v4 : Int32) (v5 : Int32) (σ : Mem) : VK x z 6 (BQ QI x z) 8 [(0, .ref (z.2.2.1 0)), (1, .int v1), (2, .int v2), (3, .int v3), (4, .int v4), (5, .int v5)] [] σ (fX12_isGot_l8 N n v1 v2 v3 v4 v5 σ) := by
  induction n generalizing v1 v2 v3 v4 v5 σ with
  | zero => exact V_none
  | succ n ih => exact bX12_isGot_8 X E hr hZ N (fX12_isGot_l8 N n) ih v1 v2 v3 v4 v5 σ
def fX12_isGot (N : Nat) (v1 : Int32) (v2 : Int32) (σ : Mem) : Option (Int32 × Mem) :=
  lt_ 0 (fun v3_1 => lt_ 1 (fun v4_2 => lt_ 0 (fun v5_3 => fX12_isGot_l8 N N v1 v2 v3_1 v4_2 v5_3 σ)))
set_option maxRecDepth 100000 in
set_option maxHeartbeats 4000000 in
theorem bX12_isGot_0 {x : Cx} {z : Sx} (X : XG x z RX12 cX12_isGot 6 2 43) (E : XE x z) (hr : XR x (some .boolean)) (hZ : z.2.2.2.1 = kdM) (N : Nat) (v1 : Int32) (v2 : Int32) (σ : Mem) : VK x z 6 (BQ QI x z) 0 [(0, .ref (z.2.2.1 0)), (1, .int v1), (2, .int v2)] [] σ (fX12_isGot N v1 v2 σ) := by
  unfold fX12_isGot
  refine V_iconst (v := 0) X dX12_isGot_0 (by decide) ?_
  refine V_istore_nG (L' := fun v3_1 => [(3, .int v3_1), (0, .ref (z.2.2.1 0)), (1, .int v1), (2, .int v2)]) X dX12_isGot_1 rfl (by decide) (fun _ => rfl) (fun v3_1 => ?_)
  refine V_iconst (v := 1) X dX12_isGot_2 (by decide) ?_
  refine V_istoreG (L' := fun v4_2 => [(4, .int v4_2), (3, .int v3_1), (0, .ref (z.2.2.1 0)), (1, .int v1), (2, .int v2)]) X dX12_isGot_3 (by decide) (fun _ => rfl) (fun v4_2 => ?_)
  refine V_iconst (v := 0) X dX12_isGot_5 (by decide) ?_
  refine V_istoreG (L' := fun v5_3 => [(5, .int v5_3), (4, .int v4_2), (3, .int v3_1), (0, .ref (z.2.2.1 0)), (1, .int v1), (2, .int v2)]) X dX12_isGot_6 (by decide) (fun _ => rfl) (fun v5_3 => ?_)
  refine V_sub [3, 4, 5, 2, 1, 0] rfl ?_
  exact lX12_isGot_8 X E hr hZ N N v1 v2 v3_1 v4_2 v5_3 σ
theorem kX12_isGot (l : Launch) (z : Sx) (hZ : z.2.2.2.1 = kdM) (N : Nat) (v1 : Int32) (v2 : Int32) (σ : Mem) : Ct QI yX12_isGot cX12_isGot 6 (some .boolean) 2 43 l z [.ref (z.2.2.1 0), .int v1, .int v2] σ (fX12_isGot N v1 v2 σ) := by
  refine Ct_of (by decide +kernel) (Nat.le_of_ble_eq_true rfl) rfl ?_
  intro x _ X E hr
  exact bX12_isGot_0 X E hr hZ N v1 v2 σ
def fX12_lobby_b223 (N : Nat) (rc178 : Int32 → Int32 → Mem → Option (Int32 × Mem)) (v4 : Int32) (v6 : Int32) (σ : Mem) : Option (Int32 × Mem) :=
  lt_ (v6 + 1) (fun v6_23 => rc178 v4 v6_23 σ)
set_option maxRecDepth 100000 in
set_option maxHeartbeats 4000000 in
theorem bX12_lobby_223 {x : Cx} {z : Sx} (X : XG x z RX12 cX12_lobby 8 6 139) (E : XE x z) (hr : XR x (some .int)) (hZ : z.2.2.2.1 = kdM) (N : Nat) (rc178 : Int32 → Int32 → Mem → Option (Int32 × Mem)) (hc178 : ∀ (v4 : Int32) (v6 : Int32) (σ : Mem), VK x z 8 (BQ QI x z) 178 [(0, .ref (z.2.2.1 0)), (4, .int v4), (6, .int v6)] [] σ (rc178 v4 v6 σ)) (v4 : Int32) (v6 : Int32) (σ : Mem) : VK x z 8 (BQ QI x z) 223 [(0, .ref (z.2.2.1 0)), (4, .int v4), (6, .int v6)] [] σ (fX12_lobby_b223 N rc178 v4 v6 σ) := by
  unfold fX12_lobby_b223
  refine V_iincG (L' := fun v6_23 => [(6, .int v6_23), (0, .ref (z.2.2.1 0)), (4, .int v4)]) 2 X dX12_lobby_223 rfl rfl (by decide) (fun _ => rfl) (fun v6_23 => ?_)
  refine V_goto (tgt := 178) X dX12_lobby_226 (by decide) ?_
  refine V_sub [1, 2, 0] rfl ?_
  exact hc178 v4 v6_23 σ
def fX12_lobby_b201 (N : Nat) (rc178 : Int32 → Int32 → Mem → Option (Int32 × Mem)) (v4 : Int32) (v6 : Int32) (σ : Mem) : Option (Int32 × Mem) :=
  gd (inb v6 6561) (if (σ.1 11 v6.toNatClampNeg) = 0 then fX12_lobby_b223 N rc178 v4 v6 σ else if v4 = 0 then some (1, σ) else some (v6, σ))
set_option maxRecDepth 100000 in
set_option maxHeartbeats 4000000 in
theorem bX12_lobby_201 {x : Cx} {z : Sx} (X : XG x z RX12 cX12_lobby 8 6 139) (E : XE x z) (hr : XR x (some .int)) (hZ : z.2.2.2.1 = kdM) (N : Nat) (rc178 : Int32 → Int32 → Mem → Option (Int32 × Mem)) (hc178 : ∀ (v4 : Int32) (v6 : Int32) (σ : Mem), VK x z 8 (BQ QI x z) 178 [(0, .ref (z.2.2.1 0)), (4, .int v4), (6, .int v6)] [] σ (rc178 v4 v6 σ)) (v4 : Int32) (v6 : Int32) (σ : Mem) : VK x z 8 (BQ QI x z) 201 [(0, .ref (z.2.2.1 0)), (4, .int v4), (6, .int v6)] [] σ (fX12_lobby_b201 N rc178 v4 v6 σ) := by
  unfold fX12_lobby_b201
  refine V_aload_n 0 X dX12_lobby_201 rfl rfl ?_
  refine V_getR (k1 := 11) 30 X dX12_lobby_202 co12 (kM hZ 0 _ rfl) (by decide) rfl rfl wfX12_41 ?_
  refine V_iload 2 X dX12_lobby_205 rfl ?_
  refine V_zald X dX12_lobby_207 (kM hZ 11 _ rfl) ?_
  refine V_if_eq (tgt := 223) X dX12_lobby_208 (by decide) ?_ ?_
  · refine V_sub [0, 1, 2] rfl ?_
    exact bX12_lobby_223 X E hr hZ N rc178 hc178 v4 v6 σ
  · refine V_iload 1 X dX12_lobby_211 rfl ?_
    refine V_if_eq (tgt := 221) X dX12_lobby_213 (by decide) ?_ ?_
    · refine V_iconst (v := 1) X dX12_lobby_221 (by decide) ?_
      exact V_iret X E hr dX12_lobby_222
    · refine V_iload 2 X dX12_lobby_216 rfl ?_
      refine V_goto (tgt := 222) X dX12_lobby_218 (by decide) ?_
      exact V_iret X E hr dX12_lobby_222
def fX12_lobby_b178 (N : Nat) (rc178 : Int32 → Int32 → Mem → Option (Int32 × Mem)) (v4 : Int32) (v6 : Int32) (σ : Mem) : Option (Int32 × Mem) :=
  if 9 ≤ v6 then if v4 = 0 then some (0, σ) else some ((-1), σ) else bd (fX12_isPiece N v6 σ) (fun r20 s21 => if r20 = 0 then if v6 = 8 then fX12_lobby_b201 N rc178 v4 v6 s21 else fX12_lobby_b223 N rc178 v4 v6 s21 else fX12_lobby_b201 N rc178 v4 v6 s21)
set_option maxRecDepth 100000 in
set_option maxHeartbeats 4000000 in
theorem bX12_lobby_178 {x : Cx} {z : Sx} (X : XG x z RX12 cX12_lobby 8 6 139) (E : XE x z) (hr : XR x (some .int)) (hZ : z.2.2.2.1 = kdM) (N : Nat) (rc178 : Int32 → Int32 → Mem → Option (Int32 × Mem)) (hc178 : ∀ (v4 : Int32) (v6 : Int32) (σ : Mem), VK x z 8 (BQ QI x z) 178 [(0, .ref (z.2.2.1 0)), (4, .int v4), (6, .int v6)] [] σ (rc178 v4 v6 σ)) (v4 : Int32) (v6 : Int32) (σ : Mem) : VK x z 8 (BQ QI x z) 178 [(0, .ref (z.2.2.1 0)), (4, .int v4), (6, .int v6)] [] σ (fX12_lobby_b178 N rc178 v4 v6 σ) := by
  unfold fX12_lobby_b178
  refine V_iload 2 X dX12_lobby_178 rfl ?_
  refine V_bipush (v := 9) X dX12_lobby_180 (by decide) ?_
  refine V_icmp_ge (tgt := 229) X dX12_lobby_182 (by decide) ?_ ?_
  · refine V_iload 1 X dX12_lobby_229 rfl ?_
    refine V_if_eq (tgt := 238) X dX12_lobby_231 (by decide) ?_ ?_
    · refine V_iconst (v := 0) X dX12_lobby_238 (by decide) ?_
      exact V_iret X E hr dX12_lobby_239
    · refine V_iconst (v := -1) X dX12_lobby_234 (by decide) ?_
      refine V_goto (tgt := 239) X dX12_lobby_235 (by decide) ?_
      exact V_iret X E hr dX12_lobby_239
  · refine V_aload_n 0 X dX12_lobby_185 rfl rfl ?_
    refine V_iload 2 X dX12_lobby_186 rfl ?_
    refine V_callI [.int v6] [] X E dX12_lobby_188 (kX12_isPiece x.2.1 z hZ N v6 σ) co12 (kM hZ 0 _ rfl) gcX12_168 hyX12_isPiece rfl ⟨by decide, by decide⟩ rfl (Nat.le_of_ble_eq_true rfl) (fun r20 s21 => ?_)
    refine V_if_ne (tgt := 201) X dX12_lobby_191 (by decide) ?_ ?_
    · refine V_sub [0, 1, 2] rfl ?_
      exact bX12_lobby_201 X E hr hZ N rc178 hc178 v4 v6 s21
    · refine V_iload 2 X dX12_lobby_194 rfl ?_
      refine V_bipush (v := 8) X dX12_lobby_196 (by decide) ?_
      refine V_icmp_ne (tgt := 223) X dX12_lobby_198 (by decide) ?_ ?_
      · refine V_sub [0, 1, 2] rfl ?_
        exact bX12_lobby_223 X E hr hZ N rc178 hc178 v4 v6 s21
      · refine V_sub [0, 1, 2] rfl ?_
        exact bX12_lobby_201 X E hr hZ N rc178 hc178 v4 v6 s21
def fX12_lobby_l178 (N : Nat) : Nat → Int32 → Int32 → Mem → Option (Int32 × Mem)
  | 0 => fun _ _ _ => none
  | n + 1 => fX12_lobby_b178 N (fX12_lobby_l178 N n)
theorem lX12_lobby_178 {x : Cx} {z : Sx} (X : XG x z RX12 cX12_lobby 8 6 139) (E : XE x z) (hr : XR x (some .int)) (hZ : z.2.2.2.1 = kdM) (N : Nat) (n : Nat) (v4 : Int32) (v6 : Int32) (σ : Mem) : VK x z 8 (BQ QI x z) 178 [(0, .ref (z.2.2.1 0)), (4, .int v4), (6, .int v6)] [] σ (fX12_lobby_l178 N n v4 v6 σ) := by
  induction n generalizing v4 v6 σ with
  | zero => exact V_none
  | succ n ih => exact bX12_lobby_178 X E hr hZ N (fX12_lobby_l178 N n) ih v4 v6 σ
def fX12_lobby_b131 (N : Nat) (rc88 : Int32 → Int32 → Int32 → Int32 → Mem → Option (Int32 × Mem)) (rc103 : Int32 → Int32 → Int32 → Int32 → Int32 → Mem → Option (Int32 × Mem)) (v3 : Int32) (v4 : Int32) (v5 : Int32) (v6 : Int32) (v7 : Int32) (t0 : Int32) (t1 : Int32) (t3 : Int32) (σ : Mem) : Option (Int32 × Mem) :=
  bd (fX12_isGot N t1 t0 σ) (fun r24 s25 => gd (inb t3 6561) (lt_ (pI s25 11 t3.toNatClampNeg (vp_nar .boolean r24)) (fun s26 => lt_ (v7 + 1) (fun v7_27 => rc103 v3 v4 v5 v6 v7_27 s26))))
set_option maxRecDepth 100000 in
set_option maxHeartbeats 4000000 in
theorem bX12_lobby_131 {x : Cx} {z : Sx} (X : XG x z RX12 cX12_lobby 8 6 139) (E : XE x z) (hr : XR x (some .int)) (hZ : z.2.2.2.1 = kdM) (N : Nat) (rc88 : Int32 → Int32 → Int32 → Int32 → Mem → Option (Int32 × Mem)) (hc88 : ∀ (v3 : Int32) (v4 : Int32) (v5 : Int32) (v6 : Int32) (σ : Mem), VK x z 8 (BQ QI x z) 88 [(0, .ref (z.2.2.1 0)), (3, .int v3), (4, .int v4), (5, .int v5), (6, .int v6)] [] σ (rc88 v3 v4 v5 v6 σ)) (rc103 : Int32 → Int32 → Int32 → Int32 → Int32 → Mem → Option (Int32 × Mem)) (hc103 : ∀ (v3 : Int32) (v4 : Int32) (v5 : Int32) (v6 : Int32) (v7 : Int32) (σ : Mem), VK x z 8 (BQ QI x z) 103 [(0, .ref (z.2.2.1 0)), (3, .int v3), (4, .int v4), (5, .int v5), (6, .int v6), (7, .int v7)] [] σ (rc103 v3 v4 v5 v6 v7 σ)) (v3 : Int32) (v4 : Int32) (v5 : Int32) (v6 : Int32) (v7 : Int32) (t0 : Int32) (t1 : Int32) (t3 : Int32) (σ : Mem) : VK x z 8 (BQ QI x z) 131 [(0, .ref (z.2.2.1 0)), (3, .int v3), (4, .int v4), (5, .int v5), (6, .int v6), (7, .int v7)] [.int t0, .int t1, .ref (z.2.2.1 0), .int t3, .ref (z.2.2.1 11)] σ (fX12_lobby_b131 N rc88 rc103 v3 v4 v5 v6 v7 t0 t1 t3 σ) := by
  unfold fX12_lobby_b131
  refine V_callI [.int t1, .int t0] [.int t3, .ref (z.2.2.1 11)] X E dX12_lobby_131 (kX12_isGot x.2.1 z hZ N t1 t0 σ) co12 (kM hZ 0 _ rfl) gcX12_288 hyX12_isGot rfl ⟨by decide, by decide⟩ rfl (Nat.le_of_ble_eq_true rfl) (fun r24 s25 => ?_)
  refine V_zastG X dX12_lobby_134 (kM hZ 11 _ rfl) (fun s26 => ?_)
  refine V_iincG (L' := fun v7_27 => [(7, .int v7_27), (0, .ref (z.2.2.1 0)), (3, .int v3), (4, .int v4), (5, .int v5), (6, .int v6)]) 5 X dX12_lobby_135 rfl rfl (by decide) (fun _ => rfl) (fun v7_27 => ?_)
  refine V_goto (tgt := 103) X dX12_lobby_138 (by decide) ?_
  refine V_sub [1, 2, 3, 4, 5, 0] rfl ?_
  exact hc103 v3 v4 v5 v6 v7_27 s26
def fX12_lobby_b103 (N : Nat) (rc88 : Int32 → Int32 → Int32 → Int32 → Mem → Option (Int32 × Mem)) (rc103 : Int32 → Int32 → Int32 → Int32 → Int32 → Mem → Option (Int32 × Mem)) (v3 : Int32) (v4 : Int32) (v5 : Int32) (v6 : Int32) (v7 : Int32) (σ : Mem) : Option (Int32 × Mem) :=
  if v5 ≤ v7 then lt_ (v6 + (-1)) (fun v6_22 => rc88 v3 v4 v5 v6_22 σ) else if (rmI v6 2) = 0 then fX12_lobby_b131 N rc88 rc103 v3 v4 v5 v6 v7 1 v7 v7 σ else fX12_lobby_b131 N rc88 rc103 v3 v4 v5 v6 v7 0 v7 v7 σ
set_option maxRecDepth 100000 in
set_option maxHeartbeats 4000000 in
theorem bX12_lobby_103 {x : Cx} {z : Sx} (X : XG x z RX12 cX12_lobby 8 6 139) (E : XE x z) (hr : XR x (some .int)) (hZ : z.2.2.2.1 = kdM) (N : Nat) (rc88 : Int32 → Int32 → Int32 → Int32 → Mem → Option (Int32 × Mem)) (hc88 : ∀ (v3 : Int32) (v4 : Int32) (v5 : Int32) (v6 : Int32) (σ : Mem), VK x z 8 (BQ QI x z) 88 [(0, .ref (z.2.2.1 0)), (3, .int v3), (4, .int v4), (5, .int v5), (6, .int v6)] [] σ (rc88 v3 v4 v5 v6 σ)) (rc103 : Int32 → Int32 → Int32 → Int32 → Int32 → Mem → Option (Int32 × Mem)) (hc103 : ∀ (v3 : Int32) (v4 : Int32) (v5 : Int32) (v6 : Int32) (v7 : Int32) (σ : Mem), VK x z 8 (BQ QI x z) 103 [(0, .ref (z.2.2.1 0)), (3, .int v3), (4, .int v4), (5, .int v5), (6, .int v6), (7, .int v7)] [] σ (rc103 v3 v4 v5 v6 v7 σ)) (v3 : Int32) (v4 : Int32) (v5 : Int32) (v6 : Int32) (v7 : Int32) (σ : Mem) : VK x z 8 (BQ QI x z) 103 [(0, .ref (z.2.2.1 0)), (3, .int v3), (4, .int v4), (5, .int v5), (6, .int v6), (7, .int v7)] [] σ (fX12_lobby_b103 N rc88 rc103 v3 v4 v5 v6 v7 σ) := by
  unfold fX12_lobby_b103
  refine V_iload 5 X dX12_lobby_103 rfl ?_
  refine V_iload 3 X dX12_lobby_105 rfl ?_
  refine V_icmp_ge (tgt := 141) X dX12_lobby_107 (by decide) ?_ ?_
  · refine V_iincG (L' := fun v6_22 => [(6, .int v6_22), (0, .ref (z.2.2.1 0)), (3, .int v3), (4, .int v4), (5, .int v5), (7, .int v7)]) 4 X dX12_lobby_141 rfl rfl (by decide) (fun _ => rfl) (fun v6_22 => ?_)
    refine V_goto (tgt := 88) X dX12_lobby_144 (by decide) ?_
    refine V_sub [1, 2, 3, 4, 0] rfl ?_
    exact hc88 v3 v4 v5 v6_22 σ
  · refine V_aload_n 0 X dX12_lobby_110 rfl rfl ?_
    refine V_getR (k1 := 11) 30 X dX12_lobby_111 co12 (kM hZ 0 _ rfl) (by decide) rfl rfl wfX12_41 ?_
    refine V_iload 5 X dX12_lobby_114 rfl ?_
    refine V_aload_n 0 X dX12_lobby_116 rfl rfl ?_
    refine V_iload 5 X dX12_lobby_117 rfl ?_
    refine V_iload 4 X dX12_lobby_119 rfl ?_
    refine V_iconst (v := 2) X dX12_lobby_121 (by decide) ?_
    refine V_iremKG X dX12_lobby_122 (by decide) ?_
    refine V_if_ne (tgt := 130) X dX12_lobby_123 (by decide) ?_ ?_
    · refine V_iconst (v := 0) X dX12_lobby_130 (by decide) ?_
      refine V_sub [0, 1, 2, 3, 4, 5] rfl ?_
      exact bX12_lobby_131 X E hr hZ N rc88 hc88 rc103 hc103 v3 v4 v5 v6 v7 0 v7 v7 σ
    · refine V_iconst (v := 1) X dX12_lobby_126 (by decide) ?_
      refine V_goto (tgt := 131) X dX12_lobby_127 (by decide) ?_
      refine V_sub [0, 1, 2, 3, 4, 5] rfl ?_
      exact bX12_lobby_131 X E hr hZ N rc88 hc88 rc103 hc103 v3 v4 v5 v6 v7 1 v7 v7 σ
def fX12_lobby_l103 (N : Nat) (rc88 : Int32 → Int32 → Int32 → Int32 → Mem → Option (Int32 × Mem)) : Nat → Int32 → Int32 → Int32 → Int32 → Int32 → Mem → Option (Int32 × Mem)
  | 0 => fun _ _ _ _ _ _ => none
  | n + 1 => fX12_lobby_b103 N rc88 (fX12_lobby_l103 N rc88 n)
theorem lX12_lobby_103 {x : Cx} {z : Sx} (X : XG x z RX12 cX12_lobby 8 6 139) (E : XE x z) (hr : XR x (some .int)) (hZ : z.2.2.2.1 = kdM) (N : Nat) (rc88 : Int32 → Int32 → Int32 → Int32 → Mem → Option (Int32 × Mem)) (hc88 : ∀ (v3 : Int32) (v4 : Int32) (v5 : Int32) (v6 : Int32) (σ : Mem), VK x z 8 (BQ QI x z) 88 [(0, .ref (z.2.2.1 0)), (3, .int v3), (4, .int v4), (5, .int v5), (6, .int v6)] [] σ (rc88 v3 v4 v5 v6 σ)) (n : Nat) (v3 : Int32) (v4 : Int32) (v5 : Int32) (v6 : Int32) (v7 : Int32) (σ : Mem) : VK x z 8 (BQ QI x z) 103 [(0, .ref (z.2.2.1 0)), (3, .int v3), (4, .int v4), (5, .int v5), (6, .int v6), (7, .int v7)] [] σ (fX12_lobby_l103 N rc88 n v3 v4 v5 v6 v7 σ) := by
  induction n generalizing v3 v4 v5 v6 v7 σ with
  | zero => exact V_none
  | succ n ih => exact bX12_lobby_103 X E hr hZ N rc88 hc88 (fX12_lobby_l103 N rc88 n) ih v3 v4 v5 v6 v7 σ
def fX12_lobby_b88 (N : Nat) (rc88 : Int32 → Int32 → Int32 → Int32 → Mem → Option (Int32 × Mem)) (v3 : Int32) (v4 : Int32) (v5 : Int32) (v6 : Int32) (σ : Mem) : Option (Int32 × Mem) :=
  if v6 ≤ 0 then if v3 = 0 then if v4 = 0 then gd (inb 0 6561) (if (σ.1 11 (0 : Int32).toNatClampNeg) = 0 then some (0, σ) else some (1, σ)) else some ((-1), σ) else lt_ 0 (fun v6_17 => fX12_lobby_l178 N N v4 v6_17 σ) else lt_ (v5 / 9) (fun v5_18 => lt_ 0 (fun v7_19 => fX12_lobby_l103 N rc88 N v3 v4 v5_18 v6 v7_19 σ))
set_option maxRecDepth 100000 in
set_option maxHeartbeats 4000000 in
theorem bX12_lobby_88 {x : Cx} {z : Sx} (X : XG x z RX12 cX12_lobby 8 6 139) (E : XE x z) (hr : XR x (some .int)) (hZ : z.2.2.2.1 = kdM) (N : Nat) (rc88 : Int32 → Int32 → Int32 → Int32 → Mem → Option (Int32 × Mem)) (hc88 : ∀ (v3 : Int32) (v4 : Int32) (v5 : Int32) (v6 : Int32) (σ : Mem), VK x z 8 (BQ QI x z) 88 [(0, .ref (z.2.2.1 0)), (3, .int v3), (4, .int v4), (5, .int v5), (6, .int v6)] [] σ (rc88 v3 v4 v5 v6 σ)) (v3 : Int32) (v4 : Int32) (v5 : Int32) (v6 : Int32) (σ : Mem) : VK x z 8 (BQ QI x z) 88 [(0, .ref (z.2.2.1 0)), (3, .int v3), (4, .int v4), (5, .int v5), (6, .int v6)] [] σ (fX12_lobby_b88 N rc88 v3 v4 v5 v6 σ) := by
  unfold fX12_lobby_b88
  refine V_iload 4 X dX12_lobby_88 rfl ?_
  refine V_if_le (tgt := 147) X dX12_lobby_90 (by decide) ?_ ?_
  · refine V_iload_n 1 X dX12_lobby_147 rfl rfl ?_
    refine V_if_ne (tgt := 175) X dX12_lobby_148 (by decide) ?_ ?_
    · refine V_iconst (v := 0) X dX12_lobby_175 (by decide) ?_
      refine V_istoreG (L' := fun v6_17 => [(6, .int v6_17), (0, .ref (z.2.2.1 0)), (3, .int v3), (4, .int v4), (5, .int v5)]) X dX12_lobby_176 (by decide) (fun _ => rfl) (fun v6_17 => ?_)
      refine V_sub [1, 3, 0] rfl ?_
      exact lX12_lobby_178 X E hr hZ N N v4 v6_17 σ
    · refine V_iload 2 X dX12_lobby_151 rfl ?_
      refine V_if_eq (tgt := 160) X dX12_lobby_153 (by decide) ?_ ?_
      · refine V_aload_n 0 X dX12_lobby_160 rfl rfl ?_
        refine V_getR (k1 := 11) 30 X dX12_lobby_161 co12 (kM hZ 0 _ rfl) (by decide) rfl rfl wfX12_41 ?_
        refine V_iconst (v := 0) X dX12_lobby_164 (by decide) ?_
        refine V_zald X dX12_lobby_165 (kM hZ 11 _ rfl) ?_
        refine V_if_eq (tgt := 173) X dX12_lobby_166 (by decide) ?_ ?_
        · refine V_iconst (v := 0) X dX12_lobby_173 (by decide) ?_
          exact V_iret X E hr dX12_lobby_174
        · refine V_iconst (v := 1) X dX12_lobby_169 (by decide) ?_
          refine V_goto (tgt := 174) X dX12_lobby_170 (by decide) ?_
          exact V_iret X E hr dX12_lobby_174
      · refine V_iconst (v := -1) X dX12_lobby_156 (by decide) ?_
        refine V_goto (tgt := 174) X dX12_lobby_157 (by decide) ?_
        exact V_iret X E hr dX12_lobby_174
  · refine V_iload 3 X dX12_lobby_93 rfl ?_
    refine V_bipush (v := 9) X dX12_lobby_95 (by decide) ?_
    refine V_idivK X dX12_lobby_97 (by decide) ?_
    refine V_istoreG (L' := fun v5_18 => [(5, .int v5_18), (0, .ref (z.2.2.1 0)), (3, .int v3), (4, .int v4), (6, .int v6)]) X dX12_lobby_98 (by decide) (fun _ => rfl) (fun v5_18 => ?_)
    refine V_iconst (v := 0) X dX12_lobby_100 (by decide) ?_
    refine V_istoreG (L' := fun v7_19 => [(7, .int v7_19), (5, .int v5_18), (0, .ref (z.2.2.1 0)), (3, .int v3), (4, .int v4), (6, .int v6)]) X dX12_lobby_101 (by decide) (fun _ => rfl) (fun v7_19 => ?_)
    refine V_sub [2, 3, 4, 1, 5, 0] rfl ?_
    exact lX12_lobby_103 X E hr hZ N rc88 hc88 N v3 v4 v5_18 v6 v7_19 σ
def fX12_lobby_l88 (N : Nat) : Nat → Int32 → Int32 → Int32 → Int32 → Mem → Option (Int32 × Mem)
  | 0 => fun _ _ _ _ _ => none
  | n + 1 => fX12_lobby_b88 N (fX12_lobby_l88 N n)
theorem lX12_lobby_88 {x : Cx} {z : Sx} (X : XG x z RX12 cX12_lobby 8 6 139) (E : XE x z) (hr : XR x (some .int)) (hZ : z.2.2.2.1 = kdM) (N : Nat) (n : Nat) (v3 : Int32) (v4 : Int32) (v5 : Int32) (v6 : Int32) (σ : Mem) : VK x z 8 (BQ QI x z) 88 [(0, .ref (z.2.2.1 0)), (3, .int v3), (4, .int v4), (5, .int v5), (6, .int v6)] [] σ (fX12_lobby_l88 N n v3 v4 v5 v6 σ) := by
  induction n generalizing v3 v4 v5 v6 σ with
  | zero => exact V_none
  | succ n ih => exact bX12_lobby_88 X E hr hZ N (fX12_lobby_l88 N n) ih v3 v4 v5 v6 σ
def fX12_lobby_b55 (N : Nat) (rc55 : Int32 → Int32 → Int32 → Int32 → Int32 → Mem → Option (Int32 × Mem)) (v2 : Int32) (v3 : Int32) (v4 : Int32) (v5 : Int32) (v6 : Int32) (σ : Mem) : Option (Int32 × Mem) :=
  if v5 ≤ v6 then lt_ (v3 - 1) (fun v6_12 => fX12_lobby_l88 N N v3 v4 v5 v6_12 σ) else bd (fX12_isWon N v2 v6 v3 σ) (fun r13 s14 => gd (inb v6 6561) (lt_ (pI s14 11 v6.toNatClampNeg (vp_nar .boolean r13)) (fun s15 => lt_ (v6 + 1) (fun v6_16 => rc55 v2 v3 v4 v5 v6_16 s15))))
set_option maxRecDepth 100000 in
set_option maxHeartbeats 4000000 in
theorem bX12_lobby_55 {x : Cx} {z : Sx} (X : XG x z RX12 cX12_lobby 8 6 139) (E : XE x z) (hr : XR x (some .int)) (hZ : z.2.2.2.1 = kdM) (N : Nat) (rc55 : Int32 → Int32 → Int32 → Int32 → Int32 → Mem → Option (Int32 × Mem)) (hc55 : ∀ (v2 : Int32) (v3 : Int32) (v4 : Int32) (v5 : Int32) (v6 : Int32) (σ : Mem), VK x z 8 (BQ QI x z) 55 [(0, .ref (z.2.2.1 0)), (2, .int v2), (3, .int v3), (4, .int v4), (5, .int v5), (6, .int v6)] [] σ (rc55 v2 v3 v4 v5 v6 σ)) (v2 : Int32) (v3 : Int32) (v4 : Int32) (v5 : Int32) (v6 : Int32) (σ : Mem) : VK x z 8 (BQ QI x z) 55 [(0, .ref (z.2.2.1 0)), (2, .int v2), (3, .int v3), (4, .int v4), (5, .int v5), (6, .int v6)] [] σ (fX12_lobby_b55 N rc55 v2 v3 v4 v5 v6 σ) := by
  unfold fX12_lobby_b55
  refine V_iload 5 X dX12_lobby_55 rfl ?_
  refine V_iload 4 X dX12_lobby_57 rfl ?_
  refine V_icmp_ge (tgt := 83) X dX12_lobby_59 (by decide) ?_ ?_
  · refine V_iload_n 2 X dX12_lobby_83 rfl rfl ?_
    refine V_iconst (v := 1) X dX12_lobby_84 (by decide) ?_
    refine V_isub X dX12_lobby_85 ?_
    refine V_istoreG (L' := fun v6_12 => [(6, .int v6_12), (0, .ref (z.2.2.1 0)), (2, .int v2), (3, .int v3), (4, .int v4), (5, .int v5)]) X dX12_lobby_86 (by decide) (fun _ => rfl) (fun v6_12 => ?_)
    refine V_sub [1, 3, 4, 5, 0] rfl ?_
    exact lX12_lobby_88 X E hr hZ N N v3 v4 v5 v6_12 σ
  · refine V_aload_n 0 X dX12_lobby_62 rfl rfl ?_
    refine V_getR (k1 := 11) 30 X dX12_lobby_63 co12 (kM hZ 0 _ rfl) (by decide) rfl rfl wfX12_41 ?_
    refine V_iload 5 X dX12_lobby_66 rfl ?_
    refine V_aload_n 0 X dX12_lobby_68 rfl rfl ?_
    refine V_iload_n 1 X dX12_lobby_69 rfl rfl ?_
    refine V_iload 5 X dX12_lobby_70 rfl ?_
    refine V_iload_n 2 X dX12_lobby_72 rfl rfl ?_
    refine V_callI [.int v2, .int v6, .int v3] [.int v6, .ref (z.2.2.1 11)] X E dX12_lobby_73 (kX12_isWon x.2.1 z hZ N v2 v6 v3 σ) co12 (kM hZ 0 _ rfl) gcX12_285 hyX12_isWon rfl ⟨by decide, by decide⟩ rfl (Nat.le_of_ble_eq_true rfl) (fun r13 s14 => ?_)
    refine V_zastG X dX12_lobby_76 (kM hZ 11 _ rfl) (fun s15 => ?_)
    refine V_iincG (L' := fun v6_16 => [(6, .int v6_16), (0, .ref (z.2.2.1 0)), (2, .int v2), (3, .int v3), (4, .int v4), (5, .int v5)]) 5 X dX12_lobby_77 rfl rfl (by decide) (fun _ => rfl) (fun v6_16 => ?_)
    refine V_goto (tgt := 55) X dX12_lobby_80 (by decide) ?_
    refine V_sub [1, 2, 3, 4, 5, 0] rfl ?_
    exact hc55 v2 v3 v4 v5 v6_16 s15
def fX12_lobby_l55 (N : Nat) : Nat → Int32 → Int32 → Int32 → Int32 → Int32 → Mem → Option (Int32 × Mem)
  | 0 => fun _ _ _ _ _ _ => none
  | n + 1 => fX12_lobby_b55 N (fX12_lobby_l55 N n)
theorem lX12_lobby_55 {x : Cx} {z : Sx} (X : XG x z RX12 cX12_lobby 8 6 139) (E : XE x z) (hr : XR x (some .int)) (hZ : z.2.2.2.1 = kdM) (N : Nat) (n : Nat) (v2 : Int32) (v3 : Int32) (v4 : Int32) (v5 : Int32) (v6 : Int32) (σ : Mem) : VK x z 8 (BQ QI x z) 55 [(0, .ref (z.2.2.1 0)), (2, .int v2), (3, .int v3), (4, .int v4), (5, .int v5), (6, .int v6)] [] σ (fX12_lobby_l55 N n v2 v3 v4 v5 v6 σ) := by
  induction n generalizing v2 v3 v4 v5 v6 σ with
  | zero => exact V_none
  | succ n ih => exact bX12_lobby_55 X E hr hZ N (fX12_lobby_l55 N n) ih v2 v3 v4 v5 v6 σ
def fX12_lobby_b33 (N : Nat) (rc33 : Int32 → Int32 → Int32 → Int32 → Int32 → Mem → Option (Int32 × Mem)) (v2 : Int32) (v3 : Int32) (v4 : Int32) (v5 : Int32) (v6 : Int32) (σ : Mem) : Option (Int32 × Mem) :=
  if v3 ≤ v6 then lt_ 0 (fun v6_9 => fX12_lobby_l55 N N v2 v3 v4 v5 v6_9 σ) else lt_ (v5 * 9) (fun v5_10 => lt_ (v6 + 1) (fun v6_11 => rc33 v2 v3 v4 v5_10 v6_11 σ))
set_option maxRecDepth 100000 in
set_option maxHeartbeats 4000000 in
theorem bX12_lobby_33 {x : Cx} {z : Sx} (X : XG x z RX12 cX12_lobby 8 6 139) (E : XE x z) (hr : XR x (some .int)) (hZ : z.2.2.2.1 = kdM) (N : Nat) (rc33 : Int32 → Int32 → Int32 → Int32 → Int32 → Mem → Option (Int32 × Mem)) (hc33 : ∀ (v2 : Int32) (v3 : Int32) (v4 : Int32) (v5 : Int32) (v6 : Int32) (σ : Mem), VK x z 8 (BQ QI x z) 33 [(0, .ref (z.2.2.1 0)), (2, .int v2), (3, .int v3), (4, .int v4), (5, .int v5), (6, .int v6)] [] σ (rc33 v2 v3 v4 v5 v6 σ)) (v2 : Int32) (v3 : Int32) (v4 : Int32) (v5 : Int32) (v6 : Int32) (σ : Mem) : VK x z 8 (BQ QI x z) 33 [(0, .ref (z.2.2.1 0)), (2, .int v2), (3, .int v3), (4, .int v4), (5, .int v5), (6, .int v6)] [] σ (fX12_lobby_b33 N rc33 v2 v3 v4 v5 v6 σ) := by
  unfold fX12_lobby_b33
  refine V_iload 5 X dX12_lobby_33 rfl ?_
  refine V_iload_n 2 X dX12_lobby_35 rfl rfl ?_
  refine V_icmp_ge (tgt := 52) X dX12_lobby_36 (by decide) ?_ ?_
  · refine V_iconst (v := 0) X dX12_lobby_52 (by decide) ?_
    refine V_istoreG (L' := fun v6_9 => [(6, .int v6_9), (0, .ref (z.2.2.1 0)), (2, .int v2), (3, .int v3), (4, .int v4), (5, .int v5)]) X dX12_lobby_53 (by decide) (fun _ => rfl) (fun v6_9 => ?_)
    refine V_sub [1, 2, 3, 4, 5, 0] rfl ?_
    exact lX12_lobby_55 X E hr hZ N N v2 v3 v4 v5 v6_9 σ
  · refine V_iload 4 X dX12_lobby_39 rfl ?_
    refine V_bipush (v := 9) X dX12_lobby_41 (by decide) ?_
    refine V_imul X dX12_lobby_43 ?_
    refine V_istoreG (L' := fun v5_10 => [(5, .int v5_10), (0, .ref (z.2.2.1 0)), (2, .int v2), (3, .int v3), (4, .int v4), (6, .int v6)]) X dX12_lobby_44 (by decide) (fun _ => rfl) (fun v5_10 => ?_)
    refine V_iincG (L' := fun v6_11 => [(6, .int v6_11), (5, .int v5_10), (0, .ref (z.2.2.1 0)), (2, .int v2), (3, .int v3), (4, .int v4)]) 5 X dX12_lobby_46 rfl rfl (by decide) (fun _ => rfl) (fun v6_11 => ?_)
    refine V_goto (tgt := 33) X dX12_lobby_49 (by decide) ?_
    refine V_sub [2, 3, 4, 5, 1, 0] rfl ?_
    exact hc33 v2 v3 v4 v5_10 v6_11 σ
def fX12_lobby_l33 (N : Nat) : Nat → Int32 → Int32 → Int32 → Int32 → Int32 → Mem → Option (Int32 × Mem)
  | 0 => fun _ _ _ _ _ _ => none
  | n + 1 => fX12_lobby_b33 N (fX12_lobby_l33 N n)
theorem lX12_lobby_33 {x : Cx} {z : Sx} (X : XG x z RX12 cX12_lobby 8 6 139) (E : XE x z) (hr : XR x (some .int)) (hZ : z.2.2.2.1 = kdM) (N : Nat) (n : Nat) (v2 : Int32) (v3 : Int32) (v4 : Int32) (v5 : Int32) (v6 : Int32) (σ : Mem) : VK x z 8 (BQ QI x z) 33 [(0, .ref (z.2.2.1 0)), (2, .int v2), (3, .int v3), (4, .int v4), (5, .int v5), (6, .int v6)] [] σ (fX12_lobby_l33 N n v2 v3 v4 v5 v6 σ) := by
  induction n generalizing v2 v3 v4 v5 v6 σ with
  | zero => exact V_none
  | succ n ih => exact bX12_lobby_33 X E hr hZ N (fX12_lobby_l33 N n) ih v2 v3 v4 v5 v6 σ
def fX12_lobby (N : Nat) (v1 : Int32) (v2 : Int32) (v3 : Int32) (v4 : Int32) (σ : Mem) : Option (Int32 × Mem) :=
  bd (fX12_isChamber N v1 σ) (fun r1 s2 => if r1 = 0 then some ((-2), s2) else bd (fX12_isMotion N v2 s2) (fun r3 s4 => if r3 = 0 then some ((-2), s4) else bd (fX12_isIn N v3 0 4 s4) (fun r5 s6 => if r5 = 0 then some ((-2), s6) else lt_ 1 (fun v5_7 => lt_ 0 (fun v6_8 => fX12_lobby_l33 N N v2 v3 v4 v5_7 v6_8 s6)))))
set_option maxRecDepth 100000 in
set_option maxHeartbeats 4000000 in
theorem bX12_lobby_0 {x : Cx} {z : Sx} (X : XG x z RX12 cX12_lobby 8 6 139) (E : XE x z) (hr : XR x (some .int)) (hZ : z.2.2.2.1 = kdM) (N : Nat) (v1 : Int32) (v2 : Int32) (v3 : Int32) (v4 : Int32) (σ : Mem) : VK x z 8 (BQ QI x z) 0 [(0, .ref (z.2.2.1 0)), (1, .int v1), (2, .int v2), (3, .int v3), (4, .int v4)] [] σ (fX12_lobby N v1 v2 v3 v4 σ) := by
  unfold fX12_lobby
  refine V_aload_n 0 X dX12_lobby_0 rfl rfl ?_
  refine V_iload_n 1 X dX12_lobby_1 rfl rfl ?_
  refine V_callI [.int v1] [] X E dX12_lobby_2 (kX12_isChamber x.2.1 z hZ N v1 σ) co12 (kM hZ 0 _ rfl) gcX12_165 hyX12_isChamber rfl ⟨by decide, by decide⟩ rfl (Nat.le_of_ble_eq_true rfl) (fun r1 s2 => ?_)
  refine V_if_eq (tgt := 24) X dX12_lobby_5 (by decide) ?_ ?_
  · refine V_bipush (v := -2) X dX12_lobby_24 (by decide) ?_
    exact V_iret X E hr dX12_lobby_26
  · refine V_iload_n 2 X dX12_lobby_8 rfl rfl ?_
    refine V_calSI [.int v2] [] X E dX12_lobby_9 (kX12_isMotion x.2.1 z hZ N v2 s2) gcX12_210 hyX12_isMotion rfl ⟨by decide, by decide⟩ rfl (Nat.le_of_ble_eq_true rfl) (fun r3 s4 => ?_)
    refine V_if_eq (tgt := 24) X dX12_lobby_12 (by decide) ?_ ?_
    · refine V_bipush (v := -2) X dX12_lobby_24 (by decide) ?_
      exact V_iret X E hr dX12_lobby_26
    · refine V_iload_n 3 X dX12_lobby_15 rfl rfl ?_
      refine V_iconst (v := 0) X dX12_lobby_16 (by decide) ?_
      refine V_iconst (v := 4) X dX12_lobby_17 (by decide) ?_
      refine V_calSI [.int v3, .int 0, .int 4] [] X E dX12_lobby_18 (kX12_isIn x.2.1 z hZ N v3 0 4 s4) gcX12_106 hyX12_isIn rfl ⟨by decide, by decide⟩ rfl (Nat.le_of_ble_eq_true rfl) (fun r5 s6 => ?_)
      refine V_if_ne (tgt := 27) X dX12_lobby_21 (by decide) ?_ ?_
      · refine V_iconst (v := 1) X dX12_lobby_27 (by decide) ?_
        refine V_istoreG (L' := fun v5_7 => [(5, .int v5_7), (0, .ref (z.2.2.1 0)), (1, .int v1), (2, .int v2), (3, .int v3), (4, .int v4)]) X dX12_lobby_28 (by decide) (fun _ => rfl) (fun v5_7 => ?_)
        refine V_iconst (v := 0) X dX12_lobby_30 (by decide) ?_
        refine V_istoreG (L' := fun v6_8 => [(6, .int v6_8), (5, .int v5_7), (0, .ref (z.2.2.1 0)), (1, .int v1), (2, .int v2), (3, .int v3), (4, .int v4)]) X dX12_lobby_31 (by decide) (fun _ => rfl) (fun v6_8 => ?_)
        refine V_sub [2, 4, 5, 6, 1, 0] rfl ?_
        exact lX12_lobby_33 X E hr hZ N N v2 v3 v4 v5_7 v6_8 s6
      · refine V_bipush (v := -2) X dX12_lobby_24 (by decide) ?_
        exact V_iret X E hr dX12_lobby_26
theorem kX12_lobby (l : Launch) (z : Sx) (hZ : z.2.2.2.1 = kdM) (N : Nat) (v1 : Int32) (v2 : Int32) (v3 : Int32) (v4 : Int32) (σ : Mem) : Ct QI yX12_lobby cX12_lobby 8 (some .int) 6 139 l z [.ref (z.2.2.1 0), .int v1, .int v2, .int v3, .int v4] σ (fX12_lobby N v1 v2 v3 v4 σ) := by
  refine Ct_of (by decide +kernel) (Nat.le_of_ble_eq_true rfl) rfl ?_
  intro x _ X E hr
  exact bX12_lobby_0 X E hr hZ N v1 v2 v3 v4 σ
def fX12_isAsked (N : Nat) (v1 : Int32) (v2 : Int32) (v3 : Int32) (σ : Mem) : Option (Int32 × Mem) :=
  bd (fX12_isChamber N v1 σ) (fun r1 s2 => if r1 = 0 then some (0, s2) else bd (fX12_isMotion N v2 s2) (fun r3 s4 => if r3 = 0 then some (0, s4) else bd (fX12_isPiece N v3 s4) (fun r5 s6 => if r5 = 0 then some (0, s6) else bd (fX12_asTold N s6) (fun r7 s8 => some (1, s8)))))
set_option maxRecDepth 100000 in
set_option maxHeartbeats 4000000 in
theorem bX12_isAsked_0 {x : Cx} {z : Sx} (X : XG x z RX12 cX12_isAsked 4 3 65) (E : XE x z) (hr : XR x (some .boolean)) (hZ : z.2.2.2.1 = kdM) (N : Nat) (v1 : Int32) (v2 : Int32) (v3 : Int32) (σ : Mem) : VK x z 4 (BQ QI x z) 0 [(0, .ref (z.2.2.1 0)), (1, .int v1), (2, .int v2), (3, .int v3)] [] σ (fX12_isAsked N v1 v2 v3 σ) := by
  unfold fX12_isAsked
  refine V_aload_n 0 X dX12_isAsked_0 rfl rfl ?_
  refine V_iload_n 1 X dX12_isAsked_1 rfl rfl ?_
  refine V_callI [.int v1] [] X E dX12_isAsked_2 (kX12_isChamber x.2.1 z hZ N v1 σ) co12 (kM hZ 0 _ rfl) gcX12_165 hyX12_isChamber rfl ⟨by decide, by decide⟩ rfl (Nat.le_of_ble_eq_true rfl) (fun r1 s2 => ?_)
  refine V_if_eq (tgt := 23) X dX12_isAsked_5 (by decide) ?_ ?_
  · refine V_iconst (v := 0) X dX12_isAsked_23 (by decide) ?_
    exact V_zret X E hr dX12_isAsked_24 (by decide)
  · refine V_iload_n 2 X dX12_isAsked_8 rfl rfl ?_
    refine V_calSI [.int v2] [] X E dX12_isAsked_9 (kX12_isMotion x.2.1 z hZ N v2 s2) gcX12_210 hyX12_isMotion rfl ⟨by decide, by decide⟩ rfl (Nat.le_of_ble_eq_true rfl) (fun r3 s4 => ?_)
    refine V_if_eq (tgt := 23) X dX12_isAsked_12 (by decide) ?_ ?_
    · refine V_iconst (v := 0) X dX12_isAsked_23 (by decide) ?_
      exact V_zret X E hr dX12_isAsked_24 (by decide)
    · refine V_aload_n 0 X dX12_isAsked_15 rfl rfl ?_
      refine V_iload_n 3 X dX12_isAsked_16 rfl rfl ?_
      refine V_callI [.int v3] [] X E dX12_isAsked_17 (kX12_isPiece x.2.1 z hZ N v3 s4) co12 (kM hZ 0 _ rfl) gcX12_168 hyX12_isPiece rfl ⟨by decide, by decide⟩ rfl (Nat.le_of_ble_eq_true rfl) (fun r5 s6 => ?_)
      refine V_if_ne (tgt := 25) X dX12_isAsked_20 (by decide) ?_ ?_
      · refine V_aload_n 0 X dX12_isAsked_25 rfl rfl ?_
        refine V_callV [] [] X E dX12_isAsked_26 (kX12_asTold x.2.1 z hZ N s6) co12 (kM hZ 0 _ rfl) gcX12_213 hyX12_asTold rfl ⟨by decide, by decide⟩ rfl (Nat.le_of_ble_eq_true rfl) (fun r7 s8 => ?_)
        refine V_iconst (v := 1) X dX12_isAsked_29 (by decide) ?_
        exact V_zret X E hr dX12_isAsked_30 (by decide)
      · refine V_iconst (v := 0) X dX12_isAsked_23 (by decide) ?_
        exact V_zret X E hr dX12_isAsked_24 (by decide)
theorem kX12_isAsked (l : Launch) (z : Sx) (hZ : z.2.2.2.1 = kdM) (N : Nat) (v1 : Int32) (v2 : Int32) (v3 : Int32) (σ : Mem) : Ct QI yX12_isAsked cX12_isAsked 4 (some .boolean) 3 65 l z [.ref (z.2.2.1 0), .int v1, .int v2, .int v3] σ (fX12_isAsked N v1 v2 v3 σ) := by
  refine Ct_of (by decide +kernel) (Nat.le_of_ble_eq_true rfl) rfl ?_
  intro x _ X E hr
  exact bX12_isAsked_0 X E hr hZ N v1 v2 v3 σ
def fX12_hush_b15 (N : Nat) (rc15 : Int32 → Int32 → Int32 → Mem → Option (Int32 × Mem)) (v2 : Int32) (v3 : Int32) (v4 : Int32) (σ : Mem) : Option (Int32 × Mem) :=
  if 10 ≤ v4 then some ((-1), σ) else gd (inb v3 8) (lt_ (pI σ 5 v3.toNatClampNeg v4) (fun s4 => bd (fX12_loudOf N v3 v2 s4) (fun r5 s6 => bd (fX12_of N v3 3 s6) (fun r7 s8 => if r7 ≤ r5 then lt_ (v4 + 1) (fun v4_9 => rc15 v2 v3 v4_9 s8) else some (v4, s8)))))
set_option maxRecDepth 100000 in
set_option maxHeartbeats 4000000 in
theorem bX12_hush_15 {x : Cx} {z : Sx} (X : XG x z RX12 cX12_hush 5 4 88) (E : XE x z) (hr : XR x (some .int)) (hZ : z.2.2.2.1 = kdM) (N : Nat) (rc15 : Int32 → Int32 → Int32 → Mem → Option (Int32 × Mem)) (hc15 : ∀ (v2 : Int32) (v3 : Int32) (v4 : Int32) (σ : Mem), VK x z 5 (BQ QI x z) 15 [(0, .ref (z.2.2.1 0)), (2, .int v2), (3, .int v3), (4, .int v4)] [] σ (rc15 v2 v3 v4 σ)) (v2 : Int32) (v3 : Int32) (v4 : Int32) (σ : Mem) : VK x z 5 (BQ QI x z) 15 [(0, .ref (z.2.2.1 0)), (2, .int v2), (3, .int v3), (4, .int v4)] [] σ (fX12_hush_b15 N rc15 v2 v3 v4 σ) := by
  unfold fX12_hush_b15
  refine V_iload 3 X dX12_hush_15 rfl ?_
  refine V_bipush (v := 10) X dX12_hush_17 (by decide) ?_
  refine V_icmp_ge (tgt := 54) X dX12_hush_19 (by decide) ?_ ?_
  · refine V_iconst (v := -1) X dX12_hush_54 (by decide) ?_
    exact V_iret X E hr dX12_hush_55
  · refine V_aload_n 0 X dX12_hush_22 rfl rfl ?_
    refine V_getR (k1 := 5) 18 X dX12_hush_23 co12 (kM hZ 0 _ rfl) (by decide) rfl rfl wfX12_23 ?_
    refine V_iload_n 2 X dX12_hush_26 rfl rfl ?_
    refine V_iload 3 X dX12_hush_27 rfl ?_
    refine V_iastG X dX12_hush_29 (kM hZ 5 _ rfl) (fun s4 => ?_)
    refine V_aload_n 0 X dX12_hush_30 rfl rfl ?_
    refine V_iload_n 2 X dX12_hush_31 rfl rfl ?_
    refine V_iload_n 1 X dX12_hush_32 rfl rfl ?_
    refine V_callI [.int v3, .int v2] [] X E dX12_hush_33 (kX12_loudOf x.2.1 z hZ N v3 v2 s4) co12 (kM hZ 0 _ rfl) gcX12_198 hyX12_loudOf rfl ⟨by decide, by decide⟩ rfl (Nat.le_of_ble_eq_true rfl) (fun r5 s6 => ?_)
    refine V_aload_n 0 X dX12_hush_36 rfl rfl ?_
    refine V_iload_n 2 X dX12_hush_37 rfl rfl ?_
    refine V_iconst (v := 3) X dX12_hush_38 (by decide) ?_
    refine V_callI [.int v3, .int 3] [.int r5] X E dX12_hush_39 (kX12_of x.2.1 z hZ N v3 3 s6) co12 (kM hZ 0 _ rfl) gcX12_171 hyX12_of rfl ⟨by decide, by decide⟩ rfl (Nat.le_of_ble_eq_true rfl) (fun r7 s8 => ?_)
    refine V_icmp_ge (tgt := 48) X dX12_hush_42 (by decide) ?_ ?_
    · refine V_iincG (L' := fun v4_9 => [(4, .int v4_9), (0, .ref (z.2.2.1 0)), (2, .int v2), (3, .int v3)]) 3 X dX12_hush_48 rfl rfl (by decide) (fun _ => rfl) (fun v4_9 => ?_)
      refine V_goto (tgt := 15) X dX12_hush_51 (by decide) ?_
      refine V_sub [1, 2, 3, 0] rfl ?_
      exact hc15 v2 v3 v4_9 s8
    · refine V_iload 3 X dX12_hush_45 rfl ?_
      exact V_iret X E hr dX12_hush_47
def fX12_hush_l15 (N : Nat) : Nat → Int32 → Int32 → Int32 → Mem → Option (Int32 × Mem)
  | 0 => fun _ _ _ _ => none
  | n + 1 => fX12_hush_b15 N (fX12_hush_l15 N n)
theorem lX12_hush_15 {x : Cx} {z : Sx} (X : XG x z RX12 cX12_hush 5 4 88) (E : XE x z) (hr : XR x (some .int)) (hZ : z.2.2.2.1 = kdM) (N : Nat) (n : Nat) (v2 : Int32) (v3 : Int32) (v4 : Int32) (σ : Mem) : VK x z 5 (BQ QI x z) 15 [(0, .ref (z.2.2.1 0)), (2, .int v2), (3, .int v3), (4, .int v4)] [] σ (fX12_hush_l15 N n v2 v3 v4 σ) := by
  induction n generalizing v2 v3 v4 σ with
  | zero => exact V_none
  | succ n ih => exact bX12_hush_15 X E hr hZ N (fX12_hush_l15 N n) ih v2 v3 v4 σ
def fX12_hush (N : Nat) (v1 : Int32) (v2 : Int32) (v3 : Int32) (σ : Mem) : Option (Int32 × Mem) :=
  bd (fX12_isAsked N v1 v2 v3 σ) (fun r1 s2 => if r1 = 0 then some ((-1), s2) else lt_ 0 (fun v4_3 => fX12_hush_l15 N N v2 v3 v4_3 s2))
set_option maxRecDepth 100000 in
set_option maxHeartbeats 4000000 in
theorem bX12_hush_0 {x : Cx} {z : Sx} (X : XG x z RX12 cX12_hush 5 4 88) (E : XE x z) (hr : XR x (some .int)) (hZ : z.2.2.2.1 = kdM) (N : Nat) (v1 : Int32) (v2 : Int32) (v3 : Int32) (σ : Mem) : VK x z 5 (BQ QI x z) 0 [(0, .ref (z.2.2.1 0)), (1, .int v1), (2, .int v2), (3, .int v3)] [] σ (fX12_hush N v1 v2 v3 σ) := by
  unfold fX12_hush
  refine V_aload_n 0 X dX12_hush_0 rfl rfl ?_
  refine V_iload_n 1 X dX12_hush_1 rfl rfl ?_
  refine V_iload_n 2 X dX12_hush_2 rfl rfl ?_
  refine V_iload_n 3 X dX12_hush_3 rfl rfl ?_
  refine V_callI [.int v1, .int v2, .int v3] [] X E dX12_hush_4 (kX12_isAsked x.2.1 z hZ N v1 v2 v3 σ) co12 (kM hZ 0 _ rfl) gcX12_291 hyX12_isAsked rfl ⟨by decide, by decide⟩ rfl (Nat.le_of_ble_eq_true rfl) (fun r1 s2 => ?_)
  refine V_if_ne (tgt := 12) X dX12_hush_7 (by decide) ?_ ?_
  · refine V_iconst (v := 0) X dX12_hush_12 (by decide) ?_
    refine V_istoreG (L' := fun v4_3 => [(4, .int v4_3), (0, .ref (z.2.2.1 0)), (1, .int v1), (2, .int v2), (3, .int v3)]) X dX12_hush_13 (by decide) (fun _ => rfl) (fun v4_3 => ?_)
    refine V_sub [1, 3, 4, 0] rfl ?_
    exact lX12_hush_15 X E hr hZ N N v2 v3 v4_3 s2
  · refine V_iconst (v := -1) X dX12_hush_10 (by decide) ?_
    exact V_iret X E hr dX12_hush_11
theorem kX12_hush (l : Launch) (z : Sx) (hZ : z.2.2.2.1 = kdM) (N : Nat) (v1 : Int32) (v2 : Int32) (v3 : Int32) (σ : Mem) : Ct QI yX12_hush cX12_hush 5 (some .int) 4 88 l z [.ref (z.2.2.1 0), .int v1, .int v2, .int v3] σ (fX12_hush N v1 v2 v3 σ) := by
  refine Ct_of (by decide +kernel) (Nat.le_of_ble_eq_true rfl) rfl ?_
  intro x _ X E hr
  exact bX12_hush_0 X E hr hZ N v1 v2 v3 σ
def fX12_wake_b15 (N : Nat) (rc15 : Int32 → Int32 → Int32 → Mem → Option (Int32 × Mem)) (v2 : Int32) (v3 : Int32) (v4 : Int32) (σ : Mem) : Option (Int32 × Mem) :=
  if 60 < v4 then some ((-1), σ) else bd (fX12_loudOf N v3 v2 σ) (fun r4 s5 => bd (fX12_of N v3 3 s5) (fun r6 s7 => if r4 < r6 then bd (fX12_sleeps N s7) (fun r8 s9 => lt_ (v4 + 1) (fun v4_10 => rc15 v2 v3 v4_10 s9)) else some (v4, s7)))
set_option maxRecDepth 100000 in
set_option maxHeartbeats 4000000 in
theorem bX12_wake_15 {x : Cx} {z : Sx} (X : XG x z RX12 cX12_wake 5 4 88) (E : XE x z) (hr : XR x (some .int)) (hZ : z.2.2.2.1 = kdM) (N : Nat) (rc15 : Int32 → Int32 → Int32 → Mem → Option (Int32 × Mem)) (hc15 : ∀ (v2 : Int32) (v3 : Int32) (v4 : Int32) (σ : Mem), VK x z 5 (BQ QI x z) 15 [(0, .ref (z.2.2.1 0)), (2, .int v2), (3, .int v3), (4, .int v4)] [] σ (rc15 v2 v3 v4 σ)) (v2 : Int32) (v3 : Int32) (v4 : Int32) (σ : Mem) : VK x z 5 (BQ QI x z) 15 [(0, .ref (z.2.2.1 0)), (2, .int v2), (3, .int v3), (4, .int v4)] [] σ (fX12_wake_b15 N rc15 v2 v3 v4 σ) := by
  unfold fX12_wake_b15
  refine V_iload 3 X dX12_wake_15 rfl ?_
  refine V_bipush (v := 60) X dX12_wake_17 (by decide) ?_
  refine V_icmp_gt (tgt := 50) X dX12_wake_19 (by decide) ?_ ?_
  · refine V_iconst (v := -1) X dX12_wake_50 (by decide) ?_
    exact V_iret X E hr dX12_wake_51
  · refine V_aload_n 0 X dX12_wake_22 rfl rfl ?_
    refine V_iload_n 2 X dX12_wake_23 rfl rfl ?_
    refine V_iload_n 1 X dX12_wake_24 rfl rfl ?_
    refine V_callI [.int v3, .int v2] [] X E dX12_wake_25 (kX12_loudOf x.2.1 z hZ N v3 v2 σ) co12 (kM hZ 0 _ rfl) gcX12_198 hyX12_loudOf rfl ⟨by decide, by decide⟩ rfl (Nat.le_of_ble_eq_true rfl) (fun r4 s5 => ?_)
    refine V_aload_n 0 X dX12_wake_28 rfl rfl ?_
    refine V_iload_n 2 X dX12_wake_29 rfl rfl ?_
    refine V_iconst (v := 3) X dX12_wake_30 (by decide) ?_
    refine V_callI [.int v3, .int 3] [.int r4] X E dX12_wake_31 (kX12_of x.2.1 z hZ N v3 3 s5) co12 (kM hZ 0 _ rfl) gcX12_171 hyX12_of rfl ⟨by decide, by decide⟩ rfl (Nat.le_of_ble_eq_true rfl) (fun r6 s7 => ?_)
    refine V_icmp_lt (tgt := 40) X dX12_wake_34 (by decide) ?_ ?_
    · refine V_aload_n 0 X dX12_wake_40 rfl rfl ?_
      refine V_callV [] [] X E dX12_wake_41 (kX12_sleeps x.2.1 z hZ N s7) co12 (kM hZ 0 _ rfl) gcX12_252 hyX12_sleeps rfl ⟨by decide, by decide⟩ rfl (Nat.le_of_ble_eq_true rfl) (fun r8 s9 => ?_)
      refine V_iincG (L' := fun v4_10 => [(4, .int v4_10), (0, .ref (z.2.2.1 0)), (2, .int v2), (3, .int v3)]) 3 X dX12_wake_44 rfl rfl (by decide) (fun _ => rfl) (fun v4_10 => ?_)
      refine V_goto (tgt := 15) X dX12_wake_47 (by decide) ?_
      refine V_sub [1, 2, 3, 0] rfl ?_
      exact hc15 v2 v3 v4_10 s9
    · refine V_iload 3 X dX12_wake_37 rfl ?_
      exact V_iret X E hr dX12_wake_39
def fX12_wake_l15 (N : Nat) : Nat → Int32 → Int32 → Int32 → Mem → Option (Int32 × Mem)
  | 0 => fun _ _ _ _ => none
  | n + 1 => fX12_wake_b15 N (fX12_wake_l15 N n)
theorem lX12_wake_15 {x : Cx} {z : Sx} (X : XG x z RX12 cX12_wake 5 4 88) (E : XE x z) (hr : XR x (some .int)) (hZ : z.2.2.2.1 = kdM) (N : Nat) (n : Nat) (v2 : Int32) (v3 : Int32) (v4 : Int32) (σ : Mem) : VK x z 5 (BQ QI x z) 15 [(0, .ref (z.2.2.1 0)), (2, .int v2), (3, .int v3), (4, .int v4)] [] σ (fX12_wake_l15 N n v2 v3 v4 σ) := by
  induction n generalizing v2 v3 v4 σ with
  | zero => exact V_none
  | succ n ih => exact bX12_wake_15 X E hr hZ N (fX12_wake_l15 N n) ih v2 v3 v4 σ
def fX12_wake (N : Nat) (v1 : Int32) (v2 : Int32) (v3 : Int32) (σ : Mem) : Option (Int32 × Mem) :=
  bd (fX12_isAsked N v1 v2 v3 σ) (fun r1 s2 => if r1 = 0 then some ((-1), s2) else lt_ 0 (fun v4_3 => fX12_wake_l15 N N v2 v3 v4_3 s2))
set_option maxRecDepth 100000 in
set_option maxHeartbeats 4000000 in
theorem bX12_wake_0 {x : Cx} {z : Sx} (X : XG x z RX12 cX12_wake 5 4 88) (E : XE x z) (hr : XR x (some .int)) (hZ : z.2.2.2.1 = kdM) (N : Nat) (v1 : Int32) (v2 : Int32) (v3 : Int32) (σ : Mem) : VK x z 5 (BQ QI x z) 0 [(0, .ref (z.2.2.1 0)), (1, .int v1), (2, .int v2), (3, .int v3)] [] σ (fX12_wake N v1 v2 v3 σ) := by
  unfold fX12_wake
  refine V_aload_n 0 X dX12_wake_0 rfl rfl ?_
  refine V_iload_n 1 X dX12_wake_1 rfl rfl ?_
  refine V_iload_n 2 X dX12_wake_2 rfl rfl ?_
  refine V_iload_n 3 X dX12_wake_3 rfl rfl ?_
  refine V_callI [.int v1, .int v2, .int v3] [] X E dX12_wake_4 (kX12_isAsked x.2.1 z hZ N v1 v2 v3 σ) co12 (kM hZ 0 _ rfl) gcX12_291 hyX12_isAsked rfl ⟨by decide, by decide⟩ rfl (Nat.le_of_ble_eq_true rfl) (fun r1 s2 => ?_)
  refine V_if_ne (tgt := 12) X dX12_wake_7 (by decide) ?_ ?_
  · refine V_iconst (v := 0) X dX12_wake_12 (by decide) ?_
    refine V_istoreG (L' := fun v4_3 => [(4, .int v4_3), (0, .ref (z.2.2.1 0)), (1, .int v1), (2, .int v2), (3, .int v3)]) X dX12_wake_13 (by decide) (fun _ => rfl) (fun v4_3 => ?_)
    refine V_sub [1, 3, 4, 0] rfl ?_
    exact lX12_wake_15 X E hr hZ N N v2 v3 v4_3 s2
  · refine V_iconst (v := -1) X dX12_wake_10 (by decide) ?_
    exact V_iret X E hr dX12_wake_11
theorem kX12_wake (l : Launch) (z : Sx) (hZ : z.2.2.2.1 = kdM) (N : Nat) (v1 : Int32) (v2 : Int32) (v3 : Int32) (σ : Mem) : Ct QI yX12_wake cX12_wake 5 (some .int) 4 88 l z [.ref (z.2.2.1 0), .int v1, .int v2, .int v3] σ (fX12_wake N v1 v2 v3 σ) := by
  refine Ct_of (by decide +kernel) (Nat.le_of_ble_eq_true rfl) rfl ?_
  intro x _ X E hr
  exact bX12_wake_0 X E hr hZ N v1 v2 v3 σ
def fX12_damps_b56 (N : Nat) (rc26 : Int32 → Int32 → Int32 → Mem → Option (Int32 × Mem)) (v2 : Int32) (v4 : Int32) (t0 : Int32) (t1 : Int32) (σ : Mem) : Option (Int32 × Mem) :=
  lt_ (t1 ||| t0) (fun v3_12 => lt_ (v4 + 1) (fun v4_13 => rc26 v2 v3_12 v4_13 σ))
set_option maxRecDepth 100000 in
set_option maxHeartbeats 4000000 in
theorem bX12_damps_56 {x : Cx} {z : Sx} (X : XG x z RX12 cX12_damps 5 5 113) (E : XE x z) (hr : XR x (some .int)) (hZ : z.2.2.2.1 = kdM) (N : Nat) (rc26 : Int32 → Int32 → Int32 → Mem → Option (Int32 × Mem)) (hc26 : ∀ (v2 : Int32) (v3 : Int32) (v4 : Int32) (σ : Mem), VK x z 5 (BQ QI x z) 26 [(0, .ref (z.2.2.1 0)), (2, .int v2), (3, .int v3), (4, .int v4)] [] σ (rc26 v2 v3 v4 σ)) (v2 : Int32) (v4 : Int32) (t0 : Int32) (t1 : Int32) (σ : Mem) : VK x z 5 (BQ QI x z) 56 [(0, .ref (z.2.2.1 0)), (2, .int v2), (4, .int v4)] [.int t0, .int t1] σ (fX12_damps_b56 N rc26 v2 v4 t0 t1 σ) := by
  unfold fX12_damps_b56
  refine V_ior X dX12_damps_56 ?_
  refine V_istore_nG (L' := fun v3_12 => [(3, .int v3_12), (0, .ref (z.2.2.1 0)), (2, .int v2), (4, .int v4)]) X dX12_damps_57 rfl (by decide) (fun _ => rfl) (fun v3_12 => ?_)
  refine V_iincG (L' := fun v4_13 => [(4, .int v4_13), (3, .int v3_12), (0, .ref (z.2.2.1 0)), (2, .int v2)]) 3 X dX12_damps_58 rfl rfl (by decide) (fun _ => rfl) (fun v4_13 => ?_)
  refine V_goto (tgt := 26) X dX12_damps_61 (by decide) ?_
  refine V_sub [2, 3, 1, 0] rfl ?_
  exact hc26 v2 v3_12 v4_13 σ
def fX12_damps_b26 (N : Nat) (rc26 : Int32 → Int32 → Int32 → Mem → Option (Int32 × Mem)) (v2 : Int32) (v3 : Int32) (v4 : Int32) (σ : Mem) : Option (Int32 × Mem) :=
  if 10 ≤ v4 then some (v3, σ) else lt_ (pI σ 0 14 v4) (fun s9 => bd (fX12_answers N v2 s9) (fun r10 s11 => if r10 = 0 then fX12_damps_b56 N rc26 v2 v4 0 v3 s11 else fX12_damps_b56 N rc26 v2 v4 (1 <<< (v4 &&& 31)) v3 s11))
set_option maxRecDepth 100000 in
set_option maxHeartbeats 4000000 in
theorem bX12_damps_26 {x : Cx} {z : Sx} (X : XG x z RX12 cX12_damps 5 5 113) (E : XE x z) (hr : XR x (some .int)) (hZ : z.2.2.2.1 = kdM) (N : Nat) (rc26 : Int32 → Int32 → Int32 → Mem → Option (Int32 × Mem)) (hc26 : ∀ (v2 : Int32) (v3 : Int32) (v4 : Int32) (σ : Mem), VK x z 5 (BQ QI x z) 26 [(0, .ref (z.2.2.1 0)), (2, .int v2), (3, .int v3), (4, .int v4)] [] σ (rc26 v2 v3 v4 σ)) (v2 : Int32) (v3 : Int32) (v4 : Int32) (σ : Mem) : VK x z 5 (BQ QI x z) 26 [(0, .ref (z.2.2.1 0)), (2, .int v2), (3, .int v3), (4, .int v4)] [] σ (fX12_damps_b26 N rc26 v2 v3 v4 σ) := by
  unfold fX12_damps_b26
  refine V_iload 3 X dX12_damps_26 rfl ?_
  refine V_bipush (v := 10) X dX12_damps_28 (by decide) ?_
  refine V_icmp_ge (tgt := 64) X dX12_damps_30 (by decide) ?_ ?_
  · refine V_iload_n 2 X dX12_damps_64 rfl rfl ?_
    exact V_iret X E hr dX12_damps_65
  · refine V_aload_n 0 X dX12_damps_33 rfl rfl ?_
    refine V_iload 3 X dX12_damps_34 rfl ?_
    refine V_putIG 14 X dX12_damps_36 co12 (kM hZ 0 _ rfl) (by decide) rfl wfX12_180 rfl rfl rfl (fun s9 => ?_)
    refine V_iload_n 2 X dX12_damps_39 rfl rfl ?_
    refine V_aload_n 0 X dX12_damps_40 rfl rfl ?_
    refine V_iload_n 1 X dX12_damps_41 rfl rfl ?_
    refine V_callI [.int v2] [.int v3] X E dX12_damps_42 (kX12_answers x.2.1 z hZ N v2 s9) co12 (kM hZ 0 _ rfl) gcX12_216 hyX12_answers rfl ⟨by decide, by decide⟩ rfl (Nat.le_of_ble_eq_true rfl) (fun r10 s11 => ?_)
    refine V_if_eq (tgt := 55) X dX12_damps_45 (by decide) ?_ ?_
    · refine V_iconst (v := 0) X dX12_damps_55 (by decide) ?_
      refine V_sub [0, 1, 3] rfl ?_
      exact bX12_damps_56 X E hr hZ N rc26 hc26 v2 v4 0 v3 s11
    · refine V_iconst (v := 1) X dX12_damps_48 (by decide) ?_
      refine V_iload 3 X dX12_damps_49 rfl ?_
      refine V_ishl X dX12_damps_51 ?_
      refine V_goto (tgt := 56) X dX12_damps_52 (by decide) ?_
      refine V_sub [0, 1, 3] rfl ?_
      exact bX12_damps_56 X E hr hZ N rc26 hc26 v2 v4 (1 <<< (v4 &&& 31)) v3 s11
def fX12_damps_l26 (N : Nat) : Nat → Int32 → Int32 → Int32 → Mem → Option (Int32 × Mem)
  | 0 => fun _ _ _ _ => none
  | n + 1 => fX12_damps_b26 N (fX12_damps_l26 N n)
theorem lX12_damps_26 {x : Cx} {z : Sx} (X : XG x z RX12 cX12_damps 5 5 113) (E : XE x z) (hr : XR x (some .int)) (hZ : z.2.2.2.1 = kdM) (N : Nat) (n : Nat) (v2 : Int32) (v3 : Int32) (v4 : Int32) (σ : Mem) : VK x z 5 (BQ QI x z) 26 [(0, .ref (z.2.2.1 0)), (2, .int v2), (3, .int v3), (4, .int v4)] [] σ (fX12_damps_l26 N n v2 v3 v4 σ) := by
  induction n generalizing v2 v3 v4 σ with
  | zero => exact V_none
  | succ n ih => exact bX12_damps_26 X E hr hZ N (fX12_damps_l26 N n) ih v2 v3 v4 σ
def fX12_damps (N : Nat) (v1 : Int32) (v2 : Int32) (σ : Mem) : Option (Int32 × Mem) :=
  bd (fX12_isChamber N v1 σ) (fun r1 s2 => if r1 = 0 then some ((-1), s2) else bd (fX12_isMotion N v2 s2) (fun r3 s4 => if r3 = 0 then some ((-1), s4) else bd (fX12_asTold N s4) (fun r5 s6 => lt_ 0 (fun v3_7 => lt_ 0 (fun v4_8 => fX12_damps_l26 N N v2 v3_7 v4_8 s6)))))
set_option maxRecDepth 100000 in
set_option maxHeartbeats 4000000 in
theorem bX12_damps_0 {x : Cx} {z : Sx} (X : XG x z RX12 cX12_damps 5 5 113) (E : XE x z) (hr : XR x (some .int)) (hZ : z.2.2.2.1 = kdM) (N : Nat) (v1 : Int32) (v2 : Int32) (σ : Mem) : VK x z 5 (BQ QI x z) 0 [(0, .ref (z.2.2.1 0)), (1, .int v1), (2, .int v2)] [] σ (fX12_damps N v1 v2 σ) := by
  unfold fX12_damps
  refine V_aload_n 0 X dX12_damps_0 rfl rfl ?_
  refine V_iload_n 1 X dX12_damps_1 rfl rfl ?_
  refine V_callI [.int v1] [] X E dX12_damps_2 (kX12_isChamber x.2.1 z hZ N v1 σ) co12 (kM hZ 0 _ rfl) gcX12_165 hyX12_isChamber rfl ⟨by decide, by decide⟩ rfl (Nat.le_of_ble_eq_true rfl) (fun r1 s2 => ?_)
  refine V_if_eq (tgt := 15) X dX12_damps_5 (by decide) ?_ ?_
  · refine V_iconst (v := -1) X dX12_damps_15 (by decide) ?_
    exact V_iret X E hr dX12_damps_16
  · refine V_iload_n 2 X dX12_damps_8 rfl rfl ?_
    refine V_calSI [.int v2] [] X E dX12_damps_9 (kX12_isMotion x.2.1 z hZ N v2 s2) gcX12_210 hyX12_isMotion rfl ⟨by decide, by decide⟩ rfl (Nat.le_of_ble_eq_true rfl) (fun r3 s4 => ?_)
    refine V_if_ne (tgt := 17) X dX12_damps_12 (by decide) ?_ ?_
    · refine V_aload_n 0 X dX12_damps_17 rfl rfl ?_
      refine V_callV [] [] X E dX12_damps_18 (kX12_asTold x.2.1 z hZ N s4) co12 (kM hZ 0 _ rfl) gcX12_213 hyX12_asTold rfl ⟨by decide, by decide⟩ rfl (Nat.le_of_ble_eq_true rfl) (fun r5 s6 => ?_)
      refine V_iconst (v := 0) X dX12_damps_21 (by decide) ?_
      refine V_istore_nG (L' := fun v3_7 => [(3, .int v3_7), (0, .ref (z.2.2.1 0)), (1, .int v1), (2, .int v2)]) X dX12_damps_22 rfl (by decide) (fun _ => rfl) (fun v3_7 => ?_)
      refine V_iconst (v := 0) X dX12_damps_23 (by decide) ?_
      refine V_istoreG (L' := fun v4_8 => [(4, .int v4_8), (3, .int v3_7), (0, .ref (z.2.2.1 0)), (1, .int v1), (2, .int v2)]) X dX12_damps_24 (by decide) (fun _ => rfl) (fun v4_8 => ?_)
      refine V_sub [2, 4, 1, 0] rfl ?_
      exact lX12_damps_26 X E hr hZ N N v2 v3_7 v4_8 s6
    · refine V_iconst (v := -1) X dX12_damps_15 (by decide) ?_
      exact V_iret X E hr dX12_damps_16
theorem kX12_damps (l : Launch) (z : Sx) (hZ : z.2.2.2.1 = kdM) (N : Nat) (v1 : Int32) (v2 : Int32) (σ : Mem) : Ct QI yX12_damps cX12_damps 5 (some .int) 5 113 l z [.ref (z.2.2.1 0), .int v1, .int v2] σ (fX12_damps N v1 v2 σ) := by
  refine Ct_of (by decide +kernel) (Nat.le_of_ble_eq_true rfl) rfl ?_
  intro x _ X E hr
  exact bX12_damps_0 X E hr hZ N v1 v2 σ
def fX12_tips_b25 (N : Nat) (rc25 : Int32 → Int32 → Int32 → Mem → Option (Int32 × Mem)) (v2 : Int32) (v3 : Int32) (v4 : Int32) (σ : Mem) : Option (Int32 × Mem) :=
  if 10 ≤ v4 then some ((-1), σ) else lt_ (pI σ 0 14 v4) (fun s6 => bd (fX12_loudOf N v3 v2 s6) (fun r7 s8 => bd (fX12_of N v3 3 s8) (fun r9 s10 => if r7 < r9 then lt_ (v4 + 1) (fun v4_11 => rc25 v2 v3 v4_11 s10) else some (v4, s10))))
set_option maxRecDepth 100000 in
set_option maxHeartbeats 4000000 in
theorem bX12_tips_25 {x : Cx} {z : Sx} (X : XG x z RX12 cX12_tips 5 4 88) (E : XE x z) (hr : XR x (some .int)) (hZ : z.2.2.2.1 = kdM) (N : Nat) (rc25 : Int32 → Int32 → Int32 → Mem → Option (Int32 × Mem)) (hc25 : ∀ (v2 : Int32) (v3 : Int32) (v4 : Int32) (σ : Mem), VK x z 5 (BQ QI x z) 25 [(0, .ref (z.2.2.1 0)), (2, .int v2), (3, .int v3), (4, .int v4)] [] σ (rc25 v2 v3 v4 σ)) (v2 : Int32) (v3 : Int32) (v4 : Int32) (σ : Mem) : VK x z 5 (BQ QI x z) 25 [(0, .ref (z.2.2.1 0)), (2, .int v2), (3, .int v3), (4, .int v4)] [] σ (fX12_tips_b25 N rc25 v2 v3 v4 σ) := by
  unfold fX12_tips_b25
  refine V_iload 3 X dX12_tips_25 rfl ?_
  refine V_bipush (v := 10) X dX12_tips_27 (by decide) ?_
  refine V_icmp_ge (tgt := 62) X dX12_tips_29 (by decide) ?_ ?_
  · refine V_iconst (v := -1) X dX12_tips_62 (by decide) ?_
    exact V_iret X E hr dX12_tips_63
  · refine V_aload_n 0 X dX12_tips_32 rfl rfl ?_
    refine V_iload 3 X dX12_tips_33 rfl ?_
    refine V_putIG 14 X dX12_tips_35 co12 (kM hZ 0 _ rfl) (by decide) rfl wfX12_180 rfl rfl rfl (fun s6 => ?_)
    refine V_aload_n 0 X dX12_tips_38 rfl rfl ?_
    refine V_iload_n 2 X dX12_tips_39 rfl rfl ?_
    refine V_iload_n 1 X dX12_tips_40 rfl rfl ?_
    refine V_callI [.int v3, .int v2] [] X E dX12_tips_41 (kX12_loudOf x.2.1 z hZ N v3 v2 s6) co12 (kM hZ 0 _ rfl) gcX12_198 hyX12_loudOf rfl ⟨by decide, by decide⟩ rfl (Nat.le_of_ble_eq_true rfl) (fun r7 s8 => ?_)
    refine V_aload_n 0 X dX12_tips_44 rfl rfl ?_
    refine V_iload_n 2 X dX12_tips_45 rfl rfl ?_
    refine V_iconst (v := 3) X dX12_tips_46 (by decide) ?_
    refine V_callI [.int v3, .int 3] [.int r7] X E dX12_tips_47 (kX12_of x.2.1 z hZ N v3 3 s8) co12 (kM hZ 0 _ rfl) gcX12_171 hyX12_of rfl ⟨by decide, by decide⟩ rfl (Nat.le_of_ble_eq_true rfl) (fun r9 s10 => ?_)
    refine V_icmp_lt (tgt := 56) X dX12_tips_50 (by decide) ?_ ?_
    · refine V_iincG (L' := fun v4_11 => [(4, .int v4_11), (0, .ref (z.2.2.1 0)), (2, .int v2), (3, .int v3)]) 3 X dX12_tips_56 rfl rfl (by decide) (fun _ => rfl) (fun v4_11 => ?_)
      refine V_goto (tgt := 25) X dX12_tips_59 (by decide) ?_
      refine V_sub [1, 2, 3, 0] rfl ?_
      exact hc25 v2 v3 v4_11 s10
    · refine V_iload 3 X dX12_tips_53 rfl ?_
      exact V_iret X E hr dX12_tips_55
def fX12_tips_l25 (N : Nat) : Nat → Int32 → Int32 → Int32 → Mem → Option (Int32 × Mem)
  | 0 => fun _ _ _ _ => none
  | n + 1 => fX12_tips_b25 N (fX12_tips_l25 N n)
theorem lX12_tips_25 {x : Cx} {z : Sx} (X : XG x z RX12 cX12_tips 5 4 88) (E : XE x z) (hr : XR x (some .int)) (hZ : z.2.2.2.1 = kdM) (N : Nat) (n : Nat) (v2 : Int32) (v3 : Int32) (v4 : Int32) (σ : Mem) : VK x z 5 (BQ QI x z) 25 [(0, .ref (z.2.2.1 0)), (2, .int v2), (3, .int v3), (4, .int v4)] [] σ (fX12_tips_l25 N n v2 v3 v4 σ) := by
  induction n generalizing v2 v3 v4 σ with
  | zero => exact V_none
  | succ n ih => exact bX12_tips_25 X E hr hZ N (fX12_tips_l25 N n) ih v2 v3 v4 σ
def fX12_tips (N : Nat) (v1 : Int32) (v2 : Int32) (v3 : Int32) (σ : Mem) : Option (Int32 × Mem) :=
  bd (fX12_isAsked N v1 v2 v3 σ) (fun r1 s2 => if r1 = 0 then some ((-1), s2) else bd (fX12_of N v3 0 s2) (fun r3 s4 => if r3 = 1 then lt_ 0 (fun v4_5 => fX12_tips_l25 N N v2 v3 v4_5 s4) else some ((-1), s4)))
set_option maxRecDepth 100000 in
set_option maxHeartbeats 4000000 in
theorem bX12_tips_0 {x : Cx} {z : Sx} (X : XG x z RX12 cX12_tips 5 4 88) (E : XE x z) (hr : XR x (some .int)) (hZ : z.2.2.2.1 = kdM) (N : Nat) (v1 : Int32) (v2 : Int32) (v3 : Int32) (σ : Mem) : VK x z 5 (BQ QI x z) 0 [(0, .ref (z.2.2.1 0)), (1, .int v1), (2, .int v2), (3, .int v3)] [] σ (fX12_tips N v1 v2 v3 σ) := by
  unfold fX12_tips
  refine V_aload_n 0 X dX12_tips_0 rfl rfl ?_
  refine V_iload_n 1 X dX12_tips_1 rfl rfl ?_
  refine V_iload_n 2 X dX12_tips_2 rfl rfl ?_
  refine V_iload_n 3 X dX12_tips_3 rfl rfl ?_
  refine V_callI [.int v1, .int v2, .int v3] [] X E dX12_tips_4 (kX12_isAsked x.2.1 z hZ N v1 v2 v3 σ) co12 (kM hZ 0 _ rfl) gcX12_291 hyX12_isAsked rfl ⟨by decide, by decide⟩ rfl (Nat.le_of_ble_eq_true rfl) (fun r1 s2 => ?_)
  refine V_if_eq (tgt := 20) X dX12_tips_7 (by decide) ?_ ?_
  · refine V_iconst (v := -1) X dX12_tips_20 (by decide) ?_
    exact V_iret X E hr dX12_tips_21
  · refine V_aload_n 0 X dX12_tips_10 rfl rfl ?_
    refine V_iload_n 3 X dX12_tips_11 rfl rfl ?_
    refine V_iconst (v := 0) X dX12_tips_12 (by decide) ?_
    refine V_callI [.int v3, .int 0] [] X E dX12_tips_13 (kX12_of x.2.1 z hZ N v3 0 s2) co12 (kM hZ 0 _ rfl) gcX12_171 hyX12_of rfl ⟨by decide, by decide⟩ rfl (Nat.le_of_ble_eq_true rfl) (fun r3 s4 => ?_)
    refine V_iconst (v := 1) X dX12_tips_16 (by decide) ?_
    refine V_icmp_eq (tgt := 22) X dX12_tips_17 (by decide) ?_ ?_
    · refine V_iconst (v := 0) X dX12_tips_22 (by decide) ?_
      refine V_istoreG (L' := fun v4_5 => [(4, .int v4_5), (0, .ref (z.2.2.1 0)), (1, .int v1), (2, .int v2), (3, .int v3)]) X dX12_tips_23 (by decide) (fun _ => rfl) (fun v4_5 => ?_)
      refine V_sub [1, 3, 4, 0] rfl ?_
      exact lX12_tips_25 X E hr hZ N N v2 v3 v4_5 s4
    · refine V_iconst (v := -1) X dX12_tips_20 (by decide) ?_
      exact V_iret X E hr dX12_tips_21
theorem kX12_tips (l : Launch) (z : Sx) (hZ : z.2.2.2.1 = kdM) (N : Nat) (v1 : Int32) (v2 : Int32) (v3 : Int32) (σ : Mem) : Ct QI yX12_tips cX12_tips 5 (some .int) 4 88 l z [.ref (z.2.2.1 0), .int v1, .int v2, .int v3] σ (fX12_tips N v1 v2 v3 σ) := by
  refine Ct_of (by decide +kernel) (Nat.le_of_ble_eq_true rfl) rfl ?_
  intro x _ X E hr
  exact bX12_tips_0 X E hr hZ N v1 v2 v3 σ
def fX12_weighty_b70 (N : Nat) (rc33 : Int32 → Int32 → Int32 → Int32 → Mem → Option (Int32 × Mem)) (v2 : Int32) (v3 : Int32) (v5 : Int32) (t0 : Int32) (t1 : Int32) (σ : Mem) : Option (Int32 × Mem) :=
  lt_ (t1 ||| t0) (fun v4_15 => bd (fX12_ofPerson N v5 1 σ) (fun r16 s17 => gd (inb v5 6) (lt_ (pI s17 6 v5.toNatClampNeg r16) (fun s18 => lt_ (v5 + 1) (fun v5_19 => rc33 v2 v3 v4_15 v5_19 s18)))))
set_option maxRecDepth 100000 in
set_option maxHeartbeats 4000000 in
theorem bX12_weighty_70 {x : Cx} {z : Sx} (X : XG x z RX12 cX12_weighty 6 5 113) (E : XE x z) (hr : XR x (some .int)) (hZ : z.2.2.2.1 = kdM) (N : Nat) (rc33 : Int32 → Int32 → Int32 → Int32 → Mem → Option (Int32 × Mem)) (hc33 : ∀ (v2 : Int32) (v3 : Int32) (v4 : Int32) (v5 : Int32) (σ : Mem), VK x z 6 (BQ QI x z) 33 [(0, .ref (z.2.2.1 0)), (2, .int v2), (3, .int v3), (4, .int v4), (5, .int v5)] [] σ (rc33 v2 v3 v4 v5 σ)) (v2 : Int32) (v3 : Int32) (v5 : Int32) (t0 : Int32) (t1 : Int32) (σ : Mem) : VK x z 6 (BQ QI x z) 70 [(0, .ref (z.2.2.1 0)), (2, .int v2), (3, .int v3), (5, .int v5)] [.int t0, .int t1] σ (fX12_weighty_b70 N rc33 v2 v3 v5 t0 t1 σ) := by
  unfold fX12_weighty_b70
  refine V_ior X dX12_weighty_70 ?_
  refine V_istoreG (L' := fun v4_15 => [(4, .int v4_15), (0, .ref (z.2.2.1 0)), (2, .int v2), (3, .int v3), (5, .int v5)]) X dX12_weighty_71 (by decide) (fun _ => rfl) (fun v4_15 => ?_)
  refine V_aload_n 1 X dX12_weighty_73 rfl rfl ?_
  refine V_getR (k1 := 6) 19 X dX12_weighty_74 co12 (kM hZ 0 _ rfl) (by decide) rfl rfl wfX12_26 ?_
  refine V_iload 4 X dX12_weighty_77 rfl ?_
  refine V_aload_n 1 X dX12_weighty_79 rfl rfl ?_
  refine V_iload 4 X dX12_weighty_80 rfl ?_
  refine V_iconst (v := 1) X dX12_weighty_82 (by decide) ?_
  refine V_callI [.int v5, .int 1] [.int v5, .ref (z.2.2.1 6)] X E dX12_weighty_83 (kX12_ofPerson x.2.1 z hZ N v5 1 σ) co12 (kM hZ 0 _ rfl) gcX12_177 hyX12_ofPerson rfl ⟨by decide, by decide⟩ rfl (Nat.le_of_ble_eq_true rfl) (fun r16 s17 => ?_)
  refine V_iastG X dX12_weighty_86 (kM hZ 6 _ rfl) (fun s18 => ?_)
  refine V_iincG (L' := fun v5_19 => [(5, .int v5_19), (4, .int v4_15), (0, .ref (z.2.2.1 0)), (2, .int v2), (3, .int v3)]) 4 X dX12_weighty_87 rfl rfl (by decide) (fun _ => rfl) (fun v5_19 => ?_)
  refine V_goto (tgt := 33) X dX12_weighty_90 (by decide) ?_
  refine V_sub [2, 3, 4, 1, 0] rfl ?_
  exact hc33 v2 v3 v4_15 v5_19 s18
def fX12_weighty_b33 (N : Nat) (rc33 : Int32 → Int32 → Int32 → Int32 → Mem → Option (Int32 × Mem)) (v2 : Int32) (v3 : Int32) (v4 : Int32) (v5 : Int32) (σ : Mem) : Option (Int32 × Mem) :=
  if (σ.1 0 13) ≤ v5 then some (v4, σ) else gd (inb v5 6) (lt_ (pI σ 6 v5.toNatClampNeg 8) (fun s12 => bd (fX12_answers N v2 s12) (fun r13 s14 => if r13 = v3 then fX12_weighty_b70 N rc33 v2 v3 v5 0 v4 s14 else fX12_weighty_b70 N rc33 v2 v3 v5 (1 <<< (v5 &&& 31)) v4 s14)))
set_option maxRecDepth 100000 in
set_option maxHeartbeats 4000000 in
theorem bX12_weighty_33 {x : Cx} {z : Sx} (X : XG x z RX12 cX12_weighty 6 5 113) (E : XE x z) (hr : XR x (some .int)) (hZ : z.2.2.2.1 = kdM) (N : Nat) (rc33 : Int32 → Int32 → Int32 → Int32 → Mem → Option (Int32 × Mem)) (hc33 : ∀ (v2 : Int32) (v3 : Int32) (v4 : Int32) (v5 : Int32) (σ : Mem), VK x z 6 (BQ QI x z) 33 [(0, .ref (z.2.2.1 0)), (2, .int v2), (3, .int v3), (4, .int v4), (5, .int v5)] [] σ (rc33 v2 v3 v4 v5 σ)) (v2 : Int32) (v3 : Int32) (v4 : Int32) (v5 : Int32) (σ : Mem) : VK x z 6 (BQ QI x z) 33 [(0, .ref (z.2.2.1 0)), (2, .int v2), (3, .int v3), (4, .int v4), (5, .int v5)] [] σ (fX12_weighty_b33 N rc33 v2 v3 v4 v5 σ) := by
  unfold fX12_weighty_b33
  refine V_iload 4 X dX12_weighty_33 rfl ?_
  refine V_aload_n 0 X dX12_weighty_35 rfl rfl ?_
  refine V_getI 13 X dX12_weighty_36 co12 (kM hZ 0 _ rfl) (by decide) rfl wfX12_162 ?_
  refine V_icmp_ge (tgt := 93) X dX12_weighty_39 (by decide) ?_ ?_
  · refine V_iload 3 X dX12_weighty_93 rfl ?_
    exact V_iret X E hr dX12_weighty_95
  · refine V_aload_n 0 X dX12_weighty_42 rfl rfl ?_
    refine V_getR (k1 := 6) 19 X dX12_weighty_43 co12 (kM hZ 0 _ rfl) (by decide) rfl rfl wfX12_26 ?_
    refine V_iload 4 X dX12_weighty_46 rfl ?_
    refine V_bipush (v := 8) X dX12_weighty_48 (by decide) ?_
    refine V_iastG X dX12_weighty_50 (kM hZ 6 _ rfl) (fun s12 => ?_)
    refine V_iload 3 X dX12_weighty_51 rfl ?_
    refine V_aload_n 0 X dX12_weighty_53 rfl rfl ?_
    refine V_iload_n 1 X dX12_weighty_54 rfl rfl ?_
    refine V_callI [.int v2] [.int v4] X E dX12_weighty_55 (kX12_answers x.2.1 z hZ N v2 s12) co12 (kM hZ 0 _ rfl) gcX12_216 hyX12_answers rfl ⟨by decide, by decide⟩ rfl (Nat.le_of_ble_eq_true rfl) (fun r13 s14 => ?_)
    refine V_iload_n 2 X dX12_weighty_58 rfl rfl ?_
    refine V_icmp_eq (tgt := 69) X dX12_weighty_59 (by decide) ?_ ?_
    · refine V_iconst (v := 0) X dX12_weighty_69 (by decide) ?_
      refine V_sub [0, 1, 2, 4] rfl ?_
      exact bX12_weighty_70 X E hr hZ N rc33 hc33 v2 v3 v5 0 v4 s14
    · refine V_iconst (v := 1) X dX12_weighty_62 (by decide) ?_
      refine V_iload 4 X dX12_weighty_63 rfl ?_
      refine V_ishl X dX12_weighty_65 ?_
      refine V_goto (tgt := 70) X dX12_weighty_66 (by decide) ?_
      refine V_sub [0, 1, 2, 4] rfl ?_
      exact bX12_weighty_70 X E hr hZ N rc33 hc33 v2 v3 v5 (1 <<< (v5 &&& 31)) v4 s14
def fX12_weighty_l33 (N : Nat) : Nat → Int32 → Int32 → Int32 → Int32 → Mem → Option (Int32 × Mem)
  | 0 => fun _ _ _ _ _ => none
  | n + 1 => fX12_weighty_b33 N (fX12_weighty_l33 N n)
theorem lX12_weighty_33 {x : Cx} {z : Sx} (X : XG x z RX12 cX12_weighty 6 5 113) (E : XE x z) (hr : XR x (some .int)) (hZ : z.2.2.2.1 = kdM) (N : Nat) (n : Nat) (v2 : Int32) (v3 : Int32) (v4 : Int32) (v5 : Int32) (σ : Mem) : VK x z 6 (BQ QI x z) 33 [(0, .ref (z.2.2.1 0)), (2, .int v2), (3, .int v3), (4, .int v4), (5, .int v5)] [] σ (fX12_weighty_l33 N n v2 v3 v4 v5 σ) := by
  induction n generalizing v2 v3 v4 v5 σ with
  | zero => exact V_none
  | succ n ih => exact bX12_weighty_33 X E hr hZ N (fX12_weighty_l33 N n) ih v2 v3 v4 v5 σ
def fX12_weighty (N : Nat) (v1 : Int32) (v2 : Int32) (σ : Mem) : Option (Int32 × Mem) :=
  bd (fX12_isChamber N v1 σ) (fun r1 s2 => if r1 = 0 then some ((-1), s2) else bd (fX12_isMotion N v2 s2) (fun r3 s4 => if r3 = 0 then some ((-1), s4) else bd (fX12_asTold N s4) (fun r5 s6 => bd (fX12_answers N v2 s6) (fun r7 s8 => lt_ r7 (fun v3_9 => lt_ 0 (fun v4_10 => lt_ 0 (fun v5_11 => fX12_weighty_l33 N N v2 v3_9 v4_10 v5_11 s8)))))))
set_option maxRecDepth 100000 in
set_option maxHeartbeats 4000000 in
theorem bX12_weighty_0 {x : Cx} {z : Sx} (X : XG x z RX12 cX12_weighty 6 5 113) (E : XE x z) (hr : XR x (some .int)) (hZ : z.2.2.2.1 = kdM) (N : Nat) (v1 : Int32) (v2 : Int32) (σ : Mem) : VK x z 6 (BQ QI x z) 0 [(0, .ref (z.2.2.1 0)), (1, .int v1), (2, .int v2)] [] σ (fX12_weighty N v1 v2 σ) := by
  unfold fX12_weighty
  refine V_aload_n 0 X dX12_weighty_0 rfl rfl ?_
  refine V_iload_n 1 X dX12_weighty_1 rfl rfl ?_
  refine V_callI [.int v1] [] X E dX12_weighty_2 (kX12_isChamber x.2.1 z hZ N v1 σ) co12 (kM hZ 0 _ rfl) gcX12_165 hyX12_isChamber rfl ⟨by decide, by decide⟩ rfl (Nat.le_of_ble_eq_true rfl) (fun r1 s2 => ?_)
  refine V_if_eq (tgt := 15) X dX12_weighty_5 (by decide) ?_ ?_
  · refine V_iconst (v := -1) X dX12_weighty_15 (by decide) ?_
    exact V_iret X E hr dX12_weighty_16
  · refine V_iload_n 2 X dX12_weighty_8 rfl rfl ?_
    refine V_calSI [.int v2] [] X E dX12_weighty_9 (kX12_isMotion x.2.1 z hZ N v2 s2) gcX12_210 hyX12_isMotion rfl ⟨by decide, by decide⟩ rfl (Nat.le_of_ble_eq_true rfl) (fun r3 s4 => ?_)
    refine V_if_ne (tgt := 17) X dX12_weighty_12 (by decide) ?_ ?_
    · refine V_aload_n 0 X dX12_weighty_17 rfl rfl ?_
      refine V_callV [] [] X E dX12_weighty_18 (kX12_asTold x.2.1 z hZ N s4) co12 (kM hZ 0 _ rfl) gcX12_213 hyX12_asTold rfl ⟨by decide, by decide⟩ rfl (Nat.le_of_ble_eq_true rfl) (fun r5 s6 => ?_)
      refine V_aload_n 0 X dX12_weighty_21 rfl rfl ?_
      refine V_iload_n 2 X dX12_weighty_22 rfl rfl ?_
      refine V_callI [.int v2] [] X E dX12_weighty_23 (kX12_answers x.2.1 z hZ N v2 s6) co12 (kM hZ 0 _ rfl) gcX12_216 hyX12_answers rfl ⟨by decide, by decide⟩ rfl (Nat.le_of_ble_eq_true rfl) (fun r7 s8 => ?_)
      refine V_istore_nG (L' := fun v3_9 => [(3, .int v3_9), (0, .ref (z.2.2.1 0)), (1, .int v1), (2, .int v2)]) X dX12_weighty_26 rfl (by decide) (fun _ => rfl) (fun v3_9 => ?_)
      refine V_iconst (v := 0) X dX12_weighty_27 (by decide) ?_
      refine V_istoreG (L' := fun v4_10 => [(4, .int v4_10), (3, .int v3_9), (0, .ref (z.2.2.1 0)), (1, .int v1), (2, .int v2)]) X dX12_weighty_28 (by decide) (fun _ => rfl) (fun v4_10 => ?_)
      refine V_iconst (v := 0) X dX12_weighty_30 (by decide) ?_
      refine V_istoreG (L' := fun v5_11 => [(5, .int v5_11), (4, .int v4_10), (3, .int v3_9), (0, .ref (z.2.2.1 0)), (1, .int v1), (2, .int v2)]) X dX12_weighty_31 (by decide) (fun _ => rfl) (fun v5_11 => ?_)
      refine V_sub [3, 5, 2, 1, 0] rfl ?_
      exact lX12_weighty_33 X E hr hZ N N v2 v3_9 v4_10 v5_11 s8
    · refine V_iconst (v := -1) X dX12_weighty_15 (by decide) ?_
      exact V_iret X E hr dX12_weighty_16
theorem kX12_weighty (l : Launch) (z : Sx) (hZ : z.2.2.2.1 = kdM) (N : Nat) (v1 : Int32) (v2 : Int32) (σ : Mem) : Ct QI yX12_weighty cX12_weighty 6 (some .int) 5 113 l z [.ref (z.2.2.1 0), .int v1, .int v2] σ (fX12_weighty N v1 v2 σ) := by
  refine Ct_of (by decide +kernel) (Nat.le_of_ble_eq_true rfl) rfl ?_
  intro x _ X E hr
  exact bX12_weighty_0 X E hr hZ N v1 v2 σ
