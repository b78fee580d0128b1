def fX9_append_b49 (N : Nat) (h : Nat) (rc3 : Int32 → Int32 → Mem → Option (Unit × Mem)) (v1 : Int32) (v2 : Int32) (σ : Mem) : Option (Unit × Mem) :=
  lt_ (v2 + (-8)) (fun v2_4 => rc3 v1 v2_4 σ)
set_option maxRecDepth 100000 in
set_option maxHeartbeats 4000000 in
theorem bX9_append_49 {x : Cx} {z : Sx} (X : XG x z RX9 cX9_append 3 0 0) (E : XE x z) (hr : XR x none) (hZ : z.2.2.2.1 = kdC) (N : Nat) (h : Nat) (hh : z.2.2.2.1 h = (9, 0)) (rc3 : Int32 → Int32 → Mem → Option (Unit × Mem)) (hc3 : ∀ (v1 : Int32) (v2 : Int32) (σ : Mem), VK x z 3 (BQ QV x z) 3 [(0, .ref (z.2.2.1 h)), (1, .int v1), (2, .int v2)] [] σ (rc3 v1 v2 σ)) (v1 : Int32) (v2 : Int32) (σ : Mem) : VK x z 3 (BQ QV x z) 49 [(0, .ref (z.2.2.1 h)), (1, .int v1), (2, .int v2)] [] σ (fX9_append_b49 N h rc3 v1 v2 σ) := by
  unfold fX9_append_b49
  refine V_iincG (L' := fun v2_4 => [(2, .int v2_4), (0, .ref (z.2.2.1 h)), (1, .int v1)]) 2 X dX9_append_49 rfl rfl (by decide) (fun _ => rfl) (fun v2_4 => ?_)
  refine V_goto (tgt := 3) X dX9_append_52 (by decide) ?_
  refine V_sub [1, 2, 0] rfl ?_
  exact hc3 v1 v2_4 σ
def fX9_append_b3 (N : Nat) (h : Nat) (rc3 : Int32 → Int32 → Mem → Option (Unit × Mem)) (v1 : Int32) (v2 : Int32) (σ : Mem) : Option (Unit × Mem) :=
  if v2 < 0 then some ((), σ) else if (σ.1 h 1) < 0 then fX9_append_b49 N h rc3 v1 v2 σ else if 600 ≤ (σ.1 h 1) then fX9_append_b49 N h rc3 v1 v2 σ else gd (inb (σ.1 h 1) 600) (lt_ (pI σ (h + 1) (σ.1 h 1).toNatClampNeg (vp_nar .byte (((v1 >>> (v2 &&& 31)) : Int32).toInt8.toInt32))) (fun s2 => lt_ (pI s2 h 1 ((s2.1 h 1) + 1)) (fun s3 => fX9_append_b49 N h rc3 v1 v2 s3)))
set_option maxRecDepth 100000 in
set_option maxHeartbeats 4000000 in
theorem bX9_append_3 {x : Cx} {z : Sx} (X : XG x z RX9 cX9_append 3 0 0) (E : XE x z) (hr : XR x none) (hZ : z.2.2.2.1 = kdC) (N : Nat) (h : Nat) (hh : z.2.2.2.1 h = (9, 0)) (rc3 : Int32 → Int32 → Mem → Option (Unit × Mem)) (hc3 : ∀ (v1 : Int32) (v2 : Int32) (σ : Mem), VK x z 3 (BQ QV x z) 3 [(0, .ref (z.2.2.1 h)), (1, .int v1), (2, .int v2)] [] σ (rc3 v1 v2 σ)) (v1 : Int32) (v2 : Int32) (σ : Mem) : VK x z 3 (BQ QV x z) 3 [(0, .ref (z.2.2.1 h)), (1, .int v1), (2, .int v2)] [] σ (fX9_append_b3 N h rc3 v1 v2 σ) := by
  unfold fX9_append_b3
  refine V_iload_n 2 X dX9_append_3 rfl rfl ?_
  refine V_if_lt (tgt := 55) X dX9_append_4 (by decide) ?_ ?_
  · exact V_vret X E hr dX9_append_55
  · refine V_aload_n 0 X dX9_append_7 rfl rfl ?_
    refine V_getI 1 X dX9_append_8 co9 hh (by decide) rfl wfX9_44 ?_
    refine V_if_lt (tgt := 49) X dX9_append_11 (by decide) ?_ ?_
    · refine V_sub [0, 1, 2] rfl ?_
      exact bX9_append_49 X E hr hZ N h hh rc3 hc3 v1 v2 σ
    · refine V_aload_n 0 X dX9_append_14 rfl rfl ?_
      refine V_getI 1 X dX9_append_15 co9 hh (by decide) rfl wfX9_44 ?_
      refine V_aload_n 0 X dX9_append_18 rfl rfl ?_
      refine V_getR (k1 := (h + 1)) 0 X dX9_append_19 co9 hh (by decide) rfl rfl wfX9_9 ?_
      refine V_alen52 (v := 600) X dX9_append_22 (kt9_0 hZ hh) (by decide) ?_
      refine V_icmp_ge (tgt := 49) X dX9_append_23 (by decide) ?_ ?_
      · refine V_sub [0, 1, 2] rfl ?_
        exact bX9_append_49 X E hr hZ N h hh rc3 hc3 v1 v2 σ
      · refine V_aload_n 0 X dX9_append_26 rfl rfl ?_
        refine V_getR (k1 := (h + 1)) 0 X dX9_append_27 co9 hh (by decide) rfl rfl wfX9_9 ?_
        refine V_aload_n 0 X dX9_append_30 rfl rfl ?_
        refine V_getI 1 X dX9_append_31 co9 hh (by decide) rfl wfX9_44 ?_
        refine V_iload_n 1 X dX9_append_34 rfl rfl ?_
        refine V_iload_n 2 X dX9_append_35 rfl rfl ?_
        refine V_ishr X dX9_append_36 ?_
        refine V_i2b X dX9_append_37 ?_
        refine V_bastG X dX9_append_38 (kt9_0 hZ hh) (fun s2 => ?_)
        refine V_aload_n 0 X dX9_append_39 rfl rfl ?_
        refine V_dup X dX9_append_40 rfl ?_
        refine V_getI 1 X dX9_append_41 co9 hh (by decide) rfl wfX9_44 ?_
        refine V_iconst (v := 1) X dX9_append_44 (by decide) ?_
        refine V_iadd X dX9_append_45 ?_
        refine V_putIG 1 X dX9_append_46 co9 hh (by decide) rfl wfX9_44 rfl rfl rfl (fun s3 => ?_)
        refine V_sub [0, 1, 2] rfl ?_
        exact bX9_append_49 X E hr hZ N h hh rc3 hc3 v1 v2 s3
def fX9_append_l3 (N : Nat) (h : Nat) : Nat → Int32 → Int32 → Mem → Option (Unit × Mem)
  | 0 => fun _ _ _ => none
  | n + 1 => fX9_append_b3 N h (fX9_append_l3 N h n)
theorem lX9_append_3 {x : Cx} {z : Sx} (X : XG x z RX9 cX9_append 3 0 0) (E : XE x z) (hr : XR x none) (hZ : z.2.2.2.1 = kdC) (N : Nat) (h : Nat) (hh : z.2.2.2.1 h = (9, 0)) (n : Nat) (v1 : Int32) (v2 : Int32) (σ : Mem) : VK x z 3 (BQ QV x z) 3 [(0, .ref (z.2.2.1 h)), (1, .int v1), (2, .int v2)] [] σ (fX9_append_l3 N h n v1 v2 σ) := by
  induction n generalizing v1 v2 σ with
  | zero => exact V_none
  | succ n ih => exact bX9_append_3 X E hr hZ N h hh (fX9_append_l3 N h n) ih v1 v2 σ
def fX9_append (N : Nat) (h : Nat) (v1 : Int32) (σ : Mem) : Option (Unit × Mem) :=
  lt_ 24 (fun v2_1 => fX9_append_l3 N h N v1 v2_1 σ)
set_option maxRecDepth 100000 in
set_option maxHeartbeats 4000000 in
theorem bX9_append_0 {x : Cx} {z : Sx} (X : XG x z RX9 cX9_append 3 0 0) (E : XE x z) (hr : XR x none) (hZ : z.2.2.2.1 = kdC) (N : Nat) (h : Nat) (hh : z.2.2.2.1 h = (9, 0)) (v1 : Int32) (σ : Mem) : VK x z 3 (BQ QV x z) 0 [(0, .ref (z.2.2.1 h)), (1, .int v1)] [] σ (fX9_append N h v1 σ) := by
  unfold fX9_append
  refine V_bipush (v := 24) X dX9_append_0 (by decide) ?_
  refine V_istore_nG (L' := fun v2_1 => [(2, .int v2_1), (0, .ref (z.2.2.1 h)), (1, .int v1)]) X dX9_append_2 rfl (by decide) (fun _ => rfl) (fun v2_1 => ?_)
  refine V_sub [1, 2, 0] rfl ?_
  exact lX9_append_3 X E hr hZ N h hh N v1 v2_1 σ
theorem kX9_append (l : Launch) (z : Sx) (hZ : z.2.2.2.1 = kdC) (N : Nat) (h : Nat) (hh : z.2.2.2.1 h = (9, 0)) (v1 : Int32) (σ : Mem) : Ct QV yX9_append cX9_append 3 none 0 0 l z [.ref (z.2.2.1 h), .int v1] σ (fX9_append N h v1 σ) := by
  refine Ct_of (by decide +kernel) (Nat.le_of_ble_eq_true rfl) rfl ?_
  intro x _ X E hr
  exact bX9_append_0 X E hr hZ N h hh v1 σ
def fX11_feed (N : Nat) (h : Nat) (v1 : Int32) (v2 : Int32) (v3 : Int32) (v4 : Int32) (v5 : Int32) (σ : Mem) : Option (Int32 × Mem) :=
  if ((σ.1 (h + 1) 1) + 20) ≤ 600 then bd (fX9_append N (h + 1) v1 σ) (fun r1 s2 => bd (fX9_append N (h + 1) v2 s2) (fun r3 s4 => bd (fX9_append N (h + 1) v3 s4) (fun r5 s6 => bd (fX9_append N (h + 1) v4 s6) (fun r7 s8 => bd (fX9_append N (h + 1) v5 s8) (fun r9 s10 => some ((s10.1 (h + 1) 1), s10)))))) else some ((-1), σ)
set_option maxRecDepth 100000 in
set_option maxHeartbeats 4000000 in
theorem bX11_feed_0 {x : Cx} {z : Sx} (X : XG x z RX11 cX11_feed 6 1 22) (E : XE x z) (hr : XR x (some .int)) (hZ : z.2.2.2.1 = kdC) (N : Nat) (h : Nat) (hh : z.2.2.2.1 h = (11, 0)) (v1 : Int32) (v2 : Int32) (v3 : Int32) (v4 : Int32) (v5 : Int32) (σ : Mem) : VK x z 6 (BQ QI x z) 0 [(0, .ref (z.2.2.1 h)), (1, .int v1), (2, .int v2), (3, .int v3), (4, .int v4), (5, .int v5)] [] σ (fX11_feed N h v1 v2 v3 v4 v5 σ) := by
  unfold fX11_feed
  refine V_aload_n 0 X dX11_feed_0 rfl rfl ?_
  refine V_getR (k1 := (h + 1)) 0 X dX11_feed_1 co11 hh (by decide) rfl rfl wfX11_10 ?_
  refine V_getI 1 X dX11_feed_4 co9 (kt11_0 hZ hh) (by decide) rfl wfX11_73 ?_
  refine V_bipush (v := 20) X dX11_feed_7 (by decide) ?_
  refine V_iadd X dX11_feed_9 ?_
  refine V_sipush (v := 600) X dX11_feed_10 (by decide) ?_
  refine V_icmp_le (tgt := 18) X dX11_feed_13 (by decide) ?_ ?_
  · refine V_aload_n 0 X dX11_feed_18 rfl rfl ?_
    refine V_getR (k1 := (h + 1)) 0 X dX11_feed_19 co11 hh (by decide) rfl rfl wfX11_10 ?_
    refine V_iload_n 1 X dX11_feed_22 rfl rfl ?_
    refine V_callV [.int v1] [] X E dX11_feed_23 (kX9_append x.2.1 z hZ N (h + 1) (kt11_0 hZ hh) v1 σ) co9 (kt11_0 hZ hh) gcX11_77 hyX9_append rfl ⟨by decide, by decide⟩ rfl (Nat.le_of_ble_eq_true rfl) (fun r1 s2 => ?_)
    refine V_aload_n 0 X dX11_feed_26 rfl rfl ?_
    refine V_getR (k1 := (h + 1)) 0 X dX11_feed_27 co11 hh (by decide) rfl rfl wfX11_10 ?_
    refine V_iload_n 2 X dX11_feed_30 rfl rfl ?_
    refine V_callV [.int v2] [] X E dX11_feed_31 (kX9_append x.2.1 z hZ N (h + 1) (kt11_0 hZ hh) v2 s2) co9 (kt11_0 hZ hh) gcX11_77 hyX9_append rfl ⟨by decide, by decide⟩ rfl (Nat.le_of_ble_eq_true rfl) (fun r3 s4 => ?_)
    refine V_aload_n 0 X dX11_feed_34 rfl rfl ?_
    refine V_getR (k1 := (h + 1)) 0 X dX11_feed_35 co11 hh (by decide) rfl rfl wfX11_10 ?_
    refine V_iload_n 3 X dX11_feed_38 rfl rfl ?_
    refine V_callV [.int v3] [] X E dX11_feed_39 (kX9_append x.2.1 z hZ N (h + 1) (kt11_0 hZ hh) v3 s4) co9 (kt11_0 hZ hh) gcX11_77 hyX9_append rfl ⟨by decide, by decide⟩ rfl (Nat.le_of_ble_eq_true rfl) (fun r5 s6 => ?_)
    refine V_aload_n 0 X dX11_feed_42 rfl rfl ?_
    refine V_getR (k1 := (h + 1)) 0 X dX11_feed_43 co11 hh (by decide) rfl rfl wfX11_10 ?_
    refine V_iload 4 X dX11_feed_46 rfl ?_
    refine V_callV [.int v4] [] X E dX11_feed_48 (kX9_append x.2.1 z hZ N (h + 1) (kt11_0 hZ hh) v4 s6) co9 (kt11_0 hZ hh) gcX11_77 hyX9_append rfl ⟨by decide, by decide⟩ rfl (Nat.le_of_ble_eq_true rfl) (fun r7 s8 => ?_)
    refine V_aload_n 0 X dX11_feed_51 rfl rfl ?_
    refine V_getR (k1 := (h + 1)) 0 X dX11_feed_52 co11 hh (by decide) rfl rfl wfX11_10 ?_
    refine V_iload 5 X dX11_feed_55 rfl ?_
    refine V_callV [.int v5] [] X E dX11_feed_57 (kX9_append x.2.1 z hZ N (h + 1) (kt11_0 hZ hh) v5 s8) co9 (kt11_0 hZ hh) gcX11_77 hyX9_append rfl ⟨by decide, by decide⟩ rfl (Nat.le_of_ble_eq_true rfl) (fun r9 s10 => ?_)
    refine V_aload_n 0 X dX11_feed_60 rfl rfl ?_
    refine V_getR (k1 := (h + 1)) 0 X dX11_feed_61 co11 hh (by decide) rfl rfl wfX11_10 ?_
    refine V_getI 1 X dX11_feed_64 co9 (kt11_0 hZ hh) (by decide) rfl wfX11_73 ?_
    exact V_iret X E hr dX11_feed_67
  · refine V_iconst (v := -1) X dX11_feed_16 (by decide) ?_
    exact V_iret X E hr dX11_feed_17
theorem kX11_feed (l : Launch) (z : Sx) (hZ : z.2.2.2.1 = kdC) (N : Nat) (h : Nat) (hh : z.2.2.2.1 h = (11, 0)) (v1 : Int32) (v2 : Int32) (v3 : Int32) (v4 : Int32) (v5 : Int32) (σ : Mem) : Ct QI yX11_feed cX11_feed 6 (some .int) 1 22 l z [.ref (z.2.2.1 h), .int v1, .int v2, .int v3, .int v4, .int v5] σ (fX11_feed N h v1 v2 v3 v4 v5 σ) := by
  refine Ct_of (by decide +kernel) (Nat.le_of_ble_eq_true rfl) rfl ?_
  intro x _ X E hr
  exact bX11_feed_0 X E hr hZ N h hh v1 v2 v3 v4 v5 σ
def fX11_end (N : Nat) (h : Nat) (v1 : Int32) (σ : Mem) : Option (Int32 × Mem) :=
  if v1 < 0 then some ((-1), σ) else if v1 ≤ (σ.1 (h + 1) 1) then lt_ (pI σ (h + 1) 1 v1) (fun s1 => some (v1, s1)) else some ((-1), σ)
set_option maxRecDepth 100000 in
set_option maxHeartbeats 4000000 in
theorem bX11_end_0 {x : Cx} {z : Sx} (X : XG x z RX11 cX11_end 2 0 0) (E : XE x z) (hr : XR x (some .int)) (hZ : z.2.2.2.1 = kdC) (N : Nat) (h : Nat) (hh : z.2.2.2.1 h = (11, 0)) (v1 : Int32) (σ : Mem) : VK x z 2 (BQ QI x z) 0 [(0, .ref (z.2.2.1 h)), (1, .int v1)] [] σ (fX11_end N h v1 σ) := by
  unfold fX11_end
  refine V_iload_n 1 X dX11_end_0 rfl rfl ?_
  refine V_if_lt (tgt := 15) X dX11_end_1 (by decide) ?_ ?_
  · refine V_iconst (v := -1) X dX11_end_15 (by decide) ?_
    exact V_iret X E hr dX11_end_16
  · refine V_iload_n 1 X dX11_end_4 rfl rfl ?_
    refine V_aload_n 0 X dX11_end_5 rfl rfl ?_
    refine V_getR (k1 := (h + 1)) 0 X dX11_end_6 co11 hh (by decide) rfl rfl wfX11_10 ?_
    refine V_getI 1 X dX11_end_9 co9 (kt11_0 hZ hh) (by decide) rfl wfX11_73 ?_
    refine V_icmp_le (tgt := 17) X dX11_end_12 (by decide) ?_ ?_
    · refine V_aload_n 0 X dX11_end_17 rfl rfl ?_
      refine V_getR (k1 := (h + 1)) 0 X dX11_end_18 co11 hh (by decide) rfl rfl wfX11_10 ?_
      refine V_iload_n 1 X dX11_end_21 rfl rfl ?_
      refine V_putIG 1 X dX11_end_22 co9 (kt11_0 hZ hh) (by decide) rfl wfX11_73 rfl rfl rfl (fun s1 => ?_)
      refine V_iload_n 1 X dX11_end_25 rfl rfl ?_
      exact V_iret X E hr dX11_end_26
    · refine V_iconst (v := -1) X dX11_end_15 (by decide) ?_
      exact V_iret X E hr dX11_end_16
theorem kX11_end (l : Launch) (z : Sx) (hZ : z.2.2.2.1 = kdC) (N : Nat) (h : Nat) (hh : z.2.2.2.1 h = (11, 0)) (v1 : Int32) (σ : Mem) : Ct QI yX11_end cX11_end 2 (some .int) 0 0 l z [.ref (z.2.2.1 h), .int v1] σ (fX11_end N h v1 σ) := by
  refine Ct_of (by decide +kernel) (Nat.le_of_ble_eq_true rfl) rfl ?_
  intro x _ X E hr
  exact bX11_end_0 X E hr hZ N h hh v1 σ
def fX9_numberFor (N : Nat) (h : Nat) (v1 : Int32) (v2 : Int32) (σ : Mem) : Option (Int32 × Mem) :=
  if v1 < 0 then some ((-1), σ) else if v1 < 3 then gd (inb v1 3) (lt_ (σ.1 (h + 2) v1.toNatClampNeg) (fun v3_1 => if v2 = (-1) then if 2 ≤ v3_1 then some ((-1), σ) else some (v3_1, σ) else if v2 < 0 then some ((-1), σ) else if v3_1 ≤ v2 then some ((-1), σ) else some (v2, σ))) else some ((-1), σ)
set_option maxRecDepth 100000 in
set_option maxHeartbeats 4000000 in
theorem bX9_numberFor_0 {x : Cx} {z : Sx} (X : XG x z RX9 cX9_numberFor 4 0 0) (E : XE x z) (hr : XR x (some .int)) (hZ : z.2.2.2.1 = kdC) (N : Nat) (h : Nat) (hh : z.2.2.2.1 h = (9, 0)) (v1 : Int32) (v2 : Int32) (σ : Mem) : VK x z 4 (BQ QI x z) 0 [(0, .ref (z.2.2.1 h)), (1, .int v1), (2, .int v2)] [] σ (fX9_numberFor N h v1 v2 σ) := by
  unfold fX9_numberFor
  refine V_iload_n 1 X dX9_numberFor_0 rfl rfl ?_
  refine V_if_lt (tgt := 9) X dX9_numberFor_1 (by decide) ?_ ?_
  · refine V_iconst (v := -1) X dX9_numberFor_9 (by decide) ?_
    exact V_iret X E hr dX9_numberFor_10
  · refine V_iload_n 1 X dX9_numberFor_4 rfl rfl ?_
    refine V_iconst (v := 3) X dX9_numberFor_5 (by decide) ?_
    refine V_icmp_lt (tgt := 11) X dX9_numberFor_6 (by decide) ?_ ?_
    · refine V_aload_n 0 X dX9_numberFor_11 rfl rfl ?_
      refine V_getR (k1 := (h + 2)) 4 X dX9_numberFor_12 co9 hh (by decide) rfl rfl wfX9_19 ?_
      refine V_iload_n 1 X dX9_numberFor_15 rfl rfl ?_
      refine V_iald X dX9_numberFor_16 (kt9_4 hZ hh) ?_
      refine V_istore_nG (L' := fun v3_1 => [(3, .int v3_1), (0, .ref (z.2.2.1 h)), (1, .int v1), (2, .int v2)]) X dX9_numberFor_17 rfl (by decide) (fun _ => rfl) (fun v3_1 => ?_)
      refine V_iload_n 3 X dX9_numberFor_18 rfl rfl ?_
      refine V_iconst (v := -1) X dX9_numberFor_19 (by decide) ?_
      refine V_icmp_ne (tgt := 34) X dX9_numberFor_20 (by decide) ?_ ?_
      · refine V_iload_n 3 X dX9_numberFor_34 rfl rfl ?_
        refine V_if_lt (tgt := 47) X dX9_numberFor_35 (by decide) ?_ ?_
        · refine V_iconst (v := -1) X dX9_numberFor_47 (by decide) ?_
          exact V_iret X E hr dX9_numberFor_48
        · refine V_iload_n 3 X dX9_numberFor_38 rfl rfl ?_
          refine V_iload_n 0 X dX9_numberFor_39 rfl rfl ?_
          refine V_icmp_ge (tgt := 47) X dX9_numberFor_40 (by decide) ?_ ?_
          · refine V_iconst (v := -1) X dX9_numberFor_47 (by decide) ?_
            exact V_iret X E hr dX9_numberFor_48
          · refine V_iload_n 3 X dX9_numberFor_43 rfl rfl ?_
            refine V_goto (tgt := 48) X dX9_numberFor_44 (by decide) ?_
            exact V_iret X E hr dX9_numberFor_48
      · refine V_iload_n 0 X dX9_numberFor_23 rfl rfl ?_
        refine V_iconst (v := 2) X dX9_numberFor_24 (by decide) ?_
        refine V_icmp_ge (tgt := 32) X dX9_numberFor_25 (by decide) ?_ ?_
        · refine V_iconst (v := -1) X dX9_numberFor_32 (by decide) ?_
          exact V_iret X E hr dX9_numberFor_33
        · refine V_iload_n 0 X dX9_numberFor_28 rfl rfl ?_
          refine V_goto (tgt := 33) X dX9_numberFor_29 (by decide) ?_
          exact V_iret X E hr dX9_numberFor_33
    · refine V_iconst (v := -1) X dX9_numberFor_9 (by decide) ?_
      exact V_iret X E hr dX9_numberFor_10
theorem kX9_numberFor (l : Launch) (z : Sx) (hZ : z.2.2.2.1 = kdC) (N : Nat) (h : Nat) (hh : z.2.2.2.1 h = (9, 0)) (v1 : Int32) (v2 : Int32) (σ : Mem) : Ct QI yX9_numberFor cX9_numberFor 4 (some .int) 0 0 l z [.ref (z.2.2.1 h), .int v1, .int v2] σ (fX9_numberFor N h v1 v2 σ) := by
  refine Ct_of (by decide +kernel) (Nat.le_of_ble_eq_true rfl) rfl ?_
  intro x _ X E hr
  exact bX9_numberFor_0 X E hr hZ N h hh v1 v2 σ
def fX0_empty (N : Nat) (h : Nat) (σ : Mem) : Option (Unit × Mem) :=
  lt_ (pI σ h 0 0) (fun s1 => lt_ (pI s1 h 1 0) (fun s2 => lt_ (pI s2 h 2 3) (fun s3 => some ((), s3))))
set_option maxRecDepth 100000 in
set_option maxHeartbeats 4000000 in
theorem bX0_empty_0 {x : Cx} {z : Sx} (X : XG x z RX0 cX0_empty 1 0 0) (E : XE x z) (hr : XR x none) (hZ : z.2.2.2.1 = kdC) (N : Nat) (h : Nat) (hh : z.2.2.2.1 h = (0, 0)) (σ : Mem) : VK x z 1 (BQ QV x z) 0 [(0, .ref (z.2.2.1 h))] [] σ (fX0_empty N h σ) := by
  unfold fX0_empty
  refine V_aload_n 0 X dX0_empty_0 rfl rfl ?_
  refine V_iconst (v := 0) X dX0_empty_1 (by decide) ?_
  refine V_putIG 0 X dX0_empty_2 co0 hh (by decide) rfl wfX0_40 rfl rfl rfl (fun s1 => ?_)
  refine V_aload_n 0 X dX0_empty_5 rfl rfl ?_
  refine V_iconst (v := 0) X dX0_empty_6 (by decide) ?_
  refine V_putIG 1 X dX0_empty_7 co0 hh (by decide) rfl wfX0_43 rfl rfl rfl (fun s2 => ?_)
  refine V_aload_n 0 X dX0_empty_10 rfl rfl ?_
  refine V_iconst (v := 3) X dX0_empty_11 (by decide) ?_
  refine V_putIG 2 X dX0_empty_12 co0 hh (by decide) rfl wfX0_9 rfl rfl rfl (fun s3 => ?_)
  exact V_vret X E hr dX0_empty_15
theorem kX0_empty (l : Launch) (z : Sx) (hZ : z.2.2.2.1 = kdC) (N : Nat) (h : Nat) (hh : z.2.2.2.1 h = (0, 0)) (σ : Mem) : Ct QV yX0_empty cX0_empty 1 none 0 0 l z [.ref (z.2.2.1 h)] σ (fX0_empty N h σ) := by
  refine Ct_of (by decide +kernel) (Nat.le_of_ble_eq_true rfl) rfl ?_
  intro x _ X E hr
  exact bX0_empty_0 X E hr hZ N h hh σ
def fX8_empty (N : Nat) (h : Nat) (σ : Mem) : Option (Unit × Mem) :=
  lt_ (pI σ h 0 0) (fun s1 => some ((), s1))
set_option maxRecDepth 100000 in
set_option maxHeartbeats 4000000 in
theorem bX8_empty_0 {x : Cx} {z : Sx} (X : XG x z RX8 cX8_empty 1 0 0) (E : XE x z) (hr : XR x none) (hZ : z.2.2.2.1 = kdC) (N : Nat) (h : Nat) (hh : z.2.2.2.1 h = (8, 0)) (σ : Mem) : VK x z 1 (BQ QV x z) 0 [(0, .ref (z.2.2.1 h))] [] σ (fX8_empty N h σ) := by
  unfold fX8_empty
  refine V_aload_n 0 X dX8_empty_0 rfl rfl ?_
  refine V_iconst (v := 0) X dX8_empty_1 (by decide) ?_
  refine V_putIG 0 X dX8_empty_2 co8 hh (by decide) rfl wfX8_21 rfl rfl rfl (fun s1 => ?_)
  exact V_vret X E hr dX8_empty_5
theorem kX8_empty (l : Launch) (z : Sx) (hZ : z.2.2.2.1 = kdC) (N : Nat) (h : Nat) (hh : z.2.2.2.1 h = (8, 0)) (σ : Mem) : Ct QV yX8_empty cX8_empty 1 none 0 0 l z [.ref (z.2.2.1 h)] σ (fX8_empty N h σ) := by
  refine Ct_of (by decide +kernel) (Nat.le_of_ble_eq_true rfl) rfl ?_
  intro x _ X E hr
  exact bX8_empty_0 X E hr hZ N h hh σ
def fX4_empty (N : Nat) (h : Nat) (σ : Mem) : Option (Unit × Mem) :=
  lt_ (pI σ h 0 0) (fun s1 => some ((), s1))
set_option maxRecDepth 100000 in
set_option maxHeartbeats 4000000 in
theorem bX4_empty_0 {x : Cx} {z : Sx} (X : XG x z RX4 cX4_empty 1 0 0) (E : XE x z) (hr : XR x none) (hZ : z.2.2.2.1 = kdC) (N : Nat) (h : Nat) (hh : z.2.2.2.1 h = (4, 0)) (σ : Mem) : VK x z 1 (BQ QV x z) 0 [(0, .ref (z.2.2.1 h))] [] σ (fX4_empty N h σ) := by
  unfold fX4_empty
  refine V_aload_n 0 X dX4_empty_0 rfl rfl ?_
  refine V_iconst (v := 0) X dX4_empty_1 (by decide) ?_
  refine V_putIG 0 X dX4_empty_2 co4 hh (by decide) rfl wfX4_24 rfl rfl rfl (fun s1 => ?_)
  exact V_vret X E hr dX4_empty_5
theorem kX4_empty (l : Launch) (z : Sx) (hZ : z.2.2.2.1 = kdC) (N : Nat) (h : Nat) (hh : z.2.2.2.1 h = (4, 0)) (σ : Mem) : Ct QV yX4_empty cX4_empty 1 none 0 0 l z [.ref (z.2.2.1 h)] σ (fX4_empty N h σ) := by
  refine Ct_of (by decide +kernel) (Nat.le_of_ble_eq_true rfl) rfl ?_
  intro x _ X E hr
  exact bX4_empty_0 X E hr hZ N h hh σ
def fX6_isBlank_b12 (N : Nat) (σ : Mem) : Option (Int32 × Mem) :=
  some (1, σ)
set_option maxRecDepth 100000 in
set_option maxHeartbeats 4000000 in
theorem bX6_isBlank_12 {x : Cx} {z : Sx} (X : XG x z RX6 cX6_isBlank 1 0 0) (E : XE x z) (hr : XR x (some .boolean)) (hZ : z.2.2.2.1 = kdC) (N : Nat) (σ : Mem) : VK x z 1 (BQ QI x z) 12 [] [] σ (fX6_isBlank_b12 N σ) := by
  unfold fX6_isBlank_b12
  refine V_iconst (v := 1) X dX6_isBlank_12 (by decide) ?_
  refine V_goto (tgt := 17) X dX6_isBlank_13 (by decide) ?_
  exact V_zret X E hr dX6_isBlank_17 (by decide)
def fX6_isBlank (N : Nat) (v0 : Int32) (σ : Mem) : Option (Int32 × Mem) :=
  if v0 = 10 then fX6_isBlank_b12 N σ else if v0 = 32 then fX6_isBlank_b12 N σ else some (0, σ)
set_option maxRecDepth 100000 in
set_option maxHeartbeats 4000000 in
theorem bX6_isBlank_0 {x : Cx} {z : Sx} (X : XG x z RX6 cX6_isBlank 1 0 0) (E : XE x z) (hr : XR x (some .boolean)) (hZ : z.2.2.2.1 = kdC) (N : Nat) (v0 : Int32) (σ : Mem) : VK x z 1 (BQ QI x z) 0 [(0, .int v0)] [] σ (fX6_isBlank N v0 σ) := by
  unfold fX6_isBlank
  refine V_iload_n 0 X dX6_isBlank_0 rfl rfl ?_
  refine V_bipush (v := 10) X dX6_isBlank_1 (by decide) ?_
  refine V_icmp_eq (tgt := 12) X dX6_isBlank_3 (by decide) ?_ ?_
  · refine V_sub [] rfl ?_
    exact bX6_isBlank_12 X E hr hZ N σ
  · refine V_iload_n 0 X dX6_isBlank_6 rfl rfl ?_
    refine V_bipush (v := 32) X dX6_isBlank_7 (by decide) ?_
    refine V_icmp_ne (tgt := 16) X dX6_isBlank_9 (by decide) ?_ ?_
    · refine V_iconst (v := 0) X dX6_isBlank_16 (by decide) ?_
      exact V_zret X E hr dX6_isBlank_17 (by decide)
    · refine V_sub [] rfl ?_
      exact bX6_isBlank_12 X E hr hZ N σ
theorem kX6_isBlank (l : Launch) (z : Sx) (hZ : z.2.2.2.1 = kdC) (N : Nat) (v0 : Int32) (σ : Mem) : Ct QI yX6_isBlank cX6_isBlank 1 (some .boolean) 0 0 l z [.int v0] σ (fX6_isBlank N v0 σ) := by
  refine Ct_of (by decide +kernel) (Nat.le_of_ble_eq_true rfl) rfl ?_
  intro x _ X E hr
  exact bX6_isBlank_0 X E hr hZ N v0 σ
def fX6_isLetter (N : Nat) (v0 : Int32) (σ : Mem) : Option (Int32 × Mem) :=
  if v0 < 97 then some (0, σ) else if 122 < v0 then some (0, σ) else some (1, σ)
set_option maxRecDepth 100000 in
set_option maxHeartbeats 4000000 in
theorem bX6_isLetter_0 {x : Cx} {z : Sx} (X : XG x z RX6 cX6_isLetter 1 0 0) (E : XE x z) (hr : XR x (some .boolean)) (hZ : z.2.2.2.1 = kdC) (N : Nat) (v0 : Int32) (σ : Mem) : VK x z 1 (BQ QI x z) 0 [(0, .int v0)] [] σ (fX6_isLetter N v0 σ) := by
  unfold fX6_isLetter
  refine V_iload_n 0 X dX6_isLetter_0 rfl rfl ?_
  refine V_bipush (v := 97) X dX6_isLetter_1 (by decide) ?_
  refine V_icmp_lt (tgt := 16) X dX6_isLetter_3 (by decide) ?_ ?_
  · refine V_iconst (v := 0) X dX6_isLetter_16 (by decide) ?_
    exact V_zret X E hr dX6_isLetter_17 (by decide)
  · refine V_iload_n 0 X dX6_isLetter_6 rfl rfl ?_
    refine V_bipush (v := 122) X dX6_isLetter_7 (by decide) ?_
    refine V_icmp_gt (tgt := 16) X dX6_isLetter_9 (by decide) ?_ ?_
    · refine V_iconst (v := 0) X dX6_isLetter_16 (by decide) ?_
      exact V_zret X E hr dX6_isLetter_17 (by decide)
    · refine V_iconst (v := 1) X dX6_isLetter_12 (by decide) ?_
      refine V_goto (tgt := 17) X dX6_isLetter_13 (by decide) ?_
      exact V_zret X E hr dX6_isLetter_17 (by decide)
theorem kX6_isLetter (l : Launch) (z : Sx) (hZ : z.2.2.2.1 = kdC) (N : Nat) (v0 : Int32) (σ : Mem) : Ct QI yX6_isLetter cX6_isLetter 1 (some .boolean) 0 0 l z [.int v0] σ (fX6_isLetter N v0 σ) := by
  refine Ct_of (by decide +kernel) (Nat.le_of_ble_eq_true rfl) rfl ?_
  intro x _ X E hr
  exact bX6_isLetter_0 X E hr hZ N v0 σ
def fX6_isDigit (N : Nat) (v0 : Int32) (σ : Mem) : Option (Int32 × Mem) :=
  if v0 < 48 then some (0, σ) else if 57 < v0 then some (0, σ) else some (1, σ)
set_option maxRecDepth 100000 in
set_option maxHeartbeats 4000000 in
theorem bX6_isDigit_0 {x : Cx} {z : Sx} (X : XG x z RX6 cX6_isDigit 1 0 0) (E : XE x z) (hr : XR x (some .boolean)) (hZ : z.2.2.2.1 = kdC) (N : Nat) (v0 : Int32) (σ : Mem) : VK x z 1 (BQ QI x z) 0 [(0, .int v0)] [] σ (fX6_isDigit N v0 σ) := by
  unfold fX6_isDigit
  refine V_iload_n 0 X dX6_isDigit_0 rfl rfl ?_
  refine V_bipush (v := 48) X dX6_isDigit_1 (by decide) ?_
  refine V_icmp_lt (tgt := 16) X dX6_isDigit_3 (by decide) ?_ ?_
  · refine V_iconst (v := 0) X dX6_isDigit_16 (by decide) ?_
    exact V_zret X E hr dX6_isDigit_17 (by decide)
  · refine V_iload_n 0 X dX6_isDigit_6 rfl rfl ?_
    refine V_bipush (v := 57) X dX6_isDigit_7 (by decide) ?_
    refine V_icmp_gt (tgt := 16) X dX6_isDigit_9 (by decide) ?_ ?_
    · refine V_iconst (v := 0) X dX6_isDigit_16 (by decide) ?_
      exact V_zret X E hr dX6_isDigit_17 (by decide)
    · refine V_iconst (v := 1) X dX6_isDigit_12 (by decide) ?_
      refine V_goto (tgt := 17) X dX6_isDigit_13 (by decide) ?_
      exact V_zret X E hr dX6_isDigit_17 (by decide)
theorem kX6_isDigit (l : Launch) (z : Sx) (hZ : z.2.2.2.1 = kdC) (N : Nat) (v0 : Int32) (σ : Mem) : Ct QI yX6_isDigit cX6_isDigit 1 (some .boolean) 0 0 l z [.int v0] σ (fX6_isDigit N v0 σ) := by
  refine Ct_of (by decide +kernel) (Nat.le_of_ble_eq_true rfl) rfl ?_
  intro x _ X E hr
  exact bX6_isDigit_0 X E hr hZ N v0 σ
def fX6_takeDigits_b97 (N : Nat) (h : Nat) (t0 : Int32) (t1 : Nat) (σ : Mem) : Option (Unit × Mem) :=
  lt_ (pI σ t1 7 t0) (fun s8 => some ((), s8))
set_option maxRecDepth 100000 in
set_option maxHeartbeats 4000000 in
theorem bX6_takeDigits_97 {x : Cx} {z : Sx} (X : XG x z RX6 cX6_takeDigits 2 1 20) (E : XE x z) (hr : XR x none) (hZ : z.2.2.2.1 = kdC) (N : Nat) (h : Nat) (hh : z.2.2.2.1 h = (6, 0)) (t0 : Int32) (t1 : Nat) (hkt1 : z.2.2.2.1 t1 = (6, 0)) (σ : Mem) : VK x z 2 (BQ QV x z) 97 [(0, .ref (z.2.2.1 h))] [.int t0, .ref (z.2.2.1 t1)] σ (fX6_takeDigits_b97 N h t0 t1 σ) := by
  unfold fX6_takeDigits_b97
  refine V_putIG 7 X dX6_takeDigits_97 co6 hkt1 (by decide) rfl wfX6_67 rfl rfl rfl (fun s8 => ?_)
  exact V_vret X E hr dX6_takeDigits_100
def fX6_takeDigits_b78 (N : Nat) (h : Nat) (σ : Mem) : Option (Unit × Mem) :=
  if ((σ.1 h 9) - (σ.1 h 8)) ≤ 2 then fX6_takeDigits_b97 N h 2 h σ else fX6_takeDigits_b97 N h 4 h σ
set_option maxRecDepth 100000 in
set_option maxHeartbeats 4000000 in
theorem bX6_takeDigits_78 {x : Cx} {z : Sx} (X : XG x z RX6 cX6_takeDigits 2 1 20) (E : XE x z) (hr : XR x none) (hZ : z.2.2.2.1 = kdC) (N : Nat) (h : Nat) (hh : z.2.2.2.1 h = (6, 0)) (σ : Mem) : VK x z 2 (BQ QV x z) 78 [(0, .ref (z.2.2.1 h))] [] σ (fX6_takeDigits_b78 N h σ) := by
  unfold fX6_takeDigits_b78
  refine V_aload_n 0 X dX6_takeDigits_78 rfl rfl ?_
  refine V_aload_n 0 X dX6_takeDigits_79 rfl rfl ?_
  refine V_getI 9 X dX6_takeDigits_80 co6 hh (by decide) rfl wfX6_61 ?_
  refine V_aload_n 0 X dX6_takeDigits_83 rfl rfl ?_
  refine V_getI 8 X dX6_takeDigits_84 co6 hh (by decide) rfl wfX6_82 ?_
  refine V_isub X dX6_takeDigits_87 ?_
  refine V_iconst (v := 2) X dX6_takeDigits_88 (by decide) ?_
  refine V_icmp_le (tgt := 96) X dX6_takeDigits_89 (by decide) ?_ ?_
  · refine V_iconst (v := 2) X dX6_takeDigits_96 (by decide) ?_
    refine V_sub [0] rfl ?_
    exact bX6_takeDigits_97 X E hr hZ N h hh 2 h hh σ
  · refine V_iconst (v := 4) X dX6_takeDigits_92 (by decide) ?_
    refine V_goto (tgt := 97) X dX6_takeDigits_93 (by decide) ?_
    refine V_sub [0] rfl ?_
    exact bX6_takeDigits_97 X E hr hZ N h hh 4 h hh σ
def fX6_takeDigits_b65 (N : Nat) (h : Nat) (rc5 : Int32 → Mem → Option (Unit × Mem)) (v1 : Int32) (σ : Mem) : Option (Unit × Mem) :=
  lt_ (pI σ h 9 ((σ.1 h 9) + 1)) (fun s7 => rc5 v1 s7)
set_option maxRecDepth 100000 in
set_option maxHeartbeats 4000000 in
theorem bX6_takeDigits_65 {x : Cx} {z : Sx} (X : XG x z RX6 cX6_takeDigits 2 1 20) (E : XE x z) (hr : XR x none) (hZ : z.2.2.2.1 = kdC) (N : Nat) (h : Nat) (hh : z.2.2.2.1 h = (6, 0)) (rc5 : Int32 → Mem → Option (Unit × Mem)) (hc5 : ∀ (v1 : Int32) (σ : Mem), VK x z 2 (BQ QV x z) 5 [(0, .ref (z.2.2.1 h)), (1, .int v1)] [] σ (rc5 v1 σ)) (v1 : Int32) (σ : Mem) : VK x z 2 (BQ QV x z) 65 [(0, .ref (z.2.2.1 h)), (1, .int v1)] [] σ (fX6_takeDigits_b65 N h rc5 v1 σ) := by
  unfold fX6_takeDigits_b65
  refine V_aload_n 0 X dX6_takeDigits_65 rfl rfl ?_
  refine V_dup X dX6_takeDigits_66 rfl ?_
  refine V_getI 9 X dX6_takeDigits_67 co6 hh (by decide) rfl wfX6_61 ?_
  refine V_iconst (v := 1) X dX6_takeDigits_70 (by decide) ?_
  refine V_iadd X dX6_takeDigits_71 ?_
  refine V_putIG 9 X dX6_takeDigits_72 co6 hh (by decide) rfl wfX6_61 rfl rfl rfl (fun s7 => ?_)
  refine V_goto (tgt := 5) X dX6_takeDigits_75 (by decide) ?_
  refine V_sub [0, 1] rfl ?_
  exact hc5 v1 s7
def fX6_takeDigits_b5 (N : Nat) (h : Nat) (rc5 : Int32 → Mem → Option (Unit × Mem)) (v1 : Int32) (σ : Mem) : Option (Unit × Mem) :=
  if (σ.1 h 6) ≤ (σ.1 h 9) then fX6_takeDigits_b78 N h σ else gd (decide (kdC (σ.1 h 5).toNatClampNeg = (52, 600))) (gd (inb (σ.1 h 9) 600) (bd (fX6_isDigit N (σ.1 ((σ.1 h 5).toNatClampNeg) (σ.1 h 9).toNatClampNeg) σ) (fun r3 s4 => if r3 = 0 then fX6_takeDigits_b78 N h s4 else if (s4.1 h 9) = ((s4.1 h 8) + 1) then gd (decide (kdC (s4.1 h 5).toNatClampNeg = (52, 600))) (gd (inb (s4.1 h 9) 600) (lt_ (pI s4 h 10 (((10 * v1) + (s4.1 ((s4.1 h 5).toNatClampNeg) (s4.1 h 9).toNatClampNeg)) - 48)) (fun s6 => fX6_takeDigits_b65 N h rc5 v1 s6))) else fX6_takeDigits_b65 N h rc5 v1 s4)))
set_option maxRecDepth 100000 in
set_option maxHeartbeats 4000000 in
theorem bX6_takeDigits_5 {x : Cx} {z : Sx} (X : XG x z RX6 cX6_takeDigits 2 1 20) (E : XE x z) (hr : XR x none) (hZ : z.2.2.2.1 = kdC) (N : Nat) (h : Nat) (hh : z.2.2.2.1 h = (6, 0)) (rc5 : Int32 → Mem → Option (Unit × Mem)) (hc5 : ∀ (v1 : Int32) (σ : Mem), VK x z 2 (BQ QV x z) 5 [(0, .ref (z.2.2.1 h)), (1, .int v1)] [] σ (rc5 v1 σ)) (v1 : Int32) (σ : Mem) : VK x z 2 (BQ QV x z) 5 [(0, .ref (z.2.2.1 h)), (1, .int v1)] [] σ (fX6_takeDigits_b5 N h rc5 v1 σ) := by
  unfold fX6_takeDigits_b5
  refine V_aload_n 0 X dX6_takeDigits_5 rfl rfl ?_
  refine V_getI 9 X dX6_takeDigits_6 co6 hh (by decide) rfl wfX6_61 ?_
  refine V_aload_n 0 X dX6_takeDigits_9 rfl rfl ?_
  refine V_getI 6 X dX6_takeDigits_10 co6 hh (by decide) rfl wfX6_58 ?_
  refine V_icmp_ge (tgt := 78) X dX6_takeDigits_13 (by decide) ?_ ?_
  · refine V_sub [0] rfl ?_
    exact bX6_takeDigits_78 X E hr hZ N h hh σ
  · refine V_aload_n 0 X dX6_takeDigits_16 rfl rfl ?_
    refine V_getQC (K := (52, 600)) 5 X hZ dX6_takeDigits_17 co6 hh (by decide) rfl wfX6_32 (fun hq2 => ?_)
    refine V_aload_n 0 X dX6_takeDigits_20 rfl rfl ?_
    refine V_getI 9 X dX6_takeDigits_21 co6 hh (by decide) rfl wfX6_61 ?_
    refine V_bald X dX6_takeDigits_24 hq2 ?_
    refine V_calSI [.int (σ.1 ((σ.1 h 5).toNatClampNeg) (σ.1 h 9).toNatClampNeg)] [] X E dX6_takeDigits_25 (kX6_isDigit x.2.1 z hZ N (σ.1 ((σ.1 h 5).toNatClampNeg) (σ.1 h 9).toNatClampNeg) σ) gcX6_154 hyX6_isDigit rfl ⟨by decide, by decide⟩ rfl (Nat.le_of_ble_eq_true rfl) (fun r3 s4 => ?_)
    refine V_if_eq (tgt := 78) X dX6_takeDigits_28 (by decide) ?_ ?_
    · refine V_sub [0] rfl ?_
      exact bX6_takeDigits_78 X E hr hZ N h hh s4
    · refine V_aload_n 0 X dX6_takeDigits_31 rfl rfl ?_
      refine V_getI 9 X dX6_takeDigits_32 co6 hh (by decide) rfl wfX6_61 ?_
      refine V_aload_n 0 X dX6_takeDigits_35 rfl rfl ?_
      refine V_getI 8 X dX6_takeDigits_36 co6 hh (by decide) rfl wfX6_82 ?_
      refine V_iconst (v := 1) X dX6_takeDigits_39 (by decide) ?_
      refine V_iadd X dX6_takeDigits_40 ?_
      refine V_icmp_ne (tgt := 65) X dX6_takeDigits_41 (by decide) ?_ ?_
      · refine V_sub [0, 1] rfl ?_
        exact bX6_takeDigits_65 X E hr hZ N h hh rc5 hc5 v1 s4
      · refine V_aload_n 0 X dX6_takeDigits_44 rfl rfl ?_
        refine V_bipush (v := 10) X dX6_takeDigits_45 (by decide) ?_
        refine V_iload_n 1 X dX6_takeDigits_47 rfl rfl ?_
        refine V_imul X dX6_takeDigits_48 ?_
        refine V_aload_n 0 X dX6_takeDigits_49 rfl rfl ?_
        refine V_getQC (K := (52, 600)) 5 X hZ dX6_takeDigits_50 co6 hh (by decide) rfl wfX6_32 (fun hq5 => ?_)
        refine V_aload_n 0 X dX6_takeDigits_53 rfl rfl ?_
        refine V_getI 9 X dX6_takeDigits_54 co6 hh (by decide) rfl wfX6_61 ?_
        refine V_bald X dX6_takeDigits_57 hq5 ?_
        refine V_iadd X dX6_takeDigits_58 ?_
        refine V_bipush (v := 48) X dX6_takeDigits_59 (by decide) ?_
        refine V_isub X dX6_takeDigits_61 ?_
        refine V_putIG 10 X dX6_takeDigits_62 co6 hh (by decide) rfl wfX6_111 rfl rfl rfl (fun s6 => ?_)
        refine V_sub [0, 1] rfl ?_
        exact bX6_takeDigits_65 X E hr hZ N h hh rc5 hc5 v1 s6
def fX6_takeDigits_l5 (N : Nat) (h : Nat) : Nat → Int32 → Mem → Option (Unit × Mem)
  | 0 => fun _ _ => none
  | n + 1 => fX6_takeDigits_b5 N h (fX6_takeDigits_l5 N h n)
theorem lX6_takeDigits_5 {x : Cx} {z : Sx} (X : XG x z RX6 cX6_takeDigits 2 1 20) (E : XE x z) (hr : XR x none) (hZ : z.2.2.2.1 = kdC) (N : Nat) (h : Nat) (hh : z.2.2.2.1 h = (6, 0)) (n : Nat) (v1 : Int32) (σ : Mem) : VK x z 2 (BQ QV x z) 5 [(0, .ref (z.2.2.1 h)), (1, .int v1)] [] σ (fX6_takeDigits_l5 N h n v1 σ) := by
  induction n generalizing v1 σ with
  | zero => exact V_none
  | succ n ih => exact bX6_takeDigits_5 X E hr hZ N h hh (fX6_takeDigits_l5 N h n) ih v1 σ
def fX6_takeDigits (N : Nat) (h : Nat) (v1 : Int32) (σ : Mem) : Option (Unit × Mem) :=
  lt_ (pI σ h 10 v1) (fun s1 => fX6_takeDigits_l5 N h N v1 s1)
set_option maxRecDepth 100000 in
set_option maxHeartbeats 4000000 in
theorem bX6_takeDigits_0 {x : Cx} {z : Sx} (X : XG x z RX6 cX6_takeDigits 2 1 20) (E : XE x z) (hr : XR x none) (hZ : z.2.2.2.1 = kdC) (N : Nat) (h : Nat) (hh : z.2.2.2.1 h = (6, 0)) (v1 : Int32) (σ : Mem) : VK x z 2 (BQ QV x z) 0 [(0, .ref (z.2.2.1 h)), (1, .int v1)] [] σ (fX6_takeDigits N h v1 σ) := by
  unfold fX6_takeDigits
  refine V_aload_n 0 X dX6_takeDigits_0 rfl rfl ?_
  refine V_iload_n 1 X dX6_takeDigits_1 rfl rfl ?_
  refine V_putIG 10 X dX6_takeDigits_2 co6 hh (by decide) rfl wfX6_111 rfl rfl rfl (fun s1 => ?_)
  refine V_sub [0, 1] rfl ?_
  exact lX6_takeDigits_5 X E hr hZ N h hh N v1 s1
theorem kX6_takeDigits (l : Launch) (z : Sx) (hZ : z.2.2.2.1 = kdC) (N : Nat) (h : Nat) (hh : z.2.2.2.1 h = (6, 0)) (v1 : Int32) (σ : Mem) : Ct QV yX6_takeDigits cX6_takeDigits 2 none 1 20 l z [.ref (z.2.2.1 h), .int v1] σ (fX6_takeDigits N h v1 σ) := by
  refine Ct_of (by decide +kernel) (Nat.le_of_ble_eq_true rfl) rfl ?_
  intro x _ X E hr
  exact bX6_takeDigits_0 X E hr hZ N h hh v1 σ
def fX6_advance_b110 (N : Nat) (h : Nat) (rc110 : Mem → Option (Unit × Mem)) (σ : Mem) : Option (Unit × Mem) :=
  if (σ.1 h 6) ≤ (σ.1 h 9) then some ((), σ) else gd (decide (kdC (σ.1 h 5).toNatClampNeg = (52, 600))) (gd (inb (σ.1 h 9) 600) (bd (fX6_isLetter N (σ.1 ((σ.1 h 5).toNatClampNeg) (σ.1 h 9).toNatClampNeg) σ) (fun r20 s21 => if r20 = 0 then some ((), s21) else lt_ (pI s21 h 9 ((s21.1 h 9) + 1)) (fun s22 => rc110 s22))))
set_option maxRecDepth 100000 in
set_option maxHeartbeats 4000000 in
theorem bX6_advance_110 {x : Cx} {z : Sx} (X : XG x z RX6 cX6_advance 2 2 41) (E : XE x z) (hr : XR x none) (hZ : z.2.2.2.1 = kdC) (N : Nat) (h : Nat) (hh : z.2.2.2.1 h = (6, 0)) (rc110 : Mem → Option (Unit × Mem)) (hc110 : ∀ (σ : Mem), VK x z 2 (BQ QV x z) 110 [(0, .ref (z.2.2.1 h))] [] σ (rc110 σ)) (σ : Mem) : VK x z 2 (BQ QV x z) 110 [(0, .ref (z.2.2.1 h))] [] σ (fX6_advance_b110 N h rc110 σ) := by
  unfold fX6_advance_b110
  refine V_aload_n 0 X dX6_advance_110 rfl rfl ?_
  refine V_getI 9 X dX6_advance_111 co6 hh (by decide) rfl wfX6_61 ?_
  refine V_aload_n 0 X dX6_advance_114 rfl rfl ?_
  refine V_getI 6 X dX6_advance_115 co6 hh (by decide) rfl wfX6_58 ?_
  refine V_icmp_ge (tgt := 172) X dX6_advance_118 (by decide) ?_ ?_
  · exact V_vret X E hr dX6_advance_172
  · refine V_aload_n 0 X dX6_advance_121 rfl rfl ?_
    refine V_getQC (K := (52, 600)) 5 X hZ dX6_advance_122 co6 hh (by decide) rfl wfX6_32 (fun hq19 => ?_)
    refine V_aload_n 0 X dX6_advance_125 rfl rfl ?_
    refine V_getI 9 X dX6_advance_126 co6 hh (by decide) rfl wfX6_61 ?_
    refine V_bald X dX6_advance_129 hq19 ?_
    refine V_calSI [.int (σ.1 ((σ.1 h 5).toNatClampNeg) (σ.1 h 9).toNatClampNeg)] [] X E dX6_advance_130 (kX6_isLetter x.2.1 z hZ N (σ.1 ((σ.1 h 5).toNatClampNeg) (σ.1 h 9).toNatClampNeg) σ) gcX6_151 hyX6_isLetter rfl ⟨by decide, by decide⟩ rfl (Nat.le_of_ble_eq_true rfl) (fun r20 s21 => ?_)
    refine V_if_eq (tgt := 172) X dX6_advance_133 (by decide) ?_ ?_
    · exact V_vret X E hr dX6_advance_172
    · refine V_aload_n 0 X dX6_advance_136 rfl rfl ?_
      refine V_dup X dX6_advance_137 rfl ?_
      refine V_getI 9 X dX6_advance_138 co6 hh (by decide) rfl wfX6_61 ?_
      refine V_iconst (v := 1) X dX6_advance_141 (by decide) ?_
      refine V_iadd X dX6_advance_142 ?_
      refine V_putIG 9 X dX6_advance_143 co6 hh (by decide) rfl wfX6_61 rfl rfl rfl (fun s22 => ?_)
      refine V_goto (tgt := 110) X dX6_advance_146 (by decide) ?_
      refine V_sub [0] rfl ?_
      exact hc110 s22
def fX6_advance_l110 (N : Nat) (h : Nat) : Nat → Mem → Option (Unit × Mem)
  | 0 => fun  _ => none
  | n + 1 => fX6_advance_b110 N h (fX6_advance_l110 N h n)
theorem lX6_advance_110 {x : Cx} {z : Sx} (X : XG x z RX6 cX6_advance 2 2 41) (E : XE x z) (hr : XR x none) (hZ : z.2.2.2.1 = kdC) (N : Nat) (h : Nat) (hh : z.2.2.2.1 h = (6, 0)) (n : Nat) (σ : Mem) : VK x z 2 (BQ QV x z) 110 [(0, .ref (z.2.2.1 h))] [] σ (fX6_advance_l110 N h n σ) := by
  induction n generalizing σ with
  | zero => exact V_none
  | succ n ih => exact bX6_advance_110 X E hr hZ N h hh (fX6_advance_l110 N h n) ih σ
def fX6_advance_b39 (N : Nat) (h : Nat) (σ : Mem) : Option (Unit × Mem) :=
  lt_ (pI σ h 8 (σ.1 h 9)) (fun s5 => if (s5.1 h 8) < (s5.1 h 6) then gd (decide (kdC (s5.1 h 5).toNatClampNeg = (52, 600))) (gd (inb (s5.1 h 8) 600) (lt_ (s5.1 ((s5.1 h 5).toNatClampNeg) (s5.1 h 8).toNatClampNeg) (fun v1_7 => lt_ (pI s5 h 9 ((s5.1 h 9) + 1)) (fun s8 => if v1_7 = 59 then lt_ (pI s8 h 7 3) (fun s17 => some ((), s17)) else bd (fX6_isLetter N v1_7 s8) (fun r9 s10 => if r9 = 0 then bd (fX6_isDigit N v1_7 s10) (fun r11 s12 => if r11 = 0 then lt_ (pI s12 h 7 4) (fun s13 => some ((), s13)) else bd (fX6_takeDigits N h (v1_7 - 48) s12) (fun r14 s15 => some ((), s15))) else lt_ (pI s10 h 7 1) (fun s16 => fX6_advance_l110 N h N s16)))))) else lt_ (pI s5 h 7 0) (fun s18 => some ((), s18)))
set_option maxRecDepth 100000 in
set_option maxHeartbeats 4000000 in
theorem bX6_advance_39 {x : Cx} {z : Sx} (X : XG x z RX6 cX6_advance 2 2 41) (E : XE x z) (hr : XR x none) (hZ : z.2.2.2.1 = kdC) (N : Nat) (h : Nat) (hh : z.2.2.2.1 h = (6, 0)) (σ : Mem) : VK x z 2 (BQ QV x z) 39 [(0, .ref (z.2.2.1 h))] [] σ (fX6_advance_b39 N h σ) := by
  unfold fX6_advance_b39
  refine V_aload_n 0 X dX6_advance_39 rfl rfl ?_
  refine V_aload_n 0 X dX6_advance_40 rfl rfl ?_
  refine V_getI 9 X dX6_advance_41 co6 hh (by decide) rfl wfX6_61 ?_
  refine V_putIG 8 X dX6_advance_44 co6 hh (by decide) rfl wfX6_82 rfl rfl rfl (fun s5 => ?_)
  refine V_aload_n 0 X dX6_advance_47 rfl rfl ?_
  refine V_getI 8 X dX6_advance_48 co6 hh (by decide) rfl wfX6_82 ?_
  refine V_aload_n 0 X dX6_advance_51 rfl rfl ?_
  refine V_getI 6 X dX6_advance_52 co6 hh (by decide) rfl wfX6_58 ?_
  refine V_icmp_lt (tgt := 64) X dX6_advance_55 (by decide) ?_ ?_
  · refine V_aload_n 0 X dX6_advance_64 rfl rfl ?_
    refine V_getQC (K := (52, 600)) 5 X hZ dX6_advance_65 co6 hh (by decide) rfl wfX6_32 (fun hq6 => ?_)
    refine V_aload_n 0 X dX6_advance_68 rfl rfl ?_
    refine V_getI 8 X dX6_advance_69 co6 hh (by decide) rfl wfX6_82 ?_
    refine V_bald X dX6_advance_72 hq6 ?_
    refine V_istore_nG (L' := fun v1_7 => [(1, .int v1_7), (0, .ref (z.2.2.1 h))]) X dX6_advance_73 rfl (by decide) (fun _ => rfl) (fun v1_7 => ?_)
    refine V_aload_n 1 X dX6_advance_74 rfl rfl ?_
    refine V_dup X dX6_advance_75 rfl ?_
    refine V_getI 9 X dX6_advance_76 co6 hh (by decide) rfl wfX6_61 ?_
    refine V_iconst (v := 1) X dX6_advance_79 (by decide) ?_
    refine V_iadd X dX6_advance_80 ?_
    refine V_putIG 9 X dX6_advance_81 co6 hh (by decide) rfl wfX6_61 rfl rfl rfl (fun s8 => ?_)
    refine V_iload_n 0 X dX6_advance_84 rfl rfl ?_
    refine V_bipush (v := 59) X dX6_advance_85 (by decide) ?_
    refine V_icmp_ne (tgt := 98) X dX6_advance_87 (by decide) ?_ ?_
    · refine V_iload_n 0 X dX6_advance_98 rfl rfl ?_
      refine V_calSI [.int v1_7] [] X E dX6_advance_99 (kX6_isLetter x.2.1 z hZ N v1_7 s8) gcX6_151 hyX6_isLetter rfl ⟨by decide, by decide⟩ rfl (Nat.le_of_ble_eq_true rfl) (fun r9 s10 => ?_)
      refine V_if_eq (tgt := 149) X dX6_advance_102 (by decide) ?_ ?_
      · refine V_iload_n 0 X dX6_advance_149 rfl rfl ?_
        refine V_calSI [.int v1_7] [] X E dX6_advance_150 (kX6_isDigit x.2.1 z hZ N v1_7 s10) gcX6_154 hyX6_isDigit rfl ⟨by decide, by decide⟩ rfl (Nat.le_of_ble_eq_true rfl) (fun r11 s12 => ?_)
        refine V_if_eq (tgt := 167) X dX6_advance_153 (by decide) ?_ ?_
        · refine V_aload_n 1 X dX6_advance_167 rfl rfl ?_
          refine V_iconst (v := 4) X dX6_advance_168 (by decide) ?_
          refine V_putIG 7 X dX6_advance_169 co6 hh (by decide) rfl wfX6_67 rfl rfl rfl (fun s13 => ?_)
          exact V_vret X E hr dX6_advance_172
        · refine V_aload_n 1 X dX6_advance_156 rfl rfl ?_
          refine V_iload_n 0 X dX6_advance_157 rfl rfl ?_
          refine V_bipush (v := 48) X dX6_advance_158 (by decide) ?_
          refine V_isub X dX6_advance_160 ?_
          refine V_callV [.int (v1_7 - 48)] [] X E dX6_advance_161 (kX6_takeDigits x.2.1 z hZ N h hh (v1_7 - 48) s12) co6 hh gcX6_157 hyX6_takeDigits rfl ⟨by decide, by decide⟩ rfl (Nat.le_of_ble_eq_true rfl) (fun r14 s15 => ?_)
          refine V_goto (tgt := 172) X dX6_advance_164 (by decide) ?_
          exact V_vret X E hr dX6_advance_172
      · refine V_aload_n 1 X dX6_advance_105 rfl rfl ?_
        refine V_iconst (v := 1) X dX6_advance_106 (by decide) ?_
        refine V_putIG 7 X dX6_advance_107 co6 hh (by decide) rfl wfX6_67 rfl rfl rfl (fun s16 => ?_)
        refine V_sub [1] rfl ?_
        exact lX6_advance_110 X E hr hZ N h hh N s16
    · refine V_aload_n 1 X dX6_advance_90 rfl rfl ?_
      refine V_iconst (v := 3) X dX6_advance_91 (by decide) ?_
      refine V_putIG 7 X dX6_advance_92 co6 hh (by decide) rfl wfX6_67 rfl rfl rfl (fun s17 => ?_)
      refine V_goto (tgt := 172) X dX6_advance_95 (by decide) ?_
      exact V_vret X E hr dX6_advance_172
  · refine V_aload_n 0 X dX6_advance_58 rfl rfl ?_
    refine V_iconst (v := 0) X dX6_advance_59 (by decide) ?_
    refine V_putIG 7 X dX6_advance_60 co6 hh (by decide) rfl wfX6_67 rfl rfl rfl (fun s18 => ?_)
    exact V_vret X E hr dX6_advance_63
def fX6_advance_b0 (N : Nat) (h : Nat) (rc0 : Mem → Option (Unit × Mem)) (σ : Mem) : Option (Unit × Mem) :=
  if (σ.1 h 6) ≤ (σ.1 h 9) then fX6_advance_b39 N h σ else gd (decide (kdC (σ.1 h 5).toNatClampNeg = (52, 600))) (gd (inb (σ.1 h 9) 600) (bd (fX6_isBlank N (σ.1 ((σ.1 h 5).toNatClampNeg) (σ.1 h 9).toNatClampNeg) σ) (fun r2 s3 => if r2 = 0 then fX6_advance_b39 N h s3 else lt_ (pI s3 h 9 ((s3.1 h 9) + 1)) (fun s4 => rc0 s4))))
set_option maxRecDepth 100000 in
set_option maxHeartbeats 4000000 in
theorem bX6_advance_0 {x : Cx} {z : Sx} (X : XG x z RX6 cX6_advance 2 2 41) (E : XE x z) (hr : XR x none) (hZ : z.2.2.2.1 = kdC) (N : Nat) (h : Nat) (hh : z.2.2.2.1 h = (6, 0)) (rc0 : Mem → Option (Unit × Mem)) (hc0 : ∀ (σ : Mem), VK x z 2 (BQ QV x z) 0 [(0, .ref (z.2.2.1 h))] [] σ (rc0 σ)) (σ : Mem) : VK x z 2 (BQ QV x z) 0 [(0, .ref (z.2.2.1 h))] [] σ (fX6_advance_b0 N h rc0 σ) := by
  unfold fX6_advance_b0
  refine V_aload_n 0 X dX6_advance_0 rfl rfl ?_
  refine V_getI 9 X dX6_advance_1 co6 hh (by decide) rfl wfX6_61 ?_
  refine V_aload_n 0 X dX6_advance_4 rfl rfl ?_
  refine V_getI 6 X dX6_advance_5 co6 hh (by decide) rfl wfX6_58 ?_
  refine V_icmp_ge (tgt := 39) X dX6_advance_8 (by decide) ?_ ?_
  · refine V_sub [0] rfl ?_
    exact bX6_advance_39 X E hr hZ N h hh σ
  · refine V_aload_n 0 X dX6_advance_11 rfl rfl ?_
    refine V_getQC (K := (52, 600)) 5 X hZ dX6_advance_12 co6 hh (by decide) rfl wfX6_32 (fun hq1 => ?_)
    refine V_aload_n 0 X dX6_advance_15 rfl rfl ?_
    refine V_getI 9 X dX6_advance_16 co6 hh (by decide) rfl wfX6_61 ?_
    refine V_bald X dX6_advance_19 hq1 ?_
    refine V_calSI [.int (σ.1 ((σ.1 h 5).toNatClampNeg) (σ.1 h 9).toNatClampNeg)] [] X E dX6_advance_20 (kX6_isBlank x.2.1 z hZ N (σ.1 ((σ.1 h 5).toNatClampNeg) (σ.1 h 9).toNatClampNeg) σ) gcX6_147 hyX6_isBlank rfl ⟨by decide, by decide⟩ rfl (Nat.le_of_ble_eq_true rfl) (fun r2 s3 => ?_)
    refine V_if_eq (tgt := 39) X dX6_advance_23 (by decide) ?_ ?_
    · refine V_sub [0] rfl ?_
      exact bX6_advance_39 X E hr hZ N h hh s3
    · refine V_aload_n 0 X dX6_advance_26 rfl rfl ?_
      refine V_dup X dX6_advance_27 rfl ?_
      refine V_getI 9 X dX6_advance_28 co6 hh (by decide) rfl wfX6_61 ?_
      refine V_iconst (v := 1) X dX6_advance_31 (by decide) ?_
      refine V_iadd X dX6_advance_32 ?_
      refine V_putIG 9 X dX6_advance_33 co6 hh (by decide) rfl wfX6_61 rfl rfl rfl (fun s4 => ?_)
      refine V_goto (tgt := 0) X dX6_advance_36 (by decide) ?_
      refine V_sub [0] rfl ?_
      exact hc0 s4
def fX6_advance_l0 (N : Nat) (h : Nat) : Nat → Mem → Option (Unit × Mem)
  | 0 => fun  _ => none
  | n + 1 => fX6_advance_b0 N h (fX6_advance_l0 N h n)
theorem lX6_advance_0 {x : Cx} {z : Sx} (X : XG x z RX6 cX6_advance 2 2 41) (E : XE x z) (hr : XR x none) (hZ : z.2.2.2.1 = kdC) (N : Nat) (h : Nat) (hh : z.2.2.2.1 h = (6, 0)) (n : Nat) (σ : Mem) : VK x z 2 (BQ QV x z) 0 [(0, .ref (z.2.2.1 h))] [] σ (fX6_advance_l0 N h n σ) := by
  induction n generalizing σ with
  | zero => exact V_none
  | succ n ih => exact bX6_advance_0 X E hr hZ N h hh (fX6_advance_l0 N h n) ih σ
def fX6_advance (N : Nat) (h : Nat) (σ : Mem) : Option (Unit × Mem) := fX6_advance_l0 N h N σ
theorem kX6_advance (l : Launch) (z : Sx) (hZ : z.2.2.2.1 = kdC) (N : Nat) (h : Nat) (hh : z.2.2.2.1 h = (6, 0)) (σ : Mem) : Ct QV yX6_advance cX6_advance 2 none 2 41 l z [.ref (z.2.2.1 h)] σ (fX6_advance N h σ) := by
  refine Ct_of (by decide +kernel) (Nat.le_of_ble_eq_true rfl) rfl ?_
  intro x _ X E hr
  exact lX6_advance_0 X E hr hZ N h hh N σ
def fX6_refuse (N : Nat) (h : Nat) (σ : Mem) : Option (Unit × Mem) :=
  lt_ (pI σ h 3 1) (fun s1 => lt_ (pI s1 h 4 (s1.1 h 8)) (fun s2 => some ((), s2)))
set_option maxRecDepth 100000 in
set_option maxHeartbeats 4000000 in
theorem bX6_refuse_0 {x : Cx} {z : Sx} (X : XG x z RX6 cX6_refuse 1 0 0) (E : XE x z) (hr : XR x none) (hZ : z.2.2.2.1 = kdC) (N : Nat) (h : Nat) (hh : z.2.2.2.1 h = (6, 0)) (σ : Mem) : VK x z 1 (BQ QV x z) 0 [(0, .ref (z.2.2.1 h))] [] σ (fX6_refuse N h σ) := by
  unfold fX6_refuse
  refine V_aload_n 0 X dX6_refuse_0 rfl rfl ?_
  refine V_iconst (v := 1) X dX6_refuse_1 (by decide) ?_
  refine V_putIG 3 X dX6_refuse_2 co6 hh (by decide) rfl wfX6_45 rfl rfl rfl (fun s1 => ?_)
  refine V_aload_n 0 X dX6_refuse_5 rfl rfl ?_
  refine V_aload_n 0 X dX6_refuse_6 rfl rfl ?_
  refine V_getI 8 X dX6_refuse_7 co6 hh (by decide) rfl wfX6_82 ?_
  refine V_putIG 4 X dX6_refuse_10 co6 hh (by decide) rfl wfX6_49 rfl rfl rfl (fun s2 => ?_)
  exact V_vret X E hr dX6_refuse_13
theorem kX6_refuse (l : Launch) (z : Sx) (hZ : z.2.2.2.1 = kdC) (N : Nat) (h : Nat) (hh : z.2.2.2.1 h = (6, 0)) (σ : Mem) : Ct QV yX6_refuse cX6_refuse 1 none 0 0 l z [.ref (z.2.2.1 h)] σ (fX6_refuse N h σ) := by
  refine Ct_of (by decide +kernel) (Nat.le_of_ble_eq_true rfl) rfl ?_
  intro x _ X E hr
  exact bX6_refuse_0 X E hr hZ N h hh σ
def fX6_isFull (N : Nat) (h : Nat) (v1 : Int32) (σ : Mem) : Option (Int32 × Mem) :=
  if 4 ≤ v1 then if 5 < v1 then if 7 ≤ v1 then if 15 ≤ v1 then if (σ.1 (h + 14) 0) < 8 then some (0, σ) else some (1, σ) else if (σ.1 (h + 10) 0) < 40 then some (0, σ) else some (1, σ) else some (0, σ) else if (σ.1 (h + 1) 1) < 6 then some (0, σ) else some (1, σ) else if (σ.1 (h + 1) 0) < 8 then some (0, σ) else some (1, σ)
set_option maxRecDepth 100000 in
set_option maxHeartbeats 4000000 in
theorem bX6_isFull_0 {x : Cx} {z : Sx} (X : XG x z RX6 cX6_isFull 2 0 0) (E : XE x z) (hr : XR x (some .boolean)) (hZ : z.2.2.2.1 = kdC) (N : Nat) (h : Nat) (hh : z.2.2.2.1 h = (6, 0)) (v1 : Int32) (σ : Mem) : VK x z 2 (BQ QI x z) 0 [(0, .ref (z.2.2.1 h)), (1, .int v1)] [] σ (fX6_isFull N h v1 σ) := by
  unfold fX6_isFull
  refine V_iload_n 1 X dX6_isFull_0 rfl rfl ?_
  refine V_iconst (v := 4) X dX6_isFull_1 (by decide) ?_
  refine V_icmp_ge (tgt := 23) X dX6_isFull_2 (by decide) ?_ ?_
  · refine V_iload_n 1 X dX6_isFull_23 rfl rfl ?_
    refine V_iconst (v := 5) X dX6_isFull_24 (by decide) ?_
    refine V_icmp_gt (tgt := 46) X dX6_isFull_25 (by decide) ?_ ?_
    · refine V_iload_n 1 X dX6_isFull_46 rfl rfl ?_
      refine V_bipush (v := 7) X dX6_isFull_47 (by decide) ?_
      refine V_icmp_ge (tgt := 54) X dX6_isFull_49 (by decide) ?_ ?_
      · refine V_iload_n 1 X dX6_isFull_54 rfl rfl ?_
        refine V_bipush (v := 15) X dX6_isFull_55 (by decide) ?_
        refine V_icmp_ge (tgt := 80) X dX6_isFull_57 (by decide) ?_ ?_
        · refine V_aload_n 0 X dX6_isFull_80 rfl rfl ?_
          refine V_getR (k1 := (h + 14)) 2 X dX6_isFull_81 co6 hh (by decide) rfl rfl wfX6_28 ?_
          refine V_getI 0 X dX6_isFull_84 co4 (kt6_2 hZ hh) (by decide) rfl wfX6_129 ?_
          refine V_bipush (v := 8) X dX6_isFull_87 (by decide) ?_
          refine V_icmp_lt (tgt := 96) X dX6_isFull_89 (by decide) ?_ ?_
          · refine V_iconst (v := 0) X dX6_isFull_96 (by decide) ?_
            exact V_zret X E hr dX6_isFull_97 (by decide)
          · refine V_iconst (v := 1) X dX6_isFull_92 (by decide) ?_
            refine V_goto (tgt := 97) X dX6_isFull_93 (by decide) ?_
            exact V_zret X E hr dX6_isFull_97 (by decide)
        · refine V_aload_n 0 X dX6_isFull_60 rfl rfl ?_
          refine V_getR (k1 := (h + 10)) 1 X dX6_isFull_61 co6 hh (by decide) rfl rfl wfX6_21 ?_
          refine V_getI 0 X dX6_isFull_64 co8 (kt6_1 hZ hh) (by decide) rfl wfX6_126 ?_
          refine V_bipush (v := 40) X dX6_isFull_67 (by decide) ?_
          refine V_icmp_lt (tgt := 76) X dX6_isFull_69 (by decide) ?_ ?_
          · refine V_iconst (v := 0) X dX6_isFull_76 (by decide) ?_
            refine V_goto (tgt := 97) X dX6_isFull_77 (by decide) ?_
            exact V_zret X E hr dX6_isFull_97 (by decide)
          · refine V_iconst (v := 1) X dX6_isFull_72 (by decide) ?_
            refine V_goto (tgt := 97) X dX6_isFull_73 (by decide) ?_
            exact V_zret X E hr dX6_isFull_97 (by decide)
      · refine V_iconst (v := 0) X dX6_isFull_52 (by decide) ?_
        exact V_zret X E hr dX6_isFull_53 (by decide)
    · refine V_aload_n 0 X dX6_isFull_28 rfl rfl ?_
      refine V_getR (k1 := (h + 1)) 0 X dX6_isFull_29 co6 hh (by decide) rfl rfl wfX6_12 ?_
      refine V_getI 1 X dX6_isFull_32 co0 (kt6_0 hZ hh) (by decide) rfl wfX6_123 ?_
      refine V_bipush (v := 6) X dX6_isFull_35 (by decide) ?_
      refine V_icmp_lt (tgt := 44) X dX6_isFull_37 (by decide) ?_ ?_
      · refine V_iconst (v := 0) X dX6_isFull_44 (by decide) ?_
        exact V_zret X E hr dX6_isFull_45 (by decide)
      · refine V_iconst (v := 1) X dX6_isFull_40 (by decide) ?_
        refine V_goto (tgt := 45) X dX6_isFull_41 (by decide) ?_
        exact V_zret X E hr dX6_isFull_45 (by decide)
  · refine V_aload_n 0 X dX6_isFull_5 rfl rfl ?_
    refine V_getR (k1 := (h + 1)) 0 X dX6_isFull_6 co6 hh (by decide) rfl rfl wfX6_12 ?_
    refine V_getI 0 X dX6_isFull_9 co0 (kt6_0 hZ hh) (by decide) rfl wfX6_120 ?_
    refine V_bipush (v := 8) X dX6_isFull_12 (by decide) ?_
    refine V_icmp_lt (tgt := 21) X dX6_isFull_14 (by decide) ?_ ?_
    · refine V_iconst (v := 0) X dX6_isFull_21 (by decide) ?_
      exact V_zret X E hr dX6_isFull_22 (by decide)
    · refine V_iconst (v := 1) X dX6_isFull_17 (by decide) ?_
      refine V_goto (tgt := 22) X dX6_isFull_18 (by decide) ?_
      exact V_zret X E hr dX6_isFull_22 (by decide)
theorem kX6_isFull (l : Launch) (z : Sx) (hZ : z.2.2.2.1 = kdC) (N : Nat) (h : Nat) (hh : z.2.2.2.1 h = (6, 0)) (v1 : Int32) (σ : Mem) : Ct QI yX6_isFull cX6_isFull 2 (some .boolean) 0 0 l z [.ref (z.2.2.1 h), .int v1] σ (fX6_isFull N h v1 σ) := by
  refine Ct_of (by decide +kernel) (Nat.le_of_ble_eq_true rfl) rfl ?_
  intro x _ X E hr
  exact bX6_isFull_0 X E hr hZ N h hh v1 σ
def fX6_note (N : Nat) (h : Nat) (v1 : Int32) (v2 : Int32) (σ : Mem) : Option (Unit × Mem) :=
  if (σ.1 h 3) = 0 then lt_ (pI σ h 3 v1) (fun s1 => lt_ (pI s1 h 4 v2) (fun s2 => some ((), s2))) else some ((), σ)
set_option maxRecDepth 100000 in
set_option maxHeartbeats 4000000 in
theorem bX6_note_0 {x : Cx} {z : Sx} (X : XG x z RX6 cX6_note 3 0 0) (E : XE x z) (hr : XR x none) (hZ : z.2.2.2.1 = kdC) (N : Nat) (h : Nat) (hh : z.2.2.2.1 h = (6, 0)) (v1 : Int32) (v2 : Int32) (σ : Mem) : VK x z 3 (BQ QV x z) 0 [(0, .ref (z.2.2.1 h)), (1, .int v1), (2, .int v2)] [] σ (fX6_note N h v1 v2 σ) := by
  unfold fX6_note
  refine V_aload_n 0 X dX6_note_0 rfl rfl ?_
  refine V_getI 3 X dX6_note_1 co6 hh (by decide) rfl wfX6_45 ?_
  refine V_if_ne (tgt := 17) X dX6_note_4 (by decide) ?_ ?_
  · exact V_vret X E hr dX6_note_17
  · refine V_aload_n 0 X dX6_note_7 rfl rfl ?_
    refine V_iload_n 1 X dX6_note_8 rfl rfl ?_
    refine V_putIG 3 X dX6_note_9 co6 hh (by decide) rfl wfX6_45 rfl rfl rfl (fun s1 => ?_)
    refine V_aload_n 0 X dX6_note_12 rfl rfl ?_
    refine V_iload_n 2 X dX6_note_13 rfl rfl ?_
    refine V_putIG 4 X dX6_note_14 co6 hh (by decide) rfl wfX6_49 rfl rfl rfl (fun s2 => ?_)
    exact V_vret X E hr dX6_note_17
theorem kX6_note (l : Launch) (z : Sx) (hZ : z.2.2.2.1 = kdC) (N : Nat) (h : Nat) (hh : z.2.2.2.1 h = (6, 0)) (v1 : Int32) (v2 : Int32) (σ : Mem) : Ct QV yX6_note cX6_note 3 none 0 0 l z [.ref (z.2.2.1 h), .int v1, .int v2] σ (fX6_note N h v1 v2 σ) := by
  refine Ct_of (by decide +kernel) (Nat.le_of_ble_eq_true rfl) rfl ?_
  intro x _ X E hr
  exact bX6_note_0 X E hr hZ N h hh v1 v2 σ
def fX0_addPiece (N : Nat) (h : Nat) (v1 : Int32) (v2 : Int32) (v3 : Nat) (σ : Mem) : Option (Unit × Mem) :=
  if 8 ≤ (σ.1 h 0) then some ((), σ) else if 4 ≤ (4 : Int32) then gd (inb (σ.1 h 0) 8) (lt_ (pI σ (h + 1) (σ.1 h 0).toNatClampNeg v1) (fun s1 => gd (inb (s1.1 h 0) 8) (lt_ (pI s1 (h + 2) (s1.1 h 0).toNatClampNeg v2) (fun s2 => gd (inb 0 4) (gd (inb (s2.1 h 0) 8) (lt_ (pI s2 (h + 3) (s2.1 h 0).toNatClampNeg (s2.1 v3 (0 : Int32).toNatClampNeg)) (fun s3 => gd (inb 1 4) (gd (inb (s3.1 h 0) 8) (lt_ (pI s3 (h + 4) (s3.1 h 0).toNatClampNeg (s3.1 v3 (1 : Int32).toNatClampNeg)) (fun s4 => gd (inb 2 4) (gd (inb (s4.1 h 0) 8) (lt_ (pI s4 (h + 5) (s4.1 h 0).toNatClampNeg (s4.1 v3 (2 : Int32).toNatClampNeg)) (fun s5 => gd (inb 3 4) (gd (inb (s5.1 h 0) 8) (lt_ (pI s5 (h + 6) (s5.1 h 0).toNatClampNeg (s5.1 v3 (3 : Int32).toNatClampNeg)) (fun s6 => lt_ (pI s6 h 0 ((s6.1 h 0) + 1)) (fun s7 => some ((), s7)))))))))))))))))) else some ((), σ)
set_option maxRecDepth 100000 in
set_option maxHeartbeats 4000000 in
theorem bX0_addPiece_0 {x : Cx} {z : Sx} (X : XG x z RX0 cX0_addPiece 4 0 0) (E : XE x z) (hr : XR x none) (hZ : z.2.2.2.1 = kdC) (N : Nat) (h : Nat) (hh : z.2.2.2.1 h = (0, 0)) (v1 : Int32) (v2 : Int32) (v3 : Nat) (hk3 : z.2.2.2.1 v3 = (50, 4)) (σ : Mem) : VK x z 4 (BQ QV x z) 0 [(0, .ref (z.2.2.1 h)), (1, .int v1), (2, .int v2), (3, .ref (z.2.2.1 v3))] [] σ (fX0_addPiece N h v1 v2 v3 σ) := by
  unfold fX0_addPiece
  refine V_aload_n 0 X dX0_addPiece_0 rfl rfl ?_
  refine V_getI 0 X dX0_addPiece_1 co0 hh (by decide) rfl wfX0_40 ?_
  refine V_bipush (v := 8) X dX0_addPiece_4 (by decide) ?_
  refine V_icmp_ge (tgt := 15) X dX0_addPiece_6 (by decide) ?_ ?_
  · exact V_vret X E hr dX0_addPiece_15
  · refine V_aload_n 3 X dX0_addPiece_9 rfl rfl ?_
    refine V_alen50 (v := 4) X dX0_addPiece_10 hk3 (by decide) ?_
    refine V_iconst (v := 4) X dX0_addPiece_11 (by decide) ?_
    refine V_icmp_ge (tgt := 16) X dX0_addPiece_12 (by decide) ?_ ?_
    · refine V_aload_n 0 X dX0_addPiece_16 rfl rfl ?_
      refine V_getR (k1 := (h + 1)) 3 X dX0_addPiece_17 co0 hh (by decide) rfl rfl wfX0_15 ?_
      refine V_aload_n 0 X dX0_addPiece_20 rfl rfl ?_
      refine V_getI 0 X dX0_addPiece_21 co0 hh (by decide) rfl wfX0_40 ?_
      refine V_iload_n 1 X dX0_addPiece_24 rfl rfl ?_
      refine V_iastG X dX0_addPiece_25 (kt0_3 hZ hh) (fun s1 => ?_)
      refine V_aload_n 0 X dX0_addPiece_26 rfl rfl ?_
      refine V_getR (k1 := (h + 2)) 4 X dX0_addPiece_27 co0 hh (by decide) rfl rfl wfX0_19 ?_
      refine V_aload_n 0 X dX0_addPiece_30 rfl rfl ?_
      refine V_getI 0 X dX0_addPiece_31 co0 hh (by decide) rfl wfX0_40 ?_
      refine V_iload_n 2 X dX0_addPiece_34 rfl rfl ?_
      refine V_iastG X dX0_addPiece_35 (kt0_4 hZ hh) (fun s2 => ?_)
      refine V_aload_n 0 X dX0_addPiece_36 rfl rfl ?_
      refine V_getR (k1 := (h + 3)) 5 X dX0_addPiece_37 co0 hh (by decide) rfl rfl wfX0_22 ?_
      refine V_aload_n 0 X dX0_addPiece_40 rfl rfl ?_
      refine V_getI 0 X dX0_addPiece_41 co0 hh (by decide) rfl wfX0_40 ?_
      refine V_aload_n 3 X dX0_addPiece_44 rfl rfl ?_
      refine V_iconst (v := 0) X dX0_addPiece_45 (by decide) ?_
      refine V_iald X dX0_addPiece_46 hk3 ?_
      refine V_iastG X dX0_addPiece_47 (kt0_5 hZ hh) (fun s3 => ?_)
      refine V_aload_n 0 X dX0_addPiece_48 rfl rfl ?_
      refine V_getR (k1 := (h + 4)) 6 X dX0_addPiece_49 co0 hh (by decide) rfl rfl wfX0_25 ?_
      refine V_aload_n 0 X dX0_addPiece_52 rfl rfl ?_
      refine V_getI 0 X dX0_addPiece_53 co0 hh (by decide) rfl wfX0_40 ?_
      refine V_aload_n 3 X dX0_addPiece_56 rfl rfl ?_
      refine V_iconst (v := 1) X dX0_addPiece_57 (by decide) ?_
      refine V_iald X dX0_addPiece_58 hk3 ?_
      refine V_iastG X dX0_addPiece_59 (kt0_6 hZ hh) (fun s4 => ?_)
      refine V_aload_n 0 X dX0_addPiece_60 rfl rfl ?_
      refine V_getR (k1 := (h + 5)) 7 X dX0_addPiece_61 co0 hh (by decide) rfl rfl wfX0_28 ?_
      refine V_aload_n 0 X dX0_addPiece_64 rfl rfl ?_
      refine V_getI 0 X dX0_addPiece_65 co0 hh (by decide) rfl wfX0_40 ?_
      refine V_aload_n 3 X dX0_addPiece_68 rfl rfl ?_
      refine V_iconst (v := 2) X dX0_addPiece_69 (by decide) ?_
      refine V_iald X dX0_addPiece_70 hk3 ?_
      refine V_iastG X dX0_addPiece_71 (kt0_7 hZ hh) (fun s5 => ?_)
      refine V_aload_n 0 X dX0_addPiece_72 rfl rfl ?_
      refine V_getR (k1 := (h + 6)) 8 X dX0_addPiece_73 co0 hh (by decide) rfl rfl wfX0_31 ?_
      refine V_aload_n 0 X dX0_addPiece_76 rfl rfl ?_
      refine V_getI 0 X dX0_addPiece_77 co0 hh (by decide) rfl wfX0_40 ?_
      refine V_aload_n 3 X dX0_addPiece_80 rfl rfl ?_
      refine V_iconst (v := 3) X dX0_addPiece_81 (by decide) ?_
      refine V_iald X dX0_addPiece_82 hk3 ?_
      refine V_iastG X dX0_addPiece_83 (kt0_8 hZ hh) (fun s6 => ?_)
      refine V_aload_n 0 X dX0_addPiece_84 rfl rfl ?_
      refine V_dup X dX0_addPiece_85 rfl ?_
      refine V_getI 0 X dX0_addPiece_86 co0 hh (by decide) rfl wfX0_40 ?_
      refine V_iconst (v := 1) X dX0_addPiece_89 (by decide) ?_
      refine V_iadd X dX0_addPiece_90 ?_
      refine V_putIG 0 X dX0_addPiece_91 co0 hh (by decide) rfl wfX0_40 rfl rfl rfl (fun s7 => ?_)
      exact V_vret X E hr dX0_addPiece_94
    · exact V_vret X E hr dX0_addPiece_15
theorem kX0_addPiece (l : Launch) (z : Sx) (hZ : z.2.2.2.1 = kdC) (N : Nat) (h : Nat) (hh : z.2.2.2.1 h = (0, 0)) (v1 : Int32) (v2 : Int32) (v3 : Nat) (hk3 : z.2.2.2.1 v3 = (50, 4)) (σ : Mem) : Ct QV yX0_addPiece cX0_addPiece 4 none 0 0 l z [.ref (z.2.2.1 h), .int v1, .int v2, .ref (z.2.2.1 v3)] σ (fX0_addPiece N h v1 v2 v3 σ) := by
  refine Ct_of (by decide +kernel) (Nat.le_of_ble_eq_true rfl) rfl ?_
  intro x _ X E hr
  exact bX0_addPiece_0 X E hr hZ N h hh v1 v2 v3 hk3 σ
def fX0_addPerson (N : Nat) (h : Nat) (v1 : Int32) (v2 : Int32) (σ : Mem) : Option (Unit × Mem) :=
  if (σ.1 h 1) < 6 then gd (inb (σ.1 h 1) 6) (lt_ (pI σ (h + 7) (σ.1 h 1).toNatClampNeg v1) (fun s1 => gd (inb (s1.1 h 1) 6) (lt_ (pI s1 (h + 8) (s1.1 h 1).toNatClampNeg v2) (fun s2 => lt_ (pI s2 h 1 ((s2.1 h 1) + 1)) (fun s3 => some ((), s3)))))) else some ((), σ)
set_option maxRecDepth 100000 in
set_option maxHeartbeats 4000000 in
theorem bX0_addPerson_0 {x : Cx} {z : Sx} (X : XG x z RX0 cX0_addPerson 3 0 0) (E : XE x z) (hr : XR x none) (hZ : z.2.2.2.1 = kdC) (N : Nat) (h : Nat) (hh : z.2.2.2.1 h = (0, 0)) (v1 : Int32) (v2 : Int32) (σ : Mem) : VK x z 3 (BQ QV x z) 0 [(0, .ref (z.2.2.1 h)), (1, .int v1), (2, .int v2)] [] σ (fX0_addPerson N h v1 v2 σ) := by
  unfold fX0_addPerson
  refine V_aload_n 0 X dX0_addPerson_0 rfl rfl ?_
  refine V_getI 1 X dX0_addPerson_1 co0 hh (by decide) rfl wfX0_43 ?_
  refine V_bipush (v := 6) X dX0_addPerson_4 (by decide) ?_
  refine V_icmp_lt (tgt := 10) X dX0_addPerson_6 (by decide) ?_ ?_
  · refine V_aload_n 0 X dX0_addPerson_10 rfl rfl ?_
    refine V_getR (k1 := (h + 7)) 9 X dX0_addPerson_11 co0 hh (by decide) rfl rfl wfX0_34 ?_
    refine V_aload_n 0 X dX0_addPerson_14 rfl rfl ?_
    refine V_getI 1 X dX0_addPerson_15 co0 hh (by decide) rfl wfX0_43 ?_
    refine V_iload_n 1 X dX0_addPerson_18 rfl rfl ?_
    refine V_iastG X dX0_addPerson_19 (kt0_9 hZ hh) (fun s1 => ?_)
    refine V_aload_n 0 X dX0_addPerson_20 rfl rfl ?_
    refine V_getR (k1 := (h + 8)) 10 X dX0_addPerson_21 co0 hh (by decide) rfl rfl wfX0_37 ?_
    refine V_aload_n 0 X dX0_addPerson_24 rfl rfl ?_
    refine V_getI 1 X dX0_addPerson_25 co0 hh (by decide) rfl wfX0_43 ?_
    refine V_iload_n 2 X dX0_addPerson_28 rfl rfl ?_
    refine V_iastG X dX0_addPerson_29 (kt0_10 hZ hh) (fun s2 => ?_)
    refine V_aload_n 0 X dX0_addPerson_30 rfl rfl ?_
    refine V_dup X dX0_addPerson_31 rfl ?_
    refine V_getI 1 X dX0_addPerson_32 co0 hh (by decide) rfl wfX0_43 ?_
    refine V_iconst (v := 1) X dX0_addPerson_35 (by decide) ?_
    refine V_iadd X dX0_addPerson_36 ?_
    refine V_putIG 1 X dX0_addPerson_37 co0 hh (by decide) rfl wfX0_43 rfl rfl rfl (fun s3 => ?_)
    exact V_vret X E hr dX0_addPerson_40
  · exact V_vret X E hr dX0_addPerson_9
theorem kX0_addPerson (l : Launch) (z : Sx) (hZ : z.2.2.2.1 = kdC) (N : Nat) (h : Nat) (hh : z.2.2.2.1 h = (0, 0)) (v1 : Int32) (v2 : Int32) (σ : Mem) : Ct QV yX0_addPerson cX0_addPerson 3 none 0 0 l z [.ref (z.2.2.1 h), .int v1, .int v2] σ (fX0_addPerson N h v1 v2 σ) := by
  refine Ct_of (by decide +kernel) (Nat.le_of_ble_eq_true rfl) rfl ?_
  intro x _ X E hr
  exact bX0_addPerson_0 X E hr hZ N h hh v1 v2 σ
def fX8_add (N : Nat) (h : Nat) (v1 : Int32) (v2 : Int32) (v3 : Int32) (σ : Mem) : Option (Unit × Mem) :=
  if (σ.1 h 0) < 40 then gd (inb (σ.1 h 0) 40) (lt_ (pI σ (h + 1) (σ.1 h 0).toNatClampNeg v1) (fun s1 => gd (inb (s1.1 h 0) 40) (lt_ (pI s1 (h + 2) (s1.1 h 0).toNatClampNeg v2) (fun s2 => gd (inb (s2.1 h 0) 40) (lt_ (pI s2 (h + 3) (s2.1 h 0).toNatClampNeg v3) (fun s3 => lt_ (pI s3 h 0 ((s3.1 h 0) + 1)) (fun s4 => some ((), s4)))))))) else some ((), σ)
set_option maxRecDepth 100000 in
set_option maxHeartbeats 4000000 in
theorem bX8_add_0 {x : Cx} {z : Sx} (X : XG x z RX8 cX8_add 4 0 0) (E : XE x z) (hr : XR x none) (hZ : z.2.2.2.1 = kdC) (N : Nat) (h : Nat) (hh : z.2.2.2.1 h = (8, 0)) (v1 : Int32) (v2 : Int32) (v3 : Int32) (σ : Mem) : VK x z 4 (BQ QV x z) 0 [(0, .ref (z.2.2.1 h)), (1, .int v1), (2, .int v2), (3, .int v3)] [] σ (fX8_add N h v1 v2 v3 σ) := by
  unfold fX8_add
  refine V_aload_n 0 X dX8_add_0 rfl rfl ?_
  refine V_getI 0 X dX8_add_1 co8 hh (by decide) rfl wfX8_21 ?_
  refine V_bipush (v := 40) X dX8_add_4 (by decide) ?_
  refine V_icmp_lt (tgt := 10) X dX8_add_6 (by decide) ?_ ?_
  · refine V_aload_n 0 X dX8_add_10 rfl rfl ?_
    refine V_getR (k1 := (h + 1)) 1 X dX8_add_11 co8 hh (by decide) rfl rfl wfX8_9 ?_
    refine V_aload_n 0 X dX8_add_14 rfl rfl ?_
    refine V_getI 0 X dX8_add_15 co8 hh (by decide) rfl wfX8_21 ?_
    refine V_iload_n 1 X dX8_add_18 rfl rfl ?_
    refine V_iastG X dX8_add_19 (kt8_1 hZ hh) (fun s1 => ?_)
    refine V_aload_n 0 X dX8_add_20 rfl rfl ?_
    refine V_getR (k1 := (h + 2)) 2 X dX8_add_21 co8 hh (by decide) rfl rfl wfX8_15 ?_
    refine V_aload_n 0 X dX8_add_24 rfl rfl ?_
    refine V_getI 0 X dX8_add_25 co8 hh (by decide) rfl wfX8_21 ?_
    refine V_iload_n 2 X dX8_add_28 rfl rfl ?_
    refine V_iastG X dX8_add_29 (kt8_2 hZ hh) (fun s2 => ?_)
    refine V_aload_n 0 X dX8_add_30 rfl rfl ?_
    refine V_getR (k1 := (h + 3)) 3 X dX8_add_31 co8 hh (by decide) rfl rfl wfX8_18 ?_
    refine V_aload_n 0 X dX8_add_34 rfl rfl ?_
    refine V_getI 0 X dX8_add_35 co8 hh (by decide) rfl wfX8_21 ?_
    refine V_iload_n 3 X dX8_add_38 rfl rfl ?_
    refine V_iastG X dX8_add_39 (kt8_3 hZ hh) (fun s3 => ?_)
    refine V_aload_n 0 X dX8_add_40 rfl rfl ?_
    refine V_dup X dX8_add_41 rfl ?_
    refine V_getI 0 X dX8_add_42 co8 hh (by decide) rfl wfX8_21 ?_
    refine V_iconst (v := 1) X dX8_add_45 (by decide) ?_
    refine V_iadd X dX8_add_46 ?_
    refine V_putIG 0 X dX8_add_47 co8 hh (by decide) rfl wfX8_21 rfl rfl rfl (fun s4 => ?_)
    exact V_vret X E hr dX8_add_50
  · exact V_vret X E hr dX8_add_9
theorem kX8_add (l : Launch) (z : Sx) (hZ : z.2.2.2.1 = kdC) (N : Nat) (h : Nat) (hh : z.2.2.2.1 h = (8, 0)) (v1 : Int32) (v2 : Int32) (v3 : Int32) (σ : Mem) : Ct QV yX8_add cX8_add 4 none 0 0 l z [.ref (z.2.2.1 h), .int v1, .int v2, .int v3] σ (fX8_add N h v1 v2 v3 σ) := by
  refine Ct_of (by decide +kernel) (Nat.le_of_ble_eq_true rfl) rfl ?_
  intro x _ X E hr
  exact bX8_add_0 X E hr hZ N h hh v1 v2 v3 σ
def fX4_add (N : Nat) (h : Nat) (v1 : Int32) (v2 : Int32) (v3 : Int32) (v4 : Int32) (σ : Mem) : Option (Unit × Mem) :=
  if (σ.1 h 0) < 8 then gd (inb (σ.1 h 0) 8) (lt_ (pI σ (h + 1) (σ.1 h 0).toNatClampNeg v1) (fun s1 => gd (inb (s1.1 h 0) 8) (lt_ (pI s1 (h + 2) (s1.1 h 0).toNatClampNeg v2) (fun s2 => gd (inb (s2.1 h 0) 8) (lt_ (pI s2 (h + 3) (s2.1 h 0).toNatClampNeg v3) (fun s3 => gd (inb (s3.1 h 0) 8) (lt_ (pI s3 (h + 4) (s3.1 h 0).toNatClampNeg v4) (fun s4 => lt_ (pI s4 h 0 ((s4.1 h 0) + 1)) (fun s5 => some ((), s5)))))))))) else some ((), σ)
set_option maxRecDepth 100000 in
set_option maxHeartbeats 4000000 in
theorem bX4_add_0 {x : Cx} {z : Sx} (X : XG x z RX4 cX4_add 5 0 0) (E : XE x z) (hr : XR x none) (hZ : z.2.2.2.1 = kdC) (N : Nat) (h : Nat) (hh : z.2.2.2.1 h = (4, 0)) (v1 : Int32) (v2 : Int32) (v3 : Int32) (v4 : Int32) (σ : Mem) : VK x z 5 (BQ QV x z) 0 [(0, .ref (z.2.2.1 h)), (1, .int v1), (2, .int v2), (3, .int v3), (4, .int v4)] [] σ (fX4_add N h v1 v2 v3 v4 σ) := by
  unfold fX4_add
  refine V_aload_n 0 X dX4_add_0 rfl rfl ?_
  refine V_getI 0 X dX4_add_1 co4 hh (by decide) rfl wfX4_24 ?_
  refine V_bipush (v := 8) X dX4_add_4 (by decide) ?_
  refine V_icmp_lt (tgt := 10) X dX4_add_6 (by decide) ?_ ?_
  · refine V_aload_n 0 X dX4_add_10 rfl rfl ?_
    refine V_getR (k1 := (h + 1)) 1 X dX4_add_11 co4 hh (by decide) rfl rfl wfX4_9 ?_
    refine V_aload_n 0 X dX4_add_14 rfl rfl ?_
    refine V_getI 0 X dX4_add_15 co4 hh (by decide) rfl wfX4_24 ?_
    refine V_iload_n 1 X dX4_add_18 rfl rfl ?_
    refine V_iastG X dX4_add_19 (kt4_1 hZ hh) (fun s1 => ?_)
    refine V_aload_n 0 X dX4_add_20 rfl rfl ?_
    refine V_getR (k1 := (h + 2)) 2 X dX4_add_21 co4 hh (by decide) rfl rfl wfX4_15 ?_
    refine V_aload_n 0 X dX4_add_24 rfl rfl ?_
    refine V_getI 0 X dX4_add_25 co4 hh (by decide) rfl wfX4_24 ?_
    refine V_iload_n 2 X dX4_add_28 rfl rfl ?_
    refine V_iastG X dX4_add_29 (kt4_2 hZ hh) (fun s2 => ?_)
    refine V_aload_n 0 X dX4_add_30 rfl rfl ?_
    refine V_getR (k1 := (h + 3)) 3 X dX4_add_31 co4 hh (by decide) rfl rfl wfX4_18 ?_
    refine V_aload_n 0 X dX4_add_34 rfl rfl ?_
    refine V_getI 0 X dX4_add_35 co4 hh (by decide) rfl wfX4_24 ?_
    refine V_iload_n 3 X dX4_add_38 rfl rfl ?_
    refine V_iastG X dX4_add_39 (kt4_3 hZ hh) (fun s3 => ?_)
    refine V_aload_n 0 X dX4_add_40 rfl rfl ?_
    refine V_getR (k1 := (h + 4)) 4 X dX4_add_41 co4 hh (by decide) rfl rfl wfX4_21 ?_
    refine V_aload_n 0 X dX4_add_44 rfl rfl ?_
    refine V_getI 0 X dX4_add_45 co4 hh (by decide) rfl wfX4_24 ?_
    refine V_iload 4 X dX4_add_48 rfl ?_
    refine V_iastG X dX4_add_50 (kt4_4 hZ hh) (fun s4 => ?_)
    refine V_aload_n 0 X dX4_add_51 rfl rfl ?_
    refine V_dup X dX4_add_52 rfl ?_
    refine V_getI 0 X dX4_add_53 co4 hh (by decide) rfl wfX4_24 ?_
    refine V_iconst (v := 1) X dX4_add_56 (by decide) ?_
    refine V_iadd X dX4_add_57 ?_
    refine V_putIG 0 X dX4_add_58 co4 hh (by decide) rfl wfX4_24 rfl rfl rfl (fun s5 => ?_)
    exact V_vret X E hr dX4_add_61
  · exact V_vret X E hr dX4_add_9
theorem kX4_add (l : Launch) (z : Sx) (hZ : z.2.2.2.1 = kdC) (N : Nat) (h : Nat) (hh : z.2.2.2.1 h = (4, 0)) (v1 : Int32) (v2 : Int32) (v3 : Int32) (v4 : Int32) (σ : Mem) : Ct QV yX4_add cX4_add 5 none 0 0 l z [.ref (z.2.2.1 h), .int v1, .int v2, .int v3, .int v4] σ (fX4_add N h v1 v2 v3 v4 σ) := by
  refine Ct_of (by decide +kernel) (Nat.le_of_ble_eq_true rfl) rfl ?_
  intro x _ X E hr
  exact bX4_add_0 X E hr hZ N h hh v1 v2 v3 v4 σ
def fX6_addLine (N : Nat) (h : Nat) (v1 : Int32) (v2 : Int32) (σ : Mem) : Option (Unit × Mem) :=
  if 4 ≤ v1 then if v1 = 4 then gd (inb 0 4) (gd (inb 1 4) (bd (fX0_addPerson N (h + 1) (σ.1 (h + 20) (0 : Int32).toNatClampNeg) (σ.1 (h + 20) (1 : Int32).toNatClampNeg) σ) (fun r8 s9 => some ((), s9)))) else if v1 = 5 then gd (inb 0 4) (bd (fX0_addPerson N (h + 1) (σ.1 (h + 20) (0 : Int32).toNatClampNeg) 8 σ) (fun r6 s7 => some ((), s7))) else if 7 ≤ v1 then if 15 ≤ v1 then gd (inb 0 4) (gd (inb 1 4) (gd (inb 2 4) (bd (fX4_add N (h + 14) (v1 - 15) (σ.1 (h + 20) (0 : Int32).toNatClampNeg) (σ.1 (h + 20) (1 : Int32).toNatClampNeg) (σ.1 (h + 20) (2 : Int32).toNatClampNeg) σ) (fun r1 s2 => some ((), s2))))) else gd (inb 0 4) (gd (inb 1 4) (bd (fX8_add N (h + 10) (v1 - 7) (σ.1 (h + 20) (0 : Int32).toNatClampNeg) (σ.1 (h + 20) (1 : Int32).toNatClampNeg) σ) (fun r3 s4 => some ((), s4)))) else gd (inb 0 4) (lt_ (pI σ (h + 1) 2 (σ.1 (h + 20) (0 : Int32).toNatClampNeg)) (fun s5 => some ((), s5))) else bd (fX0_addPiece N (h + 1) v1 v2 (h + 20) σ) (fun r10 s11 => some ((), s11))
set_option maxRecDepth 100000 in
set_option maxHeartbeats 4000000 in
theorem bX6_addLine_0 {x : Cx} {z : Sx} (X : XG x z RX6 cX6_addLine 3 1 24) (E : XE x z) (hr : XR x none) (hZ : z.2.2.2.1 = kdC) (N : Nat) (h : Nat) (hh : z.2.2.2.1 h = (6, 0)) (v1 : Int32) (v2 : Int32) (σ : Mem) : VK x z 3 (BQ QV x z) 0 [(0, .ref (z.2.2.1 h)), (1, .int v1), (2, .int v2)] [] σ (fX6_addLine N h v1 v2 σ) := by
  unfold fX6_addLine
  refine V_iload_n 1 X dX6_addLine_0 rfl rfl ?_
  refine V_iconst (v := 4) X dX6_addLine_1 (by decide) ?_
  refine V_icmp_ge (tgt := 21) X dX6_addLine_2 (by decide) ?_ ?_
  · refine V_iload_n 1 X dX6_addLine_21 rfl rfl ?_
    refine V_iconst (v := 4) X dX6_addLine_22 (by decide) ?_
    refine V_icmp_ne (tgt := 48) X dX6_addLine_23 (by decide) ?_ ?_
    · refine V_iload_n 1 X dX6_addLine_48 rfl rfl ?_
      refine V_iconst (v := 5) X dX6_addLine_49 (by decide) ?_
      refine V_icmp_ne (tgt := 71) X dX6_addLine_50 (by decide) ?_ ?_
      · refine V_iload_n 1 X dX6_addLine_71 rfl rfl ?_
        refine V_bipush (v := 7) X dX6_addLine_72 (by decide) ?_
        refine V_icmp_ge (tgt := 93) X dX6_addLine_74 (by decide) ?_ ?_
        · refine V_iload_n 1 X dX6_addLine_93 rfl rfl ?_
          refine V_bipush (v := 15) X dX6_addLine_94 (by decide) ?_
          refine V_icmp_ge (tgt := 125) X dX6_addLine_96 (by decide) ?_ ?_
          · refine V_aload_n 0 X dX6_addLine_125 rfl rfl ?_
            refine V_getR (k1 := (h + 14)) 2 X dX6_addLine_126 co6 hh (by decide) rfl rfl wfX6_28 ?_
            refine V_iload_n 1 X dX6_addLine_129 rfl rfl ?_
            refine V_bipush (v := 15) X dX6_addLine_130 (by decide) ?_
            refine V_isub X dX6_addLine_132 ?_
            refine V_aload_n 0 X dX6_addLine_133 rfl rfl ?_
            refine V_getR (k1 := (h + 20)) 11 X dX6_addLine_134 co6 hh (by decide) rfl rfl wfX6_36 ?_
            refine V_iconst (v := 0) X dX6_addLine_137 (by decide) ?_
            refine V_iald X dX6_addLine_138 (kt6_11 hZ hh) ?_
            refine V_aload_n 0 X dX6_addLine_139 rfl rfl ?_
            refine V_getR (k1 := (h + 20)) 11 X dX6_addLine_140 co6 hh (by decide) rfl rfl wfX6_36 ?_
            refine V_iconst (v := 1) X dX6_addLine_143 (by decide) ?_
            refine V_iald X dX6_addLine_144 (kt6_11 hZ hh) ?_
            refine V_aload_n 0 X dX6_addLine_145 rfl rfl ?_
            refine V_getR (k1 := (h + 20)) 11 X dX6_addLine_146 co6 hh (by decide) rfl rfl wfX6_36 ?_
            refine V_iconst (v := 2) X dX6_addLine_149 (by decide) ?_
            refine V_iald X dX6_addLine_150 (kt6_11 hZ hh) ?_
            refine V_callV [.int (v1 - 15), .int (σ.1 (h + 20) (0 : Int32).toNatClampNeg), .int (σ.1 (h + 20) (1 : Int32).toNatClampNeg), .int (σ.1 (h + 20) (2 : Int32).toNatClampNeg)] [] X E dX6_addLine_151 (kX4_add x.2.1 z hZ N (h + 14) (kt6_2 hZ hh) (v1 - 15) (σ.1 (h + 20) (0 : Int32).toNatClampNeg) (σ.1 (h + 20) (1 : Int32).toNatClampNeg) (σ.1 (h + 20) (2 : Int32).toNatClampNeg) σ) co4 (kt6_2 hZ hh) gcX6_144 hyX4_add rfl ⟨by decide, by decide⟩ rfl (Nat.le_of_ble_eq_true rfl) (fun r1 s2 => ?_)
            exact V_vret X E hr dX6_addLine_154
          · refine V_aload_n 0 X dX6_addLine_99 rfl rfl ?_
            refine V_getR (k1 := (h + 10)) 1 X dX6_addLine_100 co6 hh (by decide) rfl rfl wfX6_21 ?_
            refine V_iload_n 1 X dX6_addLine_103 rfl rfl ?_
            refine V_bipush (v := 7) X dX6_addLine_104 (by decide) ?_
            refine V_isub X dX6_addLine_106 ?_
            refine V_aload_n 0 X dX6_addLine_107 rfl rfl ?_
            refine V_getR (k1 := (h + 20)) 11 X dX6_addLine_108 co6 hh (by decide) rfl rfl wfX6_36 ?_
            refine V_iconst (v := 0) X dX6_addLine_111 (by decide) ?_
            refine V_iald X dX6_addLine_112 (kt6_11 hZ hh) ?_
            refine V_aload_n 0 X dX6_addLine_113 rfl rfl ?_
            refine V_getR (k1 := (h + 20)) 11 X dX6_addLine_114 co6 hh (by decide) rfl rfl wfX6_36 ?_
            refine V_iconst (v := 1) X dX6_addLine_117 (by decide) ?_
            refine V_iald X dX6_addLine_118 (kt6_11 hZ hh) ?_
            refine V_callV [.int (v1 - 7), .int (σ.1 (h + 20) (0 : Int32).toNatClampNeg), .int (σ.1 (h + 20) (1 : Int32).toNatClampNeg)] [] X E dX6_addLine_119 (kX8_add x.2.1 z hZ N (h + 10) (kt6_1 hZ hh) (v1 - 7) (σ.1 (h + 20) (0 : Int32).toNatClampNeg) (σ.1 (h + 20) (1 : Int32).toNatClampNeg) σ) co8 (kt6_1 hZ hh) gcX6_140 hyX8_add rfl ⟨by decide, by decide⟩ rfl (Nat.le_of_ble_eq_true rfl) (fun r3 s4 => ?_)
            refine V_goto (tgt := 154) X dX6_addLine_122 (by decide) ?_
            exact V_vret X E hr dX6_addLine_154
        · refine V_aload_n 0 X dX6_addLine_77 rfl rfl ?_
          refine V_getR (k1 := (h + 1)) 0 X dX6_addLine_78 co6 hh (by decide) rfl rfl wfX6_12 ?_
          refine V_aload_n 0 X dX6_addLine_81 rfl rfl ?_
          refine V_getR (k1 := (h + 20)) 11 X dX6_addLine_82 co6 hh (by decide) rfl rfl wfX6_36 ?_
          refine V_iconst (v := 0) X dX6_addLine_85 (by decide) ?_
          refine V_iald X dX6_addLine_86 (kt6_11 hZ hh) ?_
          refine V_putIG 2 X dX6_addLine_87 co0 (kt6_0 hZ hh) (by decide) rfl wfX6_137 rfl rfl rfl (fun s5 => ?_)
          refine V_goto (tgt := 154) X dX6_addLine_90 (by decide) ?_
          exact V_vret X E hr dX6_addLine_154
      · refine V_aload_n 0 X dX6_addLine_53 rfl rfl ?_
        refine V_getR (k1 := (h + 1)) 0 X dX6_addLine_54 co6 hh (by decide) rfl rfl wfX6_12 ?_
        refine V_aload_n 0 X dX6_addLine_57 rfl rfl ?_
        refine V_getR (k1 := (h + 20)) 11 X dX6_addLine_58 co6 hh (by decide) rfl rfl wfX6_36 ?_
        refine V_iconst (v := 0) X dX6_addLine_61 (by decide) ?_
        refine V_iald X dX6_addLine_62 (kt6_11 hZ hh) ?_
        refine V_bipush (v := 8) X dX6_addLine_63 (by decide) ?_
        refine V_callV [.int (σ.1 (h + 20) (0 : Int32).toNatClampNeg), .int 8] [] X E dX6_addLine_65 (kX0_addPerson x.2.1 z hZ N (h + 1) (kt6_0 hZ hh) (σ.1 (h + 20) (0 : Int32).toNatClampNeg) 8 σ) co0 (kt6_0 hZ hh) gcX6_134 hyX0_addPerson rfl ⟨by decide, by decide⟩ rfl (Nat.le_of_ble_eq_true rfl) (fun r6 s7 => ?_)
        refine V_goto (tgt := 154) X dX6_addLine_68 (by decide) ?_
        exact V_vret X E hr dX6_addLine_154
    · refine V_aload_n 0 X dX6_addLine_26 rfl rfl ?_
      refine V_getR (k1 := (h + 1)) 0 X dX6_addLine_27 co6 hh (by decide) rfl rfl wfX6_12 ?_
      refine V_aload_n 0 X dX6_addLine_30 rfl rfl ?_
      refine V_getR (k1 := (h + 20)) 11 X dX6_addLine_31 co6 hh (by decide) rfl rfl wfX6_36 ?_
      refine V_iconst (v := 0) X dX6_addLine_34 (by decide) ?_
      refine V_iald X dX6_addLine_35 (kt6_11 hZ hh) ?_
      refine V_aload_n 0 X dX6_addLine_36 rfl rfl ?_
      refine V_getR (k1 := (h + 20)) 11 X dX6_addLine_37 co6 hh (by decide) rfl rfl wfX6_36 ?_
      refine V_iconst (v := 1) X dX6_addLine_40 (by decide) ?_
      refine V_iald X dX6_addLine_41 (kt6_11 hZ hh) ?_
      refine V_callV [.int (σ.1 (h + 20) (0 : Int32).toNatClampNeg), .int (σ.1 (h + 20) (1 : Int32).toNatClampNeg)] [] X E dX6_addLine_42 (kX0_addPerson x.2.1 z hZ N (h + 1) (kt6_0 hZ hh) (σ.1 (h + 20) (0 : Int32).toNatClampNeg) (σ.1 (h + 20) (1 : Int32).toNatClampNeg) σ) co0 (kt6_0 hZ hh) gcX6_134 hyX0_addPerson rfl ⟨by decide, by decide⟩ rfl (Nat.le_of_ble_eq_true rfl) (fun r8 s9 => ?_)
      refine V_goto (tgt := 154) X dX6_addLine_45 (by decide) ?_
      exact V_vret X E hr dX6_addLine_154
  · refine V_aload_n 0 X dX6_addLine_5 rfl rfl ?_
    refine V_getR (k1 := (h + 1)) 0 X dX6_addLine_6 co6 hh (by decide) rfl rfl wfX6_12 ?_
    refine V_iload_n 1 X dX6_addLine_9 rfl rfl ?_
    refine V_iload_n 2 X dX6_addLine_10 rfl rfl ?_
    refine V_aload_n 0 X dX6_addLine_11 rfl rfl ?_
    refine V_getR (k1 := (h + 20)) 11 X dX6_addLine_12 co6 hh (by decide) rfl rfl wfX6_36 ?_
    refine V_callV [.int v1, .int v2, .ref (z.2.2.1 (h + 20))] [] X E dX6_addLine_15 (kX0_addPiece x.2.1 z hZ N (h + 1) (kt6_0 hZ hh) v1 v2 (h + 20) (kt6_11 hZ hh) σ) co0 (kt6_0 hZ hh) gcX6_130 hyX0_addPiece rfl ⟨by decide, by decide⟩ rfl (Nat.le_of_ble_eq_true rfl) (fun r10 s11 => ?_)
    refine V_goto (tgt := 154) X dX6_addLine_18 (by decide) ?_
    exact V_vret X E hr dX6_addLine_154
theorem kX6_addLine (l : Launch) (z : Sx) (hZ : z.2.2.2.1 = kdC) (N : Nat) (h : Nat) (hh : z.2.2.2.1 h = (6, 0)) (v1 : Int32) (v2 : Int32) (σ : Mem) : Ct QV yX6_addLine cX6_addLine 3 none 1 24 l z [.ref (z.2.2.1 h), .int v1, .int v2] σ (fX6_addLine N h v1 v2 σ) := by
  refine Ct_of (by decide +kernel) (Nat.le_of_ble_eq_true rfl) rfl ?_
  intro x _ X E hr
  exact bX6_addLine_0 X E hr hZ N h hh v1 v2 σ
def fX0_hasPiece (N : Nat) (h : Nat) (v1 : Int32) (σ : Mem) : Option (Int32 × Mem) :=
  if v1 < 0 then some (0, σ) else if (σ.1 h 0) ≤ v1 then some (0, σ) else some (1, σ)
set_option maxRecDepth 100000 in
set_option maxHeartbeats 4000000 in
theorem bX0_hasPiece_0 {x : Cx} {z : Sx} (X : XG x z RX0 cX0_hasPiece 2 0 0) (E : XE x z) (hr : XR x (some .boolean)) (hZ : z.2.2.2.1 = kdC) (N : Nat) (h : Nat) (hh : z.2.2.2.1 h = (0, 0)) (v1 : Int32) (σ : Mem) : VK x z 2 (BQ QI x z) 0 [(0, .ref (z.2.2.1 h)), (1, .int v1)] [] σ (fX0_hasPiece N h v1 σ) := by
  unfold fX0_hasPiece
  refine V_iload_n 1 X dX0_hasPiece_0 rfl rfl ?_
  refine V_if_lt (tgt := 16) X dX0_hasPiece_1 (by decide) ?_ ?_
  · refine V_iconst (v := 0) X dX0_hasPiece_16 (by decide) ?_
    exact V_zret X E hr dX0_hasPiece_17 (by decide)
  · refine V_iload_n 1 X dX0_hasPiece_4 rfl rfl ?_
    refine V_aload_n 0 X dX0_hasPiece_5 rfl rfl ?_
    refine V_getI 0 X dX0_hasPiece_6 co0 hh (by decide) rfl wfX0_40 ?_
    refine V_icmp_ge (tgt := 16) X dX0_hasPiece_9 (by decide) ?_ ?_
    · refine V_iconst (v := 0) X dX0_hasPiece_16 (by decide) ?_
      exact V_zret X E hr dX0_hasPiece_17 (by decide)
    · refine V_iconst (v := 1) X dX0_hasPiece_12 (by decide) ?_
      refine V_goto (tgt := 17) X dX0_hasPiece_13 (by decide) ?_
      exact V_zret X E hr dX0_hasPiece_17 (by decide)
theorem kX0_hasPiece (l : Launch) (z : Sx) (hZ : z.2.2.2.1 = kdC) (N : Nat) (h : Nat) (hh : z.2.2.2.1 h = (0, 0)) (v1 : Int32) (σ : Mem) : Ct QI yX0_hasPiece cX0_hasPiece 2 (some .boolean) 0 0 l z [.ref (z.2.2.1 h), .int v1] σ (fX0_hasPiece N h v1 σ) := by
  refine Ct_of (by decide +kernel) (Nat.le_of_ble_eq_true rfl) rfl ?_
  intro x _ X E hr
  exact bX0_hasPiece_0 X E hr hZ N h hh v1 σ
def fX0_hasLostSeat_b36 (N : Nat) (h : Nat) (rc2 : Int32 → Mem → Option (Int32 × Mem)) (v1 : Int32) (σ : Mem) : Option (Int32 × Mem) :=
  lt_ (v1 + 1) (fun v1_4 => rc2 v1_4 σ)
set_option maxRecDepth 100000 in
set_option maxHeartbeats 4000000 in
theorem bX0_hasLostSeat_36 {x : Cx} {z : Sx} (X : XG x z RX0 cX0_hasLostSeat 2 1 21) (E : XE x z) (hr : XR x (some .boolean)) (hZ : z.2.2.2.1 = kdC) (N : Nat) (h : Nat) (hh : z.2.2.2.1 h = (0, 0)) (rc2 : Int32 → Mem → Option (Int32 × Mem)) (hc2 : ∀ (v1 : Int32) (σ : Mem), VK x z 2 (BQ QI x z) 2 [(0, .ref (z.2.2.1 h)), (1, .int v1)] [] σ (rc2 v1 σ)) (v1 : Int32) (σ : Mem) : VK x z 2 (BQ QI x z) 36 [(0, .ref (z.2.2.1 h)), (1, .int v1)] [] σ (fX0_hasLostSeat_b36 N h rc2 v1 σ) := by
  unfold fX0_hasLostSeat_b36
  refine V_iincG (L' := fun v1_4 => [(1, .int v1_4), (0, .ref (z.2.2.1 h))]) 1 X dX0_hasLostSeat_36 rfl rfl (by decide) (fun _ => rfl) (fun v1_4 => ?_)
  refine V_goto (tgt := 2) X dX0_hasLostSeat_39 (by decide) ?_
  refine V_sub [1, 0] rfl ?_
  exact hc2 v1_4 σ
def fX0_hasLostSeat_b2 (N : Nat) (h : Nat) (rc2 : Int32 → Mem → Option (Int32 × Mem)) (v1 : Int32) (σ : Mem) : Option (Int32 × Mem) :=
  if (σ.1 h 1) ≤ v1 then some (0, σ) else gd (inb v1 6) (if (σ.1 (h + 8) v1.toNatClampNeg) = 8 then fX0_hasLostSeat_b36 N h rc2 v1 σ else gd (inb v1 6) (bd (fX0_hasPiece N h (σ.1 (h + 8) v1.toNatClampNeg) σ) (fun r2 s3 => if r2 = 0 then some (1, s3) else fX0_hasLostSeat_b36 N h rc2 v1 s3)))
set_option maxRecDepth 100000 in
set_option maxHeartbeats 4000000 in
theorem bX0_hasLostSeat_2 {x : Cx} {z : Sx} (X : XG x z RX0 cX0_hasLostSeat 2 1 21) (E : XE x z) (hr : XR x (some .boolean)) (hZ : z.2.2.2.1 = kdC) (N : Nat) (h : Nat) (hh : z.2.2.2.1 h = (0, 0)) (rc2 : Int32 → Mem → Option (Int32 × Mem)) (hc2 : ∀ (v1 : Int32) (σ : Mem), VK x z 2 (BQ QI x z) 2 [(0, .ref (z.2.2.1 h)), (1, .int v1)] [] σ (rc2 v1 σ)) (v1 : Int32) (σ : Mem) : VK x z 2 (BQ QI x z) 2 [(0, .ref (z.2.2.1 h)), (1, .int v1)] [] σ (fX0_hasLostSeat_b2 N h rc2 v1 σ) := by
  unfold fX0_hasLostSeat_b2
  refine V_iload_n 1 X dX0_hasLostSeat_2 rfl rfl ?_
  refine V_aload_n 0 X dX0_hasLostSeat_3 rfl rfl ?_
  refine V_getI 1 X dX0_hasLostSeat_4 co0 hh (by decide) rfl wfX0_43 ?_
  refine V_icmp_ge (tgt := 42) X dX0_hasLostSeat_7 (by decide) ?_ ?_
  · refine V_iconst (v := 0) X dX0_hasLostSeat_42 (by decide) ?_
    exact V_zret X E hr dX0_hasLostSeat_43 (by decide)
  · refine V_aload_n 0 X dX0_hasLostSeat_10 rfl rfl ?_
    refine V_getR (k1 := (h + 8)) 10 X dX0_hasLostSeat_11 co0 hh (by decide) rfl rfl wfX0_37 ?_
    refine V_iload_n 1 X dX0_hasLostSeat_14 rfl rfl ?_
    refine V_iald X dX0_hasLostSeat_15 (kt0_10 hZ hh) ?_
    refine V_bipush (v := 8) X dX0_hasLostSeat_16 (by decide) ?_
    refine V_icmp_eq (tgt := 36) X dX0_hasLostSeat_18 (by decide) ?_ ?_
    · refine V_sub [0, 1] rfl ?_
      exact bX0_hasLostSeat_36 X E hr hZ N h hh rc2 hc2 v1 σ
    · refine V_aload_n 0 X dX0_hasLostSeat_21 rfl rfl ?_
      refine V_aload_n 0 X dX0_hasLostSeat_22 rfl rfl ?_
      refine V_getR (k1 := (h + 8)) 10 X dX0_hasLostSeat_23 co0 hh (by decide) rfl rfl wfX0_37 ?_
      refine V_iload_n 1 X dX0_hasLostSeat_26 rfl rfl ?_
      refine V_iald X dX0_hasLostSeat_27 (kt0_10 hZ hh) ?_
      refine V_callI [.int (σ.1 (h + 8) v1.toNatClampNeg)] [] X E dX0_hasLostSeat_28 (kX0_hasPiece x.2.1 z hZ N h hh (σ.1 (h + 8) v1.toNatClampNeg) σ) co0 hh gcX0_46 hyX0_hasPiece rfl ⟨by decide, by decide⟩ rfl (Nat.le_of_ble_eq_true rfl) (fun r2 s3 => ?_)
      refine V_if_ne (tgt := 36) X dX0_hasLostSeat_31 (by decide) ?_ ?_
      · refine V_sub [0, 1] rfl ?_
        exact bX0_hasLostSeat_36 X E hr hZ N h hh rc2 hc2 v1 s3
      · refine V_iconst (v := 1) X dX0_hasLostSeat_34 (by decide) ?_
        exact V_zret X E hr dX0_hasLostSeat_35 (by decide)
def fX0_hasLostSeat_l2 (N : Nat) (h : Nat) : Nat → Int32 → Mem → Option (Int32 × Mem)
  | 0 => fun _ _ => none
  | n + 1 => fX0_hasLostSeat_b2 N h (fX0_hasLostSeat_l2 N h n)
theorem lX0_hasLostSeat_2 {x : Cx} {z : Sx} (X : XG x z RX0 cX0_hasLostSeat 2 1 21) (E : XE x z) (hr : XR x (some .boolean)) (hZ : z.2.2.2.1 = kdC) (N : Nat) (h : Nat) (hh : z.2.2.2.1 h = (0, 0)) (n : Nat) (v1 : Int32) (σ : Mem) : VK x z 2 (BQ QI x z) 2 [(0, .ref (z.2.2.1 h)), (1, .int v1)] [] σ (fX0_hasLostSeat_l2 N h n v1 σ) := by
  induction n generalizing v1 σ with
  | zero => exact V_none
  | succ n ih => exact bX0_hasLostSeat_2 X E hr hZ N h hh (fX0_hasLostSeat_l2 N h n) ih v1 σ
def fX0_hasLostSeat (N : Nat) (h : Nat) (σ : Mem) : Option (Int32 × Mem) :=
  lt_ 0 (fun v1_1 => fX0_hasLostSeat_l2 N h N v1_1 σ)
set_option maxRecDepth 100000 in
set_option maxHeartbeats 4000000 in
theorem bX0_hasLostSeat_0 {x : Cx} {z : Sx} (X : XG x z RX0 cX0_hasLostSeat 2 1 21) (E : XE x z) (hr : XR x (some .boolean)) (hZ : z.2.2.2.1 = kdC) (N : Nat) (h : Nat) (hh : z.2.2.2.1 h = (0, 0)) (σ : Mem) : VK x z 2 (BQ QI x z) 0 [(0, .ref (z.2.2.1 h))] [] σ (fX0_hasLostSeat N h σ) := by
  unfold fX0_hasLostSeat
  refine V_iconst (v := 0) X dX0_hasLostSeat_0 (by decide) ?_
  refine V_istore_nG (L' := fun v1_1 => [(1, .int v1_1), (0, .ref (z.2.2.1 h))]) X dX0_hasLostSeat_1 rfl (by decide) (fun _ => rfl) (fun v1_1 => ?_)
  refine V_sub [1, 0] rfl ?_
  exact lX0_hasLostSeat_2 X E hr hZ N h hh N v1_1 σ
theorem kX0_hasLostSeat (l : Launch) (z : Sx) (hZ : z.2.2.2.1 = kdC) (N : Nat) (h : Nat) (hh : z.2.2.2.1 h = (0, 0)) (σ : Mem) : Ct QI yX0_hasLostSeat cX0_hasLostSeat 2 (some .boolean) 1 21 l z [.ref (z.2.2.1 h)] σ (fX0_hasLostSeat N h σ) := by
  refine Ct_of (by decide +kernel) (Nat.le_of_ble_eq_true rfl) rfl ?_
  intro x _ X E hr
  exact bX0_hasLostSeat_0 X E hr hZ N h hh σ
