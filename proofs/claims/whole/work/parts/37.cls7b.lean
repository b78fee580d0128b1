def fX7_seatOneBest (N : Nat) (h : Nat) (v1 : Nat) (v2 : Int32) (v3 : Int32) (σ : Mem) : Option (Int32 × Mem) :=
  bd (fX2_enter N (h + 2) v1 σ) (fun r1 s2 => bd (fX7_seatBest N h v3 v2 s2) (fun r3 s4 => some (r3, s4)))
set_option maxRecDepth 100000 in
set_option maxHeartbeats 4000000 in
theorem bX7_seatOneBest_0 {x : Cx} {z : Sx} (X : XG x z RX7 cX7_seatOneBest 4 5 121) (E : XE x z) (hr : XR x (some .int)) (hZ : z.2.2.2.1 = kdC) (N : Nat) (h : Nat) (hh : z.2.2.2.1 h = (7, 0)) (v1 : Nat) (v2 : Int32) (v3 : Int32) (hk1 : z.2.2.2.1 v1 = (0, 0)) (σ : Mem) : VK x z 4 (BQ QI x z) 0 [(0, .ref (z.2.2.1 h)), (1, .ref (z.2.2.1 v1)), (2, .int v2), (3, .int v3)] [] σ (fX7_seatOneBest N h v1 v2 v3 σ) := by
  unfold fX7_seatOneBest
  refine V_aload_n 0 X dX7_seatOneBest_0 rfl rfl ?_
  refine V_getR (k1 := (h + 2)) 1 X dX7_seatOneBest_1 co7 hh (by decide) rfl rfl wfX7_18 ?_
  refine V_aload_n 1 X dX7_seatOneBest_4 rfl rfl ?_
  refine V_callV [.ref (z.2.2.1 v1)] [] X E dX7_seatOneBest_5 (kX2_enter x.2.1 z hZ N (h + 2) (kt7_1 hZ hh) v1 hk1 σ) co2 (kt7_1 hZ hh) gcX7_22 hyX2_enter rfl ⟨by decide, by decide⟩ rfl (Nat.le_of_ble_eq_true rfl) (fun r1 s2 => ?_)
  refine V_aload_n 0 X dX7_seatOneBest_8 rfl rfl ?_
  refine V_iload_n 3 X dX7_seatOneBest_9 rfl rfl ?_
  refine V_iload_n 2 X dX7_seatOneBest_10 rfl rfl ?_
  refine V_callI [.int v3, .int v2] [] X E dX7_seatOneBest_11 (kX7_seatBest x.2.1 z hZ N h hh v3 v2 s2) co7 hh gcX7_71 hyX7_seatBest rfl ⟨by decide, by decide⟩ rfl (Nat.le_of_ble_eq_true rfl) (fun r3 s4 => ?_)
  exact V_iret X E hr dX7_seatOneBest_14
theorem kX7_seatOneBest (l : Launch) (z : Sx) (hZ : z.2.2.2.1 = kdC) (N : Nat) (h : Nat) (hh : z.2.2.2.1 h = (7, 0)) (v1 : Nat) (v2 : Int32) (v3 : Int32) (hk1 : z.2.2.2.1 v1 = (0, 0)) (σ : Mem) : Ct QI yX7_seatOneBest cX7_seatOneBest 4 (some .int) 5 121 l z [.ref (z.2.2.1 h), .ref (z.2.2.1 v1), .int v2, .int v3] σ (fX7_seatOneBest N h v1 v2 v3 σ) := by
  refine Ct_of (by decide +kernel) (Nat.le_of_ble_eq_true rfl) rfl ?_
  intro x _ X E hr
  exact bX7_seatOneBest_0 X E hr hZ N h hh v1 v2 v3 hk1 σ
def fX11_place (N : Nat) (h : Nat) (v1 : Int32) (v2 : Int32) (v3 : Int32) (v4 : Int32) (σ : Mem) : Option (Int32 × Mem) :=
  bd (fX11_asked N h v1 v2 σ) (fun or1 s2 => mqK (0, 0) or1 (some ((-1000), s2)) (fun r1 => bd (fX0_hasPerson N r1 v3 s2) (fun r4 s5 => if r4 = 0 then some ((-1000), s5) else bd (fX7_seatOneBest N (h + 236) r1 v2 v3 s5) (fun r6 s7 => lt_ r6 (fun v6_8 => if v4 = 0 then bd (fX7_seatOf N (h + 236) v3 s7) (fun r9 s10 => some (r9, s10)) else some (v6_8, s7))))))
set_option maxRecDepth 100000 in
set_option maxHeartbeats 4000000 in
theorem bX11_place_0 {x : Cx} {z : Sx} (X : XG x z RX11 cX11_place 7 6 144) (E : XE x z) (hr : XR x (some .int)) (hZ : z.2.2.2.1 = kdC) (N : Nat) (h : Nat) (hh : z.2.2.2.1 h = (11, 0)) (v1 : Int32) (v2 : Int32) (v3 : Int32) (v4 : Int32) (σ : Mem) : VK x z 7 (BQ QI x z) 0 [(0, .ref (z.2.2.1 h)), (1, .int v1), (2, .int v2), (3, .int v3), (4, .int v4)] [] σ (fX11_place N h v1 v2 v3 v4 σ) := by
  unfold fX11_place
  refine V_aload_n 0 X dX11_place_0 rfl rfl ?_
  refine V_iload_n 1 X dX11_place_1 rfl rfl ?_
  refine V_iload_n 2 X dX11_place_2 rfl rfl ?_
  refine V_callQC (K := (0, 0)) [.int v1, .int v2] [] X E hZ dX11_place_3 (kX11_asked x.2.1 z hZ N h hh v1 v2 σ) co11 hh gcX11_115 hyX11_asked rfl ⟨by decide, by decide⟩ rfl (Nat.le_of_ble_eq_true rfl) (fun s2 => ?_) (fun r1 s2 hb3 => ?_)
  · refine V_astoreN (L' := [(5, .null), (0, .ref (z.2.2.1 h)), (1, .int v1), (2, .int v2), (3, .int v3), (4, .int v4)]) X dX11_place_6 (by decide) rfl ?_
    refine V_aloadN 0 X dX11_place_8 rfl ?_
    refine V_ifnullN (tgt := 22) X dX11_place_10 (by decide) ?_
    refine V_sipush (v := -1000) X dX11_place_22 (by decide) ?_
    exact V_iret X E hr dX11_place_25
  · refine V_astore (L' := [(5, .ref (z.2.2.1 r1)), (0, .ref (z.2.2.1 h)), (1, .int v1), (2, .int v2), (3, .int v3), (4, .int v4)]) X dX11_place_6 (by decide) rfl ?_
    refine V_aload 0 X dX11_place_8 rfl ?_
    refine V_ifnull X dX11_place_10 ?_
    refine V_aload 0 X dX11_place_13 rfl ?_
    refine V_iload_n 4 X dX11_place_15 rfl rfl ?_
    refine V_callI [.int v3] [] X E dX11_place_16 (kX0_hasPerson x.2.1 z hZ N r1 hb3 v3 s2) co0 hb3 gcX11_345 hyX0_hasPerson rfl ⟨by decide, by decide⟩ rfl (Nat.le_of_ble_eq_true rfl) (fun r4 s5 => ?_)
    refine V_if_ne (tgt := 26) X dX11_place_19 (by decide) ?_ ?_
    · refine V_aload_n 1 X dX11_place_26 rfl rfl ?_
      refine V_getR (k1 := (h + 236)) 7 X dX11_place_27 co11 hh (by decide) rfl rfl wfX11_55 ?_
      refine V_aload 0 X dX11_place_30 rfl ?_
      refine V_iload_n 3 X dX11_place_32 rfl rfl ?_
      refine V_iload_n 4 X dX11_place_33 rfl rfl ?_
      refine V_callI [.ref (z.2.2.1 r1), .int v2, .int v3] [] X E dX11_place_34 (kX7_seatOneBest x.2.1 z hZ N (h + 236) (kt11_7 hZ hh) r1 v2 v3 hb3 s5) co7 (kt11_7 hZ hh) gcX11_348 hyX7_seatOneBest rfl ⟨by decide, by decide⟩ rfl (Nat.le_of_ble_eq_true rfl) (fun r6 s7 => ?_)
      refine V_istoreG (L' := fun v6_8 => [(6, .int v6_8), (5, .ref (z.2.2.1 r1)), (0, .ref (z.2.2.1 h)), (1, .int v1), (2, .int v2), (3, .int v3), (4, .int v4)]) X dX11_place_37 (by decide) (fun _ => rfl) (fun v6_8 => ?_)
      refine V_iload 6 X dX11_place_39 rfl ?_
      refine V_if_eq (tgt := 49) X dX11_place_41 (by decide) ?_ ?_
      · refine V_aload_n 2 X dX11_place_49 rfl rfl ?_
        refine V_getR (k1 := (h + 236)) 7 X dX11_place_50 co11 hh (by decide) rfl rfl wfX11_55 ?_
        refine V_iload_n 5 X dX11_place_53 rfl rfl ?_
        refine V_callI [.int v3] [] X E dX11_place_54 (kX7_seatOf x.2.1 z hZ N (h + 236) (kt11_7 hZ hh) v3 s7) co7 (kt11_7 hZ hh) gcX11_277 hyX7_seatOf rfl ⟨by decide, by decide⟩ rfl (Nat.le_of_ble_eq_true rfl) (fun r9 s10 => ?_)
        exact V_iret X E hr dX11_place_57
      · refine V_iload 0 X dX11_place_44 rfl ?_
        refine V_goto (tgt := 57) X dX11_place_46 (by decide) ?_
        exact V_iret X E hr dX11_place_57
    · refine V_sipush (v := -1000) X dX11_place_22 (by decide) ?_
      exact V_iret X E hr dX11_place_25
theorem kX11_place (l : Launch) (z : Sx) (hZ : z.2.2.2.1 = kdC) (N : Nat) (h : Nat) (hh : z.2.2.2.1 h = (11, 0)) (v1 : Int32) (v2 : Int32) (v3 : Int32) (v4 : Int32) (σ : Mem) : Ct QI yX11_place cX11_place 7 (some .int) 6 144 l z [.ref (z.2.2.1 h), .int v1, .int v2, .int v3, .int v4] σ (fX11_place N h v1 v2 v3 v4 σ) := by
  refine Ct_of (by decide +kernel) (Nat.le_of_ble_eq_true rfl) rfl ?_
  intro x _ X E hr
  exact bX11_place_0 X E hr hZ N h hh v1 v2 v3 v4 σ
def fX3_loudestPiece_b51 (N : Nat) (h : Nat) (rc16 : Nat → Int32 → Int32 → Int32 → Int32 → Mem → Option (Int32 × Mem)) (v1 : Nat) (v2 : Int32) (v3 : Int32) (v4 : Int32) (v5 : Int32) (σ : Mem) : Option (Int32 × Mem) :=
  lt_ (v5 + 1) (fun v5_11 => rc16 v1 v2 v3 v4 v5_11 σ)
set_option maxRecDepth 100000 in
set_option maxHeartbeats 4000000 in
theorem bX3_loudestPiece_51 {x : Cx} {z : Sx} (X : XG x z RX3 cX3_loudestPiece 7 3 69) (E : XE x z) (hr : XR x (some .int)) (hZ : z.2.2.2.1 = kdC) (N : Nat) (h : Nat) (hh : z.2.2.2.1 h = (3, 0)) (rc16 : Nat → Int32 → Int32 → Int32 → Int32 → Mem → Option (Int32 × Mem)) (hc16 : ∀ (v1 : Nat) (v2 : Int32) (v3 : Int32) (v4 : Int32) (v5 : Int32) (hk1 : z.2.2.2.1 v1 = (0, 0)) (σ : Mem), VK x z 7 (BQ QI x z) 16 [(0, .ref (z.2.2.1 h)), (1, .ref (z.2.2.1 v1)), (2, .int v2), (3, .int v3), (4, .int v4), (5, .int v5)] [] σ (rc16 v1 v2 v3 v4 v5 σ)) (v1 : Nat) (v2 : Int32) (v3 : Int32) (v4 : Int32) (v5 : Int32) (hk1 : z.2.2.2.1 v1 = (0, 0)) (σ : Mem) : VK x z 7 (BQ QI x z) 51 [(0, .ref (z.2.2.1 h)), (1, .ref (z.2.2.1 v1)), (2, .int v2), (3, .int v3), (4, .int v4), (5, .int v5)] [] σ (fX3_loudestPiece_b51 N h rc16 v1 v2 v3 v4 v5 σ) := by
  unfold fX3_loudestPiece_b51
  refine V_iincG (L' := fun v5_11 => [(5, .int v5_11), (0, .ref (z.2.2.1 h)), (1, .ref (z.2.2.1 v1)), (2, .int v2), (3, .int v3), (4, .int v4)]) 5 X dX3_loudestPiece_51 rfl rfl (by decide) (fun _ => rfl) (fun v5_11 => ?_)
  refine V_goto (tgt := 16) X dX3_loudestPiece_54 (by decide) ?_
  refine V_sub [1, 2, 3, 4, 5, 0] rfl ?_
  exact hc16 v1 v2 v3 v4 v5_11 hk1 σ
def fX3_loudestPiece_b16 (N : Nat) (h : Nat) (rc16 : Nat → Int32 → Int32 → Int32 → Int32 → Mem → Option (Int32 × Mem)) (v1 : Nat) (v2 : Int32) (v3 : Int32) (v4 : Int32) (v5 : Int32) (σ : Mem) : Option (Int32 × Mem) :=
  if (σ.1 v1 0) ≤ v5 then some (v3, σ) else bd (fX2_loud N (h + 2) v5 v2 σ) (fun r6 s7 => lt_ r6 (fun v6_8 => if v6_8 ≤ v4 then fX3_loudestPiece_b51 N h rc16 v1 v2 v3 v4 v5 s7 else lt_ v6_8 (fun v4_9 => lt_ v5 (fun v3_10 => fX3_loudestPiece_b51 N h rc16 v1 v2 v3_10 v4_9 v5 s7))))
set_option maxRecDepth 100000 in
set_option maxHeartbeats 4000000 in
theorem bX3_loudestPiece_16 {x : Cx} {z : Sx} (X : XG x z RX3 cX3_loudestPiece 7 3 69) (E : XE x z) (hr : XR x (some .int)) (hZ : z.2.2.2.1 = kdC) (N : Nat) (h : Nat) (hh : z.2.2.2.1 h = (3, 0)) (rc16 : Nat → Int32 → Int32 → Int32 → Int32 → Mem → Option (Int32 × Mem)) (hc16 : ∀ (v1 : Nat) (v2 : Int32) (v3 : Int32) (v4 : Int32) (v5 : Int32) (hk1 : z.2.2.2.1 v1 = (0, 0)) (σ : Mem), VK x z 7 (BQ QI x z) 16 [(0, .ref (z.2.2.1 h)), (1, .ref (z.2.2.1 v1)), (2, .int v2), (3, .int v3), (4, .int v4), (5, .int v5)] [] σ (rc16 v1 v2 v3 v4 v5 σ)) (v1 : Nat) (v2 : Int32) (v3 : Int32) (v4 : Int32) (v5 : Int32) (hk1 : z.2.2.2.1 v1 = (0, 0)) (σ : Mem) : VK x z 7 (BQ QI x z) 16 [(0, .ref (z.2.2.1 h)), (1, .ref (z.2.2.1 v1)), (2, .int v2), (3, .int v3), (4, .int v4), (5, .int v5)] [] σ (fX3_loudestPiece_b16 N h rc16 v1 v2 v3 v4 v5 σ) := by
  unfold fX3_loudestPiece_b16
  refine V_iload 5 X dX3_loudestPiece_16 rfl ?_
  refine V_aload_n 1 X dX3_loudestPiece_18 rfl rfl ?_
  refine V_getI 0 X dX3_loudestPiece_19 co0 hk1 (by decide) rfl wfX3_44 ?_
  refine V_icmp_ge (tgt := 57) X dX3_loudestPiece_22 (by decide) ?_ ?_
  · refine V_iload_n 3 X dX3_loudestPiece_57 rfl rfl ?_
    exact V_iret X E hr dX3_loudestPiece_58
  · refine V_aload_n 0 X dX3_loudestPiece_25 rfl rfl ?_
    refine V_getR (k1 := (h + 2)) 1 X dX3_loudestPiece_26 co3 hh (by decide) rfl rfl wfX3_18 ?_
    refine V_iload 5 X dX3_loudestPiece_29 rfl ?_
    refine V_iload_n 2 X dX3_loudestPiece_31 rfl rfl ?_
    refine V_callI [.int v5, .int v2] [] X E dX3_loudestPiece_32 (kX2_loud x.2.1 z hZ N (h + 2) (kt3_1 hZ hh) v5 v2 σ) co2 (kt3_1 hZ hh) gcX3_93 hyX2_loud rfl ⟨by decide, by decide⟩ rfl (Nat.le_of_ble_eq_true rfl) (fun r6 s7 => ?_)
    refine V_istoreG (L' := fun v6_8 => [(6, .int v6_8), (0, .ref (z.2.2.1 h)), (1, .ref (z.2.2.1 v1)), (2, .int v2), (3, .int v3), (4, .int v4), (5, .int v5)]) X dX3_loudestPiece_35 (by decide) (fun _ => rfl) (fun v6_8 => ?_)
    refine V_iload 0 X dX3_loudestPiece_37 rfl ?_
    refine V_iload 5 X dX3_loudestPiece_39 rfl ?_
    refine V_icmp_le (tgt := 51) X dX3_loudestPiece_41 (by decide) ?_ ?_
    · refine V_sub [1, 2, 3, 4, 5, 6] rfl ?_
      exact bX3_loudestPiece_51 X E hr hZ N h hh rc16 hc16 v1 v2 v3 v4 v5 hk1 s7
    · refine V_iload 0 X dX3_loudestPiece_44 rfl ?_
      refine V_istoreG (L' := fun v4_9 => [(4, .int v4_9), (6, .int v6_8), (0, .ref (z.2.2.1 h)), (1, .ref (z.2.2.1 v1)), (2, .int v2), (3, .int v3), (5, .int v5)]) X dX3_loudestPiece_46 (by decide) (fun _ => rfl) (fun v4_9 => ?_)
      refine V_iload 6 X dX3_loudestPiece_48 rfl ?_
      refine V_istore_nG (L' := fun v3_10 => [(3, .int v3_10), (4, .int v4_9), (6, .int v6_8), (0, .ref (z.2.2.1 h)), (1, .ref (z.2.2.1 v1)), (2, .int v2), (5, .int v5)]) X dX3_loudestPiece_50 rfl (by decide) (fun _ => rfl) (fun v3_10 => ?_)
      refine V_sub [3, 4, 5, 0, 1, 6] rfl ?_
      exact bX3_loudestPiece_51 X E hr hZ N h hh rc16 hc16 v1 v2 v3_10 v4_9 v5 hk1 s7
def fX3_loudestPiece_l16 (N : Nat) (h : Nat) : Nat → Nat → Int32 → Int32 → Int32 → Int32 → Mem → Option (Int32 × Mem)
  | 0 => fun _ _ _ _ _ _ => none
  | n + 1 => fX3_loudestPiece_b16 N h (fX3_loudestPiece_l16 N h n)
theorem lX3_loudestPiece_16 {x : Cx} {z : Sx} (X : XG x z RX3 cX3_loudestPiece 7 3 69) (E : XE x z) (hr : XR x (some .int)) (hZ : z.2.2.2.1 = kdC) (N : Nat) (h : Nat) (hh : z.2.2.2.1 h = (3, 0)) (n : Nat) (v1 : Nat) (v2 : Int32) (v3 : Int32) (v4 : Int32) (v5 : Int32) (hk1 : z.2.2.2.1 v1 = (0, 0)) (σ : Mem) : VK x z 7 (BQ QI x z) 16 [(0, .ref (z.2.2.1 h)), (1, .ref (z.2.2.1 v1)), (2, .int v2), (3, .int v3), (4, .int v4), (5, .int v5)] [] σ (fX3_loudestPiece_l16 N h n v1 v2 v3 v4 v5 σ) := by
  induction n generalizing v1 v2 v3 v4 v5 hk1 σ with
  | zero => exact V_none
  | succ n ih => exact bX3_loudestPiece_16 X E hr hZ N h hh (fX3_loudestPiece_l16 N h n) ih v1 v2 v3 v4 v5 hk1 σ
def fX3_loudestPiece (N : Nat) (h : Nat) (v1 : Nat) (v2 : Int32) (σ : Mem) : Option (Int32 × Mem) :=
  bd (fX2_enter N (h + 2) v1 σ) (fun r1 s2 => lt_ (-1) (fun v3_3 => lt_ (-1) (fun v4_4 => lt_ 0 (fun v5_5 => fX3_loudestPiece_l16 N h N v1 v2 v3_3 v4_4 v5_5 s2))))
set_option maxRecDepth 100000 in
set_option maxHeartbeats 4000000 in
theorem bX3_loudestPiece_0 {x : Cx} {z : Sx} (X : XG x z RX3 cX3_loudestPiece 7 3 69) (E : XE x z) (hr : XR x (some .int)) (hZ : z.2.2.2.1 = kdC) (N : Nat) (h : Nat) (hh : z.2.2.2.1 h = (3, 0)) (v1 : Nat) (v2 : Int32) (hk1 : z.2.2.2.1 v1 = (0, 0)) (σ : Mem) : VK x z 7 (BQ QI x z) 0 [(0, .ref (z.2.2.1 h)), (1, .ref (z.2.2.1 v1)), (2, .int v2)] [] σ (fX3_loudestPiece N h v1 v2 σ) := by
  unfold fX3_loudestPiece
  refine V_aload_n 0 X dX3_loudestPiece_0 rfl rfl ?_
  refine V_getR (k1 := (h + 2)) 1 X dX3_loudestPiece_1 co3 hh (by decide) rfl rfl wfX3_18 ?_
  refine V_aload_n 1 X dX3_loudestPiece_4 rfl rfl ?_
  refine V_callV [.ref (z.2.2.1 v1)] [] X E dX3_loudestPiece_5 (kX2_enter x.2.1 z hZ N (h + 2) (kt3_1 hZ hh) v1 hk1 σ) co2 (kt3_1 hZ hh) gcX3_22 hyX2_enter rfl ⟨by decide, by decide⟩ rfl (Nat.le_of_ble_eq_true rfl) (fun r1 s2 => ?_)
  refine V_iconst (v := -1) X dX3_loudestPiece_8 (by decide) ?_
  refine V_istore_nG (L' := fun v3_3 => [(3, .int v3_3), (0, .ref (z.2.2.1 h)), (1, .ref (z.2.2.1 v1)), (2, .int v2)]) X dX3_loudestPiece_9 rfl (by decide) (fun _ => rfl) (fun v3_3 => ?_)
  refine V_iconst (v := -1) X dX3_loudestPiece_10 (by decide) ?_
  refine V_istoreG (L' := fun v4_4 => [(4, .int v4_4), (3, .int v3_3), (0, .ref (z.2.2.1 h)), (1, .ref (z.2.2.1 v1)), (2, .int v2)]) X dX3_loudestPiece_11 (by decide) (fun _ => rfl) (fun v4_4 => ?_)
  refine V_iconst (v := 0) X dX3_loudestPiece_13 (by decide) ?_
  refine V_istoreG (L' := fun v5_5 => [(5, .int v5_5), (4, .int v4_4), (3, .int v3_3), (0, .ref (z.2.2.1 h)), (1, .ref (z.2.2.1 v1)), (2, .int v2)]) X dX3_loudestPiece_14 (by decide) (fun _ => rfl) (fun v5_5 => ?_)
  refine V_sub [3, 4, 5, 2, 1, 0] rfl ?_
  exact lX3_loudestPiece_16 X E hr hZ N h hh N v1 v2 v3_3 v4_4 v5_5 hk1 s2
theorem kX3_loudestPiece (l : Launch) (z : Sx) (hZ : z.2.2.2.1 = kdC) (N : Nat) (h : Nat) (hh : z.2.2.2.1 h = (3, 0)) (v1 : Nat) (v2 : Int32) (hk1 : z.2.2.2.1 v1 = (0, 0)) (σ : Mem) : Ct QI yX3_loudestPiece cX3_loudestPiece 7 (some .int) 3 69 l z [.ref (z.2.2.1 h), .ref (z.2.2.1 v1), .int v2] σ (fX3_loudestPiece N h v1 v2 σ) := by
  refine Ct_of (by decide +kernel) (Nat.le_of_ble_eq_true rfl) rfl ?_
  intro x _ X E hr
  exact bX3_loudestPiece_0 X E hr hZ N h hh v1 v2 hk1 σ
def fX3_hinges_b80 (N : Nat) (h : Nat) (rc31 : Nat → Int32 → Int32 → Int32 → Int32 → Mem → Option (Int32 × Mem)) (v1 : Nat) (v2 : Int32) (v3 : Int32) (v4 : Int32) (v5 : Int32) (σ : Mem) : Option (Int32 × Mem) :=
  lt_ (v5 + 1) (fun v5_12 => rc31 v1 v2 v3 v4 v5_12 σ)
set_option maxRecDepth 100000 in
set_option maxHeartbeats 4000000 in
theorem bX3_hinges_80 {x : Cx} {z : Sx} (X : XG x z RX3 cX3_hinges 6 4 95) (E : XE x z) (hr : XR x (some .int)) (hZ : z.2.2.2.1 = kdC) (N : Nat) (h : Nat) (hh : z.2.2.2.1 h = (3, 0)) (rc31 : Nat → Int32 → Int32 → Int32 → Int32 → Mem → Option (Int32 × Mem)) (hc31 : ∀ (v1 : Nat) (v2 : Int32) (v3 : Int32) (v4 : Int32) (v5 : Int32) (hk1 : z.2.2.2.1 v1 = (0, 0)) (σ : Mem), VK x z 6 (BQ QI x z) 31 [(0, .ref (z.2.2.1 h)), (1, .ref (z.2.2.1 v1)), (2, .int v2), (3, .int v3), (4, .int v4), (5, .int v5)] [] σ (rc31 v1 v2 v3 v4 v5 σ)) (v1 : Nat) (v2 : Int32) (v3 : Int32) (v4 : Int32) (v5 : Int32) (hk1 : z.2.2.2.1 v1 = (0, 0)) (σ : Mem) : VK x z 6 (BQ QI x z) 80 [(0, .ref (z.2.2.1 h)), (1, .ref (z.2.2.1 v1)), (2, .int v2), (3, .int v3), (4, .int v4), (5, .int v5)] [] σ (fX3_hinges_b80 N h rc31 v1 v2 v3 v4 v5 σ) := by
  unfold fX3_hinges_b80
  refine V_iincG (L' := fun v5_12 => [(5, .int v5_12), (0, .ref (z.2.2.1 h)), (1, .ref (z.2.2.1 v1)), (2, .int v2), (3, .int v3), (4, .int v4)]) 5 X dX3_hinges_80 rfl rfl (by decide) (fun _ => rfl) (fun v5_12 => ?_)
  refine V_goto (tgt := 31) X dX3_hinges_83 (by decide) ?_
  refine V_sub [1, 2, 3, 4, 5, 0] rfl ?_
  exact hc31 v1 v2 v3 v4 v5_12 hk1 σ
def fX3_hinges_b67 (N : Nat) (h : Nat) (rc31 : Nat → Int32 → Int32 → Int32 → Int32 → Mem → Option (Int32 × Mem)) (v1 : Nat) (v2 : Int32) (v3 : Int32) (v4 : Int32) (v5 : Int32) (t0 : Int32) (σ : Mem) : Option (Int32 × Mem) :=
  if t0 = v3 then fX3_hinges_b80 N h rc31 v1 v2 v3 v4 v5 σ else lt_ (v4 ||| ((1 : Int32) <<< (v5 &&& 31))) (fun v4_11 => fX3_hinges_b80 N h rc31 v1 v2 v3 v4_11 v5 σ)
set_option maxRecDepth 100000 in
set_option maxHeartbeats 4000000 in
theorem bX3_hinges_67 {x : Cx} {z : Sx} (X : XG x z RX3 cX3_hinges 6 4 95) (E : XE x z) (hr : XR x (some .int)) (hZ : z.2.2.2.1 = kdC) (N : Nat) (h : Nat) (hh : z.2.2.2.1 h = (3, 0)) (rc31 : Nat → Int32 → Int32 → Int32 → Int32 → Mem → Option (Int32 × Mem)) (hc31 : ∀ (v1 : Nat) (v2 : Int32) (v3 : Int32) (v4 : Int32) (v5 : Int32) (hk1 : z.2.2.2.1 v1 = (0, 0)) (σ : Mem), VK x z 6 (BQ QI x z) 31 [(0, .ref (z.2.2.1 h)), (1, .ref (z.2.2.1 v1)), (2, .int v2), (3, .int v3), (4, .int v4), (5, .int v5)] [] σ (rc31 v1 v2 v3 v4 v5 σ)) (v1 : Nat) (v2 : Int32) (v3 : Int32) (v4 : Int32) (v5 : Int32) (t0 : Int32) (hk1 : z.2.2.2.1 v1 = (0, 0)) (σ : Mem) : VK x z 6 (BQ QI x z) 67 [(0, .ref (z.2.2.1 h)), (1, .ref (z.2.2.1 v1)), (2, .int v2), (3, .int v3), (4, .int v4), (5, .int v5)] [.int t0] σ (fX3_hinges_b67 N h rc31 v1 v2 v3 v4 v5 t0 σ) := by
  unfold fX3_hinges_b67
  refine V_iload_n 3 X dX3_hinges_67 rfl rfl ?_
  refine V_icmp_eq (tgt := 80) X dX3_hinges_68 (by decide) ?_ ?_
  · refine V_sub [0, 1, 2, 3, 4, 5] rfl ?_
    exact bX3_hinges_80 X E hr hZ N h hh rc31 hc31 v1 v2 v3 v4 v5 hk1 σ
  · refine V_iload 4 X dX3_hinges_71 rfl ?_
    refine V_iconst (v := 1) X dX3_hinges_73 (by decide) ?_
    refine V_iload 5 X dX3_hinges_74 rfl ?_
    refine V_ishl X dX3_hinges_76 ?_
    refine V_ior X dX3_hinges_77 ?_
    refine V_istoreG (L' := fun v4_11 => [(4, .int v4_11), (0, .ref (z.2.2.1 h)), (1, .ref (z.2.2.1 v1)), (2, .int v2), (3, .int v3), (5, .int v5)]) X dX3_hinges_78 (by decide) (fun _ => rfl) (fun v4_11 => ?_)
    refine V_sub [1, 2, 3, 4, 0, 5] rfl ?_
    exact bX3_hinges_80 X E hr hZ N h hh rc31 hc31 v1 v2 v3 v4_11 v5 hk1 σ
def fX3_hinges_b31 (N : Nat) (h : Nat) (rc31 : Nat → Int32 → Int32 → Int32 → Int32 → Mem → Option (Int32 × Mem)) (v1 : Nat) (v2 : Int32) (v3 : Int32) (v4 : Int32) (v5 : Int32) (σ : Mem) : Option (Int32 × Mem) :=
  if (σ.1 v1 0) ≤ v5 then some (v4, σ) else lt_ (pI σ (h + 2) 4 ((1 : Int32) <<< (v5 &&& 31))) (fun s8 => bd (fX2_vote N (h + 2) v2 s8) (fun r9 s10 => if r9 ≤ 0 then fX3_hinges_b67 N h rc31 v1 v2 v3 v4 v5 0 s10 else fX3_hinges_b67 N h rc31 v1 v2 v3 v4 v5 1 s10))
set_option maxRecDepth 100000 in
set_option maxHeartbeats 4000000 in
theorem bX3_hinges_31 {x : Cx} {z : Sx} (X : XG x z RX3 cX3_hinges 6 4 95) (E : XE x z) (hr : XR x (some .int)) (hZ : z.2.2.2.1 = kdC) (N : Nat) (h : Nat) (hh : z.2.2.2.1 h = (3, 0)) (rc31 : Nat → Int32 → Int32 → Int32 → Int32 → Mem → Option (Int32 × Mem)) (hc31 : ∀ (v1 : Nat) (v2 : Int32) (v3 : Int32) (v4 : Int32) (v5 : Int32) (hk1 : z.2.2.2.1 v1 = (0, 0)) (σ : Mem), VK x z 6 (BQ QI x z) 31 [(0, .ref (z.2.2.1 h)), (1, .ref (z.2.2.1 v1)), (2, .int v2), (3, .int v3), (4, .int v4), (5, .int v5)] [] σ (rc31 v1 v2 v3 v4 v5 σ)) (v1 : Nat) (v2 : Int32) (v3 : Int32) (v4 : Int32) (v5 : Int32) (hk1 : z.2.2.2.1 v1 = (0, 0)) (σ : Mem) : VK x z 6 (BQ QI x z) 31 [(0, .ref (z.2.2.1 h)), (1, .ref (z.2.2.1 v1)), (2, .int v2), (3, .int v3), (4, .int v4), (5, .int v5)] [] σ (fX3_hinges_b31 N h rc31 v1 v2 v3 v4 v5 σ) := by
  unfold fX3_hinges_b31
  refine V_iload 5 X dX3_hinges_31 rfl ?_
  refine V_aload_n 1 X dX3_hinges_33 rfl rfl ?_
  refine V_getI 0 X dX3_hinges_34 co0 hk1 (by decide) rfl wfX3_44 ?_
  refine V_icmp_ge (tgt := 86) X dX3_hinges_37 (by decide) ?_ ?_
  · refine V_iload 4 X dX3_hinges_86 rfl ?_
    exact V_iret X E hr dX3_hinges_88
  · refine V_aload_n 0 X dX3_hinges_40 rfl rfl ?_
    refine V_getR (k1 := (h + 2)) 1 X dX3_hinges_41 co3 hh (by decide) rfl rfl wfX3_18 ?_
    refine V_iconst (v := 1) X dX3_hinges_44 (by decide) ?_
    refine V_iload 5 X dX3_hinges_45 rfl ?_
    refine V_ishl X dX3_hinges_47 ?_
    refine V_putIG 4 X dX3_hinges_48 co2 (kt3_1 hZ hh) (by decide) rfl wfX3_90 rfl rfl rfl (fun s8 => ?_)
    refine V_aload_n 0 X dX3_hinges_51 rfl rfl ?_
    refine V_getR (k1 := (h + 2)) 1 X dX3_hinges_52 co3 hh (by decide) rfl rfl wfX3_18 ?_
    refine V_iload_n 2 X dX3_hinges_55 rfl rfl ?_
    refine V_callI [.int v2] [] X E dX3_hinges_56 (kX2_vote x.2.1 z hZ N (h + 2) (kt3_1 hZ hh) v2 s8) co2 (kt3_1 hZ hh) gcX3_30 hyX2_vote rfl ⟨by decide, by decide⟩ rfl (Nat.le_of_ble_eq_true rfl) (fun r9 s10 => ?_)
    refine V_if_le (tgt := 66) X dX3_hinges_59 (by decide) ?_ ?_
    · refine V_iconst (v := 0) X dX3_hinges_66 (by decide) ?_
      refine V_sub [0, 1, 2, 3, 4, 5] rfl ?_
      exact bX3_hinges_67 X E hr hZ N h hh rc31 hc31 v1 v2 v3 v4 v5 0 hk1 s10
    · refine V_iconst (v := 1) X dX3_hinges_62 (by decide) ?_
      refine V_goto (tgt := 67) X dX3_hinges_63 (by decide) ?_
      refine V_sub [0, 1, 2, 3, 4, 5] rfl ?_
      exact bX3_hinges_67 X E hr hZ N h hh rc31 hc31 v1 v2 v3 v4 v5 1 hk1 s10
def fX3_hinges_l31 (N : Nat) (h : Nat) : Nat → Nat → Int32 → Int32 → Int32 → Int32 → Mem → Option (Int32 × Mem)
  | 0 => fun _ _ _ _ _ _ => none
  | n + 1 => fX3_hinges_b31 N h (fX3_hinges_l31 N h n)
theorem lX3_hinges_31 {x : Cx} {z : Sx} (X : XG x z RX3 cX3_hinges 6 4 95) (E : XE x z) (hr : XR x (some .int)) (hZ : z.2.2.2.1 = kdC) (N : Nat) (h : Nat) (hh : z.2.2.2.1 h = (3, 0)) (n : Nat) (v1 : Nat) (v2 : Int32) (v3 : Int32) (v4 : Int32) (v5 : Int32) (hk1 : z.2.2.2.1 v1 = (0, 0)) (σ : Mem) : VK x z 6 (BQ QI x z) 31 [(0, .ref (z.2.2.1 h)), (1, .ref (z.2.2.1 v1)), (2, .int v2), (3, .int v3), (4, .int v4), (5, .int v5)] [] σ (fX3_hinges_l31 N h n v1 v2 v3 v4 v5 σ) := by
  induction n generalizing v1 v2 v3 v4 v5 hk1 σ with
  | zero => exact V_none
  | succ n ih => exact bX3_hinges_31 X E hr hZ N h hh (fX3_hinges_l31 N h n) ih v1 v2 v3 v4 v5 hk1 σ
def fX3_hinges_b24 (N : Nat) (h : Nat) (v1 : Nat) (v2 : Int32) (t0 : Int32) (σ : Mem) : Option (Int32 × Mem) :=
  lt_ t0 (fun v3_5 => lt_ 0 (fun v4_6 => lt_ 0 (fun v5_7 => fX3_hinges_l31 N h N v1 v2 v3_5 v4_6 v5_7 σ)))
set_option maxRecDepth 100000 in
set_option maxHeartbeats 4000000 in
theorem bX3_hinges_24 {x : Cx} {z : Sx} (X : XG x z RX3 cX3_hinges 6 4 95) (E : XE x z) (hr : XR x (some .int)) (hZ : z.2.2.2.1 = kdC) (N : Nat) (h : Nat) (hh : z.2.2.2.1 h = (3, 0)) (v1 : Nat) (v2 : Int32) (t0 : Int32) (hk1 : z.2.2.2.1 v1 = (0, 0)) (σ : Mem) : VK x z 6 (BQ QI x z) 24 [(0, .ref (z.2.2.1 h)), (1, .ref (z.2.2.1 v1)), (2, .int v2)] [.int t0] σ (fX3_hinges_b24 N h v1 v2 t0 σ) := by
  unfold fX3_hinges_b24
  refine V_istore_nG (L' := fun v3_5 => [(3, .int v3_5), (0, .ref (z.2.2.1 h)), (1, .ref (z.2.2.1 v1)), (2, .int v2)]) X dX3_hinges_24 rfl (by decide) (fun _ => rfl) (fun v3_5 => ?_)
  refine V_iconst (v := 0) X dX3_hinges_25 (by decide) ?_
  refine V_istoreG (L' := fun v4_6 => [(4, .int v4_6), (3, .int v3_5), (0, .ref (z.2.2.1 h)), (1, .ref (z.2.2.1 v1)), (2, .int v2)]) X dX3_hinges_26 (by decide) (fun _ => rfl) (fun v4_6 => ?_)
  refine V_iconst (v := 0) X dX3_hinges_28 (by decide) ?_
  refine V_istoreG (L' := fun v5_7 => [(5, .int v5_7), (4, .int v4_6), (3, .int v3_5), (0, .ref (z.2.2.1 h)), (1, .ref (z.2.2.1 v1)), (2, .int v2)]) X dX3_hinges_29 (by decide) (fun _ => rfl) (fun v5_7 => ?_)
  refine V_sub [3, 4, 5, 2, 1, 0] rfl ?_
  exact lX3_hinges_31 X E hr hZ N h hh N v1 v2 v3_5 v4_6 v5_7 hk1 σ
def fX3_hinges (N : Nat) (h : Nat) (v1 : Nat) (v2 : Int32) (σ : Mem) : Option (Int32 × Mem) :=
  bd (fX2_enter N (h + 2) v1 σ) (fun r1 s2 => bd (fX2_vote N (h + 2) v2 s2) (fun r3 s4 => if r3 ≤ 0 then fX3_hinges_b24 N h v1 v2 0 s4 else fX3_hinges_b24 N h v1 v2 1 s4))
set_option maxRecDepth 100000 in
set_option maxHeartbeats 4000000 in
theorem bX3_hinges_0 {x : Cx} {z : Sx} (X : XG x z RX3 cX3_hinges 6 4 95) (E : XE x z) (hr : XR x (some .int)) (hZ : z.2.2.2.1 = kdC) (N : Nat) (h : Nat) (hh : z.2.2.2.1 h = (3, 0)) (v1 : Nat) (v2 : Int32) (hk1 : z.2.2.2.1 v1 = (0, 0)) (σ : Mem) : VK x z 6 (BQ QI x z) 0 [(0, .ref (z.2.2.1 h)), (1, .ref (z.2.2.1 v1)), (2, .int v2)] [] σ (fX3_hinges N h v1 v2 σ) := by
  unfold fX3_hinges
  refine V_aload_n 0 X dX3_hinges_0 rfl rfl ?_
  refine V_getR (k1 := (h + 2)) 1 X dX3_hinges_1 co3 hh (by decide) rfl rfl wfX3_18 ?_
  refine V_aload_n 1 X dX3_hinges_4 rfl rfl ?_
  refine V_callV [.ref (z.2.2.1 v1)] [] X E dX3_hinges_5 (kX2_enter x.2.1 z hZ N (h + 2) (kt3_1 hZ hh) v1 hk1 σ) co2 (kt3_1 hZ hh) gcX3_22 hyX2_enter rfl ⟨by decide, by decide⟩ rfl (Nat.le_of_ble_eq_true rfl) (fun r1 s2 => ?_)
  refine V_aload_n 0 X dX3_hinges_8 rfl rfl ?_
  refine V_getR (k1 := (h + 2)) 1 X dX3_hinges_9 co3 hh (by decide) rfl rfl wfX3_18 ?_
  refine V_iload_n 2 X dX3_hinges_12 rfl rfl ?_
  refine V_callI [.int v2] [] X E dX3_hinges_13 (kX2_vote x.2.1 z hZ N (h + 2) (kt3_1 hZ hh) v2 s2) co2 (kt3_1 hZ hh) gcX3_30 hyX2_vote rfl ⟨by decide, by decide⟩ rfl (Nat.le_of_ble_eq_true rfl) (fun r3 s4 => ?_)
  refine V_if_le (tgt := 23) X dX3_hinges_16 (by decide) ?_ ?_
  · refine V_iconst (v := 0) X dX3_hinges_23 (by decide) ?_
    refine V_sub [0, 1, 2] rfl ?_
    exact bX3_hinges_24 X E hr hZ N h hh v1 v2 0 hk1 s4
  · refine V_iconst (v := 1) X dX3_hinges_19 (by decide) ?_
    refine V_goto (tgt := 24) X dX3_hinges_20 (by decide) ?_
    refine V_sub [0, 1, 2] rfl ?_
    exact bX3_hinges_24 X E hr hZ N h hh v1 v2 1 hk1 s4
theorem kX3_hinges (l : Launch) (z : Sx) (hZ : z.2.2.2.1 = kdC) (N : Nat) (h : Nat) (hh : z.2.2.2.1 h = (3, 0)) (v1 : Nat) (v2 : Int32) (hk1 : z.2.2.2.1 v1 = (0, 0)) (σ : Mem) : Ct QI yX3_hinges cX3_hinges 6 (some .int) 4 95 l z [.ref (z.2.2.1 h), .ref (z.2.2.1 v1), .int v2] σ (fX3_hinges N h v1 v2 σ) := by
  refine Ct_of (by decide +kernel) (Nat.le_of_ble_eq_true rfl) rfl ?_
  intro x _ X E hr
  exact bX3_hinges_0 X E hr hZ N h hh v1 v2 hk1 σ
def fX11_hinge (N : Nat) (h : Nat) (v1 : Int32) (v2 : Int32) (v3 : Int32) (σ : Mem) : Option (Int32 × Mem) :=
  bd (fX11_asked N h v1 v2 σ) (fun or1 s2 => mqK (0, 0) or1 (some ((-1), s2)) (fun r1 => if v3 = 0 then bd (fX3_hinges N (h + 251) r1 v2 s2) (fun r4 s5 => some (r4, s5)) else bd (fX3_loudestPiece N (h + 251) r1 v2 s2) (fun r6 s7 => some (r6, s7))))
set_option maxRecDepth 100000 in
set_option maxHeartbeats 4000000 in
theorem bX11_hinge_0 {x : Cx} {z : Sx} (X : XG x z RX11 cX11_hinge 5 5 120) (E : XE x z) (hr : XR x (some .int)) (hZ : z.2.2.2.1 = kdC) (N : Nat) (h : Nat) (hh : z.2.2.2.1 h = (11, 0)) (v1 : Int32) (v2 : Int32) (v3 : Int32) (σ : Mem) : VK x z 5 (BQ QI x z) 0 [(0, .ref (z.2.2.1 h)), (1, .int v1), (2, .int v2), (3, .int v3)] [] σ (fX11_hinge N h v1 v2 v3 σ) := by
  unfold fX11_hinge
  refine V_aload_n 0 X dX11_hinge_0 rfl rfl ?_
  refine V_iload_n 1 X dX11_hinge_1 rfl rfl ?_
  refine V_iload_n 2 X dX11_hinge_2 rfl rfl ?_
  refine V_callQC (K := (0, 0)) [.int v1, .int v2] [] X E hZ dX11_hinge_3 (kX11_asked x.2.1 z hZ N h hh v1 v2 σ) co11 hh gcX11_115 hyX11_asked rfl ⟨by decide, by decide⟩ rfl (Nat.le_of_ble_eq_true rfl) (fun s2 => ?_) (fun r1 s2 hb3 => ?_)
  · refine V_astoreN (L' := [(4, .null), (0, .ref (z.2.2.1 h)), (1, .int v1), (2, .int v2), (3, .int v3)]) X dX11_hinge_6 (by decide) rfl ?_
    refine V_aloadN 0 X dX11_hinge_8 rfl ?_
    refine V_ifnonnullN X dX11_hinge_10 ?_
    refine V_iconst (v := -1) X dX11_hinge_13 (by decide) ?_
    exact V_iret X E hr dX11_hinge_14
  · refine V_astore (L' := [(4, .ref (z.2.2.1 r1)), (0, .ref (z.2.2.1 h)), (1, .int v1), (2, .int v2), (3, .int v3)]) X dX11_hinge_6 (by decide) rfl ?_
    refine V_aload 0 X dX11_hinge_8 rfl ?_
    refine V_ifnonnull (tgt := 15) X dX11_hinge_10 (by decide) ?_
    refine V_iload_n 4 X dX11_hinge_15 rfl rfl ?_
    refine V_if_eq (tgt := 32) X dX11_hinge_16 (by decide) ?_ ?_
    · refine V_aload_n 1 X dX11_hinge_32 rfl rfl ?_
      refine V_getR (k1 := (h + 251)) 8 X dX11_hinge_33 co11 hh (by decide) rfl rfl wfX11_62 ?_
      refine V_aload 0 X dX11_hinge_36 rfl ?_
      refine V_iload_n 3 X dX11_hinge_38 rfl rfl ?_
      refine V_callI [.ref (z.2.2.1 r1), .int v2] [] X E dX11_hinge_39 (kX3_hinges x.2.1 z hZ N (h + 251) (kt11_8 hZ hh) r1 v2 hb3 s2) co3 (kt11_8 hZ hh) gcX11_354 hyX3_hinges rfl ⟨by decide, by decide⟩ rfl (Nat.le_of_ble_eq_true rfl) (fun r4 s5 => ?_)
      exact V_iret X E hr dX11_hinge_42
    · refine V_aload_n 1 X dX11_hinge_19 rfl rfl ?_
      refine V_getR (k1 := (h + 251)) 8 X dX11_hinge_20 co11 hh (by decide) rfl rfl wfX11_62 ?_
      refine V_aload 0 X dX11_hinge_23 rfl ?_
      refine V_iload_n 3 X dX11_hinge_25 rfl rfl ?_
      refine V_callI [.ref (z.2.2.1 r1), .int v2] [] X E dX11_hinge_26 (kX3_loudestPiece x.2.1 z hZ N (h + 251) (kt11_8 hZ hh) r1 v2 hb3 s2) co3 (kt11_8 hZ hh) gcX11_351 hyX3_loudestPiece rfl ⟨by decide, by decide⟩ rfl (Nat.le_of_ble_eq_true rfl) (fun r6 s7 => ?_)
      refine V_goto (tgt := 42) X dX11_hinge_29 (by decide) ?_
      exact V_iret X E hr dX11_hinge_42
theorem kX11_hinge (l : Launch) (z : Sx) (hZ : z.2.2.2.1 = kdC) (N : Nat) (h : Nat) (hh : z.2.2.2.1 h = (11, 0)) (v1 : Int32) (v2 : Int32) (v3 : Int32) (σ : Mem) : Ct QI yX11_hinge cX11_hinge 5 (some .int) 5 120 l z [.ref (z.2.2.1 h), .int v1, .int v2, .int v3] σ (fX11_hinge N h v1 v2 v3 σ) := by
  refine Ct_of (by decide +kernel) (Nat.le_of_ble_eq_true rfl) rfl ?_
  intro x _ X E hr
  exact bX11_hinge_0 X E hr hZ N h hh v1 v2 v3 σ
def fX11_count_b9 (N : Nat) (h : Nat) (σ : Mem) : Option (Int32 × Mem) :=
  some ((-2), σ)
set_option maxRecDepth 100000 in
set_option maxHeartbeats 4000000 in
theorem bX11_count_9 {x : Cx} {z : Sx} (X : XG x z RX11 cX11_count 2 0 0) (E : XE x z) (hr : XR x (some .int)) (hZ : z.2.2.2.1 = kdC) (N : Nat) (h : Nat) (hh : z.2.2.2.1 h = (11, 0)) (σ : Mem) : VK x z 2 (BQ QI x z) 9 [(0, .ref (z.2.2.1 h))] [] σ (fX11_count_b9 N h σ) := by
  unfold fX11_count_b9
  refine V_bipush (v := -2) X dX11_count_9 (by decide) ?_
  refine V_goto (tgt := 23) X dX11_count_11 (by decide) ?_
  exact V_iret X E hr dX11_count_23
def fX11_count (N : Nat) (h : Nat) (v1 : Int32) (σ : Mem) : Option (Int32 × Mem) :=
  if v1 < 0 then fX11_count_b9 N h σ else if v1 < 3 then gd (inb v1 3) (some ((σ.1 ((h + 1) + 2) v1.toNatClampNeg), σ)) else fX11_count_b9 N h σ
set_option maxRecDepth 100000 in
set_option maxHeartbeats 4000000 in
theorem bX11_count_0 {x : Cx} {z : Sx} (X : XG x z RX11 cX11_count 2 0 0) (E : XE x z) (hr : XR x (some .int)) (hZ : z.2.2.2.1 = kdC) (N : Nat) (h : Nat) (hh : z.2.2.2.1 h = (11, 0)) (v1 : Int32) (σ : Mem) : VK x z 2 (BQ QI x z) 0 [(0, .ref (z.2.2.1 h)), (1, .int v1)] [] σ (fX11_count N h v1 σ) := by
  unfold fX11_count
  refine V_iload_n 1 X dX11_count_0 rfl rfl ?_
  refine V_if_lt (tgt := 9) X dX11_count_1 (by decide) ?_ ?_
  · refine V_sub [0] rfl ?_
    exact bX11_count_9 X E hr hZ N h hh σ
  · refine V_iload_n 1 X dX11_count_4 rfl rfl ?_
    refine V_iconst (v := 3) X dX11_count_5 (by decide) ?_
    refine V_icmp_lt (tgt := 14) X dX11_count_6 (by decide) ?_ ?_
    · refine V_aload_n 0 X dX11_count_14 rfl rfl ?_
      refine V_getR (k1 := (h + 1)) 0 X dX11_count_15 co11 hh (by decide) rfl rfl wfX11_10 ?_
      refine V_getR (k1 := ((h + 1) + 2)) 4 X dX11_count_18 co9 (kt11_0 hZ hh) (by decide) rfl rfl wfX11_357 ?_
      refine V_iload_n 1 X dX11_count_21 rfl rfl ?_
      refine V_iald X dX11_count_22 (kt9_4 hZ (kt11_0 hZ hh)) ?_
      exact V_iret X E hr dX11_count_23
    · refine V_sub [0] rfl ?_
      exact bX11_count_9 X E hr hZ N h hh σ
theorem kX11_count (l : Launch) (z : Sx) (hZ : z.2.2.2.1 = kdC) (N : Nat) (h : Nat) (hh : z.2.2.2.1 h = (11, 0)) (v1 : Int32) (σ : Mem) : Ct QI yX11_count cX11_count 2 (some .int) 0 0 l z [.ref (z.2.2.1 h), .int v1] σ (fX11_count N h v1 σ) := by
  refine Ct_of (by decide +kernel) (Nat.le_of_ble_eq_true rfl) rfl ?_
  intro x _ X E hr
  exact bX11_count_0 X E hr hZ N h hh v1 σ
def fX9_copyFrom_b56 (N : Nat) (h : Nat) (rc56 : Nat → Int32 → Mem → Option (Unit × Mem)) (v1 : Nat) (v2 : Int32) (σ : Mem) : Option (Unit × Mem) :=
  if 2 ≤ v2 then some ((), σ) else gd (inb v2 2) (gd (inb v2 2) (bd (fX0_copyFrom N (raE 60 (h + 3) v2.toNatClampNeg) (raE 60 (v1 + 3) v2.toNatClampNeg) σ) (fun r9 s10 => gd (inb v2 2) (gd (inb v2 2) (bd (fX8_copyFrom N (raE 61 (h + 4) v2.toNatClampNeg) (raE 61 (v1 + 4) v2.toNatClampNeg) s10) (fun r13 s14 => gd (inb v2 2) (gd (inb v2 2) (bd (fX4_copyFrom N (raE 62 (h + 5) v2.toNatClampNeg) (raE 62 (v1 + 5) v2.toNatClampNeg) s14) (fun r17 s18 => lt_ (v2 + 1) (fun v2_19 => rc56 v1 v2_19 s18))))))))))
set_option maxRecDepth 100000 in
set_option maxHeartbeats 4000000 in
theorem bX9_copyFrom_56 {x : Cx} {z : Sx} (X : XG x z RX9 cX9_copyFrom 3 2 47) (E : XE x z) (hr : XR x none) (hZ : z.2.2.2.1 = kdC) (N : Nat) (h : Nat) (hh : z.2.2.2.1 h = (9, 0)) (rc56 : Nat → Int32 → Mem → Option (Unit × Mem)) (hc56 : ∀ (v1 : Nat) (v2 : Int32) (hk1 : z.2.2.2.1 v1 = (9, 0)) (σ : Mem), VK x z 3 (BQ QV x z) 56 [(0, .ref (z.2.2.1 h)), (1, .ref (z.2.2.1 v1)), (2, .int v2)] [] σ (rc56 v1 v2 σ)) (v1 : Nat) (v2 : Int32) (hk1 : z.2.2.2.1 v1 = (9, 0)) (σ : Mem) : VK x z 3 (BQ QV x z) 56 [(0, .ref (z.2.2.1 h)), (1, .ref (z.2.2.1 v1)), (2, .int v2)] [] σ (fX9_copyFrom_b56 N h rc56 v1 v2 σ) := by
  unfold fX9_copyFrom_b56
  refine V_iload_n 2 X dX9_copyFrom_56 rfl rfl ?_
  refine V_iconst (v := 2) X dX9_copyFrom_57 (by decide) ?_
  refine V_icmp_ge (tgt := 112) X dX9_copyFrom_58 (by decide) ?_ ?_
  · exact V_vret X E hr dX9_copyFrom_112
  · refine V_aload_n 0 X dX9_copyFrom_61 rfl rfl ?_
    refine V_getR (k1 := (h + 3)) 5 X dX9_copyFrom_62 co9 hh (by decide) rfl rfl wfX9_25 ?_
    refine V_iload_n 2 X dX9_copyFrom_65 rfl rfl ?_
    refine V_aald60 X dX9_copyFrom_66 (kt9_5 hZ hh) (fun hi7 => ?_)
    refine V_aload_n 1 X dX9_copyFrom_67 rfl rfl ?_
    refine V_getR (k1 := (v1 + 3)) 5 X dX9_copyFrom_68 co9 hk1 (by decide) rfl rfl wfX9_25 ?_
    refine V_iload_n 2 X dX9_copyFrom_71 rfl rfl ?_
    refine V_aald60 X dX9_copyFrom_72 (kt9_5 hZ hk1) (fun hi8 => ?_)
    refine V_callV [.ref (z.2.2.1 (raE 60 (v1 + 3) v2.toNatClampNeg))] [] X E dX9_copyFrom_73 (kX0_copyFrom x.2.1 z hZ N (raE 60 (h + 3) v2.toNatClampNeg) (ke60 hZ (kt9_5 hZ hh) hi7) (raE 60 (v1 + 3) v2.toNatClampNeg) (ke60 hZ (kt9_5 hZ hk1) hi8) σ) co0 (ke60 hZ (kt9_5 hZ hh) hi7) gcX9_53 hyX0_copyFrom rfl ⟨by decide, by decide⟩ rfl (Nat.le_of_ble_eq_true rfl) (fun r9 s10 => ?_)
    refine V_aload_n 0 X dX9_copyFrom_76 rfl rfl ?_
    refine V_getR (k1 := (h + 4)) 6 X dX9_copyFrom_77 co9 hh (by decide) rfl rfl wfX9_31 ?_
    refine V_iload_n 2 X dX9_copyFrom_80 rfl rfl ?_
    refine V_aald61 X dX9_copyFrom_81 (kt9_6 hZ hh) (fun hi11 => ?_)
    refine V_aload_n 1 X dX9_copyFrom_82 rfl rfl ?_
    refine V_getR (k1 := (v1 + 4)) 6 X dX9_copyFrom_83 co9 hk1 (by decide) rfl rfl wfX9_31 ?_
    refine V_iload_n 2 X dX9_copyFrom_86 rfl rfl ?_
    refine V_aald61 X dX9_copyFrom_87 (kt9_6 hZ hk1) (fun hi12 => ?_)
    refine V_callV [.ref (z.2.2.1 (raE 61 (v1 + 4) v2.toNatClampNeg))] [] X E dX9_copyFrom_88 (kX8_copyFrom x.2.1 z hZ N (raE 61 (h + 4) v2.toNatClampNeg) (ke61 hZ (kt9_6 hZ hh) hi11) (raE 61 (v1 + 4) v2.toNatClampNeg) (ke61 hZ (kt9_6 hZ hk1) hi12) s10) co8 (ke61 hZ (kt9_6 hZ hh) hi11) gcX9_61 hyX8_copyFrom rfl ⟨by decide, by decide⟩ rfl (Nat.le_of_ble_eq_true rfl) (fun r13 s14 => ?_)
    refine V_aload_n 0 X dX9_copyFrom_91 rfl rfl ?_
    refine V_getR (k1 := (h + 5)) 7 X dX9_copyFrom_92 co9 hh (by decide) rfl rfl wfX9_37 ?_
    refine V_iload_n 2 X dX9_copyFrom_95 rfl rfl ?_
    refine V_aald62 X dX9_copyFrom_96 (kt9_7 hZ hh) (fun hi15 => ?_)
    refine V_aload_n 1 X dX9_copyFrom_97 rfl rfl ?_
    refine V_getR (k1 := (v1 + 5)) 7 X dX9_copyFrom_98 co9 hk1 (by decide) rfl rfl wfX9_37 ?_
    refine V_iload_n 2 X dX9_copyFrom_101 rfl rfl ?_
    refine V_aald62 X dX9_copyFrom_102 (kt9_7 hZ hk1) (fun hi16 => ?_)
    refine V_callV [.ref (z.2.2.1 (raE 62 (v1 + 5) v2.toNatClampNeg))] [] X E dX9_copyFrom_103 (kX4_copyFrom x.2.1 z hZ N (raE 62 (h + 5) v2.toNatClampNeg) (ke62 hZ (kt9_7 hZ hh) hi15) (raE 62 (v1 + 5) v2.toNatClampNeg) (ke62 hZ (kt9_7 hZ hk1) hi16) s14) co4 (ke62 hZ (kt9_7 hZ hh) hi15) gcX9_68 hyX4_copyFrom rfl ⟨by decide, by decide⟩ rfl (Nat.le_of_ble_eq_true rfl) (fun r17 s18 => ?_)
    refine V_iincG (L' := fun v2_19 => [(2, .int v2_19), (0, .ref (z.2.2.1 h)), (1, .ref (z.2.2.1 v1))]) 2 X dX9_copyFrom_106 rfl rfl (by decide) (fun _ => rfl) (fun v2_19 => ?_)
    refine V_goto (tgt := 56) X dX9_copyFrom_109 (by decide) ?_
    refine V_sub [1, 2, 0] rfl ?_
    exact hc56 v1 v2_19 hk1 s18
def fX9_copyFrom_l56 (N : Nat) (h : Nat) : Nat → Nat → Int32 → Mem → Option (Unit × Mem)
  | 0 => fun _ _ _ => none
  | n + 1 => fX9_copyFrom_b56 N h (fX9_copyFrom_l56 N h n)
theorem lX9_copyFrom_56 {x : Cx} {z : Sx} (X : XG x z RX9 cX9_copyFrom 3 2 47) (E : XE x z) (hr : XR x none) (hZ : z.2.2.2.1 = kdC) (N : Nat) (h : Nat) (hh : z.2.2.2.1 h = (9, 0)) (n : Nat) (v1 : Nat) (v2 : Int32) (hk1 : z.2.2.2.1 v1 = (9, 0)) (σ : Mem) : VK x z 3 (BQ QV x z) 56 [(0, .ref (z.2.2.1 h)), (1, .ref (z.2.2.1 v1)), (2, .int v2)] [] σ (fX9_copyFrom_l56 N h n v1 v2 σ) := by
  induction n generalizing v1 v2 hk1 σ with
  | zero => exact V_none
  | succ n ih => exact bX9_copyFrom_56 X E hr hZ N h hh (fX9_copyFrom_l56 N h n) ih v1 v2 hk1 σ
def fX9_copyFrom (N : Nat) (h : Nat) (v1 : Nat) (σ : Mem) : Option (Unit × Mem) :=
  gd (byOk (σ.1 (v1 + 1)) (600 : Int32).toNatClampNeg) (lt_ (cpM σ (v1 + 1) (h + 1) (600 : Int32).toNatClampNeg) (fun s1 => lt_ (pI s1 h 1 (s1.1 v1 1)) (fun s2 => lt_ (pI s2 h 2 (s2.1 v1 2)) (fun s3 => lt_ (pI s3 h 3 (s3.1 v1 3)) (fun s4 => lt_ (cpM s4 (v1 + 2) (h + 2) (3 : Int32).toNatClampNeg) (fun s5 => lt_ 0 (fun v2_6 => fX9_copyFrom_l56 N h N v1 v2_6 s5)))))))
set_option maxRecDepth 100000 in
set_option maxHeartbeats 4000000 in
theorem bX9_copyFrom_0 {x : Cx} {z : Sx} (X : XG x z RX9 cX9_copyFrom 3 2 47) (E : XE x z) (hr : XR x none) (hZ : z.2.2.2.1 = kdC) (N : Nat) (h : Nat) (hh : z.2.2.2.1 h = (9, 0)) (v1 : Nat) (hk1 : z.2.2.2.1 v1 = (9, 0)) (σ : Mem) : VK x z 3 (BQ QV x z) 0 [(0, .ref (z.2.2.1 h)), (1, .ref (z.2.2.1 v1))] [] σ (fX9_copyFrom N h v1 σ) := by
  unfold fX9_copyFrom
  refine V_aload_n 1 X dX9_copyFrom_0 rfl rfl ?_
  refine V_getR (k1 := (v1 + 1)) 0 X dX9_copyFrom_1 co9 hk1 (by decide) rfl rfl wfX9_9 ?_
  refine V_iconst (v := 0) X dX9_copyFrom_4 (by decide) ?_
  refine V_aload_n 0 X dX9_copyFrom_5 rfl rfl ?_
  refine V_getR (k1 := (h + 1)) 0 X dX9_copyFrom_6 co9 hh (by decide) rfl rfl wfX9_9 ?_
  refine V_iconst (v := 0) X dX9_copyFrom_9 (by decide) ?_
  refine V_sipush (v := 600) X dX9_copyFrom_10 (by decide) ?_
  refine V_copy52 X dX9_copyFrom_13 (kt9_0 hZ hk1) (kt9_0 hZ hh) acX9_81 acN acS acI (by decide) (by decide) (by decide) (by decide) (Nat.le_of_ble_eq_true rfl) (fun s1 => ?_)
  refine V_aload_n 0 X dX9_copyFrom_16 rfl rfl ?_
  refine V_aload_n 1 X dX9_copyFrom_17 rfl rfl ?_
  refine V_getI 1 X dX9_copyFrom_18 co9 hk1 (by decide) rfl wfX9_44 ?_
  refine V_putIG 1 X dX9_copyFrom_21 co9 hh (by decide) rfl wfX9_44 rfl rfl rfl (fun s2 => ?_)
  refine V_aload_n 0 X dX9_copyFrom_24 rfl rfl ?_
  refine V_aload_n 1 X dX9_copyFrom_25 rfl rfl ?_
  refine V_getI 2 X dX9_copyFrom_26 co9 hk1 (by decide) rfl wfX9_87 ?_
  refine V_putIG 2 X dX9_copyFrom_29 co9 hh (by decide) rfl wfX9_87 rfl rfl rfl (fun s3 => ?_)
  refine V_aload_n 0 X dX9_copyFrom_32 rfl rfl ?_
  refine V_aload_n 1 X dX9_copyFrom_33 rfl rfl ?_
  refine V_getI 3 X dX9_copyFrom_34 co9 hk1 (by decide) rfl wfX9_15 ?_
  refine V_putIG 3 X dX9_copyFrom_37 co9 hh (by decide) rfl wfX9_15 rfl rfl rfl (fun s4 => ?_)
  refine V_aload_n 1 X dX9_copyFrom_40 rfl rfl ?_
  refine V_getR (k1 := (v1 + 2)) 4 X dX9_copyFrom_41 co9 hk1 (by decide) rfl rfl wfX9_19 ?_
  refine V_iconst (v := 0) X dX9_copyFrom_44 (by decide) ?_
  refine V_aload_n 0 X dX9_copyFrom_45 rfl rfl ?_
  refine V_getR (k1 := (h + 2)) 4 X dX9_copyFrom_46 co9 hh (by decide) rfl rfl wfX9_19 ?_
  refine V_iconst (v := 0) X dX9_copyFrom_49 (by decide) ?_
  refine V_iconst (v := 3) X dX9_copyFrom_50 (by decide) ?_
  refine V_copy50 X dX9_copyFrom_51 (kt9_4 hZ hk1) (kt9_4 hZ hh) acX9_81 acN acS acI (by decide) (by decide) (by decide) (by decide) (Nat.le_of_ble_eq_true rfl) (fun s5 => ?_)
  refine V_iconst (v := 0) X dX9_copyFrom_54 (by decide) ?_
  refine V_istore_nG (L' := fun v2_6 => [(2, .int v2_6), (0, .ref (z.2.2.1 h)), (1, .ref (z.2.2.1 v1))]) X dX9_copyFrom_55 rfl (by decide) (fun _ => rfl) (fun v2_6 => ?_)
  refine V_sub [1, 2, 0] rfl ?_
  exact lX9_copyFrom_56 X E hr hZ N h hh N v1 v2_6 hk1 s5
theorem kX9_copyFrom (l : Launch) (z : Sx) (hZ : z.2.2.2.1 = kdC) (N : Nat) (h : Nat) (hh : z.2.2.2.1 h = (9, 0)) (v1 : Nat) (hk1 : z.2.2.2.1 v1 = (9, 0)) (σ : Mem) : Ct QV yX9_copyFrom cX9_copyFrom 3 none 2 47 l z [.ref (z.2.2.1 h), .ref (z.2.2.1 v1)] σ (fX9_copyFrom N h v1 σ) := by
  refine Ct_of (by decide +kernel) (Nat.le_of_ble_eq_true rfl) rfl ?_
  intro x _ X E hr
  exact bX9_copyFrom_0 X E hr hZ N h hh v1 hk1 σ
def fX11_image (N : Nat) (h : Nat) (v1 : Int32) (σ : Mem) : Option (Int32 × Mem) :=
  if v1 < 0 then some (0, σ) else if v1 < 3 then gd (inb v1 3) (bd (fX9_copyFrom N (raE 63 (h + 43) v1.toNatClampNeg) (h + 1) σ) (fun r2 s3 => gd (inb v1 3) (lt_ (pI s3 (h + 170) v1.toNatClampNeg (vp_nar .boolean 1)) (fun s4 => some (1, s4))))) else some (0, σ)
set_option maxRecDepth 100000 in
set_option maxHeartbeats 4000000 in
theorem bX11_image_0 {x : Cx} {z : Sx} (X : XG x z RX11 cX11_image 2 3 69) (E : XE x z) (hr : XR x (some .boolean)) (hZ : z.2.2.2.1 = kdC) (N : Nat) (h : Nat) (hh : z.2.2.2.1 h = (11, 0)) (v1 : Int32) (σ : Mem) : VK x z 2 (BQ QI x z) 0 [(0, .ref (z.2.2.1 h)), (1, .int v1)] [] σ (fX11_image N h v1 σ) := by
  unfold fX11_image
  refine V_iload_n 1 X dX11_image_0 rfl rfl ?_
  refine V_if_lt (tgt := 9) X dX11_image_1 (by decide) ?_ ?_
  · refine V_iconst (v := 0) X dX11_image_9 (by decide) ?_
    exact V_zret X E hr dX11_image_10 (by decide)
  · refine V_iload_n 1 X dX11_image_4 rfl rfl ?_
    refine V_iconst (v := 3) X dX11_image_5 (by decide) ?_
    refine V_icmp_lt (tgt := 11) X dX11_image_6 (by decide) ?_ ?_
    · refine V_aload_n 0 X dX11_image_11 rfl rfl ?_
      refine V_getR (k1 := (h + 43)) 1 X dX11_image_12 co11 hh (by decide) rfl rfl wfX11_16 ?_
      refine V_iload_n 1 X dX11_image_15 rfl rfl ?_
      refine V_aald63 X dX11_image_16 (kt11_1 hZ hh) (fun hi1 => ?_)
      refine V_aload_n 0 X dX11_image_17 rfl rfl ?_
      refine V_getR (k1 := (h + 1)) 0 X dX11_image_18 co11 hh (by decide) rfl rfl wfX11_10 ?_
      refine V_callV [.ref (z.2.2.1 (h + 1))] [] X E dX11_image_21 (kX9_copyFrom x.2.1 z hZ N (raE 63 (h + 43) v1.toNatClampNeg) (ke63 hZ (kt11_1 hZ hh) hi1) (h + 1) (kt11_0 hZ hh) σ) co9 (ke63 hZ (kt11_1 hZ hh) hi1) gcX11_360 hyX9_copyFrom rfl ⟨by decide, by decide⟩ rfl (Nat.le_of_ble_eq_true rfl) (fun r2 s3 => ?_)
      refine V_aload_n 0 X dX11_image_24 rfl rfl ?_
      refine V_getR (k1 := (h + 170)) 2 X dX11_image_25 co11 hh (by decide) rfl rfl wfX11_20 ?_
      refine V_iload_n 1 X dX11_image_28 rfl rfl ?_
      refine V_iconst (v := 1) X dX11_image_29 (by decide) ?_
      refine V_zastG X dX11_image_30 (kt11_2 hZ hh) (fun s4 => ?_)
      refine V_iconst (v := 1) X dX11_image_31 (by decide) ?_
      exact V_zret X E hr dX11_image_32 (by decide)
    · refine V_iconst (v := 0) X dX11_image_9 (by decide) ?_
      exact V_zret X E hr dX11_image_10 (by decide)
theorem kX11_image (l : Launch) (z : Sx) (hZ : z.2.2.2.1 = kdC) (N : Nat) (h : Nat) (hh : z.2.2.2.1 h = (11, 0)) (v1 : Int32) (σ : Mem) : Ct QI yX11_image cX11_image 2 (some .boolean) 3 69 l z [.ref (z.2.2.1 h), .int v1] σ (fX11_image N h v1 σ) := by
  refine Ct_of (by decide +kernel) (Nat.le_of_ble_eq_true rfl) rfl ?_
  intro x _ X E hr
  exact bX11_image_0 X E hr hZ N h hh v1 σ
def fX11_again (N : Nat) (h : Nat) (v1 : Int32) (σ : Mem) : Option (Int32 × Mem) :=
  if v1 < 0 then some (0, σ) else if 3 ≤ v1 then some (0, σ) else gd (inb v1 3) (if (σ.1 (h + 170) v1.toNatClampNeg) = 0 then some (0, σ) else gd (inb v1 3) (bd (fX9_copyFrom N (h + 1) (raE 63 (h + 43) v1.toNatClampNeg) σ) (fun r2 s3 => some (1, s3))))
set_option maxRecDepth 100000 in
set_option maxHeartbeats 4000000 in
theorem bX11_again_0 {x : Cx} {z : Sx} (X : XG x z RX11 cX11_again 2 3 69) (E : XE x z) (hr : XR x (some .boolean)) (hZ : z.2.2.2.1 = kdC) (N : Nat) (h : Nat) (hh : z.2.2.2.1 h = (11, 0)) (v1 : Int32) (σ : Mem) : VK x z 2 (BQ QI x z) 0 [(0, .ref (z.2.2.1 h)), (1, .int v1)] [] σ (fX11_again N h v1 σ) := by
  unfold fX11_again
  refine V_iload_n 1 X dX11_again_0 rfl rfl ?_
  refine V_if_lt (tgt := 18) X dX11_again_1 (by decide) ?_ ?_
  · refine V_iconst (v := 0) X dX11_again_18 (by decide) ?_
    exact V_zret X E hr dX11_again_19 (by decide)
  · refine V_iload_n 1 X dX11_again_4 rfl rfl ?_
    refine V_iconst (v := 3) X dX11_again_5 (by decide) ?_
    refine V_icmp_ge (tgt := 18) X dX11_again_6 (by decide) ?_ ?_
    · refine V_iconst (v := 0) X dX11_again_18 (by decide) ?_
      exact V_zret X E hr dX11_again_19 (by decide)
    · refine V_aload_n 0 X dX11_again_9 rfl rfl ?_
      refine V_getR (k1 := (h + 170)) 2 X dX11_again_10 co11 hh (by decide) rfl rfl wfX11_20 ?_
      refine V_iload_n 1 X dX11_again_13 rfl rfl ?_
      refine V_zald X dX11_again_14 (kt11_2 hZ hh) ?_
      refine V_if_ne (tgt := 20) X dX11_again_15 (by decide) ?_ ?_
      · refine V_aload_n 0 X dX11_again_20 rfl rfl ?_
        refine V_getR (k1 := (h + 1)) 0 X dX11_again_21 co11 hh (by decide) rfl rfl wfX11_10 ?_
        refine V_aload_n 0 X dX11_again_24 rfl rfl ?_
        refine V_getR (k1 := (h + 43)) 1 X dX11_again_25 co11 hh (by decide) rfl rfl wfX11_16 ?_
        refine V_iload_n 1 X dX11_again_28 rfl rfl ?_
        refine V_aald63 X dX11_again_29 (kt11_1 hZ hh) (fun hi1 => ?_)
        refine V_callV [.ref (z.2.2.1 (raE 63 (h + 43) v1.toNatClampNeg))] [] X E dX11_again_30 (kX9_copyFrom x.2.1 z hZ N (h + 1) (kt11_0 hZ hh) (raE 63 (h + 43) v1.toNatClampNeg) (ke63 hZ (kt11_1 hZ hh) hi1) σ) co9 (kt11_0 hZ hh) gcX11_360 hyX9_copyFrom rfl ⟨by decide, by decide⟩ rfl (Nat.le_of_ble_eq_true rfl) (fun r2 s3 => ?_)
        refine V_iconst (v := 1) X dX11_again_33 (by decide) ?_
        exact V_zret X E hr dX11_again_34 (by decide)
      · refine V_iconst (v := 0) X dX11_again_18 (by decide) ?_
        exact V_zret X E hr dX11_again_19 (by decide)
theorem kX11_again (l : Launch) (z : Sx) (hZ : z.2.2.2.1 = kdC) (N : Nat) (h : Nat) (hh : z.2.2.2.1 h = (11, 0)) (v1 : Int32) (σ : Mem) : Ct QI yX11_again cX11_again 2 (some .boolean) 3 69 l z [.ref (z.2.2.1 h), .int v1] σ (fX11_again N h v1 σ) := by
  refine Ct_of (by decide +kernel) (Nat.le_of_ble_eq_true rfl) rfl ?_
  intro x _ X E hr
  exact bX11_again_0 X E hr hZ N h hh v1 σ
