set_option maxRecDepth 100000 in
set_option maxHeartbeats 4000000 in
theorem lv_c9 {x : Cx} {z z1 z2 : Sx} {b Ln cn sn : Nat} {xs : Nat → Int32} {Q : State → Prop} (X : X2 x z z1 z2 code 4 20 487 b Ln xs) (hZ1 : z1.2.2.2.1 = kdC) (hZ2 : z2.2.2.2.1 = kdM) (hk1 : z1.2.2.2.1 0 = (11, 0)) (hk2 : z2.2.2.2.1 0 = (12, 0)) (hcr : ∀ R : Room, (match x with | (_, _, _, R', _) => R') = R → cn ≤ R.cells ∧ sn ≤ R.slots) (N : Nat) (rc : Int32 → Mem → Mem → Option Int32) (hrec : ∀ (v3 : Int32) (σ1 σ2 : Mem), V2 x z z1 z2 4 cn sn Q 2049 [(0, .ref b), (1, .ref (z1.2.2.1 0)), (2, .ref (z2.2.2.1 0)), (3, .int v3)] [] σ1 σ2 (rc v3 σ1 σ2)) (v3 : Int32) (σ1 σ2 : Mem) : V2 x z z1 z2 4 cn sn Q 567 [(0, .ref b), (1, .ref (z1.2.2.1 0)), (2, .ref (z2.2.2.1 0)), (3, .int v3)] [] σ1 σ2 (lw_c9 N xs Ln rc v3 σ1 σ2) := by
  unfold lw_c9
  refine V2_aload_n 1 X dL_law_567 rfl rfl ?_
  refine V2_aload_n 0 X dL_law_568 rfl rfl ?_
  refine V2_iload_n 3 X dL_law_569 rfl rfl ?_
  refine V2_iconst (v := 1) X dL_law_570 (by decide) ?_
  refine V2_iadd X dL_law_571 ?_
  refine V2_sld X dL_law_572 ?_
  refine V2_aload_n 0 X dL_law_573 rfl rfl ?_
  refine V2_iload_n 3 X dL_law_574 rfl rfl ?_
  refine V2_iconst (v := 2) X dL_law_575 (by decide) ?_
  refine V2_iadd X dL_law_576 ?_
  refine V2_sld X dL_law_577 ?_
  refine V2_callI1 [.int (xs (v3 + 1).toNatClampNeg), .int (xs (v3 + 2).toNatClampNeg)] [] X dL_law_578 (kX11_carried x.2.1 z1 hZ1 N 0 hk1 (xs (v3 + 1).toNatClampNeg) (xs (v3 + 2).toNatClampNeg) σ1) co11 hk1 gcL_54 hyL_X11_carried rfl ⟨by decide, by decide⟩ rfl (Nat.le_of_ble_eq_true rfl) hcr (fun r1 s2 => ?_)
  refine V2_aload_n 2 X dL_law_581 rfl rfl ?_
  refine V2_aload_n 0 X dL_law_582 rfl rfl ?_
  refine V2_iload_n 3 X dL_law_583 rfl rfl ?_
  refine V2_iconst (v := 1) X dL_law_584 (by decide) ?_
  refine V2_iadd X dL_law_585 ?_
  refine V2_sld X dL_law_586 ?_
  refine V2_aload_n 0 X dL_law_587 rfl rfl ?_
  refine V2_iload_n 3 X dL_law_588 rfl rfl ?_
  refine V2_iconst (v := 2) X dL_law_589 (by decide) ?_
  refine V2_iadd X dL_law_590 ?_
  refine V2_sld X dL_law_591 ?_
  refine V2_callI2 [.int (xs (v3 + 1).toNatClampNeg), .int (xs (v3 + 2).toNatClampNeg)] [.int r1] X dL_law_592 (kX12_carried x.2.1 z2 hZ2 N (xs (v3 + 1).toNatClampNeg) (xs (v3 + 2).toNatClampNeg) σ2) co12 hk2 gcL_57 hyL_X12_carried rfl ⟨by decide, by decide⟩ rfl (Nat.le_of_ble_eq_true rfl) hcr (fun r3 s4 => ?_)
  refine V2_icmp_eq (tgt := 2049) X dL_law_595 (by decide) ?_ ?_
  · exact hrec v3 s2 s4
  · refine V2_iconst (v := 0) X dL_law_598 (by decide) ?_
    exact fun q => absurd q (by decide)
set_option maxRecDepth 100000 in
set_option maxHeartbeats 4000000 in
theorem lv_c10 {x : Cx} {z z1 z2 : Sx} {b Ln cn sn : Nat} {xs : Nat → Int32} {Q : State → Prop} (X : X2 x z z1 z2 code 4 20 487 b Ln xs) (hZ1 : z1.2.2.2.1 = kdC) (hZ2 : z2.2.2.2.1 = kdM) (hk1 : z1.2.2.2.1 0 = (11, 0)) (hk2 : z2.2.2.2.1 0 = (12, 0)) (hcr : ∀ R : Room, (match x with | (_, _, _, R', _) => R') = R → cn ≤ R.cells ∧ sn ≤ R.slots) (N : Nat) (rc : Int32 → Mem → Mem → Option Int32) (hrec : ∀ (v3 : Int32) (σ1 σ2 : Mem), V2 x z z1 z2 4 cn sn Q 2049 [(0, .ref b), (1, .ref (z1.2.2.1 0)), (2, .ref (z2.2.2.1 0)), (3, .int v3)] [] σ1 σ2 (rc v3 σ1 σ2)) (v3 : Int32) (σ1 σ2 : Mem) : V2 x z z1 z2 4 cn sn Q 600 [(0, .ref b), (1, .ref (z1.2.2.1 0)), (2, .ref (z2.2.2.1 0)), (3, .int v3)] [] σ1 σ2 (lw_c10 N xs Ln rc v3 σ1 σ2) := by
  unfold lw_c10
  refine V2_aload_n 1 X dL_law_600 rfl rfl ?_
  refine V2_aload_n 0 X dL_law_601 rfl rfl ?_
  refine V2_iload_n 3 X dL_law_602 rfl rfl ?_
  refine V2_iconst (v := 1) X dL_law_603 (by decide) ?_
  refine V2_iadd X dL_law_604 ?_
  refine V2_sld X dL_law_605 ?_
  refine V2_aload_n 0 X dL_law_606 rfl rfl ?_
  refine V2_iload_n 3 X dL_law_607 rfl rfl ?_
  refine V2_iconst (v := 2) X dL_law_608 (by decide) ?_
  refine V2_iadd X dL_law_609 ?_
  refine V2_sld X dL_law_610 ?_
  refine V2_aload_n 0 X dL_law_611 rfl rfl ?_
  refine V2_iload_n 3 X dL_law_612 rfl rfl ?_
  refine V2_iconst (v := 3) X dL_law_613 (by decide) ?_
  refine V2_iadd X dL_law_614 ?_
  refine V2_sld X dL_law_615 ?_
  refine V2_callI1 [.int (xs (v3 + 1).toNatClampNeg), .int (xs (v3 + 2).toNatClampNeg), .int (xs (v3 + 3).toNatClampNeg)] [] X dL_law_616 (kX11_moves x.2.1 z1 hZ1 N 0 hk1 (xs (v3 + 1).toNatClampNeg) (xs (v3 + 2).toNatClampNeg) (xs (v3 + 3).toNatClampNeg) σ1) co11 hk1 gcL_58 hyL_X11_moves rfl ⟨by decide, by decide⟩ rfl (Nat.le_of_ble_eq_true rfl) hcr (fun r1 s2 => ?_)
  refine V2_aload_n 2 X dL_law_619 rfl rfl ?_
  refine V2_aload_n 0 X dL_law_620 rfl rfl ?_
  refine V2_iload_n 3 X dL_law_621 rfl rfl ?_
  refine V2_iconst (v := 1) X dL_law_622 (by decide) ?_
  refine V2_iadd X dL_law_623 ?_
  refine V2_sld X dL_law_624 ?_
  refine V2_aload_n 0 X dL_law_625 rfl rfl ?_
  refine V2_iload_n 3 X dL_law_626 rfl rfl ?_
  refine V2_iconst (v := 2) X dL_law_627 (by decide) ?_
  refine V2_iadd X dL_law_628 ?_
  refine V2_sld X dL_law_629 ?_
  refine V2_aload_n 0 X dL_law_630 rfl rfl ?_
  refine V2_iload_n 3 X dL_law_631 rfl rfl ?_
  refine V2_iconst (v := 3) X dL_law_632 (by decide) ?_
  refine V2_iadd X dL_law_633 ?_
  refine V2_sld X dL_law_634 ?_
  refine V2_callI2 [.int (xs (v3 + 1).toNatClampNeg), .int (xs (v3 + 2).toNatClampNeg), .int (xs (v3 + 3).toNatClampNeg)] [.int r1] X dL_law_635 (kX12_moves x.2.1 z2 hZ2 N (xs (v3 + 1).toNatClampNeg) (xs (v3 + 2).toNatClampNeg) (xs (v3 + 3).toNatClampNeg) σ2) co12 hk2 gcL_61 hyL_X12_moves rfl ⟨by decide, by decide⟩ rfl (Nat.le_of_ble_eq_true rfl) hcr (fun r3 s4 => ?_)
  refine V2_icmp_eq (tgt := 2049) X dL_law_638 (by decide) ?_ ?_
  · exact hrec v3 s2 s4
  · refine V2_iconst (v := 0) X dL_law_641 (by decide) ?_
    exact fun q => absurd q (by decide)
set_option maxRecDepth 100000 in
set_option maxHeartbeats 4000000 in
theorem lv_c11 {x : Cx} {z z1 z2 : Sx} {b Ln cn sn : Nat} {xs : Nat → Int32} {Q : State → Prop} (X : X2 x z z1 z2 code 4 20 487 b Ln xs) (hZ1 : z1.2.2.2.1 = kdC) (hZ2 : z2.2.2.2.1 = kdM) (hk1 : z1.2.2.2.1 0 = (11, 0)) (hk2 : z2.2.2.2.1 0 = (12, 0)) (hcr : ∀ R : Room, (match x with | (_, _, _, R', _) => R') = R → cn ≤ R.cells ∧ sn ≤ R.slots) (N : Nat) (rc : Int32 → Mem → Mem → Option Int32) (hrec : ∀ (v3 : Int32) (σ1 σ2 : Mem), V2 x z z1 z2 4 cn sn Q 2049 [(0, .ref b), (1, .ref (z1.2.2.1 0)), (2, .ref (z2.2.2.1 0)), (3, .int v3)] [] σ1 σ2 (rc v3 σ1 σ2)) (v3 : Int32) (σ1 σ2 : Mem) : V2 x z z1 z2 4 cn sn Q 643 [(0, .ref b), (1, .ref (z1.2.2.1 0)), (2, .ref (z2.2.2.1 0)), (3, .int v3)] [] σ1 σ2 (lw_c11 N xs Ln rc v3 σ1 σ2) := by
  unfold lw_c11
  refine V2_aload_n 1 X dL_law_643 rfl rfl ?_
  refine V2_aload_n 0 X dL_law_644 rfl rfl ?_
  refine V2_iload_n 3 X dL_law_645 rfl rfl ?_
  refine V2_iconst (v := 1) X dL_law_646 (by decide) ?_
  refine V2_iadd X dL_law_647 ?_
  refine V2_sld X dL_law_648 ?_
  refine V2_aload_n 0 X dL_law_649 rfl rfl ?_
  refine V2_iload_n 3 X dL_law_650 rfl rfl ?_
  refine V2_iconst (v := 2) X dL_law_651 (by decide) ?_
  refine V2_iadd X dL_law_652 ?_
  refine V2_sld X dL_law_653 ?_
  refine V2_aload_n 0 X dL_law_654 rfl rfl ?_
  refine V2_iload_n 3 X dL_law_655 rfl rfl ?_
  refine V2_iconst (v := 3) X dL_law_656 (by decide) ?_
  refine V2_iadd X dL_law_657 ?_
  refine V2_sld X dL_law_658 ?_
  refine V2_if_eq (tgt := 666) X dL_law_659 (by decide) ?_ ?_
  · refine V2_iconst (v := 0) X dL_law_666 (by decide) ?_
    refine V2_aload_n 0 X dL_law_667 rfl rfl ?_
    refine V2_iload_n 3 X dL_law_668 rfl rfl ?_
    refine V2_iconst (v := 4) X dL_law_669 (by decide) ?_
    refine V2_iadd X dL_law_670 ?_
    refine V2_sld X dL_law_671 ?_
    refine V2_callI1 [.int (xs (v3 + 1).toNatClampNeg), .int (xs (v3 + 2).toNatClampNeg), .int 0, .int (xs (v3 + 4).toNatClampNeg)] [] X dL_law_672 (kX11_waxed x.2.1 z1 hZ1 N 0 hk1 (xs (v3 + 1).toNatClampNeg) (xs (v3 + 2).toNatClampNeg) 0 (xs (v3 + 4).toNatClampNeg) σ1) co11 hk1 gcL_62 hyL_X11_waxed rfl ⟨by decide, by decide⟩ rfl (Nat.le_of_ble_eq_true rfl) hcr (fun r1 s2 => ?_)
    refine V2_aload_n 2 X dL_law_675 rfl rfl ?_
    refine V2_aload_n 0 X dL_law_676 rfl rfl ?_
    refine V2_iload_n 3 X dL_law_677 rfl rfl ?_
    refine V2_iconst (v := 1) X dL_law_678 (by decide) ?_
    refine V2_iadd X dL_law_679 ?_
    refine V2_sld X dL_law_680 ?_
    refine V2_aload_n 0 X dL_law_681 rfl rfl ?_
    refine V2_iload_n 3 X dL_law_682 rfl rfl ?_
    refine V2_iconst (v := 2) X dL_law_683 (by decide) ?_
    refine V2_iadd X dL_law_684 ?_
    refine V2_sld X dL_law_685 ?_
    refine V2_aload_n 0 X dL_law_686 rfl rfl ?_
    refine V2_iload_n 3 X dL_law_687 rfl rfl ?_
    refine V2_iconst (v := 3) X dL_law_688 (by decide) ?_
    refine V2_iadd X dL_law_689 ?_
    refine V2_sld X dL_law_690 ?_
    refine V2_if_eq (tgt := 698) X dL_law_691 (by decide) ?_ ?_
    · refine V2_iconst (v := 0) X dL_law_698 (by decide) ?_
      refine V2_aload_n 0 X dL_law_699 rfl rfl ?_
      refine V2_iload_n 3 X dL_law_700 rfl rfl ?_
      refine V2_iconst (v := 4) X dL_law_701 (by decide) ?_
      refine V2_iadd X dL_law_702 ?_
      refine V2_sld X dL_law_703 ?_
      refine V2_callI2 [.int (xs (v3 + 1).toNatClampNeg), .int (xs (v3 + 2).toNatClampNeg), .int 0, .int (xs (v3 + 4).toNatClampNeg)] [.int r1] X dL_law_704 (kX12_waxed x.2.1 z2 hZ2 N (xs (v3 + 1).toNatClampNeg) (xs (v3 + 2).toNatClampNeg) 0 (xs (v3 + 4).toNatClampNeg) σ2) co12 hk2 gcL_66 hyL_X12_waxed rfl ⟨by decide, by decide⟩ rfl (Nat.le_of_ble_eq_true rfl) hcr (fun r3 s4 => ?_)
      refine V2_icmp_eq (tgt := 2049) X dL_law_707 (by decide) ?_ ?_
      · exact hrec v3 s2 s4
      · refine V2_iconst (v := 0) X dL_law_710 (by decide) ?_
        exact fun q => absurd q (by decide)
    · refine V2_iconst (v := 1) X dL_law_694 (by decide) ?_
      refine V2_goto (tgt := 699) X dL_law_695 (by decide) ?_
      refine V2_aload_n 0 X dL_law_699 rfl rfl ?_
      refine V2_iload_n 3 X dL_law_700 rfl rfl ?_
      refine V2_iconst (v := 4) X dL_law_701 (by decide) ?_
      refine V2_iadd X dL_law_702 ?_
      refine V2_sld X dL_law_703 ?_
      refine V2_callI2 [.int (xs (v3 + 1).toNatClampNeg), .int (xs (v3 + 2).toNatClampNeg), .int 1, .int (xs (v3 + 4).toNatClampNeg)] [.int r1] X dL_law_704 (kX12_waxed x.2.1 z2 hZ2 N (xs (v3 + 1).toNatClampNeg) (xs (v3 + 2).toNatClampNeg) 1 (xs (v3 + 4).toNatClampNeg) σ2) co12 hk2 gcL_66 hyL_X12_waxed rfl ⟨by decide, by decide⟩ rfl (Nat.le_of_ble_eq_true rfl) hcr (fun r5 s6 => ?_)
      refine V2_icmp_eq (tgt := 2049) X dL_law_707 (by decide) ?_ ?_
      · exact hrec v3 s2 s6
      · refine V2_iconst (v := 0) X dL_law_710 (by decide) ?_
        exact fun q => absurd q (by decide)
  · refine V2_iconst (v := 1) X dL_law_662 (by decide) ?_
    refine V2_goto (tgt := 667) X dL_law_663 (by decide) ?_
    refine V2_aload_n 0 X dL_law_667 rfl rfl ?_
    refine V2_iload_n 3 X dL_law_668 rfl rfl ?_
    refine V2_iconst (v := 4) X dL_law_669 (by decide) ?_
    refine V2_iadd X dL_law_670 ?_
    refine V2_sld X dL_law_671 ?_
    refine V2_callI1 [.int (xs (v3 + 1).toNatClampNeg), .int (xs (v3 + 2).toNatClampNeg), .int 1, .int (xs (v3 + 4).toNatClampNeg)] [] X dL_law_672 (kX11_waxed x.2.1 z1 hZ1 N 0 hk1 (xs (v3 + 1).toNatClampNeg) (xs (v3 + 2).toNatClampNeg) 1 (xs (v3 + 4).toNatClampNeg) σ1) co11 hk1 gcL_62 hyL_X11_waxed rfl ⟨by decide, by decide⟩ rfl (Nat.le_of_ble_eq_true rfl) hcr (fun r7 s8 => ?_)
    refine V2_aload_n 2 X dL_law_675 rfl rfl ?_
    refine V2_aload_n 0 X dL_law_676 rfl rfl ?_
    refine V2_iload_n 3 X dL_law_677 rfl rfl ?_
    refine V2_iconst (v := 1) X dL_law_678 (by decide) ?_
    refine V2_iadd X dL_law_679 ?_
    refine V2_sld X dL_law_680 ?_
    refine V2_aload_n 0 X dL_law_681 rfl rfl ?_
    refine V2_iload_n 3 X dL_law_682 rfl rfl ?_
    refine V2_iconst (v := 2) X dL_law_683 (by decide) ?_
    refine V2_iadd X dL_law_684 ?_
    refine V2_sld X dL_law_685 ?_
    refine V2_aload_n 0 X dL_law_686 rfl rfl ?_
    refine V2_iload_n 3 X dL_law_687 rfl rfl ?_
    refine V2_iconst (v := 3) X dL_law_688 (by decide) ?_
    refine V2_iadd X dL_law_689 ?_
    refine V2_sld X dL_law_690 ?_
    refine V2_if_eq (tgt := 698) X dL_law_691 (by decide) ?_ ?_
    · refine V2_iconst (v := 0) X dL_law_698 (by decide) ?_
      refine V2_aload_n 0 X dL_law_699 rfl rfl ?_
      refine V2_iload_n 3 X dL_law_700 rfl rfl ?_
      refine V2_iconst (v := 4) X dL_law_701 (by decide) ?_
      refine V2_iadd X dL_law_702 ?_
      refine V2_sld X dL_law_703 ?_
      refine V2_callI2 [.int (xs (v3 + 1).toNatClampNeg), .int (xs (v3 + 2).toNatClampNeg), .int 0, .int (xs (v3 + 4).toNatClampNeg)] [.int r7] X dL_law_704 (kX12_waxed x.2.1 z2 hZ2 N (xs (v3 + 1).toNatClampNeg) (xs (v3 + 2).toNatClampNeg) 0 (xs (v3 + 4).toNatClampNeg) σ2) co12 hk2 gcL_66 hyL_X12_waxed rfl ⟨by decide, by decide⟩ rfl (Nat.le_of_ble_eq_true rfl) hcr (fun r9 s10 => ?_)
      refine V2_icmp_eq (tgt := 2049) X dL_law_707 (by decide) ?_ ?_
      · exact hrec v3 s8 s10
      · refine V2_iconst (v := 0) X dL_law_710 (by decide) ?_
        exact fun q => absurd q (by decide)
    · refine V2_iconst (v := 1) X dL_law_694 (by decide) ?_
      refine V2_goto (tgt := 699) X dL_law_695 (by decide) ?_
      refine V2_aload_n 0 X dL_law_699 rfl rfl ?_
      refine V2_iload_n 3 X dL_law_700 rfl rfl ?_
      refine V2_iconst (v := 4) X dL_law_701 (by decide) ?_
      refine V2_iadd X dL_law_702 ?_
      refine V2_sld X dL_law_703 ?_
      refine V2_callI2 [.int (xs (v3 + 1).toNatClampNeg), .int (xs (v3 + 2).toNatClampNeg), .int 1, .int (xs (v3 + 4).toNatClampNeg)] [.int r7] X dL_law_704 (kX12_waxed x.2.1 z2 hZ2 N (xs (v3 + 1).toNatClampNeg) (xs (v3 + 2).toNatClampNeg) 1 (xs (v3 + 4).toNatClampNeg) σ2) co12 hk2 gcL_66 hyL_X12_waxed rfl ⟨by decide, by decide⟩ rfl (Nat.le_of_ble_eq_true rfl) hcr (fun r11 s12 => ?_)
      refine V2_icmp_eq (tgt := 2049) X dL_law_707 (by decide) ?_ ?_
      · exact hrec v3 s8 s12
      · refine V2_iconst (v := 0) X dL_law_710 (by decide) ?_
        exact fun q => absurd q (by decide)
set_option maxRecDepth 100000 in
set_option maxHeartbeats 4000000 in
theorem lv_c12 {x : Cx} {z z1 z2 : Sx} {b Ln cn sn : Nat} {xs : Nat → Int32} {Q : State → Prop} (X : X2 x z z1 z2 code 4 20 487 b Ln xs) (hZ1 : z1.2.2.2.1 = kdC) (hZ2 : z2.2.2.2.1 = kdM) (hk1 : z1.2.2.2.1 0 = (11, 0)) (hk2 : z2.2.2.2.1 0 = (12, 0)) (hcr : ∀ R : Room, (match x with | (_, _, _, R', _) => R') = R → cn ≤ R.cells ∧ sn ≤ R.slots) (N : Nat) (rc : Int32 → Mem → Mem → Option Int32) (hrec : ∀ (v3 : Int32) (σ1 σ2 : Mem), V2 x z z1 z2 4 cn sn Q 2049 [(0, .ref b), (1, .ref (z1.2.2.1 0)), (2, .ref (z2.2.2.1 0)), (3, .int v3)] [] σ1 σ2 (rc v3 σ1 σ2)) (v3 : Int32) (σ1 σ2 : Mem) : V2 x z z1 z2 4 cn sn Q 712 [(0, .ref b), (1, .ref (z1.2.2.1 0)), (2, .ref (z2.2.2.1 0)), (3, .int v3)] [] σ1 σ2 (lw_c12 N xs Ln rc v3 σ1 σ2) := by
  unfold lw_c12
  refine V2_aload_n 1 X dL_law_712 rfl rfl ?_
  refine V2_aload_n 0 X dL_law_713 rfl rfl ?_
  refine V2_iload_n 3 X dL_law_714 rfl rfl ?_
  refine V2_iconst (v := 1) X dL_law_715 (by decide) ?_
  refine V2_iadd X dL_law_716 ?_
  refine V2_sld X dL_law_717 ?_
  refine V2_aload_n 0 X dL_law_718 rfl rfl ?_
  refine V2_iload_n 3 X dL_law_719 rfl rfl ?_
  refine V2_iconst (v := 2) X dL_law_720 (by decide) ?_
  refine V2_iadd X dL_law_721 ?_
  refine V2_sld X dL_law_722 ?_
  refine V2_callI1 [.int (xs (v3 + 1).toNatClampNeg), .int (xs (v3 + 2).toNatClampNeg)] [] X dL_law_723 (kX11_turn x.2.1 z1 hZ1 N 0 hk1 (xs (v3 + 1).toNatClampNeg) (xs (v3 + 2).toNatClampNeg) σ1) co11 hk1 gcL_67 hyL_X11_turn rfl ⟨by decide, by decide⟩ rfl (Nat.le_of_ble_eq_true rfl) hcr (fun r1 s2 => ?_)
  refine V2_aload_n 2 X dL_law_726 rfl rfl ?_
  refine V2_aload_n 0 X dL_law_727 rfl rfl ?_
  refine V2_iload_n 3 X dL_law_728 rfl rfl ?_
  refine V2_iconst (v := 1) X dL_law_729 (by decide) ?_
  refine V2_iadd X dL_law_730 ?_
  refine V2_sld X dL_law_731 ?_
  refine V2_aload_n 0 X dL_law_732 rfl rfl ?_
  refine V2_iload_n 3 X dL_law_733 rfl rfl ?_
  refine V2_iconst (v := 2) X dL_law_734 (by decide) ?_
  refine V2_iadd X dL_law_735 ?_
  refine V2_sld X dL_law_736 ?_
  refine V2_callI2 [.int (xs (v3 + 1).toNatClampNeg), .int (xs (v3 + 2).toNatClampNeg)] [.int r1] X dL_law_737 (kX12_turn x.2.1 z2 hZ2 N (xs (v3 + 1).toNatClampNeg) (xs (v3 + 2).toNatClampNeg) σ2) co12 hk2 gcL_70 hyL_X12_turn rfl ⟨by decide, by decide⟩ rfl (Nat.le_of_ble_eq_true rfl) hcr (fun r3 s4 => ?_)
  refine V2_icmp_eq (tgt := 2049) X dL_law_740 (by decide) ?_ ?_
  · exact hrec v3 s2 s4
  · refine V2_iconst (v := 0) X dL_law_743 (by decide) ?_
    exact fun q => absurd q (by decide)
set_option maxRecDepth 100000 in
set_option maxHeartbeats 4000000 in
theorem lv_c13 {x : Cx} {z z1 z2 : Sx} {b Ln cn sn : Nat} {xs : Nat → Int32} {Q : State → Prop} (X : X2 x z z1 z2 code 4 20 487 b Ln xs) (hZ1 : z1.2.2.2.1 = kdC) (hZ2 : z2.2.2.2.1 = kdM) (hk1 : z1.2.2.2.1 0 = (11, 0)) (hk2 : z2.2.2.2.1 0 = (12, 0)) (hcr : ∀ R : Room, (match x with | (_, _, _, R', _) => R') = R → cn ≤ R.cells ∧ sn ≤ R.slots) (N : Nat) (rc : Int32 → Mem → Mem → Option Int32) (hrec : ∀ (v3 : Int32) (σ1 σ2 : Mem), V2 x z z1 z2 4 cn sn Q 2049 [(0, .ref b), (1, .ref (z1.2.2.1 0)), (2, .ref (z2.2.2.1 0)), (3, .int v3)] [] σ1 σ2 (rc v3 σ1 σ2)) (v3 : Int32) (σ1 σ2 : Mem) : V2 x z z1 z2 4 cn sn Q 745 [(0, .ref b), (1, .ref (z1.2.2.1 0)), (2, .ref (z2.2.2.1 0)), (3, .int v3)] [] σ1 σ2 (lw_c13 N xs Ln rc v3 σ1 σ2) := by
  unfold lw_c13
  refine V2_aload_n 1 X dL_law_745 rfl rfl ?_
  refine V2_aload_n 0 X dL_law_746 rfl rfl ?_
  refine V2_iload_n 3 X dL_law_747 rfl rfl ?_
  refine V2_iconst (v := 1) X dL_law_748 (by decide) ?_
  refine V2_iadd X dL_law_749 ?_
  refine V2_sld X dL_law_750 ?_
  refine V2_aload_n 0 X dL_law_751 rfl rfl ?_
  refine V2_iload_n 3 X dL_law_752 rfl rfl ?_
  refine V2_iconst (v := 2) X dL_law_753 (by decide) ?_
  refine V2_iadd X dL_law_754 ?_
  refine V2_sld X dL_law_755 ?_
  refine V2_callI1 [.int (xs (v3 + 1).toNatClampNeg), .int (xs (v3 + 2).toNatClampNeg)] [] X dL_law_756 (kX11_nearest x.2.1 z1 hZ1 N 0 hk1 (xs (v3 + 1).toNatClampNeg) (xs (v3 + 2).toNatClampNeg) σ1) co11 hk1 gcL_71 hyL_X11_nearest rfl ⟨by decide, by decide⟩ rfl (Nat.le_of_ble_eq_true rfl) hcr (fun r1 s2 => ?_)
  refine V2_aload_n 2 X dL_law_759 rfl rfl ?_
  refine V2_aload_n 0 X dL_law_760 rfl rfl ?_
  refine V2_iload_n 3 X dL_law_761 rfl rfl ?_
  refine V2_iconst (v := 1) X dL_law_762 (by decide) ?_
  refine V2_iadd X dL_law_763 ?_
  refine V2_sld X dL_law_764 ?_
  refine V2_aload_n 0 X dL_law_765 rfl rfl ?_
  refine V2_iload_n 3 X dL_law_766 rfl rfl ?_
  refine V2_iconst (v := 2) X dL_law_767 (by decide) ?_
  refine V2_iadd X dL_law_768 ?_
  refine V2_sld X dL_law_769 ?_
  refine V2_callI2 [.int (xs (v3 + 1).toNatClampNeg), .int (xs (v3 + 2).toNatClampNeg)] [.int r1] X dL_law_770 (kX12_nearest x.2.1 z2 hZ2 N (xs (v3 + 1).toNatClampNeg) (xs (v3 + 2).toNatClampNeg) σ2) co12 hk2 gcL_74 hyL_X12_nearest rfl ⟨by decide, by decide⟩ rfl (Nat.le_of_ble_eq_true rfl) hcr (fun r3 s4 => ?_)
  refine V2_icmp_eq (tgt := 2049) X dL_law_773 (by decide) ?_ ?_
  · exact hrec v3 s2 s4
  · refine V2_iconst (v := 0) X dL_law_776 (by decide) ?_
    exact fun q => absurd q (by decide)
set_option maxRecDepth 100000 in
set_option maxHeartbeats 4000000 in
theorem lv_c14 {x : Cx} {z z1 z2 : Sx} {b Ln cn sn : Nat} {xs : Nat → Int32} {Q : State → Prop} (X : X2 x z z1 z2 code 4 20 487 b Ln xs) (hZ1 : z1.2.2.2.1 = kdC) (hZ2 : z2.2.2.2.1 = kdM) (hk1 : z1.2.2.2.1 0 = (11, 0)) (hk2 : z2.2.2.2.1 0 = (12, 0)) (hcr : ∀ R : Room, (match x with | (_, _, _, R', _) => R') = R → cn ≤ R.cells ∧ sn ≤ R.slots) (N : Nat) (rc : Int32 → Mem → Mem → Option Int32) (hrec : ∀ (v3 : Int32) (σ1 σ2 : Mem), V2 x z z1 z2 4 cn sn Q 2049 [(0, .ref b), (1, .ref (z1.2.2.1 0)), (2, .ref (z2.2.2.1 0)), (3, .int v3)] [] σ1 σ2 (rc v3 σ1 σ2)) (v3 : Int32) (σ1 σ2 : Mem) : V2 x z z1 z2 4 cn sn Q 778 [(0, .ref b), (1, .ref (z1.2.2.1 0)), (2, .ref (z2.2.2.1 0)), (3, .int v3)] [] σ1 σ2 (lw_c14 N xs Ln rc v3 σ1 σ2) := by
  unfold lw_c14
  refine V2_aload_n 1 X dL_law_778 rfl rfl ?_
  refine V2_aload_n 0 X dL_law_779 rfl rfl ?_
  refine V2_iload_n 3 X dL_law_780 rfl rfl ?_
  refine V2_iconst (v := 1) X dL_law_781 (by decide) ?_
  refine V2_iadd X dL_law_782 ?_
  refine V2_sld X dL_law_783 ?_
  refine V2_aload_n 0 X dL_law_784 rfl rfl ?_
  refine V2_iload_n 3 X dL_law_785 rfl rfl ?_
  refine V2_iconst (v := 2) X dL_law_786 (by decide) ?_
  refine V2_iadd X dL_law_787 ?_
  refine V2_sld X dL_law_788 ?_
  refine V2_aload_n 0 X dL_law_789 rfl rfl ?_
  refine V2_iload_n 3 X dL_law_790 rfl rfl ?_
  refine V2_iconst (v := 3) X dL_law_791 (by decide) ?_
  refine V2_iadd X dL_law_792 ?_
  refine V2_sld X dL_law_793 ?_
  refine V2_aload_n 0 X dL_law_794 rfl rfl ?_
  refine V2_iload_n 3 X dL_law_795 rfl rfl ?_
  refine V2_iconst (v := 4) X dL_law_796 (by decide) ?_
  refine V2_iadd X dL_law_797 ?_
  refine V2_sld X dL_law_798 ?_
  refine V2_if_eq (tgt := 806) X dL_law_799 (by decide) ?_ ?_
  · refine V2_iconst (v := 0) X dL_law_806 (by decide) ?_
    refine V2_callI1 [.int (xs (v3 + 1).toNatClampNeg), .int (xs (v3 + 2).toNatClampNeg), .int (xs (v3 + 3).toNatClampNeg), .int 0] [] X dL_law_807 (kX11_lobby x.2.1 z1 hZ1 N 0 hk1 (xs (v3 + 1).toNatClampNeg) (xs (v3 + 2).toNatClampNeg) (xs (v3 + 3).toNatClampNeg) 0 σ1) co11 hk1 gcL_75 hyL_X11_lobby rfl ⟨by decide, by decide⟩ rfl (Nat.le_of_ble_eq_true rfl) hcr (fun r1 s2 => ?_)
    refine V2_aload_n 2 X dL_law_810 rfl rfl ?_
    refine V2_aload_n 0 X dL_law_811 rfl rfl ?_
    refine V2_iload_n 3 X dL_law_812 rfl rfl ?_
    refine V2_iconst (v := 1) X dL_law_813 (by decide) ?_
    refine V2_iadd X dL_law_814 ?_
    refine V2_sld X dL_law_815 ?_
    refine V2_aload_n 0 X dL_law_816 rfl rfl ?_
    refine V2_iload_n 3 X dL_law_817 rfl rfl ?_
    refine V2_iconst (v := 2) X dL_law_818 (by decide) ?_
    refine V2_iadd X dL_law_819 ?_
    refine V2_sld X dL_law_820 ?_
    refine V2_aload_n 0 X dL_law_821 rfl rfl ?_
    refine V2_iload_n 3 X dL_law_822 rfl rfl ?_
    refine V2_iconst (v := 3) X dL_law_823 (by decide) ?_
    refine V2_iadd X dL_law_824 ?_
    refine V2_sld X dL_law_825 ?_
    refine V2_aload_n 0 X dL_law_826 rfl rfl ?_
    refine V2_iload_n 3 X dL_law_827 rfl rfl ?_
    refine V2_iconst (v := 4) X dL_law_828 (by decide) ?_
    refine V2_iadd X dL_law_829 ?_
    refine V2_sld X dL_law_830 ?_
    refine V2_if_eq (tgt := 838) X dL_law_831 (by decide) ?_ ?_
    · refine V2_iconst (v := 0) X dL_law_838 (by decide) ?_
      refine V2_callI2 [.int (xs (v3 + 1).toNatClampNeg), .int (xs (v3 + 2).toNatClampNeg), .int (xs (v3 + 3).toNatClampNeg), .int 0] [.int r1] X dL_law_839 (kX12_lobby x.2.1 z2 hZ2 N (xs (v3 + 1).toNatClampNeg) (xs (v3 + 2).toNatClampNeg) (xs (v3 + 3).toNatClampNeg) 0 σ2) co12 hk2 gcL_79 hyL_X12_lobby rfl ⟨by decide, by decide⟩ rfl (Nat.le_of_ble_eq_true rfl) hcr (fun r3 s4 => ?_)
      refine V2_icmp_eq (tgt := 2049) X dL_law_842 (by decide) ?_ ?_
      · exact hrec v3 s2 s4
      · refine V2_iconst (v := 0) X dL_law_845 (by decide) ?_
        exact fun q => absurd q (by decide)
    · refine V2_iconst (v := 1) X dL_law_834 (by decide) ?_
      refine V2_goto (tgt := 839) X dL_law_835 (by decide) ?_
      refine V2_callI2 [.int (xs (v3 + 1).toNatClampNeg), .int (xs (v3 + 2).toNatClampNeg), .int (xs (v3 + 3).toNatClampNeg), .int 1] [.int r1] X dL_law_839 (kX12_lobby x.2.1 z2 hZ2 N (xs (v3 + 1).toNatClampNeg) (xs (v3 + 2).toNatClampNeg) (xs (v3 + 3).toNatClampNeg) 1 σ2) co12 hk2 gcL_79 hyL_X12_lobby rfl ⟨by decide, by decide⟩ rfl (Nat.le_of_ble_eq_true rfl) hcr (fun r5 s6 => ?_)
      refine V2_icmp_eq (tgt := 2049) X dL_law_842 (by decide) ?_ ?_
      · exact hrec v3 s2 s6
      · refine V2_iconst (v := 0) X dL_law_845 (by decide) ?_
        exact fun q => absurd q (by decide)
  · refine V2_iconst (v := 1) X dL_law_802 (by decide) ?_
    refine V2_goto (tgt := 807) X dL_law_803 (by decide) ?_
    refine V2_callI1 [.int (xs (v3 + 1).toNatClampNeg), .int (xs (v3 + 2).toNatClampNeg), .int (xs (v3 + 3).toNatClampNeg), .int 1] [] X dL_law_807 (kX11_lobby x.2.1 z1 hZ1 N 0 hk1 (xs (v3 + 1).toNatClampNeg) (xs (v3 + 2).toNatClampNeg) (xs (v3 + 3).toNatClampNeg) 1 σ1) co11 hk1 gcL_75 hyL_X11_lobby rfl ⟨by decide, by decide⟩ rfl (Nat.le_of_ble_eq_true rfl) hcr (fun r7 s8 => ?_)
    refine V2_aload_n 2 X dL_law_810 rfl rfl ?_
    refine V2_aload_n 0 X dL_law_811 rfl rfl ?_
    refine V2_iload_n 3 X dL_law_812 rfl rfl ?_
    refine V2_iconst (v := 1) X dL_law_813 (by decide) ?_
    refine V2_iadd X dL_law_814 ?_
    refine V2_sld X dL_law_815 ?_
    refine V2_aload_n 0 X dL_law_816 rfl rfl ?_
    refine V2_iload_n 3 X dL_law_817 rfl rfl ?_
    refine V2_iconst (v := 2) X dL_law_818 (by decide) ?_
    refine V2_iadd X dL_law_819 ?_
    refine V2_sld X dL_law_820 ?_
    refine V2_aload_n 0 X dL_law_821 rfl rfl ?_
    refine V2_iload_n 3 X dL_law_822 rfl rfl ?_
    refine V2_iconst (v := 3) X dL_law_823 (by decide) ?_
    refine V2_iadd X dL_law_824 ?_
    refine V2_sld X dL_law_825 ?_
    refine V2_aload_n 0 X dL_law_826 rfl rfl ?_
    refine V2_iload_n 3 X dL_law_827 rfl rfl ?_
    refine V2_iconst (v := 4) X dL_law_828 (by decide) ?_
    refine V2_iadd X dL_law_829 ?_
    refine V2_sld X dL_law_830 ?_
    refine V2_if_eq (tgt := 838) X dL_law_831 (by decide) ?_ ?_
    · refine V2_iconst (v := 0) X dL_law_838 (by decide) ?_
      refine V2_callI2 [.int (xs (v3 + 1).toNatClampNeg), .int (xs (v3 + 2).toNatClampNeg), .int (xs (v3 + 3).toNatClampNeg), .int 0] [.int r7] X dL_law_839 (kX12_lobby x.2.1 z2 hZ2 N (xs (v3 + 1).toNatClampNeg) (xs (v3 + 2).toNatClampNeg) (xs (v3 + 3).toNatClampNeg) 0 σ2) co12 hk2 gcL_79 hyL_X12_lobby rfl ⟨by decide, by decide⟩ rfl (Nat.le_of_ble_eq_true rfl) hcr (fun r9 s10 => ?_)
      refine V2_icmp_eq (tgt := 2049) X dL_law_842 (by decide) ?_ ?_
      · exact hrec v3 s8 s10
      · refine V2_iconst (v := 0) X dL_law_845 (by decide) ?_
        exact fun q => absurd q (by decide)
    · refine V2_iconst (v := 1) X dL_law_834 (by decide) ?_
      refine V2_goto (tgt := 839) X dL_law_835 (by decide) ?_
      refine V2_callI2 [.int (xs (v3 + 1).toNatClampNeg), .int (xs (v3 + 2).toNatClampNeg), .int (xs (v3 + 3).toNatClampNeg), .int 1] [.int r7] X dL_law_839 (kX12_lobby x.2.1 z2 hZ2 N (xs (v3 + 1).toNatClampNeg) (xs (v3 + 2).toNatClampNeg) (xs (v3 + 3).toNatClampNeg) 1 σ2) co12 hk2 gcL_79 hyL_X12_lobby rfl ⟨by decide, by decide⟩ rfl (Nat.le_of_ble_eq_true rfl) hcr (fun r11 s12 => ?_)
      refine V2_icmp_eq (tgt := 2049) X dL_law_842 (by decide) ?_ ?_
      · exact hrec v3 s8 s12
      · refine V2_iconst (v := 0) X dL_law_845 (by decide) ?_
        exact fun q => absurd q (by decide)
set_option maxRecDepth 100000 in
set_option maxHeartbeats 4000000 in
theorem lv_c15 {x : Cx} {z z1 z2 : Sx} {b Ln cn sn : Nat} {xs : Nat → Int32} {Q : State → Prop} (X : X2 x z z1 z2 code 4 20 487 b Ln xs) (hZ1 : z1.2.2.2.1 = kdC) (hZ2 : z2.2.2.2.1 = kdM) (hk1 : z1.2.2.2.1 0 = (11, 0)) (hk2 : z2.2.2.2.1 0 = (12, 0)) (hcr : ∀ R : Room, (match x with | (_, _, _, R', _) => R') = R → cn ≤ R.cells ∧ sn ≤ R.slots) (N : Nat) (rc : Int32 → Mem → Mem → Option Int32) (hrec : ∀ (v3 : Int32) (σ1 σ2 : Mem), V2 x z z1 z2 4 cn sn Q 2049 [(0, .ref b), (1, .ref (z1.2.2.1 0)), (2, .ref (z2.2.2.1 0)), (3, .int v3)] [] σ1 σ2 (rc v3 σ1 σ2)) (v3 : Int32) (σ1 σ2 : Mem) : V2 x z z1 z2 4 cn sn Q 847 [(0, .ref b), (1, .ref (z1.2.2.1 0)), (2, .ref (z2.2.2.1 0)), (3, .int v3)] [] σ1 σ2 (lw_c15 N xs Ln rc v3 σ1 σ2) := by
  unfold lw_c15
  refine V2_aload_n 1 X dL_law_847 rfl rfl ?_
  refine V2_aload_n 0 X dL_law_848 rfl rfl ?_
  refine V2_iload_n 3 X dL_law_849 rfl rfl ?_
  refine V2_iconst (v := 1) X dL_law_850 (by decide) ?_
  refine V2_iadd X dL_law_851 ?_
  refine V2_sld X dL_law_852 ?_
  refine V2_aload_n 0 X dL_law_853 rfl rfl ?_
  refine V2_iload_n 3 X dL_law_854 rfl rfl ?_
  refine V2_iconst (v := 2) X dL_law_855 (by decide) ?_
  refine V2_iadd X dL_law_856 ?_
  refine V2_sld X dL_law_857 ?_
  refine V2_callI1 [.int (xs (v3 + 1).toNatClampNeg), .int (xs (v3 + 2).toNatClampNeg)] [] X dL_law_858 (kX11_power x.2.1 z1 hZ1 N 0 hk1 (xs (v3 + 1).toNatClampNeg) (xs (v3 + 2).toNatClampNeg) σ1) co11 hk1 gcL_80 hyL_X11_power rfl ⟨by decide, by decide⟩ rfl (Nat.le_of_ble_eq_true rfl) hcr (fun r1 s2 => ?_)
  refine V2_aload_n 2 X dL_law_861 rfl rfl ?_
  refine V2_aload_n 0 X dL_law_862 rfl rfl ?_
  refine V2_iload_n 3 X dL_law_863 rfl rfl ?_
  refine V2_iconst (v := 1) X dL_law_864 (by decide) ?_
  refine V2_iadd X dL_law_865 ?_
  refine V2_sld X dL_law_866 ?_
  refine V2_aload_n 0 X dL_law_867 rfl rfl ?_
  refine V2_iload_n 3 X dL_law_868 rfl rfl ?_
  refine V2_iconst (v := 2) X dL_law_869 (by decide) ?_
  refine V2_iadd X dL_law_870 ?_
  refine V2_sld X dL_law_871 ?_
  refine V2_callI2 [.int (xs (v3 + 1).toNatClampNeg), .int (xs (v3 + 2).toNatClampNeg)] [.int r1] X dL_law_872 (kX12_power x.2.1 z2 hZ2 N (xs (v3 + 1).toNatClampNeg) (xs (v3 + 2).toNatClampNeg) σ2) co12 hk2 gcL_83 hyL_X12_power rfl ⟨by decide, by decide⟩ rfl (Nat.le_of_ble_eq_true rfl) hcr (fun r3 s4 => ?_)
  refine V2_icmp_eq (tgt := 2049) X dL_law_875 (by decide) ?_ ?_
  · exact hrec v3 s2 s4
  · refine V2_iconst (v := 0) X dL_law_878 (by decide) ?_
    exact fun q => absurd q (by decide)
set_option maxRecDepth 100000 in
set_option maxHeartbeats 4000000 in
theorem lv_c16 {x : Cx} {z z1 z2 : Sx} {b Ln cn sn : Nat} {xs : Nat → Int32} {Q : State → Prop} (X : X2 x z z1 z2 code 4 20 487 b Ln xs) (hZ1 : z1.2.2.2.1 = kdC) (hZ2 : z2.2.2.2.1 = kdM) (hk1 : z1.2.2.2.1 0 = (11, 0)) (hk2 : z2.2.2.2.1 0 = (12, 0)) (hcr : ∀ R : Room, (match x with | (_, _, _, R', _) => R') = R → cn ≤ R.cells ∧ sn ≤ R.slots) (N : Nat) (rc : Int32 → Mem → Mem → Option Int32) (hrec : ∀ (v3 : Int32) (σ1 σ2 : Mem), V2 x z z1 z2 4 cn sn Q 2049 [(0, .ref b), (1, .ref (z1.2.2.1 0)), (2, .ref (z2.2.2.1 0)), (3, .int v3)] [] σ1 σ2 (rc v3 σ1 σ2)) (v3 : Int32) (σ1 σ2 : Mem) : V2 x z z1 z2 4 cn sn Q 880 [(0, .ref b), (1, .ref (z1.2.2.1 0)), (2, .ref (z2.2.2.1 0)), (3, .int v3)] [] σ1 σ2 (lw_c16 N xs Ln rc v3 σ1 σ2) := by
  unfold lw_c16
  refine V2_aload_n 1 X dL_law_880 rfl rfl ?_
  refine V2_aload_n 0 X dL_law_881 rfl rfl ?_
  refine V2_iload_n 3 X dL_law_882 rfl rfl ?_
  refine V2_iconst (v := 1) X dL_law_883 (by decide) ?_
  refine V2_iadd X dL_law_884 ?_
  refine V2_sld X dL_law_885 ?_
  refine V2_aload_n 0 X dL_law_886 rfl rfl ?_
  refine V2_iload_n 3 X dL_law_887 rfl rfl ?_
  refine V2_iconst (v := 2) X dL_law_888 (by decide) ?_
  refine V2_iadd X dL_law_889 ?_
  refine V2_sld X dL_law_890 ?_
  refine V2_aload_n 0 X dL_law_891 rfl rfl ?_
  refine V2_iload_n 3 X dL_law_892 rfl rfl ?_
  refine V2_iconst (v := 3) X dL_law_893 (by decide) ?_
  refine V2_iadd X dL_law_894 ?_
  refine V2_sld X dL_law_895 ?_
  refine V2_aload_n 0 X dL_law_896 rfl rfl ?_
  refine V2_iload_n 3 X dL_law_897 rfl rfl ?_
  refine V2_iconst (v := 4) X dL_law_898 (by decide) ?_
  refine V2_iadd X dL_law_899 ?_
  refine V2_sld X dL_law_900 ?_
  refine V2_aload_n 0 X dL_law_901 rfl rfl ?_
  refine V2_iload_n 3 X dL_law_902 rfl rfl ?_
  refine V2_iconst (v := 5) X dL_law_903 (by decide) ?_
  refine V2_iadd X dL_law_904 ?_
  refine V2_sld X dL_law_905 ?_
  refine V2_if_eq (tgt := 913) X dL_law_906 (by decide) ?_ ?_
  · refine V2_iconst (v := 0) X dL_law_913 (by decide) ?_
    refine V2_callL1 [.int (xs (v3 + 1).toNatClampNeg), .int (xs (v3 + 2).toNatClampNeg), .int (xs (v3 + 3).toNatClampNeg), .int (xs (v3 + 4).toNatClampNeg), .int 0] [] X dL_law_914 (kX11_weather x.2.1 z1 hZ1 N 0 hk1 (xs (v3 + 1).toNatClampNeg) (xs (v3 + 2).toNatClampNeg) (xs (v3 + 3).toNatClampNeg) (xs (v3 + 4).toNatClampNeg) 0 σ1) co11 hk1 gcL_84 hyL_X11_weather rfl ⟨by decide, by decide⟩ rfl (Nat.le_of_ble_eq_true rfl) hcr (fun r1 s2 => ?_)
    refine V2_aload_n 2 X dL_law_917 rfl rfl ?_
    refine V2_aload_n 0 X dL_law_918 rfl rfl ?_
    refine V2_iload_n 3 X dL_law_919 rfl rfl ?_
    refine V2_iconst (v := 1) X dL_law_920 (by decide) ?_
    refine V2_iadd X dL_law_921 ?_
    refine V2_sld X dL_law_922 ?_
    refine V2_aload_n 0 X dL_law_923 rfl rfl ?_
    refine V2_iload_n 3 X dL_law_924 rfl rfl ?_
    refine V2_iconst (v := 2) X dL_law_925 (by decide) ?_
    refine V2_iadd X dL_law_926 ?_
    refine V2_sld X dL_law_927 ?_
    refine V2_aload_n 0 X dL_law_928 rfl rfl ?_
    refine V2_iload_n 3 X dL_law_929 rfl rfl ?_
    refine V2_iconst (v := 3) X dL_law_930 (by decide) ?_
    refine V2_iadd X dL_law_931 ?_
    refine V2_sld X dL_law_932 ?_
    refine V2_aload_n 0 X dL_law_933 rfl rfl ?_
    refine V2_iload_n 3 X dL_law_934 rfl rfl ?_
    refine V2_iconst (v := 4) X dL_law_935 (by decide) ?_
    refine V2_iadd X dL_law_936 ?_
    refine V2_sld X dL_law_937 ?_
    refine V2_aload_n 0 X dL_law_938 rfl rfl ?_
    refine V2_iload_n 3 X dL_law_939 rfl rfl ?_
    refine V2_iconst (v := 5) X dL_law_940 (by decide) ?_
    refine V2_iadd X dL_law_941 ?_
    refine V2_sld X dL_law_942 ?_
    refine V2_if_eq (tgt := 950) X dL_law_943 (by decide) ?_ ?_
    · refine V2_iconst (v := 0) X dL_law_950 (by decide) ?_
      refine V2_callL2 [.int (xs (v3 + 1).toNatClampNeg), .int (xs (v3 + 2).toNatClampNeg), .int (xs (v3 + 3).toNatClampNeg), .int (xs (v3 + 4).toNatClampNeg), .int 0] [.long r1] X dL_law_951 (kX12_weather x.2.1 z2 hZ2 N (xs (v3 + 1).toNatClampNeg) (xs (v3 + 2).toNatClampNeg) (xs (v3 + 3).toNatClampNeg) (xs (v3 + 4).toNatClampNeg) 0 σ2) co12 hk2 gcL_88 hyL_X12_weather rfl ⟨by decide, by decide⟩ rfl (Nat.le_of_ble_eq_true rfl) hcr (fun r3 s4 => ?_)
      refine V2_lcmp X dL_law_954 ?_
      refine V2_if_eq (tgt := 2049) X dL_law_955 (by decide) ?_ ?_
      · exact hrec v3 s2 s4
      · refine V2_iconst (v := 0) X dL_law_958 (by decide) ?_
        exact fun q => absurd q (by decide)
    · refine V2_iconst (v := 1) X dL_law_946 (by decide) ?_
      refine V2_goto (tgt := 951) X dL_law_947 (by decide) ?_
      refine V2_callL2 [.int (xs (v3 + 1).toNatClampNeg), .int (xs (v3 + 2).toNatClampNeg), .int (xs (v3 + 3).toNatClampNeg), .int (xs (v3 + 4).toNatClampNeg), .int 1] [.long r1] X dL_law_951 (kX12_weather x.2.1 z2 hZ2 N (xs (v3 + 1).toNatClampNeg) (xs (v3 + 2).toNatClampNeg) (xs (v3 + 3).toNatClampNeg) (xs (v3 + 4).toNatClampNeg) 1 σ2) co12 hk2 gcL_88 hyL_X12_weather rfl ⟨by decide, by decide⟩ rfl (Nat.le_of_ble_eq_true rfl) hcr (fun r5 s6 => ?_)
      refine V2_lcmp X dL_law_954 ?_
      refine V2_if_eq (tgt := 2049) X dL_law_955 (by decide) ?_ ?_
      · exact hrec v3 s2 s6
      · refine V2_iconst (v := 0) X dL_law_958 (by decide) ?_
        exact fun q => absurd q (by decide)
  · refine V2_iconst (v := 1) X dL_law_909 (by decide) ?_
    refine V2_goto (tgt := 914) X dL_law_910 (by decide) ?_
    refine V2_callL1 [.int (xs (v3 + 1).toNatClampNeg), .int (xs (v3 + 2).toNatClampNeg), .int (xs (v3 + 3).toNatClampNeg), .int (xs (v3 + 4).toNatClampNeg), .int 1] [] X dL_law_914 (kX11_weather x.2.1 z1 hZ1 N 0 hk1 (xs (v3 + 1).toNatClampNeg) (xs (v3 + 2).toNatClampNeg) (xs (v3 + 3).toNatClampNeg) (xs (v3 + 4).toNatClampNeg) 1 σ1) co11 hk1 gcL_84 hyL_X11_weather rfl ⟨by decide, by decide⟩ rfl (Nat.le_of_ble_eq_true rfl) hcr (fun r7 s8 => ?_)
    refine V2_aload_n 2 X dL_law_917 rfl rfl ?_
    refine V2_aload_n 0 X dL_law_918 rfl rfl ?_
    refine V2_iload_n 3 X dL_law_919 rfl rfl ?_
    refine V2_iconst (v := 1) X dL_law_920 (by decide) ?_
    refine V2_iadd X dL_law_921 ?_
    refine V2_sld X dL_law_922 ?_
    refine V2_aload_n 0 X dL_law_923 rfl rfl ?_
    refine V2_iload_n 3 X dL_law_924 rfl rfl ?_
    refine V2_iconst (v := 2) X dL_law_925 (by decide) ?_
    refine V2_iadd X dL_law_926 ?_
    refine V2_sld X dL_law_927 ?_
    refine V2_aload_n 0 X dL_law_928 rfl rfl ?_
    refine V2_iload_n 3 X dL_law_929 rfl rfl ?_
    refine V2_iconst (v := 3) X dL_law_930 (by decide) ?_
    refine V2_iadd X dL_law_931 ?_
    refine V2_sld X dL_law_932 ?_
    refine V2_aload_n 0 X dL_law_933 rfl rfl ?_
    refine V2_iload_n 3 X dL_law_934 rfl rfl ?_
    refine V2_iconst (v := 4) X dL_law_935 (by decide) ?_
    refine V2_iadd X dL_law_936 ?_
    refine V2_sld X dL_law_937 ?_
    refine V2_aload_n 0 X dL_law_938 rfl rfl ?_
    refine V2_iload_n 3 X dL_law_939 rfl rfl ?_
    refine V2_iconst (v := 5) X dL_law_940 (by decide) ?_
    refine V2_iadd X dL_law_941 ?_
    refine V2_sld X dL_law_942 ?_
    refine V2_if_eq (tgt := 950) X dL_law_943 (by decide) ?_ ?_
    · refine V2_iconst (v := 0) X dL_law_950 (by decide) ?_
      refine V2_callL2 [.int (xs (v3 + 1).toNatClampNeg), .int (xs (v3 + 2).toNatClampNeg), .int (xs (v3 + 3).toNatClampNeg), .int (xs (v3 + 4).toNatClampNeg), .int 0] [.long r7] X dL_law_951 (kX12_weather x.2.1 z2 hZ2 N (xs (v3 + 1).toNatClampNeg) (xs (v3 + 2).toNatClampNeg) (xs (v3 + 3).toNatClampNeg) (xs (v3 + 4).toNatClampNeg) 0 σ2) co12 hk2 gcL_88 hyL_X12_weather rfl ⟨by decide, by decide⟩ rfl (Nat.le_of_ble_eq_true rfl) hcr (fun r9 s10 => ?_)
      refine V2_lcmp X dL_law_954 ?_
      refine V2_if_eq (tgt := 2049) X dL_law_955 (by decide) ?_ ?_
      · exact hrec v3 s8 s10
      · refine V2_iconst (v := 0) X dL_law_958 (by decide) ?_
        exact fun q => absurd q (by decide)
    · refine V2_iconst (v := 1) X dL_law_946 (by decide) ?_
      refine V2_goto (tgt := 951) X dL_law_947 (by decide) ?_
      refine V2_callL2 [.int (xs (v3 + 1).toNatClampNeg), .int (xs (v3 + 2).toNatClampNeg), .int (xs (v3 + 3).toNatClampNeg), .int (xs (v3 + 4).toNatClampNeg), .int 1] [.long r7] X dL_law_951 (kX12_weather x.2.1 z2 hZ2 N (xs (v3 + 1).toNatClampNeg) (xs (v3 + 2).toNatClampNeg) (xs (v3 + 3).toNatClampNeg) (xs (v3 + 4).toNatClampNeg) 1 σ2) co12 hk2 gcL_88 hyL_X12_weather rfl ⟨by decide, by decide⟩ rfl (Nat.le_of_ble_eq_true rfl) hcr (fun r11 s12 => ?_)
      refine V2_lcmp X dL_law_954 ?_
      refine V2_if_eq (tgt := 2049) X dL_law_955 (by decide) ?_ ?_
      · exact hrec v3 s8 s12
      · refine V2_iconst (v := 0) X dL_law_958 (by decide) ?_
        exact fun q => absurd q (by decide)
set_option maxRecDepth 100000 in
set_option maxHeartbeats 4000000 in
theorem lv_c17 {x : Cx} {z z1 z2 : Sx} {b Ln cn sn : Nat} {xs : Nat → Int32} {Q : State → Prop} (X : X2 x z z1 z2 code 4 20 487 b Ln xs) (hZ1 : z1.2.2.2.1 = kdC) (hZ2 : z2.2.2.2.1 = kdM) (hk1 : z1.2.2.2.1 0 = (11, 0)) (hk2 : z2.2.2.2.1 0 = (12, 0)) (hcr : ∀ R : Room, (match x with | (_, _, _, R', _) => R') = R → cn ≤ R.cells ∧ sn ≤ R.slots) (N : Nat) (rc : Int32 → Mem → Mem → Option Int32) (hrec : ∀ (v3 : Int32) (σ1 σ2 : Mem), V2 x z z1 z2 4 cn sn Q 2049 [(0, .ref b), (1, .ref (z1.2.2.1 0)), (2, .ref (z2.2.2.1 0)), (3, .int v3)] [] σ1 σ2 (rc v3 σ1 σ2)) (v3 : Int32) (σ1 σ2 : Mem) : V2 x z z1 z2 4 cn sn Q 960 [(0, .ref b), (1, .ref (z1.2.2.1 0)), (2, .ref (z2.2.2.1 0)), (3, .int v3)] [] σ1 σ2 (lw_c17 N xs Ln rc v3 σ1 σ2) := by
  unfold lw_c17
  refine V2_aload_n 1 X dL_law_960 rfl rfl ?_
  refine V2_aload_n 0 X dL_law_961 rfl rfl ?_
  refine V2_iload_n 3 X dL_law_962 rfl rfl ?_
  refine V2_iconst (v := 1) X dL_law_963 (by decide) ?_
  refine V2_iadd X dL_law_964 ?_
  refine V2_sld X dL_law_965 ?_
  refine V2_aload_n 0 X dL_law_966 rfl rfl ?_
  refine V2_iload_n 3 X dL_law_967 rfl rfl ?_
  refine V2_iconst (v := 2) X dL_law_968 (by decide) ?_
  refine V2_iadd X dL_law_969 ?_
  refine V2_sld X dL_law_970 ?_
  refine V2_aload_n 0 X dL_law_971 rfl rfl ?_
  refine V2_iload_n 3 X dL_law_972 rfl rfl ?_
  refine V2_iconst (v := 3) X dL_law_973 (by decide) ?_
  refine V2_iadd X dL_law_974 ?_
  refine V2_sld X dL_law_975 ?_
  refine V2_callI1 [.int (xs (v3 + 1).toNatClampNeg), .int (xs (v3 + 2).toNatClampNeg), .int (xs (v3 + 3).toNatClampNeg)] [] X dL_law_976 (kX11_fact x.2.1 z1 hZ1 N 0 hk1 (xs (v3 + 1).toNatClampNeg) (xs (v3 + 2).toNatClampNeg) (xs (v3 + 3).toNatClampNeg) σ1) co11 hk1 gcL_89 hyL_X11_fact rfl ⟨by decide, by decide⟩ rfl (Nat.le_of_ble_eq_true rfl) hcr (fun r1 s2 => ?_)
  refine V2_aload_n 2 X dL_law_979 rfl rfl ?_
  refine V2_aload_n 0 X dL_law_980 rfl rfl ?_
  refine V2_iload_n 3 X dL_law_981 rfl rfl ?_
  refine V2_iconst (v := 1) X dL_law_982 (by decide) ?_
  refine V2_iadd X dL_law_983 ?_
  refine V2_sld X dL_law_984 ?_
  refine V2_aload_n 0 X dL_law_985 rfl rfl ?_
  refine V2_iload_n 3 X dL_law_986 rfl rfl ?_
  refine V2_iconst (v := 2) X dL_law_987 (by decide) ?_
  refine V2_iadd X dL_law_988 ?_
  refine V2_sld X dL_law_989 ?_
  refine V2_aload_n 0 X dL_law_990 rfl rfl ?_
  refine V2_iload_n 3 X dL_law_991 rfl rfl ?_
  refine V2_iconst (v := 3) X dL_law_992 (by decide) ?_
  refine V2_iadd X dL_law_993 ?_
  refine V2_sld X dL_law_994 ?_
  refine V2_callI2 [.int (xs (v3 + 1).toNatClampNeg), .int (xs (v3 + 2).toNatClampNeg), .int (xs (v3 + 3).toNatClampNeg)] [.int r1] X dL_law_995 (kX12_fact x.2.1 z2 hZ2 N (xs (v3 + 1).toNatClampNeg) (xs (v3 + 2).toNatClampNeg) (xs (v3 + 3).toNatClampNeg) σ2) co12 hk2 gcL_92 hyL_X12_fact rfl ⟨by decide, by decide⟩ rfl (Nat.le_of_ble_eq_true rfl) hcr (fun r3 s4 => ?_)
  refine V2_icmp_eq (tgt := 2049) X dL_law_998 (by decide) ?_ ?_
  · exact hrec v3 s2 s4
  · refine V2_iconst (v := 0) X dL_law_1001 (by decide) ?_
    exact fun q => absurd q (by decide)
