theorem and63 (v : Int32) : ∃ q, q < 64 ∧ v &&& 63 = Int32.ofNat q := by
  refine ⟨v.toBitVec.toNat % 64, Nat.mod_lt _ (by omega), ?_⟩
  apply Int32.toBitVec_inj.mp
  apply BitVec.eq_of_toNat_eq
  rw [Int32.toBitVec_and, BitVec.toNat_and]
  show v.toBitVec.toNat &&& (2 ^ 6 - 1) = (v.toBitVec.toNat % 64) % 2 ^ 32
  rw [Nat.and_two_pow_sub_one_eq_mod]
  omega
set_option maxRecDepth 100000 in
set_option maxHeartbeats 4000000 in
theorem lv_sw {x : Cx} {z z1 z2 : Sx} {b Ln cn sn : Nat} {xs : Nat → Int32} {Q : State → Prop} (X : X2 x z z1 z2 code 4 20 487 b Ln xs) (hZ1 : z1.2.2.2.1 = kdC) (hZ2 : z2.2.2.2.1 = kdM) (hk1 : z1.2.2.2.1 0 = (11, 0)) (hk2 : z2.2.2.2.1 0 = (12, 0)) (hcr : ∀ R : Room, (match x with | (_, _, _, R', _) => R') = R → cn ≤ R.cells ∧ sn ≤ R.slots) (N : Nat) (rc : Int32 → Mem → Mem → Option Int32) (hrec : ∀ (v3 : Int32) (σ1 σ2 : Mem), V2 x z z1 z2 4 cn sn Q 2049 [(0, .ref b), (1, .ref (z1.2.2.1 0)), (2, .ref (z2.2.2.1 0)), (3, .int v3)] [] σ1 σ2 (rc v3 σ1 σ2)) (w v3 : Int32) (σ1 σ2 : Mem) : V2 x z z1 z2 4 cn sn Q 33 [(0, .ref b), (1, .ref (z1.2.2.1 0)), (2, .ref (z2.2.2.1 0)), (3, .int v3)] [.int (w &&& 63)] σ1 σ2 (lawS N xs Ln rc (w &&& 63) v3 σ1 σ2) := by
  unfold lawS
  refine V2_split (fun e => V2_tabAt (tgt := 220) X dL_law_33 e (by decide) (by decide) rfl (by decide) (lv_c0 X hZ1 hZ2 hk1 hk2 hcr N rc hrec v3 σ1 σ2)) (fun n0 => ?_)
  refine V2_split (fun e => V2_tabAt (tgt := 283) X dL_law_33 e (by decide) (by decide) rfl (by decide) (lv_c1 X hZ1 hZ2 hk1 hk2 hcr N rc hrec v3 σ1 σ2)) (fun n1 => ?_)
  refine V2_split (fun e => V2_tabAt (tgt := 306) X dL_law_33 e (by decide) (by decide) rfl (by decide) (lv_c2 X hZ1 hZ2 hk1 hk2 hcr N rc hrec v3 σ1 σ2)) (fun n2 => ?_)
  refine V2_split (fun e => V2_tabAt (tgt := 339) X dL_law_33 e (by decide) (by decide) rfl (by decide) (lv_c3 X hZ1 hZ2 hk1 hk2 hcr N rc hrec v3 σ1 σ2)) (fun n3 => ?_)
  refine V2_split (fun e => V2_tabAt (tgt := 362) X dL_law_33 e (by decide) (by decide) rfl (by decide) (lv_c4 X hZ1 hZ2 hk1 hk2 hcr N rc hrec v3 σ1 σ2)) (fun n4 => ?_)
  refine V2_split (fun e => V2_tabAt (tgt := 395) X dL_law_33 e (by decide) (by decide) rfl (by decide) (lv_c5 X hZ1 hZ2 hk1 hk2 hcr N rc hrec v3 σ1 σ2)) (fun n5 => ?_)
  refine V2_split (fun e => V2_tabAt (tgt := 438) X dL_law_33 e (by decide) (by decide) rfl (by decide) (lv_c6 X hZ1 hZ2 hk1 hk2 hcr N rc hrec v3 σ1 σ2)) (fun n6 => ?_)
  refine V2_split (fun e => V2_tabAt (tgt := 481) X dL_law_33 e (by decide) (by decide) rfl (by decide) (lv_c7 X hZ1 hZ2 hk1 hk2 hcr N rc hrec v3 σ1 σ2)) (fun n7 => ?_)
  refine V2_split (fun e => V2_tabAt (tgt := 514) X dL_law_33 e (by decide) (by decide) rfl (by decide) (lv_c8 X hZ1 hZ2 hk1 hk2 hcr N rc hrec v3 σ1 σ2)) (fun n8 => ?_)
  refine V2_split (fun e => V2_tabAt (tgt := 567) X dL_law_33 e (by decide) (by decide) rfl (by decide) (lv_c9 X hZ1 hZ2 hk1 hk2 hcr N rc hrec v3 σ1 σ2)) (fun n9 => ?_)
  refine V2_split (fun e => V2_tabAt (tgt := 600) X dL_law_33 e (by decide) (by decide) rfl (by decide) (lv_c10 X hZ1 hZ2 hk1 hk2 hcr N rc hrec v3 σ1 σ2)) (fun n10 => ?_)
  refine V2_split (fun e => V2_tabAt (tgt := 643) X dL_law_33 e (by decide) (by decide) rfl (by decide) (lv_c11 X hZ1 hZ2 hk1 hk2 hcr N rc hrec v3 σ1 σ2)) (fun n11 => ?_)
  refine V2_split (fun e => V2_tabAt (tgt := 712) X dL_law_33 e (by decide) (by decide) rfl (by decide) (lv_c12 X hZ1 hZ2 hk1 hk2 hcr N rc hrec v3 σ1 σ2)) (fun n12 => ?_)
  refine V2_split (fun e => V2_tabAt (tgt := 745) X dL_law_33 e (by decide) (by decide) rfl (by decide) (lv_c13 X hZ1 hZ2 hk1 hk2 hcr N rc hrec v3 σ1 σ2)) (fun n13 => ?_)
  refine V2_split (fun e => V2_tabAt (tgt := 778) X dL_law_33 e (by decide) (by decide) rfl (by decide) (lv_c14 X hZ1 hZ2 hk1 hk2 hcr N rc hrec v3 σ1 σ2)) (fun n14 => ?_)
  refine V2_split (fun e => V2_tabAt (tgt := 847) X dL_law_33 e (by decide) (by decide) rfl (by decide) (lv_c15 X hZ1 hZ2 hk1 hk2 hcr N rc hrec v3 σ1 σ2)) (fun n15 => ?_)
  refine V2_split (fun e => V2_tabAt (tgt := 880) X dL_law_33 e (by decide) (by decide) rfl (by decide) (lv_c16 X hZ1 hZ2 hk1 hk2 hcr N rc hrec v3 σ1 σ2)) (fun n16 => ?_)
  refine V2_split (fun e => V2_tabAt (tgt := 960) X dL_law_33 e (by decide) (by decide) rfl (by decide) (lv_c17 X hZ1 hZ2 hk1 hk2 hcr N rc hrec v3 σ1 σ2)) (fun n17 => ?_)
  refine V2_split (fun e => V2_tabAt (tgt := 1003) X dL_law_33 e (by decide) (by decide) rfl (by decide) (lv_c18 X hZ1 hZ2 hk1 hk2 hcr N rc hrec v3 σ1 σ2)) (fun n18 => ?_)
  refine V2_split (fun e => V2_tabAt (tgt := 1036) X dL_law_33 e (by decide) (by decide) rfl (by decide) (lv_c19 X hZ1 hZ2 hk1 hk2 hcr N rc hrec v3 σ1 σ2)) (fun n19 => ?_)
  refine V2_split (fun e => V2_tabAt (tgt := 1069) X dL_law_33 e (by decide) (by decide) rfl (by decide) (lv_c20 X hZ1 hZ2 hk1 hk2 hcr N rc hrec v3 σ1 σ2)) (fun n20 => ?_)
  refine V2_split (fun e => V2_tabAt (tgt := 1122) X dL_law_33 e (by decide) (by decide) rfl (by decide) (lv_c21 X hZ1 hZ2 hk1 hk2 hcr N rc hrec v3 σ1 σ2)) (fun n21 => ?_)
  refine V2_split (fun e => V2_tabAt (tgt := 1165) X dL_law_33 e (by decide) (by decide) rfl (by decide) (lv_c22 X hZ1 hZ2 hk1 hk2 hcr N rc hrec v3 σ1 σ2)) (fun n22 => ?_)
  refine V2_split (fun e => V2_tabAt (tgt := 1208) X dL_law_33 e (by decide) (by decide) rfl (by decide) (lv_c23 X hZ1 hZ2 hk1 hk2 hcr N rc hrec v3 σ1 σ2)) (fun n23 => ?_)
  refine V2_split (fun e => V2_tabAt (tgt := 1241) X dL_law_33 e (by decide) (by decide) rfl (by decide) (lv_c24 X hZ1 hZ2 hk1 hk2 hcr N rc hrec v3 σ1 σ2)) (fun n24 => ?_)
  refine V2_split (fun e => V2_tabAt (tgt := 1284) X dL_law_33 e (by decide) (by decide) rfl (by decide) (lv_c25 X hZ1 hZ2 hk1 hk2 hcr N rc hrec v3 σ1 σ2)) (fun n25 => ?_)
  refine V2_split (fun e => V2_tabAt (tgt := 1317) X dL_law_33 e (by decide) (by decide) rfl (by decide) (lv_c26 X hZ1 hZ2 hk1 hk2 hcr N rc hrec v3 σ1 σ2)) (fun n26 => ?_)
  refine V2_split (fun e => V2_tabAt (tgt := 1350) X dL_law_33 e (by decide) (by decide) rfl (by decide) (lv_c27 X hZ1 hZ2 hk1 hk2 hcr N rc hrec v3 σ1 σ2)) (fun n27 => ?_)
  refine V2_split (fun e => V2_tabAt (tgt := 1383) X dL_law_33 e (by decide) (by decide) rfl (by decide) (lv_c28 X hZ1 hZ2 hk1 hk2 hcr N rc hrec v3 σ1 σ2)) (fun n28 => ?_)
  refine V2_split (fun e => V2_tabAt (tgt := 1426) X dL_law_33 e (by decide) (by decide) rfl (by decide) (lv_c29 X hZ1 hZ2 hk1 hk2 hcr N rc hrec v3 σ1 σ2)) (fun n29 => ?_)
  refine V2_split (fun e => V2_tabAt (tgt := 1505) X dL_law_33 e (by decide) (by decide) rfl (by decide) (lv_c30 X hZ1 hZ2 hk1 hk2 hcr N rc hrec v3 σ1 σ2)) (fun n30 => ?_)
  refine V2_split (fun e => V2_tabAt (tgt := 1565) X dL_law_33 e (by decide) (by decide) rfl (by decide) (lv_c31 X hZ1 hZ2 hk1 hk2 hcr N rc hrec v3 σ1 σ2)) (fun n31 => ?_)
  refine V2_split (fun e => V2_tabAt (tgt := 1598) X dL_law_33 e (by decide) (by decide) rfl (by decide) (lv_c32 X hZ1 hZ2 hk1 hk2 hcr N rc hrec v3 σ1 σ2)) (fun n32 => ?_)
  refine V2_split (fun e => V2_tabAt (tgt := 1641) X dL_law_33 e (by decide) (by decide) rfl (by decide) (lv_c33 X hZ1 hZ2 hk1 hk2 hcr N rc hrec v3 σ1 σ2)) (fun n33 => ?_)
  refine V2_split (fun e => V2_tabAt (tgt := 1700) X dL_law_33 e (by decide) (by decide) rfl (by decide) (lv_c34 X hZ1 hZ2 hk1 hk2 hcr N rc hrec v3 σ1 σ2)) (fun n34 => ?_)
  refine V2_split (fun e => V2_tabAt (tgt := 1743) X dL_law_33 e (by decide) (by decide) rfl (by decide) (lv_c35 X hZ1 hZ2 hk1 hk2 hcr N rc hrec v3 σ1 σ2)) (fun n35 => ?_)
  refine V2_split (fun e => V2_tabAt (tgt := 1776) X dL_law_33 e (by decide) (by decide) rfl (by decide) (lv_c36 X hZ1 hZ2 hk1 hk2 hcr N rc hrec v3 σ1 σ2)) (fun n36 => ?_)
  refine V2_split (fun e => V2_tabAt (tgt := 1809) X dL_law_33 e (by decide) (by decide) rfl (by decide) (lv_c37 X hZ1 hZ2 hk1 hk2 hcr N rc hrec v3 σ1 σ2)) (fun n37 => ?_)
  refine V2_split (fun e => V2_tabAt (tgt := 1852) X dL_law_33 e (by decide) (by decide) rfl (by decide) (lv_c38 X hZ1 hZ2 hk1 hk2 hcr N rc hrec v3 σ1 σ2)) (fun n38 => ?_)
  refine V2_split (fun e => V2_tabAt (tgt := 1921) X dL_law_33 e (by decide) (by decide) rfl (by decide) (lv_c39 X hZ1 hZ2 hk1 hk2 hcr N rc hrec v3 σ1 σ2)) (fun n39 => ?_)
  refine V2_split (fun e => V2_tabAt (tgt := 1980) X dL_law_33 e (by decide) (by decide) rfl (by decide) (lv_c40 X hZ1 hZ2 hk1 hk2 hcr N rc hrec v3 σ1 σ2)) (fun n40 => ?_)
  refine V2_split (fun e => V2_tabAt (tgt := 2003) X dL_law_33 e (by decide) (by decide) rfl (by decide) (lv_c41 X hZ1 hZ2 hk1 hk2 hcr N rc hrec v3 σ1 σ2)) (fun n41 => ?_)
  refine V2_split (fun e => V2_tabAt (tgt := 2026) X dL_law_33 e (by decide) (by decide) rfl (by decide) (lv_c42 X hZ1 hZ2 hk1 hk2 hcr N rc hrec v3 σ1 σ2)) (fun n42 => ?_)
  refine V2_tabDef (tgt := 2049) X dL_law_33 (Or.inr ?_) (by decide) (hrec v3 σ1 σ2)
  obtain ⟨q, q1, q2⟩ := and63 w
  rw [q2, nz_toInt (by omega)]
  rw [q2, z_eq (by omega) (by omega)] at n0
  rw [q2, z_eq (by omega) (by omega)] at n1
  rw [q2, z_eq (by omega) (by omega)] at n2
  rw [q2, z_eq (by omega) (by omega)] at n3
  rw [q2, z_eq (by omega) (by omega)] at n4
  rw [q2, z_eq (by omega) (by omega)] at n5
  rw [q2, z_eq (by omega) (by omega)] at n6
  rw [q2, z_eq (by omega) (by omega)] at n7
  rw [q2, z_eq (by omega) (by omega)] at n8
  rw [q2, z_eq (by omega) (by omega)] at n9
  rw [q2, z_eq (by omega) (by omega)] at n10
  rw [q2, z_eq (by omega) (by omega)] at n11
  rw [q2, z_eq (by omega) (by omega)] at n12
  rw [q2, z_eq (by omega) (by omega)] at n13
  rw [q2, z_eq (by omega) (by omega)] at n14
  rw [q2, z_eq (by omega) (by omega)] at n15
  rw [q2, z_eq (by omega) (by omega)] at n16
  rw [q2, z_eq (by omega) (by omega)] at n17
  rw [q2, z_eq (by omega) (by omega)] at n18
  rw [q2, z_eq (by omega) (by omega)] at n19
  rw [q2, z_eq (by omega) (by omega)] at n20
  rw [q2, z_eq (by omega) (by omega)] at n21
  rw [q2, z_eq (by omega) (by omega)] at n22
  rw [q2, z_eq (by omega) (by omega)] at n23
  rw [q2, z_eq (by omega) (by omega)] at n24
  rw [q2, z_eq (by omega) (by omega)] at n25
  rw [q2, z_eq (by omega) (by omega)] at n26
  rw [q2, z_eq (by omega) (by omega)] at n27
  rw [q2, z_eq (by omega) (by omega)] at n28
  rw [q2, z_eq (by omega) (by omega)] at n29
  rw [q2, z_eq (by omega) (by omega)] at n30
  rw [q2, z_eq (by omega) (by omega)] at n31
  rw [q2, z_eq (by omega) (by omega)] at n32
  rw [q2, z_eq (by omega) (by omega)] at n33
  rw [q2, z_eq (by omega) (by omega)] at n34
  rw [q2, z_eq (by omega) (by omega)] at n35
  rw [q2, z_eq (by omega) (by omega)] at n36
  rw [q2, z_eq (by omega) (by omega)] at n37
  rw [q2, z_eq (by omega) (by omega)] at n38
  rw [q2, z_eq (by omega) (by omega)] at n39
  rw [q2, z_eq (by omega) (by omega)] at n40
  rw [q2, z_eq (by omega) (by omega)] at n41
  rw [q2, z_eq (by omega) (by omega)] at n42
  omega
set_option maxRecDepth 100000 in
set_option maxHeartbeats 4000000 in
theorem lv_head {x : Cx} {z z1 z2 : Sx} {b Ln cn sn : Nat} {xs : Nat → Int32} {Q : State → Prop} (X : X2 x z z1 z2 code 4 20 487 b Ln xs) (hZ1 : z1.2.2.2.1 = kdC) (hZ2 : z2.2.2.2.1 = kdM) (hk1 : z1.2.2.2.1 0 = (11, 0)) (hk2 : z2.2.2.2.1 0 = (12, 0)) (hcr : ∀ R : Room, (match x with | (_, _, _, R', _) => R') = R → cn ≤ R.cells ∧ sn ≤ R.slots) (N : Nat) (hend : ∀ (v3 : Int32) (σ1 σ2 : Mem), V2 x z z1 z2 4 cn sn Q 2055 [(0, .ref b), (1, .ref (z1.2.2.1 0)), (2, .ref (z2.2.2.1 0)), (3, .int v3)] [] σ1 σ2 (some 1)) : ∀ (n : Nat) (v3 : Int32) (σ1 σ2 : Mem), V2 x z z1 z2 4 cn sn Q 18 [(0, .ref b), (1, .ref (z1.2.2.1 0)), (2, .ref (z2.2.2.1 0)), (3, .int v3)] [] σ1 σ2 (lawF N xs Ln n v3 σ1 σ2)
  | 0, _, _, _ => fun h => by cases h
  | n + 1, v3, σ1, σ2 => by
    have ih := lv_head X hZ1 hZ2 hk1 hk2 hcr N hend n
    simp only [lawF]
    refine V2_iload_n 3 X dL_law_18 rfl rfl ?_
    refine V2_aload_n 0 X dL_law_19 rfl rfl ?_
    refine V2_slen X dL_law_20 ?_
    refine V2_bipush (v := 6) X dL_law_21 (by decide) ?_
    refine V2_isub X dL_law_23 ?_
    refine V2_icmp_gt (tgt := 2055) X dL_law_24 (by decide) (hend v3 σ1 σ2) ?_
    refine V2_aload_n 0 X dL_law_27 rfl rfl ?_
    refine V2_iload_n 3 X dL_law_28 rfl rfl ?_
    refine V2_sld X dL_law_29 ?_
    refine V2_bipush (v := 63) X dL_law_30 (by decide) ?_
    refine V2_iand X dL_law_32 ?_
    refine lv_sw X hZ1 hZ2 hk1 hk2 hcr N (fun w s1 s2 => lawF N xs Ln n (w + 6) s1 s2) (fun w s1 s2 => ?_) _ v3 σ1 σ2
    refine V2_iinc (v := w + 6) (L' := [(3, .int (w + 6)), (0, .ref b), (1, .ref (z1.2.2.1 0)), (2, .ref (z2.2.2.1 0))]) 3 X dL_law_2049 rfl rfl (by decide) rfl ?_
    refine V2_sub (L' := [(0, .ref b), (1, .ref (z1.2.2.1 0)), (2, .ref (z2.2.2.1 0)), (3, .int (w + 6))]) [1, 2, 3, 0] rfl ?_
    exact V2_goto (tgt := 18) X dL_law_2052 (by decide) (ih (w + 6) s1 s2)
