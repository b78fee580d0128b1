set_option maxRecDepth 100000 in
set_option maxHeartbeats 4000000 in
theorem lv_c18 {x : Cx} {z z1 z2 : Sx} {b Ln cn sn : Nat} {xs : Nat → Int32} {Q : State → Prop} (X : X2 x z z1 z2 code 4 20 487 b Ln xs) (hZ1 : z1.2.2.2.1 = kdC) (hZ2 : z2.2.2.2.1 = kdM) (hk1 : z1.2.2.2.1 0 = (11, 0)) (hk2 : z2.2.2.2.1 0 = (12, 0)) (hcr : ∀ R : Room, (match x with | (_, _, _, R', _) => R') = R → cn ≤ R.cells ∧ sn ≤ R.slots) (N : Nat) (rc : Int32 → Mem → Mem → Option Int32) (hrec : ∀ (v3 : Int32) (σ1 σ2 : Mem), V2 x z z1 z2 4 cn sn Q 2049 [(0, .ref b), (1, .ref (z1.2.2.1 0)), (2, .ref (z2.2.2.1 0)), (3, .int v3)] [] σ1 σ2 (rc v3 σ1 σ2)) (v3 : Int32) (σ1 σ2 : Mem) : V2 x z z1 z2 4 cn sn Q 1003 [(0, .ref b), (1, .ref (z1.2.2.1 0)), (2, .ref (z2.2.2.1 0)), (3, .int v3)] [] σ1 σ2 (lw_c18 N xs Ln rc v3 σ1 σ2) := by
  unfold lw_c18
  refine V2_aload_n 1 X dL_law_1003 rfl rfl ?_
  refine V2_aload_n 0 X dL_law_1004 rfl rfl ?_
  refine V2_iload_n 3 X dL_law_1005 rfl rfl ?_
  refine V2_iconst (v := 1) X dL_law_1006 (by decide) ?_
  refine V2_iadd X dL_law_1007 ?_
  refine V2_sld X dL_law_1008 ?_
  refine V2_aload_n 0 X dL_law_1009 rfl rfl ?_
  refine V2_iload_n 3 X dL_law_1010 rfl rfl ?_
  refine V2_iconst (v := 2) X dL_law_1011 (by decide) ?_
  refine V2_iadd X dL_law_1012 ?_
  refine V2_sld X dL_law_1013 ?_
  refine V2_callI1 [.int (xs (v3 + 1).toNatClampNeg), .int (xs (v3 + 2).toNatClampNeg)] [] X dL_law_1014 (kX11_fits x.2.1 z1 hZ1 N 0 hk1 (xs (v3 + 1).toNatClampNeg) (xs (v3 + 2).toNatClampNeg) σ1) co11 hk1 gcL_93 hyL_X11_fits rfl ⟨by decide, by decide⟩ rfl (Nat.le_of_ble_eq_true rfl) hcr (fun r1 s2 => ?_)
  refine V2_aload_n 2 X dL_law_1017 rfl rfl ?_
  refine V2_aload_n 0 X dL_law_1018 rfl rfl ?_
  refine V2_iload_n 3 X dL_law_1019 rfl rfl ?_
  refine V2_iconst (v := 1) X dL_law_1020 (by decide) ?_
  refine V2_iadd X dL_law_1021 ?_
  refine V2_sld X dL_law_1022 ?_
  refine V2_aload_n 0 X dL_law_1023 rfl rfl ?_
  refine V2_iload_n 3 X dL_law_1024 rfl rfl ?_
  refine V2_iconst (v := 2) X dL_law_1025 (by decide) ?_
  refine V2_iadd X dL_law_1026 ?_
  refine V2_sld X dL_law_1027 ?_
  refine V2_callI2 [.int (xs (v3 + 1).toNatClampNeg), .int (xs (v3 + 2).toNatClampNeg)] [.int r1] X dL_law_1028 (kX12_fits x.2.1 z2 hZ2 N (xs (v3 + 1).toNatClampNeg) (xs (v3 + 2).toNatClampNeg) σ2) co12 hk2 gcL_96 hyL_X12_fits rfl ⟨by decide, by decide⟩ rfl (Nat.le_of_ble_eq_true rfl) hcr (fun r3 s4 => ?_)
  refine V2_icmp_eq (tgt := 2049) X dL_law_1031 (by decide) ?_ ?_
  · exact hrec v3 s2 s4
  · refine V2_iconst (v := 0) X dL_law_1034 (by decide) ?_
    exact fun q => absurd q (by decide)
set_option maxRecDepth 100000 in
set_option maxHeartbeats 4000000 in
theorem lv_c19 {x : Cx} {z z1 z2 : Sx} {b Ln cn sn : Nat} {xs : Nat → Int32} {Q : State → Prop} (X : X2 x z z1 z2 code 4 20 487 b Ln xs) (hZ1 : z1.2.2.2.1 = kdC) (hZ2 : z2.2.2.2.1 = kdM) (hk1 : z1.2.2.2.1 0 = (11, 0)) (hk2 : z2.2.2.2.1 0 = (12, 0)) (hcr : ∀ R : Room, (match x with | (_, _, _, R', _) => R') = R → cn ≤ R.cells ∧ sn ≤ R.slots) (N : Nat) (rc : Int32 → Mem → Mem → Option Int32) (hrec : ∀ (v3 : Int32) (σ1 σ2 : Mem), V2 x z z1 z2 4 cn sn Q 2049 [(0, .ref b), (1, .ref (z1.2.2.1 0)), (2, .ref (z2.2.2.1 0)), (3, .int v3)] [] σ1 σ2 (rc v3 σ1 σ2)) (v3 : Int32) (σ1 σ2 : Mem) : V2 x z z1 z2 4 cn sn Q 1036 [(0, .ref b), (1, .ref (z1.2.2.1 0)), (2, .ref (z2.2.2.1 0)), (3, .int v3)] [] σ1 σ2 (lw_c19 N xs Ln rc v3 σ1 σ2) := by
  unfold lw_c19
  refine V2_aload_n 1 X dL_law_1036 rfl rfl ?_
  refine V2_aload_n 0 X dL_law_1037 rfl rfl ?_
  refine V2_iload_n 3 X dL_law_1038 rfl rfl ?_
  refine V2_iconst (v := 1) X dL_law_1039 (by decide) ?_
  refine V2_iadd X dL_law_1040 ?_
  refine V2_sld X dL_law_1041 ?_
  refine V2_aload_n 0 X dL_law_1042 rfl rfl ?_
  refine V2_iload_n 3 X dL_law_1043 rfl rfl ?_
  refine V2_iconst (v := 2) X dL_law_1044 (by decide) ?_
  refine V2_iadd X dL_law_1045 ?_
  refine V2_sld X dL_law_1046 ?_
  refine V2_callI1 [.int (xs (v3 + 1).toNatClampNeg), .int (xs (v3 + 2).toNatClampNeg)] [] X dL_law_1047 (kX11_ask x.2.1 z1 hZ1 N 0 hk1 (xs (v3 + 1).toNatClampNeg) (xs (v3 + 2).toNatClampNeg) σ1) co11 hk1 gcL_97 hyL_X11_ask rfl ⟨by decide, by decide⟩ rfl (Nat.le_of_ble_eq_true rfl) hcr (fun r1 s2 => ?_)
  refine V2_aload_n 2 X dL_law_1050 rfl rfl ?_
  refine V2_aload_n 0 X dL_law_1051 rfl rfl ?_
  refine V2_iload_n 3 X dL_law_1052 rfl rfl ?_
  refine V2_iconst (v := 1) X dL_law_1053 (by decide) ?_
  refine V2_iadd X dL_law_1054 ?_
  refine V2_sld X dL_law_1055 ?_
  refine V2_aload_n 0 X dL_law_1056 rfl rfl ?_
  refine V2_iload_n 3 X dL_law_1057 rfl rfl ?_
  refine V2_iconst (v := 2) X dL_law_1058 (by decide) ?_
  refine V2_iadd X dL_law_1059 ?_
  refine V2_sld X dL_law_1060 ?_
  refine V2_callI2 [.int (xs (v3 + 1).toNatClampNeg), .int (xs (v3 + 2).toNatClampNeg)] [.int r1] X dL_law_1061 (kX12_ask x.2.1 z2 hZ2 N (xs (v3 + 1).toNatClampNeg) (xs (v3 + 2).toNatClampNeg) σ2) co12 hk2 gcL_100 hyL_X12_ask rfl ⟨by decide, by decide⟩ rfl (Nat.le_of_ble_eq_true rfl) hcr (fun r3 s4 => ?_)
  refine V2_icmp_eq (tgt := 2049) X dL_law_1064 (by decide) ?_ ?_
  · exact hrec v3 s2 s4
  · refine V2_iconst (v := 0) X dL_law_1067 (by decide) ?_
    exact fun q => absurd q (by decide)
set_option maxRecDepth 100000 in
set_option maxHeartbeats 4000000 in
theorem lv_c20 {x : Cx} {z z1 z2 : Sx} {b Ln cn sn : Nat} {xs : Nat → Int32} {Q : State → Prop} (X : X2 x z z1 z2 code 4 20 487 b Ln xs) (hZ1 : z1.2.2.2.1 = kdC) (hZ2 : z2.2.2.2.1 = kdM) (hk1 : z1.2.2.2.1 0 = (11, 0)) (hk2 : z2.2.2.2.1 0 = (12, 0)) (hcr : ∀ R : Room, (match x with | (_, _, _, R', _) => R') = R → cn ≤ R.cells ∧ sn ≤ R.slots) (N : Nat) (rc : Int32 → Mem → Mem → Option Int32) (hrec : ∀ (v3 : Int32) (σ1 σ2 : Mem), V2 x z z1 z2 4 cn sn Q 2049 [(0, .ref b), (1, .ref (z1.2.2.1 0)), (2, .ref (z2.2.2.1 0)), (3, .int v3)] [] σ1 σ2 (rc v3 σ1 σ2)) (v3 : Int32) (σ1 σ2 : Mem) : V2 x z z1 z2 4 cn sn Q 1069 [(0, .ref b), (1, .ref (z1.2.2.1 0)), (2, .ref (z2.2.2.1 0)), (3, .int v3)] [] σ1 σ2 (lw_c20 N xs Ln rc v3 σ1 σ2) := by
  unfold lw_c20
  refine V2_aload_n 1 X dL_law_1069 rfl rfl ?_
  refine V2_aload_n 0 X dL_law_1070 rfl rfl ?_
  refine V2_iload_n 3 X dL_law_1071 rfl rfl ?_
  refine V2_iconst (v := 1) X dL_law_1072 (by decide) ?_
  refine V2_iadd X dL_law_1073 ?_
  refine V2_sld X dL_law_1074 ?_
  refine V2_aload_n 0 X dL_law_1075 rfl rfl ?_
  refine V2_iload_n 3 X dL_law_1076 rfl rfl ?_
  refine V2_iconst (v := 2) X dL_law_1077 (by decide) ?_
  refine V2_iadd X dL_law_1078 ?_
  refine V2_sld X dL_law_1079 ?_
  refine V2_aload_n 0 X dL_law_1080 rfl rfl ?_
  refine V2_iload_n 3 X dL_law_1081 rfl rfl ?_
  refine V2_iconst (v := 3) X dL_law_1082 (by decide) ?_
  refine V2_iadd X dL_law_1083 ?_
  refine V2_sld X dL_law_1084 ?_
  refine V2_aload_n 0 X dL_law_1085 rfl rfl ?_
  refine V2_iload_n 3 X dL_law_1086 rfl rfl ?_
  refine V2_iconst (v := 4) X dL_law_1087 (by decide) ?_
  refine V2_iadd X dL_law_1088 ?_
  refine V2_sld X dL_law_1089 ?_
  refine V2_callI1 [.int (xs (v3 + 1).toNatClampNeg), .int (xs (v3 + 2).toNatClampNeg), .int (xs (v3 + 3).toNatClampNeg), .int (xs (v3 + 4).toNatClampNeg)] [] X dL_law_1090 (kX11_drawn x.2.1 z1 hZ1 N 0 hk1 (xs (v3 + 1).toNatClampNeg) (xs (v3 + 2).toNatClampNeg) (xs (v3 + 3).toNatClampNeg) (xs (v3 + 4).toNatClampNeg) σ1) co11 hk1 gcL_101 hyL_X11_drawn rfl ⟨by decide, by decide⟩ rfl (Nat.le_of_ble_eq_true rfl) hcr (fun r1 s2 => ?_)
  refine V2_aload_n 2 X dL_law_1093 rfl rfl ?_
  refine V2_aload_n 0 X dL_law_1094 rfl rfl ?_
  refine V2_iload_n 3 X dL_law_1095 rfl rfl ?_
  refine V2_iconst (v := 1) X dL_law_1096 (by decide) ?_
  refine V2_iadd X dL_law_1097 ?_
  refine V2_sld X dL_law_1098 ?_
  refine V2_aload_n 0 X dL_law_1099 rfl rfl ?_
  refine V2_iload_n 3 X dL_law_1100 rfl rfl ?_
  refine V2_iconst (v := 2) X dL_law_1101 (by decide) ?_
  refine V2_iadd X dL_law_1102 ?_
  refine V2_sld X dL_law_1103 ?_
  refine V2_aload_n 0 X dL_law_1104 rfl rfl ?_
  refine V2_iload_n 3 X dL_law_1105 rfl rfl ?_
  refine V2_iconst (v := 3) X dL_law_1106 (by decide) ?_
  refine V2_iadd X dL_law_1107 ?_
  refine V2_sld X dL_law_1108 ?_
  refine V2_aload_n 0 X dL_law_1109 rfl rfl ?_
  refine V2_iload_n 3 X dL_law_1110 rfl rfl ?_
  refine V2_iconst (v := 4) X dL_law_1111 (by decide) ?_
  refine V2_iadd X dL_law_1112 ?_
  refine V2_sld X dL_law_1113 ?_
  refine V2_callI2 [.int (xs (v3 + 1).toNatClampNeg), .int (xs (v3 + 2).toNatClampNeg), .int (xs (v3 + 3).toNatClampNeg), .int (xs (v3 + 4).toNatClampNeg)] [.int r1] X dL_law_1114 (kX12_drawn x.2.1 z2 hZ2 N (xs (v3 + 1).toNatClampNeg) (xs (v3 + 2).toNatClampNeg) (xs (v3 + 3).toNatClampNeg) (xs (v3 + 4).toNatClampNeg) σ2) co12 hk2 gcL_104 hyL_X12_drawn rfl ⟨by decide, by decide⟩ rfl (Nat.le_of_ble_eq_true rfl) hcr (fun r3 s4 => ?_)
  refine V2_icmp_eq (tgt := 2049) X dL_law_1117 (by decide) ?_ ?_
  · exact hrec v3 s2 s4
  · refine V2_iconst (v := 0) X dL_law_1120 (by decide) ?_
    exact fun q => absurd q (by decide)
set_option maxRecDepth 100000 in
set_option maxHeartbeats 4000000 in
theorem lv_c21 {x : Cx} {z z1 z2 : Sx} {b Ln cn sn : Nat} {xs : Nat → Int32} {Q : State → Prop} (X : X2 x z z1 z2 code 4 20 487 b Ln xs) (hZ1 : z1.2.2.2.1 = kdC) (hZ2 : z2.2.2.2.1 = kdM) (hk1 : z1.2.2.2.1 0 = (11, 0)) (hk2 : z2.2.2.2.1 0 = (12, 0)) (hcr : ∀ R : Room, (match x with | (_, _, _, R', _) => R') = R → cn ≤ R.cells ∧ sn ≤ R.slots) (N : Nat) (rc : Int32 → Mem → Mem → Option Int32) (hrec : ∀ (v3 : Int32) (σ1 σ2 : Mem), V2 x z z1 z2 4 cn sn Q 2049 [(0, .ref b), (1, .ref (z1.2.2.1 0)), (2, .ref (z2.2.2.1 0)), (3, .int v3)] [] σ1 σ2 (rc v3 σ1 σ2)) (v3 : Int32) (σ1 σ2 : Mem) : V2 x z z1 z2 4 cn sn Q 1122 [(0, .ref b), (1, .ref (z1.2.2.1 0)), (2, .ref (z2.2.2.1 0)), (3, .int v3)] [] σ1 σ2 (lw_c21 N xs Ln rc v3 σ1 σ2) := by
  unfold lw_c21
  refine V2_aload_n 1 X dL_law_1122 rfl rfl ?_
  refine V2_aload_n 0 X dL_law_1123 rfl rfl ?_
  refine V2_iload_n 3 X dL_law_1124 rfl rfl ?_
  refine V2_iconst (v := 1) X dL_law_1125 (by decide) ?_
  refine V2_iadd X dL_law_1126 ?_
  refine V2_sld X dL_law_1127 ?_
  refine V2_aload_n 0 X dL_law_1128 rfl rfl ?_
  refine V2_iload_n 3 X dL_law_1129 rfl rfl ?_
  refine V2_iconst (v := 2) X dL_law_1130 (by decide) ?_
  refine V2_iadd X dL_law_1131 ?_
  refine V2_sld X dL_law_1132 ?_
  refine V2_aload_n 0 X dL_law_1133 rfl rfl ?_
  refine V2_iload_n 3 X dL_law_1134 rfl rfl ?_
  refine V2_iconst (v := 3) X dL_law_1135 (by decide) ?_
  refine V2_iadd X dL_law_1136 ?_
  refine V2_sld X dL_law_1137 ?_
  refine V2_callI1 [.int (xs (v3 + 1).toNatClampNeg), .int (xs (v3 + 2).toNatClampNeg), .int (xs (v3 + 3).toNatClampNeg)] [] X dL_law_1138 (kX11_hush x.2.1 z1 hZ1 N 0 hk1 (xs (v3 + 1).toNatClampNeg) (xs (v3 + 2).toNatClampNeg) (xs (v3 + 3).toNatClampNeg) σ1) co11 hk1 gcL_105 hyL_X11_hush rfl ⟨by decide, by decide⟩ rfl (Nat.le_of_ble_eq_true rfl) hcr (fun r1 s2 => ?_)
  refine V2_aload_n 2 X dL_law_1141 rfl rfl ?_
  refine V2_aload_n 0 X dL_law_1142 rfl rfl ?_
  refine V2_iload_n 3 X dL_law_1143 rfl rfl ?_
  refine V2_iconst (v := 1) X dL_law_1144 (by decide) ?_
  refine V2_iadd X dL_law_1145 ?_
  refine V2_sld X dL_law_1146 ?_
  refine V2_aload_n 0 X dL_law_1147 rfl rfl ?_
  refine V2_iload_n 3 X dL_law_1148 rfl rfl ?_
  refine V2_iconst (v := 2) X dL_law_1149 (by decide) ?_
  refine V2_iadd X dL_law_1150 ?_
  refine V2_sld X dL_law_1151 ?_
  refine V2_aload_n 0 X dL_law_1152 rfl rfl ?_
  refine V2_iload_n 3 X dL_law_1153 rfl rfl ?_
  refine V2_iconst (v := 3) X dL_law_1154 (by decide) ?_
  refine V2_iadd X dL_law_1155 ?_
  refine V2_sld X dL_law_1156 ?_
  refine V2_callI2 [.int (xs (v3 + 1).toNatClampNeg), .int (xs (v3 + 2).toNatClampNeg), .int (xs (v3 + 3).toNatClampNeg)] [.int r1] X dL_law_1157 (kX12_hush x.2.1 z2 hZ2 N (xs (v3 + 1).toNatClampNeg) (xs (v3 + 2).toNatClampNeg) (xs (v3 + 3).toNatClampNeg) σ2) co12 hk2 gcL_108 hyL_X12_hush rfl ⟨by decide, by decide⟩ rfl (Nat.le_of_ble_eq_true rfl) hcr (fun r3 s4 => ?_)
  refine V2_icmp_eq (tgt := 2049) X dL_law_1160 (by decide) ?_ ?_
  · exact hrec v3 s2 s4
  · refine V2_iconst (v := 0) X dL_law_1163 (by decide) ?_
    exact fun q => absurd q (by decide)
set_option maxRecDepth 100000 in
set_option maxHeartbeats 4000000 in
theorem lv_c22 {x : Cx} {z z1 z2 : Sx} {b Ln cn sn : Nat} {xs : Nat → Int32} {Q : State → Prop} (X : X2 x z z1 z2 code 4 20 487 b Ln xs) (hZ1 : z1.2.2.2.1 = kdC) (hZ2 : z2.2.2.2.1 = kdM) (hk1 : z1.2.2.2.1 0 = (11, 0)) (hk2 : z2.2.2.2.1 0 = (12, 0)) (hcr : ∀ R : Room, (match x with | (_, _, _, R', _) => R') = R → cn ≤ R.cells ∧ sn ≤ R.slots) (N : Nat) (rc : Int32 → Mem → Mem → Option Int32) (hrec : ∀ (v3 : Int32) (σ1 σ2 : Mem), V2 x z z1 z2 4 cn sn Q 2049 [(0, .ref b), (1, .ref (z1.2.2.1 0)), (2, .ref (z2.2.2.1 0)), (3, .int v3)] [] σ1 σ2 (rc v3 σ1 σ2)) (v3 : Int32) (σ1 σ2 : Mem) : V2 x z z1 z2 4 cn sn Q 1165 [(0, .ref b), (1, .ref (z1.2.2.1 0)), (2, .ref (z2.2.2.1 0)), (3, .int v3)] [] σ1 σ2 (lw_c22 N xs Ln rc v3 σ1 σ2) := by
  unfold lw_c22
  refine V2_aload_n 1 X dL_law_1165 rfl rfl ?_
  refine V2_aload_n 0 X dL_law_1166 rfl rfl ?_
  refine V2_iload_n 3 X dL_law_1167 rfl rfl ?_
  refine V2_iconst (v := 1) X dL_law_1168 (by decide) ?_
  refine V2_iadd X dL_law_1169 ?_
  refine V2_sld X dL_law_1170 ?_
  refine V2_aload_n 0 X dL_law_1171 rfl rfl ?_
  refine V2_iload_n 3 X dL_law_1172 rfl rfl ?_
  refine V2_iconst (v := 2) X dL_law_1173 (by decide) ?_
  refine V2_iadd X dL_law_1174 ?_
  refine V2_sld X dL_law_1175 ?_
  refine V2_aload_n 0 X dL_law_1176 rfl rfl ?_
  refine V2_iload_n 3 X dL_law_1177 rfl rfl ?_
  refine V2_iconst (v := 3) X dL_law_1178 (by decide) ?_
  refine V2_iadd X dL_law_1179 ?_
  refine V2_sld X dL_law_1180 ?_
  refine V2_callI1 [.int (xs (v3 + 1).toNatClampNeg), .int (xs (v3 + 2).toNatClampNeg), .int (xs (v3 + 3).toNatClampNeg)] [] X dL_law_1181 (kX11_wake x.2.1 z1 hZ1 N 0 hk1 (xs (v3 + 1).toNatClampNeg) (xs (v3 + 2).toNatClampNeg) (xs (v3 + 3).toNatClampNeg) σ1) co11 hk1 gcL_109 hyL_X11_wake rfl ⟨by decide, by decide⟩ rfl (Nat.le_of_ble_eq_true rfl) hcr (fun r1 s2 => ?_)
  refine V2_aload_n 2 X dL_law_1184 rfl rfl ?_
  refine V2_aload_n 0 X dL_law_1185 rfl rfl ?_
  refine V2_iload_n 3 X dL_law_1186 rfl rfl ?_
  refine V2_iconst (v := 1) X dL_law_1187 (by decide) ?_
  refine V2_iadd X dL_law_1188 ?_
  refine V2_sld X dL_law_1189 ?_
  refine V2_aload_n 0 X dL_law_1190 rfl rfl ?_
  refine V2_iload_n 3 X dL_law_1191 rfl rfl ?_
  refine V2_iconst (v := 2) X dL_law_1192 (by decide) ?_
  refine V2_iadd X dL_law_1193 ?_
  refine V2_sld X dL_law_1194 ?_
  refine V2_aload_n 0 X dL_law_1195 rfl rfl ?_
  refine V2_iload_n 3 X dL_law_1196 rfl rfl ?_
  refine V2_iconst (v := 3) X dL_law_1197 (by decide) ?_
  refine V2_iadd X dL_law_1198 ?_
  refine V2_sld X dL_law_1199 ?_
  refine V2_callI2 [.int (xs (v3 + 1).toNatClampNeg), .int (xs (v3 + 2).toNatClampNeg), .int (xs (v3 + 3).toNatClampNeg)] [.int r1] X dL_law_1200 (kX12_wake x.2.1 z2 hZ2 N (xs (v3 + 1).toNatClampNeg) (xs (v3 + 2).toNatClampNeg) (xs (v3 + 3).toNatClampNeg) σ2) co12 hk2 gcL_112 hyL_X12_wake rfl ⟨by decide, by decide⟩ rfl (Nat.le_of_ble_eq_true rfl) hcr (fun r3 s4 => ?_)
  refine V2_icmp_eq (tgt := 2049) X dL_law_1203 (by decide) ?_ ?_
  · exact hrec v3 s2 s4
  · refine V2_iconst (v := 0) X dL_law_1206 (by decide) ?_
    exact fun q => absurd q (by decide)
set_option maxRecDepth 100000 in
set_option maxHeartbeats 4000000 in
theorem lv_c23 {x : Cx} {z z1 z2 : Sx} {b Ln cn sn : Nat} {xs : Nat → Int32} {Q : State → Prop} (X : X2 x z z1 z2 code 4 20 487 b Ln xs) (hZ1 : z1.2.2.2.1 = kdC) (hZ2 : z2.2.2.2.1 = kdM) (hk1 : z1.2.2.2.1 0 = (11, 0)) (hk2 : z2.2.2.2.1 0 = (12, 0)) (hcr : ∀ R : Room, (match x with | (_, _, _, R', _) => R') = R → cn ≤ R.cells ∧ sn ≤ R.slots) (N : Nat) (rc : Int32 → Mem → Mem → Option Int32) (hrec : ∀ (v3 : Int32) (σ1 σ2 : Mem), V2 x z z1 z2 4 cn sn Q 2049 [(0, .ref b), (1, .ref (z1.2.2.1 0)), (2, .ref (z2.2.2.1 0)), (3, .int v3)] [] σ1 σ2 (rc v3 σ1 σ2)) (v3 : Int32) (σ1 σ2 : Mem) : V2 x z z1 z2 4 cn sn Q 1208 [(0, .ref b), (1, .ref (z1.2.2.1 0)), (2, .ref (z2.2.2.1 0)), (3, .int v3)] [] σ1 σ2 (lw_c23 N xs Ln rc v3 σ1 σ2) := by
  unfold lw_c23
  refine V2_aload_n 1 X dL_law_1208 rfl rfl ?_
  refine V2_aload_n 0 X dL_law_1209 rfl rfl ?_
  refine V2_iload_n 3 X dL_law_1210 rfl rfl ?_
  refine V2_iconst (v := 1) X dL_law_1211 (by decide) ?_
  refine V2_iadd X dL_law_1212 ?_
  refine V2_sld X dL_law_1213 ?_
  refine V2_aload_n 0 X dL_law_1214 rfl rfl ?_
  refine V2_iload_n 3 X dL_law_1215 rfl rfl ?_
  refine V2_iconst (v := 2) X dL_law_1216 (by decide) ?_
  refine V2_iadd X dL_law_1217 ?_
  refine V2_sld X dL_law_1218 ?_
  refine V2_callI1 [.int (xs (v3 + 1).toNatClampNeg), .int (xs (v3 + 2).toNatClampNeg)] [] X dL_law_1219 (kX11_damps x.2.1 z1 hZ1 N 0 hk1 (xs (v3 + 1).toNatClampNeg) (xs (v3 + 2).toNatClampNeg) σ1) co11 hk1 gcL_113 hyL_X11_damps rfl ⟨by decide, by decide⟩ rfl (Nat.le_of_ble_eq_true rfl) hcr (fun r1 s2 => ?_)
  refine V2_aload_n 2 X dL_law_1222 rfl rfl ?_
  refine V2_aload_n 0 X dL_law_1223 rfl rfl ?_
  refine V2_iload_n 3 X dL_law_1224 rfl rfl ?_
  refine V2_iconst (v := 1) X dL_law_1225 (by decide) ?_
  refine V2_iadd X dL_law_1226 ?_
  refine V2_sld X dL_law_1227 ?_
  refine V2_aload_n 0 X dL_law_1228 rfl rfl ?_
  refine V2_iload_n 3 X dL_law_1229 rfl rfl ?_
  refine V2_iconst (v := 2) X dL_law_1230 (by decide) ?_
  refine V2_iadd X dL_law_1231 ?_
  refine V2_sld X dL_law_1232 ?_
  refine V2_callI2 [.int (xs (v3 + 1).toNatClampNeg), .int (xs (v3 + 2).toNatClampNeg)] [.int r1] X dL_law_1233 (kX12_damps x.2.1 z2 hZ2 N (xs (v3 + 1).toNatClampNeg) (xs (v3 + 2).toNatClampNeg) σ2) co12 hk2 gcL_116 hyL_X12_damps rfl ⟨by decide, by decide⟩ rfl (Nat.le_of_ble_eq_true rfl) hcr (fun r3 s4 => ?_)
  refine V2_icmp_eq (tgt := 2049) X dL_law_1236 (by decide) ?_ ?_
  · exact hrec v3 s2 s4
  · refine V2_iconst (v := 0) X dL_law_1239 (by decide) ?_
    exact fun q => absurd q (by decide)
set_option maxRecDepth 100000 in
set_option maxHeartbeats 4000000 in
theorem lv_c24 {x : Cx} {z z1 z2 : Sx} {b Ln cn sn : Nat} {xs : Nat → Int32} {Q : State → Prop} (X : X2 x z z1 z2 code 4 20 487 b Ln xs) (hZ1 : z1.2.2.2.1 = kdC) (hZ2 : z2.2.2.2.1 = kdM) (hk1 : z1.2.2.2.1 0 = (11, 0)) (hk2 : z2.2.2.2.1 0 = (12, 0)) (hcr : ∀ R : Room, (match x with | (_, _, _, R', _) => R') = R → cn ≤ R.cells ∧ sn ≤ R.slots) (N : Nat) (rc : Int32 → Mem → Mem → Option Int32) (hrec : ∀ (v3 : Int32) (σ1 σ2 : Mem), V2 x z z1 z2 4 cn sn Q 2049 [(0, .ref b), (1, .ref (z1.2.2.1 0)), (2, .ref (z2.2.2.1 0)), (3, .int v3)] [] σ1 σ2 (rc v3 σ1 σ2)) (v3 : Int32) (σ1 σ2 : Mem) : V2 x z z1 z2 4 cn sn Q 1241 [(0, .ref b), (1, .ref (z1.2.2.1 0)), (2, .ref (z2.2.2.1 0)), (3, .int v3)] [] σ1 σ2 (lw_c24 N xs Ln rc v3 σ1 σ2) := by
  unfold lw_c24
  refine V2_aload_n 1 X dL_law_1241 rfl rfl ?_
  refine V2_aload_n 0 X dL_law_1242 rfl rfl ?_
  refine V2_iload_n 3 X dL_law_1243 rfl rfl ?_
  refine V2_iconst (v := 1) X dL_law_1244 (by decide) ?_
  refine V2_iadd X dL_law_1245 ?_
  refine V2_sld X dL_law_1246 ?_
  refine V2_aload_n 0 X dL_law_1247 rfl rfl ?_
  refine V2_iload_n 3 X dL_law_1248 rfl rfl ?_
  refine V2_iconst (v := 2) X dL_law_1249 (by decide) ?_
  refine V2_iadd X dL_law_1250 ?_
  refine V2_sld X dL_law_1251 ?_
  refine V2_aload_n 0 X dL_law_1252 rfl rfl ?_
  refine V2_iload_n 3 X dL_law_1253 rfl rfl ?_
  refine V2_iconst (v := 3) X dL_law_1254 (by decide) ?_
  refine V2_iadd X dL_law_1255 ?_
  refine V2_sld X dL_law_1256 ?_
  refine V2_callI1 [.int (xs (v3 + 1).toNatClampNeg), .int (xs (v3 + 2).toNatClampNeg), .int (xs (v3 + 3).toNatClampNeg)] [] X dL_law_1257 (kX11_tips x.2.1 z1 hZ1 N 0 hk1 (xs (v3 + 1).toNatClampNeg) (xs (v3 + 2).toNatClampNeg) (xs (v3 + 3).toNatClampNeg) σ1) co11 hk1 gcL_117 hyL_X11_tips rfl ⟨by decide, by decide⟩ rfl (Nat.le_of_ble_eq_true rfl) hcr (fun r1 s2 => ?_)
  refine V2_aload_n 2 X dL_law_1260 rfl rfl ?_
  refine V2_aload_n 0 X dL_law_1261 rfl rfl ?_
  refine V2_iload_n 3 X dL_law_1262 rfl rfl ?_
  refine V2_iconst (v := 1) X dL_law_1263 (by decide) ?_
  refine V2_iadd X dL_law_1264 ?_
  refine V2_sld X dL_law_1265 ?_
  refine V2_aload_n 0 X dL_law_1266 rfl rfl ?_
  refine V2_iload_n 3 X dL_law_1267 rfl rfl ?_
  refine V2_iconst (v := 2) X dL_law_1268 (by decide) ?_
  refine V2_iadd X dL_law_1269 ?_
  refine V2_sld X dL_law_1270 ?_
  refine V2_aload_n 0 X dL_law_1271 rfl rfl ?_
  refine V2_iload_n 3 X dL_law_1272 rfl rfl ?_
  refine V2_iconst (v := 3) X dL_law_1273 (by decide) ?_
  refine V2_iadd X dL_law_1274 ?_
  refine V2_sld X dL_law_1275 ?_
  refine V2_callI2 [.int (xs (v3 + 1).toNatClampNeg), .int (xs (v3 + 2).toNatClampNeg), .int (xs (v3 + 3).toNatClampNeg)] [.int r1] X dL_law_1276 (kX12_tips x.2.1 z2 hZ2 N (xs (v3 + 1).toNatClampNeg) (xs (v3 + 2).toNatClampNeg) (xs (v3 + 3).toNatClampNeg) σ2) co12 hk2 gcL_120 hyL_X12_tips rfl ⟨by decide, by decide⟩ rfl (Nat.le_of_ble_eq_true rfl) hcr (fun r3 s4 => ?_)
  refine V2_icmp_eq (tgt := 2049) X dL_law_1279 (by decide) ?_ ?_
  · exact hrec v3 s2 s4
  · refine V2_iconst (v := 0) X dL_law_1282 (by decide) ?_
    exact fun q => absurd q (by decide)
set_option maxRecDepth 100000 in
set_option maxHeartbeats 4000000 in
theorem lv_c25 {x : Cx} {z z1 z2 : Sx} {b Ln cn sn : Nat} {xs : Nat → Int32} {Q : State → Prop} (X : X2 x z z1 z2 code 4 20 487 b Ln xs) (hZ1 : z1.2.2.2.1 = kdC) (hZ2 : z2.2.2.2.1 = kdM) (hk1 : z1.2.2.2.1 0 = (11, 0)) (hk2 : z2.2.2.2.1 0 = (12, 0)) (hcr : ∀ R : Room, (match x with | (_, _, _, R', _) => R') = R → cn ≤ R.cells ∧ sn ≤ R.slots) (N : Nat) (rc : Int32 → Mem → Mem → Option Int32) (hrec : ∀ (v3 : Int32) (σ1 σ2 : Mem), V2 x z z1 z2 4 cn sn Q 2049 [(0, .ref b), (1, .ref (z1.2.2.1 0)), (2, .ref (z2.2.2.1 0)), (3, .int v3)] [] σ1 σ2 (rc v3 σ1 σ2)) (v3 : Int32) (σ1 σ2 : Mem) : V2 x z z1 z2 4 cn sn Q 1284 [(0, .ref b), (1, .ref (z1.2.2.1 0)), (2, .ref (z2.2.2.1 0)), (3, .int v3)] [] σ1 σ2 (lw_c25 N xs Ln rc v3 σ1 σ2) := by
  unfold lw_c25
  refine V2_aload_n 1 X dL_law_1284 rfl rfl ?_
  refine V2_aload_n 0 X dL_law_1285 rfl rfl ?_
  refine V2_iload_n 3 X dL_law_1286 rfl rfl ?_
  refine V2_iconst (v := 1) X dL_law_1287 (by decide) ?_
  refine V2_iadd X dL_law_1288 ?_
  refine V2_sld X dL_law_1289 ?_
  refine V2_aload_n 0 X dL_law_1290 rfl rfl ?_
  refine V2_iload_n 3 X dL_law_1291 rfl rfl ?_
  refine V2_iconst (v := 2) X dL_law_1292 (by decide) ?_
  refine V2_iadd X dL_law_1293 ?_
  refine V2_sld X dL_law_1294 ?_
  refine V2_callI1 [.int (xs (v3 + 1).toNatClampNeg), .int (xs (v3 + 2).toNatClampNeg)] [] X dL_law_1295 (kX11_weighty x.2.1 z1 hZ1 N 0 hk1 (xs (v3 + 1).toNatClampNeg) (xs (v3 + 2).toNatClampNeg) σ1) co11 hk1 gcL_121 hyL_X11_weighty rfl ⟨by decide, by decide⟩ rfl (Nat.le_of_ble_eq_true rfl) hcr (fun r1 s2 => ?_)
  refine V2_aload_n 2 X dL_law_1298 rfl rfl ?_
  refine V2_aload_n 0 X dL_law_1299 rfl rfl ?_
  refine V2_iload_n 3 X dL_law_1300 rfl rfl ?_
  refine V2_iconst (v := 1) X dL_law_1301 (by decide) ?_
  refine V2_iadd X dL_law_1302 ?_
  refine V2_sld X dL_law_1303 ?_
  refine V2_aload_n 0 X dL_law_1304 rfl rfl ?_
  refine V2_iload_n 3 X dL_law_1305 rfl rfl ?_
  refine V2_iconst (v := 2) X dL_law_1306 (by decide) ?_
  refine V2_iadd X dL_law_1307 ?_
  refine V2_sld X dL_law_1308 ?_
  refine V2_callI2 [.int (xs (v3 + 1).toNatClampNeg), .int (xs (v3 + 2).toNatClampNeg)] [.int r1] X dL_law_1309 (kX12_weighty x.2.1 z2 hZ2 N (xs (v3 + 1).toNatClampNeg) (xs (v3 + 2).toNatClampNeg) σ2) co12 hk2 gcL_124 hyL_X12_weighty rfl ⟨by decide, by decide⟩ rfl (Nat.le_of_ble_eq_true rfl) hcr (fun r3 s4 => ?_)
  refine V2_icmp_eq (tgt := 2049) X dL_law_1312 (by decide) ?_ ?_
  · exact hrec v3 s2 s4
  · refine V2_iconst (v := 0) X dL_law_1315 (by decide) ?_
    exact fun q => absurd q (by decide)
set_option maxRecDepth 100000 in
set_option maxHeartbeats 4000000 in
theorem lv_c26 {x : Cx} {z z1 z2 : Sx} {b Ln cn sn : Nat} {xs : Nat → Int32} {Q : State → Prop} (X : X2 x z z1 z2 code 4 20 487 b Ln xs) (hZ1 : z1.2.2.2.1 = kdC) (hZ2 : z2.2.2.2.1 = kdM) (hk1 : z1.2.2.2.1 0 = (11, 0)) (hk2 : z2.2.2.2.1 0 = (12, 0)) (hcr : ∀ R : Room, (match x with | (_, _, _, R', _) => R') = R → cn ≤ R.cells ∧ sn ≤ R.slots) (N : Nat) (rc : Int32 → Mem → Mem → Option Int32) (hrec : ∀ (v3 : Int32) (σ1 σ2 : Mem), V2 x z z1 z2 4 cn sn Q 2049 [(0, .ref b), (1, .ref (z1.2.2.1 0)), (2, .ref (z2.2.2.1 0)), (3, .int v3)] [] σ1 σ2 (rc v3 σ1 σ2)) (v3 : Int32) (σ1 σ2 : Mem) : V2 x z z1 z2 4 cn sn Q 1317 [(0, .ref b), (1, .ref (z1.2.2.1 0)), (2, .ref (z2.2.2.1 0)), (3, .int v3)] [] σ1 σ2 (lw_c26 N xs Ln rc v3 σ1 σ2) := by
  unfold lw_c26
  refine V2_aload_n 1 X dL_law_1317 rfl rfl ?_
  refine V2_aload_n 0 X dL_law_1318 rfl rfl ?_
  refine V2_iload_n 3 X dL_law_1319 rfl rfl ?_
  refine V2_iconst (v := 1) X dL_law_1320 (by decide) ?_
  refine V2_iadd X dL_law_1321 ?_
  refine V2_sld X dL_law_1322 ?_
  refine V2_aload_n 0 X dL_law_1323 rfl rfl ?_
  refine V2_iload_n 3 X dL_law_1324 rfl rfl ?_
  refine V2_iconst (v := 2) X dL_law_1325 (by decide) ?_
  refine V2_iadd X dL_law_1326 ?_
  refine V2_sld X dL_law_1327 ?_
  refine V2_callI1 [.int (xs (v3 + 1).toNatClampNeg), .int (xs (v3 + 2).toNatClampNeg)] [] X dL_law_1328 (kX11_worded x.2.1 z1 hZ1 N 0 hk1 (xs (v3 + 1).toNatClampNeg) (xs (v3 + 2).toNatClampNeg) σ1) co11 hk1 gcL_125 hyL_X11_worded rfl ⟨by decide, by decide⟩ rfl (Nat.le_of_ble_eq_true rfl) hcr (fun r1 s2 => ?_)
  refine V2_aload_n 2 X dL_law_1331 rfl rfl ?_
  refine V2_aload_n 0 X dL_law_1332 rfl rfl ?_
  refine V2_iload_n 3 X dL_law_1333 rfl rfl ?_
  refine V2_iconst (v := 1) X dL_law_1334 (by decide) ?_
  refine V2_iadd X dL_law_1335 ?_
  refine V2_sld X dL_law_1336 ?_
  refine V2_aload_n 0 X dL_law_1337 rfl rfl ?_
  refine V2_iload_n 3 X dL_law_1338 rfl rfl ?_
  refine V2_iconst (v := 2) X dL_law_1339 (by decide) ?_
  refine V2_iadd X dL_law_1340 ?_
  refine V2_sld X dL_law_1341 ?_
  refine V2_callI2 [.int (xs (v3 + 1).toNatClampNeg), .int (xs (v3 + 2).toNatClampNeg)] [.int r1] X dL_law_1342 (kX12_worded x.2.1 z2 hZ2 N (xs (v3 + 1).toNatClampNeg) (xs (v3 + 2).toNatClampNeg) σ2) co12 hk2 gcL_128 hyL_X12_worded rfl ⟨by decide, by decide⟩ rfl (Nat.le_of_ble_eq_true rfl) hcr (fun r3 s4 => ?_)
  refine V2_icmp_eq (tgt := 2049) X dL_law_1345 (by decide) ?_ ?_
  · exact hrec v3 s2 s4
  · refine V2_iconst (v := 0) X dL_law_1348 (by decide) ?_
    exact fun q => absurd q (by decide)
