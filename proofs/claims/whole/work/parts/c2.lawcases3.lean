set_option maxRecDepth 100000 in
set_option maxHeartbeats 4000000 in
theorem lv_c27 {x : Cx} {z z1 z2 : Sx} {b Ln cn sn : Nat} {xs : Nat → Int32} {Q : State → Prop} (X : X2 x z z1 z2 code 4 20 487 b Ln xs) (hZ1 : z1.2.2.2.1 = kdC) (hZ2 : z2.2.2.2.1 = kdM) (hk1 : z1.2.2.2.1 0 = (11, 0)) (hk2 : z2.2.2.2.1 0 = (12, 0)) (hcr : ∀ R : Room, (match x with | (_, _, _, R', _) => R') = R → cn ≤ R.cells ∧ sn ≤ R.slots) (N : Nat) (rc : Int32 → Mem → Mem → Option Int32) (hrec : ∀ (v3 : Int32) (σ1 σ2 : Mem), V2 x z z1 z2 4 cn sn Q 2049 [(0, .ref b), (1, .ref (z1.2.2.1 0)), (2, .ref (z2.2.2.1 0)), (3, .int v3)] [] σ1 σ2 (rc v3 σ1 σ2)) (v3 : Int32) (σ1 σ2 : Mem) : V2 x z z1 z2 4 cn sn Q 1350 [(0, .ref b), (1, .ref (z1.2.2.1 0)), (2, .ref (z2.2.2.1 0)), (3, .int v3)] [] σ1 σ2 (lw_c27 N xs Ln rc v3 σ1 σ2) := by
  unfold lw_c27
  refine V2_aload_n 1 X dL_law_1350 rfl rfl ?_
  refine V2_aload_n 0 X dL_law_1351 rfl rfl ?_
  refine V2_iload_n 3 X dL_law_1352 rfl rfl ?_
  refine V2_iconst (v := 1) X dL_law_1353 (by decide) ?_
  refine V2_iadd X dL_law_1354 ?_
  refine V2_sld X dL_law_1355 ?_
  refine V2_aload_n 0 X dL_law_1356 rfl rfl ?_
  refine V2_iload_n 3 X dL_law_1357 rfl rfl ?_
  refine V2_iconst (v := 2) X dL_law_1358 (by decide) ?_
  refine V2_iadd X dL_law_1359 ?_
  refine V2_sld X dL_law_1360 ?_
  refine V2_callI1 [.int (xs (v3 + 1).toNatClampNeg), .int (xs (v3 + 2).toNatClampNeg)] [] X dL_law_1361 (kX11_clear x.2.1 z1 hZ1 N 0 hk1 (xs (v3 + 1).toNatClampNeg) (xs (v3 + 2).toNatClampNeg) σ1) co11 hk1 gcL_129 hyL_X11_clear rfl ⟨by decide, by decide⟩ rfl (Nat.le_of_ble_eq_true rfl) hcr (fun r1 s2 => ?_)
  refine V2_aload_n 2 X dL_law_1364 rfl rfl ?_
  refine V2_aload_n 0 X dL_law_1365 rfl rfl ?_
  refine V2_iload_n 3 X dL_law_1366 rfl rfl ?_
  refine V2_iconst (v := 1) X dL_law_1367 (by decide) ?_
  refine V2_iadd X dL_law_1368 ?_
  refine V2_sld X dL_law_1369 ?_
  refine V2_aload_n 0 X dL_law_1370 rfl rfl ?_
  refine V2_iload_n 3 X dL_law_1371 rfl rfl ?_
  refine V2_iconst (v := 2) X dL_law_1372 (by decide) ?_
  refine V2_iadd X dL_law_1373 ?_
  refine V2_sld X dL_law_1374 ?_
  refine V2_callI2 [.int (xs (v3 + 1).toNatClampNeg), .int (xs (v3 + 2).toNatClampNeg)] [.int r1] X dL_law_1375 (kX12_clear x.2.1 z2 hZ2 N (xs (v3 + 1).toNatClampNeg) (xs (v3 + 2).toNatClampNeg) σ2) co12 hk2 gcL_132 hyL_X12_clear rfl ⟨by decide, by decide⟩ rfl (Nat.le_of_ble_eq_true rfl) hcr (fun r3 s4 => ?_)
  refine V2_icmp_eq (tgt := 2049) X dL_law_1378 (by decide) ?_ ?_
  · exact hrec v3 s2 s4
  · refine V2_iconst (v := 0) X dL_law_1381 (by decide) ?_
    exact fun q => absurd q (by decide)
set_option maxRecDepth 100000 in
set_option maxHeartbeats 4000000 in
theorem lv_c28 {x : Cx} {z z1 z2 : Sx} {b Ln cn sn : Nat} {xs : Nat → Int32} {Q : State → Prop} (X : X2 x z z1 z2 code 4 20 487 b Ln xs) (hZ1 : z1.2.2.2.1 = kdC) (hZ2 : z2.2.2.2.1 = kdM) (hk1 : z1.2.2.2.1 0 = (11, 0)) (hk2 : z2.2.2.2.1 0 = (12, 0)) (hcr : ∀ R : Room, (match x with | (_, _, _, R', _) => R') = R → cn ≤ R.cells ∧ sn ≤ R.slots) (N : Nat) (rc : Int32 → Mem → Mem → Option Int32) (hrec : ∀ (v3 : Int32) (σ1 σ2 : Mem), V2 x z z1 z2 4 cn sn Q 2049 [(0, .ref b), (1, .ref (z1.2.2.1 0)), (2, .ref (z2.2.2.1 0)), (3, .int v3)] [] σ1 σ2 (rc v3 σ1 σ2)) (v3 : Int32) (σ1 σ2 : Mem) : V2 x z z1 z2 4 cn sn Q 1383 [(0, .ref b), (1, .ref (z1.2.2.1 0)), (2, .ref (z2.2.2.1 0)), (3, .int v3)] [] σ1 σ2 (lw_c28 N xs Ln rc v3 σ1 σ2) := by
  unfold lw_c28
  refine V2_aload_n 1 X dL_law_1383 rfl rfl ?_
  refine V2_aload_n 0 X dL_law_1384 rfl rfl ?_
  refine V2_iload_n 3 X dL_law_1385 rfl rfl ?_
  refine V2_iconst (v := 1) X dL_law_1386 (by decide) ?_
  refine V2_iadd X dL_law_1387 ?_
  refine V2_sld X dL_law_1388 ?_
  refine V2_aload_n 0 X dL_law_1389 rfl rfl ?_
  refine V2_iload_n 3 X dL_law_1390 rfl rfl ?_
  refine V2_iconst (v := 2) X dL_law_1391 (by decide) ?_
  refine V2_iadd X dL_law_1392 ?_
  refine V2_sld X dL_law_1393 ?_
  refine V2_aload_n 0 X dL_law_1394 rfl rfl ?_
  refine V2_iload_n 3 X dL_law_1395 rfl rfl ?_
  refine V2_iconst (v := 3) X dL_law_1396 (by decide) ?_
  refine V2_iadd X dL_law_1397 ?_
  refine V2_sld X dL_law_1398 ?_
  refine V2_callI1 [.int (xs (v3 + 1).toNatClampNeg), .int (xs (v3 + 2).toNatClampNeg), .int (xs (v3 + 3).toNatClampNeg)] [] X dL_law_1399 (kX11_greedy x.2.1 z1 hZ1 N 0 hk1 (xs (v3 + 1).toNatClampNeg) (xs (v3 + 2).toNatClampNeg) (xs (v3 + 3).toNatClampNeg) σ1) co11 hk1 gcL_133 hyL_X11_greedy rfl ⟨by decide, by decide⟩ rfl (Nat.le_of_ble_eq_true rfl) hcr (fun r1 s2 => ?_)
  refine V2_aload_n 2 X dL_law_1402 rfl rfl ?_
  refine V2_aload_n 0 X dL_law_1403 rfl rfl ?_
  refine V2_iload_n 3 X dL_law_1404 rfl rfl ?_
  refine V2_iconst (v := 1) X dL_law_1405 (by decide) ?_
  refine V2_iadd X dL_law_1406 ?_
  refine V2_sld X dL_law_1407 ?_
  refine V2_aload_n 0 X dL_law_1408 rfl rfl ?_
  refine V2_iload_n 3 X dL_law_1409 rfl rfl ?_
  refine V2_iconst (v := 2) X dL_law_1410 (by decide) ?_
  refine V2_iadd X dL_law_1411 ?_
  refine V2_sld X dL_law_1412 ?_
  refine V2_aload_n 0 X dL_law_1413 rfl rfl ?_
  refine V2_iload_n 3 X dL_law_1414 rfl rfl ?_
  refine V2_iconst (v := 3) X dL_law_1415 (by decide) ?_
  refine V2_iadd X dL_law_1416 ?_
  refine V2_sld X dL_law_1417 ?_
  refine V2_callI2 [.int (xs (v3 + 1).toNatClampNeg), .int (xs (v3 + 2).toNatClampNeg), .int (xs (v3 + 3).toNatClampNeg)] [.int r1] X dL_law_1418 (kX12_greedy x.2.1 z2 hZ2 N (xs (v3 + 1).toNatClampNeg) (xs (v3 + 2).toNatClampNeg) (xs (v3 + 3).toNatClampNeg) σ2) co12 hk2 gcL_136 hyL_X12_greedy rfl ⟨by decide, by decide⟩ rfl (Nat.le_of_ble_eq_true rfl) hcr (fun r3 s4 => ?_)
  refine V2_icmp_eq (tgt := 2049) X dL_law_1421 (by decide) ?_ ?_
  · exact hrec v3 s2 s4
  · refine V2_iconst (v := 0) X dL_law_1424 (by decide) ?_
    exact fun q => absurd q (by decide)
set_option maxRecDepth 100000 in
set_option maxHeartbeats 4000000 in
theorem lv_c29 {x : Cx} {z z1 z2 : Sx} {b Ln cn sn : Nat} {xs : Nat → Int32} {Q : State → Prop} (X : X2 x z z1 z2 code 4 20 487 b Ln xs) (hZ1 : z1.2.2.2.1 = kdC) (hZ2 : z2.2.2.2.1 = kdM) (hk1 : z1.2.2.2.1 0 = (11, 0)) (hk2 : z2.2.2.2.1 0 = (12, 0)) (hcr : ∀ R : Room, (match x with | (_, _, _, R', _) => R') = R → cn ≤ R.cells ∧ sn ≤ R.slots) (N : Nat) (rc : Int32 → Mem → Mem → Option Int32) (hrec : ∀ (v3 : Int32) (σ1 σ2 : Mem), V2 x z z1 z2 4 cn sn Q 2049 [(0, .ref b), (1, .ref (z1.2.2.1 0)), (2, .ref (z2.2.2.1 0)), (3, .int v3)] [] σ1 σ2 (rc v3 σ1 σ2)) (v3 : Int32) (σ1 σ2 : Mem) : V2 x z z1 z2 4 cn sn Q 1426 [(0, .ref b), (1, .ref (z1.2.2.1 0)), (2, .ref (z2.2.2.1 0)), (3, .int v3)] [] σ1 σ2 (lw_c29 N xs Ln rc v3 σ1 σ2) := by
  unfold lw_c29
  refine V2_aload_n 1 X dL_law_1426 rfl rfl ?_
  refine V2_aload_n 0 X dL_law_1427 rfl rfl ?_
  refine V2_iload_n 3 X dL_law_1428 rfl rfl ?_
  refine V2_iconst (v := 1) X dL_law_1429 (by decide) ?_
  refine V2_iadd X dL_law_1430 ?_
  refine V2_sld X dL_law_1431 ?_
  refine V2_aload_n 0 X dL_law_1432 rfl rfl ?_
  refine V2_iload_n 3 X dL_law_1433 rfl rfl ?_
  refine V2_iconst (v := 2) X dL_law_1434 (by decide) ?_
  refine V2_iadd X dL_law_1435 ?_
  refine V2_sld X dL_law_1436 ?_
  refine V2_aload_n 0 X dL_law_1437 rfl rfl ?_
  refine V2_iload_n 3 X dL_law_1438 rfl rfl ?_
  refine V2_iconst (v := 3) X dL_law_1439 (by decide) ?_
  refine V2_iadd X dL_law_1440 ?_
  refine V2_sld X dL_law_1441 ?_
  refine V2_aload_n 0 X dL_law_1442 rfl rfl ?_
  refine V2_iload_n 3 X dL_law_1443 rfl rfl ?_
  refine V2_iconst (v := 4) X dL_law_1444 (by decide) ?_
  refine V2_iadd X dL_law_1445 ?_
  refine V2_sld X dL_law_1446 ?_
  refine V2_aload_n 0 X dL_law_1447 rfl rfl ?_
  refine V2_iload_n 3 X dL_law_1448 rfl rfl ?_
  refine V2_iconst (v := 5) X dL_law_1449 (by decide) ?_
  refine V2_iadd X dL_law_1450 ?_
  refine V2_sld X dL_law_1451 ?_
  refine V2_if_eq (tgt := 1459) X dL_law_1452 (by decide) ?_ ?_
  · refine V2_iconst (v := 0) X dL_law_1459 (by decide) ?_
    refine V2_callI1 [.int (xs (v3 + 1).toNatClampNeg), .int (xs (v3 + 2).toNatClampNeg), .int (xs (v3 + 3).toNatClampNeg), .int (xs (v3 + 4).toNatClampNeg), .int 0] [] X dL_law_1460 (kX11_agenda x.2.1 z1 hZ1 N 0 hk1 (xs (v3 + 1).toNatClampNeg) (xs (v3 + 2).toNatClampNeg) (xs (v3 + 3).toNatClampNeg) (xs (v3 + 4).toNatClampNeg) 0 σ1) co11 hk1 gcL_137 hyL_X11_agenda rfl ⟨by decide, by decide⟩ rfl (Nat.le_of_ble_eq_true rfl) hcr (fun r1 s2 => ?_)
    refine V2_aload_n 2 X dL_law_1463 rfl rfl ?_
    refine V2_aload_n 0 X dL_law_1464 rfl rfl ?_
    refine V2_iload_n 3 X dL_law_1465 rfl rfl ?_
    refine V2_iconst (v := 1) X dL_law_1466 (by decide) ?_
    refine V2_iadd X dL_law_1467 ?_
    refine V2_sld X dL_law_1468 ?_
    refine V2_aload_n 0 X dL_law_1469 rfl rfl ?_
    refine V2_iload_n 3 X dL_law_1470 rfl rfl ?_
    refine V2_iconst (v := 2) X dL_law_1471 (by decide) ?_
    refine V2_iadd X dL_law_1472 ?_
    refine V2_sld X dL_law_1473 ?_
    refine V2_aload_n 0 X dL_law_1474 rfl rfl ?_
    refine V2_iload_n 3 X dL_law_1475 rfl rfl ?_
    refine V2_iconst (v := 3) X dL_law_1476 (by decide) ?_
    refine V2_iadd X dL_law_1477 ?_
    refine V2_sld X dL_law_1478 ?_
    refine V2_aload_n 0 X dL_law_1479 rfl rfl ?_
    refine V2_iload_n 3 X dL_law_1480 rfl rfl ?_
    refine V2_iconst (v := 4) X dL_law_1481 (by decide) ?_
    refine V2_iadd X dL_law_1482 ?_
    refine V2_sld X dL_law_1483 ?_
    refine V2_aload_n 0 X dL_law_1484 rfl rfl ?_
    refine V2_iload_n 3 X dL_law_1485 rfl rfl ?_
    refine V2_iconst (v := 5) X dL_law_1486 (by decide) ?_
    refine V2_iadd X dL_law_1487 ?_
    refine V2_sld X dL_law_1488 ?_
    refine V2_if_eq (tgt := 1496) X dL_law_1489 (by decide) ?_ ?_
    · refine V2_iconst (v := 0) X dL_law_1496 (by decide) ?_
      refine V2_callI2 [.int (xs (v3 + 1).toNatClampNeg), .int (xs (v3 + 2).toNatClampNeg), .int (xs (v3 + 3).toNatClampNeg), .int (xs (v3 + 4).toNatClampNeg), .int 0] [.int r1] X dL_law_1497 (kX12_agenda x.2.1 z2 hZ2 N (xs (v3 + 1).toNatClampNeg) (xs (v3 + 2).toNatClampNeg) (xs (v3 + 3).toNatClampNeg) (xs (v3 + 4).toNatClampNeg) 0 σ2) co12 hk2 gcL_141 hyL_X12_agenda rfl ⟨by decide, by decide⟩ rfl (Nat.le_of_ble_eq_true rfl) hcr (fun r3 s4 => ?_)
      refine V2_icmp_eq (tgt := 2049) X dL_law_1500 (by decide) ?_ ?_
      · exact hrec v3 s2 s4
      · refine V2_iconst (v := 0) X dL_law_1503 (by decide) ?_
        exact fun q => absurd q (by decide)
    · refine V2_iconst (v := 1) X dL_law_1492 (by decide) ?_
      refine V2_goto (tgt := 1497) X dL_law_1493 (by decide) ?_
      refine V2_callI2 [.int (xs (v3 + 1).toNatClampNeg), .int (xs (v3 + 2).toNatClampNeg), .int (xs (v3 + 3).toNatClampNeg), .int (xs (v3 + 4).toNatClampNeg), .int 1] [.int r1] X dL_law_1497 (kX12_agenda x.2.1 z2 hZ2 N (xs (v3 + 1).toNatClampNeg) (xs (v3 + 2).toNatClampNeg) (xs (v3 + 3).toNatClampNeg) (xs (v3 + 4).toNatClampNeg) 1 σ2) co12 hk2 gcL_141 hyL_X12_agenda rfl ⟨by decide, by decide⟩ rfl (Nat.le_of_ble_eq_true rfl) hcr (fun r5 s6 => ?_)
      refine V2_icmp_eq (tgt := 2049) X dL_law_1500 (by decide) ?_ ?_
      · exact hrec v3 s2 s6
      · refine V2_iconst (v := 0) X dL_law_1503 (by decide) ?_
        exact fun q => absurd q (by decide)
  · refine V2_iconst (v := 1) X dL_law_1455 (by decide) ?_
    refine V2_goto (tgt := 1460) X dL_law_1456 (by decide) ?_
    refine V2_callI1 [.int (xs (v3 + 1).toNatClampNeg), .int (xs (v3 + 2).toNatClampNeg), .int (xs (v3 + 3).toNatClampNeg), .int (xs (v3 + 4).toNatClampNeg), .int 1] [] X dL_law_1460 (kX11_agenda x.2.1 z1 hZ1 N 0 hk1 (xs (v3 + 1).toNatClampNeg) (xs (v3 + 2).toNatClampNeg) (xs (v3 + 3).toNatClampNeg) (xs (v3 + 4).toNatClampNeg) 1 σ1) co11 hk1 gcL_137 hyL_X11_agenda rfl ⟨by decide, by decide⟩ rfl (Nat.le_of_ble_eq_true rfl) hcr (fun r7 s8 => ?_)
    refine V2_aload_n 2 X dL_law_1463 rfl rfl ?_
    refine V2_aload_n 0 X dL_law_1464 rfl rfl ?_
    refine V2_iload_n 3 X dL_law_1465 rfl rfl ?_
    refine V2_iconst (v := 1) X dL_law_1466 (by decide) ?_
    refine V2_iadd X dL_law_1467 ?_
    refine V2_sld X dL_law_1468 ?_
    refine V2_aload_n 0 X dL_law_1469 rfl rfl ?_
    refine V2_iload_n 3 X dL_law_1470 rfl rfl ?_
    refine V2_iconst (v := 2) X dL_law_1471 (by decide) ?_
    refine V2_iadd X dL_law_1472 ?_
    refine V2_sld X dL_law_1473 ?_
    refine V2_aload_n 0 X dL_law_1474 rfl rfl ?_
    refine V2_iload_n 3 X dL_law_1475 rfl rfl ?_
    refine V2_iconst (v := 3) X dL_law_1476 (by decide) ?_
    refine V2_iadd X dL_law_1477 ?_
    refine V2_sld X dL_law_1478 ?_
    refine V2_aload_n 0 X dL_law_1479 rfl rfl ?_
    refine V2_iload_n 3 X dL_law_1480 rfl rfl ?_
    refine V2_iconst (v := 4) X dL_law_1481 (by decide) ?_
    refine V2_iadd X dL_law_1482 ?_
    refine V2_sld X dL_law_1483 ?_
    refine V2_aload_n 0 X dL_law_1484 rfl rfl ?_
    refine V2_iload_n 3 X dL_law_1485 rfl rfl ?_
    refine V2_iconst (v := 5) X dL_law_1486 (by decide) ?_
    refine V2_iadd X dL_law_1487 ?_
    refine V2_sld X dL_law_1488 ?_
    refine V2_if_eq (tgt := 1496) X dL_law_1489 (by decide) ?_ ?_
    · refine V2_iconst (v := 0) X dL_law_1496 (by decide) ?_
      refine V2_callI2 [.int (xs (v3 + 1).toNatClampNeg), .int (xs (v3 + 2).toNatClampNeg), .int (xs (v3 + 3).toNatClampNeg), .int (xs (v3 + 4).toNatClampNeg), .int 0] [.int r7] X dL_law_1497 (kX12_agenda x.2.1 z2 hZ2 N (xs (v3 + 1).toNatClampNeg) (xs (v3 + 2).toNatClampNeg) (xs (v3 + 3).toNatClampNeg) (xs (v3 + 4).toNatClampNeg) 0 σ2) co12 hk2 gcL_141 hyL_X12_agenda rfl ⟨by decide, by decide⟩ rfl (Nat.le_of_ble_eq_true rfl) hcr (fun r9 s10 => ?_)
      refine V2_icmp_eq (tgt := 2049) X dL_law_1500 (by decide) ?_ ?_
      · exact hrec v3 s8 s10
      · refine V2_iconst (v := 0) X dL_law_1503 (by decide) ?_
        exact fun q => absurd q (by decide)
    · refine V2_iconst (v := 1) X dL_law_1492 (by decide) ?_
      refine V2_goto (tgt := 1497) X dL_law_1493 (by decide) ?_
      refine V2_callI2 [.int (xs (v3 + 1).toNatClampNeg), .int (xs (v3 + 2).toNatClampNeg), .int (xs (v3 + 3).toNatClampNeg), .int (xs (v3 + 4).toNatClampNeg), .int 1] [.int r7] X dL_law_1497 (kX12_agenda x.2.1 z2 hZ2 N (xs (v3 + 1).toNatClampNeg) (xs (v3 + 2).toNatClampNeg) (xs (v3 + 3).toNatClampNeg) (xs (v3 + 4).toNatClampNeg) 1 σ2) co12 hk2 gcL_141 hyL_X12_agenda rfl ⟨by decide, by decide⟩ rfl (Nat.le_of_ble_eq_true rfl) hcr (fun r11 s12 => ?_)
      refine V2_icmp_eq (tgt := 2049) X dL_law_1500 (by decide) ?_ ?_
      · exact hrec v3 s8 s12
      · refine V2_iconst (v := 0) X dL_law_1503 (by decide) ?_
        exact fun q => absurd q (by decide)
set_option maxRecDepth 100000 in
set_option maxHeartbeats 4000000 in
theorem lv_c30 {x : Cx} {z z1 z2 : Sx} {b Ln cn sn : Nat} {xs : Nat → Int32} {Q : State → Prop} (X : X2 x z z1 z2 code 4 20 487 b Ln xs) (hZ1 : z1.2.2.2.1 = kdC) (hZ2 : z2.2.2.2.1 = kdM) (hk1 : z1.2.2.2.1 0 = (11, 0)) (hk2 : z2.2.2.2.1 0 = (12, 0)) (hcr : ∀ R : Room, (match x with | (_, _, _, R', _) => R') = R → cn ≤ R.cells ∧ sn ≤ R.slots) (N : Nat) (rc : Int32 → Mem → Mem → Option Int32) (hrec : ∀ (v3 : Int32) (σ1 σ2 : Mem), V2 x z z1 z2 4 cn sn Q 2049 [(0, .ref b), (1, .ref (z1.2.2.1 0)), (2, .ref (z2.2.2.1 0)), (3, .int v3)] [] σ1 σ2 (rc v3 σ1 σ2)) (v3 : Int32) (σ1 σ2 : Mem) : V2 x z z1 z2 4 cn sn Q 1505 [(0, .ref b), (1, .ref (z1.2.2.1 0)), (2, .ref (z2.2.2.1 0)), (3, .int v3)] [] σ1 σ2 (lw_c30 N xs Ln rc v3 σ1 σ2) := by
  unfold lw_c30
  refine V2_aload_n 1 X dL_law_1505 rfl rfl ?_
  refine V2_aload_n 0 X dL_law_1506 rfl rfl ?_
  refine V2_iload_n 3 X dL_law_1507 rfl rfl ?_
  refine V2_iconst (v := 1) X dL_law_1508 (by decide) ?_
  refine V2_iadd X dL_law_1509 ?_
  refine V2_sld X dL_law_1510 ?_
  refine V2_aload_n 0 X dL_law_1511 rfl rfl ?_
  refine V2_iload_n 3 X dL_law_1512 rfl rfl ?_
  refine V2_iconst (v := 2) X dL_law_1513 (by decide) ?_
  refine V2_iadd X dL_law_1514 ?_
  refine V2_sld X dL_law_1515 ?_
  refine V2_aload_n 0 X dL_law_1516 rfl rfl ?_
  refine V2_iload_n 3 X dL_law_1517 rfl rfl ?_
  refine V2_iconst (v := 3) X dL_law_1518 (by decide) ?_
  refine V2_iadd X dL_law_1519 ?_
  refine V2_sld X dL_law_1520 ?_
  refine V2_if_eq (tgt := 1528) X dL_law_1521 (by decide) ?_ ?_
  · refine V2_iconst (v := 0) X dL_law_1528 (by decide) ?_
    refine V2_callL1 [.int (xs (v3 + 1).toNatClampNeg), .int (xs (v3 + 2).toNatClampNeg), .int 0] [] X dL_law_1529 (kX11_odds x.2.1 z1 hZ1 N 0 hk1 (xs (v3 + 1).toNatClampNeg) (xs (v3 + 2).toNatClampNeg) 0 σ1) co11 hk1 gcL_142 hyL_X11_odds rfl ⟨by decide, by decide⟩ rfl (Nat.le_of_ble_eq_true rfl) hcr (fun r1 s2 => ?_)
    refine V2_aload_n 2 X dL_law_1532 rfl rfl ?_
    refine V2_aload_n 0 X dL_law_1533 rfl rfl ?_
    refine V2_iload_n 3 X dL_law_1534 rfl rfl ?_
    refine V2_iconst (v := 1) X dL_law_1535 (by decide) ?_
    refine V2_iadd X dL_law_1536 ?_
    refine V2_sld X dL_law_1537 ?_
    refine V2_aload_n 0 X dL_law_1538 rfl rfl ?_
    refine V2_iload_n 3 X dL_law_1539 rfl rfl ?_
    refine V2_iconst (v := 2) X dL_law_1540 (by decide) ?_
    refine V2_iadd X dL_law_1541 ?_
    refine V2_sld X dL_law_1542 ?_
    refine V2_aload_n 0 X dL_law_1543 rfl rfl ?_
    refine V2_iload_n 3 X dL_law_1544 rfl rfl ?_
    refine V2_iconst (v := 3) X dL_law_1545 (by decide) ?_
    refine V2_iadd X dL_law_1546 ?_
    refine V2_sld X dL_law_1547 ?_
    refine V2_if_eq (tgt := 1555) X dL_law_1548 (by decide) ?_ ?_
    · refine V2_iconst (v := 0) X dL_law_1555 (by decide) ?_
      refine V2_callL2 [.int (xs (v3 + 1).toNatClampNeg), .int (xs (v3 + 2).toNatClampNeg), .int 0] [.long r1] X dL_law_1556 (kX12_odds x.2.1 z2 hZ2 N (xs (v3 + 1).toNatClampNeg) (xs (v3 + 2).toNatClampNeg) 0 σ2) co12 hk2 gcL_146 hyL_X12_odds rfl ⟨by decide, by decide⟩ rfl (Nat.le_of_ble_eq_true rfl) hcr (fun r3 s4 => ?_)
      refine V2_lcmp X dL_law_1559 ?_
      refine V2_if_eq (tgt := 2049) X dL_law_1560 (by decide) ?_ ?_
      · exact hrec v3 s2 s4
      · refine V2_iconst (v := 0) X dL_law_1563 (by decide) ?_
        exact fun q => absurd q (by decide)
    · refine V2_iconst (v := 1) X dL_law_1551 (by decide) ?_
      refine V2_goto (tgt := 1556) X dL_law_1552 (by decide) ?_
      refine V2_callL2 [.int (xs (v3 + 1).toNatClampNeg), .int (xs (v3 + 2).toNatClampNeg), .int 1] [.long r1] X dL_law_1556 (kX12_odds x.2.1 z2 hZ2 N (xs (v3 + 1).toNatClampNeg) (xs (v3 + 2).toNatClampNeg) 1 σ2) co12 hk2 gcL_146 hyL_X12_odds rfl ⟨by decide, by decide⟩ rfl (Nat.le_of_ble_eq_true rfl) hcr (fun r5 s6 => ?_)
      refine V2_lcmp X dL_law_1559 ?_
      refine V2_if_eq (tgt := 2049) X dL_law_1560 (by decide) ?_ ?_
      · exact hrec v3 s2 s6
      · refine V2_iconst (v := 0) X dL_law_1563 (by decide) ?_
        exact fun q => absurd q (by decide)
  · refine V2_iconst (v := 1) X dL_law_1524 (by decide) ?_
    refine V2_goto (tgt := 1529) X dL_law_1525 (by decide) ?_
    refine V2_callL1 [.int (xs (v3 + 1).toNatClampNeg), .int (xs (v3 + 2).toNatClampNeg), .int 1] [] X dL_law_1529 (kX11_odds x.2.1 z1 hZ1 N 0 hk1 (xs (v3 + 1).toNatClampNeg) (xs (v3 + 2).toNatClampNeg) 1 σ1) co11 hk1 gcL_142 hyL_X11_odds rfl ⟨by decide, by decide⟩ rfl (Nat.le_of_ble_eq_true rfl) hcr (fun r7 s8 => ?_)
    refine V2_aload_n 2 X dL_law_1532 rfl rfl ?_
    refine V2_aload_n 0 X dL_law_1533 rfl rfl ?_
    refine V2_iload_n 3 X dL_law_1534 rfl rfl ?_
    refine V2_iconst (v := 1) X dL_law_1535 (by decide) ?_
    refine V2_iadd X dL_law_1536 ?_
    refine V2_sld X dL_law_1537 ?_
    refine V2_aload_n 0 X dL_law_1538 rfl rfl ?_
    refine V2_iload_n 3 X dL_law_1539 rfl rfl ?_
    refine V2_iconst (v := 2) X dL_law_1540 (by decide) ?_
    refine V2_iadd X dL_law_1541 ?_
    refine V2_sld X dL_law_1542 ?_
    refine V2_aload_n 0 X dL_law_1543 rfl rfl ?_
    refine V2_iload_n 3 X dL_law_1544 rfl rfl ?_
    refine V2_iconst (v := 3) X dL_law_1545 (by decide) ?_
    refine V2_iadd X dL_law_1546 ?_
    refine V2_sld X dL_law_1547 ?_
    refine V2_if_eq (tgt := 1555) X dL_law_1548 (by decide) ?_ ?_
    · refine V2_iconst (v := 0) X dL_law_1555 (by decide) ?_
      refine V2_callL2 [.int (xs (v3 + 1).toNatClampNeg), .int (xs (v3 + 2).toNatClampNeg), .int 0] [.long r7] X dL_law_1556 (kX12_odds x.2.1 z2 hZ2 N (xs (v3 + 1).toNatClampNeg) (xs (v3 + 2).toNatClampNeg) 0 σ2) co12 hk2 gcL_146 hyL_X12_odds rfl ⟨by decide, by decide⟩ rfl (Nat.le_of_ble_eq_true rfl) hcr (fun r9 s10 => ?_)
      refine V2_lcmp X dL_law_1559 ?_
      refine V2_if_eq (tgt := 2049) X dL_law_1560 (by decide) ?_ ?_
      · exact hrec v3 s8 s10
      · refine V2_iconst (v := 0) X dL_law_1563 (by decide) ?_
        exact fun q => absurd q (by decide)
    · refine V2_iconst (v := 1) X dL_law_1551 (by decide) ?_
      refine V2_goto (tgt := 1556) X dL_law_1552 (by decide) ?_
      refine V2_callL2 [.int (xs (v3 + 1).toNatClampNeg), .int (xs (v3 + 2).toNatClampNeg), .int 1] [.long r7] X dL_law_1556 (kX12_odds x.2.1 z2 hZ2 N (xs (v3 + 1).toNatClampNeg) (xs (v3 + 2).toNatClampNeg) 1 σ2) co12 hk2 gcL_146 hyL_X12_odds rfl ⟨by decide, by decide⟩ rfl (Nat.le_of_ble_eq_true rfl) hcr (fun r11 s12 => ?_)
      refine V2_lcmp X dL_law_1559 ?_
      refine V2_if_eq (tgt := 2049) X dL_law_1560 (by decide) ?_ ?_
      · exact hrec v3 s8 s12
      · refine V2_iconst (v := 0) X dL_law_1563 (by decide) ?_
        exact fun q => absurd q (by decide)
set_option maxRecDepth 100000 in
set_option maxHeartbeats 4000000 in
theorem lv_c31 {x : Cx} {z z1 z2 : Sx} {b Ln cn sn : Nat} {xs : Nat → Int32} {Q : State → Prop} (X : X2 x z z1 z2 code 4 20 487 b Ln xs) (hZ1 : z1.2.2.2.1 = kdC) (hZ2 : z2.2.2.2.1 = kdM) (hk1 : z1.2.2.2.1 0 = (11, 0)) (hk2 : z2.2.2.2.1 0 = (12, 0)) (hcr : ∀ R : Room, (match x with | (_, _, _, R', _) => R') = R → cn ≤ R.cells ∧ sn ≤ R.slots) (N : Nat) (rc : Int32 → Mem → Mem → Option Int32) (hrec : ∀ (v3 : Int32) (σ1 σ2 : Mem), V2 x z z1 z2 4 cn sn Q 2049 [(0, .ref b), (1, .ref (z1.2.2.1 0)), (2, .ref (z2.2.2.1 0)), (3, .int v3)] [] σ1 σ2 (rc v3 σ1 σ2)) (v3 : Int32) (σ1 σ2 : Mem) : V2 x z z1 z2 4 cn sn Q 1565 [(0, .ref b), (1, .ref (z1.2.2.1 0)), (2, .ref (z2.2.2.1 0)), (3, .int v3)] [] σ1 σ2 (lw_c31 N xs Ln rc v3 σ1 σ2) := by
  unfold lw_c31
  refine V2_aload_n 1 X dL_law_1565 rfl rfl ?_
  refine V2_aload_n 0 X dL_law_1566 rfl rfl ?_
  refine V2_iload_n 3 X dL_law_1567 rfl rfl ?_
  refine V2_iconst (v := 1) X dL_law_1568 (by decide) ?_
  refine V2_iadd X dL_law_1569 ?_
  refine V2_sld X dL_law_1570 ?_
  refine V2_aload_n 0 X dL_law_1571 rfl rfl ?_
  refine V2_iload_n 3 X dL_law_1572 rfl rfl ?_
  refine V2_iconst (v := 2) X dL_law_1573 (by decide) ?_
  refine V2_iadd X dL_law_1574 ?_
  refine V2_sld X dL_law_1575 ?_
  refine V2_callI1 [.int (xs (v3 + 1).toNatClampNeg), .int (xs (v3 + 2).toNatClampNeg)] [] X dL_law_1576 (kX11_weigh x.2.1 z1 hZ1 N 0 hk1 (xs (v3 + 1).toNatClampNeg) (xs (v3 + 2).toNatClampNeg) σ1) co11 hk1 gcL_147 hyL_X11_weigh rfl ⟨by decide, by decide⟩ rfl (Nat.le_of_ble_eq_true rfl) hcr (fun r1 s2 => ?_)
  refine V2_aload_n 2 X dL_law_1579 rfl rfl ?_
  refine V2_aload_n 0 X dL_law_1580 rfl rfl ?_
  refine V2_iload_n 3 X dL_law_1581 rfl rfl ?_
  refine V2_iconst (v := 1) X dL_law_1582 (by decide) ?_
  refine V2_iadd X dL_law_1583 ?_
  refine V2_sld X dL_law_1584 ?_
  refine V2_aload_n 0 X dL_law_1585 rfl rfl ?_
  refine V2_iload_n 3 X dL_law_1586 rfl rfl ?_
  refine V2_iconst (v := 2) X dL_law_1587 (by decide) ?_
  refine V2_iadd X dL_law_1588 ?_
  refine V2_sld X dL_law_1589 ?_
  refine V2_callI2 [.int (xs (v3 + 1).toNatClampNeg), .int (xs (v3 + 2).toNatClampNeg)] [.int r1] X dL_law_1590 (kX12_weigh x.2.1 z2 hZ2 N (xs (v3 + 1).toNatClampNeg) (xs (v3 + 2).toNatClampNeg) σ2) co12 hk2 gcL_150 hyL_X12_weigh rfl ⟨by decide, by decide⟩ rfl (Nat.le_of_ble_eq_true rfl) hcr (fun r3 s4 => ?_)
  refine V2_icmp_eq (tgt := 2049) X dL_law_1593 (by decide) ?_ ?_
  · exact hrec v3 s2 s4
  · refine V2_iconst (v := 0) X dL_law_1596 (by decide) ?_
    exact fun q => absurd q (by decide)
set_option maxRecDepth 100000 in
set_option maxHeartbeats 4000000 in
theorem lv_c32 {x : Cx} {z z1 z2 : Sx} {b Ln cn sn : Nat} {xs : Nat → Int32} {Q : State → Prop} (X : X2 x z z1 z2 code 4 20 487 b Ln xs) (hZ1 : z1.2.2.2.1 = kdC) (hZ2 : z2.2.2.2.1 = kdM) (hk1 : z1.2.2.2.1 0 = (11, 0)) (hk2 : z2.2.2.2.1 0 = (12, 0)) (hcr : ∀ R : Room, (match x with | (_, _, _, R', _) => R') = R → cn ≤ R.cells ∧ sn ≤ R.slots) (N : Nat) (rc : Int32 → Mem → Mem → Option Int32) (hrec : ∀ (v3 : Int32) (σ1 σ2 : Mem), V2 x z z1 z2 4 cn sn Q 2049 [(0, .ref b), (1, .ref (z1.2.2.1 0)), (2, .ref (z2.2.2.1 0)), (3, .int v3)] [] σ1 σ2 (rc v3 σ1 σ2)) (v3 : Int32) (σ1 σ2 : Mem) : V2 x z z1 z2 4 cn sn Q 1598 [(0, .ref b), (1, .ref (z1.2.2.1 0)), (2, .ref (z2.2.2.1 0)), (3, .int v3)] [] σ1 σ2 (lw_c32 N xs Ln rc v3 σ1 σ2) := by
  unfold lw_c32
  refine V2_aload_n 1 X dL_law_1598 rfl rfl ?_
  refine V2_aload_n 0 X dL_law_1599 rfl rfl ?_
  refine V2_iload_n 3 X dL_law_1600 rfl rfl ?_
  refine V2_iconst (v := 1) X dL_law_1601 (by decide) ?_
  refine V2_iadd X dL_law_1602 ?_
  refine V2_sld X dL_law_1603 ?_
  refine V2_aload_n 0 X dL_law_1604 rfl rfl ?_
  refine V2_iload_n 3 X dL_law_1605 rfl rfl ?_
  refine V2_iconst (v := 2) X dL_law_1606 (by decide) ?_
  refine V2_iadd X dL_law_1607 ?_
  refine V2_sld X dL_law_1608 ?_
  refine V2_aload_n 0 X dL_law_1609 rfl rfl ?_
  refine V2_iload_n 3 X dL_law_1610 rfl rfl ?_
  refine V2_iconst (v := 3) X dL_law_1611 (by decide) ?_
  refine V2_iadd X dL_law_1612 ?_
  refine V2_sld X dL_law_1613 ?_
  refine V2_callI1 [.int (xs (v3 + 1).toNatClampNeg), .int (xs (v3 + 2).toNatClampNeg), .int (xs (v3 + 3).toNatClampNeg)] [] X dL_law_1614 (kX11_after x.2.1 z1 hZ1 N 0 hk1 (xs (v3 + 1).toNatClampNeg) (xs (v3 + 2).toNatClampNeg) (xs (v3 + 3).toNatClampNeg) σ1) co11 hk1 gcL_151 hyL_X11_after rfl ⟨by decide, by decide⟩ rfl (Nat.le_of_ble_eq_true rfl) hcr (fun r1 s2 => ?_)
  refine V2_aload_n 2 X dL_law_1617 rfl rfl ?_
  refine V2_aload_n 0 X dL_law_1618 rfl rfl ?_
  refine V2_iload_n 3 X dL_law_1619 rfl rfl ?_
  refine V2_iconst (v := 1) X dL_law_1620 (by decide) ?_
  refine V2_iadd X dL_law_1621 ?_
  refine V2_sld X dL_law_1622 ?_
  refine V2_aload_n 0 X dL_law_1623 rfl rfl ?_
  refine V2_iload_n 3 X dL_law_1624 rfl rfl ?_
  refine V2_iconst (v := 2) X dL_law_1625 (by decide) ?_
  refine V2_iadd X dL_law_1626 ?_
  refine V2_sld X dL_law_1627 ?_
  refine V2_aload_n 0 X dL_law_1628 rfl rfl ?_
  refine V2_iload_n 3 X dL_law_1629 rfl rfl ?_
  refine V2_iconst (v := 3) X dL_law_1630 (by decide) ?_
  refine V2_iadd X dL_law_1631 ?_
  refine V2_sld X dL_law_1632 ?_
  refine V2_callI2 [.int (xs (v3 + 1).toNatClampNeg), .int (xs (v3 + 2).toNatClampNeg), .int (xs (v3 + 3).toNatClampNeg)] [.int r1] X dL_law_1633 (kX12_after x.2.1 z2 hZ2 N (xs (v3 + 1).toNatClampNeg) (xs (v3 + 2).toNatClampNeg) (xs (v3 + 3).toNatClampNeg) σ2) co12 hk2 gcL_154 hyL_X12_after rfl ⟨by decide, by decide⟩ rfl (Nat.le_of_ble_eq_true rfl) hcr (fun r3 s4 => ?_)
  refine V2_icmp_eq (tgt := 2049) X dL_law_1636 (by decide) ?_ ?_
  · exact hrec v3 s2 s4
  · refine V2_iconst (v := 0) X dL_law_1639 (by decide) ?_
    exact fun q => absurd q (by decide)
set_option maxRecDepth 100000 in
set_option maxHeartbeats 4000000 in
theorem lv_c33 {x : Cx} {z z1 z2 : Sx} {b Ln cn sn : Nat} {xs : Nat → Int32} {Q : State → Prop} (X : X2 x z z1 z2 code 4 20 487 b Ln xs) (hZ1 : z1.2.2.2.1 = kdC) (hZ2 : z2.2.2.2.1 = kdM) (hk1 : z1.2.2.2.1 0 = (11, 0)) (hk2 : z2.2.2.2.1 0 = (12, 0)) (hcr : ∀ R : Room, (match x with | (_, _, _, R', _) => R') = R → cn ≤ R.cells ∧ sn ≤ R.slots) (N : Nat) (rc : Int32 → Mem → Mem → Option Int32) (hrec : ∀ (v3 : Int32) (σ1 σ2 : Mem), V2 x z z1 z2 4 cn sn Q 2049 [(0, .ref b), (1, .ref (z1.2.2.1 0)), (2, .ref (z2.2.2.1 0)), (3, .int v3)] [] σ1 σ2 (rc v3 σ1 σ2)) (v3 : Int32) (σ1 σ2 : Mem) : V2 x z z1 z2 4 cn sn Q 1641 [(0, .ref b), (1, .ref (z1.2.2.1 0)), (2, .ref (z2.2.2.1 0)), (3, .int v3)] [] σ1 σ2 (lw_c33 N xs Ln rc v3 σ1 σ2) := by
  unfold lw_c33
  refine V2_aload_n 1 X dL_law_1641 rfl rfl ?_
  refine V2_aload_n 0 X dL_law_1642 rfl rfl ?_
  refine V2_iload_n 3 X dL_law_1643 rfl rfl ?_
  refine V2_iconst (v := 1) X dL_law_1644 (by decide) ?_
  refine V2_iadd X dL_law_1645 ?_
  refine V2_sld X dL_law_1646 ?_
  refine V2_aload_n 0 X dL_law_1647 rfl rfl ?_
  refine V2_iload_n 3 X dL_law_1648 rfl rfl ?_
  refine V2_iconst (v := 2) X dL_law_1649 (by decide) ?_
  refine V2_iadd X dL_law_1650 ?_
  refine V2_sld X dL_law_1651 ?_
  refine V2_aload_n 0 X dL_law_1652 rfl rfl ?_
  refine V2_iload_n 3 X dL_law_1653 rfl rfl ?_
  refine V2_iconst (v := 3) X dL_law_1654 (by decide) ?_
  refine V2_iadd X dL_law_1655 ?_
  refine V2_sld X dL_law_1656 ?_
  refine V2_if_eq (tgt := 1664) X dL_law_1657 (by decide) ?_ ?_
  · refine V2_iconst (v := 0) X dL_law_1664 (by decide) ?_
    refine V2_callI1 [.int (xs (v3 + 1).toNatClampNeg), .int (xs (v3 + 2).toNatClampNeg), .int 0] [] X dL_law_1665 (kX11_bears x.2.1 z1 hZ1 N 0 hk1 (xs (v3 + 1).toNatClampNeg) (xs (v3 + 2).toNatClampNeg) 0 σ1) co11 hk1 gcL_155 hyL_X11_bears rfl ⟨by decide, by decide⟩ rfl (Nat.le_of_ble_eq_true rfl) hcr (fun r1 s2 => ?_)
    refine V2_aload_n 2 X dL_law_1668 rfl rfl ?_
    refine V2_aload_n 0 X dL_law_1669 rfl rfl ?_
    refine V2_iload_n 3 X dL_law_1670 rfl rfl ?_
    refine V2_iconst (v := 1) X dL_law_1671 (by decide) ?_
    refine V2_iadd X dL_law_1672 ?_
    refine V2_sld X dL_law_1673 ?_
    refine V2_aload_n 0 X dL_law_1674 rfl rfl ?_
    refine V2_iload_n 3 X dL_law_1675 rfl rfl ?_
    refine V2_iconst (v := 2) X dL_law_1676 (by decide) ?_
    refine V2_iadd X dL_law_1677 ?_
    refine V2_sld X dL_law_1678 ?_
    refine V2_aload_n 0 X dL_law_1679 rfl rfl ?_
    refine V2_iload_n 3 X dL_law_1680 rfl rfl ?_
    refine V2_iconst (v := 3) X dL_law_1681 (by decide) ?_
    refine V2_iadd X dL_law_1682 ?_
    refine V2_sld X dL_law_1683 ?_
    refine V2_if_eq (tgt := 1691) X dL_law_1684 (by decide) ?_ ?_
    · refine V2_iconst (v := 0) X dL_law_1691 (by decide) ?_
      refine V2_callI2 [.int (xs (v3 + 1).toNatClampNeg), .int (xs (v3 + 2).toNatClampNeg), .int 0] [.int r1] X dL_law_1692 (kX12_bears x.2.1 z2 hZ2 N (xs (v3 + 1).toNatClampNeg) (xs (v3 + 2).toNatClampNeg) 0 σ2) co12 hk2 gcL_159 hyL_X12_bears rfl ⟨by decide, by decide⟩ rfl (Nat.le_of_ble_eq_true rfl) hcr (fun r3 s4 => ?_)
      refine V2_icmp_eq (tgt := 2049) X dL_law_1695 (by decide) ?_ ?_
      · exact hrec v3 s2 s4
      · refine V2_iconst (v := 0) X dL_law_1698 (by decide) ?_
        exact fun q => absurd q (by decide)
    · refine V2_iconst (v := 1) X dL_law_1687 (by decide) ?_
      refine V2_goto (tgt := 1692) X dL_law_1688 (by decide) ?_
      refine V2_callI2 [.int (xs (v3 + 1).toNatClampNeg), .int (xs (v3 + 2).toNatClampNeg), .int 1] [.int r1] X dL_law_1692 (kX12_bears x.2.1 z2 hZ2 N (xs (v3 + 1).toNatClampNeg) (xs (v3 + 2).toNatClampNeg) 1 σ2) co12 hk2 gcL_159 hyL_X12_bears rfl ⟨by decide, by decide⟩ rfl (Nat.le_of_ble_eq_true rfl) hcr (fun r5 s6 => ?_)
      refine V2_icmp_eq (tgt := 2049) X dL_law_1695 (by decide) ?_ ?_
      · exact hrec v3 s2 s6
      · refine V2_iconst (v := 0) X dL_law_1698 (by decide) ?_
        exact fun q => absurd q (by decide)
  · refine V2_iconst (v := 1) X dL_law_1660 (by decide) ?_
    refine V2_goto (tgt := 1665) X dL_law_1661 (by decide) ?_
    refine V2_callI1 [.int (xs (v3 + 1).toNatClampNeg), .int (xs (v3 + 2).toNatClampNeg), .int 1] [] X dL_law_1665 (kX11_bears x.2.1 z1 hZ1 N 0 hk1 (xs (v3 + 1).toNatClampNeg) (xs (v3 + 2).toNatClampNeg) 1 σ1) co11 hk1 gcL_155 hyL_X11_bears rfl ⟨by decide, by decide⟩ rfl (Nat.le_of_ble_eq_true rfl) hcr (fun r7 s8 => ?_)
    refine V2_aload_n 2 X dL_law_1668 rfl rfl ?_
    refine V2_aload_n 0 X dL_law_1669 rfl rfl ?_
    refine V2_iload_n 3 X dL_law_1670 rfl rfl ?_
    refine V2_iconst (v := 1) X dL_law_1671 (by decide) ?_
    refine V2_iadd X dL_law_1672 ?_
    refine V2_sld X dL_law_1673 ?_
    refine V2_aload_n 0 X dL_law_1674 rfl rfl ?_
    refine V2_iload_n 3 X dL_law_1675 rfl rfl ?_
    refine V2_iconst (v := 2) X dL_law_1676 (by decide) ?_
    refine V2_iadd X dL_law_1677 ?_
    refine V2_sld X dL_law_1678 ?_
    refine V2_aload_n 0 X dL_law_1679 rfl rfl ?_
    refine V2_iload_n 3 X dL_law_1680 rfl rfl ?_
    refine V2_iconst (v := 3) X dL_law_1681 (by decide) ?_
    refine V2_iadd X dL_law_1682 ?_
    refine V2_sld X dL_law_1683 ?_
    refine V2_if_eq (tgt := 1691) X dL_law_1684 (by decide) ?_ ?_
    · refine V2_iconst (v := 0) X dL_law_1691 (by decide) ?_
      refine V2_callI2 [.int (xs (v3 + 1).toNatClampNeg), .int (xs (v3 + 2).toNatClampNeg), .int 0] [.int r7] X dL_law_1692 (kX12_bears x.2.1 z2 hZ2 N (xs (v3 + 1).toNatClampNeg) (xs (v3 + 2).toNatClampNeg) 0 σ2) co12 hk2 gcL_159 hyL_X12_bears rfl ⟨by decide, by decide⟩ rfl (Nat.le_of_ble_eq_true rfl) hcr (fun r9 s10 => ?_)
      refine V2_icmp_eq (tgt := 2049) X dL_law_1695 (by decide) ?_ ?_
      · exact hrec v3 s8 s10
      · refine V2_iconst (v := 0) X dL_law_1698 (by decide) ?_
        exact fun q => absurd q (by decide)
    · refine V2_iconst (v := 1) X dL_law_1687 (by decide) ?_
      refine V2_goto (tgt := 1692) X dL_law_1688 (by decide) ?_
      refine V2_callI2 [.int (xs (v3 + 1).toNatClampNeg), .int (xs (v3 + 2).toNatClampNeg), .int 1] [.int r7] X dL_law_1692 (kX12_bears x.2.1 z2 hZ2 N (xs (v3 + 1).toNatClampNeg) (xs (v3 + 2).toNatClampNeg) 1 σ2) co12 hk2 gcL_159 hyL_X12_bears rfl ⟨by decide, by decide⟩ rfl (Nat.le_of_ble_eq_true rfl) hcr (fun r11 s12 => ?_)
      refine V2_icmp_eq (tgt := 2049) X dL_law_1695 (by decide) ?_ ?_
      · exact hrec v3 s8 s12
      · refine V2_iconst (v := 0) X dL_law_1698 (by decide) ?_
        exact fun q => absurd q (by decide)
set_option maxRecDepth 100000 in
set_option maxHeartbeats 4000000 in
theorem lv_c34 {x : Cx} {z z1 z2 : Sx} {b Ln cn sn : Nat} {xs : Nat → Int32} {Q : State → Prop} (X : X2 x z z1 z2 code 4 20 487 b Ln xs) (hZ1 : z1.2.2.2.1 = kdC) (hZ2 : z2.2.2.2.1 = kdM) (hk1 : z1.2.2.2.1 0 = (11, 0)) (hk2 : z2.2.2.2.1 0 = (12, 0)) (hcr : ∀ R : Room, (match x with | (_, _, _, R', _) => R') = R → cn ≤ R.cells ∧ sn ≤ R.slots) (N : Nat) (rc : Int32 → Mem → Mem → Option Int32) (hrec : ∀ (v3 : Int32) (σ1 σ2 : Mem), V2 x z z1 z2 4 cn sn Q 2049 [(0, .ref b), (1, .ref (z1.2.2.1 0)), (2, .ref (z2.2.2.1 0)), (3, .int v3)] [] σ1 σ2 (rc v3 σ1 σ2)) (v3 : Int32) (σ1 σ2 : Mem) : V2 x z z1 z2 4 cn sn Q 1700 [(0, .ref b), (1, .ref (z1.2.2.1 0)), (2, .ref (z2.2.2.1 0)), (3, .int v3)] [] σ1 σ2 (lw_c34 N xs Ln rc v3 σ1 σ2) := by
  unfold lw_c34
  refine V2_aload_n 1 X dL_law_1700 rfl rfl ?_
  refine V2_aload_n 0 X dL_law_1701 rfl rfl ?_
  refine V2_iload_n 3 X dL_law_1702 rfl rfl ?_
  refine V2_iconst (v := 1) X dL_law_1703 (by decide) ?_
  refine V2_iadd X dL_law_1704 ?_
  refine V2_sld X dL_law_1705 ?_
  refine V2_aload_n 0 X dL_law_1706 rfl rfl ?_
  refine V2_iload_n 3 X dL_law_1707 rfl rfl ?_
  refine V2_iconst (v := 2) X dL_law_1708 (by decide) ?_
  refine V2_iadd X dL_law_1709 ?_
  refine V2_sld X dL_law_1710 ?_
  refine V2_aload_n 0 X dL_law_1711 rfl rfl ?_
  refine V2_iload_n 3 X dL_law_1712 rfl rfl ?_
  refine V2_iconst (v := 3) X dL_law_1713 (by decide) ?_
  refine V2_iadd X dL_law_1714 ?_
  refine V2_sld X dL_law_1715 ?_
  refine V2_callI1 [.int (xs (v3 + 1).toNatClampNeg), .int (xs (v3 + 2).toNatClampNeg), .int (xs (v3 + 3).toNatClampNeg)] [] X dL_law_1716 (kX11_kin x.2.1 z1 hZ1 N 0 hk1 (xs (v3 + 1).toNatClampNeg) (xs (v3 + 2).toNatClampNeg) (xs (v3 + 3).toNatClampNeg) σ1) co11 hk1 gcL_160 hyL_X11_kin rfl ⟨by decide, by decide⟩ rfl (Nat.le_of_ble_eq_true rfl) hcr (fun r1 s2 => ?_)
  refine V2_aload_n 2 X dL_law_1719 rfl rfl ?_
  refine V2_aload_n 0 X dL_law_1720 rfl rfl ?_
  refine V2_iload_n 3 X dL_law_1721 rfl rfl ?_
  refine V2_iconst (v := 1) X dL_law_1722 (by decide) ?_
  refine V2_iadd X dL_law_1723 ?_
  refine V2_sld X dL_law_1724 ?_
  refine V2_aload_n 0 X dL_law_1725 rfl rfl ?_
  refine V2_iload_n 3 X dL_law_1726 rfl rfl ?_
  refine V2_iconst (v := 2) X dL_law_1727 (by decide) ?_
  refine V2_iadd X dL_law_1728 ?_
  refine V2_sld X dL_law_1729 ?_
  refine V2_aload_n 0 X dL_law_1730 rfl rfl ?_
  refine V2_iload_n 3 X dL_law_1731 rfl rfl ?_
  refine V2_iconst (v := 3) X dL_law_1732 (by decide) ?_
  refine V2_iadd X dL_law_1733 ?_
  refine V2_sld X dL_law_1734 ?_
  refine V2_callI2 [.int (xs (v3 + 1).toNatClampNeg), .int (xs (v3 + 2).toNatClampNeg), .int (xs (v3 + 3).toNatClampNeg)] [.int r1] X dL_law_1735 (kX12_kin x.2.1 z2 hZ2 N (xs (v3 + 1).toNatClampNeg) (xs (v3 + 2).toNatClampNeg) (xs (v3 + 3).toNatClampNeg) σ2) co12 hk2 gcL_163 hyL_X12_kin rfl ⟨by decide, by decide⟩ rfl (Nat.le_of_ble_eq_true rfl) hcr (fun r3 s4 => ?_)
  refine V2_icmp_eq (tgt := 2049) X dL_law_1738 (by decide) ?_ ?_
  · exact hrec v3 s2 s4
  · refine V2_iconst (v := 0) X dL_law_1741 (by decide) ?_
    exact fun q => absurd q (by decide)
set_option maxRecDepth 100000 in
set_option maxHeartbeats 4000000 in
theorem lv_c35 {x : Cx} {z z1 z2 : Sx} {b Ln cn sn : Nat} {xs : Nat → Int32} {Q : State → Prop} (X : X2 x z z1 z2 code 4 20 487 b Ln xs) (hZ1 : z1.2.2.2.1 = kdC) (hZ2 : z2.2.2.2.1 = kdM) (hk1 : z1.2.2.2.1 0 = (11, 0)) (hk2 : z2.2.2.2.1 0 = (12, 0)) (hcr : ∀ R : Room, (match x with | (_, _, _, R', _) => R') = R → cn ≤ R.cells ∧ sn ≤ R.slots) (N : Nat) (rc : Int32 → Mem → Mem → Option Int32) (hrec : ∀ (v3 : Int32) (σ1 σ2 : Mem), V2 x z z1 z2 4 cn sn Q 2049 [(0, .ref b), (1, .ref (z1.2.2.1 0)), (2, .ref (z2.2.2.1 0)), (3, .int v3)] [] σ1 σ2 (rc v3 σ1 σ2)) (v3 : Int32) (σ1 σ2 : Mem) : V2 x z z1 z2 4 cn sn Q 1743 [(0, .ref b), (1, .ref (z1.2.2.1 0)), (2, .ref (z2.2.2.1 0)), (3, .int v3)] [] σ1 σ2 (lw_c35 N xs Ln rc v3 σ1 σ2) := by
  unfold lw_c35
  refine V2_aload_n 1 X dL_law_1743 rfl rfl ?_
  refine V2_aload_n 0 X dL_law_1744 rfl rfl ?_
  refine V2_iload_n 3 X dL_law_1745 rfl rfl ?_
  refine V2_iconst (v := 1) X dL_law_1746 (by decide) ?_
  refine V2_iadd X dL_law_1747 ?_
  refine V2_sld X dL_law_1748 ?_
  refine V2_aload_n 0 X dL_law_1749 rfl rfl ?_
  refine V2_iload_n 3 X dL_law_1750 rfl rfl ?_
  refine V2_iconst (v := 2) X dL_law_1751 (by decide) ?_
  refine V2_iadd X dL_law_1752 ?_
  refine V2_sld X dL_law_1753 ?_
  refine V2_callI1 [.int (xs (v3 + 1).toNatClampNeg), .int (xs (v3 + 2).toNatClampNeg)] [] X dL_law_1754 (kX11_trade x.2.1 z1 hZ1 N 0 hk1 (xs (v3 + 1).toNatClampNeg) (xs (v3 + 2).toNatClampNeg) σ1) co11 hk1 gcL_164 hyL_X11_trade rfl ⟨by decide, by decide⟩ rfl (Nat.le_of_ble_eq_true rfl) hcr (fun r1 s2 => ?_)
  refine V2_aload_n 2 X dL_law_1757 rfl rfl ?_
  refine V2_aload_n 0 X dL_law_1758 rfl rfl ?_
  refine V2_iload_n 3 X dL_law_1759 rfl rfl ?_
  refine V2_iconst (v := 1) X dL_law_1760 (by decide) ?_
  refine V2_iadd X dL_law_1761 ?_
  refine V2_sld X dL_law_1762 ?_
  refine V2_aload_n 0 X dL_law_1763 rfl rfl ?_
  refine V2_iload_n 3 X dL_law_1764 rfl rfl ?_
  refine V2_iconst (v := 2) X dL_law_1765 (by decide) ?_
  refine V2_iadd X dL_law_1766 ?_
  refine V2_sld X dL_law_1767 ?_
  refine V2_callI2 [.int (xs (v3 + 1).toNatClampNeg), .int (xs (v3 + 2).toNatClampNeg)] [.int r1] X dL_law_1768 (kX12_trade x.2.1 z2 hZ2 N (xs (v3 + 1).toNatClampNeg) (xs (v3 + 2).toNatClampNeg) σ2) co12 hk2 gcL_167 hyL_X12_trade rfl ⟨by decide, by decide⟩ rfl (Nat.le_of_ble_eq_true rfl) hcr (fun r3 s4 => ?_)
  refine V2_icmp_eq (tgt := 2049) X dL_law_1771 (by decide) ?_ ?_
  · exact hrec v3 s2 s4
  · refine V2_iconst (v := 0) X dL_law_1774 (by decide) ?_
    exact fun q => absurd q (by decide)
