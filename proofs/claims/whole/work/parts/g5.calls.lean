/-! ===== the law, calls 34 to 45 ===== -/
theorem d_law_1402 : decode code 1402 = .ok (.aload_n 1, 1) := by decide +kernel
theorem d_law_1403 : decode code 1403 = .ok (.aload_n 0, 1) := by decide +kernel
theorem d_law_1404 : decode code 1404 = .ok (.iload_n 3, 1) := by decide +kernel
theorem d_law_1405 : decode code 1405 = .ok (.iconst 1, 1) := by decide +kernel
theorem d_law_1406 : decode code 1406 = .ok (.iadd, 1) := by decide +kernel
theorem d_law_1407 : decode code 1407 = .ok (.iaload, 1) := by decide +kernel
theorem d_law_1408 : decode code 1408 = .ok (.aload_n 0, 1) := by decide +kernel
theorem d_law_1409 : decode code 1409 = .ok (.iload_n 3, 1) := by decide +kernel
theorem d_law_1410 : decode code 1410 = .ok (.iconst 2, 1) := by decide +kernel
theorem d_law_1411 : decode code 1411 = .ok (.iadd, 1) := by decide +kernel
theorem d_law_1412 : decode code 1412 = .ok (.iaload, 1) := by decide +kernel
theorem d_law_1413 : decode code 1413 = .ok (.aload_n 0, 1) := by decide +kernel
theorem d_law_1414 : decode code 1414 = .ok (.iload_n 3, 1) := by decide +kernel
theorem d_law_1415 : decode code 1415 = .ok (.iconst 3, 1) := by decide +kernel
theorem d_law_1416 : decode code 1416 = .ok (.iadd, 1) := by decide +kernel
theorem d_law_1417 : decode code 1417 = .ok (.iaload, 1) := by decide +kernel
theorem d_law_1418 : decode code 1418 = .ok (.invokevirtual 163, 3) := by decide +kernel
theorem d_law_1421 : decode code 1421 = .ok (.aload_n 2, 1) := by decide +kernel
theorem d_law_1422 : decode code 1422 = .ok (.aload_n 0, 1) := by decide +kernel
theorem d_law_1423 : decode code 1423 = .ok (.iload_n 3, 1) := by decide +kernel
theorem d_law_1424 : decode code 1424 = .ok (.iconst 1, 1) := by decide +kernel
theorem d_law_1425 : decode code 1425 = .ok (.iadd, 1) := by decide +kernel
theorem d_law_1426 : decode code 1426 = .ok (.iaload, 1) := by decide +kernel
theorem d_law_1427 : decode code 1427 = .ok (.aload_n 0, 1) := by decide +kernel
theorem d_law_1428 : decode code 1428 = .ok (.iload_n 3, 1) := by decide +kernel
theorem d_law_1429 : decode code 1429 = .ok (.iconst 2, 1) := by decide +kernel
theorem d_law_1430 : decode code 1430 = .ok (.iadd, 1) := by decide +kernel
theorem d_law_1431 : decode code 1431 = .ok (.iaload, 1) := by decide +kernel
theorem d_law_1432 : decode code 1432 = .ok (.aload_n 0, 1) := by decide +kernel
theorem d_law_1433 : decode code 1433 = .ok (.iload_n 3, 1) := by decide +kernel
theorem d_law_1434 : decode code 1434 = .ok (.iconst 3, 1) := by decide +kernel
theorem d_law_1435 : decode code 1435 = .ok (.iadd, 1) := by decide +kernel
theorem d_law_1436 : decode code 1436 = .ok (.iaload, 1) := by decide +kernel
theorem d_law_1437 : decode code 1437 = .ok (.invokevirtual 167, 3) := by decide +kernel
theorem d_law_1440 : decode code 1440 = .ok (.if_icmp .eq 478, 3) := by decide +kernel
theorem d_law_1443 : decode code 1443 = .ok (.iconst 0, 1) := by decide +kernel
theorem d_law_1444 : decode code 1444 = .ok (.ireturn, 1) := by decide +kernel
theorem d_law_1445 : decode code 1445 = .ok (.aload_n 1, 1) := by decide +kernel
theorem d_law_1446 : decode code 1446 = .ok (.aload_n 0, 1) := by decide +kernel
theorem d_law_1447 : decode code 1447 = .ok (.iload_n 3, 1) := by decide +kernel
theorem d_law_1448 : decode code 1448 = .ok (.iconst 1, 1) := by decide +kernel
theorem d_law_1449 : decode code 1449 = .ok (.iadd, 1) := by decide +kernel
theorem d_law_1450 : decode code 1450 = .ok (.iaload, 1) := by decide +kernel
theorem d_law_1451 : decode code 1451 = .ok (.aload_n 0, 1) := by decide +kernel
theorem d_law_1452 : decode code 1452 = .ok (.iload_n 3, 1) := by decide +kernel
theorem d_law_1453 : decode code 1453 = .ok (.iconst 2, 1) := by decide +kernel
theorem d_law_1454 : decode code 1454 = .ok (.iadd, 1) := by decide +kernel
theorem d_law_1455 : decode code 1455 = .ok (.iaload, 1) := by decide +kernel
theorem d_law_1456 : decode code 1456 = .ok (.invokevirtual 168, 3) := by decide +kernel
theorem d_law_1459 : decode code 1459 = .ok (.aload_n 2, 1) := by decide +kernel
theorem d_law_1460 : decode code 1460 = .ok (.aload_n 0, 1) := by decide +kernel
theorem d_law_1461 : decode code 1461 = .ok (.iload_n 3, 1) := by decide +kernel
theorem d_law_1462 : decode code 1462 = .ok (.iconst 1, 1) := by decide +kernel
theorem d_law_1463 : decode code 1463 = .ok (.iadd, 1) := by decide +kernel
theorem d_law_1464 : decode code 1464 = .ok (.iaload, 1) := by decide +kernel
theorem d_law_1465 : decode code 1465 = .ok (.aload_n 0, 1) := by decide +kernel
theorem d_law_1466 : decode code 1466 = .ok (.iload_n 3, 1) := by decide +kernel
theorem d_law_1467 : decode code 1467 = .ok (.iconst 2, 1) := by decide +kernel
theorem d_law_1468 : decode code 1468 = .ok (.iadd, 1) := by decide +kernel
theorem d_law_1469 : decode code 1469 = .ok (.iaload, 1) := by decide +kernel
theorem d_law_1470 : decode code 1470 = .ok (.invokevirtual 171, 3) := by decide +kernel
theorem d_law_1473 : decode code 1473 = .ok (.if_icmp .eq 445, 3) := by decide +kernel
theorem d_law_1476 : decode code 1476 = .ok (.iconst 0, 1) := by decide +kernel
theorem d_law_1477 : decode code 1477 = .ok (.ireturn, 1) := by decide +kernel
theorem d_law_1478 : decode code 1478 = .ok (.aload_n 1, 1) := by decide +kernel
theorem d_law_1479 : decode code 1479 = .ok (.aload_n 0, 1) := by decide +kernel
theorem d_law_1480 : decode code 1480 = .ok (.iload_n 3, 1) := by decide +kernel
theorem d_law_1481 : decode code 1481 = .ok (.iconst 1, 1) := by decide +kernel
theorem d_law_1482 : decode code 1482 = .ok (.iadd, 1) := by decide +kernel
theorem d_law_1483 : decode code 1483 = .ok (.iaload, 1) := by decide +kernel
theorem d_law_1484 : decode code 1484 = .ok (.invokevirtual 172, 3) := by decide +kernel
theorem d_law_1487 : decode code 1487 = .ok (.aload_n 2, 1) := by decide +kernel
theorem d_law_1488 : decode code 1488 = .ok (.aload_n 0, 1) := by decide +kernel
theorem d_law_1489 : decode code 1489 = .ok (.iload_n 3, 1) := by decide +kernel
theorem d_law_1490 : decode code 1490 = .ok (.iconst 1, 1) := by decide +kernel
theorem d_law_1491 : decode code 1491 = .ok (.iadd, 1) := by decide +kernel
theorem d_law_1492 : decode code 1492 = .ok (.iaload, 1) := by decide +kernel
theorem d_law_1493 : decode code 1493 = .ok (.invokevirtual 175, 3) := by decide +kernel
theorem d_law_1496 : decode code 1496 = .ok (.if_icmp .eq 422, 3) := by decide +kernel
theorem d_law_1499 : decode code 1499 = .ok (.iconst 0, 1) := by decide +kernel
theorem d_law_1500 : decode code 1500 = .ok (.ireturn, 1) := by decide +kernel
theorem d_law_1501 : decode code 1501 = .ok (.aload_n 1, 1) := by decide +kernel
theorem d_law_1502 : decode code 1502 = .ok (.aload_n 0, 1) := by decide +kernel
theorem d_law_1503 : decode code 1503 = .ok (.iload_n 3, 1) := by decide +kernel
theorem d_law_1504 : decode code 1504 = .ok (.iconst 1, 1) := by decide +kernel
theorem d_law_1505 : decode code 1505 = .ok (.iadd, 1) := by decide +kernel
theorem d_law_1506 : decode code 1506 = .ok (.iaload, 1) := by decide +kernel
theorem d_law_1507 : decode code 1507 = .ok (.invokevirtual 176, 3) := by decide +kernel
theorem d_law_1510 : decode code 1510 = .ok (.aload_n 2, 1) := by decide +kernel
theorem d_law_1511 : decode code 1511 = .ok (.aload_n 0, 1) := by decide +kernel
theorem d_law_1512 : decode code 1512 = .ok (.iload_n 3, 1) := by decide +kernel
theorem d_law_1513 : decode code 1513 = .ok (.iconst 1, 1) := by decide +kernel
theorem d_law_1514 : decode code 1514 = .ok (.iadd, 1) := by decide +kernel
theorem d_law_1515 : decode code 1515 = .ok (.iaload, 1) := by decide +kernel
theorem d_law_1516 : decode code 1516 = .ok (.invokevirtual 179, 3) := by decide +kernel
theorem d_law_1519 : decode code 1519 = .ok (.if_icmp .eq 399, 3) := by decide +kernel
theorem d_law_1522 : decode code 1522 = .ok (.iconst 0, 1) := by decide +kernel
theorem d_law_1523 : decode code 1523 = .ok (.ireturn, 1) := by decide +kernel
theorem d_law_1524 : decode code 1524 = .ok (.aload_n 1, 1) := by decide +kernel
theorem d_law_1525 : decode code 1525 = .ok (.aload_n 0, 1) := by decide +kernel
theorem d_law_1526 : decode code 1526 = .ok (.iload_n 3, 1) := by decide +kernel
theorem d_law_1527 : decode code 1527 = .ok (.iconst 1, 1) := by decide +kernel
theorem d_law_1528 : decode code 1528 = .ok (.iadd, 1) := by decide +kernel
theorem d_law_1529 : decode code 1529 = .ok (.iaload, 1) := by decide +kernel
theorem d_law_1530 : decode code 1530 = .ok (.invokevirtual 180, 3) := by decide +kernel
theorem d_law_1533 : decode code 1533 = .ok (.aload_n 2, 1) := by decide +kernel
theorem d_law_1534 : decode code 1534 = .ok (.aload_n 0, 1) := by decide +kernel
theorem d_law_1535 : decode code 1535 = .ok (.iload_n 3, 1) := by decide +kernel
theorem d_law_1536 : decode code 1536 = .ok (.iconst 1, 1) := by decide +kernel
theorem d_law_1537 : decode code 1537 = .ok (.iadd, 1) := by decide +kernel
theorem d_law_1538 : decode code 1538 = .ok (.iaload, 1) := by decide +kernel
theorem d_law_1539 : decode code 1539 = .ok (.invokevirtual 183, 3) := by decide +kernel
theorem d_law_1542 : decode code 1542 = .ok (.if_icmp .eq 376, 3) := by decide +kernel
theorem d_law_1545 : decode code 1545 = .ok (.iconst 0, 1) := by decide +kernel
theorem d_law_1546 : decode code 1546 = .ok (.ireturn, 1) := by decide +kernel
theorem d_law_1547 : decode code 1547 = .ok (.aload_n 1, 1) := by decide +kernel
theorem d_law_1548 : decode code 1548 = .ok (.invokevirtual 184, 3) := by decide +kernel
theorem d_law_1551 : decode code 1551 = .ok (.aload_n 2, 1) := by decide +kernel
theorem d_law_1552 : decode code 1552 = .ok (.invokevirtual 187, 3) := by decide +kernel
theorem d_law_1555 : decode code 1555 = .ok (.if_icmp .eq 363, 3) := by decide +kernel
theorem d_law_1558 : decode code 1558 = .ok (.iconst 0, 1) := by decide +kernel
theorem d_law_1559 : decode code 1559 = .ok (.ireturn, 1) := by decide +kernel
theorem d_law_1560 : decode code 1560 = .ok (.aload_n 1, 1) := by decide +kernel
theorem d_law_1561 : decode code 1561 = .ok (.invokevirtual 188, 3) := by decide +kernel
theorem d_law_1564 : decode code 1564 = .ok (.aload_n 2, 1) := by decide +kernel
theorem d_law_1565 : decode code 1565 = .ok (.invokevirtual 191, 3) := by decide +kernel
theorem d_law_1568 : decode code 1568 = .ok (.lcmp, 1) := by decide +kernel
theorem d_law_1569 : decode code 1569 = .ok (.ifCond .eq 349, 3) := by decide +kernel
theorem d_law_1572 : decode code 1572 = .ok (.iconst 0, 1) := by decide +kernel
theorem d_law_1573 : decode code 1573 = .ok (.ireturn, 1) := by decide +kernel
theorem d_law_1574 : decode code 1574 = .ok (.aload_n 1, 1) := by decide +kernel
theorem d_law_1575 : decode code 1575 = .ok (.invokevirtual 192, 3) := by decide +kernel
theorem d_law_1578 : decode code 1578 = .ok (.aload_n 2, 1) := by decide +kernel
theorem d_law_1579 : decode code 1579 = .ok (.invokevirtual 195, 3) := by decide +kernel
theorem d_law_1582 : decode code 1582 = .ok (.if_icmp .eq 336, 3) := by decide +kernel
theorem d_law_1585 : decode code 1585 = .ok (.iconst 0, 1) := by decide +kernel
theorem d_law_1586 : decode code 1586 = .ok (.ireturn, 1) := by decide +kernel
theorem d_law_1587 : decode code 1587 = .ok (.aload_n 1, 1) := by decide +kernel
theorem d_law_1588 : decode code 1588 = .ok (.invokevirtual 196, 3) := by decide +kernel
theorem d_law_1591 : decode code 1591 = .ok (.aload_n 2, 1) := by decide +kernel
theorem d_law_1592 : decode code 1592 = .ok (.invokevirtual 199, 3) := by decide +kernel
theorem d_law_1595 : decode code 1595 = .ok (.if_icmp .eq 323, 3) := by decide +kernel
theorem d_law_1598 : decode code 1598 = .ok (.iconst 0, 1) := by decide +kernel
theorem d_law_1599 : decode code 1599 = .ok (.ireturn, 1) := by decide +kernel
theorem d_law_1600 : decode code 1600 = .ok (.aload_n 1, 1) := by decide +kernel
theorem d_law_1601 : decode code 1601 = .ok (.invokevirtual 200, 3) := by decide +kernel
theorem d_law_1604 : decode code 1604 = .ok (.aload_n 2, 1) := by decide +kernel
theorem d_law_1605 : decode code 1605 = .ok (.invokevirtual 203, 3) := by decide +kernel
theorem d_law_1608 : decode code 1608 = .ok (.if_icmp .eq 310, 3) := by decide +kernel
theorem d_law_1611 : decode code 1611 = .ok (.iconst 0, 1) := by decide +kernel
theorem d_law_1612 : decode code 1612 = .ok (.ireturn, 1) := by decide +kernel
theorem d_law_1613 : decode code 1613 = .ok (.aload_n 1, 1) := by decide +kernel
theorem d_law_1614 : decode code 1614 = .ok (.invokevirtual 204, 3) := by decide +kernel
theorem d_law_1617 : decode code 1617 = .ok (.aload_n 2, 1) := by decide +kernel
theorem d_law_1618 : decode code 1618 = .ok (.invokevirtual 207, 3) := by decide +kernel
theorem d_law_1621 : decode code 1621 = .ok (.if_icmp .eq 297, 3) := by decide +kernel
theorem d_law_1624 : decode code 1624 = .ok (.iconst 0, 1) := by decide +kernel
theorem d_law_1625 : decode code 1625 = .ok (.ireturn, 1) := by decide +kernel
theorem d_law_1626 : decode code 1626 = .ok (.aload_n 1, 1) := by decide +kernel
theorem d_law_1627 : decode code 1627 = .ok (.aload_n 0, 1) := by decide +kernel
theorem d_law_1628 : decode code 1628 = .ok (.iload_n 3, 1) := by decide +kernel
theorem d_law_1629 : decode code 1629 = .ok (.iconst 1, 1) := by decide +kernel
theorem d_law_1630 : decode code 1630 = .ok (.iadd, 1) := by decide +kernel
theorem d_law_1631 : decode code 1631 = .ok (.iaload, 1) := by decide +kernel
theorem d_law_1632 : decode code 1632 = .ok (.invokevirtual 208, 3) := by decide +kernel
theorem d_law_1635 : decode code 1635 = .ok (.aload_n 2, 1) := by decide +kernel
theorem d_law_1636 : decode code 1636 = .ok (.aload_n 0, 1) := by decide +kernel
theorem d_law_1637 : decode code 1637 = .ok (.iload_n 3, 1) := by decide +kernel
theorem d_law_1638 : decode code 1638 = .ok (.iconst 1, 1) := by decide +kernel
theorem d_law_1639 : decode code 1639 = .ok (.iadd, 1) := by decide +kernel
theorem d_law_1640 : decode code 1640 = .ok (.iaload, 1) := by decide +kernel
theorem d_law_1641 : decode code 1641 = .ok (.invokevirtual 211, 3) := by decide +kernel
theorem d_law_1644 : decode code 1644 = .ok (.if_icmp .eq 274, 3) := by decide +kernel
theorem d_law_1647 : decode code 1647 = .ok (.iconst 0, 1) := by decide +kernel
theorem d_law_1648 : decode code 1648 = .ok (.ireturn, 1) := by decide +kernel
section LAWC
variable {p : Program} {l : Launch} {e : Env} {s : State} {m : MethodId} {below : List Frame} {meth : Method} {c : Code} {b L : Nat} {xs : Nat → Int32} {G : Gm} {aP : Nat}
theorem law_34 (C : LCx p s m meth c b L xs G aP) (hL : L ≤ 3072) {i : Nat} (hi : i + 6 ≤ L) {hc hm : Hp} (J : JJ (pY G aP) (mY G (aP + 184)) hc aP hm (aP + 184) kw0) (nx : ∀ hc hm, JJ (pY G aP) (mY G (aP + 184)) hc aP hm (aP + 184) kw0 → LW p l e s m below meth c b G aP 1918 (lvL b aP i) [] hc hm) : LW p l e s m below meth c b G aP 1402 (lvL b aP i) [] hc hm := by
  obtain ⟨v, hc1, hm1, e1, e2, J1⟩ := so_isEnding J (xs (i + 1)) (xs (i + 2)) (xs (i + 3))
  refine lw_aload C (pc := 1402) (q := 2) d_law_1402 rfl rfl ?_
  refine lw_cell C (i := i) (k := 1) (pc := 1403) hL hi (by decide) d_law_1403 d_law_1404 d_law_1405 (by decide) d_law_1406 d_law_1407 ?_
  refine lw_cell C (i := i) (k := 2) (pc := 1408) hL hi (by decide) d_law_1408 d_law_1409 d_law_1410 (by decide) d_law_1411 d_law_1412 ?_
  refine lw_cell C (i := i) (k := 3) (pc := 1413) hL hi (by decide) d_law_1413 d_law_1414 d_law_1415 (by decide) d_law_1416 d_law_1417 ?_
  refine lw_callC C (pc := 1418) (K' := K_LP_isEnding) (n' := 3) (As := [.int (xs (i + 1)), .int (xs (i + 2)), .int (xs (i + 3))]) (st := []) okV_LP_isEnding rfl (ok_LP_isEnding (pY G aP) aP (xs (i + 1)) (xs (i + 2)) (xs (i + 3)) hc (oP G aP)) e1 w5_176 d_law_1418 rfl (by decide) rfl (Nat.le_of_ble_eq_true rfl) ?_
  show LW p l e s m below meth c b G aP 1421 (lvL b aP i) [.int v] hc1 hm
  refine lw_aload C (pc := 1421) (q := 3) d_law_1421 rfl rfl ?_
  refine lw_cell C (i := i) (k := 1) (pc := 1422) hL hi (by decide) d_law_1422 d_law_1423 d_law_1424 (by decide) d_law_1425 d_law_1426 ?_
  refine lw_cell C (i := i) (k := 2) (pc := 1427) hL hi (by decide) d_law_1427 d_law_1428 d_law_1429 (by decide) d_law_1430 d_law_1431 ?_
  refine lw_cell C (i := i) (k := 3) (pc := 1432) hL hi (by decide) d_law_1432 d_law_1433 d_law_1434 (by decide) d_law_1435 d_law_1436 ?_
  refine lw_callM C (pc := 1437) (K' := K_M_isEnding) (n' := 3) (As := [.int (xs (i + 1)), .int (xs (i + 2)), .int (xs (i + 3))]) (st := [.int v]) okV_M_isEnding rfl (ok_M_isEnding (mY G (aP + 184)) (aP + 184) (xs (i + 1)) (xs (i + 2)) (xs (i + 3)) hm (M_isO G (aP + 184))) e2 w9_204 d_law_1437 rfl (by decide) rfl (Nat.le_of_ble_eq_true rfl) ?_
  show LW p l e s m below meth c b G aP 1440 (lvL b aP i) [.int v, .int v] hc1 hm1
  exact lw_icmp_eq C (pc := 1440) (tgt := 1918) d_law_1440 (by decide) (nx _ _ J1)
theorem law_35 (C : LCx p s m meth c b L xs G aP) (hL : L ≤ 3072) {i : Nat} (hi : i + 6 ≤ L) {hc hm : Hp} (J : JJ (pY G aP) (mY G (aP + 184)) hc aP hm (aP + 184) kw0) (nx : ∀ hc hm, JJ (pY G aP) (mY G (aP + 184)) hc aP hm (aP + 184) kw0 → LW p l e s m below meth c b G aP 1918 (lvL b aP i) [] hc hm) : LW p l e s m below meth c b G aP 1445 (lvL b aP i) [] hc hm := by
  obtain ⟨v, hc1, hm1, e1, e2, J1⟩ := so_fits J (xs (i + 1)) (xs (i + 2))
  refine lw_aload C (pc := 1445) (q := 2) d_law_1445 rfl rfl ?_
  refine lw_cell C (i := i) (k := 1) (pc := 1446) hL hi (by decide) d_law_1446 d_law_1447 d_law_1448 (by decide) d_law_1449 d_law_1450 ?_
  refine lw_cell C (i := i) (k := 2) (pc := 1451) hL hi (by decide) d_law_1451 d_law_1452 d_law_1453 (by decide) d_law_1454 d_law_1455 ?_
  refine lw_callC C (pc := 1456) (K' := K_LP_fits) (n' := 4) (As := [.int (xs (i + 1)), .int (xs (i + 2))]) (st := []) okV_LP_fits rfl (ok_LP_fits (pY G aP) aP (xs (i + 1)) (xs (i + 2)) hc (oP G aP)) e1 w5_190 d_law_1456 rfl (by decide) rfl (Nat.le_of_ble_eq_true rfl) ?_
  show LW p l e s m below meth c b G aP 1459 (lvL b aP i) [.int v] hc1 hm
  refine lw_aload C (pc := 1459) (q := 3) d_law_1459 rfl rfl ?_
  refine lw_cell C (i := i) (k := 1) (pc := 1460) hL hi (by decide) d_law_1460 d_law_1461 d_law_1462 (by decide) d_law_1463 d_law_1464 ?_
  refine lw_cell C (i := i) (k := 2) (pc := 1465) hL hi (by decide) d_law_1465 d_law_1466 d_law_1467 (by decide) d_law_1468 d_law_1469 ?_
  refine lw_callM C (pc := 1470) (K' := K_M_fits) (n' := 4) (As := [.int (xs (i + 1)), .int (xs (i + 2))]) (st := [.int v]) okV_M_fits rfl (ok_M_fits (mY G (aP + 184)) (aP + 184) (xs (i + 1)) (xs (i + 2)) hm (M_isO G (aP + 184))) e2 w9_212 d_law_1470 rfl (by decide) rfl (Nat.le_of_ble_eq_true rfl) ?_
  show LW p l e s m below meth c b G aP 1473 (lvL b aP i) [.int v, .int v] hc1 hm1
  exact lw_icmp_eq C (pc := 1473) (tgt := 1918) d_law_1473 (by decide) (nx _ _ J1)
theorem law_36 (C : LCx p s m meth c b L xs G aP) (hL : L ≤ 3072) {i : Nat} (hi : i + 6 ≤ L) {hc hm : Hp} (J : JJ (pY G aP) (mY G (aP + 184)) hc aP hm (aP + 184) kw0) (nx : ∀ hc hm, JJ (pY G aP) (mY G (aP + 184)) hc aP hm (aP + 184) kw0 → LW p l e s m below meth c b G aP 1918 (lvL b aP i) [] hc hm) : LW p l e s m below meth c b G aP 1478 (lvL b aP i) [] hc hm := by
  obtain ⟨v, hc1, hm1, e1, e2, J1⟩ := so_finalesOf J (xs (i + 1))
  refine lw_aload C (pc := 1478) (q := 2) d_law_1478 rfl rfl ?_
  refine lw_cell C (i := i) (k := 1) (pc := 1479) hL hi (by decide) d_law_1479 d_law_1480 d_law_1481 (by decide) d_law_1482 d_law_1483 ?_
  refine lw_callC C (pc := 1484) (K' := K_LP_finalesOf) (n' := 4) (As := [.int (xs (i + 1))]) (st := []) okV_LP_finalesOf rfl (ok_LP_finalesOf (pY G aP) aP (xs (i + 1)) hc (oP G aP)) e1 w5_194 d_law_1484 rfl (by decide) rfl (Nat.le_of_ble_eq_true rfl) ?_
  show LW p l e s m below meth c b G aP 1487 (lvL b aP i) [.int v] hc1 hm
  refine lw_aload C (pc := 1487) (q := 3) d_law_1487 rfl rfl ?_
  refine lw_cell C (i := i) (k := 1) (pc := 1488) hL hi (by decide) d_law_1488 d_law_1489 d_law_1490 (by decide) d_law_1491 d_law_1492 ?_
  refine lw_callM C (pc := 1493) (K' := K_M_finalesOf) (n' := 5) (As := [.int (xs (i + 1))]) (st := [.int v]) okV_M_finalesOf rfl (ok_M_finalesOf (mY G (aP + 184)) (aP + 184) (xs (i + 1)) hm (M_isO G (aP + 184))) e2 w9_216 d_law_1493 rfl (by decide) rfl (Nat.le_of_ble_eq_true rfl) ?_
  show LW p l e s m below meth c b G aP 1496 (lvL b aP i) [.int v, .int v] hc1 hm1
  exact lw_icmp_eq C (pc := 1496) (tgt := 1918) d_law_1496 (by decide) (nx _ _ J1)
theorem law_37 (C : LCx p s m meth c b L xs G aP) (hL : L ≤ 3072) {i : Nat} (hi : i + 6 ≤ L) {hc hm : Hp} (J : JJ (pY G aP) (mY G (aP + 184)) hc aP hm (aP + 184) kw0) (nx : ∀ hc hm, JJ (pY G aP) (mY G (aP + 184)) hc aP hm (aP + 184) kw0 → LW p l e s m below meth c b G aP 1918 (lvL b aP i) [] hc hm) : LW p l e s m below meth c b G aP 1501 (lvL b aP i) [] hc hm := by
  obtain ⟨v, hc1, hm1, e1, e2, J1⟩ := so_booksOf J (xs (i + 1))
  refine lw_aload C (pc := 1501) (q := 2) d_law_1501 rfl rfl ?_
  refine lw_cell C (i := i) (k := 1) (pc := 1502) hL hi (by decide) d_law_1502 d_law_1503 d_law_1504 (by decide) d_law_1505 d_law_1506 ?_
  refine lw_callC C (pc := 1507) (K' := K_LP_booksOf) (n' := 5) (As := [.int (xs (i + 1))]) (st := []) okV_LP_booksOf rfl (ok_LP_booksOf (pY G aP) aP (xs (i + 1)) hc (oP G aP)) e1 w5_198 d_law_1507 rfl (by decide) rfl (Nat.le_of_ble_eq_true rfl) ?_
  show LW p l e s m below meth c b G aP 1510 (lvL b aP i) [.int v] hc1 hm
  refine lw_aload C (pc := 1510) (q := 3) d_law_1510 rfl rfl ?_
  refine lw_cell C (i := i) (k := 1) (pc := 1511) hL hi (by decide) d_law_1511 d_law_1512 d_law_1513 (by decide) d_law_1514 d_law_1515 ?_
  refine lw_callM C (pc := 1516) (K' := K_M_booksOf) (n' := 4) (As := [.int (xs (i + 1))]) (st := [.int v]) okV_M_booksOf rfl (ok_M_booksOf (mY G (aP + 184)) (aP + 184) (xs (i + 1)) hm (M_isO G (aP + 184))) e2 w9_224 d_law_1516 rfl (by decide) rfl (Nat.le_of_ble_eq_true rfl) ?_
  show LW p l e s m below meth c b G aP 1519 (lvL b aP i) [.int v, .int v] hc1 hm1
  exact lw_icmp_eq C (pc := 1519) (tgt := 1918) d_law_1519 (by decide) (nx _ _ J1)
theorem law_38 (C : LCx p s m meth c b L xs G aP) (hL : L ≤ 3072) {i : Nat} (hi : i + 6 ≤ L) {hc hm : Hp} (J : JJ (pY G aP) (mY G (aP + 184)) hc aP hm (aP + 184) kw0) (nx : ∀ hc hm, JJ (pY G aP) (mY G (aP + 184)) hc aP hm (aP + 184) kw0 → LW p l e s m below meth c b G aP 1918 (lvL b aP i) [] hc hm) : LW p l e s m below meth c b G aP 1524 (lvL b aP i) [] hc hm := by
  obtain ⟨v, hc1, hm1, e1, e2, J1⟩ := so_oddness J (xs (i + 1))
  refine lw_aload C (pc := 1524) (q := 2) d_law_1524 rfl rfl ?_
  refine lw_cell C (i := i) (k := 1) (pc := 1525) hL hi (by decide) d_law_1525 d_law_1526 d_law_1527 (by decide) d_law_1528 d_law_1529 ?_
  refine lw_callC C (pc := 1530) (K' := K_LP_oddness) (n' := 3) (As := [.int (xs (i + 1))]) (st := []) okV_LP_oddness rfl (ok_LP_oddness (pY G aP) aP (xs (i + 1)) hc (oP G aP)) e1 w5_213 d_law_1530 rfl (by decide) rfl (Nat.le_of_ble_eq_true rfl) ?_
  show LW p l e s m below meth c b G aP 1533 (lvL b aP i) [.int v] hc1 hm
  refine lw_aload C (pc := 1533) (q := 3) d_law_1533 rfl rfl ?_
  refine lw_cell C (i := i) (k := 1) (pc := 1534) hL hi (by decide) d_law_1534 d_law_1535 d_law_1536 (by decide) d_law_1537 d_law_1538 ?_
  refine lw_callM C (pc := 1539) (K' := K_M_oddness) (n' := 2) (As := [.int (xs (i + 1))]) (st := [.int v]) okV_M_oddness rfl (ok_M_oddness (mY G (aP + 184)) (aP + 184) (xs (i + 1)) hm (M_isO G (aP + 184))) e2 w9_228 d_law_1539 rfl (by decide) rfl (Nat.le_of_ble_eq_true rfl) ?_
  show LW p l e s m below meth c b G aP 1542 (lvL b aP i) [.int v, .int v] hc1 hm1
  exact lw_icmp_eq C (pc := 1542) (tgt := 1918) d_law_1542 (by decide) (nx _ _ J1)
theorem law_39 (C : LCx p s m meth c b L xs G aP) (hL : L ≤ 3072) {i : Nat} (hi : i + 6 ≤ L) {hc hm : Hp} (J : JJ (pY G aP) (mY G (aP + 184)) hc aP hm (aP + 184) kw0) (nx : ∀ hc hm, JJ (pY G aP) (mY G (aP + 184)) hc aP hm (aP + 184) kw0 → LW p l e s m below meth c b G aP 1918 (lvL b aP i) [] hc hm) : LW p l e s m below meth c b G aP 1547 (lvL b aP i) [] hc hm := by
  obtain ⟨v, hc1, hm1, e1, e2, J1⟩ := so_match J 
  refine lw_aload C (pc := 1547) (q := 2) d_law_1547 rfl rfl ?_
  refine lw_callC C (pc := 1548) (K' := K_LP_match) (n' := 5) (As := []) (st := []) okV_LP_match rfl (ok_LP_match (pY G aP) aP hc (oP G aP)) e1 w5_223 d_law_1548 rfl (by decide) rfl (Nat.le_of_ble_eq_true rfl) ?_
  show LW p l e s m below meth c b G aP 1551 (lvL b aP i) [.int v] hc1 hm
  refine lw_aload C (pc := 1551) (q := 3) d_law_1551 rfl rfl ?_
  refine lw_callM C (pc := 1552) (K' := K_M_match) (n' := 6) (As := []) (st := [.int v]) okV_M_match rfl (ok_M_match (mY G (aP + 184)) (aP + 184) hm (M_isO G (aP + 184))) e2 w9_236 d_law_1552 rfl (by decide) rfl (Nat.le_of_ble_eq_true rfl) ?_
  show LW p l e s m below meth c b G aP 1555 (lvL b aP i) [.int v, .int v] hc1 hm1
  exact lw_icmp_eq C (pc := 1555) (tgt := 1918) d_law_1555 (by decide) (nx _ _ J1)
theorem law_40 (C : LCx p s m meth c b L xs G aP) (hL : L ≤ 3072) {i : Nat} (hi : i + 6 ≤ L) {hc hm : Hp} (J : JJ (pY G aP) (mY G (aP + 184)) hc aP hm (aP + 184) kw0) (nx : ∀ hc hm, JJ (pY G aP) (mY G (aP + 184)) hc aP hm (aP + 184) kw0 → LW p l e s m below meth c b G aP 1918 (lvL b aP i) [] hc hm) : LW p l e s m below meth c b G aP 1560 (lvL b aP i) [] hc hm := by
  obtain ⟨v, hc1, hm1, e1, e2, J1⟩ := so_ways J 
  refine lw_aload C (pc := 1560) (q := 2) d_law_1560 rfl rfl ?_
  refine lw_callC C (pc := 1561) (K' := K_LP_ways) (n' := 5) (As := []) (st := []) okV_LP_ways rfl (ok_LP_ways (pY G aP) aP hc (oP G aP)) e1 w6_2 d_law_1561 rfl (by decide) rfl (Nat.le_of_ble_eq_true rfl) ?_
  show LW p l e s m below meth c b G aP 1564 (lvL b aP i) [.long v] hc1 hm
  refine lw_aload C (pc := 1564) (q := 3) d_law_1564 rfl rfl ?_
  refine lw_callM C (pc := 1565) (K' := K_M_ways) (n' := 20) (As := []) (st := [.long v]) okV_M_ways rfl (ok_M_ways (mY G (aP + 184)) (aP + 184) hm (M_isO G (aP + 184))) e2 w10_8 d_law_1565 rfl (by decide) rfl (Nat.le_of_ble_eq_true rfl) ?_
  show LW p l e s m below meth c b G aP 1568 (lvL b aP i) [.long v, .long v] hc1 hm1
  exact lw_lcmp_eq C (pc := 1568) (tgt := 1918) d_law_1568 d_law_1569 (by decide) (nx _ _ J1)
theorem law_41 (C : LCx p s m meth c b L xs G aP) (hL : L ≤ 3072) {i : Nat} (hi : i + 6 ≤ L) {hc hm : Hp} (J : JJ (pY G aP) (mY G (aP + 184)) hc aP hm (aP + 184) kw0) (nx : ∀ hc hm, JJ (pY G aP) (mY G (aP + 184)) hc aP hm (aP + 184) kw0 → LW p l e s m below meth c b G aP 1918 (lvL b aP i) [] hc hm) : LW p l e s m below meth c b G aP 1574 (lvL b aP i) [] hc hm := by
  obtain ⟨v, hc1, hm1, e1, e2, J1⟩ := so_clash J 
  refine lw_aload C (pc := 1574) (q := 2) d_law_1574 rfl rfl ?_
  refine lw_callC C (pc := 1575) (K' := K_LP_clash) (n' := 5) (As := []) (st := []) okV_LP_clash rfl (ok_LP_clash (pY G aP) aP hc (oP G aP)) e1 w6_15 d_law_1575 rfl (by decide) rfl (Nat.le_of_ble_eq_true rfl) ?_
  show LW p l e s m below meth c b G aP 1578 (lvL b aP i) [.int v] hc1 hm
  refine lw_aload C (pc := 1578) (q := 3) d_law_1578 rfl rfl ?_
  refine lw_callM C (pc := 1579) (K' := K_M_clash) (n' := 7) (As := []) (st := [.int v]) okV_M_clash rfl (ok_M_clash (mY G (aP + 184)) (aP + 184) hm (M_isO G (aP + 184))) e2 w10_16 d_law_1579 rfl (by decide) rfl (Nat.le_of_ble_eq_true rfl) ?_
  show LW p l e s m below meth c b G aP 1582 (lvL b aP i) [.int v, .int v] hc1 hm1
  exact lw_icmp_eq C (pc := 1582) (tgt := 1918) d_law_1582 (by decide) (nx _ _ J1)
theorem law_42 (C : LCx p s m meth c b L xs G aP) (hL : L ≤ 3072) {i : Nat} (hi : i + 6 ≤ L) {hc hm : Hp} (J : JJ (pY G aP) (mY G (aP + 184)) hc aP hm (aP + 184) kw0) (nx : ∀ hc hm, JJ (pY G aP) (mY G (aP + 184)) hc aP hm (aP + 184) kw0 → LW p l e s m below meth c b G aP 1918 (lvL b aP i) [] hc hm) : LW p l e s m below meth c b G aP 1587 (lvL b aP i) [] hc hm := by
  obtain ⟨v, hc1, hm1, e1, e2, J1⟩ := so_clashSet J 
  refine lw_aload C (pc := 1587) (q := 2) d_law_1587 rfl rfl ?_
  refine lw_callC C (pc := 1588) (K' := K_LP_clashSet) (n' := 5) (As := []) (st := []) okV_LP_clashSet rfl (ok_LP_clashSet (pY G aP) aP hc (oP G aP)) e1 w6_31 d_law_1588 rfl (by decide) rfl (Nat.le_of_ble_eq_true rfl) ?_
  show LW p l e s m below meth c b G aP 1591 (lvL b aP i) [.int v] hc1 hm
  refine lw_aload C (pc := 1591) (q := 3) d_law_1591 rfl rfl ?_
  refine lw_callM C (pc := 1592) (K' := K_M_clashSet) (n' := 7) (As := []) (st := [.int v]) okV_M_clashSet rfl (ok_M_clashSet (mY G (aP + 184)) (aP + 184) hm (M_isO G (aP + 184))) e2 w10_35 d_law_1592 rfl (by decide) rfl (Nat.le_of_ble_eq_true rfl) ?_
  show LW p l e s m below meth c b G aP 1595 (lvL b aP i) [.int v, .int v] hc1 hm1
  exact lw_icmp_eq C (pc := 1595) (tgt := 1918) d_law_1595 (by decide) (nx _ _ J1)
theorem law_43 (C : LCx p s m meth c b L xs G aP) (hL : L ≤ 3072) {i : Nat} (hi : i + 6 ≤ L) {hc hm : Hp} (J : JJ (pY G aP) (mY G (aP + 184)) hc aP hm (aP + 184) kw0) (nx : ∀ hc hm, JJ (pY G aP) (mY G (aP + 184)) hc aP hm (aP + 184) kw0 → LW p l e s m below meth c b G aP 1918 (lvL b aP i) [] hc hm) : LW p l e s m below meth c b G aP 1600 (lvL b aP i) [] hc hm := by
  obtain ⟨v, hc1, hm1, e1, e2, J1⟩ := so_finish J 
  refine lw_aload C (pc := 1600) (q := 2) d_law_1600 rfl rfl ?_
  refine lw_callC C (pc := 1601) (K' := K_LP_finish) (n' := 5) (As := []) (st := []) okV_LP_finish rfl (ok_LP_finish (pY G aP) aP hc (oP G aP)) e1 w6_35 d_law_1601 rfl (by decide) rfl (Nat.le_of_ble_eq_true rfl) ?_
  show LW p l e s m below meth c b G aP 1604 (lvL b aP i) [.int v] hc1 hm
  refine lw_aload C (pc := 1604) (q := 3) d_law_1604 rfl rfl ?_
  refine lw_callM C (pc := 1605) (K' := K_M_finish) (n' := 7) (As := []) (st := [.int v]) okV_M_finish rfl (ok_M_finish (mY G (aP + 184)) (aP + 184) hm (M_isO G (aP + 184))) e2 w10_39 d_law_1605 rfl (by decide) rfl (Nat.le_of_ble_eq_true rfl) ?_
  show LW p l e s m below meth c b G aP 1608 (lvL b aP i) [.int v, .int v] hc1 hm1
  exact lw_icmp_eq C (pc := 1608) (tgt := 1918) d_law_1608 (by decide) (nx _ _ J1)
theorem law_44 (C : LCx p s m meth c b L xs G aP) (hL : L ≤ 3072) {i : Nat} (hi : i + 6 ≤ L) {hc hm : Hp} (J : JJ (pY G aP) (mY G (aP + 184)) hc aP hm (aP + 184) kw0) (nx : ∀ hc hm, JJ (pY G aP) (mY G (aP + 184)) hc aP hm (aP + 184) kw0 → LW p l e s m below meth c b G aP 1918 (lvL b aP i) [] hc hm) : LW p l e s m below meth c b G aP 1613 (lvL b aP i) [] hc hm := by
  obtain ⟨v, hc1, hm1, e1, e2, J1⟩ := so_finishSet J 
  refine lw_aload C (pc := 1613) (q := 2) d_law_1613 rfl rfl ?_
  refine lw_callC C (pc := 1614) (K' := K_LP_finishSet) (n' := 5) (As := []) (st := []) okV_LP_finishSet rfl (ok_LP_finishSet (pY G aP) aP hc (oP G aP)) e1 w6_47 d_law_1614 rfl (by decide) rfl (Nat.le_of_ble_eq_true rfl) ?_
  show LW p l e s m below meth c b G aP 1617 (lvL b aP i) [.int v] hc1 hm
  refine lw_aload C (pc := 1617) (q := 3) d_law_1617 rfl rfl ?_
  refine lw_callM C (pc := 1618) (K' := K_M_finishSet) (n' := 7) (As := []) (st := [.int v]) okV_M_finishSet rfl (ok_M_finishSet (mY G (aP + 184)) (aP + 184) hm (M_isO G (aP + 184))) e2 w10_47 d_law_1618 rfl (by decide) rfl (Nat.le_of_ble_eq_true rfl) ?_
  show LW p l e s m below meth c b G aP 1621 (lvL b aP i) [.int v, .int v] hc1 hm1
  exact lw_icmp_eq C (pc := 1621) (tgt := 1918) d_law_1621 (by decide) (nx _ _ J1)
theorem law_45 (C : LCx p s m meth c b L xs G aP) (hL : L ≤ 3072) {i : Nat} (hi : i + 6 ≤ L) {hc hm : Hp} (J : JJ (pY G aP) (mY G (aP + 184)) hc aP hm (aP + 184) kw0) (nx : ∀ hc hm, JJ (pY G aP) (mY G (aP + 184)) hc aP hm (aP + 184) kw0 → LW p l e s m below meth c b G aP 1918 (lvL b aP i) [] hc hm) : LW p l e s m below meth c b G aP 1626 (lvL b aP i) [] hc hm := by
  obtain ⟨v, hc1, hm1, e1, e2, J1⟩ := so_liars J (xs (i + 1))
  refine lw_aload C (pc := 1626) (q := 2) d_law_1626 rfl rfl ?_
  refine lw_cell C (i := i) (k := 1) (pc := 1627) hL hi (by decide) d_law_1627 d_law_1628 d_law_1629 (by decide) d_law_1630 d_law_1631 ?_
  refine lw_callC C (pc := 1632) (K' := K_LP_liars) (n' := 5) (As := [.int (xs (i + 1))]) (st := []) okV_LP_liars rfl (ok_LP_liars (pY G aP) aP (xs (i + 1)) hc (oP G aP)) e1 w6_51 d_law_1632 rfl (by decide) rfl (Nat.le_of_ble_eq_true rfl) ?_
  show LW p l e s m below meth c b G aP 1635 (lvL b aP i) [.int v] hc1 hm
  refine lw_aload C (pc := 1635) (q := 3) d_law_1635 rfl rfl ?_
  refine lw_cell C (i := i) (k := 1) (pc := 1636) hL hi (by decide) d_law_1636 d_law_1637 d_law_1638 (by decide) d_law_1639 d_law_1640 ?_
  refine lw_callM C (pc := 1641) (K' := K_M_liars) (n' := 4) (As := [.int (xs (i + 1))]) (st := [.int v]) okV_M_liars rfl (ok_M_liars (mY G (aP + 184)) (aP + 184) (xs (i + 1)) hm (M_isO G (aP + 184))) e2 w10_51 d_law_1641 rfl (by decide) rfl (Nat.le_of_ble_eq_true rfl) ?_
  show LW p l e s m below meth c b G aP 1644 (lvL b aP i) [.int v, .int v] hc1 hm1
  exact lw_icmp_eq C (pc := 1644) (tgt := 1918) d_law_1644 (by decide) (nx _ _ J1)
end LAWC
