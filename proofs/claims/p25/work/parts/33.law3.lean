section WR
variable {p : Program} {l : Launch} {e : Env} {R : Room} {s : State} {m : MethodId} {args : Array Value} {below : List Frame} {meth : Method} {c : Code} {H : Heap} {locs : List Loc} {cells slots : Nat} {Q : State → Prop}
variable {pc : Nat} {ls : Array Slot} {rest : List Value} {G : GG} {ws : va_W} {A : Nat → Prop} {y0 : MethodName} {b0 : ByteArray} {mL0 : Nat} {rt0 : Option FieldType} {a : Nat} {H0 : Heap}
theorem dL_law_1398 : decode cL_law 1398 = .ok (.aload_n 1, 1) := by decide +kernel
theorem dL_law_1399 : decode cL_law 1399 = .ok (.aload_n 0, 1) := by decide +kernel
theorem dL_law_1400 : decode cL_law 1400 = .ok (.iload_n 3, 1) := by decide +kernel
theorem dL_law_1401 : decode cL_law 1401 = .ok (.iconst 1, 1) := by decide +kernel
theorem dL_law_1402 : decode cL_law 1402 = .ok (.iadd, 1) := by decide +kernel
theorem dL_law_1403 : decode cL_law 1403 = .ok (.iaload, 1) := by decide +kernel
theorem dL_law_1404 : decode cL_law 1404 = .ok (.aload_n 0, 1) := by decide +kernel
theorem dL_law_1405 : decode cL_law 1405 = .ok (.iload_n 3, 1) := by decide +kernel
theorem dL_law_1406 : decode cL_law 1406 = .ok (.iconst 2, 1) := by decide +kernel
theorem dL_law_1407 : decode cL_law 1407 = .ok (.iadd, 1) := by decide +kernel
theorem dL_law_1408 : decode cL_law 1408 = .ok (.iaload, 1) := by decide +kernel
theorem dL_law_1409 : decode cL_law 1409 = .ok (.aload_n 0, 1) := by decide +kernel
theorem dL_law_1410 : decode cL_law 1410 = .ok (.iload_n 3, 1) := by decide +kernel
theorem dL_law_1411 : decode cL_law 1411 = .ok (.iconst 3, 1) := by decide +kernel
theorem dL_law_1412 : decode cL_law 1412 = .ok (.iadd, 1) := by decide +kernel
theorem dL_law_1413 : decode cL_law 1413 = .ok (.iaload, 1) := by decide +kernel
theorem dL_law_1414 : decode cL_law 1414 = .ok (.invokevirtual 152, 3) := by decide +kernel
theorem m_887 : Cond.code yX11_sheet cX11_sheet 4 (some .int) ∈ BW := iB_BW47 _ (List.mem_of_getElem? (i := 16) rfl)
theorem m_884 : Cond.methodLink RL 152 yX11_sheet ∈ BW := iB_BW47 _ (List.mem_of_getElem? (i := 13) rfl)
theorem m_885 : Cond.instanceMethod yX11_sheet ∈ BW := iB_BW47 _ (List.mem_of_getElem? (i := 14) rfl)
theorem m_886 : Cond.selects RX11 yX11_sheet yX11_sheet ∈ BW := iB_BW47 _ (List.mem_of_getElem? (i := 15) rfl)
theorem si_L_152 : SV RL RX11 152 yX11_sheet cX11_sheet 4 (some .int) 3 := ⟨⟨m_884, m_885, m_886, m_102, m_887⟩, rfl, nK_RX11.1, nK_RX11.2, pd_19⟩
theorem dL_law_1417 : decode cL_law 1417 = .ok (.pop, 1) := by decide +kernel
theorem dL_law_1418 : decode cL_law 1418 = .ok (.aload_n 2, 1) := by decide +kernel
theorem dL_law_1419 : decode cL_law 1419 = .ok (.aload_n 0, 1) := by decide +kernel
theorem dL_law_1420 : decode cL_law 1420 = .ok (.iload_n 3, 1) := by decide +kernel
theorem dL_law_1421 : decode cL_law 1421 = .ok (.iconst 1, 1) := by decide +kernel
theorem dL_law_1422 : decode cL_law 1422 = .ok (.iadd, 1) := by decide +kernel
theorem dL_law_1423 : decode cL_law 1423 = .ok (.iaload, 1) := by decide +kernel
theorem dL_law_1424 : decode cL_law 1424 = .ok (.aload_n 0, 1) := by decide +kernel
theorem dL_law_1425 : decode cL_law 1425 = .ok (.iload_n 3, 1) := by decide +kernel
theorem dL_law_1426 : decode cL_law 1426 = .ok (.iconst 2, 1) := by decide +kernel
theorem dL_law_1427 : decode cL_law 1427 = .ok (.iadd, 1) := by decide +kernel
theorem dL_law_1428 : decode cL_law 1428 = .ok (.iaload, 1) := by decide +kernel
theorem dL_law_1429 : decode cL_law 1429 = .ok (.aload_n 0, 1) := by decide +kernel
theorem dL_law_1430 : decode cL_law 1430 = .ok (.iload_n 3, 1) := by decide +kernel
theorem dL_law_1431 : decode cL_law 1431 = .ok (.iconst 3, 1) := by decide +kernel
theorem dL_law_1432 : decode cL_law 1432 = .ok (.iadd, 1) := by decide +kernel
theorem dL_law_1433 : decode cL_law 1433 = .ok (.iaload, 1) := by decide +kernel
theorem dL_law_1434 : decode cL_law 1434 = .ok (.invokevirtual 155, 3) := by decide +kernel
theorem m_1357 : Cond.code yX12_sheet cX12_sheet 5 (some .int) ∈ BW := iB_BW72 _ (List.mem_of_getElem? (i := 13) rfl)
theorem m_1354 : Cond.methodLink RL 155 yX12_sheet ∈ BW := iB_BW72 _ (List.mem_of_getElem? (i := 10) rfl)
theorem m_1355 : Cond.instanceMethod yX12_sheet ∈ BW := iB_BW72 _ (List.mem_of_getElem? (i := 11) rfl)
theorem m_1356 : Cond.selects RX12 yX12_sheet yX12_sheet ∈ BW := iB_BW72 _ (List.mem_of_getElem? (i := 12) rfl)
theorem si_L_155 : SV RL RX12 155 yX12_sheet cX12_sheet 5 (some .int) 3 := ⟨⟨m_1354, m_1355, m_1356, m_115, m_1357⟩, rfl, nK_RX12.1, nK_RX12.2, pd_19⟩
theorem dL_law_1437 : decode cL_law 1437 = .ok (.pop, 1) := by decide +kernel
theorem dL_law_1438 : decode cL_law 1438 = .ok (.goto 280, 3) := by decide +kernel
theorem dL_law_1441 : decode cL_law 1441 = .ok (.aload_n 1, 1) := by decide +kernel
theorem dL_law_1442 : decode cL_law 1442 = .ok (.aload_n 0, 1) := by decide +kernel
theorem dL_law_1443 : decode cL_law 1443 = .ok (.iload_n 3, 1) := by decide +kernel
theorem dL_law_1444 : decode cL_law 1444 = .ok (.iconst 1, 1) := by decide +kernel
theorem dL_law_1445 : decode cL_law 1445 = .ok (.iadd, 1) := by decide +kernel
theorem dL_law_1446 : decode cL_law 1446 = .ok (.iaload, 1) := by decide +kernel
theorem dL_law_1447 : decode cL_law 1447 = .ok (.aload_n 0, 1) := by decide +kernel
theorem dL_law_1448 : decode cL_law 1448 = .ok (.iload_n 3, 1) := by decide +kernel
theorem dL_law_1449 : decode cL_law 1449 = .ok (.iconst 2, 1) := by decide +kernel
theorem dL_law_1450 : decode cL_law 1450 = .ok (.iadd, 1) := by decide +kernel
theorem dL_law_1451 : decode cL_law 1451 = .ok (.iaload, 1) := by decide +kernel
theorem dL_law_1452 : decode cL_law 1452 = .ok (.aload_n 0, 1) := by decide +kernel
theorem dL_law_1453 : decode cL_law 1453 = .ok (.iload_n 3, 1) := by decide +kernel
theorem dL_law_1454 : decode cL_law 1454 = .ok (.iconst 3, 1) := by decide +kernel
theorem dL_law_1455 : decode cL_law 1455 = .ok (.iadd, 1) := by decide +kernel
theorem dL_law_1456 : decode cL_law 1456 = .ok (.iaload, 1) := by decide +kernel
theorem dL_law_1457 : decode cL_law 1457 = .ok (.invokevirtual 156, 3) := by decide +kernel
theorem m_899 : Cond.code yX11_put cX11_put 4 (some .int) ∈ BW := iB_BW48 _ (List.mem_of_getElem? (i := 8) rfl)
theorem m_896 : Cond.methodLink RL 156 yX11_put ∈ BW := iB_BW48 _ (List.mem_of_getElem? (i := 5) rfl)
theorem m_897 : Cond.instanceMethod yX11_put ∈ BW := iB_BW48 _ (List.mem_of_getElem? (i := 6) rfl)
theorem m_898 : Cond.selects RX11 yX11_put yX11_put ∈ BW := iB_BW48 _ (List.mem_of_getElem? (i := 7) rfl)
theorem si_L_156 : SV RL RX11 156 yX11_put cX11_put 4 (some .int) 3 := ⟨⟨m_896, m_897, m_898, m_102, m_899⟩, rfl, nK_RX11.1, nK_RX11.2, pd_19⟩
theorem dL_law_1460 : decode cL_law 1460 = .ok (.pop, 1) := by decide +kernel
theorem dL_law_1461 : decode cL_law 1461 = .ok (.aload_n 2, 1) := by decide +kernel
theorem dL_law_1462 : decode cL_law 1462 = .ok (.aload_n 0, 1) := by decide +kernel
theorem dL_law_1463 : decode cL_law 1463 = .ok (.iload_n 3, 1) := by decide +kernel
theorem dL_law_1464 : decode cL_law 1464 = .ok (.iconst 1, 1) := by decide +kernel
theorem dL_law_1465 : decode cL_law 1465 = .ok (.iadd, 1) := by decide +kernel
theorem dL_law_1466 : decode cL_law 1466 = .ok (.iaload, 1) := by decide +kernel
theorem dL_law_1467 : decode cL_law 1467 = .ok (.aload_n 0, 1) := by decide +kernel
theorem dL_law_1468 : decode cL_law 1468 = .ok (.iload_n 3, 1) := by decide +kernel
theorem dL_law_1469 : decode cL_law 1469 = .ok (.iconst 2, 1) := by decide +kernel
theorem dL_law_1470 : decode cL_law 1470 = .ok (.iadd, 1) := by decide +kernel
theorem dL_law_1471 : decode cL_law 1471 = .ok (.iaload, 1) := by decide +kernel
theorem dL_law_1472 : decode cL_law 1472 = .ok (.aload_n 0, 1) := by decide +kernel
theorem dL_law_1473 : decode cL_law 1473 = .ok (.iload_n 3, 1) := by decide +kernel
theorem dL_law_1474 : decode cL_law 1474 = .ok (.iconst 3, 1) := by decide +kernel
theorem dL_law_1475 : decode cL_law 1475 = .ok (.iadd, 1) := by decide +kernel
theorem dL_law_1476 : decode cL_law 1476 = .ok (.iaload, 1) := by decide +kernel
theorem dL_law_1477 : decode cL_law 1477 = .ok (.invokevirtual 159, 3) := by decide +kernel
theorem m_1364 : Cond.code yX12_put cX12_put 4 (some .int) ∈ BW := iB_BW73 _ (List.mem_of_getElem? (i := 0) rfl)
theorem m_1361 : Cond.methodLink RL 159 yX12_put ∈ BW := iB_BW72 _ (List.mem_of_getElem? (i := 17) rfl)
theorem m_1362 : Cond.instanceMethod yX12_put ∈ BW := iB_BW72 _ (List.mem_of_getElem? (i := 18) rfl)
theorem m_1363 : Cond.selects RX12 yX12_put yX12_put ∈ BW := iB_BW72 _ (List.mem_of_getElem? (i := 19) rfl)
theorem si_L_159 : SV RL RX12 159 yX12_put cX12_put 4 (some .int) 3 := ⟨⟨m_1361, m_1362, m_1363, m_115, m_1364⟩, rfl, nK_RX12.1, nK_RX12.2, pd_19⟩
theorem dL_law_1480 : decode cL_law 1480 = .ok (.pop, 1) := by decide +kernel
theorem dL_law_1481 : decode cL_law 1481 = .ok (.goto 237, 3) := by decide +kernel
theorem dL_law_1484 : decode cL_law 1484 = .ok (.aload_n 1, 1) := by decide +kernel
theorem dL_law_1485 : decode cL_law 1485 = .ok (.aload_n 0, 1) := by decide +kernel
theorem dL_law_1486 : decode cL_law 1486 = .ok (.iload_n 3, 1) := by decide +kernel
theorem dL_law_1487 : decode cL_law 1487 = .ok (.iconst 1, 1) := by decide +kernel
theorem dL_law_1488 : decode cL_law 1488 = .ok (.iadd, 1) := by decide +kernel
theorem dL_law_1489 : decode cL_law 1489 = .ok (.iaload, 1) := by decide +kernel
theorem dL_law_1490 : decode cL_law 1490 = .ok (.aload_n 0, 1) := by decide +kernel
theorem dL_law_1491 : decode cL_law 1491 = .ok (.iload_n 3, 1) := by decide +kernel
theorem dL_law_1492 : decode cL_law 1492 = .ok (.iconst 2, 1) := by decide +kernel
theorem dL_law_1493 : decode cL_law 1493 = .ok (.iadd, 1) := by decide +kernel
theorem dL_law_1494 : decode cL_law 1494 = .ok (.iaload, 1) := by decide +kernel
theorem dL_law_1495 : decode cL_law 1495 = .ok (.aload_n 0, 1) := by decide +kernel
theorem dL_law_1496 : decode cL_law 1496 = .ok (.iload_n 3, 1) := by decide +kernel
theorem dL_law_1497 : decode cL_law 1497 = .ok (.iconst 3, 1) := by decide +kernel
theorem dL_law_1498 : decode cL_law 1498 = .ok (.iadd, 1) := by decide +kernel
theorem dL_law_1499 : decode cL_law 1499 = .ok (.iaload, 1) := by decide +kernel
theorem dL_law_1500 : decode cL_law 1500 = .ok (.invokevirtual 160, 3) := by decide +kernel
theorem m_908 : Cond.code yX11_item cX11_item 5 (some .int) ∈ BW := iB_BW48 _ (List.mem_of_getElem? (i := 17) rfl)
theorem m_905 : Cond.methodLink RL 160 yX11_item ∈ BW := iB_BW48 _ (List.mem_of_getElem? (i := 14) rfl)
theorem m_906 : Cond.instanceMethod yX11_item ∈ BW := iB_BW48 _ (List.mem_of_getElem? (i := 15) rfl)
theorem m_907 : Cond.selects RX11 yX11_item yX11_item ∈ BW := iB_BW48 _ (List.mem_of_getElem? (i := 16) rfl)
theorem si_L_160 : SV RL RX11 160 yX11_item cX11_item 5 (some .int) 3 := ⟨⟨m_905, m_906, m_907, m_102, m_908⟩, rfl, nK_RX11.1, nK_RX11.2, pd_19⟩
theorem dL_law_1503 : decode cL_law 1503 = .ok (.pop, 1) := by decide +kernel
theorem dL_law_1504 : decode cL_law 1504 = .ok (.aload_n 2, 1) := by decide +kernel
theorem dL_law_1505 : decode cL_law 1505 = .ok (.aload_n 0, 1) := by decide +kernel
theorem dL_law_1506 : decode cL_law 1506 = .ok (.iload_n 3, 1) := by decide +kernel
theorem dL_law_1507 : decode cL_law 1507 = .ok (.iconst 1, 1) := by decide +kernel
theorem dL_law_1508 : decode cL_law 1508 = .ok (.iadd, 1) := by decide +kernel
theorem dL_law_1509 : decode cL_law 1509 = .ok (.iaload, 1) := by decide +kernel
theorem dL_law_1510 : decode cL_law 1510 = .ok (.aload_n 0, 1) := by decide +kernel
theorem dL_law_1511 : decode cL_law 1511 = .ok (.iload_n 3, 1) := by decide +kernel
theorem dL_law_1512 : decode cL_law 1512 = .ok (.iconst 2, 1) := by decide +kernel
theorem dL_law_1513 : decode cL_law 1513 = .ok (.iadd, 1) := by decide +kernel
theorem dL_law_1514 : decode cL_law 1514 = .ok (.iaload, 1) := by decide +kernel
theorem dL_law_1515 : decode cL_law 1515 = .ok (.aload_n 0, 1) := by decide +kernel
theorem dL_law_1516 : decode cL_law 1516 = .ok (.iload_n 3, 1) := by decide +kernel
theorem dL_law_1517 : decode cL_law 1517 = .ok (.iconst 3, 1) := by decide +kernel
theorem dL_law_1518 : decode cL_law 1518 = .ok (.iadd, 1) := by decide +kernel
theorem dL_law_1519 : decode cL_law 1519 = .ok (.iaload, 1) := by decide +kernel
theorem dL_law_1520 : decode cL_law 1520 = .ok (.invokevirtual 163, 3) := by decide +kernel
theorem m_1368 : Cond.code yX12_item cX12_item 5 (some .int) ∈ BW := iB_BW73 _ (List.mem_of_getElem? (i := 4) rfl)
theorem m_1365 : Cond.methodLink RL 163 yX12_item ∈ BW := iB_BW73 _ (List.mem_of_getElem? (i := 1) rfl)
theorem m_1366 : Cond.instanceMethod yX12_item ∈ BW := iB_BW73 _ (List.mem_of_getElem? (i := 2) rfl)
theorem m_1367 : Cond.selects RX12 yX12_item yX12_item ∈ BW := iB_BW73 _ (List.mem_of_getElem? (i := 3) rfl)
theorem si_L_163 : SV RL RX12 163 yX12_item cX12_item 5 (some .int) 3 := ⟨⟨m_1365, m_1366, m_1367, m_115, m_1368⟩, rfl, nK_RX12.1, nK_RX12.2, pd_19⟩
theorem dL_law_1523 : decode cL_law 1523 = .ok (.pop, 1) := by decide +kernel
theorem dL_law_1524 : decode cL_law 1524 = .ok (.goto 194, 3) := by decide +kernel
theorem dL_law_1527 : decode cL_law 1527 = .ok (.aload_n 1, 1) := by decide +kernel
theorem dL_law_1528 : decode cL_law 1528 = .ok (.aload_n 0, 1) := by decide +kernel
theorem dL_law_1529 : decode cL_law 1529 = .ok (.iload_n 3, 1) := by decide +kernel
theorem dL_law_1530 : decode cL_law 1530 = .ok (.iconst 1, 1) := by decide +kernel
theorem dL_law_1531 : decode cL_law 1531 = .ok (.iadd, 1) := by decide +kernel
theorem dL_law_1532 : decode cL_law 1532 = .ok (.iaload, 1) := by decide +kernel
theorem dL_law_1533 : decode cL_law 1533 = .ok (.aload_n 0, 1) := by decide +kernel
theorem dL_law_1534 : decode cL_law 1534 = .ok (.iload_n 3, 1) := by decide +kernel
theorem dL_law_1535 : decode cL_law 1535 = .ok (.iconst 2, 1) := by decide +kernel
theorem dL_law_1536 : decode cL_law 1536 = .ok (.iadd, 1) := by decide +kernel
theorem dL_law_1537 : decode cL_law 1537 = .ok (.iaload, 1) := by decide +kernel
theorem dL_law_1538 : decode cL_law 1538 = .ok (.aload_n 0, 1) := by decide +kernel
theorem dL_law_1539 : decode cL_law 1539 = .ok (.iload_n 3, 1) := by decide +kernel
theorem dL_law_1540 : decode cL_law 1540 = .ok (.iconst 3, 1) := by decide +kernel
theorem dL_law_1541 : decode cL_law 1541 = .ok (.iadd, 1) := by decide +kernel
theorem dL_law_1542 : decode cL_law 1542 = .ok (.iaload, 1) := by decide +kernel
theorem dL_law_1543 : decode cL_law 1543 = .ok (.invokevirtual 164, 3) := by decide +kernel
theorem m_915 : Cond.code yX11_shelf cX11_shelf 4 (some .int) ∈ BW := iB_BW49 _ (List.mem_of_getElem? (i := 4) rfl)
theorem m_912 : Cond.methodLink RL 164 yX11_shelf ∈ BW := iB_BW49 _ (List.mem_of_getElem? (i := 1) rfl)
theorem m_913 : Cond.instanceMethod yX11_shelf ∈ BW := iB_BW49 _ (List.mem_of_getElem? (i := 2) rfl)
theorem m_914 : Cond.selects RX11 yX11_shelf yX11_shelf ∈ BW := iB_BW49 _ (List.mem_of_getElem? (i := 3) rfl)
theorem si_L_164 : SV RL RX11 164 yX11_shelf cX11_shelf 4 (some .int) 3 := ⟨⟨m_912, m_913, m_914, m_102, m_915⟩, rfl, nK_RX11.1, nK_RX11.2, pd_19⟩
theorem dL_law_1546 : decode cL_law 1546 = .ok (.pop, 1) := by decide +kernel
theorem dL_law_1547 : decode cL_law 1547 = .ok (.aload_n 2, 1) := by decide +kernel
theorem dL_law_1548 : decode cL_law 1548 = .ok (.aload_n 0, 1) := by decide +kernel
theorem dL_law_1549 : decode cL_law 1549 = .ok (.iload_n 3, 1) := by decide +kernel
theorem dL_law_1550 : decode cL_law 1550 = .ok (.iconst 1, 1) := by decide +kernel
theorem dL_law_1551 : decode cL_law 1551 = .ok (.iadd, 1) := by decide +kernel
theorem dL_law_1552 : decode cL_law 1552 = .ok (.iaload, 1) := by decide +kernel
theorem dL_law_1553 : decode cL_law 1553 = .ok (.aload_n 0, 1) := by decide +kernel
theorem dL_law_1554 : decode cL_law 1554 = .ok (.iload_n 3, 1) := by decide +kernel
theorem dL_law_1555 : decode cL_law 1555 = .ok (.iconst 2, 1) := by decide +kernel
theorem dL_law_1556 : decode cL_law 1556 = .ok (.iadd, 1) := by decide +kernel
theorem dL_law_1557 : decode cL_law 1557 = .ok (.iaload, 1) := by decide +kernel
theorem dL_law_1558 : decode cL_law 1558 = .ok (.aload_n 0, 1) := by decide +kernel
theorem dL_law_1559 : decode cL_law 1559 = .ok (.iload_n 3, 1) := by decide +kernel
theorem dL_law_1560 : decode cL_law 1560 = .ok (.iconst 3, 1) := by decide +kernel
theorem dL_law_1561 : decode cL_law 1561 = .ok (.iadd, 1) := by decide +kernel
theorem dL_law_1562 : decode cL_law 1562 = .ok (.iaload, 1) := by decide +kernel
theorem dL_law_1563 : decode cL_law 1563 = .ok (.invokevirtual 167, 3) := by decide +kernel
theorem m_1380 : Cond.code yX12_shelf cX12_shelf 6 (some .int) ∈ BW := iB_BW73 _ (List.mem_of_getElem? (i := 16) rfl)
theorem m_1377 : Cond.methodLink RL 167 yX12_shelf ∈ BW := iB_BW73 _ (List.mem_of_getElem? (i := 13) rfl)
theorem m_1378 : Cond.instanceMethod yX12_shelf ∈ BW := iB_BW73 _ (List.mem_of_getElem? (i := 14) rfl)
theorem m_1379 : Cond.selects RX12 yX12_shelf yX12_shelf ∈ BW := iB_BW73 _ (List.mem_of_getElem? (i := 15) rfl)
theorem si_L_167 : SV RL RX12 167 yX12_shelf cX12_shelf 6 (some .int) 3 := ⟨⟨m_1377, m_1378, m_1379, m_115, m_1380⟩, rfl, nK_RX12.1, nK_RX12.2, pd_19⟩
theorem dL_law_1566 : decode cL_law 1566 = .ok (.pop, 1) := by decide +kernel
theorem dL_law_1567 : decode cL_law 1567 = .ok (.goto 151, 3) := by decide +kernel
theorem dL_law_1570 : decode cL_law 1570 = .ok (.aload_n 1, 1) := by decide +kernel
theorem dL_law_1571 : decode cL_law 1571 = .ok (.aload_n 0, 1) := by decide +kernel
theorem dL_law_1572 : decode cL_law 1572 = .ok (.iload_n 3, 1) := by decide +kernel
theorem dL_law_1573 : decode cL_law 1573 = .ok (.iconst 1, 1) := by decide +kernel
theorem dL_law_1574 : decode cL_law 1574 = .ok (.iadd, 1) := by decide +kernel
theorem dL_law_1575 : decode cL_law 1575 = .ok (.iaload, 1) := by decide +kernel
theorem dL_law_1576 : decode cL_law 1576 = .ok (.aload_n 0, 1) := by decide +kernel
theorem dL_law_1577 : decode cL_law 1577 = .ok (.iload_n 3, 1) := by decide +kernel
theorem dL_law_1578 : decode cL_law 1578 = .ok (.iconst 2, 1) := by decide +kernel
theorem dL_law_1579 : decode cL_law 1579 = .ok (.iadd, 1) := by decide +kernel
theorem dL_law_1580 : decode cL_law 1580 = .ok (.iaload, 1) := by decide +kernel
theorem dL_law_1581 : decode cL_law 1581 = .ok (.invokevirtual 168, 3) := by decide +kernel
theorem m_931 : Cond.code yX11_taken cX11_taken 4 (some .int) ∈ BW := iB_BW50 _ (List.mem_of_getElem? (i := 0) rfl)
theorem m_928 : Cond.methodLink RL 168 yX11_taken ∈ BW := iB_BW49 _ (List.mem_of_getElem? (i := 17) rfl)
theorem m_929 : Cond.instanceMethod yX11_taken ∈ BW := iB_BW49 _ (List.mem_of_getElem? (i := 18) rfl)
theorem m_930 : Cond.selects RX11 yX11_taken yX11_taken ∈ BW := iB_BW49 _ (List.mem_of_getElem? (i := 19) rfl)
theorem si_L_168 : SV RL RX11 168 yX11_taken cX11_taken 4 (some .int) 2 := ⟨⟨m_928, m_929, m_930, m_102, m_931⟩, rfl, nK_RX11.1, nK_RX11.2, pd_2⟩
theorem dL_law_1584 : decode cL_law 1584 = .ok (.pop, 1) := by decide +kernel
theorem dL_law_1585 : decode cL_law 1585 = .ok (.aload_n 2, 1) := by decide +kernel
theorem dL_law_1586 : decode cL_law 1586 = .ok (.aload_n 0, 1) := by decide +kernel
theorem dL_law_1587 : decode cL_law 1587 = .ok (.iload_n 3, 1) := by decide +kernel
theorem dL_law_1588 : decode cL_law 1588 = .ok (.iconst 1, 1) := by decide +kernel
theorem dL_law_1589 : decode cL_law 1589 = .ok (.iadd, 1) := by decide +kernel
theorem dL_law_1590 : decode cL_law 1590 = .ok (.iaload, 1) := by decide +kernel
theorem dL_law_1591 : decode cL_law 1591 = .ok (.aload_n 0, 1) := by decide +kernel
theorem dL_law_1592 : decode cL_law 1592 = .ok (.iload_n 3, 1) := by decide +kernel
theorem dL_law_1593 : decode cL_law 1593 = .ok (.iconst 2, 1) := by decide +kernel
theorem dL_law_1594 : decode cL_law 1594 = .ok (.iadd, 1) := by decide +kernel
theorem dL_law_1595 : decode cL_law 1595 = .ok (.iaload, 1) := by decide +kernel
theorem dL_law_1596 : decode cL_law 1596 = .ok (.invokevirtual 171, 3) := by decide +kernel
theorem m_1384 : Cond.code yX12_taken cX12_taken 4 (some .int) ∈ BW := iB_BW74 _ (List.mem_of_getElem? (i := 0) rfl)
theorem m_1381 : Cond.methodLink RL 171 yX12_taken ∈ BW := iB_BW73 _ (List.mem_of_getElem? (i := 17) rfl)
theorem m_1382 : Cond.instanceMethod yX12_taken ∈ BW := iB_BW73 _ (List.mem_of_getElem? (i := 18) rfl)
theorem m_1383 : Cond.selects RX12 yX12_taken yX12_taken ∈ BW := iB_BW73 _ (List.mem_of_getElem? (i := 19) rfl)
theorem si_L_171 : SV RL RX12 171 yX12_taken cX12_taken 4 (some .int) 2 := ⟨⟨m_1381, m_1382, m_1383, m_115, m_1384⟩, rfl, nK_RX12.1, nK_RX12.2, pd_2⟩
theorem dL_law_1599 : decode cL_law 1599 = .ok (.pop, 1) := by decide +kernel
theorem dL_law_1600 : decode cL_law 1600 = .ok (.goto 118, 3) := by decide +kernel
theorem dL_law_1603 : decode cL_law 1603 = .ok (.aload_n 1, 1) := by decide +kernel
theorem dL_law_1604 : decode cL_law 1604 = .ok (.aload_n 0, 1) := by decide +kernel
theorem dL_law_1605 : decode cL_law 1605 = .ok (.iload_n 3, 1) := by decide +kernel
theorem dL_law_1606 : decode cL_law 1606 = .ok (.iconst 1, 1) := by decide +kernel
theorem dL_law_1607 : decode cL_law 1607 = .ok (.iadd, 1) := by decide +kernel
theorem dL_law_1608 : decode cL_law 1608 = .ok (.iaload, 1) := by decide +kernel
theorem dL_law_1609 : decode cL_law 1609 = .ok (.aload_n 0, 1) := by decide +kernel
theorem dL_law_1610 : decode cL_law 1610 = .ok (.iload_n 3, 1) := by decide +kernel
theorem dL_law_1611 : decode cL_law 1611 = .ok (.iconst 2, 1) := by decide +kernel
theorem dL_law_1612 : decode cL_law 1612 = .ok (.iadd, 1) := by decide +kernel
theorem dL_law_1613 : decode cL_law 1613 = .ok (.iaload, 1) := by decide +kernel
theorem dL_law_1614 : decode cL_law 1614 = .ok (.aload_n 0, 1) := by decide +kernel
theorem dL_law_1615 : decode cL_law 1615 = .ok (.iload_n 3, 1) := by decide +kernel
theorem dL_law_1616 : decode cL_law 1616 = .ok (.iconst 3, 1) := by decide +kernel
theorem dL_law_1617 : decode cL_law 1617 = .ok (.iadd, 1) := by decide +kernel
theorem dL_law_1618 : decode cL_law 1618 = .ok (.iaload, 1) := by decide +kernel
theorem dL_law_1619 : decode cL_law 1619 = .ok (.invokevirtual 172, 3) := by decide +kernel
theorem m_961 : Cond.code yX11_deal cX11_deal 5 (some .int) ∈ BW := iB_BW51 _ (List.mem_of_getElem? (i := 10) rfl)
theorem m_958 : Cond.methodLink RL 172 yX11_deal ∈ BW := iB_BW51 _ (List.mem_of_getElem? (i := 7) rfl)
theorem m_959 : Cond.instanceMethod yX11_deal ∈ BW := iB_BW51 _ (List.mem_of_getElem? (i := 8) rfl)
theorem m_960 : Cond.selects RX11 yX11_deal yX11_deal ∈ BW := iB_BW51 _ (List.mem_of_getElem? (i := 9) rfl)
theorem si_L_172 : SV RL RX11 172 yX11_deal cX11_deal 5 (some .int) 3 := ⟨⟨m_958, m_959, m_960, m_102, m_961⟩, rfl, nK_RX11.1, nK_RX11.2, pd_19⟩
theorem dL_law_1622 : decode cL_law 1622 = .ok (.pop, 1) := by decide +kernel
theorem dL_law_1623 : decode cL_law 1623 = .ok (.aload_n 2, 1) := by decide +kernel
theorem dL_law_1624 : decode cL_law 1624 = .ok (.aload_n 0, 1) := by decide +kernel
theorem dL_law_1625 : decode cL_law 1625 = .ok (.iload_n 3, 1) := by decide +kernel
theorem dL_law_1626 : decode cL_law 1626 = .ok (.iconst 1, 1) := by decide +kernel
theorem dL_law_1627 : decode cL_law 1627 = .ok (.iadd, 1) := by decide +kernel
theorem dL_law_1628 : decode cL_law 1628 = .ok (.iaload, 1) := by decide +kernel
theorem dL_law_1629 : decode cL_law 1629 = .ok (.aload_n 0, 1) := by decide +kernel
theorem dL_law_1630 : decode cL_law 1630 = .ok (.iload_n 3, 1) := by decide +kernel
theorem dL_law_1631 : decode cL_law 1631 = .ok (.iconst 2, 1) := by decide +kernel
theorem dL_law_1632 : decode cL_law 1632 = .ok (.iadd, 1) := by decide +kernel
theorem dL_law_1633 : decode cL_law 1633 = .ok (.iaload, 1) := by decide +kernel
theorem dL_law_1634 : decode cL_law 1634 = .ok (.aload_n 0, 1) := by decide +kernel
theorem dL_law_1635 : decode cL_law 1635 = .ok (.iload_n 3, 1) := by decide +kernel
theorem dL_law_1636 : decode cL_law 1636 = .ok (.iconst 3, 1) := by decide +kernel
theorem dL_law_1637 : decode cL_law 1637 = .ok (.iadd, 1) := by decide +kernel
theorem dL_law_1638 : decode cL_law 1638 = .ok (.iaload, 1) := by decide +kernel
theorem dL_law_1639 : decode cL_law 1639 = .ok (.invokevirtual 175, 3) := by decide +kernel
theorem m_1394 : Cond.code yX12_deal cX12_deal 8 (some .int) ∈ BW := iB_BW74 _ (List.mem_of_getElem? (i := 10) rfl)
theorem m_1391 : Cond.methodLink RL 175 yX12_deal ∈ BW := iB_BW74 _ (List.mem_of_getElem? (i := 7) rfl)
theorem m_1392 : Cond.instanceMethod yX12_deal ∈ BW := iB_BW74 _ (List.mem_of_getElem? (i := 8) rfl)
theorem m_1393 : Cond.selects RX12 yX12_deal yX12_deal ∈ BW := iB_BW74 _ (List.mem_of_getElem? (i := 9) rfl)
theorem si_L_175 : SV RL RX12 175 yX12_deal cX12_deal 8 (some .int) 3 := ⟨⟨m_1391, m_1392, m_1393, m_115, m_1394⟩, rfl, nK_RX12.1, nK_RX12.2, pd_19⟩
theorem dL_law_1642 : decode cL_law 1642 = .ok (.pop, 1) := by decide +kernel
theorem dL_law_1643 : decode cL_law 1643 = .ok (.goto 75, 3) := by decide +kernel
theorem dL_law_1646 : decode cL_law 1646 = .ok (.aload_n 1, 1) := by decide +kernel
theorem dL_law_1647 : decode cL_law 1647 = .ok (.aload_n 0, 1) := by decide +kernel
theorem dL_law_1648 : decode cL_law 1648 = .ok (.iload_n 3, 1) := by decide +kernel
theorem dL_law_1649 : decode cL_law 1649 = .ok (.iconst 1, 1) := by decide +kernel
theorem dL_law_1650 : decode cL_law 1650 = .ok (.iadd, 1) := by decide +kernel
theorem dL_law_1651 : decode cL_law 1651 = .ok (.iaload, 1) := by decide +kernel
theorem dL_law_1652 : decode cL_law 1652 = .ok (.invokevirtual 176, 3) := by decide +kernel
theorem m_986 : Cond.code yX11_trace cX11_trace 2 (some .int) ∈ BW := iB_BW52 _ (List.mem_of_getElem? (i := 15) rfl)
theorem m_983 : Cond.methodLink RL 176 yX11_trace ∈ BW := iB_BW52 _ (List.mem_of_getElem? (i := 12) rfl)
theorem m_984 : Cond.instanceMethod yX11_trace ∈ BW := iB_BW52 _ (List.mem_of_getElem? (i := 13) rfl)
theorem m_985 : Cond.selects RX11 yX11_trace yX11_trace ∈ BW := iB_BW52 _ (List.mem_of_getElem? (i := 14) rfl)
theorem si_L_176 : SV RL RX11 176 yX11_trace cX11_trace 2 (some .int) 1 := ⟨⟨m_983, m_984, m_985, m_102, m_986⟩, rfl, nK_RX11.1, nK_RX11.2, pd_7⟩
theorem dL_law_1655 : decode cL_law 1655 = .ok (.pop, 1) := by decide +kernel
theorem dL_law_1656 : decode cL_law 1656 = .ok (.aload_n 2, 1) := by decide +kernel
theorem dL_law_1657 : decode cL_law 1657 = .ok (.aload_n 0, 1) := by decide +kernel
theorem dL_law_1658 : decode cL_law 1658 = .ok (.iload_n 3, 1) := by decide +kernel
theorem dL_law_1659 : decode cL_law 1659 = .ok (.iconst 1, 1) := by decide +kernel
theorem dL_law_1660 : decode cL_law 1660 = .ok (.iadd, 1) := by decide +kernel
theorem dL_law_1661 : decode cL_law 1661 = .ok (.iaload, 1) := by decide +kernel
theorem dL_law_1662 : decode cL_law 1662 = .ok (.invokevirtual 179, 3) := by decide +kernel
theorem m_1413 : Cond.code yX12_trace cX12_trace 2 (some .int) ∈ BW := iB_BW75 _ (List.mem_of_getElem? (i := 9) rfl)
theorem m_1410 : Cond.methodLink RL 179 yX12_trace ∈ BW := iB_BW75 _ (List.mem_of_getElem? (i := 6) rfl)
theorem m_1411 : Cond.instanceMethod yX12_trace ∈ BW := iB_BW75 _ (List.mem_of_getElem? (i := 7) rfl)
theorem m_1412 : Cond.selects RX12 yX12_trace yX12_trace ∈ BW := iB_BW75 _ (List.mem_of_getElem? (i := 8) rfl)
theorem si_L_179 : SV RL RX12 179 yX12_trace cX12_trace 2 (some .int) 1 := ⟨⟨m_1410, m_1411, m_1412, m_115, m_1413⟩, rfl, nK_RX12.1, nK_RX12.2, pd_7⟩
theorem dL_law_1665 : decode cL_law 1665 = .ok (.pop, 1) := by decide +kernel
theorem dL_law_1666 : decode cL_law 1666 = .ok (.goto 52, 3) := by decide +kernel
theorem dL_law_1669 : decode cL_law 1669 = .ok (.aload_n 1, 1) := by decide +kernel
theorem dL_law_1670 : decode cL_law 1670 = .ok (.aload_n 0, 1) := by decide +kernel
theorem dL_law_1671 : decode cL_law 1671 = .ok (.iload_n 3, 1) := by decide +kernel
theorem dL_law_1672 : decode cL_law 1672 = .ok (.iconst 1, 1) := by decide +kernel
theorem dL_law_1673 : decode cL_law 1673 = .ok (.iadd, 1) := by decide +kernel
theorem dL_law_1674 : decode cL_law 1674 = .ok (.iaload, 1) := by decide +kernel
theorem dL_law_1675 : decode cL_law 1675 = .ok (.invokevirtual 180, 3) := by decide +kernel
theorem m_998 : Cond.code yX11_many cX11_many 2 (some .int) ∈ BW := iB_BW53 _ (List.mem_of_getElem? (i := 7) rfl)
theorem m_995 : Cond.methodLink RL 180 yX11_many ∈ BW := iB_BW53 _ (List.mem_of_getElem? (i := 4) rfl)
theorem m_996 : Cond.instanceMethod yX11_many ∈ BW := iB_BW53 _ (List.mem_of_getElem? (i := 5) rfl)
theorem m_997 : Cond.selects RX11 yX11_many yX11_many ∈ BW := iB_BW53 _ (List.mem_of_getElem? (i := 6) rfl)
theorem si_L_180 : SV RL RX11 180 yX11_many cX11_many 2 (some .int) 1 := ⟨⟨m_995, m_996, m_997, m_102, m_998⟩, rfl, nK_RX11.1, nK_RX11.2, pd_7⟩
theorem dL_law_1678 : decode cL_law 1678 = .ok (.pop, 1) := by decide +kernel
theorem dL_law_1679 : decode cL_law 1679 = .ok (.aload_n 2, 1) := by decide +kernel
theorem dL_law_1680 : decode cL_law 1680 = .ok (.aload_n 0, 1) := by decide +kernel
theorem dL_law_1681 : decode cL_law 1681 = .ok (.iload_n 3, 1) := by decide +kernel
theorem dL_law_1682 : decode cL_law 1682 = .ok (.iconst 1, 1) := by decide +kernel
theorem dL_law_1683 : decode cL_law 1683 = .ok (.iadd, 1) := by decide +kernel
theorem dL_law_1684 : decode cL_law 1684 = .ok (.iaload, 1) := by decide +kernel
theorem dL_law_1685 : decode cL_law 1685 = .ok (.invokevirtual 183, 3) := by decide +kernel
theorem m_1417 : Cond.code yX12_many cX12_many 4 (some .int) ∈ BW := iB_BW75 _ (List.mem_of_getElem? (i := 13) rfl)
theorem m_1414 : Cond.methodLink RL 183 yX12_many ∈ BW := iB_BW75 _ (List.mem_of_getElem? (i := 10) rfl)
theorem m_1415 : Cond.instanceMethod yX12_many ∈ BW := iB_BW75 _ (List.mem_of_getElem? (i := 11) rfl)
theorem m_1416 : Cond.selects RX12 yX12_many yX12_many ∈ BW := iB_BW75 _ (List.mem_of_getElem? (i := 12) rfl)
theorem si_L_183 : SV RL RX12 183 yX12_many cX12_many 4 (some .int) 1 := ⟨⟨m_1414, m_1415, m_1416, m_115, m_1417⟩, rfl, nK_RX12.1, nK_RX12.2, pd_7⟩
theorem dL_law_1688 : decode cL_law 1688 = .ok (.pop, 1) := by decide +kernel
theorem dL_law_1689 : decode cL_law 1689 = .ok (.goto 29, 3) := by decide +kernel
theorem dL_law_1692 : decode cL_law 1692 = .ok (.aload_n 1, 1) := by decide +kernel
theorem dL_law_1693 : decode cL_law 1693 = .ok (.invokevirtual 184, 3) := by decide +kernel
theorem m_1009 : Cond.code yX11_keep cX11_keep 1 (some .int) ∈ BW := iB_BW53 _ (List.mem_of_getElem? (i := 18) rfl)
theorem m_1006 : Cond.methodLink RL 184 yX11_keep ∈ BW := iB_BW53 _ (List.mem_of_getElem? (i := 15) rfl)
theorem m_1007 : Cond.instanceMethod yX11_keep ∈ BW := iB_BW53 _ (List.mem_of_getElem? (i := 16) rfl)
theorem m_1008 : Cond.selects RX11 yX11_keep yX11_keep ∈ BW := iB_BW53 _ (List.mem_of_getElem? (i := 17) rfl)
theorem si_L_184 : SV RL RX11 184 yX11_keep cX11_keep 1 (some .int) 0 := ⟨⟨m_1006, m_1007, m_1008, m_102, m_1009⟩, rfl, nK_RX11.1, nK_RX11.2, pd_1⟩
theorem dL_law_1696 : decode cL_law 1696 = .ok (.pop, 1) := by decide +kernel
theorem dL_law_1697 : decode cL_law 1697 = .ok (.aload_n 2, 1) := by decide +kernel
theorem dL_law_1698 : decode cL_law 1698 = .ok (.invokevirtual 187, 3) := by decide +kernel
theorem m_1421 : Cond.code yX12_keep cX12_keep 2 (some .int) ∈ BW := iB_BW75 _ (List.mem_of_getElem? (i := 17) rfl)
theorem m_1418 : Cond.methodLink RL 187 yX12_keep ∈ BW := iB_BW75 _ (List.mem_of_getElem? (i := 14) rfl)
theorem m_1419 : Cond.instanceMethod yX12_keep ∈ BW := iB_BW75 _ (List.mem_of_getElem? (i := 15) rfl)
theorem m_1420 : Cond.selects RX12 yX12_keep yX12_keep ∈ BW := iB_BW75 _ (List.mem_of_getElem? (i := 16) rfl)
theorem si_L_187 : SV RL RX12 187 yX12_keep cX12_keep 2 (some .int) 0 := ⟨⟨m_1418, m_1419, m_1420, m_115, m_1421⟩, rfl, nK_RX12.1, nK_RX12.2, pd_1⟩
theorem dL_law_1701 : decode cL_law 1701 = .ok (.pop, 1) := by decide +kernel
theorem dL_law_1702 : decode cL_law 1702 = .ok (.goto 16, 3) := by decide +kernel
theorem dL_law_1705 : decode cL_law 1705 = .ok (.aload_n 1, 1) := by decide +kernel
theorem dL_law_1706 : decode cL_law 1706 = .ok (.invokevirtual 188, 3) := by decide +kernel
theorem m_1022 : Cond.code yX11_again cX11_again 1 (some .int) ∈ BW := iB_BW54 _ (List.mem_of_getElem? (i := 11) rfl)
theorem m_1019 : Cond.methodLink RL 188 yX11_again ∈ BW := iB_BW54 _ (List.mem_of_getElem? (i := 8) rfl)
theorem m_1020 : Cond.instanceMethod yX11_again ∈ BW := iB_BW54 _ (List.mem_of_getElem? (i := 9) rfl)
theorem m_1021 : Cond.selects RX11 yX11_again yX11_again ∈ BW := iB_BW54 _ (List.mem_of_getElem? (i := 10) rfl)
theorem si_L_188 : SV RL RX11 188 yX11_again cX11_again 1 (some .int) 0 := ⟨⟨m_1019, m_1020, m_1021, m_102, m_1022⟩, rfl, nK_RX11.1, nK_RX11.2, pd_1⟩
theorem dL_law_1709 : decode cL_law 1709 = .ok (.pop, 1) := by decide +kernel
theorem dL_law_1710 : decode cL_law 1710 = .ok (.aload_n 2, 1) := by decide +kernel
theorem dL_law_1711 : decode cL_law 1711 = .ok (.invokevirtual 191, 3) := by decide +kernel
theorem m_1425 : Cond.code yX12_again cX12_again 2 (some .int) ∈ BW := iB_BW76 _ (List.mem_of_getElem? (i := 1) rfl)
theorem m_1422 : Cond.methodLink RL 191 yX12_again ∈ BW := iB_BW75 _ (List.mem_of_getElem? (i := 18) rfl)
theorem m_1423 : Cond.instanceMethod yX12_again ∈ BW := iB_BW75 _ (List.mem_of_getElem? (i := 19) rfl)
theorem m_1424 : Cond.selects RX12 yX12_again yX12_again ∈ BW := iB_BW76 _ (List.mem_of_getElem? (i := 0) rfl)
theorem si_L_191 : SV RL RX12 191 yX12_again cX12_again 2 (some .int) 0 := ⟨⟨m_1422, m_1423, m_1424, m_115, m_1425⟩, rfl, nK_RX12.1, nK_RX12.2, pd_1⟩
theorem dL_law_1714 : decode cL_law 1714 = .ok (.pop, 1) := by decide +kernel
theorem dL_law_1715 : decode cL_law 1715 = .ok (.goto 3, 3) := by decide +kernel
end WR
theorem sm_0_49_54_55_56 {a0 a1 a2 a3 a4 a5 a6 a7 a8 a9 a10 a11 a12 a13 a14 a15 a16 a17 a18 a19 a20 a21 a22 a23 a24 a25 a26 a27 a28 a29 a30 a31 a32 a33 a34 a35 a36 a37 a38 a39 a40 a41 a42 a43 a44 a45 a46 a47 a48 a49 a50 a51 a52 a53 a54 a55 a56 : Nat × va_E} {l : va_W} : ([0, 49, 54, 55, 56] : List Nat).map (fun i => (a0 :: a1 :: a2 :: a3 :: a4 :: a5 :: a6 :: a7 :: a8 :: a9 :: a10 :: a11 :: a12 :: a13 :: a14 :: a15 :: a16 :: a17 :: a18 :: a19 :: a20 :: a21 :: a22 :: a23 :: a24 :: a25 :: a26 :: a27 :: a28 :: a29 :: a30 :: a31 :: a32 :: a33 :: a34 :: a35 :: a36 :: a37 :: a38 :: a39 :: a40 :: a41 :: a42 :: a43 :: a44 :: a45 :: a46 :: a47 :: a48 :: a49 :: a50 :: a51 :: a52 :: a53 :: a54 :: a55 :: a56 :: l : va_W)[i]?) = ([a0, a49, a54, a55, a56] : va_W).map some := rfl
theorem fm_0_49_54_55_56 {a0 a1 a2 a3 a4 a5 a6 a7 a8 a9 a10 a11 a12 a13 a14 a15 a16 a17 a18 a19 a20 a21 a22 a23 a24 a25 a26 a27 a28 a29 a30 a31 a32 a33 a34 a35 a36 a37 a38 a39 a40 a41 a42 a43 a44 a45 a46 a47 a48 a49 a50 a51 a52 a53 a54 a55 a56 : Nat × va_E} {l : va_W} : ([0, 49, 54, 55, 56] : List Nat).filterMap (fun i => (a0 :: a1 :: a2 :: a3 :: a4 :: a5 :: a6 :: a7 :: a8 :: a9 :: a10 :: a11 :: a12 :: a13 :: a14 :: a15 :: a16 :: a17 :: a18 :: a19 :: a20 :: a21 :: a22 :: a23 :: a24 :: a25 :: a26 :: a27 :: a28 :: a29 :: a30 :: a31 :: a32 :: a33 :: a34 :: a35 :: a36 :: a37 :: a38 :: a39 :: a40 :: a41 :: a42 :: a43 :: a44 :: a45 :: a46 :: a47 :: a48 :: a49 :: a50 :: a51 :: a52 :: a53 :: a54 :: a55 :: a56 :: l : va_W)[i]?) = ([a0, a49, a54, a55, a56] : va_W) := rfl
theorem nd_0_49_54_55_56 : va_nd [0, 49, 54, 55, 56] = true := by decide
theorem sm_103_115_116_117 {a0 a1 a2 a3 a4 a5 a6 a7 a8 a9 a10 a11 a12 a13 a14 a15 a16 a17 a18 a19 a20 a21 a22 a23 a24 a25 a26 a27 a28 a29 a30 a31 a32 a33 a34 a35 a36 a37 a38 a39 a40 a41 a42 a43 a44 a45 a46 a47 a48 a49 a50 a51 a52 a53 a54 a55 a56 a57 a58 a59 a60 a61 a62 a63 a64 a65 a66 a67 a68 a69 a70 a71 a72 a73 a74 a75 a76 a77 a78 a79 a80 a81 a82 a83 a84 a85 a86 a87 a88 a89 a90 a91 a92 a93 a94 a95 a96 a97 a98 a99 a100 a101 a102 a103 a104 a105 a106 a107 a108 a109 a110 a111 a112 a113 a114 a115 a116 a117 : Nat × va_E} {l : va_W} : ([103, 115, 116, 117] : List Nat).map (fun i => (a0 :: a1 :: a2 :: a3 :: a4 :: a5 :: a6 :: a7 :: a8 :: a9 :: a10 :: a11 :: a12 :: a13 :: a14 :: a15 :: a16 :: a17 :: a18 :: a19 :: a20 :: a21 :: a22 :: a23 :: a24 :: a25 :: a26 :: a27 :: a28 :: a29 :: a30 :: a31 :: a32 :: a33 :: a34 :: a35 :: a36 :: a37 :: a38 :: a39 :: a40 :: a41 :: a42 :: a43 :: a44 :: a45 :: a46 :: a47 :: a48 :: a49 :: a50 :: a51 :: a52 :: a53 :: a54 :: a55 :: a56 :: a57 :: a58 :: a59 :: a60 :: a61 :: a62 :: a63 :: a64 :: a65 :: a66 :: a67 :: a68 :: a69 :: a70 :: a71 :: a72 :: a73 :: a74 :: a75 :: a76 :: a77 :: a78 :: a79 :: a80 :: a81 :: a82 :: a83 :: a84 :: a85 :: a86 :: a87 :: a88 :: a89 :: a90 :: a91 :: a92 :: a93 :: a94 :: a95 :: a96 :: a97 :: a98 :: a99 :: a100 :: a101 :: a102 :: a103 :: a104 :: a105 :: a106 :: a107 :: a108 :: a109 :: a110 :: a111 :: a112 :: a113 :: a114 :: a115 :: a116 :: a117 :: l : va_W)[i]?) = ([a103, a115, a116, a117] : va_W).map some := rfl
theorem fm_103_115_116_117 {a0 a1 a2 a3 a4 a5 a6 a7 a8 a9 a10 a11 a12 a13 a14 a15 a16 a17 a18 a19 a20 a21 a22 a23 a24 a25 a26 a27 a28 a29 a30 a31 a32 a33 a34 a35 a36 a37 a38 a39 a40 a41 a42 a43 a44 a45 a46 a47 a48 a49 a50 a51 a52 a53 a54 a55 a56 a57 a58 a59 a60 a61 a62 a63 a64 a65 a66 a67 a68 a69 a70 a71 a72 a73 a74 a75 a76 a77 a78 a79 a80 a81 a82 a83 a84 a85 a86 a87 a88 a89 a90 a91 a92 a93 a94 a95 a96 a97 a98 a99 a100 a101 a102 a103 a104 a105 a106 a107 a108 a109 a110 a111 a112 a113 a114 a115 a116 a117 : Nat × va_E} {l : va_W} : ([103, 115, 116, 117] : List Nat).filterMap (fun i => (a0 :: a1 :: a2 :: a3 :: a4 :: a5 :: a6 :: a7 :: a8 :: a9 :: a10 :: a11 :: a12 :: a13 :: a14 :: a15 :: a16 :: a17 :: a18 :: a19 :: a20 :: a21 :: a22 :: a23 :: a24 :: a25 :: a26 :: a27 :: a28 :: a29 :: a30 :: a31 :: a32 :: a33 :: a34 :: a35 :: a36 :: a37 :: a38 :: a39 :: a40 :: a41 :: a42 :: a43 :: a44 :: a45 :: a46 :: a47 :: a48 :: a49 :: a50 :: a51 :: a52 :: a53 :: a54 :: a55 :: a56 :: a57 :: a58 :: a59 :: a60 :: a61 :: a62 :: a63 :: a64 :: a65 :: a66 :: a67 :: a68 :: a69 :: a70 :: a71 :: a72 :: a73 :: a74 :: a75 :: a76 :: a77 :: a78 :: a79 :: a80 :: a81 :: a82 :: a83 :: a84 :: a85 :: a86 :: a87 :: a88 :: a89 :: a90 :: a91 :: a92 :: a93 :: a94 :: a95 :: a96 :: a97 :: a98 :: a99 :: a100 :: a101 :: a102 :: a103 :: a104 :: a105 :: a106 :: a107 :: a108 :: a109 :: a110 :: a111 :: a112 :: a113 :: a114 :: a115 :: a116 :: a117 :: l : va_W)[i]?) = ([a103, a115, a116, a117] : va_W) := rfl
theorem nd_103_115_116_117 : va_nd [103, 115, 116, 117] = true := by decide
theorem sm_103_104_118_119_120 {a0 a1 a2 a3 a4 a5 a6 a7 a8 a9 a10 a11 a12 a13 a14 a15 a16 a17 a18 a19 a20 a21 a22 a23 a24 a25 a26 a27 a28 a29 a30 a31 a32 a33 a34 a35 a36 a37 a38 a39 a40 a41 a42 a43 a44 a45 a46 a47 a48 a49 a50 a51 a52 a53 a54 a55 a56 a57 a58 a59 a60 a61 a62 a63 a64 a65 a66 a67 a68 a69 a70 a71 a72 a73 a74 a75 a76 a77 a78 a79 a80 a81 a82 a83 a84 a85 a86 a87 a88 a89 a90 a91 a92 a93 a94 a95 a96 a97 a98 a99 a100 a101 a102 a103 a104 a105 a106 a107 a108 a109 a110 a111 a112 a113 a114 a115 a116 a117 a118 a119 a120 : Nat × va_E} {l : va_W} : ([103, 104, 118, 119, 120] : List Nat).map (fun i => (a0 :: a1 :: a2 :: a3 :: a4 :: a5 :: a6 :: a7 :: a8 :: a9 :: a10 :: a11 :: a12 :: a13 :: a14 :: a15 :: a16 :: a17 :: a18 :: a19 :: a20 :: a21 :: a22 :: a23 :: a24 :: a25 :: a26 :: a27 :: a28 :: a29 :: a30 :: a31 :: a32 :: a33 :: a34 :: a35 :: a36 :: a37 :: a38 :: a39 :: a40 :: a41 :: a42 :: a43 :: a44 :: a45 :: a46 :: a47 :: a48 :: a49 :: a50 :: a51 :: a52 :: a53 :: a54 :: a55 :: a56 :: a57 :: a58 :: a59 :: a60 :: a61 :: a62 :: a63 :: a64 :: a65 :: a66 :: a67 :: a68 :: a69 :: a70 :: a71 :: a72 :: a73 :: a74 :: a75 :: a76 :: a77 :: a78 :: a79 :: a80 :: a81 :: a82 :: a83 :: a84 :: a85 :: a86 :: a87 :: a88 :: a89 :: a90 :: a91 :: a92 :: a93 :: a94 :: a95 :: a96 :: a97 :: a98 :: a99 :: a100 :: a101 :: a102 :: a103 :: a104 :: a105 :: a106 :: a107 :: a108 :: a109 :: a110 :: a111 :: a112 :: a113 :: a114 :: a115 :: a116 :: a117 :: a118 :: a119 :: a120 :: l : va_W)[i]?) = ([a103, a104, a118, a119, a120] : va_W).map some := rfl
theorem fm_103_104_118_119_120 {a0 a1 a2 a3 a4 a5 a6 a7 a8 a9 a10 a11 a12 a13 a14 a15 a16 a17 a18 a19 a20 a21 a22 a23 a24 a25 a26 a27 a28 a29 a30 a31 a32 a33 a34 a35 a36 a37 a38 a39 a40 a41 a42 a43 a44 a45 a46 a47 a48 a49 a50 a51 a52 a53 a54 a55 a56 a57 a58 a59 a60 a61 a62 a63 a64 a65 a66 a67 a68 a69 a70 a71 a72 a73 a74 a75 a76 a77 a78 a79 a80 a81 a82 a83 a84 a85 a86 a87 a88 a89 a90 a91 a92 a93 a94 a95 a96 a97 a98 a99 a100 a101 a102 a103 a104 a105 a106 a107 a108 a109 a110 a111 a112 a113 a114 a115 a116 a117 a118 a119 a120 : Nat × va_E} {l : va_W} : ([103, 104, 118, 119, 120] : List Nat).filterMap (fun i => (a0 :: a1 :: a2 :: a3 :: a4 :: a5 :: a6 :: a7 :: a8 :: a9 :: a10 :: a11 :: a12 :: a13 :: a14 :: a15 :: a16 :: a17 :: a18 :: a19 :: a20 :: a21 :: a22 :: a23 :: a24 :: a25 :: a26 :: a27 :: a28 :: a29 :: a30 :: a31 :: a32 :: a33 :: a34 :: a35 :: a36 :: a37 :: a38 :: a39 :: a40 :: a41 :: a42 :: a43 :: a44 :: a45 :: a46 :: a47 :: a48 :: a49 :: a50 :: a51 :: a52 :: a53 :: a54 :: a55 :: a56 :: a57 :: a58 :: a59 :: a60 :: a61 :: a62 :: a63 :: a64 :: a65 :: a66 :: a67 :: a68 :: a69 :: a70 :: a71 :: a72 :: a73 :: a74 :: a75 :: a76 :: a77 :: a78 :: a79 :: a80 :: a81 :: a82 :: a83 :: a84 :: a85 :: a86 :: a87 :: a88 :: a89 :: a90 :: a91 :: a92 :: a93 :: a94 :: a95 :: a96 :: a97 :: a98 :: a99 :: a100 :: a101 :: a102 :: a103 :: a104 :: a105 :: a106 :: a107 :: a108 :: a109 :: a110 :: a111 :: a112 :: a113 :: a114 :: a115 :: a116 :: a117 :: a118 :: a119 :: a120 :: l : va_W)[i]?) = ([a103, a104, a118, a119, a120] : va_W) := rfl
theorem nd_103_104_118_119_120 : va_nd [103, 104, 118, 119, 120] = true := by decide
theorem sm_0_52_53 {a0 a1 a2 a3 a4 a5 a6 a7 a8 a9 a10 a11 a12 a13 a14 a15 a16 a17 a18 a19 a20 a21 a22 a23 a24 a25 a26 a27 a28 a29 a30 a31 a32 a33 a34 a35 a36 a37 a38 a39 a40 a41 a42 a43 a44 a45 a46 a47 a48 a49 a50 a51 a52 a53 : Nat × va_E} {l : va_W} : ([0, 52, 53] : List Nat).map (fun i => (a0 :: a1 :: a2 :: a3 :: a4 :: a5 :: a6 :: a7 :: a8 :: a9 :: a10 :: a11 :: a12 :: a13 :: a14 :: a15 :: a16 :: a17 :: a18 :: a19 :: a20 :: a21 :: a22 :: a23 :: a24 :: a25 :: a26 :: a27 :: a28 :: a29 :: a30 :: a31 :: a32 :: a33 :: a34 :: a35 :: a36 :: a37 :: a38 :: a39 :: a40 :: a41 :: a42 :: a43 :: a44 :: a45 :: a46 :: a47 :: a48 :: a49 :: a50 :: a51 :: a52 :: a53 :: l : va_W)[i]?) = ([a0, a52, a53] : va_W).map some := rfl
theorem fm_0_52_53 {a0 a1 a2 a3 a4 a5 a6 a7 a8 a9 a10 a11 a12 a13 a14 a15 a16 a17 a18 a19 a20 a21 a22 a23 a24 a25 a26 a27 a28 a29 a30 a31 a32 a33 a34 a35 a36 a37 a38 a39 a40 a41 a42 a43 a44 a45 a46 a47 a48 a49 a50 a51 a52 a53 : Nat × va_E} {l : va_W} : ([0, 52, 53] : List Nat).filterMap (fun i => (a0 :: a1 :: a2 :: a3 :: a4 :: a5 :: a6 :: a7 :: a8 :: a9 :: a10 :: a11 :: a12 :: a13 :: a14 :: a15 :: a16 :: a17 :: a18 :: a19 :: a20 :: a21 :: a22 :: a23 :: a24 :: a25 :: a26 :: a27 :: a28 :: a29 :: a30 :: a31 :: a32 :: a33 :: a34 :: a35 :: a36 :: a37 :: a38 :: a39 :: a40 :: a41 :: a42 :: a43 :: a44 :: a45 :: a46 :: a47 :: a48 :: a49 :: a50 :: a51 :: a52 :: a53 :: l : va_W)[i]?) = ([a0, a52, a53] : va_W) := rfl
theorem nd_0_52_53 : va_nd [0, 52, 53] = true := by decide
theorem sm_103_121 {a0 a1 a2 a3 a4 a5 a6 a7 a8 a9 a10 a11 a12 a13 a14 a15 a16 a17 a18 a19 a20 a21 a22 a23 a24 a25 a26 a27 a28 a29 a30 a31 a32 a33 a34 a35 a36 a37 a38 a39 a40 a41 a42 a43 a44 a45 a46 a47 a48 a49 a50 a51 a52 a53 a54 a55 a56 a57 a58 a59 a60 a61 a62 a63 a64 a65 a66 a67 a68 a69 a70 a71 a72 a73 a74 a75 a76 a77 a78 a79 a80 a81 a82 a83 a84 a85 a86 a87 a88 a89 a90 a91 a92 a93 a94 a95 a96 a97 a98 a99 a100 a101 a102 a103 a104 a105 a106 a107 a108 a109 a110 a111 a112 a113 a114 a115 a116 a117 a118 a119 a120 a121 : Nat × va_E} {l : va_W} : ([103, 121] : List Nat).map (fun i => (a0 :: a1 :: a2 :: a3 :: a4 :: a5 :: a6 :: a7 :: a8 :: a9 :: a10 :: a11 :: a12 :: a13 :: a14 :: a15 :: a16 :: a17 :: a18 :: a19 :: a20 :: a21 :: a22 :: a23 :: a24 :: a25 :: a26 :: a27 :: a28 :: a29 :: a30 :: a31 :: a32 :: a33 :: a34 :: a35 :: a36 :: a37 :: a38 :: a39 :: a40 :: a41 :: a42 :: a43 :: a44 :: a45 :: a46 :: a47 :: a48 :: a49 :: a50 :: a51 :: a52 :: a53 :: a54 :: a55 :: a56 :: a57 :: a58 :: a59 :: a60 :: a61 :: a62 :: a63 :: a64 :: a65 :: a66 :: a67 :: a68 :: a69 :: a70 :: a71 :: a72 :: a73 :: a74 :: a75 :: a76 :: a77 :: a78 :: a79 :: a80 :: a81 :: a82 :: a83 :: a84 :: a85 :: a86 :: a87 :: a88 :: a89 :: a90 :: a91 :: a92 :: a93 :: a94 :: a95 :: a96 :: a97 :: a98 :: a99 :: a100 :: a101 :: a102 :: a103 :: a104 :: a105 :: a106 :: a107 :: a108 :: a109 :: a110 :: a111 :: a112 :: a113 :: a114 :: a115 :: a116 :: a117 :: a118 :: a119 :: a120 :: a121 :: l : va_W)[i]?) = ([a103, a121] : va_W).map some := rfl
theorem fm_103_121 {a0 a1 a2 a3 a4 a5 a6 a7 a8 a9 a10 a11 a12 a13 a14 a15 a16 a17 a18 a19 a20 a21 a22 a23 a24 a25 a26 a27 a28 a29 a30 a31 a32 a33 a34 a35 a36 a37 a38 a39 a40 a41 a42 a43 a44 a45 a46 a47 a48 a49 a50 a51 a52 a53 a54 a55 a56 a57 a58 a59 a60 a61 a62 a63 a64 a65 a66 a67 a68 a69 a70 a71 a72 a73 a74 a75 a76 a77 a78 a79 a80 a81 a82 a83 a84 a85 a86 a87 a88 a89 a90 a91 a92 a93 a94 a95 a96 a97 a98 a99 a100 a101 a102 a103 a104 a105 a106 a107 a108 a109 a110 a111 a112 a113 a114 a115 a116 a117 a118 a119 a120 a121 : Nat × va_E} {l : va_W} : ([103, 121] : List Nat).filterMap (fun i => (a0 :: a1 :: a2 :: a3 :: a4 :: a5 :: a6 :: a7 :: a8 :: a9 :: a10 :: a11 :: a12 :: a13 :: a14 :: a15 :: a16 :: a17 :: a18 :: a19 :: a20 :: a21 :: a22 :: a23 :: a24 :: a25 :: a26 :: a27 :: a28 :: a29 :: a30 :: a31 :: a32 :: a33 :: a34 :: a35 :: a36 :: a37 :: a38 :: a39 :: a40 :: a41 :: a42 :: a43 :: a44 :: a45 :: a46 :: a47 :: a48 :: a49 :: a50 :: a51 :: a52 :: a53 :: a54 :: a55 :: a56 :: a57 :: a58 :: a59 :: a60 :: a61 :: a62 :: a63 :: a64 :: a65 :: a66 :: a67 :: a68 :: a69 :: a70 :: a71 :: a72 :: a73 :: a74 :: a75 :: a76 :: a77 :: a78 :: a79 :: a80 :: a81 :: a82 :: a83 :: a84 :: a85 :: a86 :: a87 :: a88 :: a89 :: a90 :: a91 :: a92 :: a93 :: a94 :: a95 :: a96 :: a97 :: a98 :: a99 :: a100 :: a101 :: a102 :: a103 :: a104 :: a105 :: a106 :: a107 :: a108 :: a109 :: a110 :: a111 :: a112 :: a113 :: a114 :: a115 :: a116 :: a117 :: a118 :: a119 :: a120 :: a121 :: l : va_W)[i]?) = ([a103, a121] : va_W) := rfl
theorem nd_103_121 : va_nd [103, 121] = true := by decide
theorem sm_103 {a0 a1 a2 a3 a4 a5 a6 a7 a8 a9 a10 a11 a12 a13 a14 a15 a16 a17 a18 a19 a20 a21 a22 a23 a24 a25 a26 a27 a28 a29 a30 a31 a32 a33 a34 a35 a36 a37 a38 a39 a40 a41 a42 a43 a44 a45 a46 a47 a48 a49 a50 a51 a52 a53 a54 a55 a56 a57 a58 a59 a60 a61 a62 a63 a64 a65 a66 a67 a68 a69 a70 a71 a72 a73 a74 a75 a76 a77 a78 a79 a80 a81 a82 a83 a84 a85 a86 a87 a88 a89 a90 a91 a92 a93 a94 a95 a96 a97 a98 a99 a100 a101 a102 a103 : Nat × va_E} {l : va_W} : ([103] : List Nat).map (fun i => (a0 :: a1 :: a2 :: a3 :: a4 :: a5 :: a6 :: a7 :: a8 :: a9 :: a10 :: a11 :: a12 :: a13 :: a14 :: a15 :: a16 :: a17 :: a18 :: a19 :: a20 :: a21 :: a22 :: a23 :: a24 :: a25 :: a26 :: a27 :: a28 :: a29 :: a30 :: a31 :: a32 :: a33 :: a34 :: a35 :: a36 :: a37 :: a38 :: a39 :: a40 :: a41 :: a42 :: a43 :: a44 :: a45 :: a46 :: a47 :: a48 :: a49 :: a50 :: a51 :: a52 :: a53 :: a54 :: a55 :: a56 :: a57 :: a58 :: a59 :: a60 :: a61 :: a62 :: a63 :: a64 :: a65 :: a66 :: a67 :: a68 :: a69 :: a70 :: a71 :: a72 :: a73 :: a74 :: a75 :: a76 :: a77 :: a78 :: a79 :: a80 :: a81 :: a82 :: a83 :: a84 :: a85 :: a86 :: a87 :: a88 :: a89 :: a90 :: a91 :: a92 :: a93 :: a94 :: a95 :: a96 :: a97 :: a98 :: a99 :: a100 :: a101 :: a102 :: a103 :: l : va_W)[i]?) = ([a103] : va_W).map some := rfl
theorem fm_103 {a0 a1 a2 a3 a4 a5 a6 a7 a8 a9 a10 a11 a12 a13 a14 a15 a16 a17 a18 a19 a20 a21 a22 a23 a24 a25 a26 a27 a28 a29 a30 a31 a32 a33 a34 a35 a36 a37 a38 a39 a40 a41 a42 a43 a44 a45 a46 a47 a48 a49 a50 a51 a52 a53 a54 a55 a56 a57 a58 a59 a60 a61 a62 a63 a64 a65 a66 a67 a68 a69 a70 a71 a72 a73 a74 a75 a76 a77 a78 a79 a80 a81 a82 a83 a84 a85 a86 a87 a88 a89 a90 a91 a92 a93 a94 a95 a96 a97 a98 a99 a100 a101 a102 a103 : Nat × va_E} {l : va_W} : ([103] : List Nat).filterMap (fun i => (a0 :: a1 :: a2 :: a3 :: a4 :: a5 :: a6 :: a7 :: a8 :: a9 :: a10 :: a11 :: a12 :: a13 :: a14 :: a15 :: a16 :: a17 :: a18 :: a19 :: a20 :: a21 :: a22 :: a23 :: a24 :: a25 :: a26 :: a27 :: a28 :: a29 :: a30 :: a31 :: a32 :: a33 :: a34 :: a35 :: a36 :: a37 :: a38 :: a39 :: a40 :: a41 :: a42 :: a43 :: a44 :: a45 :: a46 :: a47 :: a48 :: a49 :: a50 :: a51 :: a52 :: a53 :: a54 :: a55 :: a56 :: a57 :: a58 :: a59 :: a60 :: a61 :: a62 :: a63 :: a64 :: a65 :: a66 :: a67 :: a68 :: a69 :: a70 :: a71 :: a72 :: a73 :: a74 :: a75 :: a76 :: a77 :: a78 :: a79 :: a80 :: a81 :: a82 :: a83 :: a84 :: a85 :: a86 :: a87 :: a88 :: a89 :: a90 :: a91 :: a92 :: a93 :: a94 :: a95 :: a96 :: a97 :: a98 :: a99 :: a100 :: a101 :: a102 :: a103 :: l : va_W)[i]?) = ([a103] : va_W) := rfl
theorem nd_103 : va_nd [103] = true := by decide
set_option maxHeartbeats 8000000 in
set_option maxRecDepth 100000 in
theorem law_32 : LAWC 1398 := by
  intro p l e s m below meth c b L xs G K A hf xb bb cc sg do9 ru9 ta9 tp9 ro9 ho9 de9 bpersons bpapers bstamps bversions blines bsteps bsayings bfindings bwarnings bquestions bpersonsc bpapersc bstampsc bversionsc blinesc bstepsc bsayingsc bfindingsc bwarningsc bquestionsc cpersons cpapers cstamps cversions clines csteps csayings cfindings cwarnings cquestions cpersonsc cpapersc cstampsc cversionsc clinesc cstepsc csayingsc cfindingsc cwarningsc cquestionsc tby tln tsp tlnc tspc hs hz hi hw hn ht tr9 clk fi la ml mm sl sm clm hd kc0 km0 kc1 km1 kc2 km2 kc3 km3 kc4 km4 kc5 km5 kc6 km6 kc7 km7 kc8 km8 kc9 km9 kc10 km10 kc11 km11 kc12 km12 fc sh rr tc rrc xm nw nk nt nr nm ns nl nc nF np ntr nb nso nsi nit nsh nsf nss nrc kbpersons kbpapers kbstamps kbversions kblines kbsteps kbsayings kbfindings kbwarnings kbquestions kcpersons kcpapers kcstamps kcversions kclines kcsteps kcsayings kcfindings kcwarnings kcquestions kt ks kn kln ksp jr kr ytp yrm yjr ikp td vd vl gp ktd kvd kvl kgp tkd tf9 dk dn dp da dq cl bo le bi r1 rc rh tf tt9 tl tbv asd st9 tol mroundOf mroundFrom mfromHour mtoHour mfrom mto msort misFault mdeep mcoded mlines mbestCost mdealer mnumber mwhose msize misParted fbpersons fbpapers fbstamps fbversions fblines fbsteps fbsayings fbfindings fbwarnings fbquestions fcpersons fcpapers fcstamps fcversions fclines fcsteps fcsayings fcfindings fcwarnings fcquestions fby ftln ftsp fhw fhn ftr fhs fhz fhi fclm ffi fla fml fmm fsl fsm fk0 fk1 fk2 fk3 fk4 fk5 fk6 fk7 fk8 fk9 fk10 fk11 fk12 ffc fsh frr ftc fht y_nw y_nk y_nt y_nr y_nm y_ns y_nl y_nc y_np y_ntr y_nb y_nso y_nsi y_nit y_nsh y_nsf y_nss y_nrc H locs ls ki hC hK hO hX hL hbl hbA hA hA2 hki hf0 hf1 hf2 hf3 hf4 hf5 hf6 hf7 hf8 hf9 hf10 hf11 hf12 i_kbpersons i_kbpapers i_kbstamps i_kbversions i_kblines i_kbsteps i_kbsayings i_kbfindings i_kbwarnings i_kbquestions i_kcpersons i_kcpapers i_kcstamps i_kcversions i_kclines i_kcsteps i_kcsayings i_kcfindings i_kcwarnings i_kcquestions i_kt i_ks i_kn i_kln i_ksp i_jr i_kr i_ytp i_yrm i_yjr i_tp i_cl i_tol i_ikp i_nw i_vw i_nk i_vk i_mb i_b6 i_sz i_sh i_sl i_sp i_sq i_sc i_sk i_epersons i_epapers i_estamps i_esayings i_efindings i_ewarnings i_equestions i_kpersons i_kpapers i_kstamps i_ksayings i_kfindings i_kwarnings i_kquestions hback hP hD hS hl
  refine Kan8 hC (fun hx hb hr hml hB hown hlocks hnm => ?_)
  refine lv_aload_n hx hb dL_law_1398 rfl (lv_at2 hl) ?_
  refine lv_aload_n hx hb dL_law_1399 rfl (lv_at3 hl) ?_
  refine lv_iload_n hx hb dL_law_1400 rfl (lv_at0 hl) ?_
  refine lv_iconst (v := 1) hx hb dL_law_1401 (by decide) ?_
  refine lv_iadd hx hb dL_law_1402 ?_
  refine eqi (x1 := nI (ki + 1)) (nI_add ki 1) ?_
  refine va_sld hx hb hX hbl hbA hS (lw_in hL hki (by decide)) dL_law_1403 ?_
  refine eqi (x1 := xs (ki + 1)) (congrArg xs (lw_cl hL hki (by decide))) ?_
  refine lv_aload_n hx hb dL_law_1404 rfl (lv_at3 hl) ?_
  refine lv_iload_n hx hb dL_law_1405 rfl (lv_at0 hl) ?_
  refine lv_iconst (v := 2) hx hb dL_law_1406 (by decide) ?_
  refine lv_iadd hx hb dL_law_1407 ?_
  refine eqi (x1 := nI (ki + 2)) (nI_add ki 2) ?_
  refine va_sld hx hb hX hbl hbA hS (lw_in hL hki (by decide)) dL_law_1408 ?_
  refine eqi (x1 := xs (ki + 2)) (congrArg xs (lw_cl hL hki (by decide))) ?_
  refine lv_aload_n hx hb dL_law_1409 rfl (lv_at3 hl) ?_
  refine lv_iload_n hx hb dL_law_1410 rfl (lv_at0 hl) ?_
  refine lv_iconst (v := 3) hx hb dL_law_1411 (by decide) ?_
  refine lv_iadd hx hb dL_law_1412 ?_
  refine eqi (x1 := nI (ki + 3)) (nI_add ki 3) ?_
  refine va_sld hx hb hX hbl hbA hS (lw_in hL hki (by decide)) dL_law_1413 ?_
  refine eqi (x1 := xs (ki + 3)) (congrArg xs (lw_cl hL hki (by decide))) ?_
  refine lk_iV hC hK hl hP hD hS hA (p_sheet l G xb (xs (ki + 1)) (xs (ki + 2)) (xs (ki + 3)) bb cc ikp sg do9 ru9 ta9 tp9 ro9 ho9 de9 hs hz hi hw hn ht fhs fhz fhi) si_L_152 [0, 49, 54, 55, 56] [0, 1, 2, 3, 4] [true, false, false, false, false, false, false, false, false, false, false, false, false, false, false, false, false, false, false, false, false, false, false, false, false, false, false, false, false, false, false, false, false, false, false, false, false, false, false, false, false, false, false, false, false, false, false, false, false, true, false, false, false, false, true, true, true, false, false, false, false, false, false, false, false, false, false, false, false, false, false, false, false, false, false, false, false, false, false, false, false, false, false, false, false, false, false, false, false, false, false, false, false, false, false, false, false, false, false, false, false, false, false, false, false, false, false, false, false, false, false, false, false, false, false, false, false, false, false, false, false, false, false] rfl rfl (by decide +kernel) (by decide +kernel) rfl rfl rfl rfl rfl (Nat.le_of_ble_eq_true rfl) ⟨Nat.le_of_ble_eq_true rfl, Nat.le_of_ble_eq_true rfl⟩ ⟨by first | exact Nat.le_of_ble_eq_true rfl | omega, by first | exact Nat.le_of_ble_eq_true rfl | omega⟩ dL_law_1414 (fun r9897 => Ktu3 fun ghs9899 ghz9900 ghi9901 => ?_)
  intro H locs hr9897 hP2 hS
  try dsimp only at hr9897
  refine Kpdr (ws := (WLW G K hf xb bb cc sg do9 ru9 ta9 tp9 ro9 ho9 de9 bpersons bpapers bstamps bversions blines bsteps bsayings bfindings bwarnings bquestions bpersonsc bpapersc bstampsc bversionsc blinesc bstepsc bsayingsc bfindingsc bwarningsc bquestionsc cpersons cpapers cstamps cversions clines csteps csayings cfindings cwarnings cquestions cpersonsc cpapersc cstampsc cversionsc clinesc cstepsc csayingsc cfindingsc cwarningsc cquestionsc tby tln tsp tlnc tspc hs hz hi hw hn ht tr9 clk fi la ml mm sl sm clm hd kc0 km0 kc1 km1 kc2 km2 kc3 km3 kc4 km4 kc5 km5 kc6 km6 kc7 km7 kc8 km8 kc9 km9 kc10 km10 kc11 km11 kc12 km12 fc sh rr tc rrc xm nw nk nt nr nm ns nl nc nF np ntr nb nso nsi nit nsh nsf nss nrc kbpersons kbpapers kbstamps kbversions kblines kbsteps kbsayings kbfindings kbwarnings kbquestions kcpersons kcpapers kcstamps kcversions kclines kcsteps kcsayings kcfindings kcwarnings kcquestions kt ks kn kln ksp jr kr ytp yrm yjr ikp td vd vl gp ktd kvd kvl kgp tkd tf9 dk dn dp da dq cl bo le bi r1 rc rh tf tt9 tl tbv asd st9 tol mroundOf mroundFrom mfromHour mtoHour mfrom mto msort misFault mdeep mcoded mlines mbestCost mdealer mnumber mwhose msize misParted fbpersons fbpapers fbstamps fbversions fblines fbsteps fbsayings fbfindings fbwarnings fbquestions fcpersons fcpapers fcstamps fcversions fclines fcsteps fcsayings fcfindings fcwarnings fcquestions fby ftln ftsp fhw fhn ftr ghs9899 ghz9900 ghi9901 fclm ffi fla fml fmm fsl fsm fk0 fk1 fk2 fk3 fk4 fk5 fk6 fk7 fk8 fk9 fk10 fk11 fk12 ffc fsh frr ftc fht y_nw y_nk y_nt y_nr y_nm y_ns y_nl y_nc y_np y_ntr y_nb y_nso y_nsi y_nit y_nsh y_nsf y_nss y_nrc)) hP2 (lk_D hD rfl) (fun hP hD => ?_)
  obtain ⟨hr9897, w9902⟩ := hr9897
  obtain rfl := hr9897
  refine lv_pop hx hb dL_law_1417 rfl ?_
  refine lv_aload_n hx hb dL_law_1418 rfl (lv_at1 hl) ?_
  refine lv_aload_n hx hb dL_law_1419 rfl (lv_at3 hl) ?_
  refine lv_iload_n hx hb dL_law_1420 rfl (lv_at0 hl) ?_
  refine lv_iconst (v := 1) hx hb dL_law_1421 (by decide) ?_
  refine lv_iadd hx hb dL_law_1422 ?_
  refine eqi (x1 := nI (ki + 1)) (nI_add ki 1) ?_
  refine va_sld hx hb hX hbl hbA hS (lw_in hL hki (by decide)) dL_law_1423 ?_
  refine eqi (x1 := xs (ki + 1)) (congrArg xs (lw_cl hL hki (by decide))) ?_
  refine lv_aload_n hx hb dL_law_1424 rfl (lv_at3 hl) ?_
  refine lv_iload_n hx hb dL_law_1425 rfl (lv_at0 hl) ?_
  refine lv_iconst (v := 2) hx hb dL_law_1426 (by decide) ?_
  refine lv_iadd hx hb dL_law_1427 ?_
  refine eqi (x1 := nI (ki + 2)) (nI_add ki 2) ?_
  refine va_sld hx hb hX hbl hbA hS (lw_in hL hki (by decide)) dL_law_1428 ?_
  refine eqi (x1 := xs (ki + 2)) (congrArg xs (lw_cl hL hki (by decide))) ?_
  refine lv_aload_n hx hb dL_law_1429 rfl (lv_at3 hl) ?_
  refine lv_iload_n hx hb dL_law_1430 rfl (lv_at0 hl) ?_
  refine lv_iconst (v := 3) hx hb dL_law_1431 (by decide) ?_
  refine lv_iadd hx hb dL_law_1432 ?_
  refine eqi (x1 := nI (ki + 3)) (nI_add ki 3) ?_
  refine va_sld hx hb hX hbl hbA hS (lw_in hL hki (by decide)) dL_law_1433 ?_
  refine eqi (x1 := xs (ki + 3)) (congrArg xs (lw_cl hL hki (by decide))) ?_
  refine lk_iV hC hK hl hP hD hS hA (w_sheet l G xm (xs (ki + 1)) (xs (ki + 2)) (xs (ki + 3)) nw nk ikp nt (nI ytp) nr (nI yrm) mroundOf mroundFrom 0 nm mfromHour mtoHour ns mfrom mto msort misFault mdeep mcoded mlines nl nc nF np ntr nb mbestCost nso nsi nit nsh nsf nss nrc (nI yjr) mdealer mnumber mwhose msize misParted y_nso y_nsi y_nit (i_sz)) si_L_155 [103, 115, 116, 117] [0, 1, 2, 3] [false, false, false, false, false, false, false, false, false, false, false, false, false, false, false, false, false, false, false, false, false, false, false, false, false, false, false, false, false, false, false, false, false, false, false, false, false, false, false, false, false, false, false, false, false, false, false, false, false, false, false, false, false, false, false, false, false, false, false, false, false, false, false, false, false, false, false, false, false, false, false, false, false, false, false, false, false, false, false, false, false, false, false, false, false, false, false, false, false, false, false, false, false, false, false, false, false, false, false, false, false, false, false, true, false, false, false, false, false, false, false, false, false, false, false, true, true, true, false, false, false, false, false] rfl rfl (by decide +kernel) (by decide +kernel) rfl rfl rfl rfl rfl (Nat.le_of_ble_eq_true rfl) ⟨Nat.le_of_ble_eq_true rfl, Nat.le_of_ble_eq_true rfl⟩ ⟨by first | exact Nat.le_of_ble_eq_true rfl | omega, by first | exact Nat.le_of_ble_eq_true rfl | omega⟩ dL_law_1434 (fun r9904 => Ktu3 fun gso9906 gsi9907 git9908 => ?_)
  intro H locs hr9904 hP2 hS
  try dsimp only at hr9904
  refine Kpdr (ws := (WLW G K hf xb bb cc sg do9 ru9 ta9 tp9 ro9 ho9 de9 bpersons bpapers bstamps bversions blines bsteps bsayings bfindings bwarnings bquestions bpersonsc bpapersc bstampsc bversionsc blinesc bstepsc bsayingsc bfindingsc bwarningsc bquestionsc cpersons cpapers cstamps cversions clines csteps csayings cfindings cwarnings cquestions cpersonsc cpapersc cstampsc cversionsc clinesc cstepsc csayingsc cfindingsc cwarningsc cquestionsc tby tln tsp tlnc tspc hs hz hi hw hn ht tr9 clk fi la ml mm sl sm clm hd kc0 km0 kc1 km1 kc2 km2 kc3 km3 kc4 km4 kc5 km5 kc6 km6 kc7 km7 kc8 km8 kc9 km9 kc10 km10 kc11 km11 kc12 km12 fc sh rr tc rrc xm nw nk nt nr nm ns nl nc nF np ntr nb nso nsi nit nsh nsf nss nrc kbpersons kbpapers kbstamps kbversions kblines kbsteps kbsayings kbfindings kbwarnings kbquestions kcpersons kcpapers kcstamps kcversions kclines kcsteps kcsayings kcfindings kcwarnings kcquestions kt ks kn kln ksp jr kr ytp yrm yjr ikp td vd vl gp ktd kvd kvl kgp tkd tf9 dk dn dp da dq cl bo le bi r1 rc rh tf tt9 tl tbv asd st9 tol mroundOf mroundFrom mfromHour mtoHour mfrom mto msort misFault mdeep mcoded mlines mbestCost mdealer mnumber mwhose msize misParted fbpersons fbpapers fbstamps fbversions fblines fbsteps fbsayings fbfindings fbwarnings fbquestions fcpersons fcpapers fcstamps fcversions fclines fcsteps fcsayings fcfindings fcwarnings fcquestions fby ftln ftsp fhw fhn ftr ghs9899 ghz9900 ghi9901 fclm ffi fla fml fmm fsl fsm fk0 fk1 fk2 fk3 fk4 fk5 fk6 fk7 fk8 fk9 fk10 fk11 fk12 ffc fsh frr ftc fht y_nw y_nk y_nt y_nr y_nm y_ns y_nl y_nc y_np y_ntr y_nb gso9906 gsi9907 git9908 y_nsh y_nsf y_nss y_nrc)) hP2 (lk_D hD rfl) (fun hP hD => ?_)
  obtain ⟨hr9904, w9909⟩ := hr9904
  obtain rfl := hr9904
  refine lv_pop hx hb dL_law_1437 rfl ?_
  refine lv_goto (tgt := 1718) hx hb dL_law_1438 (by decide) ?_
  obtain ⟨z9911, z9912, z9913⟩ := w9902
  obtain ⟨z9914, z9915, z9916, z9917⟩ := w9909
  have hsh9 : SHR ghs9899 ghz9900 ghi9901 gso9906 gsi9907 git9908 := SHR.sh i_sh ⟨z9911, z9912, z9913⟩ ⟨z9915, z9916, z9917⟩
  exact hback kbpersons kbpapers kbstamps kbversions kblines kbsteps kbsayings kbfindings kbwarnings kbquestions kcpersons kcpapers kcstamps kcversions kclines kcsteps kcsayings kcfindings kcwarnings kcquestions kt ks kn kln ksp jr kr ytp yrm yjr ikp td vd vl gp ktd kvd kvl kgp tkd tf9 dk dn dp da dq cl bo le bi r1 rc rh tf tt9 tl tbv asd st9 tol mroundOf mroundFrom mfromHour mtoHour mfrom mto msort misFault mdeep mcoded mlines mbestCost mdealer mnumber mwhose msize misParted fbpersons fbpapers fbstamps fbversions fblines fbsteps fbsayings fbfindings fbwarnings fbquestions fcpersons fcpapers fcstamps fcversions fclines fcsteps fcsayings fcfindings fcwarnings fcquestions fby ftln ftsp fhw fhn ftr ghs9899 ghz9900 ghi9901 fclm ffi fla fml fmm fsl fsm fk0 fk1 fk2 fk3 fk4 fk5 fk6 fk7 fk8 fk9 fk10 fk11 fk12 ffc fsh frr ftc fht y_nw y_nk y_nt y_nr y_nm y_ns y_nl y_nc y_np y_ntr y_nb gso9906 gsi9907 git9908 y_nsh y_nsf y_nss y_nrc H locs ls i_kbpersons i_kbpapers i_kbstamps i_kbversions i_kblines i_kbsteps i_kbsayings i_kbfindings i_kbwarnings i_kbquestions i_kcpersons i_kcpapers i_kcstamps i_kcversions i_kclines i_kcsteps i_kcsayings i_kcfindings i_kcwarnings i_kcquestions i_kt i_ks i_kn i_kln i_ksp i_jr i_kr i_ytp i_yrm i_yjr i_tp i_cl i_tol i_ikp i_nw i_vw i_nk i_vk i_mb i_b6 (by first | assumption | omega | exact Or.inl rfl | exact Or.inr rfl) (by first | assumption | omega | exact Or.inl rfl | exact Or.inr rfl) i_sl i_sp i_sq i_sc i_sk i_epersons i_epapers i_estamps i_esayings i_efindings i_ewarnings i_equestions i_kpersons i_kpapers i_kstamps i_ksayings i_kfindings i_kwarnings i_kquestions hP hD hS (lv_sub hl [0, 1, 2, 3] rfl)
set_option maxHeartbeats 8000000 in
set_option maxRecDepth 100000 in
theorem law_33 : LAWC 1441 := by
  intro p l e s m below meth c b L xs G K A hf xb bb cc sg do9 ru9 ta9 tp9 ro9 ho9 de9 bpersons bpapers bstamps bversions blines bsteps bsayings bfindings bwarnings bquestions bpersonsc bpapersc bstampsc bversionsc blinesc bstepsc bsayingsc bfindingsc bwarningsc bquestionsc cpersons cpapers cstamps cversions clines csteps csayings cfindings cwarnings cquestions cpersonsc cpapersc cstampsc cversionsc clinesc cstepsc csayingsc cfindingsc cwarningsc cquestionsc tby tln tsp tlnc tspc hs hz hi hw hn ht tr9 clk fi la ml mm sl sm clm hd kc0 km0 kc1 km1 kc2 km2 kc3 km3 kc4 km4 kc5 km5 kc6 km6 kc7 km7 kc8 km8 kc9 km9 kc10 km10 kc11 km11 kc12 km12 fc sh rr tc rrc xm nw nk nt nr nm ns nl nc nF np ntr nb nso nsi nit nsh nsf nss nrc kbpersons kbpapers kbstamps kbversions kblines kbsteps kbsayings kbfindings kbwarnings kbquestions kcpersons kcpapers kcstamps kcversions kclines kcsteps kcsayings kcfindings kcwarnings kcquestions kt ks kn kln ksp jr kr ytp yrm yjr ikp td vd vl gp ktd kvd kvl kgp tkd tf9 dk dn dp da dq cl bo le bi r1 rc rh tf tt9 tl tbv asd st9 tol mroundOf mroundFrom mfromHour mtoHour mfrom mto msort misFault mdeep mcoded mlines mbestCost mdealer mnumber mwhose msize misParted fbpersons fbpapers fbstamps fbversions fblines fbsteps fbsayings fbfindings fbwarnings fbquestions fcpersons fcpapers fcstamps fcversions fclines fcsteps fcsayings fcfindings fcwarnings fcquestions fby ftln ftsp fhw fhn ftr fhs fhz fhi fclm ffi fla fml fmm fsl fsm fk0 fk1 fk2 fk3 fk4 fk5 fk6 fk7 fk8 fk9 fk10 fk11 fk12 ffc fsh frr ftc fht y_nw y_nk y_nt y_nr y_nm y_ns y_nl y_nc y_np y_ntr y_nb y_nso y_nsi y_nit y_nsh y_nsf y_nss y_nrc H locs ls ki hC hK hO hX hL hbl hbA hA hA2 hki hf0 hf1 hf2 hf3 hf4 hf5 hf6 hf7 hf8 hf9 hf10 hf11 hf12 i_kbpersons i_kbpapers i_kbstamps i_kbversions i_kblines i_kbsteps i_kbsayings i_kbfindings i_kbwarnings i_kbquestions i_kcpersons i_kcpapers i_kcstamps i_kcversions i_kclines i_kcsteps i_kcsayings i_kcfindings i_kcwarnings i_kcquestions i_kt i_ks i_kn i_kln i_ksp i_jr i_kr i_ytp i_yrm i_yjr i_tp i_cl i_tol i_ikp i_nw i_vw i_nk i_vk i_mb i_b6 i_sz i_sh i_sl i_sp i_sq i_sc i_sk i_epersons i_epapers i_estamps i_esayings i_efindings i_ewarnings i_equestions i_kpersons i_kpapers i_kstamps i_ksayings i_kfindings i_kwarnings i_kquestions hback hP hD hS hl
  refine Kan8 hC (fun hx hb hr hml hB hown hlocks hnm => ?_)
  have i_szc : SZ fhz := SHR.sz i_sh i_sz
  refine lv_aload_n hx hb dL_law_1441 rfl (lv_at2 hl) ?_
  refine lv_aload_n hx hb dL_law_1442 rfl (lv_at3 hl) ?_
  refine lv_iload_n hx hb dL_law_1443 rfl (lv_at0 hl) ?_
  refine lv_iconst (v := 1) hx hb dL_law_1444 (by decide) ?_
  refine lv_iadd hx hb dL_law_1445 ?_
  refine eqi (x1 := nI (ki + 1)) (nI_add ki 1) ?_
  refine va_sld hx hb hX hbl hbA hS (lw_in hL hki (by decide)) dL_law_1446 ?_
  refine eqi (x1 := xs (ki + 1)) (congrArg xs (lw_cl hL hki (by decide))) ?_
  refine lv_aload_n hx hb dL_law_1447 rfl (lv_at3 hl) ?_
  refine lv_iload_n hx hb dL_law_1448 rfl (lv_at0 hl) ?_
  refine lv_iconst (v := 2) hx hb dL_law_1449 (by decide) ?_
  refine lv_iadd hx hb dL_law_1450 ?_
  refine eqi (x1 := nI (ki + 2)) (nI_add ki 2) ?_
  refine va_sld hx hb hX hbl hbA hS (lw_in hL hki (by decide)) dL_law_1451 ?_
  refine eqi (x1 := xs (ki + 2)) (congrArg xs (lw_cl hL hki (by decide))) ?_
  refine lv_aload_n hx hb dL_law_1452 rfl (lv_at3 hl) ?_
  refine lv_iload_n hx hb dL_law_1453 rfl (lv_at0 hl) ?_
  refine lv_iconst (v := 3) hx hb dL_law_1454 (by decide) ?_
  refine lv_iadd hx hb dL_law_1455 ?_
  refine eqi (x1 := nI (ki + 3)) (nI_add ki 3) ?_
  refine va_sld hx hb hX hbl hbA hS (lw_in hL hki (by decide)) dL_law_1456 ?_
  refine eqi (x1 := xs (ki + 3)) (congrArg xs (lw_cl hL hki (by decide))) ?_
  refine lk_iV hC hK hl hP hD hS hA (p_put l G xb (xs (ki + 1)) (xs (ki + 2)) (xs (ki + 3)) bb cc ikp sg do9 ru9 ta9 tp9 ro9 ho9 de9 hs hz hi hw hn ht fhs fhz fhi (i_szc)) si_L_156 [0, 49, 54, 55, 56] [0, 1, 2, 3, 4] [true, false, false, false, false, false, false, false, false, false, false, false, false, false, false, false, false, false, false, false, false, false, false, false, false, false, false, false, false, false, false, false, false, false, false, false, false, false, false, false, false, false, false, false, false, false, false, false, false, true, false, false, false, false, true, true, true, false, false, false, false, false, false, false, false, false, false, false, false, false, false, false, false, false, false, false, false, false, false, false, false, false, false, false, false, false, false, false, false, false, false, false, false, false, false, false, false, false, false, false, false, false, false, false, false, false, false, false, false, false, false, false, false, false, false, false, false, false, false, false, false, false, false] rfl rfl (by decide +kernel) (by decide +kernel) rfl rfl rfl rfl rfl (Nat.le_of_ble_eq_true rfl) ⟨Nat.le_of_ble_eq_true rfl, Nat.le_of_ble_eq_true rfl⟩ ⟨by first | exact Nat.le_of_ble_eq_true rfl | omega, by first | exact Nat.le_of_ble_eq_true rfl | omega⟩ dL_law_1457 (fun r9918 ghi9920 H locs hr9918 hP2 hS => ?_)
  try dsimp only at hr9918
  refine Kpdr (ws := (WLW G K hf xb bb cc sg do9 ru9 ta9 tp9 ro9 ho9 de9 bpersons bpapers bstamps bversions blines bsteps bsayings bfindings bwarnings bquestions bpersonsc bpapersc bstampsc bversionsc blinesc bstepsc bsayingsc bfindingsc bwarningsc bquestionsc cpersons cpapers cstamps cversions clines csteps csayings cfindings cwarnings cquestions cpersonsc cpapersc cstampsc cversionsc clinesc cstepsc csayingsc cfindingsc cwarningsc cquestionsc tby tln tsp tlnc tspc hs hz hi hw hn ht tr9 clk fi la ml mm sl sm clm hd kc0 km0 kc1 km1 kc2 km2 kc3 km3 kc4 km4 kc5 km5 kc6 km6 kc7 km7 kc8 km8 kc9 km9 kc10 km10 kc11 km11 kc12 km12 fc sh rr tc rrc xm nw nk nt nr nm ns nl nc nF np ntr nb nso nsi nit nsh nsf nss nrc kbpersons kbpapers kbstamps kbversions kblines kbsteps kbsayings kbfindings kbwarnings kbquestions kcpersons kcpapers kcstamps kcversions kclines kcsteps kcsayings kcfindings kcwarnings kcquestions kt ks kn kln ksp jr kr ytp yrm yjr ikp td vd vl gp ktd kvd kvl kgp tkd tf9 dk dn dp da dq cl bo le bi r1 rc rh tf tt9 tl tbv asd st9 tol mroundOf mroundFrom mfromHour mtoHour mfrom mto msort misFault mdeep mcoded mlines mbestCost mdealer mnumber mwhose msize misParted fbpersons fbpapers fbstamps fbversions fblines fbsteps fbsayings fbfindings fbwarnings fbquestions fcpersons fcpapers fcstamps fcversions fclines fcsteps fcsayings fcfindings fcwarnings fcquestions fby ftln ftsp fhw fhn ftr fhs fhz ghi9920 fclm ffi fla fml fmm fsl fsm fk0 fk1 fk2 fk3 fk4 fk5 fk6 fk7 fk8 fk9 fk10 fk11 fk12 ffc fsh frr ftc fht y_nw y_nk y_nt y_nr y_nm y_ns y_nl y_nc y_np y_ntr y_nb y_nso y_nsi y_nit y_nsh y_nsf y_nss y_nrc)) hP2 (lk_D hD rfl) (fun hP hD => ?_)
  obtain ⟨hr9918, w9921⟩ := hr9918
  obtain rfl := hr9918
  refine lv_pop hx hb dL_law_1460 rfl ?_
  refine lv_aload_n hx hb dL_law_1461 rfl (lv_at1 hl) ?_
  refine lv_aload_n hx hb dL_law_1462 rfl (lv_at3 hl) ?_
  refine lv_iload_n hx hb dL_law_1463 rfl (lv_at0 hl) ?_
  refine lv_iconst (v := 1) hx hb dL_law_1464 (by decide) ?_
  refine lv_iadd hx hb dL_law_1465 ?_
  refine eqi (x1 := nI (ki + 1)) (nI_add ki 1) ?_
  refine va_sld hx hb hX hbl hbA hS (lw_in hL hki (by decide)) dL_law_1466 ?_
  refine eqi (x1 := xs (ki + 1)) (congrArg xs (lw_cl hL hki (by decide))) ?_
  refine lv_aload_n hx hb dL_law_1467 rfl (lv_at3 hl) ?_
  refine lv_iload_n hx hb dL_law_1468 rfl (lv_at0 hl) ?_
  refine lv_iconst (v := 2) hx hb dL_law_1469 (by decide) ?_
  refine lv_iadd hx hb dL_law_1470 ?_
  refine eqi (x1 := nI (ki + 2)) (nI_add ki 2) ?_
  refine va_sld hx hb hX hbl hbA hS (lw_in hL hki (by decide)) dL_law_1471 ?_
  refine eqi (x1 := xs (ki + 2)) (congrArg xs (lw_cl hL hki (by decide))) ?_
  refine lv_aload_n hx hb dL_law_1472 rfl (lv_at3 hl) ?_
  refine lv_iload_n hx hb dL_law_1473 rfl (lv_at0 hl) ?_
  refine lv_iconst (v := 3) hx hb dL_law_1474 (by decide) ?_
  refine lv_iadd hx hb dL_law_1475 ?_
  refine eqi (x1 := nI (ki + 3)) (nI_add ki 3) ?_
  refine va_sld hx hb hX hbl hbA hS (lw_in hL hki (by decide)) dL_law_1476 ?_
  refine eqi (x1 := xs (ki + 3)) (congrArg xs (lw_cl hL hki (by decide))) ?_
  refine lk_iV hC hK hl hP hD hS hA (w_put l G xm (xs (ki + 1)) (xs (ki + 2)) (xs (ki + 3)) nw nk ikp nt (nI ytp) nr (nI yrm) mroundOf mroundFrom 0 nm mfromHour mtoHour ns mfrom mto msort misFault mdeep mcoded mlines nl nc nF np ntr nb mbestCost nso nsi nit nsh nsf nss nrc (nI yjr) mdealer mnumber mwhose msize misParted y_nso y_nsi y_nit (i_sz)) si_L_159 [103, 115, 116, 117] [0, 1, 2, 3] [false, false, false, false, false, false, false, false, false, false, false, false, false, false, false, false, false, false, false, false, false, false, false, false, false, false, false, false, false, false, false, false, false, false, false, false, false, false, false, false, false, false, false, false, false, false, false, false, false, false, false, false, false, false, false, false, false, false, false, false, false, false, false, false, false, false, false, false, false, false, false, false, false, false, false, false, false, false, false, false, false, false, false, false, false, false, false, false, false, false, false, false, false, false, false, false, false, false, false, false, false, false, false, true, false, false, false, false, false, false, false, false, false, false, false, true, true, true, false, false, false, false, false] rfl rfl (by decide +kernel) (by decide +kernel) rfl rfl rfl rfl rfl (Nat.le_of_ble_eq_true rfl) ⟨Nat.le_of_ble_eq_true rfl, Nat.le_of_ble_eq_true rfl⟩ ⟨by first | exact Nat.le_of_ble_eq_true rfl | omega, by first | exact Nat.le_of_ble_eq_true rfl | omega⟩ dL_law_1477 (fun r9923 git9925 H locs hr9923 hP2 hS => ?_)
  try dsimp only at hr9923
  refine Kpdr (ws := (WLW G K hf xb bb cc sg do9 ru9 ta9 tp9 ro9 ho9 de9 bpersons bpapers bstamps bversions blines bsteps bsayings bfindings bwarnings bquestions bpersonsc bpapersc bstampsc bversionsc blinesc bstepsc bsayingsc bfindingsc bwarningsc bquestionsc cpersons cpapers cstamps cversions clines csteps csayings cfindings cwarnings cquestions cpersonsc cpapersc cstampsc cversionsc clinesc cstepsc csayingsc cfindingsc cwarningsc cquestionsc tby tln tsp tlnc tspc hs hz hi hw hn ht tr9 clk fi la ml mm sl sm clm hd kc0 km0 kc1 km1 kc2 km2 kc3 km3 kc4 km4 kc5 km5 kc6 km6 kc7 km7 kc8 km8 kc9 km9 kc10 km10 kc11 km11 kc12 km12 fc sh rr tc rrc xm nw nk nt nr nm ns nl nc nF np ntr nb nso nsi nit nsh nsf nss nrc kbpersons kbpapers kbstamps kbversions kblines kbsteps kbsayings kbfindings kbwarnings kbquestions kcpersons kcpapers kcstamps kcversions kclines kcsteps kcsayings kcfindings kcwarnings kcquestions kt ks kn kln ksp jr kr ytp yrm yjr ikp td vd vl gp ktd kvd kvl kgp tkd tf9 dk dn dp da dq cl bo le bi r1 rc rh tf tt9 tl tbv asd st9 tol mroundOf mroundFrom mfromHour mtoHour mfrom mto msort misFault mdeep mcoded mlines mbestCost mdealer mnumber mwhose msize misParted fbpersons fbpapers fbstamps fbversions fblines fbsteps fbsayings fbfindings fbwarnings fbquestions fcpersons fcpapers fcstamps fcversions fclines fcsteps fcsayings fcfindings fcwarnings fcquestions fby ftln ftsp fhw fhn ftr fhs fhz ghi9920 fclm ffi fla fml fmm fsl fsm fk0 fk1 fk2 fk3 fk4 fk5 fk6 fk7 fk8 fk9 fk10 fk11 fk12 ffc fsh frr ftc fht y_nw y_nk y_nt y_nr y_nm y_ns y_nl y_nc y_np y_ntr y_nb y_nso y_nsi git9925 y_nsh y_nsf y_nss y_nrc)) hP2 (lk_D hD rfl) (fun hP hD => ?_)
  obtain ⟨hr9923, w9926⟩ := hr9923
  obtain rfl := hr9923
  refine lv_pop hx hb dL_law_1480 rfl ?_
  refine lv_goto (tgt := 1718) hx hb dL_law_1481 (by decide) ?_
  have hsh9 : SHR fhs fhz ghi9920 y_nso y_nsi git9925 := SHR.put i_sh w9921 w9926
  exact hback kbpersons kbpapers kbstamps kbversions kblines kbsteps kbsayings kbfindings kbwarnings kbquestions kcpersons kcpapers kcstamps kcversions kclines kcsteps kcsayings kcfindings kcwarnings kcquestions kt ks kn kln ksp jr kr ytp yrm yjr ikp td vd vl gp ktd kvd kvl kgp tkd tf9 dk dn dp da dq cl bo le bi r1 rc rh tf tt9 tl tbv asd st9 tol mroundOf mroundFrom mfromHour mtoHour mfrom mto msort misFault mdeep mcoded mlines mbestCost mdealer mnumber mwhose msize misParted fbpersons fbpapers fbstamps fbversions fblines fbsteps fbsayings fbfindings fbwarnings fbquestions fcpersons fcpapers fcstamps fcversions fclines fcsteps fcsayings fcfindings fcwarnings fcquestions fby ftln ftsp fhw fhn ftr fhs fhz ghi9920 fclm ffi fla fml fmm fsl fsm fk0 fk1 fk2 fk3 fk4 fk5 fk6 fk7 fk8 fk9 fk10 fk11 fk12 ffc fsh frr ftc fht y_nw y_nk y_nt y_nr y_nm y_ns y_nl y_nc y_np y_ntr y_nb y_nso y_nsi git9925 y_nsh y_nsf y_nss y_nrc H locs ls i_kbpersons i_kbpapers i_kbstamps i_kbversions i_kblines i_kbsteps i_kbsayings i_kbfindings i_kbwarnings i_kbquestions i_kcpersons i_kcpapers i_kcstamps i_kcversions i_kclines i_kcsteps i_kcsayings i_kcfindings i_kcwarnings i_kcquestions i_kt i_ks i_kn i_kln i_ksp i_jr i_kr i_ytp i_yrm i_yjr i_tp i_cl i_tol i_ikp i_nw i_vw i_nk i_vk i_mb i_b6 i_sz (by first | assumption | omega | exact Or.inl rfl | exact Or.inr rfl) i_sl i_sp i_sq i_sc i_sk i_epersons i_epapers i_estamps i_esayings i_efindings i_ewarnings i_equestions i_kpersons i_kpapers i_kstamps i_ksayings i_kfindings i_kwarnings i_kquestions hP hD hS (lv_sub hl [0, 1, 2, 3] rfl)
set_option maxHeartbeats 8000000 in
set_option maxRecDepth 100000 in
theorem law_34 : LAWC 1484 := by
  intro p l e s m below meth c b L xs G K A hf xb bb cc sg do9 ru9 ta9 tp9 ro9 ho9 de9 bpersons bpapers bstamps bversions blines bsteps bsayings bfindings bwarnings bquestions bpersonsc bpapersc bstampsc bversionsc blinesc bstepsc bsayingsc bfindingsc bwarningsc bquestionsc cpersons cpapers cstamps cversions clines csteps csayings cfindings cwarnings cquestions cpersonsc cpapersc cstampsc cversionsc clinesc cstepsc csayingsc cfindingsc cwarningsc cquestionsc tby tln tsp tlnc tspc hs hz hi hw hn ht tr9 clk fi la ml mm sl sm clm hd kc0 km0 kc1 km1 kc2 km2 kc3 km3 kc4 km4 kc5 km5 kc6 km6 kc7 km7 kc8 km8 kc9 km9 kc10 km10 kc11 km11 kc12 km12 fc sh rr tc rrc xm nw nk nt nr nm ns nl nc nF np ntr nb nso nsi nit nsh nsf nss nrc kbpersons kbpapers kbstamps kbversions kblines kbsteps kbsayings kbfindings kbwarnings kbquestions kcpersons kcpapers kcstamps kcversions kclines kcsteps kcsayings kcfindings kcwarnings kcquestions kt ks kn kln ksp jr kr ytp yrm yjr ikp td vd vl gp ktd kvd kvl kgp tkd tf9 dk dn dp da dq cl bo le bi r1 rc rh tf tt9 tl tbv asd st9 tol mroundOf mroundFrom mfromHour mtoHour mfrom mto msort misFault mdeep mcoded mlines mbestCost mdealer mnumber mwhose msize misParted fbpersons fbpapers fbstamps fbversions fblines fbsteps fbsayings fbfindings fbwarnings fbquestions fcpersons fcpapers fcstamps fcversions fclines fcsteps fcsayings fcfindings fcwarnings fcquestions fby ftln ftsp fhw fhn ftr fhs fhz fhi fclm ffi fla fml fmm fsl fsm fk0 fk1 fk2 fk3 fk4 fk5 fk6 fk7 fk8 fk9 fk10 fk11 fk12 ffc fsh frr ftc fht y_nw y_nk y_nt y_nr y_nm y_ns y_nl y_nc y_np y_ntr y_nb y_nso y_nsi y_nit y_nsh y_nsf y_nss y_nrc H locs ls ki hC hK hO hX hL hbl hbA hA hA2 hki hf0 hf1 hf2 hf3 hf4 hf5 hf6 hf7 hf8 hf9 hf10 hf11 hf12 i_kbpersons i_kbpapers i_kbstamps i_kbversions i_kblines i_kbsteps i_kbsayings i_kbfindings i_kbwarnings i_kbquestions i_kcpersons i_kcpapers i_kcstamps i_kcversions i_kclines i_kcsteps i_kcsayings i_kcfindings i_kcwarnings i_kcquestions i_kt i_ks i_kn i_kln i_ksp i_jr i_kr i_ytp i_yrm i_yjr i_tp i_cl i_tol i_ikp i_nw i_vw i_nk i_vk i_mb i_b6 i_sz i_sh i_sl i_sp i_sq i_sc i_sk i_epersons i_epapers i_estamps i_esayings i_efindings i_ewarnings i_equestions i_kpersons i_kpapers i_kstamps i_ksayings i_kfindings i_kwarnings i_kquestions hback hP hD hS hl
  refine Kan8 hC (fun hx hb hr hml hB hown hlocks hnm => ?_)
  have i_szc : SZ fhz := SHR.sz i_sh i_sz
  refine lv_aload_n hx hb dL_law_1484 rfl (lv_at2 hl) ?_
  refine lv_aload_n hx hb dL_law_1485 rfl (lv_at3 hl) ?_
  refine lv_iload_n hx hb dL_law_1486 rfl (lv_at0 hl) ?_
  refine lv_iconst (v := 1) hx hb dL_law_1487 (by decide) ?_
  refine lv_iadd hx hb dL_law_1488 ?_
  refine eqi (x1 := nI (ki + 1)) (nI_add ki 1) ?_
  refine va_sld hx hb hX hbl hbA hS (lw_in hL hki (by decide)) dL_law_1489 ?_
  refine eqi (x1 := xs (ki + 1)) (congrArg xs (lw_cl hL hki (by decide))) ?_
  refine lv_aload_n hx hb dL_law_1490 rfl (lv_at3 hl) ?_
  refine lv_iload_n hx hb dL_law_1491 rfl (lv_at0 hl) ?_
  refine lv_iconst (v := 2) hx hb dL_law_1492 (by decide) ?_
  refine lv_iadd hx hb dL_law_1493 ?_
  refine eqi (x1 := nI (ki + 2)) (nI_add ki 2) ?_
  refine va_sld hx hb hX hbl hbA hS (lw_in hL hki (by decide)) dL_law_1494 ?_
  refine eqi (x1 := xs (ki + 2)) (congrArg xs (lw_cl hL hki (by decide))) ?_
  refine lv_aload_n hx hb dL_law_1495 rfl (lv_at3 hl) ?_
  refine lv_iload_n hx hb dL_law_1496 rfl (lv_at0 hl) ?_
  refine lv_iconst (v := 3) hx hb dL_law_1497 (by decide) ?_
  refine lv_iadd hx hb dL_law_1498 ?_
  refine eqi (x1 := nI (ki + 3)) (nI_add ki 3) ?_
  refine va_sld hx hb hX hbl hbA hS (lw_in hL hki (by decide)) dL_law_1499 ?_
  refine eqi (x1 := xs (ki + 3)) (congrArg xs (lw_cl hL hki (by decide))) ?_
  refine pV hC hK hl hP hD (p_item l G xb (xs (ki + 1)) (xs (ki + 2)) (xs (ki + 3)) bb cc ikp sg do9 ru9 ta9 tp9 ro9 ho9 de9 hs hz hi hw hn ht fhs fhz fhi (i_szc)) si_L_160 [0, 49, 54, 55, 56] sm_0_49_54_55_56 fm_0_49_54_55_56 nd_0_49_54_55_56 rfl rfl rfl rfl rfl (Nat.le_of_ble_eq_true rfl) ⟨Nat.le_of_ble_eq_true rfl, Nat.le_of_ble_eq_true rfl⟩ ⟨by first | exact Nat.le_of_ble_eq_true rfl | exact Nat.zero_le _, by first | exact Nat.le_of_ble_eq_true rfl | exact Nat.zero_le _⟩ dL_law_1500 (Keqr ?_)
  refine lv_pop hx hb dL_law_1503 rfl ?_
  refine lv_aload_n hx hb dL_law_1504 rfl (lv_at1 hl) ?_
  refine lv_aload_n hx hb dL_law_1505 rfl (lv_at3 hl) ?_
  refine lv_iload_n hx hb dL_law_1506 rfl (lv_at0 hl) ?_
  refine lv_iconst (v := 1) hx hb dL_law_1507 (by decide) ?_
  refine lv_iadd hx hb dL_law_1508 ?_
  refine eqi (x1 := nI (ki + 1)) (nI_add ki 1) ?_
  refine va_sld hx hb hX hbl hbA hS (lw_in hL hki (by decide)) dL_law_1509 ?_
  refine eqi (x1 := xs (ki + 1)) (congrArg xs (lw_cl hL hki (by decide))) ?_
  refine lv_aload_n hx hb dL_law_1510 rfl (lv_at3 hl) ?_
  refine lv_iload_n hx hb dL_law_1511 rfl (lv_at0 hl) ?_
  refine lv_iconst (v := 2) hx hb dL_law_1512 (by decide) ?_
  refine lv_iadd hx hb dL_law_1513 ?_
  refine eqi (x1 := nI (ki + 2)) (nI_add ki 2) ?_
  refine va_sld hx hb hX hbl hbA hS (lw_in hL hki (by decide)) dL_law_1514 ?_
  refine eqi (x1 := xs (ki + 2)) (congrArg xs (lw_cl hL hki (by decide))) ?_
  refine lv_aload_n hx hb dL_law_1515 rfl (lv_at3 hl) ?_
  refine lv_iload_n hx hb dL_law_1516 rfl (lv_at0 hl) ?_
  refine lv_iconst (v := 3) hx hb dL_law_1517 (by decide) ?_
  refine lv_iadd hx hb dL_law_1518 ?_
  refine eqi (x1 := nI (ki + 3)) (nI_add ki 3) ?_
  refine va_sld hx hb hX hbl hbA hS (lw_in hL hki (by decide)) dL_law_1519 ?_
  refine eqi (x1 := xs (ki + 3)) (congrArg xs (lw_cl hL hki (by decide))) ?_
  refine pV hC hK hl hP hD (r_item l G xm (xs (ki + 1)) (xs (ki + 2)) (xs (ki + 3)) nw nk ikp nt (nI ytp) nr (nI yrm) mroundOf mroundFrom 0 nm mfromHour mtoHour ns mfrom mto msort misFault mdeep mcoded mlines nl nc nF np ntr nb mbestCost nso nsi nit nsh nsf nss nrc (nI yjr) mdealer mnumber mwhose msize misParted y_nso y_nsi y_nit (i_sz)) si_L_163 [103, 115, 116, 117] sm_103_115_116_117 fm_103_115_116_117 nd_103_115_116_117 rfl rfl rfl rfl rfl (Nat.le_of_ble_eq_true rfl) ⟨Nat.le_of_ble_eq_true rfl, Nat.le_of_ble_eq_true rfl⟩ ⟨by first | exact Nat.le_of_ble_eq_true rfl | exact Nat.zero_le _, by first | exact Nat.le_of_ble_eq_true rfl | exact Nat.zero_le _⟩ dL_law_1520 (Keqr ?_)
  refine lv_pop hx hb dL_law_1523 rfl ?_
  refine lv_goto (tgt := 1718) hx hb dL_law_1524 (by decide) ?_
  exact hback kbpersons kbpapers kbstamps kbversions kblines kbsteps kbsayings kbfindings kbwarnings kbquestions kcpersons kcpapers kcstamps kcversions kclines kcsteps kcsayings kcfindings kcwarnings kcquestions kt ks kn kln ksp jr kr ytp yrm yjr ikp td vd vl gp ktd kvd kvl kgp tkd tf9 dk dn dp da dq cl bo le bi r1 rc rh tf tt9 tl tbv asd st9 tol mroundOf mroundFrom mfromHour mtoHour mfrom mto msort misFault mdeep mcoded mlines mbestCost mdealer mnumber mwhose msize misParted fbpersons fbpapers fbstamps fbversions fblines fbsteps fbsayings fbfindings fbwarnings fbquestions fcpersons fcpapers fcstamps fcversions fclines fcsteps fcsayings fcfindings fcwarnings fcquestions fby ftln ftsp fhw fhn ftr fhs fhz fhi fclm ffi fla fml fmm fsl fsm fk0 fk1 fk2 fk3 fk4 fk5 fk6 fk7 fk8 fk9 fk10 fk11 fk12 ffc fsh frr ftc fht y_nw y_nk y_nt y_nr y_nm y_ns y_nl y_nc y_np y_ntr y_nb y_nso y_nsi y_nit y_nsh y_nsf y_nss y_nrc H locs ls i_kbpersons i_kbpapers i_kbstamps i_kbversions i_kblines i_kbsteps i_kbsayings i_kbfindings i_kbwarnings i_kbquestions i_kcpersons i_kcpapers i_kcstamps i_kcversions i_kclines i_kcsteps i_kcsayings i_kcfindings i_kcwarnings i_kcquestions i_kt i_ks i_kn i_kln i_ksp i_jr i_kr i_ytp i_yrm i_yjr i_tp i_cl i_tol i_ikp i_nw i_vw i_nk i_vk i_mb i_b6 i_sz i_sh i_sl i_sp i_sq i_sc i_sk i_epersons i_epapers i_estamps i_esayings i_efindings i_ewarnings i_equestions i_kpersons i_kpapers i_kstamps i_ksayings i_kfindings i_kwarnings i_kquestions hP hD hS (lv_sub hl [0, 1, 2, 3] rfl)
set_option maxHeartbeats 8000000 in
set_option maxRecDepth 100000 in
theorem law_35 : LAWC 1527 := by
  intro p l e s m below meth c b L xs G K A hf xb bb cc sg do9 ru9 ta9 tp9 ro9 ho9 de9 bpersons bpapers bstamps bversions blines bsteps bsayings bfindings bwarnings bquestions bpersonsc bpapersc bstampsc bversionsc blinesc bstepsc bsayingsc bfindingsc bwarningsc bquestionsc cpersons cpapers cstamps cversions clines csteps csayings cfindings cwarnings cquestions cpersonsc cpapersc cstampsc cversionsc clinesc cstepsc csayingsc cfindingsc cwarningsc cquestionsc tby tln tsp tlnc tspc hs hz hi hw hn ht tr9 clk fi la ml mm sl sm clm hd kc0 km0 kc1 km1 kc2 km2 kc3 km3 kc4 km4 kc5 km5 kc6 km6 kc7 km7 kc8 km8 kc9 km9 kc10 km10 kc11 km11 kc12 km12 fc sh rr tc rrc xm nw nk nt nr nm ns nl nc nF np ntr nb nso nsi nit nsh nsf nss nrc kbpersons kbpapers kbstamps kbversions kblines kbsteps kbsayings kbfindings kbwarnings kbquestions kcpersons kcpapers kcstamps kcversions kclines kcsteps kcsayings kcfindings kcwarnings kcquestions kt ks kn kln ksp jr kr ytp yrm yjr ikp td vd vl gp ktd kvd kvl kgp tkd tf9 dk dn dp da dq cl bo le bi r1 rc rh tf tt9 tl tbv asd st9 tol mroundOf mroundFrom mfromHour mtoHour mfrom mto msort misFault mdeep mcoded mlines mbestCost mdealer mnumber mwhose msize misParted fbpersons fbpapers fbstamps fbversions fblines fbsteps fbsayings fbfindings fbwarnings fbquestions fcpersons fcpapers fcstamps fcversions fclines fcsteps fcsayings fcfindings fcwarnings fcquestions fby ftln ftsp fhw fhn ftr fhs fhz fhi fclm ffi fla fml fmm fsl fsm fk0 fk1 fk2 fk3 fk4 fk5 fk6 fk7 fk8 fk9 fk10 fk11 fk12 ffc fsh frr ftc fht y_nw y_nk y_nt y_nr y_nm y_ns y_nl y_nc y_np y_ntr y_nb y_nso y_nsi y_nit y_nsh y_nsf y_nss y_nrc H locs ls ki hC hK hO hX hL hbl hbA hA hA2 hki hf0 hf1 hf2 hf3 hf4 hf5 hf6 hf7 hf8 hf9 hf10 hf11 hf12 i_kbpersons i_kbpapers i_kbstamps i_kbversions i_kblines i_kbsteps i_kbsayings i_kbfindings i_kbwarnings i_kbquestions i_kcpersons i_kcpapers i_kcstamps i_kcversions i_kclines i_kcsteps i_kcsayings i_kcfindings i_kcwarnings i_kcquestions i_kt i_ks i_kn i_kln i_ksp i_jr i_kr i_ytp i_yrm i_yjr i_tp i_cl i_tol i_ikp i_nw i_vw i_nk i_vk i_mb i_b6 i_sz i_sh i_sl i_sp i_sq i_sc i_sk i_epersons i_epapers i_estamps i_esayings i_efindings i_ewarnings i_equestions i_kpersons i_kpapers i_kstamps i_ksayings i_kfindings i_kwarnings i_kquestions hback hP hD hS hl
  refine Kan8 hC (fun hx hb hr hml hB hown hlocks hnm => ?_)
  refine lv_aload_n hx hb dL_law_1527 rfl (lv_at2 hl) ?_
  refine lv_aload_n hx hb dL_law_1528 rfl (lv_at3 hl) ?_
  refine lv_iload_n hx hb dL_law_1529 rfl (lv_at0 hl) ?_
  refine lv_iconst (v := 1) hx hb dL_law_1530 (by decide) ?_
  refine lv_iadd hx hb dL_law_1531 ?_
  refine eqi (x1 := nI (ki + 1)) (nI_add ki 1) ?_
  refine va_sld hx hb hX hbl hbA hS (lw_in hL hki (by decide)) dL_law_1532 ?_
  refine eqi (x1 := xs (ki + 1)) (congrArg xs (lw_cl hL hki (by decide))) ?_
  refine lv_aload_n hx hb dL_law_1533 rfl (lv_at3 hl) ?_
  refine lv_iload_n hx hb dL_law_1534 rfl (lv_at0 hl) ?_
  refine lv_iconst (v := 2) hx hb dL_law_1535 (by decide) ?_
  refine lv_iadd hx hb dL_law_1536 ?_
  refine eqi (x1 := nI (ki + 2)) (nI_add ki 2) ?_
  refine va_sld hx hb hX hbl hbA hS (lw_in hL hki (by decide)) dL_law_1537 ?_
  refine eqi (x1 := xs (ki + 2)) (congrArg xs (lw_cl hL hki (by decide))) ?_
  refine lv_aload_n hx hb dL_law_1538 rfl (lv_at3 hl) ?_
  refine lv_iload_n hx hb dL_law_1539 rfl (lv_at0 hl) ?_
  refine lv_iconst (v := 3) hx hb dL_law_1540 (by decide) ?_
  refine lv_iadd hx hb dL_law_1541 ?_
  refine eqi (x1 := nI (ki + 3)) (nI_add ki 3) ?_
  refine va_sld hx hb hX hbl hbA hS (lw_in hL hki (by decide)) dL_law_1542 ?_
  refine eqi (x1 := xs (ki + 3)) (congrArg xs (lw_cl hL hki (by decide))) ?_
  refine lk_iV hC hK hl hP hD hS hA (p_shelf l G xb (xs (ki + 1)) (xs (ki + 2)) (xs (ki + 3)) bb cc ikp sg do9 ru9 ta9 tp9 ro9 ho9 de9 bpersons bpapers bstamps bversions blines bsteps bsayings bfindings bwarnings bquestions td vd vl gp bpapersc kbpapers bsayingsc kbsayings bfindingsc kbfindings hs hz hi hw hn ht fhw fhn fht fhs fhz) si_L_164 [0, 1, 4, 14, 16, 49, 50, 51, 102, 54, 55] [0, 1, 2, 3, 4, 5, 6, 7, 9, 10, 8] [true, true, false, false, true, false, false, false, false, false, false, false, false, false, true, false, true, false, false, false, false, false, false, false, false, false, false, false, false, false, false, false, false, false, false, false, false, false, false, false, false, false, false, false, false, false, false, false, false, true, true, true, false, false, true, true, false, false, false, false, false, false, false, false, false, false, false, false, false, false, false, false, false, false, false, false, false, false, false, false, false, false, false, false, false, false, false, false, false, false, false, false, false, false, false, false, false, false, false, false, false, false, true, false, false, false, false, false, false, false, false, false, false, false, false, false, false, false, false, false, false, false, false] rfl rfl (by decide +kernel) (by decide +kernel) rfl rfl rfl rfl rfl (Nat.le_of_ble_eq_true rfl) ⟨Nat.le_of_ble_eq_true rfl, Nat.le_of_ble_eq_true rfl⟩ ⟨by first | exact Nat.le_of_ble_eq_true rfl | omega, by first | exact Nat.le_of_ble_eq_true rfl | omega⟩ dL_law_1543 (fun r9932 => Ktu3 fun ghw9934 ghn9935 ght9936 => ?_)
  intro H locs hr9932 hP2 hS
  try dsimp only at hr9932
  refine Kpdr (ws := (WLW G K hf xb bb cc sg do9 ru9 ta9 tp9 ro9 ho9 de9 bpersons bpapers bstamps bversions blines bsteps bsayings bfindings bwarnings bquestions bpersonsc bpapersc bstampsc bversionsc blinesc bstepsc bsayingsc bfindingsc bwarningsc bquestionsc cpersons cpapers cstamps cversions clines csteps csayings cfindings cwarnings cquestions cpersonsc cpapersc cstampsc cversionsc clinesc cstepsc csayingsc cfindingsc cwarningsc cquestionsc tby tln tsp tlnc tspc hs hz hi hw hn ht tr9 clk fi la ml mm sl sm clm hd kc0 km0 kc1 km1 kc2 km2 kc3 km3 kc4 km4 kc5 km5 kc6 km6 kc7 km7 kc8 km8 kc9 km9 kc10 km10 kc11 km11 kc12 km12 fc sh rr tc rrc xm nw nk nt nr nm ns nl nc nF np ntr nb nso nsi nit nsh nsf nss nrc kbpersons kbpapers kbstamps kbversions kblines kbsteps kbsayings kbfindings kbwarnings kbquestions kcpersons kcpapers kcstamps kcversions kclines kcsteps kcsayings kcfindings kcwarnings kcquestions kt ks kn kln ksp jr kr ytp yrm yjr ikp td vd vl gp ktd kvd kvl kgp tkd tf9 dk dn dp da dq cl bo le bi r1 rc rh tf tt9 tl tbv asd st9 tol mroundOf mroundFrom mfromHour mtoHour mfrom mto msort misFault mdeep mcoded mlines mbestCost mdealer mnumber mwhose msize misParted fbpersons fbpapers fbstamps fbversions fblines fbsteps fbsayings fbfindings fbwarnings fbquestions fcpersons fcpapers fcstamps fcversions fclines fcsteps fcsayings fcfindings fcwarnings fcquestions fby ftln ftsp ghw9934 ghn9935 ftr fhs fhz fhi fclm ffi fla fml fmm fsl fsm fk0 fk1 fk2 fk3 fk4 fk5 fk6 fk7 fk8 fk9 fk10 fk11 fk12 ffc fsh frr ftc ght9936 y_nw y_nk y_nt y_nr y_nm y_ns y_nl y_nc y_np y_ntr y_nb y_nso y_nsi y_nit y_nsh y_nsf y_nss y_nrc)) hP2 (lk_D hD rfl) (fun hP hD => ?_)
  obtain ⟨hr9932, w9937⟩ := hr9932
  obtain rfl := hr9932
  refine lv_pop hx hb dL_law_1546 rfl ?_
  refine lv_aload_n hx hb dL_law_1547 rfl (lv_at1 hl) ?_
  refine lv_aload_n hx hb dL_law_1548 rfl (lv_at3 hl) ?_
  refine lv_iload_n hx hb dL_law_1549 rfl (lv_at0 hl) ?_
  refine lv_iconst (v := 1) hx hb dL_law_1550 (by decide) ?_
  refine lv_iadd hx hb dL_law_1551 ?_
  refine eqi (x1 := nI (ki + 1)) (nI_add ki 1) ?_
  refine va_sld hx hb hX hbl hbA hS (lw_in hL hki (by decide)) dL_law_1552 ?_
  refine eqi (x1 := xs (ki + 1)) (congrArg xs (lw_cl hL hki (by decide))) ?_
  refine lv_aload_n hx hb dL_law_1553 rfl (lv_at3 hl) ?_
  refine lv_iload_n hx hb dL_law_1554 rfl (lv_at0 hl) ?_
  refine lv_iconst (v := 2) hx hb dL_law_1555 (by decide) ?_
  refine lv_iadd hx hb dL_law_1556 ?_
  refine eqi (x1 := nI (ki + 2)) (nI_add ki 2) ?_
  refine va_sld hx hb hX hbl hbA hS (lw_in hL hki (by decide)) dL_law_1557 ?_
  refine eqi (x1 := xs (ki + 2)) (congrArg xs (lw_cl hL hki (by decide))) ?_
  refine lv_aload_n hx hb dL_law_1558 rfl (lv_at3 hl) ?_
  refine lv_iload_n hx hb dL_law_1559 rfl (lv_at0 hl) ?_
  refine lv_iconst (v := 3) hx hb dL_law_1560 (by decide) ?_
  refine lv_iadd hx hb dL_law_1561 ?_
  refine eqi (x1 := nI (ki + 3)) (nI_add ki 3) ?_
  refine va_sld hx hb hX hbl hbA hS (lw_in hL hki (by decide)) dL_law_1562 ?_
  refine eqi (x1 := xs (ki + 3)) (congrArg xs (lw_cl hL hki (by decide))) ?_
  refine lk_iV hC hK hl hP hD hS hA (w_shelf l G kbpapers kbsayings kbfindings xm (xs (ki + 1)) (xs (ki + 2)) (xs (ki + 3)) nw nk ikp nt (nI ytp) nr (nI yrm) mroundOf mroundFrom 0 nm mfromHour mtoHour ns mfrom mto msort misFault mdeep mcoded mlines nl nc nF np ntr nb mbestCost nso nsi nit nsh nsf nss nrc (nI yjr) mdealer mnumber mwhose msize misParted y_nw y_nso y_nsi y_nsh y_nsf y_nss (i_sc.2.2.2.2.2.1) (i_sc.2.2.2.2.2.2.2.1) (i_sc.2.2.2.2.2.2.2.2.1) (i_kbpapers) (i_kbsayings) (i_kbfindings)) si_L_167 [103, 104, 115, 116, 118, 119, 120] [0, 1, 2, 3, 4, 5, 6] [false, false, false, false, false, false, false, false, false, false, false, false, false, false, false, false, false, false, false, false, false, false, false, false, false, false, false, false, false, false, false, false, false, false, false, false, false, false, false, false, false, false, false, false, false, false, false, false, false, false, false, false, false, false, false, false, false, false, false, false, false, false, false, false, false, false, false, false, false, false, false, false, false, false, false, false, false, false, false, false, false, false, false, false, false, false, false, false, false, false, false, false, false, false, false, false, false, false, false, false, false, false, false, true, true, false, false, false, false, false, false, false, false, false, false, true, true, false, true, true, true, false, false] rfl rfl (by decide +kernel) (by decide +kernel) rfl rfl rfl rfl rfl (Nat.le_of_ble_eq_true rfl) ⟨Nat.le_of_ble_eq_true rfl, Nat.le_of_ble_eq_true rfl⟩ ⟨by first | exact Nat.le_of_ble_eq_true rfl | omega, by first | exact Nat.le_of_ble_eq_true rfl | omega⟩ dL_law_1563 (fun r9939 => Ktu3 fun gsh9941 gsf9942 gss9943 => ?_)
  intro H locs hr9939 hP2 hS
  try dsimp only at hr9939
  refine Kpdr (ws := (WLW G K hf xb bb cc sg do9 ru9 ta9 tp9 ro9 ho9 de9 bpersons bpapers bstamps bversions blines bsteps bsayings bfindings bwarnings bquestions bpersonsc bpapersc bstampsc bversionsc blinesc bstepsc bsayingsc bfindingsc bwarningsc bquestionsc cpersons cpapers cstamps cversions clines csteps csayings cfindings cwarnings cquestions cpersonsc cpapersc cstampsc cversionsc clinesc cstepsc csayingsc cfindingsc cwarningsc cquestionsc tby tln tsp tlnc tspc hs hz hi hw hn ht tr9 clk fi la ml mm sl sm clm hd kc0 km0 kc1 km1 kc2 km2 kc3 km3 kc4 km4 kc5 km5 kc6 km6 kc7 km7 kc8 km8 kc9 km9 kc10 km10 kc11 km11 kc12 km12 fc sh rr tc rrc xm nw nk nt nr nm ns nl nc nF np ntr nb nso nsi nit nsh nsf nss nrc kbpersons kbpapers kbstamps kbversions kblines kbsteps kbsayings kbfindings kbwarnings kbquestions kcpersons kcpapers kcstamps kcversions kclines kcsteps kcsayings kcfindings kcwarnings kcquestions kt ks kn kln ksp jr kr ytp yrm yjr ikp td vd vl gp ktd kvd kvl kgp tkd tf9 dk dn dp da dq cl bo le bi r1 rc rh tf tt9 tl tbv asd st9 tol mroundOf mroundFrom mfromHour mtoHour mfrom mto msort misFault mdeep mcoded mlines mbestCost mdealer mnumber mwhose msize misParted fbpersons fbpapers fbstamps fbversions fblines fbsteps fbsayings fbfindings fbwarnings fbquestions fcpersons fcpapers fcstamps fcversions fclines fcsteps fcsayings fcfindings fcwarnings fcquestions fby ftln ftsp ghw9934 ghn9935 ftr fhs fhz fhi fclm ffi fla fml fmm fsl fsm fk0 fk1 fk2 fk3 fk4 fk5 fk6 fk7 fk8 fk9 fk10 fk11 fk12 ffc fsh frr ftc ght9936 y_nw y_nk y_nt y_nr y_nm y_ns y_nl y_nc y_np y_ntr y_nb y_nso y_nsi y_nit gsh9941 gsf9942 gss9943 y_nrc)) hP2 (lk_D hD rfl) (fun hP hD => ?_)
  obtain ⟨hr9939, w9944⟩ := hr9939
  obtain rfl := hr9939
  refine lv_pop hx hb dL_law_1566 rfl ?_
  refine lv_goto (tgt := 1718) hx hb dL_law_1567 (by decide) ?_
  obtain ⟨z9946, z9947⟩ := w9937
  obtain ⟨z9948, z9949⟩ := w9944
  have hsl9 : SLR ghw9934 ghn9935 ght9936 gsh9941 gsf9942 gss9943 := SLR.sh i_sl i_sh ⟨z9946, z9947⟩ ⟨z9948, z9949⟩
  exact hback kbpersons kbpapers kbstamps kbversions kblines kbsteps kbsayings kbfindings kbwarnings kbquestions kcpersons kcpapers kcstamps kcversions kclines kcsteps kcsayings kcfindings kcwarnings kcquestions kt ks kn kln ksp jr kr ytp yrm yjr ikp td vd vl gp ktd kvd kvl kgp tkd tf9 dk dn dp da dq cl bo le bi r1 rc rh tf tt9 tl tbv asd st9 tol mroundOf mroundFrom mfromHour mtoHour mfrom mto msort misFault mdeep mcoded mlines mbestCost mdealer mnumber mwhose msize misParted fbpersons fbpapers fbstamps fbversions fblines fbsteps fbsayings fbfindings fbwarnings fbquestions fcpersons fcpapers fcstamps fcversions fclines fcsteps fcsayings fcfindings fcwarnings fcquestions fby ftln ftsp ghw9934 ghn9935 ftr fhs fhz fhi fclm ffi fla fml fmm fsl fsm fk0 fk1 fk2 fk3 fk4 fk5 fk6 fk7 fk8 fk9 fk10 fk11 fk12 ffc fsh frr ftc ght9936 y_nw y_nk y_nt y_nr y_nm y_ns y_nl y_nc y_np y_ntr y_nb y_nso y_nsi y_nit gsh9941 gsf9942 gss9943 y_nrc H locs ls i_kbpersons i_kbpapers i_kbstamps i_kbversions i_kblines i_kbsteps i_kbsayings i_kbfindings i_kbwarnings i_kbquestions i_kcpersons i_kcpapers i_kcstamps i_kcversions i_kclines i_kcsteps i_kcsayings i_kcfindings i_kcwarnings i_kcquestions i_kt i_ks i_kn i_kln i_ksp i_jr i_kr i_ytp i_yrm i_yjr i_tp i_cl i_tol i_ikp i_nw i_vw i_nk i_vk i_mb i_b6 i_sz i_sh (by first | assumption | omega | exact Or.inl rfl | exact Or.inr rfl) i_sp i_sq i_sc i_sk i_epersons i_epapers i_estamps i_esayings i_efindings i_ewarnings i_equestions i_kpersons i_kpapers i_kstamps i_ksayings i_kfindings i_kwarnings i_kquestions hP hD hS (lv_sub hl [0, 1, 2, 3] rfl)
set_option maxHeartbeats 8000000 in
set_option maxRecDepth 100000 in
theorem law_36 : LAWC 1570 := by
  intro p l e s m below meth c b L xs G K A hf xb bb cc sg do9 ru9 ta9 tp9 ro9 ho9 de9 bpersons bpapers bstamps bversions blines bsteps bsayings bfindings bwarnings bquestions bpersonsc bpapersc bstampsc bversionsc blinesc bstepsc bsayingsc bfindingsc bwarningsc bquestionsc cpersons cpapers cstamps cversions clines csteps csayings cfindings cwarnings cquestions cpersonsc cpapersc cstampsc cversionsc clinesc cstepsc csayingsc cfindingsc cwarningsc cquestionsc tby tln tsp tlnc tspc hs hz hi hw hn ht tr9 clk fi la ml mm sl sm clm hd kc0 km0 kc1 km1 kc2 km2 kc3 km3 kc4 km4 kc5 km5 kc6 km6 kc7 km7 kc8 km8 kc9 km9 kc10 km10 kc11 km11 kc12 km12 fc sh rr tc rrc xm nw nk nt nr nm ns nl nc nF np ntr nb nso nsi nit nsh nsf nss nrc kbpersons kbpapers kbstamps kbversions kblines kbsteps kbsayings kbfindings kbwarnings kbquestions kcpersons kcpapers kcstamps kcversions kclines kcsteps kcsayings kcfindings kcwarnings kcquestions kt ks kn kln ksp jr kr ytp yrm yjr ikp td vd vl gp ktd kvd kvl kgp tkd tf9 dk dn dp da dq cl bo le bi r1 rc rh tf tt9 tl tbv asd st9 tol mroundOf mroundFrom mfromHour mtoHour mfrom mto msort misFault mdeep mcoded mlines mbestCost mdealer mnumber mwhose msize misParted fbpersons fbpapers fbstamps fbversions fblines fbsteps fbsayings fbfindings fbwarnings fbquestions fcpersons fcpapers fcstamps fcversions fclines fcsteps fcsayings fcfindings fcwarnings fcquestions fby ftln ftsp fhw fhn ftr fhs fhz fhi fclm ffi fla fml fmm fsl fsm fk0 fk1 fk2 fk3 fk4 fk5 fk6 fk7 fk8 fk9 fk10 fk11 fk12 ffc fsh frr ftc fht y_nw y_nk y_nt y_nr y_nm y_ns y_nl y_nc y_np y_ntr y_nb y_nso y_nsi y_nit y_nsh y_nsf y_nss y_nrc H locs ls ki hC hK hO hX hL hbl hbA hA hA2 hki hf0 hf1 hf2 hf3 hf4 hf5 hf6 hf7 hf8 hf9 hf10 hf11 hf12 i_kbpersons i_kbpapers i_kbstamps i_kbversions i_kblines i_kbsteps i_kbsayings i_kbfindings i_kbwarnings i_kbquestions i_kcpersons i_kcpapers i_kcstamps i_kcversions i_kclines i_kcsteps i_kcsayings i_kcfindings i_kcwarnings i_kcquestions i_kt i_ks i_kn i_kln i_ksp i_jr i_kr i_ytp i_yrm i_yjr i_tp i_cl i_tol i_ikp i_nw i_vw i_nk i_vk i_mb i_b6 i_sz i_sh i_sl i_sp i_sq i_sc i_sk i_epersons i_epapers i_estamps i_esayings i_efindings i_ewarnings i_equestions i_kpersons i_kpapers i_kstamps i_ksayings i_kfindings i_kwarnings i_kquestions hback hP hD hS hl
  refine Kan8 hC (fun hx hb hr hml hB hown hlocks hnm => ?_)
  refine lv_aload_n hx hb dL_law_1570 rfl (lv_at2 hl) ?_
  refine lv_aload_n hx hb dL_law_1571 rfl (lv_at3 hl) ?_
  refine lv_iload_n hx hb dL_law_1572 rfl (lv_at0 hl) ?_
  refine lv_iconst (v := 1) hx hb dL_law_1573 (by decide) ?_
  refine lv_iadd hx hb dL_law_1574 ?_
  refine eqi (x1 := nI (ki + 1)) (nI_add ki 1) ?_
  refine va_sld hx hb hX hbl hbA hS (lw_in hL hki (by decide)) dL_law_1575 ?_
  refine eqi (x1 := xs (ki + 1)) (congrArg xs (lw_cl hL hki (by decide))) ?_
  refine lv_aload_n hx hb dL_law_1576 rfl (lv_at3 hl) ?_
  refine lv_iload_n hx hb dL_law_1577 rfl (lv_at0 hl) ?_
  refine lv_iconst (v := 2) hx hb dL_law_1578 (by decide) ?_
  refine lv_iadd hx hb dL_law_1579 ?_
  refine eqi (x1 := nI (ki + 2)) (nI_add ki 2) ?_
  refine va_sld hx hb hX hbl hbA hS (lw_in hL hki (by decide)) dL_law_1580 ?_
  refine eqi (x1 := xs (ki + 2)) (congrArg xs (lw_cl hL hki (by decide))) ?_
  refine lk_iVo hO hC hK hl hP hD hS hA (p_taken l G K xb (xs (ki + 1)) (xs (ki + 2)) bb cc ikp sg do9 ru9 ta9 tp9 ro9 ho9 de9 bpersons bpapers bstamps bversions blines bsteps bsayings bfindings bwarnings bquestions td vd vl gp bpapersc kbpapers fbpapers bsayingsc kbsayings fbsayings bfindingsc kbfindings fbfindings hs hz hi hw hn ht fhw fhn fht tr9 jr dk dn dp da dq (i_kbpapers) (i_kbsayings) (i_kbfindings)) si_L_168 [0, 1, 4, 5, 14, 15, 16, 17, 49, 50, 51, 102, 52] [0, 1, 2, 3, 4, 5, 6, 7, 8, 9, 10, 12, 11] [true, true, false, false, true, true, false, false, false, false, false, false, false, false, true, true, true, true, false, false, false, false, false, false, false, false, false, false, false, false, false, false, false, false, false, false, false, false, false, false, false, false, false, false, false, false, false, false, false, true, true, true, true, false, false, false, false, false, false, false, false, false, false, false, false, false, false, false, false, false, false, false, false, false, false, false, false, false, false, false, false, false, false, false, false, false, false, false, false, false, false, false, false, false, false, false, false, false, false, false, false, false, true, false, false, false, false, false, false, false, false, false, false, false, false, false, false, false, false, false, false, false, false] rfl rfl (by decide +kernel) (by decide +kernel) rfl rfl rfl rfl rfl (Nat.le_of_ble_eq_true rfl) ⟨Nat.le_of_ble_eq_true rfl, Nat.le_of_ble_eq_true rfl⟩ ⟨by first | exact Nat.le_of_ble_eq_true rfl | omega, by first | exact Nat.le_of_ble_eq_true rfl | omega⟩ dL_law_1581 (fun r9950 u9951 H locs hr9950 hP2 hS => ?_)
  obtain ⟨dk19952, dn19953, dp19954, da19955⟩ := u9951
  try dsimp only at hr9950
  refine Kpdr (ws := (WLW G K hf xb bb cc sg do9 ru9 ta9 tp9 ro9 ho9 de9 bpersons bpapers bstamps bversions blines bsteps bsayings bfindings bwarnings bquestions bpersonsc bpapersc bstampsc bversionsc blinesc bstepsc bsayingsc bfindingsc bwarningsc bquestionsc cpersons cpapers cstamps cversions clines csteps csayings cfindings cwarnings cquestions cpersonsc cpapersc cstampsc cversionsc clinesc cstepsc csayingsc cfindingsc cwarningsc cquestionsc tby tln tsp tlnc tspc hs hz hi hw hn ht tr9 clk fi la ml mm sl sm clm hd kc0 km0 kc1 km1 kc2 km2 kc3 km3 kc4 km4 kc5 km5 kc6 km6 kc7 km7 kc8 km8 kc9 km9 kc10 km10 kc11 km11 kc12 km12 fc sh rr tc rrc xm nw nk nt nr nm ns nl nc nF np ntr nb nso nsi nit nsh nsf nss nrc kbpersons kbpapers kbstamps kbversions kblines kbsteps kbsayings kbfindings kbwarnings kbquestions kcpersons kcpapers kcstamps kcversions kclines kcsteps kcsayings kcfindings kcwarnings kcquestions kt ks kn kln ksp jr kr ytp yrm yjr ikp td vd vl gp ktd kvd kvl kgp tkd tf9 dk19952 dn19953 dp19954 da19955 dq cl bo le bi r1 rc rh tf tt9 tl tbv asd st9 tol mroundOf mroundFrom mfromHour mtoHour mfrom mto msort misFault mdeep mcoded mlines mbestCost mdealer mnumber mwhose msize misParted fbpersons fbpapers fbstamps fbversions fblines fbsteps fbsayings fbfindings fbwarnings fbquestions fcpersons fcpapers fcstamps fcversions fclines fcsteps fcsayings fcfindings fcwarnings fcquestions fby ftln ftsp fhw fhn ftr fhs fhz fhi fclm ffi fla fml fmm fsl fsm fk0 fk1 fk2 fk3 fk4 fk5 fk6 fk7 fk8 fk9 fk10 fk11 fk12 ffc fsh frr ftc fht y_nw y_nk y_nt y_nr y_nm y_ns y_nl y_nc y_np y_ntr y_nb y_nso y_nsi y_nit y_nsh y_nsf y_nss y_nrc)) hP2 (lk_D hD rfl) (fun hP hD => ?_)
  obtain rfl := hr9950
  refine lv_pop hx hb dL_law_1584 rfl ?_
  refine lv_aload_n hx hb dL_law_1585 rfl (lv_at1 hl) ?_
  refine lv_aload_n hx hb dL_law_1586 rfl (lv_at3 hl) ?_
  refine lv_iload_n hx hb dL_law_1587 rfl (lv_at0 hl) ?_
  refine lv_iconst (v := 1) hx hb dL_law_1588 (by decide) ?_
  refine lv_iadd hx hb dL_law_1589 ?_
  refine eqi (x1 := nI (ki + 1)) (nI_add ki 1) ?_
  refine va_sld hx hb hX hbl hbA hS (lw_in hL hki (by decide)) dL_law_1590 ?_
  refine eqi (x1 := xs (ki + 1)) (congrArg xs (lw_cl hL hki (by decide))) ?_
  refine lv_aload_n hx hb dL_law_1591 rfl (lv_at3 hl) ?_
  refine lv_iload_n hx hb dL_law_1592 rfl (lv_at0 hl) ?_
  refine lv_iconst (v := 2) hx hb dL_law_1593 (by decide) ?_
  refine lv_iadd hx hb dL_law_1594 ?_
  refine eqi (x1 := nI (ki + 2)) (nI_add ki 2) ?_
  refine va_sld hx hb hX hbl hbA hS (lw_in hL hki (by decide)) dL_law_1595 ?_
  refine eqi (x1 := xs (ki + 2)) (congrArg xs (lw_cl hL hki (by decide))) ?_
  refine pV hC hK hl hP hD (r_taken l G kbpapers kbsayings kbfindings xm (xs (ki + 1)) (xs (ki + 2)) nw nk ikp nt (nI ytp) nr (nI yrm) mroundOf mroundFrom 0 nm mfromHour mtoHour ns mfrom mto msort misFault mdeep mcoded mlines nl nc nF np ntr nb mbestCost nso nsi nit nsh nsf nss nrc (nI yjr) mdealer mnumber mwhose msize misParted y_nw y_nsh y_nsf y_nss (i_sc.2.2.2.2.2.1) (i_kbpapers) (i_sc.2.2.2.2.2.2.2.1) (i_kbsayings) (i_sc.2.2.2.2.2.2.2.2.1) (i_kbfindings) (i_nw)) si_L_171 [103, 104, 118, 119, 120] sm_103_104_118_119_120 fm_103_104_118_119_120 nd_103_104_118_119_120 rfl rfl rfl rfl rfl (Nat.le_of_ble_eq_true rfl) ⟨Nat.le_of_ble_eq_true rfl, Nat.le_of_ble_eq_true rfl⟩ ⟨by first | exact Nat.le_of_ble_eq_true rfl | exact Nat.zero_le _, by first | exact Nat.le_of_ble_eq_true rfl | exact Nat.zero_le _⟩ dL_law_1596 (Keqr ?_)
  refine lv_pop hx hb dL_law_1599 rfl ?_
  refine lv_goto (tgt := 1718) hx hb dL_law_1600 (by decide) ?_
  exact hback kbpersons kbpapers kbstamps kbversions kblines kbsteps kbsayings kbfindings kbwarnings kbquestions kcpersons kcpapers kcstamps kcversions kclines kcsteps kcsayings kcfindings kcwarnings kcquestions kt ks kn kln ksp jr kr ytp yrm yjr ikp td vd vl gp ktd kvd kvl kgp tkd tf9 dk19952 dn19953 dp19954 da19955 dq cl bo le bi r1 rc rh tf tt9 tl tbv asd st9 tol mroundOf mroundFrom mfromHour mtoHour mfrom mto msort misFault mdeep mcoded mlines mbestCost mdealer mnumber mwhose msize misParted fbpersons fbpapers fbstamps fbversions fblines fbsteps fbsayings fbfindings fbwarnings fbquestions fcpersons fcpapers fcstamps fcversions fclines fcsteps fcsayings fcfindings fcwarnings fcquestions fby ftln ftsp fhw fhn ftr fhs fhz fhi fclm ffi fla fml fmm fsl fsm fk0 fk1 fk2 fk3 fk4 fk5 fk6 fk7 fk8 fk9 fk10 fk11 fk12 ffc fsh frr ftc fht y_nw y_nk y_nt y_nr y_nm y_ns y_nl y_nc y_np y_ntr y_nb y_nso y_nsi y_nit y_nsh y_nsf y_nss y_nrc H locs ls i_kbpersons i_kbpapers i_kbstamps i_kbversions i_kblines i_kbsteps i_kbsayings i_kbfindings i_kbwarnings i_kbquestions i_kcpersons i_kcpapers i_kcstamps i_kcversions i_kclines i_kcsteps i_kcsayings i_kcfindings i_kcwarnings i_kcquestions i_kt i_ks i_kn i_kln i_ksp i_jr i_kr i_ytp i_yrm i_yjr i_tp i_cl i_tol i_ikp i_nw i_vw i_nk i_vk i_mb i_b6 i_sz i_sh i_sl i_sp i_sq i_sc i_sk i_epersons i_epapers i_estamps i_esayings i_efindings i_ewarnings i_equestions i_kpersons i_kpapers i_kstamps i_ksayings i_kfindings i_kwarnings i_kquestions hP hD hS (lv_sub hl [0, 1, 2, 3] rfl)
set_option maxHeartbeats 8000000 in
set_option maxRecDepth 100000 in
theorem law_37 : LAWC 1603 := by
  intro p l e s m below meth c b L xs G K A hf xb bb cc sg do9 ru9 ta9 tp9 ro9 ho9 de9 bpersons bpapers bstamps bversions blines bsteps bsayings bfindings bwarnings bquestions bpersonsc bpapersc bstampsc bversionsc blinesc bstepsc bsayingsc bfindingsc bwarningsc bquestionsc cpersons cpapers cstamps cversions clines csteps csayings cfindings cwarnings cquestions cpersonsc cpapersc cstampsc cversionsc clinesc cstepsc csayingsc cfindingsc cwarningsc cquestionsc tby tln tsp tlnc tspc hs hz hi hw hn ht tr9 clk fi la ml mm sl sm clm hd kc0 km0 kc1 km1 kc2 km2 kc3 km3 kc4 km4 kc5 km5 kc6 km6 kc7 km7 kc8 km8 kc9 km9 kc10 km10 kc11 km11 kc12 km12 fc sh rr tc rrc xm nw nk nt nr nm ns nl nc nF np ntr nb nso nsi nit nsh nsf nss nrc kbpersons kbpapers kbstamps kbversions kblines kbsteps kbsayings kbfindings kbwarnings kbquestions kcpersons kcpapers kcstamps kcversions kclines kcsteps kcsayings kcfindings kcwarnings kcquestions kt ks kn kln ksp jr kr ytp yrm yjr ikp td vd vl gp ktd kvd kvl kgp tkd tf9 dk dn dp da dq cl bo le bi r1 rc rh tf tt9 tl tbv asd st9 tol mroundOf mroundFrom mfromHour mtoHour mfrom mto msort misFault mdeep mcoded mlines mbestCost mdealer mnumber mwhose msize misParted fbpersons fbpapers fbstamps fbversions fblines fbsteps fbsayings fbfindings fbwarnings fbquestions fcpersons fcpapers fcstamps fcversions fclines fcsteps fcsayings fcfindings fcwarnings fcquestions fby ftln ftsp fhw fhn ftr fhs fhz fhi fclm ffi fla fml fmm fsl fsm fk0 fk1 fk2 fk3 fk4 fk5 fk6 fk7 fk8 fk9 fk10 fk11 fk12 ffc fsh frr ftc fht y_nw y_nk y_nt y_nr y_nm y_ns y_nl y_nc y_np y_ntr y_nb y_nso y_nsi y_nit y_nsh y_nsf y_nss y_nrc H locs ls ki hC hK hO hX hL hbl hbA hA hA2 hki hf0 hf1 hf2 hf3 hf4 hf5 hf6 hf7 hf8 hf9 hf10 hf11 hf12 i_kbpersons i_kbpapers i_kbstamps i_kbversions i_kblines i_kbsteps i_kbsayings i_kbfindings i_kbwarnings i_kbquestions i_kcpersons i_kcpapers i_kcstamps i_kcversions i_kclines i_kcsteps i_kcsayings i_kcfindings i_kcwarnings i_kcquestions i_kt i_ks i_kn i_kln i_ksp i_jr i_kr i_ytp i_yrm i_yjr i_tp i_cl i_tol i_ikp i_nw i_vw i_nk i_vk i_mb i_b6 i_sz i_sh i_sl i_sp i_sq i_sc i_sk i_epersons i_epapers i_estamps i_esayings i_efindings i_ewarnings i_equestions i_kpersons i_kpapers i_kstamps i_ksayings i_kfindings i_kwarnings i_kquestions hback hP hD hS hl
  refine Kan8 hC (fun hx hb hr hml hB hown hlocks hnm => ?_)
  refine lv_aload_n hx hb dL_law_1603 rfl (lv_at2 hl) ?_
  refine lv_aload_n hx hb dL_law_1604 rfl (lv_at3 hl) ?_
  refine lv_iload_n hx hb dL_law_1605 rfl (lv_at0 hl) ?_
  refine lv_iconst (v := 1) hx hb dL_law_1606 (by decide) ?_
  refine lv_iadd hx hb dL_law_1607 ?_
  refine eqi (x1 := nI (ki + 1)) (nI_add ki 1) ?_
  refine va_sld hx hb hX hbl hbA hS (lw_in hL hki (by decide)) dL_law_1608 ?_
  refine eqi (x1 := xs (ki + 1)) (congrArg xs (lw_cl hL hki (by decide))) ?_
  refine lv_aload_n hx hb dL_law_1609 rfl (lv_at3 hl) ?_
  refine lv_iload_n hx hb dL_law_1610 rfl (lv_at0 hl) ?_
  refine lv_iconst (v := 2) hx hb dL_law_1611 (by decide) ?_
  refine lv_iadd hx hb dL_law_1612 ?_
  refine eqi (x1 := nI (ki + 2)) (nI_add ki 2) ?_
  refine va_sld hx hb hX hbl hbA hS (lw_in hL hki (by decide)) dL_law_1613 ?_
  refine eqi (x1 := xs (ki + 2)) (congrArg xs (lw_cl hL hki (by decide))) ?_
  refine lv_aload_n hx hb dL_law_1614 rfl (lv_at3 hl) ?_
  refine lv_iload_n hx hb dL_law_1615 rfl (lv_at0 hl) ?_
  refine lv_iconst (v := 3) hx hb dL_law_1616 (by decide) ?_
  refine lv_iadd hx hb dL_law_1617 ?_
  refine eqi (x1 := nI (ki + 3)) (nI_add ki 3) ?_
  refine va_sld hx hb hX hbl hbA hS (lw_in hL hki (by decide)) dL_law_1618 ?_
  refine eqi (x1 := xs (ki + 3)) (congrArg xs (lw_cl hL hki (by decide))) ?_
  refine lk_iVo hO hC hK hl hP hD hS hA (p_deal l G K xb (xs (ki + 1)) (xs (ki + 2)) (xs (ki + 3)) bb cc ikp sg do9 ru9 ta9 tp9 ro9 ho9 de9 bpersons bpapers bstamps bversions blines bsteps bsayings bfindings bwarnings bquestions td vd vl gp bpapersc kbpapers fbpapers bsayingsc kbsayings fbsayings bfindingsc kbfindings fbfindings hs hz hi hw hn ht fhw fhn tr9 jr dk dn dp da dq ftr (i_kbpapers) (i_kbsayings) (i_kbfindings) (i_jr)) si_L_172 [0, 1, 4, 5, 14, 15, 16, 17, 49, 50, 51, 52, 53] [0, 1, 2, 3, 4, 5, 6, 7, 8, 9, 10, 11, 12] [true, true, false, false, true, true, false, false, false, false, false, false, false, false, true, true, true, true, false, false, false, false, false, false, false, false, false, false, false, false, false, false, false, false, false, false, false, false, false, false, false, false, false, false, false, false, false, false, false, true, true, true, true, true, false, false, false, false, false, false, false, false, false, false, false, false, false, false, false, false, false, false, false, false, false, false, false, false, false, false, false, false, false, false, false, false, false, false, false, false, false, false, false, false, false, false, false, false, false, false, false, false, false, false, false, false, false, false, false, false, false, false, false, false, false, false, false, false, false, false, false, false, false] rfl rfl (by decide +kernel) (by decide +kernel) rfl rfl rfl rfl rfl (Nat.le_of_ble_eq_true rfl) ⟨Nat.le_of_ble_eq_true rfl, Nat.le_of_ble_eq_true rfl⟩ ⟨by first | exact Nat.le_of_ble_eq_true rfl | omega, by first | exact Nat.le_of_ble_eq_true rfl | omega⟩ dL_law_1619 (fun r9959 u9960 H locs hr9959 hP2 hS => ?_)
  obtain ⟨dk19961, dn19962, dp19963, da19964, jr19965, gtr9966, dq19967⟩ := u9960
  try dsimp only at hr9959
  refine Kpdr (ws := (WLW G K hf xb bb cc sg do9 ru9 ta9 tp9 ro9 ho9 de9 bpersons bpapers bstamps bversions blines bsteps bsayings bfindings bwarnings bquestions bpersonsc bpapersc bstampsc bversionsc blinesc bstepsc bsayingsc bfindingsc bwarningsc bquestionsc cpersons cpapers cstamps cversions clines csteps csayings cfindings cwarnings cquestions cpersonsc cpapersc cstampsc cversionsc clinesc cstepsc csayingsc cfindingsc cwarningsc cquestionsc tby tln tsp tlnc tspc hs hz hi hw hn ht tr9 clk fi la ml mm sl sm clm hd kc0 km0 kc1 km1 kc2 km2 kc3 km3 kc4 km4 kc5 km5 kc6 km6 kc7 km7 kc8 km8 kc9 km9 kc10 km10 kc11 km11 kc12 km12 fc sh rr tc rrc xm nw nk nt nr nm ns nl nc nF np ntr nb nso nsi nit nsh nsf nss nrc kbpersons kbpapers kbstamps kbversions kblines kbsteps kbsayings kbfindings kbwarnings kbquestions kcpersons kcpapers kcstamps kcversions kclines kcsteps kcsayings kcfindings kcwarnings kcquestions kt ks kn kln ksp jr19965 kr ytp yrm yjr ikp td vd vl gp ktd kvd kvl kgp tkd tf9 dk19961 dn19962 dp19963 da19964 dq19967 cl bo le bi r1 rc rh tf tt9 tl tbv asd st9 tol mroundOf mroundFrom mfromHour mtoHour mfrom mto msort misFault mdeep mcoded mlines mbestCost mdealer mnumber mwhose msize misParted fbpersons fbpapers fbstamps fbversions fblines fbsteps fbsayings fbfindings fbwarnings fbquestions fcpersons fcpapers fcstamps fcversions fclines fcsteps fcsayings fcfindings fcwarnings fcquestions fby ftln ftsp fhw fhn gtr9966 fhs fhz fhi fclm ffi fla fml fmm fsl fsm fk0 fk1 fk2 fk3 fk4 fk5 fk6 fk7 fk8 fk9 fk10 fk11 fk12 ffc fsh frr ftc fht y_nw y_nk y_nt y_nr y_nm y_ns y_nl y_nc y_np y_ntr y_nb y_nso y_nsi y_nit y_nsh y_nsf y_nss y_nrc)) hP2 (lk_D hD rfl) (fun hP hD => ?_)
  obtain ⟨hr9959, w9968⟩ := hr9959
  refine lv_pop hx hb dL_law_1622 rfl ?_
  refine lv_aload_n hx hb dL_law_1623 rfl (lv_at1 hl) ?_
  refine lv_aload_n hx hb dL_law_1624 rfl (lv_at3 hl) ?_
  refine lv_iload_n hx hb dL_law_1625 rfl (lv_at0 hl) ?_
  refine lv_iconst (v := 1) hx hb dL_law_1626 (by decide) ?_
  refine lv_iadd hx hb dL_law_1627 ?_
  refine eqi (x1 := nI (ki + 1)) (nI_add ki 1) ?_
  refine va_sld hx hb hX hbl hbA hS (lw_in hL hki (by decide)) dL_law_1628 ?_
  refine eqi (x1 := xs (ki + 1)) (congrArg xs (lw_cl hL hki (by decide))) ?_
  refine lv_aload_n hx hb dL_law_1629 rfl (lv_at3 hl) ?_
  refine lv_iload_n hx hb dL_law_1630 rfl (lv_at0 hl) ?_
  refine lv_iconst (v := 2) hx hb dL_law_1631 (by decide) ?_
  refine lv_iadd hx hb dL_law_1632 ?_
  refine eqi (x1 := nI (ki + 2)) (nI_add ki 2) ?_
  refine va_sld hx hb hX hbl hbA hS (lw_in hL hki (by decide)) dL_law_1633 ?_
  refine eqi (x1 := xs (ki + 2)) (congrArg xs (lw_cl hL hki (by decide))) ?_
  refine lv_aload_n hx hb dL_law_1634 rfl (lv_at3 hl) ?_
  refine lv_iload_n hx hb dL_law_1635 rfl (lv_at0 hl) ?_
  refine lv_iconst (v := 3) hx hb dL_law_1636 (by decide) ?_
  refine lv_iadd hx hb dL_law_1637 ?_
  refine eqi (x1 := nI (ki + 3)) (nI_add ki 3) ?_
  refine va_sld hx hb hX hbl hbA hS (lw_in hL hki (by decide)) dL_law_1638 ?_
  refine eqi (x1 := xs (ki + 3)) (congrArg xs (lw_cl hL hki (by decide))) ?_
  refine lk_iV hC hK hl hP hD hS hA (w_deal l G xm (xs (ki + 1)) (xs (ki + 2)) (xs (ki + 3)) nw nk ikp nt (nI ytp) nr (nI yrm) mroundOf mroundFrom 0 nm mfromHour mtoHour ns mfrom mto msort misFault mdeep mcoded mlines nl nc nF np ntr nb mbestCost nso nsi nit nsh nsf nss nrc (nI yjr) mdealer mnumber mwhose msize misParted y_nw y_nsh y_nsf y_nrc (i_nw)) si_L_175 [103, 104, 118, 119, 121] [0, 1, 2, 3, 4] [false, false, false, false, false, false, false, false, false, false, false, false, false, false, false, false, false, false, false, false, false, false, false, false, false, false, false, false, false, false, false, false, false, false, false, false, false, false, false, false, false, false, false, false, false, false, false, false, false, false, false, false, false, false, false, false, false, false, false, false, false, false, false, false, false, false, false, false, false, false, false, false, false, false, false, false, false, false, false, false, false, false, false, false, false, false, false, false, false, false, false, false, false, false, false, false, false, false, false, false, false, false, false, true, true, false, false, false, false, false, false, false, false, false, false, false, false, false, true, true, false, true, false] rfl rfl (by decide +kernel) (by decide +kernel) rfl rfl rfl rfl rfl (Nat.le_of_ble_eq_true rfl) ⟨Nat.le_of_ble_eq_true rfl, Nat.le_of_ble_eq_true rfl⟩ ⟨by first | exact Nat.le_of_ble_eq_true rfl | omega, by first | exact Nat.le_of_ble_eq_true rfl | omega⟩ dL_law_1639 (fun r9969 => Ktu7 fun jr19971 dl19972 nu19973 wh19974 sz19975 ip19976 gtrc9977 => ?_)
  intro H locs hr9969 hP2 hS
  try dsimp only at hr9969
  refine Kpdr (ws := (WLW G K hf xb bb cc sg do9 ru9 ta9 tp9 ro9 ho9 de9 bpersons bpapers bstamps bversions blines bsteps bsayings bfindings bwarnings bquestions bpersonsc bpapersc bstampsc bversionsc blinesc bstepsc bsayingsc bfindingsc bwarningsc bquestionsc cpersons cpapers cstamps cversions clines csteps csayings cfindings cwarnings cquestions cpersonsc cpapersc cstampsc cversionsc clinesc cstepsc csayingsc cfindingsc cwarningsc cquestionsc tby tln tsp tlnc tspc hs hz hi hw hn ht tr9 clk fi la ml mm sl sm clm hd kc0 km0 kc1 km1 kc2 km2 kc3 km3 kc4 km4 kc5 km5 kc6 km6 kc7 km7 kc8 km8 kc9 km9 kc10 km10 kc11 km11 kc12 km12 fc sh rr tc rrc xm nw nk nt nr nm ns nl nc nF np ntr nb nso nsi nit nsh nsf nss nrc kbpersons kbpapers kbstamps kbversions kblines kbsteps kbsayings kbfindings kbwarnings kbquestions kcpersons kcpapers kcstamps kcversions kclines kcsteps kcsayings kcfindings kcwarnings kcquestions kt ks kn kln ksp jr19965 kr ytp yrm jr19971 ikp td vd vl gp ktd kvd kvl kgp tkd tf9 dk19961 dn19962 dp19963 da19964 dq19967 cl bo le bi r1 rc rh tf tt9 tl tbv asd st9 tol mroundOf mroundFrom mfromHour mtoHour mfrom mto msort misFault mdeep mcoded mlines mbestCost dl19972 nu19973 wh19974 sz19975 ip19976 fbpersons fbpapers fbstamps fbversions fblines fbsteps fbsayings fbfindings fbwarnings fbquestions fcpersons fcpapers fcstamps fcversions fclines fcsteps fcsayings fcfindings fcwarnings fcquestions fby ftln ftsp fhw fhn gtr9966 fhs fhz fhi fclm ffi fla fml fmm fsl fsm fk0 fk1 fk2 fk3 fk4 fk5 fk6 fk7 fk8 fk9 fk10 fk11 fk12 ffc fsh frr ftc fht y_nw y_nk y_nt y_nr y_nm y_ns y_nl y_nc y_np y_ntr y_nb y_nso y_nsi y_nit y_nsh y_nsf y_nss gtrc9977)) hP2 (lk_D hD rfl) (fun hP hD => ?_)
  obtain ⟨hr9969, w9978⟩ := hr9969
  refine lv_pop hx hb dL_law_1642 rfl ?_
  refine lv_goto (tgt := 1718) hx hb dL_law_1643 (by decide) ?_
  exact hback kbpersons kbpapers kbstamps kbversions kblines kbsteps kbsayings kbfindings kbwarnings kbquestions kcpersons kcpapers kcstamps kcversions kclines kcsteps kcsayings kcfindings kcwarnings kcquestions kt ks kn kln ksp jr19965 kr ytp yrm jr19971 ikp td vd vl gp ktd kvd kvl kgp tkd tf9 dk19961 dn19962 dp19963 da19964 dq19967 cl bo le bi r1 rc rh tf tt9 tl tbv asd st9 tol mroundOf mroundFrom mfromHour mtoHour mfrom mto msort misFault mdeep mcoded mlines mbestCost dl19972 nu19973 wh19974 sz19975 ip19976 fbpersons fbpapers fbstamps fbversions fblines fbsteps fbsayings fbfindings fbwarnings fbquestions fcpersons fcpapers fcstamps fcversions fclines fcsteps fcsayings fcfindings fcwarnings fcquestions fby ftln ftsp fhw fhn gtr9966 fhs fhz fhi fclm ffi fla fml fmm fsl fsm fk0 fk1 fk2 fk3 fk4 fk5 fk6 fk7 fk8 fk9 fk10 fk11 fk12 ffc fsh frr ftc fht y_nw y_nk y_nt y_nr y_nm y_ns y_nl y_nc y_np y_ntr y_nb y_nso y_nsi y_nit y_nsh y_nsf y_nss gtrc9977 H locs ls i_kbpersons i_kbpapers i_kbstamps i_kbversions i_kblines i_kbsteps i_kbsayings i_kbfindings i_kbwarnings i_kbquestions i_kcpersons i_kcpapers i_kcstamps i_kcversions i_kclines i_kcsteps i_kcsayings i_kcfindings i_kcwarnings i_kcquestions i_kt i_ks i_kn i_kln i_ksp (by first | assumption | omega | exact Or.inl rfl | exact Or.inr rfl) i_kr i_ytp i_yrm (by first | assumption | omega | exact Or.inl rfl | exact Or.inr rfl) i_tp i_cl i_tol i_ikp i_nw i_vw i_nk i_vk i_mb i_b6 i_sz i_sh i_sl i_sp i_sq i_sc i_sk i_epersons i_epapers i_estamps i_esayings i_efindings i_ewarnings i_equestions i_kpersons i_kpapers i_kstamps i_ksayings i_kfindings i_kwarnings i_kquestions hP hD hS (lv_sub hl [0, 1, 2, 3] rfl)
set_option maxHeartbeats 8000000 in
set_option maxRecDepth 100000 in
theorem law_38 : LAWC 1646 := by
  intro p l e s m below meth c b L xs G K A hf xb bb cc sg do9 ru9 ta9 tp9 ro9 ho9 de9 bpersons bpapers bstamps bversions blines bsteps bsayings bfindings bwarnings bquestions bpersonsc bpapersc bstampsc bversionsc blinesc bstepsc bsayingsc bfindingsc bwarningsc bquestionsc cpersons cpapers cstamps cversions clines csteps csayings cfindings cwarnings cquestions cpersonsc cpapersc cstampsc cversionsc clinesc cstepsc csayingsc cfindingsc cwarningsc cquestionsc tby tln tsp tlnc tspc hs hz hi hw hn ht tr9 clk fi la ml mm sl sm clm hd kc0 km0 kc1 km1 kc2 km2 kc3 km3 kc4 km4 kc5 km5 kc6 km6 kc7 km7 kc8 km8 kc9 km9 kc10 km10 kc11 km11 kc12 km12 fc sh rr tc rrc xm nw nk nt nr nm ns nl nc nF np ntr nb nso nsi nit nsh nsf nss nrc kbpersons kbpapers kbstamps kbversions kblines kbsteps kbsayings kbfindings kbwarnings kbquestions kcpersons kcpapers kcstamps kcversions kclines kcsteps kcsayings kcfindings kcwarnings kcquestions kt ks kn kln ksp jr kr ytp yrm yjr ikp td vd vl gp ktd kvd kvl kgp tkd tf9 dk dn dp da dq cl bo le bi r1 rc rh tf tt9 tl tbv asd st9 tol mroundOf mroundFrom mfromHour mtoHour mfrom mto msort misFault mdeep mcoded mlines mbestCost mdealer mnumber mwhose msize misParted fbpersons fbpapers fbstamps fbversions fblines fbsteps fbsayings fbfindings fbwarnings fbquestions fcpersons fcpapers fcstamps fcversions fclines fcsteps fcsayings fcfindings fcwarnings fcquestions fby ftln ftsp fhw fhn ftr fhs fhz fhi fclm ffi fla fml fmm fsl fsm fk0 fk1 fk2 fk3 fk4 fk5 fk6 fk7 fk8 fk9 fk10 fk11 fk12 ffc fsh frr ftc fht y_nw y_nk y_nt y_nr y_nm y_ns y_nl y_nc y_np y_ntr y_nb y_nso y_nsi y_nit y_nsh y_nsf y_nss y_nrc H locs ls ki hC hK hO hX hL hbl hbA hA hA2 hki hf0 hf1 hf2 hf3 hf4 hf5 hf6 hf7 hf8 hf9 hf10 hf11 hf12 i_kbpersons i_kbpapers i_kbstamps i_kbversions i_kblines i_kbsteps i_kbsayings i_kbfindings i_kbwarnings i_kbquestions i_kcpersons i_kcpapers i_kcstamps i_kcversions i_kclines i_kcsteps i_kcsayings i_kcfindings i_kcwarnings i_kcquestions i_kt i_ks i_kn i_kln i_ksp i_jr i_kr i_ytp i_yrm i_yjr i_tp i_cl i_tol i_ikp i_nw i_vw i_nk i_vk i_mb i_b6 i_sz i_sh i_sl i_sp i_sq i_sc i_sk i_epersons i_epapers i_estamps i_esayings i_efindings i_ewarnings i_equestions i_kpersons i_kpapers i_kstamps i_ksayings i_kfindings i_kwarnings i_kquestions hback hP hD hS hl
  refine Kan8 hC (fun hx hb hr hml hB hown hlocks hnm => ?_)
  refine lv_aload_n hx hb dL_law_1646 rfl (lv_at2 hl) ?_
  refine lv_aload_n hx hb dL_law_1647 rfl (lv_at3 hl) ?_
  refine lv_iload_n hx hb dL_law_1648 rfl (lv_at0 hl) ?_
  refine lv_iconst (v := 1) hx hb dL_law_1649 (by decide) ?_
  refine lv_iadd hx hb dL_law_1650 ?_
  refine eqi (x1 := nI (ki + 1)) (nI_add ki 1) ?_
  refine va_sld hx hb hX hbl hbA hS (lw_in hL hki (by decide)) dL_law_1651 ?_
  refine eqi (x1 := xs (ki + 1)) (congrArg xs (lw_cl hL hki (by decide))) ?_
  refine pV hC hK hl hP hD (p_trace l G xb (xs (ki + 1)) bb cc ikp sg do9 ru9 ta9 tp9 ro9 ho9 de9 tr9 jr dk dn dp da dq ftr (i_jr)) si_L_176 [0, 52, 53] sm_0_52_53 fm_0_52_53 nd_0_52_53 rfl rfl rfl rfl rfl (Nat.le_of_ble_eq_true rfl) ⟨Nat.le_of_ble_eq_true rfl, Nat.le_of_ble_eq_true rfl⟩ ⟨by first | exact Nat.le_of_ble_eq_true rfl | exact Nat.zero_le _, by first | exact Nat.le_of_ble_eq_true rfl | exact Nat.zero_le _⟩ dL_law_1652 (Keqr ?_)
  refine lv_pop hx hb dL_law_1655 rfl ?_
  refine lv_aload_n hx hb dL_law_1656 rfl (lv_at1 hl) ?_
  refine lv_aload_n hx hb dL_law_1657 rfl (lv_at3 hl) ?_
  refine lv_iload_n hx hb dL_law_1658 rfl (lv_at0 hl) ?_
  refine lv_iconst (v := 1) hx hb dL_law_1659 (by decide) ?_
  refine lv_iadd hx hb dL_law_1660 ?_
  refine eqi (x1 := nI (ki + 1)) (nI_add ki 1) ?_
  refine va_sld hx hb hX hbl hbA hS (lw_in hL hki (by decide)) dL_law_1661 ?_
  refine eqi (x1 := xs (ki + 1)) (congrArg xs (lw_cl hL hki (by decide))) ?_
  refine pV hC hK hl hP hD (r_trace l G xm (xs (ki + 1)) nw nk ikp nt (nI ytp) nr (nI yrm) mroundOf mroundFrom 0 nm mfromHour mtoHour ns mfrom mto msort misFault mdeep mcoded mlines nl nc nF np ntr nb mbestCost nso nsi nit nsh nsf nss nrc yjr mdealer mnumber mwhose msize misParted y_nrc (i_yjr)) si_L_179 [103, 121] sm_103_121 fm_103_121 nd_103_121 rfl rfl rfl rfl rfl (Nat.le_of_ble_eq_true rfl) ⟨Nat.le_of_ble_eq_true rfl, Nat.le_of_ble_eq_true rfl⟩ ⟨by first | exact Nat.le_of_ble_eq_true rfl | exact Nat.zero_le _, by first | exact Nat.le_of_ble_eq_true rfl | exact Nat.zero_le _⟩ dL_law_1662 (Keqr ?_)
  refine lv_pop hx hb dL_law_1665 rfl ?_
  refine lv_goto (tgt := 1718) hx hb dL_law_1666 (by decide) ?_
  exact hback kbpersons kbpapers kbstamps kbversions kblines kbsteps kbsayings kbfindings kbwarnings kbquestions kcpersons kcpapers kcstamps kcversions kclines kcsteps kcsayings kcfindings kcwarnings kcquestions kt ks kn kln ksp jr kr ytp yrm yjr ikp td vd vl gp ktd kvd kvl kgp tkd tf9 dk dn dp da dq cl bo le bi r1 rc rh tf tt9 tl tbv asd st9 tol mroundOf mroundFrom mfromHour mtoHour mfrom mto msort misFault mdeep mcoded mlines mbestCost mdealer mnumber mwhose msize misParted fbpersons fbpapers fbstamps fbversions fblines fbsteps fbsayings fbfindings fbwarnings fbquestions fcpersons fcpapers fcstamps fcversions fclines fcsteps fcsayings fcfindings fcwarnings fcquestions fby ftln ftsp fhw fhn ftr fhs fhz fhi fclm ffi fla fml fmm fsl fsm fk0 fk1 fk2 fk3 fk4 fk5 fk6 fk7 fk8 fk9 fk10 fk11 fk12 ffc fsh frr ftc fht y_nw y_nk y_nt y_nr y_nm y_ns y_nl y_nc y_np y_ntr y_nb y_nso y_nsi y_nit y_nsh y_nsf y_nss y_nrc H locs ls i_kbpersons i_kbpapers i_kbstamps i_kbversions i_kblines i_kbsteps i_kbsayings i_kbfindings i_kbwarnings i_kbquestions i_kcpersons i_kcpapers i_kcstamps i_kcversions i_kclines i_kcsteps i_kcsayings i_kcfindings i_kcwarnings i_kcquestions i_kt i_ks i_kn i_kln i_ksp i_jr i_kr i_ytp i_yrm i_yjr i_tp i_cl i_tol i_ikp i_nw i_vw i_nk i_vk i_mb i_b6 i_sz i_sh i_sl i_sp i_sq i_sc i_sk i_epersons i_epapers i_estamps i_esayings i_efindings i_ewarnings i_equestions i_kpersons i_kpapers i_kstamps i_ksayings i_kfindings i_kwarnings i_kquestions hP hD hS (lv_sub hl [0, 1, 2, 3] rfl)
set_option maxHeartbeats 8000000 in
set_option maxRecDepth 100000 in
theorem law_39 : LAWC 1669 := by
  intro p l e s m below meth c b L xs G K A hf xb bb cc sg do9 ru9 ta9 tp9 ro9 ho9 de9 bpersons bpapers bstamps bversions blines bsteps bsayings bfindings bwarnings bquestions bpersonsc bpapersc bstampsc bversionsc blinesc bstepsc bsayingsc bfindingsc bwarningsc bquestionsc cpersons cpapers cstamps cversions clines csteps csayings cfindings cwarnings cquestions cpersonsc cpapersc cstampsc cversionsc clinesc cstepsc csayingsc cfindingsc cwarningsc cquestionsc tby tln tsp tlnc tspc hs hz hi hw hn ht tr9 clk fi la ml mm sl sm clm hd kc0 km0 kc1 km1 kc2 km2 kc3 km3 kc4 km4 kc5 km5 kc6 km6 kc7 km7 kc8 km8 kc9 km9 kc10 km10 kc11 km11 kc12 km12 fc sh rr tc rrc xm nw nk nt nr nm ns nl nc nF np ntr nb nso nsi nit nsh nsf nss nrc kbpersons kbpapers kbstamps kbversions kblines kbsteps kbsayings kbfindings kbwarnings kbquestions kcpersons kcpapers kcstamps kcversions kclines kcsteps kcsayings kcfindings kcwarnings kcquestions kt ks kn kln ksp jr kr ytp yrm yjr ikp td vd vl gp ktd kvd kvl kgp tkd tf9 dk dn dp da dq cl bo le bi r1 rc rh tf tt9 tl tbv asd st9 tol mroundOf mroundFrom mfromHour mtoHour mfrom mto msort misFault mdeep mcoded mlines mbestCost mdealer mnumber mwhose msize misParted fbpersons fbpapers fbstamps fbversions fblines fbsteps fbsayings fbfindings fbwarnings fbquestions fcpersons fcpapers fcstamps fcversions fclines fcsteps fcsayings fcfindings fcwarnings fcquestions fby ftln ftsp fhw fhn ftr fhs fhz fhi fclm ffi fla fml fmm fsl fsm fk0 fk1 fk2 fk3 fk4 fk5 fk6 fk7 fk8 fk9 fk10 fk11 fk12 ffc fsh frr ftc fht y_nw y_nk y_nt y_nr y_nm y_ns y_nl y_nc y_np y_ntr y_nb y_nso y_nsi y_nit y_nsh y_nsf y_nss y_nrc H locs ls ki hC hK hO hX hL hbl hbA hA hA2 hki hf0 hf1 hf2 hf3 hf4 hf5 hf6 hf7 hf8 hf9 hf10 hf11 hf12 i_kbpersons i_kbpapers i_kbstamps i_kbversions i_kblines i_kbsteps i_kbsayings i_kbfindings i_kbwarnings i_kbquestions i_kcpersons i_kcpapers i_kcstamps i_kcversions i_kclines i_kcsteps i_kcsayings i_kcfindings i_kcwarnings i_kcquestions i_kt i_ks i_kn i_kln i_ksp i_jr i_kr i_ytp i_yrm i_yjr i_tp i_cl i_tol i_ikp i_nw i_vw i_nk i_vk i_mb i_b6 i_sz i_sh i_sl i_sp i_sq i_sc i_sk i_epersons i_epapers i_estamps i_esayings i_efindings i_ewarnings i_equestions i_kpersons i_kpapers i_kstamps i_ksayings i_kfindings i_kwarnings i_kquestions hback hP hD hS hl
  refine Kan8 hC (fun hx hb hr hml hB hown hlocks hnm => ?_)
  refine lv_aload_n hx hb dL_law_1669 rfl (lv_at2 hl) ?_
  refine lv_aload_n hx hb dL_law_1670 rfl (lv_at3 hl) ?_
  refine lv_iload_n hx hb dL_law_1671 rfl (lv_at0 hl) ?_
  refine lv_iconst (v := 1) hx hb dL_law_1672 (by decide) ?_
  refine lv_iadd hx hb dL_law_1673 ?_
  refine eqi (x1 := nI (ki + 1)) (nI_add ki 1) ?_
  refine va_sld hx hb hX hbl hbA hS (lw_in hL hki (by decide)) dL_law_1674 ?_
  refine eqi (x1 := xs (ki + 1)) (congrArg xs (lw_cl hL hki (by decide))) ?_
  refine lk_iV hC hK hl hP hD hS hA (p_many l G xb (xs (ki + 1)) bb cc ikp sg do9 ru9 ta9 tp9 ro9 ho9 de9 clk fi la ml mm sl sm cl clm fclm ffi fla fml fmm fsl fsm fc sh r1 rc rh ffc fsh bpersons bpapers bstamps bversions blines bsteps bsayings bfindings bwarnings bquestions td vd vl gp bversionsc kbversions fbversions bpersonsc kbpersons fbpersons bpapersc kbpapers fbpapers blinesc kblines fblines bstepsc kbsteps fbsteps bstampsc kbstamps fbstamps bfindingsc kbfindings fbfindings bsayingsc kbsayings fbsayings bwarningsc kbwarnings bquestionsc kbquestions rr tc asd st9 tol rrc kr tby kt tln tsp tkd (nI ks) (nI kn) tf9 tr9 jr dk dn dp da dq (i_kbversions) (i_kbpersons) (i_kbpapers) (i_kblines) (i_kbsteps) (i_kbstamps) (i_kbfindings) (i_kbsayings) (i_cl)) si_L_180 [0, 57, 58, 59, 60, 61, 62, 63, 64, 65, 94, 95, 96, 1, 8, 9, 2, 3, 4, 5, 10, 11, 12, 13, 6, 7, 16, 17, 14, 15, 18, 20, 98, 99, 43, 52] [0, 13, 16, 17, 18, 19, 24, 25, 14, 15, 20, 21, 22, 23, 28, 29, 26, 27, 30, 31, 34, 35, 1, 2, 3, 4, 5, 6, 7, 8, 9, 10, 11, 12, 32, 33] [true, true, true, true, true, true, true, true, true, true, true, true, true, true, true, true, true, true, true, false, true, false, false, false, false, false, false, false, false, false, false, false, false, false, false, false, false, false, false, false, false, false, false, true, false, false, false, false, false, false, false, false, true, false, false, false, false, true, true, true, true, true, true, true, true, true, false, false, false, false, false, false, false, false, false, false, false, false, false, false, false, false, false, false, false, false, false, false, false, false, false, false, false, false, true, true, true, false, true, true, false, false, false, false, false, false, false, false, false, false, false, false, false, false, false, false, false, false, false, false, false, false, false] rfl rfl (by decide +kernel) (by decide +kernel) rfl rfl rfl rfl rfl (Nat.le_of_ble_eq_true rfl) ⟨Nat.le_of_ble_eq_true rfl, Nat.le_of_ble_eq_true rfl⟩ ⟨by first | exact Nat.le_of_ble_eq_true rfl | omega, by first | exact Nat.le_of_ble_eq_true rfl | omega⟩ dL_law_1675 (fun r9983 => Ktu13 fun cl19985 gclm9986 gfi9987 gla9988 gml9989 gmm9990 gsl9991 gsm9992 r119993 rc19994 rh19995 gfc9996 gsh9997 => ?_)
  intro H locs hr9983 hP2 hS
  try dsimp only at hr9983
  refine Kpdr (ws := (WLW G K hf xb bb cc sg do9 ru9 ta9 tp9 ro9 ho9 de9 bpersons bpapers bstamps bversions blines bsteps bsayings bfindings bwarnings bquestions bpersonsc bpapersc bstampsc bversionsc blinesc bstepsc bsayingsc bfindingsc bwarningsc bquestionsc cpersons cpapers cstamps cversions clines csteps csayings cfindings cwarnings cquestions cpersonsc cpapersc cstampsc cversionsc clinesc cstepsc csayingsc cfindingsc cwarningsc cquestionsc tby tln tsp tlnc tspc hs hz hi hw hn ht tr9 clk fi la ml mm sl sm clm hd kc0 km0 kc1 km1 kc2 km2 kc3 km3 kc4 km4 kc5 km5 kc6 km6 kc7 km7 kc8 km8 kc9 km9 kc10 km10 kc11 km11 kc12 km12 fc sh rr tc rrc xm nw nk nt nr nm ns nl nc nF np ntr nb nso nsi nit nsh nsf nss nrc kbpersons kbpapers kbstamps kbversions kblines kbsteps kbsayings kbfindings kbwarnings kbquestions kcpersons kcpapers kcstamps kcversions kclines kcsteps kcsayings kcfindings kcwarnings kcquestions kt ks kn kln ksp jr kr ytp yrm yjr ikp td vd vl gp ktd kvd kvl kgp tkd tf9 dk dn dp da dq cl19985 bo le bi r119993 rc19994 rh19995 tf tt9 tl tbv asd st9 tol mroundOf mroundFrom mfromHour mtoHour mfrom mto msort misFault mdeep mcoded mlines mbestCost mdealer mnumber mwhose msize misParted fbpersons fbpapers fbstamps fbversions fblines fbsteps fbsayings fbfindings fbwarnings fbquestions fcpersons fcpapers fcstamps fcversions fclines fcsteps fcsayings fcfindings fcwarnings fcquestions fby ftln ftsp fhw fhn ftr fhs fhz fhi gclm9986 gfi9987 gla9988 gml9989 gmm9990 gsl9991 gsm9992 fk0 fk1 fk2 fk3 fk4 fk5 fk6 fk7 fk8 fk9 fk10 fk11 fk12 gfc9996 gsh9997 frr ftc fht y_nw y_nk y_nt y_nr y_nm y_ns y_nl y_nc y_np y_ntr y_nb y_nso y_nsi y_nit y_nsh y_nsf y_nss y_nrc)) hP2 (lk_D hD rfl) (fun hP hD => ?_)
  obtain ⟨hr9983, w9998⟩ := hr9983
  refine lv_pop hx hb dL_law_1678 rfl ?_
  refine lv_aload_n hx hb dL_law_1679 rfl (lv_at1 hl) ?_
  refine lv_aload_n hx hb dL_law_1680 rfl (lv_at3 hl) ?_
  refine lv_iload_n hx hb dL_law_1681 rfl (lv_at0 hl) ?_
  refine lv_iconst (v := 1) hx hb dL_law_1682 (by decide) ?_
  refine lv_iadd hx hb dL_law_1683 ?_
  refine eqi (x1 := nI (ki + 1)) (nI_add ki 1) ?_
  refine va_sld hx hb hX hbl hbA hS (lw_in hL hki (by decide)) dL_law_1684 ?_
  refine eqi (x1 := xs (ki + 1)) (congrArg xs (lw_cl hL hki (by decide))) ?_
  refine lk_iV hC hK hl hP hD hS hA (r_many l G xm (xs (ki + 1)) nw nk ikp nt (nI ytp) nr (nI yrm) mroundOf mroundFrom 0 nm mfromHour mtoHour ns mfrom mto msort misFault mdeep mcoded mlines nl nc nF np ntr nb mbestCost nso nsi nit nsh nsf nss nrc (nI yjr) mdealer mnumber mwhose msize misParted y_nw y_nm y_ns y_np (i_nw) (i_vw) (i_mb)) si_L_183 [103, 104, 108, 109, 112] [0, 1, 2, 3, 4] [false, false, false, false, false, false, false, false, false, false, false, false, false, false, false, false, false, false, false, false, false, false, false, false, false, false, false, false, false, false, false, false, false, false, false, false, false, false, false, false, false, false, false, false, false, false, false, false, false, false, false, false, false, false, false, false, false, false, false, false, false, false, false, false, false, false, false, false, false, false, false, false, false, false, false, false, false, false, false, false, false, false, false, false, false, false, false, false, false, false, false, false, false, false, false, false, false, false, false, false, false, false, false, true, true, false, false, false, true, true, false, false, true, false, false, false, false, false, false, false, false, false, false] rfl rfl (by decide +kernel) (by decide +kernel) rfl rfl rfl rfl rfl (Nat.le_of_ble_eq_true rfl) ⟨Nat.le_of_ble_eq_true rfl, Nat.le_of_ble_eq_true rfl⟩ ⟨by first | exact Nat.le_of_ble_eq_true rfl | omega, by first | exact Nat.le_of_ble_eq_true rfl | omega⟩ dL_law_1685 (fun r9999 => Ktu5 fun fh110001 th110002 gnm10003 gns10004 gnp10005 => ?_)
  intro H locs hr9999 hP2 hS
  try dsimp only at hr9999
  refine Kpdr (ws := (WLW G K hf xb bb cc sg do9 ru9 ta9 tp9 ro9 ho9 de9 bpersons bpapers bstamps bversions blines bsteps bsayings bfindings bwarnings bquestions bpersonsc bpapersc bstampsc bversionsc blinesc bstepsc bsayingsc bfindingsc bwarningsc bquestionsc cpersons cpapers cstamps cversions clines csteps csayings cfindings cwarnings cquestions cpersonsc cpapersc cstampsc cversionsc clinesc cstepsc csayingsc cfindingsc cwarningsc cquestionsc tby tln tsp tlnc tspc hs hz hi hw hn ht tr9 clk fi la ml mm sl sm clm hd kc0 km0 kc1 km1 kc2 km2 kc3 km3 kc4 km4 kc5 km5 kc6 km6 kc7 km7 kc8 km8 kc9 km9 kc10 km10 kc11 km11 kc12 km12 fc sh rr tc rrc xm nw nk nt nr nm ns nl nc nF np ntr nb nso nsi nit nsh nsf nss nrc kbpersons kbpapers kbstamps kbversions kblines kbsteps kbsayings kbfindings kbwarnings kbquestions kcpersons kcpapers kcstamps kcversions kclines kcsteps kcsayings kcfindings kcwarnings kcquestions kt ks kn kln ksp jr kr ytp yrm yjr ikp td vd vl gp ktd kvd kvl kgp tkd tf9 dk dn dp da dq cl19985 bo le bi r119993 rc19994 rh19995 tf tt9 tl tbv asd st9 tol mroundOf mroundFrom fh110001 th110002 mfrom mto msort misFault mdeep mcoded mlines mbestCost mdealer mnumber mwhose msize misParted fbpersons fbpapers fbstamps fbversions fblines fbsteps fbsayings fbfindings fbwarnings fbquestions fcpersons fcpapers fcstamps fcversions fclines fcsteps fcsayings fcfindings fcwarnings fcquestions fby ftln ftsp fhw fhn ftr fhs fhz fhi gclm9986 gfi9987 gla9988 gml9989 gmm9990 gsl9991 gsm9992 fk0 fk1 fk2 fk3 fk4 fk5 fk6 fk7 fk8 fk9 fk10 fk11 fk12 gfc9996 gsh9997 frr ftc fht y_nw y_nk y_nt y_nr gnm10003 gns10004 y_nl y_nc gnp10005 y_ntr y_nb y_nso y_nsi y_nit y_nsh y_nsf y_nss y_nrc)) hP2 (lk_D hD rfl) (fun hP hD => ?_)
  obtain ⟨hr9999, w10006⟩ := hr9999
  refine lv_pop hx hb dL_law_1688 rfl ?_
  refine lv_goto (tgt := 1718) hx hb dL_law_1689 (by decide) ?_
  exact hback kbpersons kbpapers kbstamps kbversions kblines kbsteps kbsayings kbfindings kbwarnings kbquestions kcpersons kcpapers kcstamps kcversions kclines kcsteps kcsayings kcfindings kcwarnings kcquestions kt ks kn kln ksp jr kr ytp yrm yjr ikp td vd vl gp ktd kvd kvl kgp tkd tf9 dk dn dp da dq cl19985 bo le bi r119993 rc19994 rh19995 tf tt9 tl tbv asd st9 tol mroundOf mroundFrom fh110001 th110002 mfrom mto msort misFault mdeep mcoded mlines mbestCost mdealer mnumber mwhose msize misParted fbpersons fbpapers fbstamps fbversions fblines fbsteps fbsayings fbfindings fbwarnings fbquestions fcpersons fcpapers fcstamps fcversions fclines fcsteps fcsayings fcfindings fcwarnings fcquestions fby ftln ftsp fhw fhn ftr fhs fhz fhi gclm9986 gfi9987 gla9988 gml9989 gmm9990 gsl9991 gsm9992 fk0 fk1 fk2 fk3 fk4 fk5 fk6 fk7 fk8 fk9 fk10 fk11 fk12 gfc9996 gsh9997 frr ftc fht y_nw y_nk y_nt y_nr gnm10003 gns10004 y_nl y_nc gnp10005 y_ntr y_nb y_nso y_nsi y_nit y_nsh y_nsf y_nss y_nrc H locs ls i_kbpersons i_kbpapers i_kbstamps i_kbversions i_kblines i_kbsteps i_kbsayings i_kbfindings i_kbwarnings i_kbquestions i_kcpersons i_kcpapers i_kcstamps i_kcversions i_kclines i_kcsteps i_kcsayings i_kcfindings i_kcwarnings i_kcquestions i_kt i_ks i_kn i_kln i_ksp i_jr i_kr i_ytp i_yrm i_yjr i_tp (by first | assumption | omega | exact Or.inl rfl | exact Or.inr rfl) i_tol i_ikp i_nw i_vw i_nk i_vk (by first | assumption | omega | exact Or.inl rfl | exact Or.inr rfl) i_b6 i_sz i_sh i_sl i_sp i_sq i_sc i_sk i_epersons i_epapers i_estamps i_esayings i_efindings i_ewarnings i_equestions i_kpersons i_kpapers i_kstamps i_ksayings i_kfindings i_kwarnings i_kquestions hP hD hS (lv_sub hl [0, 1, 2, 3] rfl)
set_option maxHeartbeats 8000000 in
set_option maxRecDepth 100000 in
theorem law_40 : LAWC 1692 := by
  intro p l e s m below meth c b L xs G K A hf xb bb cc sg do9 ru9 ta9 tp9 ro9 ho9 de9 bpersons bpapers bstamps bversions blines bsteps bsayings bfindings bwarnings bquestions bpersonsc bpapersc bstampsc bversionsc blinesc bstepsc bsayingsc bfindingsc bwarningsc bquestionsc cpersons cpapers cstamps cversions clines csteps csayings cfindings cwarnings cquestions cpersonsc cpapersc cstampsc cversionsc clinesc cstepsc csayingsc cfindingsc cwarningsc cquestionsc tby tln tsp tlnc tspc hs hz hi hw hn ht tr9 clk fi la ml mm sl sm clm hd kc0 km0 kc1 km1 kc2 km2 kc3 km3 kc4 km4 kc5 km5 kc6 km6 kc7 km7 kc8 km8 kc9 km9 kc10 km10 kc11 km11 kc12 km12 fc sh rr tc rrc xm nw nk nt nr nm ns nl nc nF np ntr nb nso nsi nit nsh nsf nss nrc kbpersons kbpapers kbstamps kbversions kblines kbsteps kbsayings kbfindings kbwarnings kbquestions kcpersons kcpapers kcstamps kcversions kclines kcsteps kcsayings kcfindings kcwarnings kcquestions kt ks kn kln ksp jr kr ytp yrm yjr ikp td vd vl gp ktd kvd kvl kgp tkd tf9 dk dn dp da dq cl bo le bi r1 rc rh tf tt9 tl tbv asd st9 tol mroundOf mroundFrom mfromHour mtoHour mfrom mto msort misFault mdeep mcoded mlines mbestCost mdealer mnumber mwhose msize misParted fbpersons fbpapers fbstamps fbversions fblines fbsteps fbsayings fbfindings fbwarnings fbquestions fcpersons fcpapers fcstamps fcversions fclines fcsteps fcsayings fcfindings fcwarnings fcquestions fby ftln ftsp fhw fhn ftr fhs fhz fhi fclm ffi fla fml fmm fsl fsm fk0 fk1 fk2 fk3 fk4 fk5 fk6 fk7 fk8 fk9 fk10 fk11 fk12 ffc fsh frr ftc fht y_nw y_nk y_nt y_nr y_nm y_ns y_nl y_nc y_np y_ntr y_nb y_nso y_nsi y_nit y_nsh y_nsf y_nss y_nrc H locs ls ki hC hK hO hX hL hbl hbA hA hA2 hki hf0 hf1 hf2 hf3 hf4 hf5 hf6 hf7 hf8 hf9 hf10 hf11 hf12 i_kbpersons i_kbpapers i_kbstamps i_kbversions i_kblines i_kbsteps i_kbsayings i_kbfindings i_kbwarnings i_kbquestions i_kcpersons i_kcpapers i_kcstamps i_kcversions i_kclines i_kcsteps i_kcsayings i_kcfindings i_kcwarnings i_kcquestions i_kt i_ks i_kn i_kln i_ksp i_jr i_kr i_ytp i_yrm i_yjr i_tp i_cl i_tol i_ikp i_nw i_vw i_nk i_vk i_mb i_b6 i_sz i_sh i_sl i_sp i_sq i_sc i_sk i_epersons i_epapers i_estamps i_esayings i_efindings i_ewarnings i_equestions i_kpersons i_kpapers i_kstamps i_ksayings i_kfindings i_kwarnings i_kquestions hback hP hD hS hl
  refine Kan8 hC (fun hx hb hr hml hB hown hlocks hnm => ?_)
  refine lv_aload_n hx hb dL_law_1692 rfl (lv_at2 hl) ?_
  refine lk_iV hC hK hl hP hD hS hA (p_keep l G xb bb cc ikp sg do9 ru9 ta9 tp9 ro9 ho9 de9 bpersons bpapers bstamps bversions blines bsteps bsayings bfindings bwarnings bquestions td vd vl gp bpersonsc kbpersons fbpersons bpapersc kbpapers fbpapers bstampsc kbstamps fbstamps bversionsc kbversions fbversions blinesc kblines fblines bstepsc kbsteps fbsteps bsayingsc kbsayings fbsayings bfindingsc kbfindings fbfindings bwarningsc kbwarnings fbwarnings bquestionsc kbquestions fbquestions cpersons cpapers cstamps cversions clines csteps csayings cfindings cwarnings cquestions ktd kvd kvl kgp cpersonsc kcpersons fcpersons cpapersc kcpapers fcpapers cstampsc kcstamps fcstamps cversionsc kcversions fcversions clinesc kclines fclines cstepsc kcsteps fcsteps csayingsc kcsayings fcsayings cfindingsc kcfindings fcfindings cwarningsc kcwarnings fcwarnings cquestionsc kcquestions fcquestions (i_kbpersons) (i_kbpapers) (i_kbstamps) (i_kbversions) (i_kblines) (i_kbsteps) (i_kbsayings) (i_kbfindings) (i_kbwarnings) (i_kbquestions)) si_L_184 [0, 1, 2, 3, 4, 5, 6, 7, 8, 9, 10, 11, 12, 13, 14, 15, 16, 17, 18, 19, 20, 21, 22, 23, 24, 25, 26, 27, 28, 29, 30, 31, 32, 33, 34, 35, 36, 37, 38, 39, 40, 41, 42] [0, 1, 2, 3, 4, 5, 6, 7, 8, 9, 10, 11, 12, 13, 14, 15, 16, 17, 18, 19, 20, 21, 22, 23, 24, 25, 26, 27, 28, 29, 30, 31, 32, 33, 34, 35, 36, 37, 38, 39, 40, 41, 42] [true, true, true, true, true, true, true, true, true, true, true, true, true, true, true, true, true, true, true, true, true, true, true, true, true, true, true, true, true, true, true, true, true, true, true, true, true, true, true, true, true, true, true, false, false, false, false, false, false, false, false, false, false, false, false, false, false, false, false, false, false, false, false, false, false, false, false, false, false, false, false, false, false, false, false, false, false, false, false, false, false, false, false, false, false, false, false, false, false, false, false, false, false, false, false, false, false, false, false, false, false, false, false, false, false, false, false, false, false, false, false, false, false, false, false, false, false, false, false, false, false, false, false] rfl rfl (by decide +kernel) (by decide +kernel) rfl rfl rfl rfl rfl (Nat.le_of_ble_eq_true rfl) ⟨Nat.le_of_ble_eq_true rfl, Nat.le_of_ble_eq_true rfl⟩ ⟨by first | exact Nat.le_of_ble_eq_true rfl | omega, by first | exact Nat.le_of_ble_eq_true rfl | omega⟩ dL_law_1693 (fun r10007 => Ktu10 fun gpersons10009 gpapers10010 gstamps10011 gversions10012 glines10013 gsteps10014 gsayings10015 gfindings10016 gwarnings10017 gquestions10018 => ?_)
  intro H locs hr10007 hP2 hS
  try dsimp only at hr10007
  refine Kpdr (ws := [(xb, oX11 bb cc 1 sg do9 ru9 ta9 tp9 ro9 ho9 de9), (bb, oX0 bpersons bpapers bstamps bversions blines bsteps bsayings bfindings bwarnings bquestions td vd vl gp), (bpersons, oX8 10 2 bpersonsc (nI kbpersons)), (bpersonsc, iA G 20 fbpersons), (bpapers, oX8 12 6 bpapersc (nI kbpapers)), (bpapersc, iA G 72 fbpapers), (bstamps, oX8 24 3 bstampsc (nI kbstamps)), (bstampsc, iA G 72 fbstamps), (bversions, oX8 8 3 bversionsc (nI kbversions)), (bversionsc, iA G 24 fbversions), (blines, oX8 72 7 blinesc (nI kblines)), (blinesc, iA G 504 fblines), (bsteps, oX8 960 1 bstepsc (nI kbsteps)), (bstepsc, iA G 960 fbsteps), (bsayings, oX8 16 8 bsayingsc (nI kbsayings)), (bsayingsc, iA G 128 fbsayings), (bfindings, oX8 12 4 bfindingsc (nI kbfindings)), (bfindingsc, iA G 48 fbfindings), (bwarnings, oX8 16 3 bwarningsc (nI kbwarnings)), (bwarningsc, iA G 48 fbwarnings), (bquestions, oX8 7 2 bquestionsc (nI kbquestions)), (bquestionsc, iA G 14 fbquestions), (cc, oX0 cpersons cpapers cstamps cversions clines csteps csayings cfindings cwarnings cquestions td vd vl gp), (cpersons, oX8 10 2 cpersonsc (nI kbpersons)), (cpersonsc, iA G 20 gpersons10009), (cpapers, oX8 12 6 cpapersc (nI kbpapers)), (cpapersc, iA G 72 gpapers10010), (cstamps, oX8 24 3 cstampsc (nI kbstamps)), (cstampsc, iA G 72 gstamps10011), (cversions, oX8 8 3 cversionsc (nI kbversions)), (cversionsc, iA G 24 gversions10012), (clines, oX8 72 7 clinesc (nI kblines)), (clinesc, iA G 504 glines10013), (csteps, oX8 960 1 cstepsc (nI kbsteps)), (cstepsc, iA G 960 gsteps10014), (csayings, oX8 16 8 csayingsc (nI kbsayings)), (csayingsc, iA G 128 gsayings10015), (cfindings, oX8 12 4 cfindingsc (nI kbfindings)), (cfindingsc, iA G 48 gfindings10016), (cwarnings, oX8 16 3 cwarningsc (nI kbwarnings)), (cwarningsc, iA G 48 gwarnings10017), (cquestions, oX8 7 2 cquestionsc (nI kbquestions)), (cquestionsc, iA G 14 gquestions10018), (tp9, oX10 tby (nI kt) tln tsp tkd (nI ks) (nI kn) tf9), (tby, iA G 240 fby), (tln, oX8 9 7 tlnc (nI kln)), (tlnc, iA G 63 ftln), (tsp, oX8 120 1 tspc (nI ksp)), (tspc, iA G 120 ftsp), (ho9, oX4 hs hz hi hw hn ht), (hw, iA G 4 fhw), (hn, iA G 4 fhn), (de9, oX2 bb tr9 (nI jr) dk dn dp da dq), (tr9, iA G 30 ftr), (hs, iA G 4 fhs), (hz, iA G 4 fhz), (hi, iA G 160 fhi), (sg, oX7 bb clk fi la ml mm sl sm cl), (clk, oX1 clm), (clm, iA G 36 fclm), (fi, iA G 12 ffi), (la, iA G 12 fla), (ml, iA G 12 fml), (mm, iA G 12 fmm), (sl, iA G 12 fsl), (sm, iA G 12 fsm), (do9, oX3 bb hd bo le bi), (hd, cA G 13 hf), (kc0, oX1 km0), (km0, iA G 36 fk0), (kc1, oX1 km1), (km1, iA G 36 fk1), (kc2, oX1 km2), (km2, iA G 36 fk2), (kc3, oX1 km3), (km3, iA G 36 fk3), (kc4, oX1 km4), (km4, iA G 36 fk4), (kc5, oX1 km5), (km5, iA G 36 fk5), (kc6, oX1 km6), (km6, iA G 36 fk6), (kc7, oX1 km7), (km7, iA G 36 fk7), (kc8, oX1 km8), (km8, iA G 36 fk8), (kc9, oX1 km9), (km9, iA G 36 fk9), (kc10, oX1 km10), (km10, iA G 36 fk10), (kc11, oX1 km11), (km11, iA G 36 fk11), (kc12, oX1 km12), (km12, iA G 36 fk12), (ru9, oX6 bb sg fc sh r1 rc rh), (fc, iA G 5 ffc), (sh, iA G 8 fsh), (ta9, oX9 bb sg tf tt9 tl tbv), (ro9, oX5 bb rr tc asd st9 tol), (rr, oX8 7 2 rrc (nI kr)), (rrc, iA G 14 frr), (tc, iA G 128 ftc), (ht, iA G 4 fht), (xm, oX12 nw nk ikp nt (nI ytp) nr (nI yrm) mroundOf mroundFrom 0 nm mfromHour mtoHour ns mfrom mto msort misFault mdeep mcoded mlines nl nc nF np ntr nb mbestCost nso nsi nit nsh nsf nss nrc (nI yjr) mdealer mnumber mwhose msize misParted), (nw, iA G 1662 y_nw), (nk, iA G 1662 y_nk), (nt, iA G 240 y_nt), (nr, iA G 14 y_nr), (nm, iA G 36 y_nm), (ns, iA G 8 y_ns), (nl, iA G 54 y_nl), (nc, iA G 100 y_nc), (np, iA G 100 y_np), (ntr, iA G 7 y_ntr), (nb, iA G 7 y_nb), (nso, iA G 4 y_nso), (nsi, iA G 4 y_nsi), (nit, iA G 160 y_nit), (nsh, iA G 4 y_nsh), (nsf, iA G 4 y_nsf), (nss, iA G 4 y_nss), (nrc, iA G 30 y_nrc), (nF, sA G 5 (FCT K))]) hP2 (lk_D hD rfl) (fun hP hD => ?_)
  obtain ⟨hr10007, w10019⟩ := hr10007
  obtain rfl := hr10007
  refine lv_pop hx hb dL_law_1696 rfl ?_
  refine lv_aload_n hx hb dL_law_1697 rfl (lv_at1 hl) ?_
  refine lk_iV hC hK hl hP hD hS hA (w_keep l G xm nw nk ikp nt (nI ytp) nr (nI yrm) mroundOf mroundFrom 0 nm mfromHour mtoHour ns mfrom mto msort misFault mdeep mcoded mlines nl nc nF np ntr nb mbestCost nso nsi nit nsh nsf nss nrc (nI yjr) mdealer mnumber mwhose msize misParted y_nw y_nk (i_nw) (i_vw)) si_L_187 [103, 104, 105] [0, 1, 2] [false, false, false, false, false, false, false, false, false, false, false, false, false, false, false, false, false, false, false, false, false, false, false, false, false, false, false, false, false, false, false, false, false, false, false, false, false, false, false, false, false, false, false, false, false, false, false, false, false, false, false, false, false, false, false, false, false, false, false, false, false, false, false, false, false, false, false, false, false, false, false, false, false, false, false, false, false, false, false, false, false, false, false, false, false, false, false, false, false, false, false, false, false, false, false, false, false, false, false, false, false, false, false, true, true, true, false, false, false, false, false, false, false, false, false, false, false, false, false, false, false, false, false] rfl rfl (by decide +kernel) (by decide +kernel) rfl rfl rfl rfl rfl (Nat.le_of_ble_eq_true rfl) ⟨Nat.le_of_ble_eq_true rfl, Nat.le_of_ble_eq_true rfl⟩ ⟨by first | exact Nat.le_of_ble_eq_true rfl | omega, by first | exact Nat.le_of_ble_eq_true rfl | omega⟩ dL_law_1698 (fun r10021 gnk10023 H locs hr10021 hP2 hS => ?_)
  try dsimp only at hr10021
  refine Kpdr (ws := (WLW G K hf xb bb cc sg do9 ru9 ta9 tp9 ro9 ho9 de9 bpersons bpapers bstamps bversions blines bsteps bsayings bfindings bwarnings bquestions bpersonsc bpapersc bstampsc bversionsc blinesc bstepsc bsayingsc bfindingsc bwarningsc bquestionsc cpersons cpapers cstamps cversions clines csteps csayings cfindings cwarnings cquestions cpersonsc cpapersc cstampsc cversionsc clinesc cstepsc csayingsc cfindingsc cwarningsc cquestionsc tby tln tsp tlnc tspc hs hz hi hw hn ht tr9 clk fi la ml mm sl sm clm hd kc0 km0 kc1 km1 kc2 km2 kc3 km3 kc4 km4 kc5 km5 kc6 km6 kc7 km7 kc8 km8 kc9 km9 kc10 km10 kc11 km11 kc12 km12 fc sh rr tc rrc xm nw nk nt nr nm ns nl nc nF np ntr nb nso nsi nit nsh nsf nss nrc kbpersons kbpapers kbstamps kbversions kblines kbsteps kbsayings kbfindings kbwarnings kbquestions kbpersons kbpapers kbstamps kbversions kblines kbsteps kbsayings kbfindings kbwarnings kbquestions kt ks kn kln ksp jr kr ytp yrm yjr 1 td vd vl gp td vd vl gp tkd tf9 dk dn dp da dq cl bo le bi r1 rc rh tf tt9 tl tbv asd st9 tol mroundOf mroundFrom mfromHour mtoHour mfrom mto msort misFault mdeep mcoded mlines mbestCost mdealer mnumber mwhose msize misParted fbpersons fbpapers fbstamps fbversions fblines fbsteps fbsayings fbfindings fbwarnings fbquestions gpersons10009 gpapers10010 gstamps10011 gversions10012 glines10013 gsteps10014 gsayings10015 gfindings10016 gwarnings10017 gquestions10018 fby ftln ftsp fhw fhn ftr fhs fhz fhi fclm ffi fla fml fmm fsl fsm fk0 fk1 fk2 fk3 fk4 fk5 fk6 fk7 fk8 fk9 fk10 fk11 fk12 ffc fsh frr ftc fht y_nw gnk10023 y_nt y_nr y_nm y_ns y_nl y_nc y_np y_ntr y_nb y_nso y_nsi y_nit y_nsh y_nsf y_nss y_nrc)) hP2 (lk_D hD rfl) (fun hP hD => ?_)
  obtain ⟨hr10021, w10024⟩ := hr10021
  obtain rfl := hr10021
  refine lv_pop hx hb dL_law_1701 rfl ?_
  refine lv_goto (tgt := 1718) hx hb dL_law_1702 (by decide) ?_
  obtain ⟨z10026, z10027, z10028, z10029, z10030, z10031, z10032, z10033, z10034, z10035⟩ := w10019
  obtain ⟨z10036, z10037, z10038, z10039⟩ := w10024
  have hs_y_nk : (1 : Int32) = 0 ∨ SCX gnk10023 td vd vl gp (nI kbpersons) (nI kbpapers) (nI kbstamps) (nI kbsayings) (nI kbfindings) (nI kbwarnings) (nI kbquestions) := Or.inr (SCX.tr i_sc z10038)
  have hk_persons : EQT gnk10023 12 20 gpersons10009 := fun i hi9 => (z10039 (12 + i) (by omega)).trans ((i_epersons i hi9).trans (z10026 i hi9).symm)
  have hk_papers : EQT gnk10023 32 72 gpapers10010 := fun i hi9 => (z10039 (32 + i) (by omega)).trans ((i_epapers i hi9).trans (z10027 i hi9).symm)
  have hk_stamps : EQT gnk10023 104 72 gstamps10011 := fun i hi9 => (z10039 (104 + i) (by omega)).trans ((i_estamps i hi9).trans (z10028 i hi9).symm)
  have hk_sayings : EQT gnk10023 1424 128 gsayings10015 := fun i hi9 => (z10039 (1424 + i) (by omega)).trans ((i_esayings i hi9).trans (z10032 i hi9).symm)
  have hk_findings : EQT gnk10023 1552 48 gfindings10016 := fun i hi9 => (z10039 (1552 + i) (by omega)).trans ((i_efindings i hi9).trans (z10033 i hi9).symm)
  have hk_warnings : EQT gnk10023 1600 48 gwarnings10017 := fun i hi9 => (z10039 (1600 + i) (by omega)).trans ((i_ewarnings i hi9).trans (z10034 i hi9).symm)
  have hk_questions : EQT gnk10023 1648 14 gquestions10018 := fun i hi9 => (z10039 (1648 + i) (by omega)).trans ((i_equestions i hi9).trans (z10035 i hi9).symm)
  have hsq9 : SPI gsayings10015 kbsayings kbpapers := SPI.cp i_sp (by omega) z10032
  exact hback kbpersons kbpapers kbstamps kbversions kblines kbsteps kbsayings kbfindings kbwarnings kbquestions kbpersons kbpapers kbstamps kbversions kblines kbsteps kbsayings kbfindings kbwarnings kbquestions kt ks kn kln ksp jr kr ytp yrm yjr 1 td vd vl gp td vd vl gp tkd tf9 dk dn dp da dq cl bo le bi r1 rc rh tf tt9 tl tbv asd st9 tol mroundOf mroundFrom mfromHour mtoHour mfrom mto msort misFault mdeep mcoded mlines mbestCost mdealer mnumber mwhose msize misParted fbpersons fbpapers fbstamps fbversions fblines fbsteps fbsayings fbfindings fbwarnings fbquestions gpersons10009 gpapers10010 gstamps10011 gversions10012 glines10013 gsteps10014 gsayings10015 gfindings10016 gwarnings10017 gquestions10018 fby ftln ftsp fhw fhn ftr fhs fhz fhi fclm ffi fla fml fmm fsl fsm fk0 fk1 fk2 fk3 fk4 fk5 fk6 fk7 fk8 fk9 fk10 fk11 fk12 ffc fsh frr ftc fht y_nw gnk10023 y_nt y_nr y_nm y_ns y_nl y_nc y_np y_ntr y_nb y_nso y_nsi y_nit y_nsh y_nsf y_nss y_nrc H locs ls i_kbpersons i_kbpapers i_kbstamps i_kbversions i_kblines i_kbsteps i_kbsayings i_kbfindings i_kbwarnings i_kbquestions (by first | assumption | omega | exact Or.inl rfl | exact Or.inr rfl) (by first | assumption | omega | exact Or.inl rfl | exact Or.inr rfl) (by first | assumption | omega | exact Or.inl rfl | exact Or.inr rfl) (by first | assumption | omega | exact Or.inl rfl | exact Or.inr rfl) (by first | assumption | omega | exact Or.inl rfl | exact Or.inr rfl) (by first | assumption | omega | exact Or.inl rfl | exact Or.inr rfl) (by first | assumption | omega | exact Or.inl rfl | exact Or.inr rfl) (by first | assumption | omega | exact Or.inl rfl | exact Or.inr rfl) (by first | assumption | omega | exact Or.inl rfl | exact Or.inr rfl) (by first | assumption | omega | exact Or.inl rfl | exact Or.inr rfl) i_kt i_ks i_kn i_kln i_ksp i_jr i_kr i_ytp i_yrm i_yjr i_tp i_cl i_tol (by first | assumption | omega | exact Or.inl rfl | exact Or.inr rfl) i_nw i_vw (by first | assumption | omega | exact Or.inl rfl | exact Or.inr rfl) (by first | assumption | omega | exact Or.inl rfl | exact Or.inr rfl) i_mb i_b6 i_sz i_sh i_sl i_sp (by first | assumption | omega | exact Or.inl rfl | exact Or.inr rfl) i_sc (by first | assumption | omega | exact Or.inl rfl | exact Or.inr rfl) i_epersons i_epapers i_estamps i_esayings i_efindings i_ewarnings i_equestions (by first | assumption | omega | exact Or.inl rfl | exact Or.inr rfl) (by first | assumption | omega | exact Or.inl rfl | exact Or.inr rfl) (by first | assumption | omega | exact Or.inl rfl | exact Or.inr rfl) (by first | assumption | omega | exact Or.inl rfl | exact Or.inr rfl) (by first | assumption | omega | exact Or.inl rfl | exact Or.inr rfl) (by first | assumption | omega | exact Or.inl rfl | exact Or.inr rfl) (by first | assumption | omega | exact Or.inl rfl | exact Or.inr rfl) hP hD hS (lv_sub hl [0, 1, 2, 3] rfl)
set_option maxHeartbeats 8000000 in
set_option maxRecDepth 100000 in
theorem law_41 : LAWC 1705 := by
  intro p l e s m below meth c b L xs G K A hf xb bb cc sg do9 ru9 ta9 tp9 ro9 ho9 de9 bpersons bpapers bstamps bversions blines bsteps bsayings bfindings bwarnings bquestions bpersonsc bpapersc bstampsc bversionsc blinesc bstepsc bsayingsc bfindingsc bwarningsc bquestionsc cpersons cpapers cstamps cversions clines csteps csayings cfindings cwarnings cquestions cpersonsc cpapersc cstampsc cversionsc clinesc cstepsc csayingsc cfindingsc cwarningsc cquestionsc tby tln tsp tlnc tspc hs hz hi hw hn ht tr9 clk fi la ml mm sl sm clm hd kc0 km0 kc1 km1 kc2 km2 kc3 km3 kc4 km4 kc5 km5 kc6 km6 kc7 km7 kc8 km8 kc9 km9 kc10 km10 kc11 km11 kc12 km12 fc sh rr tc rrc xm nw nk nt nr nm ns nl nc nF np ntr nb nso nsi nit nsh nsf nss nrc kbpersons kbpapers kbstamps kbversions kblines kbsteps kbsayings kbfindings kbwarnings kbquestions kcpersons kcpapers kcstamps kcversions kclines kcsteps kcsayings kcfindings kcwarnings kcquestions kt ks kn kln ksp jr kr ytp yrm yjr ikp td vd vl gp ktd kvd kvl kgp tkd tf9 dk dn dp da dq cl bo le bi r1 rc rh tf tt9 tl tbv asd st9 tol mroundOf mroundFrom mfromHour mtoHour mfrom mto msort misFault mdeep mcoded mlines mbestCost mdealer mnumber mwhose msize misParted fbpersons fbpapers fbstamps fbversions fblines fbsteps fbsayings fbfindings fbwarnings fbquestions fcpersons fcpapers fcstamps fcversions fclines fcsteps fcsayings fcfindings fcwarnings fcquestions fby ftln ftsp fhw fhn ftr fhs fhz fhi fclm ffi fla fml fmm fsl fsm fk0 fk1 fk2 fk3 fk4 fk5 fk6 fk7 fk8 fk9 fk10 fk11 fk12 ffc fsh frr ftc fht y_nw y_nk y_nt y_nr y_nm y_ns y_nl y_nc y_np y_ntr y_nb y_nso y_nsi y_nit y_nsh y_nsf y_nss y_nrc H locs ls ki hC hK hO hX hL hbl hbA hA hA2 hki hf0 hf1 hf2 hf3 hf4 hf5 hf6 hf7 hf8 hf9 hf10 hf11 hf12 i_kbpersons i_kbpapers i_kbstamps i_kbversions i_kblines i_kbsteps i_kbsayings i_kbfindings i_kbwarnings i_kbquestions i_kcpersons i_kcpapers i_kcstamps i_kcversions i_kclines i_kcsteps i_kcsayings i_kcfindings i_kcwarnings i_kcquestions i_kt i_ks i_kn i_kln i_ksp i_jr i_kr i_ytp i_yrm i_yjr i_tp i_cl i_tol i_ikp i_nw i_vw i_nk i_vk i_mb i_b6 i_sz i_sh i_sl i_sp i_sq i_sc i_sk i_epersons i_epapers i_estamps i_esayings i_efindings i_ewarnings i_equestions i_kpersons i_kpapers i_kstamps i_ksayings i_kfindings i_kwarnings i_kquestions hback hP hD hS hl
  refine Kan8 hC (fun hx hb hr hml hB hown hlocks hnm => ?_)
  rcases i_ikp with rfl | rfl
  · refine lv_aload_n hx hb dL_law_1705 rfl (lv_at2 hl) ?_
    refine pV hC hK hl hP hD (p_again_no l G xb bb cc sg do9 ru9 ta9 tp9 ro9 ho9 de9) si_L_188 [0] sm_0 fm_0 nd_0 rfl rfl rfl rfl rfl (Nat.le_of_ble_eq_true rfl) ⟨Nat.le_of_ble_eq_true rfl, Nat.le_of_ble_eq_true rfl⟩ ⟨by first | exact Nat.le_of_ble_eq_true rfl | exact Nat.zero_le _, by first | exact Nat.le_of_ble_eq_true rfl | exact Nat.zero_le _⟩ dL_law_1706 (Keqr ?_)
    refine lv_pop hx hb dL_law_1709 rfl ?_
    refine lv_aload_n hx hb dL_law_1710 rfl (lv_at1 hl) ?_
    refine pV hC hK hl hP hD (w_again0 l G xm nw nk nt (nI ytp) nr (nI yrm) mroundOf mroundFrom 0 nm mfromHour mtoHour ns mfrom mto msort misFault mdeep mcoded mlines nl nc nF np ntr nb mbestCost nso nsi nit nsh nsf nss nrc (nI yjr) mdealer mnumber mwhose msize misParted) si_L_191 [103] sm_103 fm_103 nd_103 rfl rfl rfl rfl rfl (Nat.le_of_ble_eq_true rfl) ⟨Nat.le_of_ble_eq_true rfl, Nat.le_of_ble_eq_true rfl⟩ ⟨by first | exact Nat.le_of_ble_eq_true rfl | exact Nat.zero_le _, by first | exact Nat.le_of_ble_eq_true rfl | exact Nat.zero_le _⟩ dL_law_1711 (Keqr ?_)
    refine lv_pop hx hb dL_law_1714 rfl ?_
    refine lv_goto (tgt := 1718) hx hb dL_law_1715 (by decide) ?_
    exact hback kbpersons kbpapers kbstamps kbversions kblines kbsteps kbsayings kbfindings kbwarnings kbquestions kcpersons kcpapers kcstamps kcversions kclines kcsteps kcsayings kcfindings kcwarnings kcquestions kt ks kn kln ksp jr kr ytp yrm yjr 0 td vd vl gp ktd kvd kvl kgp tkd tf9 dk dn dp da dq cl bo le bi r1 rc rh tf tt9 tl tbv asd st9 tol mroundOf mroundFrom mfromHour mtoHour mfrom mto msort misFault mdeep mcoded mlines mbestCost mdealer mnumber mwhose msize misParted fbpersons fbpapers fbstamps fbversions fblines fbsteps fbsayings fbfindings fbwarnings fbquestions fcpersons fcpapers fcstamps fcversions fclines fcsteps fcsayings fcfindings fcwarnings fcquestions fby ftln ftsp fhw fhn ftr fhs fhz fhi fclm ffi fla fml fmm fsl fsm fk0 fk1 fk2 fk3 fk4 fk5 fk6 fk7 fk8 fk9 fk10 fk11 fk12 ffc fsh frr ftc fht y_nw y_nk y_nt y_nr y_nm y_ns y_nl y_nc y_np y_ntr y_nb y_nso y_nsi y_nit y_nsh y_nsf y_nss y_nrc H locs ls i_kbpersons i_kbpapers i_kbstamps i_kbversions i_kblines i_kbsteps i_kbsayings i_kbfindings i_kbwarnings i_kbquestions i_kcpersons i_kcpapers i_kcstamps i_kcversions i_kclines i_kcsteps i_kcsayings i_kcfindings i_kcwarnings i_kcquestions i_kt i_ks i_kn i_kln i_ksp i_jr i_kr i_ytp i_yrm i_yjr i_tp i_cl i_tol (by first | assumption | omega | exact Or.inl rfl | exact Or.inr rfl) i_nw i_vw i_nk i_vk i_mb i_b6 i_sz i_sh i_sl i_sp i_sq i_sc (by first | assumption | omega | exact Or.inl rfl | exact Or.inr rfl) i_epersons i_epapers i_estamps i_esayings i_efindings i_ewarnings i_equestions i_kpersons i_kpapers i_kstamps i_ksayings i_kfindings i_kwarnings i_kquestions hP hD hS (lv_sub hl [0, 1, 2, 3] rfl)
  · refine lv_aload_n hx hb dL_law_1705 rfl (lv_at2 hl) ?_
    refine lk_iV hC hK hl hP hD hS hA (p_again_yes l G xb bb cc sg do9 ru9 ta9 tp9 ro9 ho9 de9 bpersons bpapers bstamps bversions blines bsteps bsayings bfindings bwarnings bquestions td vd vl gp bpersonsc kbpersons fbpersons bpapersc kbpapers fbpapers bstampsc kbstamps fbstamps bversionsc kbversions fbversions blinesc kblines fblines bstepsc kbsteps fbsteps bsayingsc kbsayings fbsayings bfindingsc kbfindings fbfindings bwarningsc kbwarnings fbwarnings bquestionsc kbquestions fbquestions cpersons cpapers cstamps cversions clines csteps csayings cfindings cwarnings cquestions ktd kvd kvl kgp cpersonsc kcpersons fcpersons cpapersc kcpapers fcpapers cstampsc kcstamps fcstamps cversionsc kcversions fcversions clinesc kclines fclines cstepsc kcsteps fcsteps csayingsc kcsayings fcsayings cfindingsc kcfindings fcfindings cwarningsc kcwarnings fcwarnings cquestionsc kcquestions fcquestions (i_kcpersons) (i_kcpapers) (i_kcstamps) (i_kcversions) (i_kclines) (i_kcsteps) (i_kcsayings) (i_kcfindings) (i_kcwarnings) (i_kcquestions)) si_L_188 [0, 1, 2, 3, 4, 5, 6, 7, 8, 9, 10, 11, 12, 13, 14, 15, 16, 17, 18, 19, 20, 21, 22, 23, 24, 25, 26, 27, 28, 29, 30, 31, 32, 33, 34, 35, 36, 37, 38, 39, 40, 41, 42] [0, 1, 2, 3, 4, 5, 6, 7, 8, 9, 10, 11, 12, 13, 14, 15, 16, 17, 18, 19, 20, 21, 22, 23, 24, 25, 26, 27, 28, 29, 30, 31, 32, 33, 34, 35, 36, 37, 38, 39, 40, 41, 42] [true, true, true, true, true, true, true, true, true, true, true, true, true, true, true, true, true, true, true, true, true, true, true, true, true, true, true, true, true, true, true, true, true, true, true, true, true, true, true, true, true, true, true, false, false, false, false, false, false, false, false, false, false, false, false, false, false, false, false, false, false, false, false, false, false, false, false, false, false, false, false, false, false, false, false, false, false, false, false, false, false, false, false, false, false, false, false, false, false, false, false, false, false, false, false, false, false, false, false, false, false, false, false, false, false, false, false, false, false, false, false, false, false, false, false, false, false, false, false, false, false, false, false] rfl rfl (by decide +kernel) (by decide +kernel) rfl rfl rfl rfl rfl (Nat.le_of_ble_eq_true rfl) ⟨Nat.le_of_ble_eq_true rfl, Nat.le_of_ble_eq_true rfl⟩ ⟨by first | exact Nat.le_of_ble_eq_true rfl | omega, by first | exact Nat.le_of_ble_eq_true rfl | omega⟩ dL_law_1706 (fun r10044 => Ktu10 fun gpersons10046 gpapers10047 gstamps10048 gversions10049 glines10050 gsteps10051 gsayings10052 gfindings10053 gwarnings10054 gquestions10055 => ?_)
    intro H locs hr10044 hP2 hS
    try dsimp only at hr10044
    refine Kpdr (ws := (WLW G K hf xb bb cc sg do9 ru9 ta9 tp9 ro9 ho9 de9 bpersons bpapers bstamps bversions blines bsteps bsayings bfindings bwarnings bquestions bpersonsc bpapersc bstampsc bversionsc blinesc bstepsc bsayingsc bfindingsc bwarningsc bquestionsc cpersons cpapers cstamps cversions clines csteps csayings cfindings cwarnings cquestions cpersonsc cpapersc cstampsc cversionsc clinesc cstepsc csayingsc cfindingsc cwarningsc cquestionsc tby tln tsp tlnc tspc hs hz hi hw hn ht tr9 clk fi la ml mm sl sm clm hd kc0 km0 kc1 km1 kc2 km2 kc3 km3 kc4 km4 kc5 km5 kc6 km6 kc7 km7 kc8 km8 kc9 km9 kc10 km10 kc11 km11 kc12 km12 fc sh rr tc rrc xm nw nk nt nr nm ns nl nc nF np ntr nb nso nsi nit nsh nsf nss nrc kcpersons kcpapers kcstamps kcversions kclines kcsteps kcsayings kcfindings kcwarnings kcquestions kcpersons kcpapers kcstamps kcversions kclines kcsteps kcsayings kcfindings kcwarnings kcquestions kt ks kn kln ksp jr kr ytp yrm yjr 1 ktd kvd kvl kgp ktd kvd kvl kgp tkd tf9 dk dn dp da dq cl bo le bi r1 rc rh tf tt9 tl tbv asd st9 tol mroundOf mroundFrom mfromHour mtoHour mfrom mto msort misFault mdeep mcoded mlines mbestCost mdealer mnumber mwhose msize misParted gpersons10046 gpapers10047 gstamps10048 gversions10049 glines10050 gsteps10051 gsayings10052 gfindings10053 gwarnings10054 gquestions10055 fcpersons fcpapers fcstamps fcversions fclines fcsteps fcsayings fcfindings fcwarnings fcquestions fby ftln ftsp fhw fhn ftr fhs fhz fhi fclm ffi fla fml fmm fsl fsm fk0 fk1 fk2 fk3 fk4 fk5 fk6 fk7 fk8 fk9 fk10 fk11 fk12 ffc fsh frr ftc fht y_nw y_nk y_nt y_nr y_nm y_ns y_nl y_nc y_np y_ntr y_nb y_nso y_nsi y_nit y_nsh y_nsf y_nss y_nrc)) hP2 (lk_D hD rfl) (fun hP hD => ?_)
    obtain ⟨hr10044, w10056⟩ := hr10044
    obtain rfl := hr10044
    refine lv_pop hx hb dL_law_1709 rfl ?_
    refine lv_aload_n hx hb dL_law_1710 rfl (lv_at1 hl) ?_
    refine lk_iV hC hK hl hP hD hS hA (w_again1 l G xm nw nk nt (nI ytp) nr (nI yrm) mroundOf mroundFrom 0 nm mfromHour mtoHour ns mfrom mto msort misFault mdeep mcoded mlines nl nc nF np ntr nb mbestCost nso nsi nit nsh nsf nss nrc (nI yjr) mdealer mnumber mwhose msize misParted y_nw y_nk (i_nw) (i_vw) (i_nk) (i_vk)) si_L_191 [103, 104, 105] [0, 1, 2] [false, false, false, false, false, false, false, false, false, false, false, false, false, false, false, false, false, false, false, false, false, false, false, false, false, false, false, false, false, false, false, false, false, false, false, false, false, false, false, false, false, false, false, false, false, false, false, false, false, false, false, false, false, false, false, false, false, false, false, false, false, false, false, false, false, false, false, false, false, false, false, false, false, false, false, false, false, false, false, false, false, false, false, false, false, false, false, false, false, false, false, false, false, false, false, false, false, false, false, false, false, false, false, true, true, true, false, false, false, false, false, false, false, false, false, false, false, false, false, false, false, false, false] rfl rfl (by decide +kernel) (by decide +kernel) rfl rfl rfl rfl rfl (Nat.le_of_ble_eq_true rfl) ⟨Nat.le_of_ble_eq_true rfl, Nat.le_of_ble_eq_true rfl⟩ ⟨by first | exact Nat.le_of_ble_eq_true rfl | omega, by first | exact Nat.le_of_ble_eq_true rfl | omega⟩ dL_law_1711 (fun r10058 gnw10060 H locs hr10058 hP2 hS => ?_)
    try dsimp only at hr10058
    refine Kpdr (ws := (WLW G K hf xb bb cc sg do9 ru9 ta9 tp9 ro9 ho9 de9 bpersons bpapers bstamps bversions blines bsteps bsayings bfindings bwarnings bquestions bpersonsc bpapersc bstampsc bversionsc blinesc bstepsc bsayingsc bfindingsc bwarningsc bquestionsc cpersons cpapers cstamps cversions clines csteps csayings cfindings cwarnings cquestions cpersonsc cpapersc cstampsc cversionsc clinesc cstepsc csayingsc cfindingsc cwarningsc cquestionsc tby tln tsp tlnc tspc hs hz hi hw hn ht tr9 clk fi la ml mm sl sm clm hd kc0 km0 kc1 km1 kc2 km2 kc3 km3 kc4 km4 kc5 km5 kc6 km6 kc7 km7 kc8 km8 kc9 km9 kc10 km10 kc11 km11 kc12 km12 fc sh rr tc rrc xm nw nk nt nr nm ns nl nc nF np ntr nb nso nsi nit nsh nsf nss nrc kcpersons kcpapers kcstamps kcversions kclines kcsteps kcsayings kcfindings kcwarnings kcquestions kcpersons kcpapers kcstamps kcversions kclines kcsteps kcsayings kcfindings kcwarnings kcquestions kt ks kn kln ksp jr kr ytp yrm yjr 1 ktd kvd kvl kgp ktd kvd kvl kgp tkd tf9 dk dn dp da dq cl bo le bi r1 rc rh tf tt9 tl tbv asd st9 tol mroundOf mroundFrom mfromHour mtoHour mfrom mto msort misFault mdeep mcoded mlines mbestCost mdealer mnumber mwhose msize misParted gpersons10046 gpapers10047 gstamps10048 gversions10049 glines10050 gsteps10051 gsayings10052 gfindings10053 gwarnings10054 gquestions10055 fcpersons fcpapers fcstamps fcversions fclines fcsteps fcsayings fcfindings fcwarnings fcquestions fby ftln ftsp fhw fhn ftr fhs fhz fhi fclm ffi fla fml fmm fsl fsm fk0 fk1 fk2 fk3 fk4 fk5 fk6 fk7 fk8 fk9 fk10 fk11 fk12 ffc fsh frr ftc fht gnw10060 y_nk y_nt y_nr y_nm y_ns y_nl y_nc y_np y_ntr y_nb y_nso y_nsi y_nit y_nsh y_nsf y_nss y_nrc)) hP2 (lk_D hD rfl) (fun hP hD => ?_)
    obtain ⟨hr10058, w10061⟩ := hr10058
    obtain rfl := hr10058
    refine lv_pop hx hb dL_law_1714 rfl ?_
    refine lv_goto (tgt := 1718) hx hb dL_law_1715 (by decide) ?_
    obtain ⟨z10063, z10064, z10065, z10066, z10067, z10068, z10069, z10070, z10071, z10072⟩ := w10056
    obtain ⟨z10073, z10074, z10075, z10076⟩ := w10061
    have hs_y_nw : SCX gnw10060 ktd kvd kvl kgp (nI kcpersons) (nI kcpapers) (nI kcstamps) (nI kcsayings) (nI kcfindings) (nI kcwarnings) (nI kcquestions) := SCX.tr (i_sk.resolve_left (by decide)) z10075
    have he_persons : EQT gnw10060 12 20 gpersons10046 := fun i hi9 => (z10076 (12 + i) (by omega)).trans ((i_kpersons i hi9).trans (z10063 i hi9).symm)
    have he_papers : EQT gnw10060 32 72 gpapers10047 := fun i hi9 => (z10076 (32 + i) (by omega)).trans ((i_kpapers i hi9).trans (z10064 i hi9).symm)
    have he_stamps : EQT gnw10060 104 72 gstamps10048 := fun i hi9 => (z10076 (104 + i) (by omega)).trans ((i_kstamps i hi9).trans (z10065 i hi9).symm)
    have he_sayings : EQT gnw10060 1424 128 gsayings10052 := fun i hi9 => (z10076 (1424 + i) (by omega)).trans ((i_ksayings i hi9).trans (z10069 i hi9).symm)
    have he_findings : EQT gnw10060 1552 48 gfindings10053 := fun i hi9 => (z10076 (1552 + i) (by omega)).trans ((i_kfindings i hi9).trans (z10070 i hi9).symm)
    have he_warnings : EQT gnw10060 1600 48 gwarnings10054 := fun i hi9 => (z10076 (1600 + i) (by omega)).trans ((i_kwarnings i hi9).trans (z10071 i hi9).symm)
    have he_questions : EQT gnw10060 1648 14 gquestions10055 := fun i hi9 => (z10076 (1648 + i) (by omega)).trans ((i_kquestions i hi9).trans (z10072 i hi9).symm)
    have hsp9 : SPI gsayings10052 kcsayings kcpapers := SPI.cp i_sq (by omega) z10069
    exact hback kcpersons kcpapers kcstamps kcversions kclines kcsteps kcsayings kcfindings kcwarnings kcquestions kcpersons kcpapers kcstamps kcversions kclines kcsteps kcsayings kcfindings kcwarnings kcquestions kt ks kn kln ksp jr kr ytp yrm yjr 1 ktd kvd kvl kgp ktd kvd kvl kgp tkd tf9 dk dn dp da dq cl bo le bi r1 rc rh tf tt9 tl tbv asd st9 tol mroundOf mroundFrom mfromHour mtoHour mfrom mto msort misFault mdeep mcoded mlines mbestCost mdealer mnumber mwhose msize misParted gpersons10046 gpapers10047 gstamps10048 gversions10049 glines10050 gsteps10051 gsayings10052 gfindings10053 gwarnings10054 gquestions10055 fcpersons fcpapers fcstamps fcversions fclines fcsteps fcsayings fcfindings fcwarnings fcquestions fby ftln ftsp fhw fhn ftr fhs fhz fhi fclm ffi fla fml fmm fsl fsm fk0 fk1 fk2 fk3 fk4 fk5 fk6 fk7 fk8 fk9 fk10 fk11 fk12 ffc fsh frr ftc fht gnw10060 y_nk y_nt y_nr y_nm y_ns y_nl y_nc y_np y_ntr y_nb y_nso y_nsi y_nit y_nsh y_nsf y_nss y_nrc H locs ls (by first | assumption | omega | exact Or.inl rfl | exact Or.inr rfl) (by first | assumption | omega | exact Or.inl rfl | exact Or.inr rfl) (by first | assumption | omega | exact Or.inl rfl | exact Or.inr rfl) (by first | assumption | omega | exact Or.inl rfl | exact Or.inr rfl) (by first | assumption | omega | exact Or.inl rfl | exact Or.inr rfl) (by first | assumption | omega | exact Or.inl rfl | exact Or.inr rfl) (by first | assumption | omega | exact Or.inl rfl | exact Or.inr rfl) (by first | assumption | omega | exact Or.inl rfl | exact Or.inr rfl) (by first | assumption | omega | exact Or.inl rfl | exact Or.inr rfl) (by first | assumption | omega | exact Or.inl rfl | exact Or.inr rfl) i_kcpersons i_kcpapers i_kcstamps i_kcversions i_kclines i_kcsteps i_kcsayings i_kcfindings i_kcwarnings i_kcquestions i_kt i_ks i_kn i_kln i_ksp i_jr i_kr i_ytp i_yrm i_yjr i_tp i_cl i_tol (by first | assumption | omega | exact Or.inl rfl | exact Or.inr rfl) (by first | assumption | omega | exact Or.inl rfl | exact Or.inr rfl) (by first | assumption | omega | exact Or.inl rfl | exact Or.inr rfl) i_nk i_vk i_mb i_b6 i_sz i_sh i_sl (by first | assumption | omega | exact Or.inl rfl | exact Or.inr rfl) i_sq (by first | assumption | omega | exact Or.inl rfl | exact Or.inr rfl) (by first | assumption | omega | exact Or.inl rfl | exact Or.inr rfl) (by first | assumption | omega | exact Or.inl rfl | exact Or.inr rfl) (by first | assumption | omega | exact Or.inl rfl | exact Or.inr rfl) (by first | assumption | omega | exact Or.inl rfl | exact Or.inr rfl) (by first | assumption | omega | exact Or.inl rfl | exact Or.inr rfl) (by first | assumption | omega | exact Or.inl rfl | exact Or.inr rfl) (by first | assumption | omega | exact Or.inl rfl | exact Or.inr rfl) (by first | assumption | omega | exact Or.inl rfl | exact Or.inr rfl) i_kpersons i_kpapers i_kstamps i_ksayings i_kfindings i_kwarnings i_kquestions hP hD hS (lv_sub hl [0, 1, 2, 3] rfl)
