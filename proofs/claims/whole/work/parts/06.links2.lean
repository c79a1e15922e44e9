set_option maxRecDepth 20000 in
theorem v9_80 : CV 9 80 mX8_does 1 := ⟨big_mem 1416 (by decide +kernel) (by decide +kernel), big_mem 1417 (by decide +kernel) (by decide +kernel), big_mem 1418 (by decide +kernel) (by decide +kernel), cbX8_does⟩
set_option maxRecDepth 20000 in
theorem v8_301 : CV 8 301 mX8_turns 1 := ⟨big_mem 1420 (by decide +kernel) (by decide +kernel), big_mem 1422 (by decide +kernel) (by decide +kernel), big_mem 36 (by decide +kernel) (by decide +kernel), cbX8_turns⟩
set_option maxRecDepth 20000 in
theorem v8_280 : CV 8 280 mX8_isSpoilt 1 := ⟨big_mem 1424 (by decide +kernel) (by decide +kernel), big_mem 1426 (by decide +kernel) (by decide +kernel), big_mem 37 (by decide +kernel) (by decide +kernel), cbX8_isSpoilt⟩
set_option maxRecDepth 20000 in
theorem v8_286 : CV 8 286 mX8_passes 1 := ⟨big_mem 1428 (by decide +kernel) (by decide +kernel), big_mem 1430 (by decide +kernel) (by decide +kernel), big_mem 38 (by decide +kernel) (by decide +kernel), cbX8_passes⟩
set_option maxRecDepth 20000 in
theorem v8_289 : CV 8 289 mX8_moves 1 := ⟨big_mem 1432 (by decide +kernel) (by decide +kernel), big_mem 1434 (by decide +kernel) (by decide +kernel), big_mem 39 (by decide +kernel) (by decide +kernel), cbX8_moves⟩
set_option maxRecDepth 20000 in
theorem v8_292 : CV 8 292 mX8_worthBy 2 := ⟨big_mem 1436 (by decide +kernel) (by decide +kernel), big_mem 1438 (by decide +kernel) (by decide +kernel), big_mem 40 (by decide +kernel) (by decide +kernel), cbX8_worthBy⟩
set_option maxRecDepth 20000 in
theorem v9_84 : CV 9 84 mX8_had 0 := ⟨big_mem 1440 (by decide +kernel) (by decide +kernel), big_mem 1441 (by decide +kernel) (by decide +kernel), big_mem 1442 (by decide +kernel) (by decide +kernel), cbX8_had⟩
set_option maxRecDepth 20000 in
theorem v9_88 : CV 9 88 mX8_worth 1 := ⟨big_mem 1444 (by decide +kernel) (by decide +kernel), big_mem 1445 (by decide +kernel) (by decide +kernel), big_mem 1446 (by decide +kernel) (by decide +kernel), cbX8_worth⟩
set_option maxRecDepth 20000 in
theorem v8_323 : CV 8 323 mX8_takesOrder 1 := ⟨big_mem 1448 (by decide +kernel) (by decide +kernel), big_mem 1450 (by decide +kernel) (by decide +kernel), big_mem 41 (by decide +kernel) (by decide +kernel), cbX8_takesOrder⟩
set_option maxRecDepth 20000 in
theorem v8_304 : CV 8 304 mX8_openMany 0 := ⟨big_mem 1452 (by decide +kernel) (by decide +kernel), big_mem 1454 (by decide +kernel) (by decide +kernel), big_mem 42 (by decide +kernel) (by decide +kernel), cbX8_openMany⟩
set_option maxRecDepth 20000 in
theorem v8_307 : CV 8 307 mX8_isAllowed 1 := ⟨big_mem 1456 (by decide +kernel) (by decide +kernel), big_mem 1458 (by decide +kernel) (by decide +kernel), big_mem 43 (by decide +kernel) (by decide +kernel), cbX8_isAllowed⟩
set_option maxRecDepth 20000 in
theorem v8_326 : CV 8 326 mX8_goesThrough 2 := ⟨big_mem 1460 (by decide +kernel) (by decide +kernel), big_mem 1462 (by decide +kernel) (by decide +kernel), big_mem 44 (by decide +kernel) (by decide +kernel), cbX8_goesThrough⟩
set_option maxRecDepth 20000 in
theorem v8_310 : CV 8 310 mX8_lends 0 := ⟨big_mem 1464 (by decide +kernel) (by decide +kernel), big_mem 1466 (by decide +kernel) (by decide +kernel), big_mem 45 (by decide +kernel) (by decide +kernel), cbX8_lends⟩
set_option maxRecDepth 20000 in
theorem v9_92 : CV 9 92 mX8_ends 2 := ⟨big_mem 1468 (by decide +kernel) (by decide +kernel), big_mem 1469 (by decide +kernel) (by decide +kernel), big_mem 1470 (by decide +kernel) (by decide +kernel), cbX8_ends⟩
set_option maxRecDepth 20000 in
theorem v9_96 : CV 9 96 mX8_best 1 := ⟨big_mem 1472 (by decide +kernel) (by decide +kernel), big_mem 1473 (by decide +kernel) (by decide +kernel), big_mem 1474 (by decide +kernel) (by decide +kernel), cbX8_best⟩
set_option maxRecDepth 20000 in
theorem s8_344 : CS 8 344 mX8_isSide 1 := ⟨big_mem 1476 (by decide +kernel) (by decide +kernel), big_mem 1477 (by decide +kernel) (by decide +kernel), cbX8_isSide⟩
set_option maxRecDepth 20000 in
theorem v8_347 : CV 8 347 mX8_findBest 0 := ⟨big_mem 1479 (by decide +kernel) (by decide +kernel), big_mem 1481 (by decide +kernel) (by decide +kernel), big_mem 46 (by decide +kernel) (by decide +kernel), cbX8_findBest⟩
set_option maxRecDepth 20000 in
theorem v8_329 : CV 8 329 mX8_firstOrder 0 := ⟨big_mem 1483 (by decide +kernel) (by decide +kernel), big_mem 1485 (by decide +kernel) (by decide +kernel), big_mem 47 (by decide +kernel) (by decide +kernel), cbX8_firstOrder⟩
set_option maxRecDepth 20000 in
theorem v8_341 : CV 8 341 mX8_nextOrder 1 := ⟨big_mem 1487 (by decide +kernel) (by decide +kernel), big_mem 1489 (by decide +kernel) (by decide +kernel), big_mem 48 (by decide +kernel) (by decide +kernel), cbX8_nextOrder⟩
set_option maxRecDepth 20000 in
theorem v8_319 : CV 8 319 mX8_swaps 2 := ⟨big_mem 1491 (by decide +kernel) (by decide +kernel), big_mem 1493 (by decide +kernel) (by decide +kernel), big_mem 49 (by decide +kernel) (by decide +kernel), cbX8_swaps⟩
set_option maxRecDepth 20000 in
theorem s8_350 : CS 8 350 mX8_digitsOf 2 := ⟨big_mem 1495 (by decide +kernel) (by decide +kernel), big_mem 1496 (by decide +kernel) (by decide +kernel), cbX8_digitsOf⟩
set_option maxRecDepth 20000 in
theorem v9_100 : CV 9 100 mX8_fewest 0 := ⟨big_mem 1498 (by decide +kernel) (by decide +kernel), big_mem 1499 (by decide +kernel) (by decide +kernel), big_mem 1500 (by decide +kernel) (by decide +kernel), cbX8_fewest⟩
set_option maxRecDepth 20000 in
theorem v9_104 : CV 9 104 mX8_shortest 0 := ⟨big_mem 1502 (by decide +kernel) (by decide +kernel), big_mem 1503 (by decide +kernel) (by decide +kernel), big_mem 1504 (by decide +kernel) (by decide +kernel), cbX8_shortest⟩
set_option maxRecDepth 20000 in
theorem v9_109 : CV 9 109 mX8_mean 2 := ⟨big_mem 1506 (by decide +kernel) (by decide +kernel), big_mem 1507 (by decide +kernel) (by decide +kernel), big_mem 1508 (by decide +kernel) (by decide +kernel), cbX8_mean⟩
set_option maxRecDepth 20000 in
theorem v8_364 : CV 8 364 mX8_called 1 := ⟨big_mem 1510 (by decide +kernel) (by decide +kernel), big_mem 1512 (by decide +kernel) (by decide +kernel), big_mem 50 (by decide +kernel) (by decide +kernel), cbX8_called⟩
set_option maxRecDepth 20000 in
theorem v8_360 : CV 8 360 mX8_lowest 2 := ⟨big_mem 1514 (by decide +kernel) (by decide +kernel), big_mem 1516 (by decide +kernel) (by decide +kernel), big_mem 51 (by decide +kernel) (by decide +kernel), cbX8_lowest⟩
set_option maxRecDepth 20000 in
theorem v9_113 : CV 9 113 mX8_sure 2 := ⟨big_mem 1518 (by decide +kernel) (by decide +kernel), big_mem 1519 (by decide +kernel) (by decide +kernel), big_mem 1520 (by decide +kernel) (by decide +kernel), cbX8_sure⟩
set_option maxRecDepth 20000 in
theorem v9_117 : CV 9 117 mX8_bell 1 := ⟨big_mem 1522 (by decide +kernel) (by decide +kernel), big_mem 1523 (by decide +kernel) (by decide +kernel), big_mem 1524 (by decide +kernel) (by decide +kernel), cbX8_bell⟩
set_option maxRecDepth 20000 in
theorem v9_121 : CV 9 121 mX8_rule 2 := ⟨big_mem 1526 (by decide +kernel) (by decide +kernel), big_mem 1527 (by decide +kernel) (by decide +kernel), big_mem 1528 (by decide +kernel) (by decide +kernel), cbX8_rule⟩
set_option maxRecDepth 20000 in
theorem v9_125 : CV 9 125 mX8_ruleOf 2 := ⟨big_mem 1530 (by decide +kernel) (by decide +kernel), big_mem 1531 (by decide +kernel) (by decide +kernel), big_mem 1532 (by decide +kernel) (by decide +kernel), cbX8_ruleOf⟩
set_option maxRecDepth 20000 in
theorem v8_371 : CV 8 371 mX8_isRule 1 := ⟨big_mem 1534 (by decide +kernel) (by decide +kernel), big_mem 1536 (by decide +kernel) (by decide +kernel), big_mem 52 (by decide +kernel) (by decide +kernel), cbX8_isRule⟩
set_option maxRecDepth 20000 in
theorem v9_129 : CV 9 129 mX8_takes 1 := ⟨big_mem 1538 (by decide +kernel) (by decide +kernel), big_mem 1539 (by decide +kernel) (by decide +kernel), big_mem 1540 (by decide +kernel) (by decide +kernel), cbX8_takes⟩
set_option maxRecDepth 20000 in
theorem v8_392 : CV 8 392 mX8_takesOf 2 := ⟨big_mem 1542 (by decide +kernel) (by decide +kernel), big_mem 1544 (by decide +kernel) (by decide +kernel), big_mem 53 (by decide +kernel) (by decide +kernel), cbX8_takesOf⟩
set_option maxRecDepth 20000 in
theorem v8_374 : CV 8 374 mX8_firstFrom 2 := ⟨big_mem 1546 (by decide +kernel) (by decide +kernel), big_mem 1548 (by decide +kernel) (by decide +kernel), big_mem 54 (by decide +kernel) (by decide +kernel), cbX8_firstFrom⟩
set_option maxRecDepth 20000 in
theorem v8_377 : CV 8 377 mX8_soonestOf 1 := ⟨big_mem 1550 (by decide +kernel) (by decide +kernel), big_mem 1552 (by decide +kernel) (by decide +kernel), big_mem 55 (by decide +kernel) (by decide +kernel), cbX8_soonestOf⟩
set_option maxRecDepth 20000 in
theorem v8_380 : CV 8 380 mX8_worthiestOf 1 := ⟨big_mem 1554 (by decide +kernel) (by decide +kernel), big_mem 1556 (by decide +kernel) (by decide +kernel), big_mem 56 (by decide +kernel) (by decide +kernel), cbX8_worthiestOf⟩
set_option maxRecDepth 20000 in
theorem v8_383 : CV 8 383 mX8_kindestOf 2 := ⟨big_mem 1558 (by decide +kernel) (by decide +kernel), big_mem 1560 (by decide +kernel) (by decide +kernel), big_mem 57 (by decide +kernel) (by decide +kernel), cbX8_kindestOf⟩
set_option maxRecDepth 20000 in
theorem s8_386 : CS 8 386 mX8_ones 1 := ⟨big_mem 1562 (by decide +kernel) (by decide +kernel), big_mem 1563 (by decide +kernel) (by decide +kernel), cbX8_ones⟩
set_option maxRecDepth 20000 in
theorem v8_389 : CV 8 389 mX8_placeIn 2 := ⟨big_mem 1565 (by decide +kernel) (by decide +kernel), big_mem 1567 (by decide +kernel) (by decide +kernel), big_mem 58 (by decide +kernel) (by decide +kernel), cbX8_placeIn⟩
set_option maxRecDepth 20000 in
theorem v9_133 : CV 9 133 mX8_orderOf 1 := ⟨big_mem 1569 (by decide +kernel) (by decide +kernel), big_mem 1570 (by decide +kernel) (by decide +kernel), big_mem 1571 (by decide +kernel) (by decide +kernel), cbX8_orderOf⟩
set_option maxRecDepth 20000 in
theorem v9_137 : CV 9 137 mX8_prove 0 := ⟨big_mem 1573 (by decide +kernel) (by decide +kernel), big_mem 1574 (by decide +kernel) (by decide +kernel), big_mem 1575 (by decide +kernel) (by decide +kernel), cbX8_prove⟩
set_option maxRecDepth 20000 in
theorem v9_141 : CV 9 141 mX8_row 2 := ⟨big_mem 1577 (by decide +kernel) (by decide +kernel), big_mem 1578 (by decide +kernel) (by decide +kernel), big_mem 1579 (by decide +kernel) (by decide +kernel), cbX8_row⟩
set_option maxRecDepth 20000 in
theorem v8_395 : CV 8 395 mX8_isRow 2 := ⟨big_mem 1581 (by decide +kernel) (by decide +kernel), big_mem 1583 (by decide +kernel) (by decide +kernel), big_mem 59 (by decide +kernel) (by decide +kernel), cbX8_isRow⟩
set_option maxRecDepth 20000 in
theorem v9_145 : CV 9 145 mX8_alterRow 3 := ⟨big_mem 1585 (by decide +kernel) (by decide +kernel), big_mem 1586 (by decide +kernel) (by decide +kernel), big_mem 1587 (by decide +kernel) (by decide +kernel), cbX8_alterRow⟩
set_option maxRecDepth 20000 in
theorem v9_149 : CV 9 149 mX8_judge 0 := ⟨big_mem 1589 (by decide +kernel) (by decide +kernel), big_mem 1590 (by decide +kernel) (by decide +kernel), big_mem 1591 (by decide +kernel) (by decide +kernel), cbX8_judge⟩
set_option maxRecDepth 20000 in
theorem v8_398 : CV 8 398 mX8_rightMany 0 := ⟨big_mem 1593 (by decide +kernel) (by decide +kernel), big_mem 1595 (by decide +kernel) (by decide +kernel), big_mem 60 (by decide +kernel) (by decide +kernel), cbX8_rightMany⟩
set_option maxRecDepth 20000 in
theorem v9_153 : CV 9 153 mX8_dues 1 := ⟨big_mem 1597 (by decide +kernel) (by decide +kernel), big_mem 1598 (by decide +kernel) (by decide +kernel), big_mem 1599 (by decide +kernel) (by decide +kernel), cbX8_dues⟩
set_option maxRecDepth 20000 in
theorem s8_401 : CS 8 401 mX8_isShelf 1 := ⟨big_mem 1601 (by decide +kernel) (by decide +kernel), big_mem 1602 (by decide +kernel) (by decide +kernel), cbX8_isShelf⟩
set_option maxRecDepth 20000 in
theorem v8_404 : CV 8 404 mX8_lacksSort 2 := ⟨big_mem 1604 (by decide +kernel) (by decide +kernel), big_mem 1606 (by decide +kernel) (by decide +kernel), big_mem 61 (by decide +kernel) (by decide +kernel), cbX8_lacksSort⟩
set_option maxRecDepth 20000 in
theorem v9_157 : CV 9 157 mX8_sheet 3 := ⟨big_mem 1609 (by decide +kernel) (by decide +kernel), big_mem 1610 (by decide +kernel) (by decide +kernel), big_mem 1611 (by decide +kernel) (by decide +kernel), cbX8_sheet⟩
set_option maxRecDepth 20000 in
theorem v9_161 : CV 9 161 mX8_write 3 := ⟨big_mem 1613 (by decide +kernel) (by decide +kernel), big_mem 1614 (by decide +kernel) (by decide +kernel), big_mem 1615 (by decide +kernel) (by decide +kernel), cbX8_write⟩
set_option maxRecDepth 20000 in
theorem v9_165 : CV 9 165 mX8_item 3 := ⟨big_mem 1617 (by decide +kernel) (by decide +kernel), big_mem 1618 (by decide +kernel) (by decide +kernel), big_mem 1619 (by decide +kernel) (by decide +kernel), cbX8_item⟩
set_option maxRecDepth 20000 in
theorem v9_169 : CV 9 169 mX8_shelf 3 := ⟨big_mem 1621 (by decide +kernel) (by decide +kernel), big_mem 1622 (by decide +kernel) (by decide +kernel), big_mem 1623 (by decide +kernel) (by decide +kernel), cbX8_shelf⟩
set_option maxRecDepth 20000 in
theorem v8_409 : CV 8 409 mX8_isHeld 2 := ⟨big_mem 1625 (by decide +kernel) (by decide +kernel), big_mem 1627 (by decide +kernel) (by decide +kernel), big_mem 62 (by decide +kernel) (by decide +kernel), cbX8_isHeld⟩
set_option maxRecDepth 20000 in
theorem v9_173 : CV 9 173 mX8_taken 2 := ⟨big_mem 1629 (by decide +kernel) (by decide +kernel), big_mem 1630 (by decide +kernel) (by decide +kernel), big_mem 1631 (by decide +kernel) (by decide +kernel), cbX8_taken⟩
set_option maxRecDepth 20000 in
theorem v8_412 : CV 8 412 mX8_kindOn 1 := ⟨big_mem 1633 (by decide +kernel) (by decide +kernel), big_mem 1635 (by decide +kernel) (by decide +kernel), big_mem 63 (by decide +kernel) (by decide +kernel), cbX8_kindOn⟩
set_option maxRecDepth 20000 in
theorem s8_415 : CS 8 415 mX8_isUnder 2 := ⟨big_mem 1637 (by decide +kernel) (by decide +kernel), big_mem 1638 (by decide +kernel) (by decide +kernel), cbX8_isUnder⟩
set_option maxRecDepth 20000 in
theorem v9_177 : CV 9 177 mX8_act 3 := ⟨big_mem 1640 (by decide +kernel) (by decide +kernel), big_mem 1641 (by decide +kernel) (by decide +kernel), big_mem 1642 (by decide +kernel) (by decide +kernel), cbX8_act⟩
set_option maxRecDepth 20000 in
theorem v8_436 : CV 8 436 mX8_movesIt 1 := ⟨big_mem 1644 (by decide +kernel) (by decide +kernel), big_mem 1646 (by decide +kernel) (by decide +kernel), big_mem 64 (by decide +kernel) (by decide +kernel), cbX8_movesIt⟩
set_option maxRecDepth 20000 in
theorem v8_433 : CV 8 433 mX8_soonMoves 1 := ⟨big_mem 1648 (by decide +kernel) (by decide +kernel), big_mem 1650 (by decide +kernel) (by decide +kernel), big_mem 65 (by decide +kernel) (by decide +kernel), cbX8_soonMoves⟩
set_option maxRecDepth 20000 in
theorem v8_421 : CV 8 421 mX8_ran 1 := ⟨big_mem 1652 (by decide +kernel) (by decide +kernel), big_mem 1654 (by decide +kernel) (by decide +kernel), big_mem 66 (by decide +kernel) (by decide +kernel), cbX8_ran⟩
set_option maxRecDepth 20000 in
theorem v8_427 : CV 8 427 mX8_plainMoves 1 := ⟨big_mem 1656 (by decide +kernel) (by decide +kernel), big_mem 1658 (by decide +kernel) (by decide +kernel), big_mem 67 (by decide +kernel) (by decide +kernel), cbX8_plainMoves⟩
set_option maxRecDepth 20000 in
theorem v8_451 : CV 8 451 mX8_callsIt 1 := ⟨big_mem 1660 (by decide +kernel) (by decide +kernel), big_mem 1662 (by decide +kernel) (by decide +kernel), big_mem 68 (by decide +kernel) (by decide +kernel), cbX8_callsIt⟩
set_option maxRecDepth 20000 in
theorem v8_439 : CV 8 439 mX8_plainCalls 1 := ⟨big_mem 1664 (by decide +kernel) (by decide +kernel), big_mem 1666 (by decide +kernel) (by decide +kernel), big_mem 69 (by decide +kernel) (by decide +kernel), cbX8_plainCalls⟩
set_option maxRecDepth 20000 in
theorem v8_457 : CV 8 457 mX8_sharesIt 1 := ⟨big_mem 1668 (by decide +kernel) (by decide +kernel), big_mem 1670 (by decide +kernel) (by decide +kernel), big_mem 70 (by decide +kernel) (by decide +kernel), cbX8_sharesIt⟩
set_option maxRecDepth 20000 in
theorem v8_448 : CV 8 448 mX8_plainShares 1 := ⟨big_mem 1672 (by decide +kernel) (by decide +kernel), big_mem 1674 (by decide +kernel) (by decide +kernel), big_mem 71 (by decide +kernel) (by decide +kernel), cbX8_plainShares⟩
set_option maxRecDepth 20000 in
theorem v8_460 : CV 8 460 mX8_tellsIt 1 := ⟨big_mem 1676 (by decide +kernel) (by decide +kernel), big_mem 1678 (by decide +kernel) (by decide +kernel), big_mem 72 (by decide +kernel) (by decide +kernel), cbX8_tellsIt⟩
set_option maxRecDepth 20000 in
theorem v8_454 : CV 8 454 mX8_plainTells 1 := ⟨big_mem 1680 (by decide +kernel) (by decide +kernel), big_mem 1682 (by decide +kernel) (by decide +kernel), big_mem 73 (by decide +kernel) (by decide +kernel), cbX8_plainTells⟩
set_option maxRecDepth 20000 in
theorem v9_181 : CV 9 181 mX8_trace 1 := ⟨big_mem 1684 (by decide +kernel) (by decide +kernel), big_mem 1685 (by decide +kernel) (by decide +kernel), big_mem 1686 (by decide +kernel) (by decide +kernel), cbX8_trace⟩
set_option maxRecDepth 20000 in
theorem v9_185 : CV 9 185 mX8_many 1 := ⟨big_mem 1688 (by decide +kernel) (by decide +kernel), big_mem 1689 (by decide +kernel) (by decide +kernel), big_mem 1690 (by decide +kernel) (by decide +kernel), cbX8_many⟩
set_option maxRecDepth 20000 in
theorem v9_189 : CV 9 189 mX8_keep 0 := ⟨big_mem 1692 (by decide +kernel) (by decide +kernel), big_mem 1693 (by decide +kernel) (by decide +kernel), big_mem 1694 (by decide +kernel) (by decide +kernel), cbX8_keep⟩
set_option maxRecDepth 20000 in
theorem v8_470 : CV 8 470 mX8_moveAll 1 := ⟨big_mem 1696 (by decide +kernel) (by decide +kernel), big_mem 1698 (by decide +kernel) (by decide +kernel), big_mem 74 (by decide +kernel) (by decide +kernel), cbX8_moveAll⟩
set_option maxRecDepth 20000 in
theorem v8_466 : CV 8 466 mX8_moveRow 3 := ⟨big_mem 1700 (by decide +kernel) (by decide +kernel), big_mem 1702 (by decide +kernel) (by decide +kernel), big_mem 75 (by decide +kernel) (by decide +kernel), cbX8_moveRow⟩
set_option maxRecDepth 20000 in
theorem v9_193 : CV 9 193 mX8_again 0 := ⟨big_mem 1704 (by decide +kernel) (by decide +kernel), big_mem 1705 (by decide +kernel) (by decide +kernel), big_mem 1706 (by decide +kernel) (by decide +kernel), cbX8_again⟩
set_option maxRecDepth 20000 in
theorem f3_9 : FL 3 9 3 0 := ⟨_, rfl, by decide, big_mem 121 (by decide +kernel) (by decide +kernel)⟩
set_option maxRecDepth 20000 in
theorem f5_77 : FL 5 77 3 0 := ⟨_, rfl, by decide, big_mem 122 (by decide +kernel) (by decide +kernel)⟩
set_option maxRecDepth 20000 in
theorem f3_15 : FL 3 15 3 1 := ⟨_, rfl, by decide, big_mem 123 (by decide +kernel) (by decide +kernel)⟩
set_option maxRecDepth 20000 in
theorem f5_80 : FL 5 80 3 1 := ⟨_, rfl, by decide, big_mem 124 (by decide +kernel) (by decide +kernel)⟩
set_option maxRecDepth 20000 in
theorem f3_18 : FL 3 18 3 2 := ⟨_, rfl, by decide, big_mem 125 (by decide +kernel) (by decide +kernel)⟩
set_option maxRecDepth 20000 in
theorem f7_116 : FL 7 116 3 2 := ⟨_, rfl, by decide, big_mem 126 (by decide +kernel) (by decide +kernel)⟩
set_option maxRecDepth 20000 in
theorem f5_107 : FL 5 107 3 2 := ⟨_, rfl, by decide, big_mem 127 (by decide +kernel) (by decide +kernel)⟩
set_option maxRecDepth 20000 in
theorem f2_153 : FL 2 153 3 2 := ⟨_, rfl, by decide, big_mem 128 (by decide +kernel) (by decide +kernel)⟩
set_option maxRecDepth 20000 in
theorem f3_21 : FL 3 21 3 3 := ⟨_, rfl, by decide, big_mem 129 (by decide +kernel) (by decide +kernel)⟩
set_option maxRecDepth 20000 in
theorem f5_110 : FL 5 110 3 3 := ⟨_, rfl, by decide, big_mem 130 (by decide +kernel) (by decide +kernel)⟩
set_option maxRecDepth 20000 in
theorem f7_155 : FL 7 155 3 3 := ⟨_, rfl, by decide, big_mem 131 (by decide +kernel) (by decide +kernel)⟩
set_option maxRecDepth 20000 in
theorem f2_156 : FL 2 156 3 3 := ⟨_, rfl, by decide, big_mem 132 (by decide +kernel) (by decide +kernel)⟩
set_option maxRecDepth 20000 in
theorem f3_24 : FL 3 24 3 4 := ⟨_, rfl, by decide, big_mem 133 (by decide +kernel) (by decide +kernel)⟩
set_option maxRecDepth 20000 in
theorem f5_54 : FL 5 54 3 4 := ⟨_, rfl, by decide, big_mem 134 (by decide +kernel) (by decide +kernel)⟩
set_option maxRecDepth 20000 in
theorem f2_88 : FL 2 88 3 4 := ⟨_, rfl, by decide, big_mem 135 (by decide +kernel) (by decide +kernel)⟩
set_option maxRecDepth 20000 in
theorem f7_175 : FL 7 175 3 4 := ⟨_, rfl, by decide, big_mem 136 (by decide +kernel) (by decide +kernel)⟩
set_option maxRecDepth 20000 in
theorem f3_28 : FL 3 28 3 5 := ⟨_, rfl, by decide, big_mem 137 (by decide +kernel) (by decide +kernel)⟩
set_option maxRecDepth 20000 in
theorem f2_113 : FL 2 113 3 5 := ⟨_, rfl, by decide, big_mem 138 (by decide +kernel) (by decide +kernel)⟩
set_option maxRecDepth 20000 in
theorem f7_193 : FL 7 193 3 5 := ⟨_, rfl, by decide, big_mem 139 (by decide +kernel) (by decide +kernel)⟩
set_option maxRecDepth 20000 in
theorem f5_164 : FL 5 164 3 5 := ⟨_, rfl, by decide, big_mem 140 (by decide +kernel) (by decide +kernel)⟩
set_option maxRecDepth 20000 in
theorem f3_31 : FL 3 31 3 6 := ⟨_, rfl, by decide, big_mem 141 (by decide +kernel) (by decide +kernel)⟩
set_option maxRecDepth 20000 in
theorem f2_110 : FL 2 110 3 6 := ⟨_, rfl, by decide, big_mem 142 (by decide +kernel) (by decide +kernel)⟩
set_option maxRecDepth 20000 in
theorem f5_148 : FL 5 148 3 6 := ⟨_, rfl, by decide, big_mem 143 (by decide +kernel) (by decide +kernel)⟩
set_option maxRecDepth 20000 in
theorem f6_7 : FL 6 7 6 0 := ⟨_, rfl, by decide, big_mem 165 (by decide +kernel) (by decide +kernel)⟩
set_option maxRecDepth 20000 in
theorem f5_83 : FL 5 83 6 0 := ⟨_, rfl, by decide, big_mem 166 (by decide +kernel) (by decide +kernel)⟩
set_option maxRecDepth 20000 in
theorem f7_137 : FL 7 137 6 0 := ⟨_, rfl, by decide, big_mem 167 (by decide +kernel) (by decide +kernel)⟩
set_option maxRecDepth 20000 in
theorem f2_186 : FL 2 186 6 0 := ⟨_, rfl, by decide, big_mem 168 (by decide +kernel) (by decide +kernel)⟩
set_option maxRecDepth 20000 in
theorem f6_13 : FL 6 13 6 1 := ⟨_, rfl, by decide, big_mem 169 (by decide +kernel) (by decide +kernel)⟩
set_option maxRecDepth 20000 in
theorem f5_86 : FL 5 86 6 1 := ⟨_, rfl, by decide, big_mem 170 (by decide +kernel) (by decide +kernel)⟩
set_option maxRecDepth 20000 in
theorem f7_140 : FL 7 140 6 1 := ⟨_, rfl, by decide, big_mem 171 (by decide +kernel) (by decide +kernel)⟩
set_option maxRecDepth 20000 in
theorem f6_16 : FL 6 16 6 2 := ⟨_, rfl, by decide, big_mem 172 (by decide +kernel) (by decide +kernel)⟩
set_option maxRecDepth 20000 in
theorem f5_89 : FL 5 89 6 2 := ⟨_, rfl, by decide, big_mem 173 (by decide +kernel) (by decide +kernel)⟩
set_option maxRecDepth 20000 in
theorem f7_143 : FL 7 143 6 2 := ⟨_, rfl, by decide, big_mem 174 (by decide +kernel) (by decide +kernel)⟩
set_option maxRecDepth 20000 in
theorem f6_19 : FL 6 19 6 3 := ⟨_, rfl, by decide, big_mem 175 (by decide +kernel) (by decide +kernel)⟩
set_option maxRecDepth 20000 in
theorem f5_92 : FL 5 92 6 3 := ⟨_, rfl, by decide, big_mem 176 (by decide +kernel) (by decide +kernel)⟩
set_option maxRecDepth 20000 in
theorem f7_146 : FL 7 146 6 3 := ⟨_, rfl, by decide, big_mem 177 (by decide +kernel) (by decide +kernel)⟩
set_option maxRecDepth 20000 in
theorem f6_22 : FL 6 22 6 4 := ⟨_, rfl, by decide, big_mem 178 (by decide +kernel) (by decide +kernel)⟩
set_option maxRecDepth 20000 in
theorem f5_95 : FL 5 95 6 4 := ⟨_, rfl, by decide, big_mem 179 (by decide +kernel) (by decide +kernel)⟩
set_option maxRecDepth 20000 in
theorem f7_149 : FL 7 149 6 4 := ⟨_, rfl, by decide, big_mem 180 (by decide +kernel) (by decide +kernel)⟩
set_option maxRecDepth 20000 in
theorem f6_25 : FL 6 25 6 5 := ⟨_, rfl, by decide, big_mem 181 (by decide +kernel) (by decide +kernel)⟩
set_option maxRecDepth 20000 in
theorem f5_98 : FL 5 98 6 5 := ⟨_, rfl, by decide, big_mem 182 (by decide +kernel) (by decide +kernel)⟩
set_option maxRecDepth 20000 in
theorem f7_152 : FL 7 152 6 5 := ⟨_, rfl, by decide, big_mem 183 (by decide +kernel) (by decide +kernel)⟩
set_option maxRecDepth 20000 in
theorem f2_180 : FL 2 180 6 5 := ⟨_, rfl, by decide, big_mem 184 (by decide +kernel) (by decide +kernel)⟩
set_option maxRecDepth 20000 in
theorem f6_28 : FL 6 28 6 6 := ⟨_, rfl, by decide, big_mem 185 (by decide +kernel) (by decide +kernel)⟩
set_option maxRecDepth 20000 in
theorem f2_79 : FL 2 79 6 6 := ⟨_, rfl, by decide, big_mem 186 (by decide +kernel) (by decide +kernel)⟩
set_option maxRecDepth 20000 in
theorem f7_125 : FL 7 125 6 6 := ⟨_, rfl, by decide, big_mem 187 (by decide +kernel) (by decide +kernel)⟩
set_option maxRecDepth 20000 in
theorem f5_101 : FL 5 101 6 6 := ⟨_, rfl, by decide, big_mem 188 (by decide +kernel) (by decide +kernel)⟩
set_option maxRecDepth 20000 in
theorem f4_148 : FL 4 148 6 6 := ⟨_, rfl, by decide, big_mem 189 (by decide +kernel) (by decide +kernel)⟩
set_option maxRecDepth 20000 in
theorem f6_31 : FL 6 31 6 7 := ⟨_, rfl, by decide, big_mem 190 (by decide +kernel) (by decide +kernel)⟩
set_option maxRecDepth 20000 in
theorem f7_130 : FL 7 130 6 7 := ⟨_, rfl, by decide, big_mem 191 (by decide +kernel) (by decide +kernel)⟩
set_option maxRecDepth 20000 in
theorem f5_104 : FL 5 104 6 7 := ⟨_, rfl, by decide, big_mem 192 (by decide +kernel) (by decide +kernel)⟩
set_option maxRecDepth 20000 in
theorem f4_154 : FL 4 154 6 7 := ⟨_, rfl, by decide, big_mem 193 (by decide +kernel) (by decide +kernel)⟩
set_option maxRecDepth 20000 in
theorem f5_9 : FL 5 9 5 0 := ⟨_, rfl, by decide, big_mem 211 (by decide +kernel) (by decide +kernel)⟩
set_option maxRecDepth 20000 in
theorem f7_91 : FL 7 91 5 0 := ⟨_, rfl, by decide, big_mem 212 (by decide +kernel) (by decide +kernel)⟩
set_option maxRecDepth 20000 in
theorem f4_118 : FL 4 118 5 0 := ⟨_, rfl, by decide, big_mem 213 (by decide +kernel) (by decide +kernel)⟩
set_option maxRecDepth 20000 in
theorem f5_15 : FL 5 15 5 1 := ⟨_, rfl, by decide, big_mem 214 (by decide +kernel) (by decide +kernel)⟩
set_option maxRecDepth 20000 in
theorem f7_98 : FL 7 98 5 1 := ⟨_, rfl, by decide, big_mem 215 (by decide +kernel) (by decide +kernel)⟩
set_option maxRecDepth 20000 in
theorem f4_124 : FL 4 124 5 1 := ⟨_, rfl, by decide, big_mem 216 (by decide +kernel) (by decide +kernel)⟩
set_option maxRecDepth 20000 in
theorem f5_18 : FL 5 18 5 2 := ⟨_, rfl, by decide, big_mem 217 (by decide +kernel) (by decide +kernel)⟩
set_option maxRecDepth 20000 in
theorem f7_84 : FL 7 84 5 2 := ⟨_, rfl, by decide, big_mem 218 (by decide +kernel) (by decide +kernel)⟩
set_option maxRecDepth 20000 in
theorem f2_129 : FL 2 129 5 2 := ⟨_, rfl, by decide, big_mem 219 (by decide +kernel) (by decide +kernel)⟩
set_option maxRecDepth 20000 in
theorem f4_130 : FL 4 130 5 2 := ⟨_, rfl, by decide, big_mem 220 (by decide +kernel) (by decide +kernel)⟩
set_option maxRecDepth 20000 in
theorem f5_21 : FL 5 21 5 3 := ⟨_, rfl, by decide, big_mem 221 (by decide +kernel) (by decide +kernel)⟩
set_option maxRecDepth 20000 in
theorem f7_228 : FL 7 228 5 3 := ⟨_, rfl, by decide, big_mem 222 (by decide +kernel) (by decide +kernel)⟩
set_option maxRecDepth 20000 in
theorem f5_24 : FL 5 24 5 4 := ⟨_, rfl, by decide, big_mem 223 (by decide +kernel) (by decide +kernel)⟩
set_option maxRecDepth 20000 in
theorem f5_28 : FL 5 28 5 5 := ⟨_, rfl, by decide, big_mem 224 (by decide +kernel) (by decide +kernel)⟩
set_option maxRecDepth 20000 in
theorem f5_33 : FL 5 33 5 6 := ⟨_, rfl, by decide, big_mem 225 (by decide +kernel) (by decide +kernel)⟩
set_option maxRecDepth 20000 in
theorem f2_75 : FL 2 75 5 6 := ⟨_, rfl, by decide, big_mem 226 (by decide +kernel) (by decide +kernel)⟩
set_option maxRecDepth 20000 in
theorem f7_121 : FL 7 121 5 6 := ⟨_, rfl, by decide, big_mem 227 (by decide +kernel) (by decide +kernel)⟩
set_option maxRecDepth 20000 in
theorem f4_144 : FL 4 144 5 6 := ⟨_, rfl, by decide, big_mem 228 (by decide +kernel) (by decide +kernel)⟩
set_option maxRecDepth 20000 in
theorem f5_37 : FL 5 37 5 7 := ⟨_, rfl, by decide, big_mem 229 (by decide +kernel) (by decide +kernel)⟩
set_option maxRecDepth 20000 in
theorem f2_91 : FL 2 91 5 7 := ⟨_, rfl, by decide, big_mem 230 (by decide +kernel) (by decide +kernel)⟩
set_option maxRecDepth 20000 in
theorem f7_172 : FL 7 172 5 7 := ⟨_, rfl, by decide, big_mem 231 (by decide +kernel) (by decide +kernel)⟩
set_option maxRecDepth 20000 in
theorem f4_113 : FL 4 113 5 7 := ⟨_, rfl, by decide, big_mem 232 (by decide +kernel) (by decide +kernel)⟩
set_option maxRecDepth 20000 in
theorem f5_40 : FL 5 40 5 8 := ⟨_, rfl, by decide, big_mem 233 (by decide +kernel) (by decide +kernel)⟩
set_option maxRecDepth 20000 in
theorem f2_162 : FL 2 162 5 8 := ⟨_, rfl, by decide, big_mem 234 (by decide +kernel) (by decide +kernel)⟩
set_option maxRecDepth 20000 in
theorem f7_237 : FL 7 237 5 8 := ⟨_, rfl, by decide, big_mem 235 (by decide +kernel) (by decide +kernel)⟩
set_option maxRecDepth 20000 in
theorem f5_43 : FL 5 43 5 9 := ⟨_, rfl, by decide, big_mem 236 (by decide +kernel) (by decide +kernel)⟩
set_option maxRecDepth 20000 in
theorem f2_159 : FL 2 159 5 9 := ⟨_, rfl, by decide, big_mem 237 (by decide +kernel) (by decide +kernel)⟩
set_option maxRecDepth 20000 in
theorem f7_240 : FL 7 240 5 9 := ⟨_, rfl, by decide, big_mem 238 (by decide +kernel) (by decide +kernel)⟩
set_option maxRecDepth 20000 in
theorem f5_49 : FL 5 49 5 10 := ⟨_, rfl, by decide, big_mem 239 (by decide +kernel) (by decide +kernel)⟩
set_option maxRecDepth 20000 in
theorem f2_59 : FL 2 59 5 10 := ⟨_, rfl, by decide, big_mem 240 (by decide +kernel) (by decide +kernel)⟩
set_option maxRecDepth 20000 in
theorem f7_112 : FL 7 112 5 10 := ⟨_, rfl, by decide, big_mem 241 (by decide +kernel) (by decide +kernel)⟩
set_option maxRecDepth 20000 in
theorem f2_12 : FL 2 12 2 0 := ⟨_, rfl, by decide, big_mem 268 (by decide +kernel) (by decide +kernel)⟩
set_option maxRecDepth 20000 in
theorem f7_16 : FL 7 16 2 0 := ⟨_, rfl, by decide, big_mem 269 (by decide +kernel) (by decide +kernel)⟩
set_option maxRecDepth 20000 in
theorem f2_20 : FL 2 20 2 1 := ⟨_, rfl, by decide, big_mem 270 (by decide +kernel) (by decide +kernel)⟩
set_option maxRecDepth 20000 in
theorem f2_24 : FL 2 24 2 2 := ⟨_, rfl, by decide, big_mem 271 (by decide +kernel) (by decide +kernel)⟩
set_option maxRecDepth 20000 in
theorem f2_28 : FL 2 28 2 3 := ⟨_, rfl, by decide, big_mem 272 (by decide +kernel) (by decide +kernel)⟩
set_option maxRecDepth 20000 in
theorem f2_31 : FL 2 31 2 4 := ⟨_, rfl, by decide, big_mem 273 (by decide +kernel) (by decide +kernel)⟩
set_option maxRecDepth 20000 in
theorem f2_35 : FL 2 35 2 5 := ⟨_, rfl, by decide, big_mem 274 (by decide +kernel) (by decide +kernel)⟩
set_option maxRecDepth 20000 in
theorem f2_39 : FL 2 39 2 6 := ⟨_, rfl, by decide, big_mem 275 (by decide +kernel) (by decide +kernel)⟩
set_option maxRecDepth 20000 in
theorem f7_209 : FL 7 209 2 6 := ⟨_, rfl, by decide, big_mem 276 (by decide +kernel) (by decide +kernel)⟩
set_option maxRecDepth 20000 in
theorem f2_42 : FL 2 42 2 7 := ⟨_, rfl, by decide, big_mem 277 (by decide +kernel) (by decide +kernel)⟩
set_option maxRecDepth 20000 in
theorem f7_212 : FL 7 212 2 7 := ⟨_, rfl, by decide, big_mem 278 (by decide +kernel) (by decide +kernel)⟩
set_option maxRecDepth 20000 in
theorem f2_45 : FL 2 45 2 8 := ⟨_, rfl, by decide, big_mem 279 (by decide +kernel) (by decide +kernel)⟩
set_option maxRecDepth 20000 in
theorem f7_215 : FL 7 215 2 8 := ⟨_, rfl, by decide, big_mem 280 (by decide +kernel) (by decide +kernel)⟩
set_option maxRecDepth 20000 in
theorem f2_48 : FL 2 48 2 9 := ⟨_, rfl, by decide, big_mem 281 (by decide +kernel) (by decide +kernel)⟩
set_option maxRecDepth 20000 in
theorem f7_218 : FL 7 218 2 9 := ⟨_, rfl, by decide, big_mem 282 (by decide +kernel) (by decide +kernel)⟩
set_option maxRecDepth 20000 in
theorem f2_51 : FL 2 51 2 10 := ⟨_, rfl, by decide, big_mem 283 (by decide +kernel) (by decide +kernel)⟩
set_option maxRecDepth 20000 in
theorem f7_327 : FL 7 327 2 10 := ⟨_, rfl, by decide, big_mem 284 (by decide +kernel) (by decide +kernel)⟩
set_option maxRecDepth 20000 in
theorem f2_55 : FL 2 55 2 11 := ⟨_, rfl, by decide, big_mem 285 (by decide +kernel) (by decide +kernel)⟩
set_option maxRecDepth 20000 in
theorem f7_331 : FL 7 331 2 11 := ⟨_, rfl, by decide, big_mem 286 (by decide +kernel) (by decide +kernel)⟩
set_option maxRecDepth 20000 in
theorem f4_11 : FL 4 11 4 0 := ⟨_, rfl, by decide, big_mem 320 (by decide +kernel) (by decide +kernel)⟩
set_option maxRecDepth 20000 in
theorem f4_15 : FL 4 15 4 1 := ⟨_, rfl, by decide, big_mem 321 (by decide +kernel) (by decide +kernel)⟩
set_option maxRecDepth 20000 in
theorem f7_67 : FL 7 67 4 1 := ⟨_, rfl, by decide, big_mem 322 (by decide +kernel) (by decide +kernel)⟩
set_option maxRecDepth 20000 in
theorem f4_19 : FL 4 19 4 2 := ⟨_, rfl, by decide, big_mem 323 (by decide +kernel) (by decide +kernel)⟩
set_option maxRecDepth 20000 in
theorem f4_22 : FL 4 22 4 3 := ⟨_, rfl, by decide, big_mem 324 (by decide +kernel) (by decide +kernel)⟩
set_option maxRecDepth 20000 in
theorem f4_25 : FL 4 25 4 4 := ⟨_, rfl, by decide, big_mem 325 (by decide +kernel) (by decide +kernel)⟩
set_option maxRecDepth 20000 in
theorem f4_28 : FL 4 28 4 5 := ⟨_, rfl, by decide, big_mem 326 (by decide +kernel) (by decide +kernel)⟩
set_option maxRecDepth 20000 in
theorem f0_11 : FL 0 11 0 0 := ⟨_, rfl, by decide, big_mem 347 (by decide +kernel) (by decide +kernel)⟩
set_option maxRecDepth 20000 in
theorem f7_312 : FL 7 312 0 0 := ⟨_, rfl, by decide, big_mem 348 (by decide +kernel) (by decide +kernel)⟩
set_option maxRecDepth 20000 in
theorem f0_15 : FL 0 15 0 1 := ⟨_, rfl, by decide, big_mem 349 (by decide +kernel) (by decide +kernel)⟩
set_option maxRecDepth 20000 in
theorem f7_307 : FL 7 307 0 1 := ⟨_, rfl, by decide, big_mem 350 (by decide +kernel) (by decide +kernel)⟩
set_option maxRecDepth 20000 in
theorem f0_19 : FL 0 19 0 2 := ⟨_, rfl, by decide, big_mem 351 (by decide +kernel) (by decide +kernel)⟩
set_option maxRecDepth 20000 in
theorem f0_23 : FL 0 23 0 3 := ⟨_, rfl, by decide, big_mem 352 (by decide +kernel) (by decide +kernel)⟩
set_option maxRecDepth 20000 in
theorem f0_26 : FL 0 26 0 4 := ⟨_, rfl, by decide, big_mem 353 (by decide +kernel) (by decide +kernel)⟩
set_option maxRecDepth 20000 in
theorem f0_29 : FL 0 29 0 5 := ⟨_, rfl, by decide, big_mem 354 (by decide +kernel) (by decide +kernel)⟩
set_option maxRecDepth 20000 in
theorem f1_11 : FL 1 11 1 0 := ⟨_, rfl, by decide, big_mem 376 (by decide +kernel) (by decide +kernel)⟩
set_option maxRecDepth 20000 in
theorem f7_285 : FL 7 285 1 0 := ⟨_, rfl, by decide, big_mem 377 (by decide +kernel) (by decide +kernel)⟩
set_option maxRecDepth 20000 in
theorem f1_15 : FL 1 15 1 1 := ⟨_, rfl, by decide, big_mem 378 (by decide +kernel) (by decide +kernel)⟩
set_option maxRecDepth 20000 in
theorem f7_263 : FL 7 263 1 1 := ⟨_, rfl, by decide, big_mem 379 (by decide +kernel) (by decide +kernel)⟩
set_option maxRecDepth 20000 in
theorem f1_20 : FL 1 20 1 2 := ⟨_, rfl, by decide, big_mem 380 (by decide +kernel) (by decide +kernel)⟩
set_option maxRecDepth 20000 in
theorem f7_271 : FL 7 271 1 2 := ⟨_, rfl, by decide, big_mem 381 (by decide +kernel) (by decide +kernel)⟩
set_option maxRecDepth 20000 in
theorem f1_23 : FL 1 23 1 3 := ⟨_, rfl, by decide, big_mem 382 (by decide +kernel) (by decide +kernel)⟩
set_option maxRecDepth 20000 in
theorem f7_334 : FL 7 334 1 3 := ⟨_, rfl, by decide, big_mem 383 (by decide +kernel) (by decide +kernel)⟩
set_option maxRecDepth 20000 in
theorem f1_26 : FL 1 26 1 4 := ⟨_, rfl, by decide, big_mem 384 (by decide +kernel) (by decide +kernel)⟩
set_option maxRecDepth 20000 in
theorem f7_298 : FL 7 298 1 4 := ⟨_, rfl, by decide, big_mem 385 (by decide +kernel) (by decide +kernel)⟩
set_option maxRecDepth 20000 in
theorem f1_29 : FL 1 29 1 5 := ⟨_, rfl, by decide, big_mem 386 (by decide +kernel) (by decide +kernel)⟩
set_option maxRecDepth 20000 in
theorem f7_301 : FL 7 301 1 5 := ⟨_, rfl, by decide, big_mem 387 (by decide +kernel) (by decide +kernel)⟩
set_option maxRecDepth 20000 in
theorem f7_10 : FL 7 10 7 0 := ⟨_, rfl, by decide, big_mem 402 (by decide +kernel) (by decide +kernel)⟩
set_option maxRecDepth 20000 in
theorem f7_20 : FL 7 20 7 1 := ⟨_, rfl, by decide, big_mem 403 (by decide +kernel) (by decide +kernel)⟩
set_option maxRecDepth 20000 in
theorem f7_24 : FL 7 24 7 2 := ⟨_, rfl, by decide, big_mem 404 (by decide +kernel) (by decide +kernel)⟩
set_option maxRecDepth 20000 in
theorem f7_27 : FL 7 27 7 3 := ⟨_, rfl, by decide, big_mem 405 (by decide +kernel) (by decide +kernel)⟩
set_option maxRecDepth 20000 in
theorem f7_33 : FL 7 33 7 4 := ⟨_, rfl, by decide, big_mem 406 (by decide +kernel) (by decide +kernel)⟩
set_option maxRecDepth 20000 in
theorem f7_40 : FL 7 40 7 5 := ⟨_, rfl, by decide, big_mem 407 (by decide +kernel) (by decide +kernel)⟩
set_option maxRecDepth 20000 in
theorem f7_47 : FL 7 47 7 6 := ⟨_, rfl, by decide, big_mem 408 (by decide +kernel) (by decide +kernel)⟩
set_option maxRecDepth 20000 in
theorem f7_51 : FL 7 51 7 7 := ⟨_, rfl, by decide, big_mem 409 (by decide +kernel) (by decide +kernel)⟩
set_option maxRecDepth 20000 in
theorem f7_55 : FL 7 55 7 8 := ⟨_, rfl, by decide, big_mem 410 (by decide +kernel) (by decide +kernel)⟩
set_option maxRecDepth 20000 in
theorem f7_59 : FL 7 59 7 9 := ⟨_, rfl, by decide, big_mem 411 (by decide +kernel) (by decide +kernel)⟩
set_option maxRecDepth 20000 in
theorem f8_225 : FL 8 225 8 0 := ⟨_, rfl, by decide, big_mem 1044 (by decide +kernel) (by decide +kernel)⟩
set_option maxRecDepth 20000 in
theorem f8_228 : FL 8 228 8 1 := ⟨_, rfl, by decide, big_mem 1045 (by decide +kernel) (by decide +kernel)⟩
set_option maxRecDepth 20000 in
theorem f8_99 : FL 8 99 8 2 := ⟨_, rfl, by decide, big_mem 1046 (by decide +kernel) (by decide +kernel)⟩
set_option maxRecDepth 20000 in
theorem f8_7 : FL 8 7 8 3 := ⟨_, rfl, by decide, big_mem 1047 (by decide +kernel) (by decide +kernel)⟩
set_option maxRecDepth 20000 in
theorem f8_13 : FL 8 13 8 4 := ⟨_, rfl, by decide, big_mem 1048 (by decide +kernel) (by decide +kernel)⟩
set_option maxRecDepth 20000 in
theorem f8_16 : FL 8 16 8 5 := ⟨_, rfl, by decide, big_mem 1049 (by decide +kernel) (by decide +kernel)⟩
set_option maxRecDepth 20000 in
theorem f8_19 : FL 8 19 8 6 := ⟨_, rfl, by decide, big_mem 1050 (by decide +kernel) (by decide +kernel)⟩
set_option maxRecDepth 20000 in
theorem f8_22 : FL 8 22 8 7 := ⟨_, rfl, by decide, big_mem 1051 (by decide +kernel) (by decide +kernel)⟩
set_option maxRecDepth 20000 in
theorem f8_25 : FL 8 25 8 8 := ⟨_, rfl, by decide, big_mem 1052 (by decide +kernel) (by decide +kernel)⟩
set_option maxRecDepth 20000 in
theorem f8_28 : FL 8 28 8 9 := ⟨_, rfl, by decide, big_mem 1053 (by decide +kernel) (by decide +kernel)⟩
set_option maxRecDepth 20000 in
theorem f8_240 : FL 8 240 8 10 := ⟨_, rfl, by decide, big_mem 1054 (by decide +kernel) (by decide +kernel)⟩
set_option maxRecDepth 20000 in
theorem f8_231 : FL 8 231 8 11 := ⟨_, rfl, by decide, big_mem 1055 (by decide +kernel) (by decide +kernel)⟩
set_option maxRecDepth 20000 in
theorem f8_368 : FL 8 368 8 12 := ⟨_, rfl, by decide, big_mem 1056 (by decide +kernel) (by decide +kernel)⟩
set_option maxRecDepth 20000 in
theorem f8_31 : FL 8 31 8 13 := ⟨_, rfl, by decide, big_mem 1057 (by decide +kernel) (by decide +kernel)⟩
set_option maxRecDepth 20000 in
theorem f8_34 : FL 8 34 8 14 := ⟨_, rfl, by decide, big_mem 1058 (by decide +kernel) (by decide +kernel)⟩
set_option maxRecDepth 20000 in
theorem f8_103 : FL 8 103 8 15 := ⟨_, rfl, by decide, big_mem 1059 (by decide +kernel) (by decide +kernel)⟩
set_option maxRecDepth 20000 in
theorem f8_125 : FL 8 125 8 16 := ⟨_, rfl, by decide, big_mem 1060 (by decide +kernel) (by decide +kernel)⟩
set_option maxRecDepth 20000 in
theorem f8_111 : FL 8 111 8 17 := ⟨_, rfl, by decide, big_mem 1061 (by decide +kernel) (by decide +kernel)⟩
set_option maxRecDepth 20000 in
theorem f8_108 : FL 8 108 8 18 := ⟨_, rfl, by decide, big_mem 1062 (by decide +kernel) (by decide +kernel)⟩
set_option maxRecDepth 20000 in
theorem f8_128 : FL 8 128 8 19 := ⟨_, rfl, by decide, big_mem 1063 (by decide +kernel) (by decide +kernel)⟩
set_option maxRecDepth 20000 in
theorem f8_132 : FL 8 132 8 20 := ⟨_, rfl, by decide, big_mem 1064 (by decide +kernel) (by decide +kernel)⟩
set_option maxRecDepth 20000 in
theorem f8_157 : FL 8 157 8 21 := ⟨_, rfl, by decide, big_mem 1065 (by decide +kernel) (by decide +kernel)⟩
set_option maxRecDepth 20000 in
theorem f8_177 : FL 8 177 8 22 := ⟨_, rfl, by decide, big_mem 1066 (by decide +kernel) (by decide +kernel)⟩
set_option maxRecDepth 20000 in
theorem f8_180 : FL 8 180 8 23 := ⟨_, rfl, by decide, big_mem 1067 (by decide +kernel) (by decide +kernel)⟩
set_option maxRecDepth 20000 in
theorem f8_174 : FL 8 174 8 24 := ⟨_, rfl, by decide, big_mem 1068 (by decide +kernel) (by decide +kernel)⟩
set_option maxRecDepth 20000 in
theorem f8_37 : FL 8 37 8 25 := ⟨_, rfl, by decide, big_mem 1069 (by decide +kernel) (by decide +kernel)⟩
set_option maxRecDepth 20000 in
theorem f8_40 : FL 8 40 8 26 := ⟨_, rfl, by decide, big_mem 1070 (by decide +kernel) (by decide +kernel)⟩
set_option maxRecDepth 20000 in
theorem f8_43 : FL 8 43 8 27 := ⟨_, rfl, by decide, big_mem 1071 (by decide +kernel) (by decide +kernel)⟩
set_option maxRecDepth 20000 in
theorem f8_46 : FL 8 46 8 28 := ⟨_, rfl, by decide, big_mem 1072 (by decide +kernel) (by decide +kernel)⟩
set_option maxRecDepth 20000 in
theorem f8_49 : FL 8 49 8 29 := ⟨_, rfl, by decide, big_mem 1073 (by decide +kernel) (by decide +kernel)⟩
set_option maxRecDepth 20000 in
theorem f8_52 : FL 8 52 8 30 := ⟨_, rfl, by decide, big_mem 1074 (by decide +kernel) (by decide +kernel)⟩
set_option maxRecDepth 20000 in
theorem f8_313 : FL 8 313 8 31 := ⟨_, rfl, by decide, big_mem 1075 (by decide +kernel) (by decide +kernel)⟩
set_option maxRecDepth 20000 in
theorem f8_316 : FL 8 316 8 32 := ⟨_, rfl, by decide, big_mem 1076 (by decide +kernel) (by decide +kernel)⟩
set_option maxRecDepth 20000 in
theorem f8_55 : FL 8 55 8 33 := ⟨_, rfl, by decide, big_mem 1077 (by decide +kernel) (by decide +kernel)⟩
set_option maxRecDepth 20000 in
theorem f8_58 : FL 8 58 8 34 := ⟨_, rfl, by decide, big_mem 1078 (by decide +kernel) (by decide +kernel)⟩
set_option maxRecDepth 20000 in
theorem f8_332 : FL 8 332 8 35 := ⟨_, rfl, by decide, big_mem 1079 (by decide +kernel) (by decide +kernel)⟩
set_option maxRecDepth 20000 in
theorem f8_335 : FL 8 335 8 36 := ⟨_, rfl, by decide, big_mem 1080 (by decide +kernel) (by decide +kernel)⟩
set_option maxRecDepth 20000 in
theorem f8_338 : FL 8 338 8 37 := ⟨_, rfl, by decide, big_mem 1081 (by decide +kernel) (by decide +kernel)⟩
set_option maxRecDepth 20000 in
theorem f8_354 : FL 8 354 8 38 := ⟨_, rfl, by decide, big_mem 1082 (by decide +kernel) (by decide +kernel)⟩
set_option maxRecDepth 20000 in
theorem f8_357 : FL 8 357 8 39 := ⟨_, rfl, by decide, big_mem 1083 (by decide +kernel) (by decide +kernel)⟩
set_option maxRecDepth 20000 in
theorem f8_61 : FL 8 61 8 40 := ⟨_, rfl, by decide, big_mem 1084 (by decide +kernel) (by decide +kernel)⟩
set_option maxRecDepth 20000 in
theorem f8_64 : FL 8 64 8 41 := ⟨_, rfl, by decide, big_mem 1085 (by decide +kernel) (by decide +kernel)⟩
set_option maxRecDepth 20000 in
theorem f8_234 : FL 8 234 8 42 := ⟨_, rfl, by decide, big_mem 1086 (by decide +kernel) (by decide +kernel)⟩
set_option maxRecDepth 20000 in
theorem f8_67 : FL 8 67 8 43 := ⟨_, rfl, by decide, big_mem 1087 (by decide +kernel) (by decide +kernel)⟩
set_option maxRecDepth 20000 in
theorem f8_70 : FL 8 70 8 44 := ⟨_, rfl, by decide, big_mem 1088 (by decide +kernel) (by decide +kernel)⟩
set_option maxRecDepth 20000 in
theorem f8_73 : FL 8 73 8 45 := ⟨_, rfl, by decide, big_mem 1089 (by decide +kernel) (by decide +kernel)⟩
set_option maxRecDepth 20000 in
theorem f8_77 : FL 8 77 8 46 := ⟨_, rfl, by decide, big_mem 1090 (by decide +kernel) (by decide +kernel)⟩
set_option maxRecDepth 20000 in
theorem f8_80 : FL 8 80 8 47 := ⟨_, rfl, by decide, big_mem 1091 (by decide +kernel) (by decide +kernel)⟩
set_option maxRecDepth 20000 in
theorem f8_83 : FL 8 83 8 48 := ⟨_, rfl, by decide, big_mem 1092 (by decide +kernel) (by decide +kernel)⟩
set_option maxRecDepth 20000 in
theorem f8_430 : FL 8 430 8 49 := ⟨_, rfl, by decide, big_mem 1093 (by decide +kernel) (by decide +kernel)⟩
set_option maxRecDepth 20000 in
theorem f8_424 : FL 8 424 8 50 := ⟨_, rfl, by decide, big_mem 1094 (by decide +kernel) (by decide +kernel)⟩
set_option maxRecDepth 20000 in
theorem f8_442 : FL 8 442 8 51 := ⟨_, rfl, by decide, big_mem 1095 (by decide +kernel) (by decide +kernel)⟩
set_option maxRecDepth 20000 in
theorem f8_86 : FL 8 86 8 52 := ⟨_, rfl, by decide, big_mem 1096 (by decide +kernel) (by decide +kernel)⟩
set_option maxRecDepth 20000 in
theorem f8_418 : FL 8 418 8 53 := ⟨_, rfl, by decide, big_mem 1097 (by decide +kernel) (by decide +kernel)⟩
set_option maxRecDepth 20000 in
theorem f8_445 : FL 8 445 8 54 := ⟨_, rfl, by decide, big_mem 1098 (by decide +kernel) (by decide +kernel)⟩
set_option maxRecDepth 20000 in
theorem f8_473 : FL 8 473 8 55 := ⟨_, rfl, by decide, big_mem 1099 (by decide +kernel) (by decide +kernel)⟩
set_option maxRecDepth 20000 in
theorem f8_89 : FL 8 89 8 56 := ⟨_, rfl, by decide, big_mem 1100 (by decide +kernel) (by decide +kernel)⟩
set_option maxRecDepth 20000 in
theorem f8_463 : FL 8 463 8 57 := ⟨_, rfl, by decide, big_mem 1101 (by decide +kernel) (by decide +kernel)⟩
set_option maxRecDepth 20000 in
theorem f8_92 : FL 8 92 8 58 := ⟨_, rfl, by decide, big_mem 1102 (by decide +kernel) (by decide +kernel)⟩
set_option maxRecDepth 20000 in
theorem t5_57 : Cond.methodLink (om_own 5) 57 arraycopyName ∈ BIG := big_mem 453 (by decide +kernel) (by decide +kernel)
set_option maxRecDepth 20000 in
theorem t3_34 : Cond.methodLink (om_own 3) 34 arraycopyName ∈ BIG := big_mem 601 (by decide +kernel) (by decide +kernel)
set_option maxRecDepth 20000 in
theorem t5_130 : Cond.methodLink (om_own 5) 130 Lib.Math.abs.name ∈ BIG := big_mem 673 (by decide +kernel) (by decide +kernel)
set_option maxRecDepth 20000 in
theorem t5_124 : Cond.methodLink (om_own 5) 124 Lib.Math.max.name ∈ BIG := big_mem 722 (by decide +kernel) (by decide +kernel)
set_option maxRecDepth 20000 in
theorem t6_34 : Cond.methodLink (om_own 6) 34 Lib.Math.max.name ∈ BIG := big_mem 733 (by decide +kernel) (by decide +kernel)
set_option maxRecDepth 20000 in
theorem t2_139 : Cond.methodLink (om_own 2) 139 Lib.Math.min.name ∈ BIG := big_mem 791 (by decide +kernel) (by decide +kernel)
set_option maxRecDepth 20000 in
theorem t2_183 : Cond.methodLink (om_own 2) 183 Lib.Math.max.name ∈ BIG := big_mem 876 (by decide +kernel) (by decide +kernel)
set_option maxRecDepth 20000 in
theorem t7_266 : Cond.methodLink (om_own 7) 266 Lib.Math.min.name ∈ BIG := big_mem 939 (by decide +kernel) (by decide +kernel)
set_option maxRecDepth 20000 in
theorem t7_275 : Cond.methodLink (om_own 7) 275 Lib.Math.max.name ∈ BIG := big_mem 940 (by decide +kernel) (by decide +kernel)
set_option maxRecDepth 20000 in
theorem k7_321 : Cond.constantLong (om_own 7) 321 (-1) ∈ BIG := big_mem 811 (by decide +kernel) (by decide +kernel)
set_option maxRecDepth 20000 in
theorem k2_116 : Cond.constantLong (om_own 2) 116 (2) ∈ BIG := big_mem 821 (by decide +kernel) (by decide +kernel)
set_option maxRecDepth 20000 in
theorem k8_106 : Cond.constantLong (om_own 8) 106 (255) ∈ BIG := big_mem 1229 (by decide +kernel) (by decide +kernel)
set_option maxRecDepth 20000 in
theorem k8_135 : Cond.constantLong (om_own 8) 135 (27) ∈ BIG := big_mem 1248 (by decide +kernel) (by decide +kernel)
set_option maxRecDepth 20000 in
theorem k8_137 : Cond.constantLong (om_own 8) 137 (96) ∈ BIG := big_mem 1249 (by decide +kernel) (by decide +kernel)
set_option maxRecDepth 20000 in
theorem k8_139 : Cond.constantLong (om_own 8) 139 (-1) ∈ BIG := big_mem 1250 (by decide +kernel) (by decide +kernel)
set_option maxRecDepth 20000 in
theorem k8_197 : Cond.constantLong (om_own 8) 197 (7220169) ∈ BIG := big_mem 1255 (by decide +kernel) (by decide +kernel)
set_option maxRecDepth 20000 in
theorem k8_203 : Cond.constantLong (om_own 8) 203 (10793230) ∈ BIG := big_mem 1276 (by decide +kernel) (by decide +kernel)
set_option maxRecDepth 20000 in
theorem k8_141 : Cond.constantLong (om_own 8) 141 (464141) ∈ BIG := big_mem 1281 (by decide +kernel) (by decide +kernel)
set_option maxRecDepth 20000 in
theorem k8_147 : Cond.constantLong (om_own 8) 147 (4351291) ∈ BIG := big_mem 1282 (by decide +kernel) (by decide +kernel)
set_option maxRecDepth 20000 in
theorem k8_149 : Cond.constantLong (om_own 8) 149 (60284) ∈ BIG := big_mem 1283 (by decide +kernel) (by decide +kernel)
set_option maxRecDepth 20000 in
theorem k8_151 : Cond.constantLong (om_own 8) 151 (383153) ∈ BIG := big_mem 1284 (by decide +kernel) (by decide +kernel)
set_option maxRecDepth 20000 in
theorem k8_153 : Cond.constantLong (om_own 8) 153 (9454493) ∈ BIG := big_mem 1285 (by decide +kernel) (by decide +kernel)
set_option maxRecDepth 20000 in
theorem k8_155 : Cond.constantLong (om_own 8) 155 (11570) ∈ BIG := big_mem 1286 (by decide +kernel) (by decide +kernel)
set_option maxRecDepth 20000 in
theorem k8_183 : Cond.constantLong (om_own 8) 183 (555) ∈ BIG := big_mem 1291 (by decide +kernel) (by decide +kernel)
set_option maxRecDepth 20000 in
theorem k8_189 : Cond.constantLong (om_own 8) 189 (79) ∈ BIG := big_mem 1296 (by decide +kernel) (by decide +kernel)
set_option maxRecDepth 20000 in
theorem k8_191 : Cond.constantLong (om_own 8) 191 (4797) ∈ BIG := big_mem 1297 (by decide +kernel) (by decide +kernel)
set_option maxRecDepth 20000 in
theorem k8_193 : Cond.constantLong (om_own 8) 193 (31519426) ∈ BIG := big_mem 1298 (by decide +kernel) (by decide +kernel)
set_option maxRecDepth 20000 in
theorem k8_195 : Cond.constantLong (om_own 8) 195 (335207579) ∈ BIG := big_mem 1299 (by decide +kernel) (by decide +kernel)
set_option maxRecDepth 20000 in
theorem k8_213 : Cond.constantLong (om_own 8) 213 (12257559) ∈ BIG := big_mem 1300 (by decide +kernel) (by decide +kernel)
set_option maxRecDepth 20000 in
theorem k8_218 : Cond.constantLong (om_own 8) 218 (60114) ∈ BIG := big_mem 1305 (by decide +kernel) (by decide +kernel)
set_option maxRecDepth 20000 in
theorem k8_220 : Cond.constantLong (om_own 8) 220 (43347) ∈ BIG := big_mem 1306 (by decide +kernel) (by decide +kernel)
set_option maxRecDepth 20000 in
theorem k8_407 : Cond.constantLong (om_own 8) 407 (999) ∈ BIG := big_mem 1608 (by decide +kernel) (by decide +kernel)
set_option maxRecDepth 20000 in
theorem k9_13 : Cond.constantLong (om_own 9) 13 (4294967295) ∈ BIG := big_mem 1708 (by decide +kernel) (by decide +kernel)
