abbrev mX8_maySet : Mi := (8, yX8_maySet, cX8_maySet, 3, (some .int))
set_option maxRecDepth 20000 in
theorem cbX8_maySet : CB mX8_maySet 0 := ⟨big_mem 85 (by decide +kernel) (by decide +kernel), big_mem 1411 (by decide +kernel) (by decide +kernel), by decide +kernel, by decide +kernel, by decide +kernel, by decide⟩
abbrev mX8_isFree : Mi := (8, yX8_isFree, cX8_isFree, 2, (some .boolean))
set_option maxRecDepth 20000 in
theorem cbX8_isFree : CB mX8_isFree 1 := ⟨big_mem 85 (by decide +kernel) (by decide +kernel), big_mem 1415 (by decide +kernel) (by decide +kernel), by decide +kernel, by decide +kernel, by decide +kernel, by decide⟩
abbrev mX8_does : Mi := (8, yX8_does, cX8_does, 3, (some .int))
set_option maxRecDepth 20000 in
theorem cbX8_does : CB mX8_does 1 := ⟨big_mem 85 (by decide +kernel) (by decide +kernel), big_mem 1419 (by decide +kernel) (by decide +kernel), by decide +kernel, by decide +kernel, by decide +kernel, by decide⟩
abbrev mX8_turns : Mi := (8, yX8_turns, cX8_turns, 2, (some .int))
set_option maxRecDepth 20000 in
theorem cbX8_turns : CB mX8_turns 1 := ⟨big_mem 85 (by decide +kernel) (by decide +kernel), big_mem 1423 (by decide +kernel) (by decide +kernel), by decide +kernel, by decide +kernel, by decide +kernel, by decide⟩
abbrev mX8_isSpoilt : Mi := (8, yX8_isSpoilt, cX8_isSpoilt, 3, (some .boolean))
set_option maxRecDepth 20000 in
theorem cbX8_isSpoilt : CB mX8_isSpoilt 1 := ⟨big_mem 85 (by decide +kernel) (by decide +kernel), big_mem 1427 (by decide +kernel) (by decide +kernel), by decide +kernel, by decide +kernel, by decide +kernel, by decide⟩
abbrev mX8_passes : Mi := (8, yX8_passes, cX8_passes, 3, none)
set_option maxRecDepth 20000 in
theorem cbX8_passes : CB mX8_passes 1 := ⟨big_mem 85 (by decide +kernel) (by decide +kernel), big_mem 1431 (by decide +kernel) (by decide +kernel), by decide +kernel, by decide +kernel, by decide +kernel, by decide⟩
abbrev mX8_moves : Mi := (8, yX8_moves, cX8_moves, 7, none)
set_option maxRecDepth 20000 in
theorem cbX8_moves : CB mX8_moves 1 := ⟨big_mem 85 (by decide +kernel) (by decide +kernel), big_mem 1435 (by decide +kernel) (by decide +kernel), by decide +kernel, by decide +kernel, by decide +kernel, by decide⟩
abbrev mX8_worthBy : Mi := (8, yX8_worthBy, cX8_worthBy, 5, (some .int))
set_option maxRecDepth 20000 in
theorem cbX8_worthBy : CB mX8_worthBy 2 := ⟨big_mem 85 (by decide +kernel) (by decide +kernel), big_mem 1439 (by decide +kernel) (by decide +kernel), by decide +kernel, by decide +kernel, by decide +kernel, by decide⟩
abbrev mX8_had : Mi := (8, yX8_had, cX8_had, 1, (some .int))
set_option maxRecDepth 20000 in
theorem cbX8_had : CB mX8_had 0 := ⟨big_mem 85 (by decide +kernel) (by decide +kernel), big_mem 1443 (by decide +kernel) (by decide +kernel), by decide +kernel, by decide +kernel, by decide +kernel, by decide⟩
abbrev mX8_worth : Mi := (8, yX8_worth, cX8_worth, 3, (some .int))
set_option maxRecDepth 20000 in
theorem cbX8_worth : CB mX8_worth 1 := ⟨big_mem 85 (by decide +kernel) (by decide +kernel), big_mem 1447 (by decide +kernel) (by decide +kernel), by decide +kernel, by decide +kernel, by decide +kernel, by decide⟩
abbrev mX8_takesOrder : Mi := (8, yX8_takesOrder, cX8_takesOrder, 5, (some .int))
set_option maxRecDepth 20000 in
theorem cbX8_takesOrder : CB mX8_takesOrder 1 := ⟨big_mem 85 (by decide +kernel) (by decide +kernel), big_mem 1451 (by decide +kernel) (by decide +kernel), by decide +kernel, by decide +kernel, by decide +kernel, by decide⟩
abbrev mX8_openMany : Mi := (8, yX8_openMany, cX8_openMany, 3, (some .int))
set_option maxRecDepth 20000 in
theorem cbX8_openMany : CB mX8_openMany 0 := ⟨big_mem 85 (by decide +kernel) (by decide +kernel), big_mem 1455 (by decide +kernel) (by decide +kernel), by decide +kernel, by decide +kernel, by decide +kernel, by decide⟩
abbrev mX8_isAllowed : Mi := (8, yX8_isAllowed, cX8_isAllowed, 5, (some .boolean))
set_option maxRecDepth 20000 in
theorem cbX8_isAllowed : CB mX8_isAllowed 1 := ⟨big_mem 85 (by decide +kernel) (by decide +kernel), big_mem 1459 (by decide +kernel) (by decide +kernel), by decide +kernel, by decide +kernel, by decide +kernel, by decide⟩
abbrev mX8_goesThrough : Mi := (8, yX8_goesThrough, cX8_goesThrough, 5, none)
set_option maxRecDepth 20000 in
theorem cbX8_goesThrough : CB mX8_goesThrough 2 := ⟨big_mem 85 (by decide +kernel) (by decide +kernel), big_mem 1463 (by decide +kernel) (by decide +kernel), by decide +kernel, by decide +kernel, by decide +kernel, by decide⟩
abbrev mX8_lends : Mi := (8, yX8_lends, cX8_lends, 2, none)
set_option maxRecDepth 20000 in
theorem cbX8_lends : CB mX8_lends 0 := ⟨big_mem 85 (by decide +kernel) (by decide +kernel), big_mem 1467 (by decide +kernel) (by decide +kernel), by decide +kernel, by decide +kernel, by decide +kernel, by decide⟩
abbrev mX8_ends : Mi := (8, yX8_ends, cX8_ends, 5, (some .int))
set_option maxRecDepth 20000 in
theorem cbX8_ends : CB mX8_ends 2 := ⟨big_mem 85 (by decide +kernel) (by decide +kernel), big_mem 1471 (by decide +kernel) (by decide +kernel), by decide +kernel, by decide +kernel, by decide +kernel, by decide⟩
abbrev mX8_best : Mi := (8, yX8_best, cX8_best, 3, (some .int))
set_option maxRecDepth 20000 in
theorem cbX8_best : CB mX8_best 1 := ⟨big_mem 85 (by decide +kernel) (by decide +kernel), big_mem 1475 (by decide +kernel) (by decide +kernel), by decide +kernel, by decide +kernel, by decide +kernel, by decide⟩
abbrev mX8_isSide : Mi := (8, yX8_isSide, cX8_isSide, 1, (some .boolean))
set_option maxRecDepth 20000 in
theorem cbX8_isSide : CB mX8_isSide 1 := ⟨big_mem 85 (by decide +kernel) (by decide +kernel), big_mem 1478 (by decide +kernel) (by decide +kernel), by decide +kernel, by decide +kernel, by decide +kernel, by decide⟩
abbrev mX8_findBest : Mi := (8, yX8_findBest, cX8_findBest, 5, (some .int))
set_option maxRecDepth 20000 in
theorem cbX8_findBest : CB mX8_findBest 0 := ⟨big_mem 85 (by decide +kernel) (by decide +kernel), big_mem 1482 (by decide +kernel) (by decide +kernel), by decide +kernel, by decide +kernel, by decide +kernel, by decide⟩
abbrev mX8_firstOrder : Mi := (8, yX8_firstOrder, cX8_firstOrder, 3, (some .int))
set_option maxRecDepth 20000 in
theorem cbX8_firstOrder : CB mX8_firstOrder 0 := ⟨big_mem 85 (by decide +kernel) (by decide +kernel), big_mem 1486 (by decide +kernel) (by decide +kernel), by decide +kernel, by decide +kernel, by decide +kernel, by decide⟩
abbrev mX8_nextOrder : Mi := (8, yX8_nextOrder, cX8_nextOrder, 5, (some .boolean))
set_option maxRecDepth 20000 in
theorem cbX8_nextOrder : CB mX8_nextOrder 1 := ⟨big_mem 85 (by decide +kernel) (by decide +kernel), big_mem 1490 (by decide +kernel) (by decide +kernel), by decide +kernel, by decide +kernel, by decide +kernel, by decide⟩
abbrev mX8_swaps : Mi := (8, yX8_swaps, cX8_swaps, 4, none)
set_option maxRecDepth 20000 in
theorem cbX8_swaps : CB mX8_swaps 2 := ⟨big_mem 85 (by decide +kernel) (by decide +kernel), big_mem 1494 (by decide +kernel) (by decide +kernel), by decide +kernel, by decide +kernel, by decide +kernel, by decide⟩
abbrev mX8_digitsOf : Mi := (8, yX8_digitsOf, cX8_digitsOf, 4, (some .int))
set_option maxRecDepth 20000 in
theorem cbX8_digitsOf : CB mX8_digitsOf 2 := ⟨big_mem 85 (by decide +kernel) (by decide +kernel), big_mem 1497 (by decide +kernel) (by decide +kernel), by decide +kernel, by decide +kernel, by decide +kernel, by decide⟩
abbrev mX8_fewest : Mi := (8, yX8_fewest, cX8_fewest, 1, (some .int))
set_option maxRecDepth 20000 in
theorem cbX8_fewest : CB mX8_fewest 0 := ⟨big_mem 85 (by decide +kernel) (by decide +kernel), big_mem 1501 (by decide +kernel) (by decide +kernel), by decide +kernel, by decide +kernel, by decide +kernel, by decide⟩
abbrev mX8_shortest : Mi := (8, yX8_shortest, cX8_shortest, 1, (some .int))
set_option maxRecDepth 20000 in
theorem cbX8_shortest : CB mX8_shortest 0 := ⟨big_mem 85 (by decide +kernel) (by decide +kernel), big_mem 1505 (by decide +kernel) (by decide +kernel), by decide +kernel, by decide +kernel, by decide +kernel, by decide⟩
abbrev mX8_mean : Mi := (8, yX8_mean, cX8_mean, 4, (some .long))
set_option maxRecDepth 20000 in
theorem cbX8_mean : CB mX8_mean 2 := ⟨big_mem 85 (by decide +kernel) (by decide +kernel), big_mem 1509 (by decide +kernel) (by decide +kernel), by decide +kernel, by decide +kernel, by decide +kernel, by decide⟩
abbrev mX8_called : Mi := (8, yX8_called, cX8_called, 9, none)
set_option maxRecDepth 20000 in
theorem cbX8_called : CB mX8_called 1 := ⟨big_mem 85 (by decide +kernel) (by decide +kernel), big_mem 1513 (by decide +kernel) (by decide +kernel), by decide +kernel, by decide +kernel, by decide +kernel, by decide⟩
abbrev mX8_lowest : Mi := (8, yX8_lowest, cX8_lowest, 11, none)
set_option maxRecDepth 20000 in
theorem cbX8_lowest : CB mX8_lowest 2 := ⟨big_mem 85 (by decide +kernel) (by decide +kernel), big_mem 1517 (by decide +kernel) (by decide +kernel), by decide +kernel, by decide +kernel, by decide +kernel, by decide⟩
abbrev mX8_sure : Mi := (8, yX8_sure, cX8_sure, 4, (some .long))
set_option maxRecDepth 20000 in
theorem cbX8_sure : CB mX8_sure 2 := ⟨big_mem 85 (by decide +kernel) (by decide +kernel), big_mem 1521 (by decide +kernel) (by decide +kernel), by decide +kernel, by decide +kernel, by decide +kernel, by decide⟩
abbrev mX8_bell : Mi := (8, yX8_bell, cX8_bell, 4, (some .int))
set_option maxRecDepth 20000 in
theorem cbX8_bell : CB mX8_bell 1 := ⟨big_mem 85 (by decide +kernel) (by decide +kernel), big_mem 1525 (by decide +kernel) (by decide +kernel), by decide +kernel, by decide +kernel, by decide +kernel, by decide⟩
abbrev mX8_rule : Mi := (8, yX8_rule, cX8_rule, 3, (some .int))
set_option maxRecDepth 20000 in
theorem cbX8_rule : CB mX8_rule 2 := ⟨big_mem 85 (by decide +kernel) (by decide +kernel), big_mem 1529 (by decide +kernel) (by decide +kernel), by decide +kernel, by decide +kernel, by decide +kernel, by decide⟩
abbrev mX8_ruleOf : Mi := (8, yX8_ruleOf, cX8_ruleOf, 3, (some .int))
set_option maxRecDepth 20000 in
theorem cbX8_ruleOf : CB mX8_ruleOf 2 := ⟨big_mem 85 (by decide +kernel) (by decide +kernel), big_mem 1533 (by decide +kernel) (by decide +kernel), by decide +kernel, by decide +kernel, by decide +kernel, by decide⟩
abbrev mX8_isRule : Mi := (8, yX8_isRule, cX8_isRule, 2, (some .boolean))
set_option maxRecDepth 20000 in
theorem cbX8_isRule : CB mX8_isRule 1 := ⟨big_mem 85 (by decide +kernel) (by decide +kernel), big_mem 1537 (by decide +kernel) (by decide +kernel), by decide +kernel, by decide +kernel, by decide +kernel, by decide⟩
abbrev mX8_takes : Mi := (8, yX8_takes, cX8_takes, 2, (some .int))
set_option maxRecDepth 20000 in
theorem cbX8_takes : CB mX8_takes 1 := ⟨big_mem 85 (by decide +kernel) (by decide +kernel), big_mem 1541 (by decide +kernel) (by decide +kernel), by decide +kernel, by decide +kernel, by decide +kernel, by decide⟩
abbrev mX8_takesOf : Mi := (8, yX8_takesOf, cX8_takesOf, 4, (some .int))
set_option maxRecDepth 20000 in
theorem cbX8_takesOf : CB mX8_takesOf 2 := ⟨big_mem 85 (by decide +kernel) (by decide +kernel), big_mem 1545 (by decide +kernel) (by decide +kernel), by decide +kernel, by decide +kernel, by decide +kernel, by decide⟩
abbrev mX8_firstFrom : Mi := (8, yX8_firstFrom, cX8_firstFrom, 4, (some .int))
set_option maxRecDepth 20000 in
theorem cbX8_firstFrom : CB mX8_firstFrom 2 := ⟨big_mem 85 (by decide +kernel) (by decide +kernel), big_mem 1549 (by decide +kernel) (by decide +kernel), by decide +kernel, by decide +kernel, by decide +kernel, by decide⟩
abbrev mX8_soonestOf : Mi := (8, yX8_soonestOf, cX8_soonestOf, 5, (some .int))
set_option maxRecDepth 20000 in
theorem cbX8_soonestOf : CB mX8_soonestOf 1 := ⟨big_mem 85 (by decide +kernel) (by decide +kernel), big_mem 1553 (by decide +kernel) (by decide +kernel), by decide +kernel, by decide +kernel, by decide +kernel, by decide⟩
abbrev mX8_worthiestOf : Mi := (8, yX8_worthiestOf, cX8_worthiestOf, 7, (some .int))
set_option maxRecDepth 20000 in
theorem cbX8_worthiestOf : CB mX8_worthiestOf 1 := ⟨big_mem 85 (by decide +kernel) (by decide +kernel), big_mem 1557 (by decide +kernel) (by decide +kernel), by decide +kernel, by decide +kernel, by decide +kernel, by decide⟩
abbrev mX8_kindestOf : Mi := (8, yX8_kindestOf, cX8_kindestOf, 6, (some .int))
set_option maxRecDepth 20000 in
theorem cbX8_kindestOf : CB mX8_kindestOf 2 := ⟨big_mem 85 (by decide +kernel) (by decide +kernel), big_mem 1561 (by decide +kernel) (by decide +kernel), by decide +kernel, by decide +kernel, by decide +kernel, by decide⟩
abbrev mX8_ones : Mi := (8, yX8_ones, cX8_ones, 3, (some .int))
set_option maxRecDepth 20000 in
theorem cbX8_ones : CB mX8_ones 1 := ⟨big_mem 85 (by decide +kernel) (by decide +kernel), big_mem 1564 (by decide +kernel) (by decide +kernel), by decide +kernel, by decide +kernel, by decide +kernel, by decide⟩
abbrev mX8_placeIn : Mi := (8, yX8_placeIn, cX8_placeIn, 5, (some .int))
set_option maxRecDepth 20000 in
theorem cbX8_placeIn : CB mX8_placeIn 2 := ⟨big_mem 85 (by decide +kernel) (by decide +kernel), big_mem 1568 (by decide +kernel) (by decide +kernel), by decide +kernel, by decide +kernel, by decide +kernel, by decide⟩
abbrev mX8_orderOf : Mi := (8, yX8_orderOf, cX8_orderOf, 4, (some .int))
set_option maxRecDepth 20000 in
theorem cbX8_orderOf : CB mX8_orderOf 1 := ⟨big_mem 85 (by decide +kernel) (by decide +kernel), big_mem 1572 (by decide +kernel) (by decide +kernel), by decide +kernel, by decide +kernel, by decide +kernel, by decide⟩
abbrev mX8_prove : Mi := (8, yX8_prove, cX8_prove, 3, (some .int))
set_option maxRecDepth 20000 in
theorem cbX8_prove : CB mX8_prove 0 := ⟨big_mem 85 (by decide +kernel) (by decide +kernel), big_mem 1576 (by decide +kernel) (by decide +kernel), by decide +kernel, by decide +kernel, by decide +kernel, by decide⟩
abbrev mX8_row : Mi := (8, yX8_row, cX8_row, 3, (some .int))
set_option maxRecDepth 20000 in
theorem cbX8_row : CB mX8_row 2 := ⟨big_mem 85 (by decide +kernel) (by decide +kernel), big_mem 1580 (by decide +kernel) (by decide +kernel), by decide +kernel, by decide +kernel, by decide +kernel, by decide⟩
abbrev mX8_isRow : Mi := (8, yX8_isRow, cX8_isRow, 3, (some .boolean))
set_option maxRecDepth 20000 in
theorem cbX8_isRow : CB mX8_isRow 2 := ⟨big_mem 85 (by decide +kernel) (by decide +kernel), big_mem 1584 (by decide +kernel) (by decide +kernel), by decide +kernel, by decide +kernel, by decide +kernel, by decide⟩
abbrev mX8_alterRow : Mi := (8, yX8_alterRow, cX8_alterRow, 5, (some .int))
set_option maxRecDepth 20000 in
theorem cbX8_alterRow : CB mX8_alterRow 3 := ⟨big_mem 85 (by decide +kernel) (by decide +kernel), big_mem 1588 (by decide +kernel) (by decide +kernel), by decide +kernel, by decide +kernel, by decide +kernel, by decide⟩
abbrev mX8_judge : Mi := (8, yX8_judge, cX8_judge, 3, (some .int))
set_option maxRecDepth 20000 in
theorem cbX8_judge : CB mX8_judge 0 := ⟨big_mem 85 (by decide +kernel) (by decide +kernel), big_mem 1592 (by decide +kernel) (by decide +kernel), by decide +kernel, by decide +kernel, by decide +kernel, by decide⟩
abbrev mX8_rightMany : Mi := (8, yX8_rightMany, cX8_rightMany, 4, (some .int))
set_option maxRecDepth 20000 in
theorem cbX8_rightMany : CB mX8_rightMany 0 := ⟨big_mem 85 (by decide +kernel) (by decide +kernel), big_mem 1596 (by decide +kernel) (by decide +kernel), by decide +kernel, by decide +kernel, by decide +kernel, by decide⟩
abbrev mX8_dues : Mi := (8, yX8_dues, cX8_dues, 7, (some .int))
set_option maxRecDepth 20000 in
theorem cbX8_dues : CB mX8_dues 1 := ⟨big_mem 85 (by decide +kernel) (by decide +kernel), big_mem 1600 (by decide +kernel) (by decide +kernel), by decide +kernel, by decide +kernel, by decide +kernel, by decide⟩
abbrev mX8_isShelf : Mi := (8, yX8_isShelf, cX8_isShelf, 1, (some .boolean))
set_option maxRecDepth 20000 in
theorem cbX8_isShelf : CB mX8_isShelf 1 := ⟨big_mem 85 (by decide +kernel) (by decide +kernel), big_mem 1603 (by decide +kernel) (by decide +kernel), by decide +kernel, by decide +kernel, by decide +kernel, by decide⟩
abbrev mX8_lacksSort : Mi := (8, yX8_lacksSort, cX8_lacksSort, 3, (some .int))
set_option maxRecDepth 20000 in
theorem cbX8_lacksSort : CB mX8_lacksSort 2 := ⟨big_mem 85 (by decide +kernel) (by decide +kernel), big_mem 1607 (by decide +kernel) (by decide +kernel), by decide +kernel, by decide +kernel, by decide +kernel, by decide⟩
abbrev mX8_sheet : Mi := (8, yX8_sheet, cX8_sheet, 5, (some .int))
set_option maxRecDepth 20000 in
theorem cbX8_sheet : CB mX8_sheet 3 := ⟨big_mem 85 (by decide +kernel) (by decide +kernel), big_mem 1612 (by decide +kernel) (by decide +kernel), by decide +kernel, by decide +kernel, by decide +kernel, by decide⟩
abbrev mX8_write : Mi := (8, yX8_write, cX8_write, 4, (some .int))
set_option maxRecDepth 20000 in
theorem cbX8_write : CB mX8_write 3 := ⟨big_mem 85 (by decide +kernel) (by decide +kernel), big_mem 1616 (by decide +kernel) (by decide +kernel), by decide +kernel, by decide +kernel, by decide +kernel, by decide⟩
abbrev mX8_item : Mi := (8, yX8_item, cX8_item, 5, (some .int))
set_option maxRecDepth 20000 in
theorem cbX8_item : CB mX8_item 3 := ⟨big_mem 85 (by decide +kernel) (by decide +kernel), big_mem 1620 (by decide +kernel) (by decide +kernel), by decide +kernel, by decide +kernel, by decide +kernel, by decide⟩
abbrev mX8_shelf : Mi := (8, yX8_shelf, cX8_shelf, 4, (some .int))
set_option maxRecDepth 20000 in
theorem cbX8_shelf : CB mX8_shelf 3 := ⟨big_mem 85 (by decide +kernel) (by decide +kernel), big_mem 1624 (by decide +kernel) (by decide +kernel), by decide +kernel, by decide +kernel, by decide +kernel, by decide⟩
abbrev mX8_isHeld : Mi := (8, yX8_isHeld, cX8_isHeld, 3, (some .boolean))
set_option maxRecDepth 20000 in
theorem cbX8_isHeld : CB mX8_isHeld 2 := ⟨big_mem 85 (by decide +kernel) (by decide +kernel), big_mem 1628 (by decide +kernel) (by decide +kernel), by decide +kernel, by decide +kernel, by decide +kernel, by decide⟩
abbrev mX8_taken : Mi := (8, yX8_taken, cX8_taken, 4, (some .int))
set_option maxRecDepth 20000 in
theorem cbX8_taken : CB mX8_taken 2 := ⟨big_mem 85 (by decide +kernel) (by decide +kernel), big_mem 1632 (by decide +kernel) (by decide +kernel), by decide +kernel, by decide +kernel, by decide +kernel, by decide⟩
abbrev mX8_kindOn : Mi := (8, yX8_kindOn, cX8_kindOn, 2, (some .int))
set_option maxRecDepth 20000 in
theorem cbX8_kindOn : CB mX8_kindOn 1 := ⟨big_mem 85 (by decide +kernel) (by decide +kernel), big_mem 1636 (by decide +kernel) (by decide +kernel), by decide +kernel, by decide +kernel, by decide +kernel, by decide⟩
abbrev mX8_isUnder : Mi := (8, yX8_isUnder, cX8_isUnder, 2, (some .boolean))
set_option maxRecDepth 20000 in
theorem cbX8_isUnder : CB mX8_isUnder 2 := ⟨big_mem 85 (by decide +kernel) (by decide +kernel), big_mem 1639 (by decide +kernel) (by decide +kernel), by decide +kernel, by decide +kernel, by decide +kernel, by decide⟩
abbrev mX8_act : Mi := (8, yX8_act, cX8_act, 6, (some .int))
set_option maxRecDepth 20000 in
theorem cbX8_act : CB mX8_act 3 := ⟨big_mem 85 (by decide +kernel) (by decide +kernel), big_mem 1643 (by decide +kernel) (by decide +kernel), by decide +kernel, by decide +kernel, by decide +kernel, by decide⟩
abbrev mX8_movesIt : Mi := (8, yX8_movesIt, cX8_movesIt, 2, (some .int))
set_option maxRecDepth 20000 in
theorem cbX8_movesIt : CB mX8_movesIt 1 := ⟨big_mem 85 (by decide +kernel) (by decide +kernel), big_mem 1647 (by decide +kernel) (by decide +kernel), by decide +kernel, by decide +kernel, by decide +kernel, by decide⟩
abbrev mX8_soonMoves : Mi := (8, yX8_soonMoves, cX8_soonMoves, 2, (some .int))
set_option maxRecDepth 20000 in
theorem cbX8_soonMoves : CB mX8_soonMoves 1 := ⟨big_mem 85 (by decide +kernel) (by decide +kernel), big_mem 1651 (by decide +kernel) (by decide +kernel), by decide +kernel, by decide +kernel, by decide +kernel, by decide⟩
abbrev mX8_ran : Mi := (8, yX8_ran, cX8_ran, 2, none)
set_option maxRecDepth 20000 in
theorem cbX8_ran : CB mX8_ran 1 := ⟨big_mem 85 (by decide +kernel) (by decide +kernel), big_mem 1655 (by decide +kernel) (by decide +kernel), by decide +kernel, by decide +kernel, by decide +kernel, by decide⟩
abbrev mX8_plainMoves : Mi := (8, yX8_plainMoves, cX8_plainMoves, 2, (some .int))
set_option maxRecDepth 20000 in
theorem cbX8_plainMoves : CB mX8_plainMoves 1 := ⟨big_mem 85 (by decide +kernel) (by decide +kernel), big_mem 1659 (by decide +kernel) (by decide +kernel), by decide +kernel, by decide +kernel, by decide +kernel, by decide⟩
abbrev mX8_callsIt : Mi := (8, yX8_callsIt, cX8_callsIt, 3, (some .int))
set_option maxRecDepth 20000 in
theorem cbX8_callsIt : CB mX8_callsIt 1 := ⟨big_mem 85 (by decide +kernel) (by decide +kernel), big_mem 1663 (by decide +kernel) (by decide +kernel), by decide +kernel, by decide +kernel, by decide +kernel, by decide⟩
abbrev mX8_plainCalls : Mi := (8, yX8_plainCalls, cX8_plainCalls, 2, (some .int))
set_option maxRecDepth 20000 in
theorem cbX8_plainCalls : CB mX8_plainCalls 1 := ⟨big_mem 85 (by decide +kernel) (by decide +kernel), big_mem 1667 (by decide +kernel) (by decide +kernel), by decide +kernel, by decide +kernel, by decide +kernel, by decide⟩
abbrev mX8_sharesIt : Mi := (8, yX8_sharesIt, cX8_sharesIt, 3, (some .int))
set_option maxRecDepth 20000 in
theorem cbX8_sharesIt : CB mX8_sharesIt 1 := ⟨big_mem 85 (by decide +kernel) (by decide +kernel), big_mem 1671 (by decide +kernel) (by decide +kernel), by decide +kernel, by decide +kernel, by decide +kernel, by decide⟩
abbrev mX8_plainShares : Mi := (8, yX8_plainShares, cX8_plainShares, 2, (some .int))
set_option maxRecDepth 20000 in
theorem cbX8_plainShares : CB mX8_plainShares 1 := ⟨big_mem 85 (by decide +kernel) (by decide +kernel), big_mem 1675 (by decide +kernel) (by decide +kernel), by decide +kernel, by decide +kernel, by decide +kernel, by decide⟩
abbrev mX8_tellsIt : Mi := (8, yX8_tellsIt, cX8_tellsIt, 3, (some .int))
set_option maxRecDepth 20000 in
theorem cbX8_tellsIt : CB mX8_tellsIt 1 := ⟨big_mem 85 (by decide +kernel) (by decide +kernel), big_mem 1679 (by decide +kernel) (by decide +kernel), by decide +kernel, by decide +kernel, by decide +kernel, by decide⟩
abbrev mX8_plainTells : Mi := (8, yX8_plainTells, cX8_plainTells, 2, (some .int))
set_option maxRecDepth 20000 in
theorem cbX8_plainTells : CB mX8_plainTells 1 := ⟨big_mem 85 (by decide +kernel) (by decide +kernel), big_mem 1683 (by decide +kernel) (by decide +kernel), by decide +kernel, by decide +kernel, by decide +kernel, by decide⟩
abbrev mX8_trace : Mi := (8, yX8_trace, cX8_trace, 2, (some .int))
set_option maxRecDepth 20000 in
theorem cbX8_trace : CB mX8_trace 1 := ⟨big_mem 85 (by decide +kernel) (by decide +kernel), big_mem 1687 (by decide +kernel) (by decide +kernel), by decide +kernel, by decide +kernel, by decide +kernel, by decide⟩
abbrev mX8_many : Mi := (8, yX8_many, cX8_many, 2, (some .int))
set_option maxRecDepth 20000 in
theorem cbX8_many : CB mX8_many 1 := ⟨big_mem 85 (by decide +kernel) (by decide +kernel), big_mem 1691 (by decide +kernel) (by decide +kernel), by decide +kernel, by decide +kernel, by decide +kernel, by decide⟩
abbrev mX8_keep : Mi := (8, yX8_keep, cX8_keep, 1, (some .int))
set_option maxRecDepth 20000 in
theorem cbX8_keep : CB mX8_keep 0 := ⟨big_mem 85 (by decide +kernel) (by decide +kernel), big_mem 1695 (by decide +kernel) (by decide +kernel), by decide +kernel, by decide +kernel, by decide +kernel, by decide⟩
abbrev mX8_moveAll : Mi := (8, yX8_moveAll, cX8_moveAll, 2, none)
set_option maxRecDepth 20000 in
theorem cbX8_moveAll : CB mX8_moveAll 1 := ⟨big_mem 85 (by decide +kernel) (by decide +kernel), big_mem 1699 (by decide +kernel) (by decide +kernel), by decide +kernel, by decide +kernel, by decide +kernel, by decide⟩
abbrev mX8_moveRow : Mi := (8, yX8_moveRow, cX8_moveRow, 5, none)
set_option maxRecDepth 20000 in
theorem cbX8_moveRow : CB mX8_moveRow 3 := ⟨big_mem 85 (by decide +kernel) (by decide +kernel), big_mem 1703 (by decide +kernel) (by decide +kernel), by decide +kernel, by decide +kernel, by decide +kernel, by decide⟩
abbrev mX8_again : Mi := (8, yX8_again, cX8_again, 1, (some .int))
set_option maxRecDepth 20000 in
theorem cbX8_again : CB mX8_again 0 := ⟨big_mem 85 (by decide +kernel) (by decide +kernel), big_mem 1707 (by decide +kernel) (by decide +kernel), by decide +kernel, by decide +kernel, by decide +kernel, by decide⟩
set_option maxRecDepth 20000 in
theorem v9_15 : CV 9 15 mX7_feed 2 := ⟨big_mem 433 (by decide +kernel) (by decide +kernel), big_mem 434 (by decide +kernel) (by decide +kernel), big_mem 435 (by decide +kernel) (by decide +kernel), cbX7_feed⟩
set_option maxRecDepth 20000 in
theorem v7_63 : CV 7 63 mX4_append 2 := ⟨big_mem 437 (by decide +kernel) (by decide +kernel), big_mem 438 (by decide +kernel) (by decide +kernel), big_mem 439 (by decide +kernel) (by decide +kernel), cbX4_append⟩
set_option maxRecDepth 20000 in
theorem v9_20 : CV 9 20 mX7_town 0 := ⟨big_mem 441 (by decide +kernel) (by decide +kernel), big_mem 442 (by decide +kernel) (by decide +kernel), big_mem 443 (by decide +kernel) (by decide +kernel), cbX7_town⟩
set_option maxRecDepth 20000 in
theorem v7_70 : CV 7 70 mX5_clear 0 := ⟨big_mem 445 (by decide +kernel) (by decide +kernel), big_mem 446 (by decide +kernel) (by decide +kernel), big_mem 447 (by decide +kernel) (by decide +kernel), cbX5_clear⟩
set_option maxRecDepth 20000 in
theorem v7_73 : CV 7 73 mX5_takeLaws 1 := ⟨big_mem 449 (by decide +kernel) (by decide +kernel), big_mem 450 (by decide +kernel) (by decide +kernel), big_mem 451 (by decide +kernel) (by decide +kernel), cbX5_takeLaws⟩
set_option maxRecDepth 20000 in
theorem v7_77 : CV 7 77 mX4_readInto 1 := ⟨big_mem 456 (by decide +kernel) (by decide +kernel), big_mem 457 (by decide +kernel) (by decide +kernel), big_mem 458 (by decide +kernel) (by decide +kernel), cbX4_readInto⟩
set_option maxRecDepth 20000 in
theorem v4_31 : CV 4 31 mX4_advance 0 := ⟨big_mem 460 (by decide +kernel) (by decide +kernel), big_mem 461 (by decide +kernel) (by decide +kernel), big_mem 462 (by decide +kernel) (by decide +kernel), cbX4_advance⟩
set_option maxRecDepth 20000 in
theorem s4_38 : CS 4 38 mX4_sortOf 1 := ⟨big_mem 464 (by decide +kernel) (by decide +kernel), big_mem 465 (by decide +kernel) (by decide +kernel), cbX4_sortOf⟩
set_option maxRecDepth 20000 in
theorem v4_34 : CV 4 34 mX4_readSentence 1 := ⟨big_mem 467 (by decide +kernel) (by decide +kernel), big_mem 468 (by decide +kernel) (by decide +kernel), big_mem 469 (by decide +kernel) (by decide +kernel), cbX4_readSentence⟩
set_option maxRecDepth 20000 in
theorem v4_58 : CV 4 58 mX4_kindTold 0 := ⟨big_mem 471 (by decide +kernel) (by decide +kernel), big_mem 472 (by decide +kernel) (by decide +kernel), big_mem 473 (by decide +kernel) (by decide +kernel), cbX4_kindTold⟩
set_option maxRecDepth 20000 in
theorem v4_51 : CV 4 51 mX4_isWord 1 := ⟨big_mem 476 (by decide +kernel) (by decide +kernel), big_mem 477 (by decide +kernel) (by decide +kernel), big_mem 478 (by decide +kernel) (by decide +kernel), cbX4_isWord⟩
set_option maxRecDepth 20000 in
theorem v4_42 : CV 4 42 mJ0_length_8abf5 0 := ⟨big_mem 480 (by decide +kernel) (by decide +kernel), big_mem 481 (by decide +kernel) (by decide +kernel), big_mem 482 (by decide +kernel) (by decide +kernel), cbJ0_length_8abf5⟩
set_option maxRecDepth 20000 in
theorem v10_335 : CV 10 335 mJ0_coder_7d493 0 := ⟨big_mem 484 (by decide +kernel) (by decide +kernel), big_mem 485 (by decide +kernel) (by decide +kernel), big_mem 486 (by decide +kernel) (by decide +kernel), cbJ0_coder_7d493⟩
set_option maxRecDepth 20000 in
theorem v4_47 : CV 4 47 mJ0_charAt_5068e 1 := ⟨big_mem 490 (by decide +kernel) (by decide +kernel), big_mem 491 (by decide +kernel) (by decide +kernel), big_mem 492 (by decide +kernel) (by decide +kernel), cbJ0_charAt_5068e⟩
set_option maxRecDepth 20000 in
theorem v10_492 : CV 10 492 mJ0_isLatin1_aae02 0 := ⟨big_mem 494 (by decide +kernel) (by decide +kernel), big_mem 495 (by decide +kernel) (by decide +kernel), big_mem 496 (by decide +kernel) (by decide +kernel), cbJ0_isLatin1_aae02⟩
set_option maxRecDepth 20000 in
theorem s10_495 : CS 10 495 mJ1_charAt_3b067 2 := ⟨big_mem 498 (by decide +kernel) (by decide +kernel), big_mem 499 (by decide +kernel) (by decide +kernel), cbJ1_charAt_3b067⟩
set_option maxRecDepth 20000 in
theorem s11_9 : CS 11 9 mJ0_checkIndex_df160 2 := ⟨big_mem 501 (by decide +kernel) (by decide +kernel), big_mem 502 (by decide +kernel) (by decide +kernel), cbJ0_checkIndex_df160⟩
set_option maxRecDepth 20000 in
theorem s10_1059 : CS 10 1059 mJ3_checkIndex_8e157 3 := ⟨big_mem 506 (by decide +kernel) (by decide +kernel), big_mem 507 (by decide +kernel) (by decide +kernel), cbJ3_checkIndex_8e157⟩
set_option maxRecDepth 20000 in
theorem v4_61 : CV 4 61 mX4_readWork 2 := ⟨big_mem 533 (by decide +kernel) (by decide +kernel), big_mem 534 (by decide +kernel) (by decide +kernel), big_mem 535 (by decide +kernel) (by decide +kernel), cbX4_readWork⟩
set_option maxRecDepth 20000 in
theorem v4_55 : CV 4 55 mX4_fail 0 := ⟨big_mem 537 (by decide +kernel) (by decide +kernel), big_mem 538 (by decide +kernel) (by decide +kernel), big_mem 539 (by decide +kernel) (by decide +kernel), cbX4_fail⟩
set_option maxRecDepth 20000 in
theorem v4_109 : CV 4 109 mX4_readNumber 2 := ⟨big_mem 541 (by decide +kernel) (by decide +kernel), big_mem 542 (by decide +kernel) (by decide +kernel), big_mem 543 (by decide +kernel) (by decide +kernel), cbX4_readNumber⟩
set_option maxRecDepth 20000 in
theorem v4_86 : CV 4 86 mX4_readWord 1 := ⟨big_mem 546 (by decide +kernel) (by decide +kernel), big_mem 547 (by decide +kernel) (by decide +kernel), big_mem 548 (by decide +kernel) (by decide +kernel), cbX4_readWord⟩
set_option maxRecDepth 20000 in
theorem v4_138 : CV 4 138 mX5_addWork 6 := ⟨big_mem 552 (by decide +kernel) (by decide +kernel), big_mem 553 (by decide +kernel) (by decide +kernel), big_mem 554 (by decide +kernel) (by decide +kernel), cbX5_addWork⟩
set_option maxRecDepth 20000 in
theorem v4_67 : CV 4 67 mX4_readMover 1 := ⟨big_mem 559 (by decide +kernel) (by decide +kernel), big_mem 560 (by decide +kernel) (by decide +kernel), big_mem 561 (by decide +kernel) (by decide +kernel), cbX4_readMover⟩
set_option maxRecDepth 20000 in
theorem v4_121 : CV 4 121 mX5_addMover 2 := ⟨big_mem 563 (by decide +kernel) (by decide +kernel), big_mem 564 (by decide +kernel) (by decide +kernel), big_mem 565 (by decide +kernel) (by decide +kernel), cbX5_addMover⟩
set_option maxRecDepth 20000 in
theorem v4_72 : CV 4 72 mX4_readThing 1 := ⟨big_mem 568 (by decide +kernel) (by decide +kernel), big_mem 569 (by decide +kernel) (by decide +kernel), big_mem 570 (by decide +kernel) (by decide +kernel), cbX4_readThing⟩
set_option maxRecDepth 20000 in
theorem v4_127 : CV 4 127 mX5_addThing 2 := ⟨big_mem 572 (by decide +kernel) (by decide +kernel), big_mem 573 (by decide +kernel) (by decide +kernel), big_mem 574 (by decide +kernel) (by decide +kernel), cbX5_addThing⟩
set_option maxRecDepth 20000 in
theorem v4_77 : CV 4 77 mX4_readLaw 2 := ⟨big_mem 577 (by decide +kernel) (by decide +kernel), big_mem 578 (by decide +kernel) (by decide +kernel), big_mem 579 (by decide +kernel) (by decide +kernel), cbX4_readLaw⟩
set_option maxRecDepth 20000 in
theorem v7_81 : CV 7 81 mX5_takeTown 1 := ⟨big_mem 588 (by decide +kernel) (by decide +kernel), big_mem 589 (by decide +kernel) (by decide +kernel), big_mem 590 (by decide +kernel) (by decide +kernel), cbX5_takeTown⟩
set_option maxRecDepth 20000 in
theorem v5_63 : CV 5 63 mX6_take 1 := ⟨big_mem 592 (by decide +kernel) (by decide +kernel), big_mem 593 (by decide +kernel) (by decide +kernel), big_mem 594 (by decide +kernel) (by decide +kernel), cbX6_take⟩
set_option maxRecDepth 20000 in
theorem v5_67 : CV 5 67 mX5_takeLaws 1 := ⟨big_mem 596 (by decide +kernel) (by decide +kernel), big_mem 450 (by decide +kernel) (by decide +kernel), big_mem 451 (by decide +kernel) (by decide +kernel), cbX5_takeLaws⟩
set_option maxRecDepth 20000 in
theorem v5_71 : CV 5 71 mX3_take 1 := ⟨big_mem 597 (by decide +kernel) (by decide +kernel), big_mem 598 (by decide +kernel) (by decide +kernel), big_mem 599 (by decide +kernel) (by decide +kernel), cbX3_take⟩
set_option maxRecDepth 20000 in
theorem v9_25 : CV 9 25 mX7_mover 2 := ⟨big_mem 602 (by decide +kernel) (by decide +kernel), big_mem 603 (by decide +kernel) (by decide +kernel), big_mem 604 (by decide +kernel) (by decide +kernel), cbX7_mover⟩
set_option maxRecDepth 20000 in
theorem s7_87 : CS 7 87 mX7_isWithin 3 := ⟨big_mem 606 (by decide +kernel) (by decide +kernel), big_mem 607 (by decide +kernel) (by decide +kernel), cbX7_isWithin⟩
set_option maxRecDepth 20000 in
theorem v7_94 : CV 7 94 mX5_addMover 2 := ⟨big_mem 609 (by decide +kernel) (by decide +kernel), big_mem 564 (by decide +kernel) (by decide +kernel), big_mem 565 (by decide +kernel) (by decide +kernel), cbX5_addMover⟩
set_option maxRecDepth 20000 in
theorem v9_30 : CV 9 30 mX7_thing 2 := ⟨big_mem 610 (by decide +kernel) (by decide +kernel), big_mem 611 (by decide +kernel) (by decide +kernel), big_mem 612 (by decide +kernel) (by decide +kernel), cbX7_thing⟩
set_option maxRecDepth 20000 in
theorem v7_101 : CV 7 101 mX5_addThing 2 := ⟨big_mem 614 (by decide +kernel) (by decide +kernel), big_mem 573 (by decide +kernel) (by decide +kernel), big_mem 574 (by decide +kernel) (by decide +kernel), cbX5_addThing⟩
set_option maxRecDepth 20000 in
theorem v9_34 : CV 9 34 mX7_work 6 := ⟨big_mem 615 (by decide +kernel) (by decide +kernel), big_mem 616 (by decide +kernel) (by decide +kernel), big_mem 617 (by decide +kernel) (by decide +kernel), cbX7_work⟩
set_option maxRecDepth 20000 in
theorem v7_104 : CV 7 104 mX5_addWork 6 := ⟨big_mem 619 (by decide +kernel) (by decide +kernel), big_mem 553 (by decide +kernel) (by decide +kernel), big_mem 554 (by decide +kernel) (by decide +kernel), cbX5_addWork⟩
set_option maxRecDepth 20000 in
theorem v9_39 : CV 9 39 mX7_behind 3 := ⟨big_mem 620 (by decide +kernel) (by decide +kernel), big_mem 621 (by decide +kernel) (by decide +kernel), big_mem 622 (by decide +kernel) (by decide +kernel), cbX7_behind⟩
set_option maxRecDepth 20000 in
theorem v7_108 : CV 7 108 mX5_hasWork 1 := ⟨big_mem 624 (by decide +kernel) (by decide +kernel), big_mem 625 (by decide +kernel) (by decide +kernel), big_mem 626 (by decide +kernel) (by decide +kernel), cbX5_hasWork⟩
set_option maxRecDepth 20000 in
theorem s7_133 : CS 7 133 mX7_orNone 1 := ⟨big_mem 628 (by decide +kernel) (by decide +kernel), big_mem 629 (by decide +kernel) (by decide +kernel), cbX7_orNone⟩
set_option maxRecDepth 20000 in
theorem v9_44 : CV 9 44 mX7_workOf 2 := ⟨big_mem 631 (by decide +kernel) (by decide +kernel), big_mem 632 (by decide +kernel) (by decide +kernel), big_mem 633 (by decide +kernel) (by decide +kernel), cbX7_workOf⟩
set_option maxRecDepth 20000 in
theorem v9_48 : CV 9 48 mX7_at 2 := ⟨big_mem 635 (by decide +kernel) (by decide +kernel), big_mem 636 (by decide +kernel) (by decide +kernel), big_mem 637 (by decide +kernel) (by decide +kernel), cbX7_at⟩
set_option maxRecDepth 20000 in
theorem v7_158 : CV 7 158 mX5_isThere 2 := ⟨big_mem 639 (by decide +kernel) (by decide +kernel), big_mem 640 (by decide +kernel) (by decide +kernel), big_mem 641 (by decide +kernel) (by decide +kernel), cbX5_isThere⟩
set_option maxRecDepth 20000 in
theorem v7_162 : CV 7 162 mX3_placesOf 1 := ⟨big_mem 643 (by decide +kernel) (by decide +kernel), big_mem 644 (by decide +kernel) (by decide +kernel), big_mem 645 (by decide +kernel) (by decide +kernel), cbX3_placesOf⟩
set_option maxRecDepth 20000 in
theorem v9_52 : CV 9 52 mX7_put 3 := ⟨big_mem 647 (by decide +kernel) (by decide +kernel), big_mem 648 (by decide +kernel) (by decide +kernel), big_mem 649 (by decide +kernel) (by decide +kernel), cbX7_put⟩
set_option maxRecDepth 20000 in
theorem v9_56 : CV 9 56 mX7_set 2 := ⟨big_mem 651 (by decide +kernel) (by decide +kernel), big_mem 652 (by decide +kernel) (by decide +kernel), big_mem 653 (by decide +kernel) (by decide +kernel), cbX7_set⟩
set_option maxRecDepth 20000 in
theorem v9_60 : CV 9 60 mX7_minute 0 := ⟨big_mem 657 (by decide +kernel) (by decide +kernel), big_mem 658 (by decide +kernel) (by decide +kernel), big_mem 659 (by decide +kernel) (by decide +kernel), cbX7_minute⟩
set_option maxRecDepth 20000 in
theorem v9_64 : CV 9 64 mX7_pass 1 := ⟨big_mem 661 (by decide +kernel) (by decide +kernel), big_mem 662 (by decide +kernel) (by decide +kernel), big_mem 663 (by decide +kernel) (by decide +kernel), cbX7_pass⟩
set_option maxRecDepth 20000 in
theorem v9_69 : CV 9 69 mX7_minutes 1 := ⟨big_mem 665 (by decide +kernel) (by decide +kernel), big_mem 666 (by decide +kernel) (by decide +kernel), big_mem 667 (by decide +kernel) (by decide +kernel), cbX7_minutes⟩
set_option maxRecDepth 20000 in
theorem v7_178 : CV 7 178 mX5_minutesOf 2 := ⟨big_mem 669 (by decide +kernel) (by decide +kernel), big_mem 670 (by decide +kernel) (by decide +kernel), big_mem 671 (by decide +kernel) (by decide +kernel), cbX5_minutesOf⟩
set_option maxRecDepth 20000 in
theorem s5_134 : CS 5 134 mX5_partsOf 2 := ⟨big_mem 676 (by decide +kernel) (by decide +kernel), big_mem 677 (by decide +kernel) (by decide +kernel), cbX5_partsOf⟩
set_option maxRecDepth 20000 in
theorem v5_137 : CV 5 137 mX5_nextMover 1 := ⟨big_mem 679 (by decide +kernel) (by decide +kernel), big_mem 680 (by decide +kernel) (by decide +kernel), big_mem 681 (by decide +kernel) (by decide +kernel), cbX5_nextMover⟩
set_option maxRecDepth 20000 in
theorem v5_140 : CV 5 140 mX5_thingsBeside 2 := ⟨big_mem 683 (by decide +kernel) (by decide +kernel), big_mem 684 (by decide +kernel) (by decide +kernel), big_mem 685 (by decide +kernel) (by decide +kernel), cbX5_thingsBeside⟩
set_option maxRecDepth 20000 in
theorem v9_73 : CV 9 73 mX7_may 0 := ⟨big_mem 687 (by decide +kernel) (by decide +kernel), big_mem 688 (by decide +kernel) (by decide +kernel), big_mem 689 (by decide +kernel) (by decide +kernel), cbX7_may⟩
set_option maxRecDepth 20000 in
theorem v7_182 : CV 7 182 mX5_freeOnes 1 := ⟨big_mem 691 (by decide +kernel) (by decide +kernel), big_mem 692 (by decide +kernel) (by decide +kernel), big_mem 693 (by decide +kernel) (by decide +kernel), cbX5_freeOnes⟩
set_option maxRecDepth 20000 in
theorem v5_121 : CV 5 121 mX5_isFree 2 := ⟨big_mem 695 (by decide +kernel) (by decide +kernel), big_mem 696 (by decide +kernel) (by decide +kernel), big_mem 697 (by decide +kernel) (by decide +kernel), cbX5_isFree⟩
set_option maxRecDepth 20000 in
theorem v5_117 : CV 5 117 mX5_isOpen 2 := ⟨big_mem 699 (by decide +kernel) (by decide +kernel), big_mem 700 (by decide +kernel) (by decide +kernel), big_mem 701 (by decide +kernel) (by decide +kernel), cbX5_isOpen⟩
set_option maxRecDepth 20000 in
theorem v5_113 : CV 5 113 mX5_hasWork 1 := ⟨big_mem 703 (by decide +kernel) (by decide +kernel), big_mem 625 (by decide +kernel) (by decide +kernel), big_mem 626 (by decide +kernel) (by decide +kernel), cbX5_hasWork⟩
set_option maxRecDepth 20000 in
theorem v9_77 : CV 9 77 mX7_does 1 := ⟨big_mem 704 (by decide +kernel) (by decide +kernel), big_mem 705 (by decide +kernel) (by decide +kernel), big_mem 706 (by decide +kernel) (by decide +kernel), cbX7_does⟩
set_option maxRecDepth 20000 in
theorem v7_186 : CV 7 186 mX5_isFree 2 := ⟨big_mem 708 (by decide +kernel) (by decide +kernel), big_mem 696 (by decide +kernel) (by decide +kernel), big_mem 697 (by decide +kernel) (by decide +kernel), cbX5_isFree⟩
set_option maxRecDepth 20000 in
theorem v7_190 : CV 7 190 mX5_carryOut 2 := ⟨big_mem 709 (by decide +kernel) (by decide +kernel), big_mem 710 (by decide +kernel) (by decide +kernel), big_mem 711 (by decide +kernel) (by decide +kernel), cbX5_carryOut⟩
set_option maxRecDepth 20000 in
theorem v5_144 : CV 5 144 mX5_spoils 2 := ⟨big_mem 713 (by decide +kernel) (by decide +kernel), big_mem 714 (by decide +kernel) (by decide +kernel), big_mem 715 (by decide +kernel) (by decide +kernel), cbX5_spoils⟩
set_option maxRecDepth 20000 in
theorem v5_151 : CV 5 151 mX5_minutesOf 2 := ⟨big_mem 717 (by decide +kernel) (by decide +kernel), big_mem 670 (by decide +kernel) (by decide +kernel), big_mem 671 (by decide +kernel) (by decide +kernel), cbX5_minutesOf⟩
set_option maxRecDepth 20000 in
theorem v5_154 : CV 5 154 mX5_after 2 := ⟨big_mem 718 (by decide +kernel) (by decide +kernel), big_mem 719 (by decide +kernel) (by decide +kernel), big_mem 720 (by decide +kernel) (by decide +kernel), cbX5_after⟩
set_option maxRecDepth 20000 in
theorem v5_157 : CV 5 157 mX5_moveAll 2 := ⟨big_mem 725 (by decide +kernel) (by decide +kernel), big_mem 726 (by decide +kernel) (by decide +kernel), big_mem 727 (by decide +kernel) (by decide +kernel), cbX5_moveAll⟩
set_option maxRecDepth 20000 in
theorem v5_161 : CV 5 161 mX6_worthAt 1 := ⟨big_mem 729 (by decide +kernel) (by decide +kernel), big_mem 730 (by decide +kernel) (by decide +kernel), big_mem 731 (by decide +kernel) (by decide +kernel), cbX6_worthAt⟩
set_option maxRecDepth 20000 in
theorem v9_81 : CV 9 81 mX7_had 0 := ⟨big_mem 734 (by decide +kernel) (by decide +kernel), big_mem 735 (by decide +kernel) (by decide +kernel), big_mem 736 (by decide +kernel) (by decide +kernel), cbX7_had⟩
set_option maxRecDepth 20000 in
theorem v9_85 : CV 9 85 mX7_worth 1 := ⟨big_mem 738 (by decide +kernel) (by decide +kernel), big_mem 739 (by decide +kernel) (by decide +kernel), big_mem 740 (by decide +kernel) (by decide +kernel), cbX7_worth⟩
set_option maxRecDepth 20000 in
theorem v7_196 : CV 7 196 mX2_readDigits 1 := ⟨big_mem 742 (by decide +kernel) (by decide +kernel), big_mem 743 (by decide +kernel) (by decide +kernel), big_mem 744 (by decide +kernel) (by decide +kernel), cbX2_readDigits⟩
set_option maxRecDepth 20000 in
theorem v2_63 : CV 2 63 mX5_openOnes 1 := ⟨big_mem 746 (by decide +kernel) (by decide +kernel), big_mem 747 (by decide +kernel) (by decide +kernel), big_mem 748 (by decide +kernel) (by decide +kernel), cbX5_openOnes⟩
set_option maxRecDepth 20000 in
theorem v2_67 : CV 2 67 mX5_isOpen 2 := ⟨big_mem 750 (by decide +kernel) (by decide +kernel), big_mem 700 (by decide +kernel) (by decide +kernel), big_mem 701 (by decide +kernel) (by decide +kernel), cbX5_isOpen⟩
set_option maxRecDepth 20000 in
theorem s2_71 : CS 2 71 mX2_isIn 2 := ⟨big_mem 751 (by decide +kernel) (by decide +kernel), big_mem 752 (by decide +kernel) (by decide +kernel), cbX2_isIn⟩
set_option maxRecDepth 20000 in
theorem v7_199 : CV 7 199 mX2_runCalled 1 := ⟨big_mem 754 (by decide +kernel) (by decide +kernel), big_mem 755 (by decide +kernel) (by decide +kernel), big_mem 756 (by decide +kernel) (by decide +kernel), cbX2_runCalled⟩
set_option maxRecDepth 20000 in
theorem v2_84 : CV 2 84 mX3_beginFrom 1 := ⟨big_mem 758 (by decide +kernel) (by decide +kernel), big_mem 759 (by decide +kernel) (by decide +kernel), big_mem 760 (by decide +kernel) (by decide +kernel), cbX3_beginFrom⟩
set_option maxRecDepth 20000 in
theorem v3_40 : CV 3 40 mX3_take 1 := ⟨big_mem 762 (by decide +kernel) (by decide +kernel), big_mem 598 (by decide +kernel) (by decide +kernel), big_mem 599 (by decide +kernel) (by decide +kernel), cbX3_take⟩
set_option maxRecDepth 20000 in
theorem v2_94 : CV 2 94 mX5_after 2 := ⟨big_mem 763 (by decide +kernel) (by decide +kernel), big_mem 719 (by decide +kernel) (by decide +kernel), big_mem 720 (by decide +kernel) (by decide +kernel), cbX5_after⟩
set_option maxRecDepth 20000 in
theorem v2_98 : CV 2 98 mX5_carryOut 2 := ⟨big_mem 764 (by decide +kernel) (by decide +kernel), big_mem 710 (by decide +kernel) (by decide +kernel), big_mem 711 (by decide +kernel) (by decide +kernel), cbX5_carryOut⟩
set_option maxRecDepth 20000 in
theorem v9_89 : CV 9 89 mX7_ends 2 := ⟨big_mem 765 (by decide +kernel) (by decide +kernel), big_mem 766 (by decide +kernel) (by decide +kernel), big_mem 767 (by decide +kernel) (by decide +kernel), cbX7_ends⟩
set_option maxRecDepth 20000 in
theorem v7_203 : CV 7 203 mX5_isOpen 2 := ⟨big_mem 769 (by decide +kernel) (by decide +kernel), big_mem 700 (by decide +kernel) (by decide +kernel), big_mem 701 (by decide +kernel) (by decide +kernel), cbX5_isOpen⟩
set_option maxRecDepth 20000 in
theorem v9_93 : CV 9 93 mX7_best 1 := ⟨big_mem 770 (by decide +kernel) (by decide +kernel), big_mem 771 (by decide +kernel) (by decide +kernel), big_mem 772 (by decide +kernel) (by decide +kernel), cbX7_best⟩
set_option maxRecDepth 20000 in
theorem v7_206 : CV 7 206 mX2_search 0 := ⟨big_mem 774 (by decide +kernel) (by decide +kernel), big_mem 775 (by decide +kernel) (by decide +kernel), big_mem 776 (by decide +kernel) (by decide +kernel), cbX2_search⟩
set_option maxRecDepth 20000 in
theorem v2_118 : CV 2 118 mX2_searchFrom 1 := ⟨big_mem 778 (by decide +kernel) (by decide +kernel), big_mem 780 (by decide +kernel) (by decide +kernel), big_mem 0 (by decide +kernel) (by decide +kernel), cbX2_searchFrom⟩
set_option maxRecDepth 20000 in
theorem v2_122 : CV 2 122 mX5_freeOnes 1 := ⟨big_mem 782 (by decide +kernel) (by decide +kernel), big_mem 692 (by decide +kernel) (by decide +kernel), big_mem 693 (by decide +kernel) (by decide +kernel), cbX5_freeOnes⟩
set_option maxRecDepth 20000 in
theorem v2_125 : CV 2 125 mX2_compare 2 := ⟨big_mem 783 (by decide +kernel) (by decide +kernel), big_mem 784 (by decide +kernel) (by decide +kernel), big_mem 785 (by decide +kernel) (by decide +kernel), cbX2_compare⟩
set_option maxRecDepth 20000 in
theorem v2_135 : CV 2 135 mX2_digitsOf 1 := ⟨big_mem 787 (by decide +kernel) (by decide +kernel), big_mem 788 (by decide +kernel) (by decide +kernel), big_mem 789 (by decide +kernel) (by decide +kernel), cbX2_digitsOf⟩
set_option maxRecDepth 20000 in
theorem v2_132 : CV 2 132 mX3_take 1 := ⟨big_mem 794 (by decide +kernel) (by decide +kernel), big_mem 598 (by decide +kernel) (by decide +kernel), big_mem 599 (by decide +kernel) (by decide +kernel), cbX3_take⟩
set_option maxRecDepth 20000 in
theorem v9_97 : CV 9 97 mX7_fewest 0 := ⟨big_mem 795 (by decide +kernel) (by decide +kernel), big_mem 796 (by decide +kernel) (by decide +kernel), big_mem 797 (by decide +kernel) (by decide +kernel), cbX7_fewest⟩
set_option maxRecDepth 20000 in
theorem v9_101 : CV 9 101 mX7_shortest 0 := ⟨big_mem 799 (by decide +kernel) (by decide +kernel), big_mem 800 (by decide +kernel) (by decide +kernel), big_mem 801 (by decide +kernel) (by decide +kernel), cbX7_shortest⟩
set_option maxRecDepth 20000 in
theorem v9_105 : CV 9 105 mX7_mean 2 := ⟨big_mem 803 (by decide +kernel) (by decide +kernel), big_mem 804 (by decide +kernel) (by decide +kernel), big_mem 805 (by decide +kernel) (by decide +kernel), cbX7_mean⟩
set_option maxRecDepth 20000 in
theorem v7_221 : CV 7 221 mX7_fractionOf 3 := ⟨big_mem 807 (by decide +kernel) (by decide +kernel), big_mem 809 (by decide +kernel) (by decide +kernel), big_mem 1 (by decide +kernel) (by decide +kernel), cbX7_fractionOf⟩
set_option maxRecDepth 20000 in
theorem v7_323 : CV 7 323 mX2_average 1 := ⟨big_mem 812 (by decide +kernel) (by decide +kernel), big_mem 813 (by decide +kernel) (by decide +kernel), big_mem 814 (by decide +kernel) (by decide +kernel), cbX2_average⟩
set_option maxRecDepth 20000 in
theorem v2_102 : CV 2 102 mX2_weightOf 1 := ⟨big_mem 816 (by decide +kernel) (by decide +kernel), big_mem 817 (by decide +kernel) (by decide +kernel), big_mem 818 (by decide +kernel) (by decide +kernel), cbX2_weightOf⟩
set_option maxRecDepth 20000 in
theorem v2_106 : CV 2 106 mX2_runCalled 1 := ⟨big_mem 820 (by decide +kernel) (by decide +kernel), big_mem 755 (by decide +kernel) (by decide +kernel), big_mem 756 (by decide +kernel) (by decide +kernel), cbX2_runCalled⟩
set_option maxRecDepth 20000 in
theorem v9_110 : CV 9 110 mX7_sure 2 := ⟨big_mem 822 (by decide +kernel) (by decide +kernel), big_mem 823 (by decide +kernel) (by decide +kernel), big_mem 824 (by decide +kernel) (by decide +kernel), cbX7_sure⟩
set_option maxRecDepth 20000 in
theorem v9_114 : CV 9 114 mX7_bell 1 := ⟨big_mem 826 (by decide +kernel) (by decide +kernel), big_mem 827 (by decide +kernel) (by decide +kernel), big_mem 828 (by decide +kernel) (by decide +kernel), cbX7_bell⟩
set_option maxRecDepth 20000 in
theorem v7_225 : CV 7 225 mX2_endByTheBell 1 := ⟨big_mem 830 (by decide +kernel) (by decide +kernel), big_mem 831 (by decide +kernel) (by decide +kernel), big_mem 832 (by decide +kernel) (by decide +kernel), cbX2_endByTheBell⟩
set_option maxRecDepth 20000 in
theorem v2_144 : CV 2 144 mX5_minutesOf 2 := ⟨big_mem 834 (by decide +kernel) (by decide +kernel), big_mem 670 (by decide +kernel) (by decide +kernel), big_mem 671 (by decide +kernel) (by decide +kernel), cbX5_minutesOf⟩
set_option maxRecDepth 20000 in
theorem v2_147 : CV 2 147 mX5_isFree 2 := ⟨big_mem 835 (by decide +kernel) (by decide +kernel), big_mem 696 (by decide +kernel) (by decide +kernel), big_mem 697 (by decide +kernel) (by decide +kernel), cbX5_isFree⟩
set_option maxRecDepth 20000 in
theorem v2_150 : CV 2 150 mX2_ringFor 2 := ⟨big_mem 836 (by decide +kernel) (by decide +kernel), big_mem 837 (by decide +kernel) (by decide +kernel), big_mem 838 (by decide +kernel) (by decide +kernel), cbX2_ringFor⟩
set_option maxRecDepth 20000 in
theorem v9_118 : CV 9 118 mX7_rule 2 := ⟨big_mem 840 (by decide +kernel) (by decide +kernel), big_mem 841 (by decide +kernel) (by decide +kernel), big_mem 842 (by decide +kernel) (by decide +kernel), cbX7_rule⟩
set_option maxRecDepth 20000 in
theorem v7_231 : CV 7 231 mX5_addRule 2 := ⟨big_mem 844 (by decide +kernel) (by decide +kernel), big_mem 845 (by decide +kernel) (by decide +kernel), big_mem 846 (by decide +kernel) (by decide +kernel), cbX5_addRule⟩
set_option maxRecDepth 20000 in
theorem v9_122 : CV 9 122 mX7_ruleOf 2 := ⟨big_mem 848 (by decide +kernel) (by decide +kernel), big_mem 849 (by decide +kernel) (by decide +kernel), big_mem 850 (by decide +kernel) (by decide +kernel), cbX7_ruleOf⟩
set_option maxRecDepth 20000 in
theorem v7_234 : CV 7 234 mX5_hasRule 1 := ⟨big_mem 852 (by decide +kernel) (by decide +kernel), big_mem 853 (by decide +kernel) (by decide +kernel), big_mem 854 (by decide +kernel) (by decide +kernel), cbX5_hasRule⟩
set_option maxRecDepth 20000 in
theorem v9_126 : CV 9 126 mX7_takes 1 := ⟨big_mem 856 (by decide +kernel) (by decide +kernel), big_mem 857 (by decide +kernel) (by decide +kernel), big_mem 858 (by decide +kernel) (by decide +kernel), cbX7_takes⟩
set_option maxRecDepth 20000 in
theorem v7_243 : CV 7 243 mX2_choice 2 := ⟨big_mem 860 (by decide +kernel) (by decide +kernel), big_mem 861 (by decide +kernel) (by decide +kernel), big_mem 862 (by decide +kernel) (by decide +kernel), cbX2_choice⟩
set_option maxRecDepth 20000 in
theorem v2_165 : CV 2 165 mX2_firstFrom 2 := ⟨big_mem 864 (by decide +kernel) (by decide +kernel), big_mem 865 (by decide +kernel) (by decide +kernel), big_mem 866 (by decide +kernel) (by decide +kernel), cbX2_firstFrom⟩
set_option maxRecDepth 20000 in
theorem v2_168 : CV 2 168 mX2_soonest 2 := ⟨big_mem 868 (by decide +kernel) (by decide +kernel), big_mem 869 (by decide +kernel) (by decide +kernel), big_mem 870 (by decide +kernel) (by decide +kernel), cbX2_soonest⟩
set_option maxRecDepth 20000 in
theorem v2_171 : CV 2 171 mX2_worthiest 2 := ⟨big_mem 872 (by decide +kernel) (by decide +kernel), big_mem 873 (by decide +kernel) (by decide +kernel), big_mem 874 (by decide +kernel) (by decide +kernel), cbX2_worthiest⟩
set_option maxRecDepth 20000 in
theorem v2_174 : CV 2 174 mX2_greatestKind 1 := ⟨big_mem 877 (by decide +kernel) (by decide +kernel), big_mem 878 (by decide +kernel) (by decide +kernel), big_mem 879 (by decide +kernel) (by decide +kernel), cbX2_greatestKind⟩
set_option maxRecDepth 20000 in
theorem v2_177 : CV 2 177 mX2_atPlace 2 := ⟨big_mem 881 (by decide +kernel) (by decide +kernel), big_mem 882 (by decide +kernel) (by decide +kernel), big_mem 883 (by decide +kernel) (by decide +kernel), cbX2_atPlace⟩
set_option maxRecDepth 20000 in
theorem s2_189 : CS 2 189 mJ6_bitCount_0f7a4 1 := ⟨big_mem 885 (by decide +kernel) (by decide +kernel), big_mem 886 (by decide +kernel) (by decide +kernel), cbJ6_bitCount_0f7a4⟩
set_option maxRecDepth 20000 in
theorem v9_130 : CV 9 130 mX7_orderOf 1 := ⟨big_mem 891 (by decide +kernel) (by decide +kernel), big_mem 892 (by decide +kernel) (by decide +kernel), big_mem 893 (by decide +kernel) (by decide +kernel), cbX7_orderOf⟩
set_option maxRecDepth 20000 in
theorem v7_246 : CV 7 246 mX2_digitsByRule 1 := ⟨big_mem 895 (by decide +kernel) (by decide +kernel), big_mem 896 (by decide +kernel) (by decide +kernel), big_mem 897 (by decide +kernel) (by decide +kernel), cbX2_digitsByRule⟩
set_option maxRecDepth 20000 in
theorem v2_194 : CV 2 194 mX2_choice 2 := ⟨big_mem 899 (by decide +kernel) (by decide +kernel), big_mem 861 (by decide +kernel) (by decide +kernel), big_mem 862 (by decide +kernel) (by decide +kernel), cbX2_choice⟩
set_option maxRecDepth 20000 in
theorem v9_134 : CV 9 134 mX7_prove 0 := ⟨big_mem 900 (by decide +kernel) (by decide +kernel), big_mem 901 (by decide +kernel) (by decide +kernel), big_mem 902 (by decide +kernel) (by decide +kernel), cbX7_prove⟩
set_option maxRecDepth 20000 in
theorem v7_249 : CV 7 249 mX2_writeBestRows 1 := ⟨big_mem 904 (by decide +kernel) (by decide +kernel), big_mem 905 (by decide +kernel) (by decide +kernel), big_mem 906 (by decide +kernel) (by decide +kernel), cbX2_writeBestRows⟩
set_option maxRecDepth 20000 in
theorem v9_138 : CV 9 138 mX7_row 2 := ⟨big_mem 908 (by decide +kernel) (by decide +kernel), big_mem 909 (by decide +kernel) (by decide +kernel), big_mem 910 (by decide +kernel) (by decide +kernel), cbX7_row⟩
set_option maxRecDepth 20000 in
theorem v7_253 : CV 7 253 mX7_hasCell 2 := ⟨big_mem 912 (by decide +kernel) (by decide +kernel), big_mem 914 (by decide +kernel) (by decide +kernel), big_mem 2 (by decide +kernel) (by decide +kernel), cbX7_hasCell⟩
set_option maxRecDepth 20000 in
theorem v9_142 : CV 9 142 mX7_alterRow 3 := ⟨big_mem 916 (by decide +kernel) (by decide +kernel), big_mem 917 (by decide +kernel) (by decide +kernel), big_mem 918 (by decide +kernel) (by decide +kernel), cbX7_alterRow⟩
set_option maxRecDepth 20000 in
theorem v9_146 : CV 9 146 mX7_judge 0 := ⟨big_mem 920 (by decide +kernel) (by decide +kernel), big_mem 921 (by decide +kernel) (by decide +kernel), big_mem 922 (by decide +kernel) (by decide +kernel), cbX7_judge⟩
set_option maxRecDepth 20000 in
theorem v7_256 : CV 7 256 mX2_firstWrongRow 2 := ⟨big_mem 924 (by decide +kernel) (by decide +kernel), big_mem 925 (by decide +kernel) (by decide +kernel), big_mem 926 (by decide +kernel) (by decide +kernel), cbX2_firstWrongRow⟩
set_option maxRecDepth 20000 in
theorem v9_150 : CV 9 150 mX7_dues 1 := ⟨big_mem 928 (by decide +kernel) (by decide +kernel), big_mem 929 (by decide +kernel) (by decide +kernel), big_mem 930 (by decide +kernel) (by decide +kernel), cbX7_dues⟩
set_option maxRecDepth 20000 in
theorem v7_260 : CV 7 260 mX1_refusalOf 2 := ⟨big_mem 932 (by decide +kernel) (by decide +kernel), big_mem 933 (by decide +kernel) (by decide +kernel), big_mem 934 (by decide +kernel) (by decide +kernel), cbX1_refusalOf⟩
set_option maxRecDepth 20000 in
theorem s1_32 : CS 1 32 mX1_isNumber 1 := ⟨big_mem 936 (by decide +kernel) (by decide +kernel), big_mem 937 (by decide +kernel) (by decide +kernel), cbX1_isNumber⟩
set_option maxRecDepth 20000 in
theorem v9_154 : CV 9 154 mX7_sheet 3 := ⟨big_mem 941 (by decide +kernel) (by decide +kernel), big_mem 942 (by decide +kernel) (by decide +kernel), big_mem 943 (by decide +kernel) (by decide +kernel), cbX7_sheet⟩
set_option maxRecDepth 20000 in
theorem s7_278 : CS 7 278 mX1_isNumber 1 := ⟨big_mem 945 (by decide +kernel) (by decide +kernel), big_mem 937 (by decide +kernel) (by decide +kernel), cbX1_isNumber⟩
set_option maxRecDepth 20000 in
theorem v7_281 : CV 7 281 mX1_makeRow 3 := ⟨big_mem 946 (by decide +kernel) (by decide +kernel), big_mem 947 (by decide +kernel) (by decide +kernel), big_mem 948 (by decide +kernel) (by decide +kernel), cbX1_makeRow⟩
set_option maxRecDepth 20000 in
theorem v9_158 : CV 9 158 mX7_write 3 := ⟨big_mem 950 (by decide +kernel) (by decide +kernel), big_mem 951 (by decide +kernel) (by decide +kernel), big_mem 952 (by decide +kernel) (by decide +kernel), cbX7_write⟩
set_option maxRecDepth 20000 in
theorem s7_288 : CS 7 288 mX1_narrowed 2 := ⟨big_mem 954 (by decide +kernel) (by decide +kernel), big_mem 955 (by decide +kernel) (by decide +kernel), cbX1_narrowed⟩
set_option maxRecDepth 20000 in
theorem v9_162 : CV 9 162 mX7_item 3 := ⟨big_mem 957 (by decide +kernel) (by decide +kernel), big_mem 958 (by decide +kernel) (by decide +kernel), big_mem 959 (by decide +kernel) (by decide +kernel), cbX7_item⟩
set_option maxRecDepth 20000 in
theorem v9_166 : CV 9 166 mX7_shelf 3 := ⟨big_mem 961 (by decide +kernel) (by decide +kernel), big_mem 962 (by decide +kernel) (by decide +kernel), big_mem 963 (by decide +kernel) (by decide +kernel), cbX7_shelf⟩
set_option maxRecDepth 20000 in
theorem v7_292 : CV 7 292 mX1_layOn 3 := ⟨big_mem 965 (by decide +kernel) (by decide +kernel), big_mem 966 (by decide +kernel) (by decide +kernel), big_mem 967 (by decide +kernel) (by decide +kernel), cbX1_layOn⟩
set_option maxRecDepth 20000 in
theorem v9_170 : CV 9 170 mX7_taken 2 := ⟨big_mem 969 (by decide +kernel) (by decide +kernel), big_mem 970 (by decide +kernel) (by decide +kernel), big_mem 971 (by decide +kernel) (by decide +kernel), cbX7_taken⟩
set_option maxRecDepth 20000 in
theorem v7_295 : CV 7 295 mX7_holdsNow 1 := ⟨big_mem 973 (by decide +kernel) (by decide +kernel), big_mem 975 (by decide +kernel) (by decide +kernel), big_mem 3 (by decide +kernel) (by decide +kernel), cbX7_holdsNow⟩
set_option maxRecDepth 20000 in
theorem s7_304 : CS 7 304 mX0_isOrUnder 2 := ⟨big_mem 977 (by decide +kernel) (by decide +kernel), big_mem 978 (by decide +kernel) (by decide +kernel), cbX0_isOrUnder⟩
set_option maxRecDepth 20000 in
theorem v9_174 : CV 9 174 mX7_act 3 := ⟨big_mem 980 (by decide +kernel) (by decide +kernel), big_mem 981 (by decide +kernel) (by decide +kernel), big_mem 982 (by decide +kernel) (by decide +kernel), cbX7_act⟩
set_option maxRecDepth 20000 in
theorem v7_308 : CV 7 308 mX0_perform 5 := ⟨big_mem 984 (by decide +kernel) (by decide +kernel), big_mem 985 (by decide +kernel) (by decide +kernel), big_mem 986 (by decide +kernel) (by decide +kernel), cbX0_perform⟩
set_option maxRecDepth 20000 in
theorem v0_32 : CV 0 32 mX0_bodyOf 2 := ⟨big_mem 988 (by decide +kernel) (by decide +kernel), big_mem 990 (by decide +kernel) (by decide +kernel), big_mem 4 (by decide +kernel) (by decide +kernel), cbX0_bodyOf⟩
set_option maxRecDepth 20000 in
theorem v0_36 : CV 0 36 mX0_movesAs 2 := ⟨big_mem 992 (by decide +kernel) (by decide +kernel), big_mem 994 (by decide +kernel) (by decide +kernel), big_mem 5 (by decide +kernel) (by decide +kernel), cbX0_movesAs⟩
set_option maxRecDepth 20000 in
theorem v0_48 : CV 0 48 mX0_begin 1 := ⟨big_mem 996 (by decide +kernel) (by decide +kernel), big_mem 998 (by decide +kernel) (by decide +kernel), big_mem 6 (by decide +kernel) (by decide +kernel), cbX0_begin⟩
set_option maxRecDepth 20000 in
theorem v0_39 : CV 0 39 mX0_callsAs 2 := ⟨big_mem 1000 (by decide +kernel) (by decide +kernel), big_mem 1002 (by decide +kernel) (by decide +kernel), big_mem 7 (by decide +kernel) (by decide +kernel), cbX0_callsAs⟩
set_option maxRecDepth 20000 in
theorem v0_42 : CV 0 42 mX0_sharesAs 2 := ⟨big_mem 1004 (by decide +kernel) (by decide +kernel), big_mem 1006 (by decide +kernel) (by decide +kernel), big_mem 8 (by decide +kernel) (by decide +kernel), cbX0_sharesAs⟩
set_option maxRecDepth 20000 in
theorem v0_52 : CV 0 52 mX0_part 2 := ⟨big_mem 1008 (by decide +kernel) (by decide +kernel), big_mem 1010 (by decide +kernel) (by decide +kernel), big_mem 9 (by decide +kernel) (by decide +kernel), cbX0_part⟩
set_option maxRecDepth 20000 in
theorem v0_45 : CV 0 45 mX0_tellsAs 2 := ⟨big_mem 1012 (by decide +kernel) (by decide +kernel), big_mem 1014 (by decide +kernel) (by decide +kernel), big_mem 10 (by decide +kernel) (by decide +kernel), cbX0_tellsAs⟩
set_option maxRecDepth 20000 in
theorem v9_178 : CV 9 178 mX7_trace 1 := ⟨big_mem 1016 (by decide +kernel) (by decide +kernel), big_mem 1017 (by decide +kernel) (by decide +kernel), big_mem 1018 (by decide +kernel) (by decide +kernel), cbX7_trace⟩
set_option maxRecDepth 20000 in
theorem v9_182 : CV 9 182 mX7_many 1 := ⟨big_mem 1020 (by decide +kernel) (by decide +kernel), big_mem 1021 (by decide +kernel) (by decide +kernel), big_mem 1022 (by decide +kernel) (by decide +kernel), cbX7_many⟩
set_option maxRecDepth 20000 in
theorem v7_315 : CV 7 315 mX5_openOnes 1 := ⟨big_mem 1024 (by decide +kernel) (by decide +kernel), big_mem 747 (by decide +kernel) (by decide +kernel), big_mem 748 (by decide +kernel) (by decide +kernel), cbX5_openOnes⟩
set_option maxRecDepth 20000 in
theorem v9_186 : CV 9 186 mX7_keep 0 := ⟨big_mem 1025 (by decide +kernel) (by decide +kernel), big_mem 1026 (by decide +kernel) (by decide +kernel), big_mem 1027 (by decide +kernel) (by decide +kernel), cbX7_keep⟩
set_option maxRecDepth 20000 in
theorem v7_318 : CV 7 318 mX5_takeAll 1 := ⟨big_mem 1029 (by decide +kernel) (by decide +kernel), big_mem 1030 (by decide +kernel) (by decide +kernel), big_mem 1031 (by decide +kernel) (by decide +kernel), cbX5_takeAll⟩
set_option maxRecDepth 20000 in
theorem v5_74 : CV 5 74 mX5_takeTown 1 := ⟨big_mem 1033 (by decide +kernel) (by decide +kernel), big_mem 589 (by decide +kernel) (by decide +kernel), big_mem 590 (by decide +kernel) (by decide +kernel), cbX5_takeTown⟩
set_option maxRecDepth 20000 in
theorem v9_190 : CV 9 190 mX7_again 0 := ⟨big_mem 1034 (by decide +kernel) (by decide +kernel), big_mem 1035 (by decide +kernel) (by decide +kernel), big_mem 1036 (by decide +kernel) (by decide +kernel), cbX7_again⟩
set_option maxRecDepth 20000 in
theorem v9_19 : CV 9 19 mX8_feed 2 := ⟨big_mem 1222 (by decide +kernel) (by decide +kernel), big_mem 1223 (by decide +kernel) (by decide +kernel), big_mem 1224 (by decide +kernel) (by decide +kernel), cbX8_feed⟩
set_option maxRecDepth 20000 in
theorem s8_95 : CS 8 95 mX8_in 3 := ⟨big_mem 1226 (by decide +kernel) (by decide +kernel), big_mem 1227 (by decide +kernel) (by decide +kernel), cbX8_in⟩
set_option maxRecDepth 20000 in
theorem v9_24 : CV 9 24 mX8_town 0 := ⟨big_mem 1230 (by decide +kernel) (by decide +kernel), big_mem 1231 (by decide +kernel) (by decide +kernel), big_mem 1232 (by decide +kernel) (by decide +kernel), cbX8_town⟩
set_option maxRecDepth 20000 in
theorem v8_161 : CV 8 161 mX8_advance 0 := ⟨big_mem 1234 (by decide +kernel) (by decide +kernel), big_mem 1236 (by decide +kernel) (by decide +kernel), big_mem 11 (by decide +kernel) (by decide +kernel), cbX8_advance⟩
set_option maxRecDepth 20000 in
theorem v8_114 : CV 8 114 mX8_byteAt 1 := ⟨big_mem 1238 (by decide +kernel) (by decide +kernel), big_mem 1240 (by decide +kernel) (by decide +kernel), big_mem 12 (by decide +kernel) (by decide +kernel), cbX8_byteAt⟩
set_option maxRecDepth 20000 in
theorem s8_118 : CS 8 118 mX8_isLetter 1 := ⟨big_mem 1242 (by decide +kernel) (by decide +kernel), big_mem 1243 (by decide +kernel) (by decide +kernel), cbX8_isLetter⟩
set_option maxRecDepth 20000 in
theorem s8_122 : CS 8 122 mX8_isDigit 1 := ⟨big_mem 1245 (by decide +kernel) (by decide +kernel), big_mem 1246 (by decide +kernel) (by decide +kernel), cbX8_isDigit⟩
set_option maxRecDepth 20000 in
theorem v8_222 : CV 8 222 mX8_wantClause 0 := ⟨big_mem 1251 (by decide +kernel) (by decide +kernel), big_mem 1253 (by decide +kernel) (by decide +kernel), big_mem 13 (by decide +kernel) (by decide +kernel), cbX8_wantClause⟩
set_option maxRecDepth 20000 in
theorem v8_143 : CV 8 143 mX8_isWord 1 := ⟨big_mem 1256 (by decide +kernel) (by decide +kernel), big_mem 1258 (by decide +kernel) (by decide +kernel), big_mem 14 (by decide +kernel) (by decide +kernel), cbX8_isWord⟩
set_option maxRecDepth 20000 in
theorem v8_199 : CV 8 199 mX8_wantOne 4 := ⟨big_mem 1260 (by decide +kernel) (by decide +kernel), big_mem 1262 (by decide +kernel) (by decide +kernel), big_mem 15 (by decide +kernel) (by decide +kernel), cbX8_wantOne⟩
set_option maxRecDepth 20000 in
theorem v8_167 : CV 8 167 mX8_wantNumber 2 := ⟨big_mem 1264 (by decide +kernel) (by decide +kernel), big_mem 1266 (by decide +kernel) (by decide +kernel), big_mem 16 (by decide +kernel) (by decide +kernel), cbX8_wantNumber⟩
set_option maxRecDepth 20000 in
theorem v8_171 : CV 8 171 mX8_wantEnd 0 := ⟨big_mem 1268 (by decide +kernel) (by decide +kernel), big_mem 1270 (by decide +kernel) (by decide +kernel), big_mem 17 (by decide +kernel) (by decide +kernel), cbX8_wantEnd⟩
set_option maxRecDepth 20000 in
theorem v8_164 : CV 8 164 mX8_isMark 1 := ⟨big_mem 1272 (by decide +kernel) (by decide +kernel), big_mem 1274 (by decide +kernel) (by decide +kernel), big_mem 18 (by decide +kernel) (by decide +kernel), cbX8_isMark⟩
set_option maxRecDepth 20000 in
theorem v8_205 : CV 8 205 mX8_kindHere 0 := ⟨big_mem 1277 (by decide +kernel) (by decide +kernel), big_mem 1279 (by decide +kernel) (by decide +kernel), big_mem 19 (by decide +kernel) (by decide +kernel), cbX8_kindHere⟩
set_option maxRecDepth 20000 in
theorem v8_209 : CV 8 209 mX8_wantWork 1 := ⟨big_mem 1287 (by decide +kernel) (by decide +kernel), big_mem 1289 (by decide +kernel) (by decide +kernel), big_mem 20 (by decide +kernel) (by decide +kernel), cbX8_wantWork⟩
set_option maxRecDepth 20000 in
theorem v8_185 : CV 8 185 mX8_wantWord 1 := ⟨big_mem 1292 (by decide +kernel) (by decide +kernel), big_mem 1294 (by decide +kernel) (by decide +kernel), big_mem 21 (by decide +kernel) (by decide +kernel), cbX8_wantWord⟩
set_option maxRecDepth 20000 in
theorem v8_215 : CV 8 215 mX8_wantLaw 1 := ⟨big_mem 1301 (by decide +kernel) (by decide +kernel), big_mem 1303 (by decide +kernel) (by decide +kernel), big_mem 22 (by decide +kernel) (by decide +kernel), cbX8_wantLaw⟩
set_option maxRecDepth 20000 in
theorem v9_29 : CV 9 29 mX8_mover 2 := ⟨big_mem 1307 (by decide +kernel) (by decide +kernel), big_mem 1308 (by decide +kernel) (by decide +kernel), big_mem 1309 (by decide +kernel) (by decide +kernel), cbX8_mover⟩
set_option maxRecDepth 20000 in
theorem s8_237 : CS 8 237 mX8_isPlace 1 := ⟨big_mem 1311 (by decide +kernel) (by decide +kernel), big_mem 1312 (by decide +kernel) (by decide +kernel), cbX8_isPlace⟩
set_option maxRecDepth 20000 in
theorem v9_33 : CV 9 33 mX8_thing 2 := ⟨big_mem 1314 (by decide +kernel) (by decide +kernel), big_mem 1315 (by decide +kernel) (by decide +kernel), big_mem 1316 (by decide +kernel) (by decide +kernel), cbX8_thing⟩
set_option maxRecDepth 20000 in
theorem v9_38 : CV 9 38 mX8_work 6 := ⟨big_mem 1318 (by decide +kernel) (by decide +kernel), big_mem 1319 (by decide +kernel) (by decide +kernel), big_mem 1320 (by decide +kernel) (by decide +kernel), cbX8_work⟩
set_option maxRecDepth 20000 in
theorem v9_43 : CV 9 43 mX8_behind 3 := ⟨big_mem 1322 (by decide +kernel) (by decide +kernel), big_mem 1323 (by decide +kernel) (by decide +kernel), big_mem 1324 (by decide +kernel) (by decide +kernel), cbX8_behind⟩
set_option maxRecDepth 20000 in
theorem v8_243 : CV 8 243 mX8_isWork 1 := ⟨big_mem 1326 (by decide +kernel) (by decide +kernel), big_mem 1328 (by decide +kernel) (by decide +kernel), big_mem 23 (by decide +kernel) (by decide +kernel), cbX8_isWork⟩
set_option maxRecDepth 20000 in
theorem v8_246 : CV 8 246 mX8_isOpen 1 := ⟨big_mem 1330 (by decide +kernel) (by decide +kernel), big_mem 1332 (by decide +kernel) (by decide +kernel), big_mem 24 (by decide +kernel) (by decide +kernel), cbX8_isOpen⟩
set_option maxRecDepth 20000 in
theorem v8_249 : CV 8 249 mX8_its 2 := ⟨big_mem 1334 (by decide +kernel) (by decide +kernel), big_mem 1336 (by decide +kernel) (by decide +kernel), big_mem 25 (by decide +kernel) (by decide +kernel), cbX8_its⟩
set_option maxRecDepth 20000 in
theorem v9_47 : CV 9 47 mX8_workOf 2 := ⟨big_mem 1338 (by decide +kernel) (by decide +kernel), big_mem 1339 (by decide +kernel) (by decide +kernel), big_mem 1340 (by decide +kernel) (by decide +kernel), cbX8_workOf⟩
set_option maxRecDepth 20000 in
theorem v9_51 : CV 9 51 mX8_at 2 := ⟨big_mem 1342 (by decide +kernel) (by decide +kernel), big_mem 1343 (by decide +kernel) (by decide +kernel), big_mem 1344 (by decide +kernel) (by decide +kernel), cbX8_at⟩
set_option maxRecDepth 20000 in
theorem v8_252 : CV 8 252 mX8_isMoved 2 := ⟨big_mem 1346 (by decide +kernel) (by decide +kernel), big_mem 1348 (by decide +kernel) (by decide +kernel), big_mem 26 (by decide +kernel) (by decide +kernel), cbX8_isMoved⟩
set_option maxRecDepth 20000 in
theorem v9_55 : CV 9 55 mX8_put 3 := ⟨big_mem 1350 (by decide +kernel) (by decide +kernel), big_mem 1351 (by decide +kernel) (by decide +kernel), big_mem 1352 (by decide +kernel) (by decide +kernel), cbX8_put⟩
set_option maxRecDepth 20000 in
theorem v9_59 : CV 9 59 mX8_set 2 := ⟨big_mem 1354 (by decide +kernel) (by decide +kernel), big_mem 1355 (by decide +kernel) (by decide +kernel), big_mem 1356 (by decide +kernel) (by decide +kernel), cbX8_set⟩
set_option maxRecDepth 20000 in
theorem v9_63 : CV 9 63 mX8_minute 0 := ⟨big_mem 1358 (by decide +kernel) (by decide +kernel), big_mem 1359 (by decide +kernel) (by decide +kernel), big_mem 1360 (by decide +kernel) (by decide +kernel), cbX8_minute⟩
set_option maxRecDepth 20000 in
theorem v9_68 : CV 9 68 mX8_pass 1 := ⟨big_mem 1362 (by decide +kernel) (by decide +kernel), big_mem 1363 (by decide +kernel) (by decide +kernel), big_mem 1364 (by decide +kernel) (by decide +kernel), cbX8_pass⟩
set_option maxRecDepth 20000 in
theorem v9_72 : CV 9 72 mX8_minutes 1 := ⟨big_mem 1366 (by decide +kernel) (by decide +kernel), big_mem 1367 (by decide +kernel) (by decide +kernel), big_mem 1368 (by decide +kernel) (by decide +kernel), cbX8_minutes⟩
set_option maxRecDepth 20000 in
theorem v8_283 : CV 8 283 mX8_minutesOf 1 := ⟨big_mem 1370 (by decide +kernel) (by decide +kernel), big_mem 1372 (by decide +kernel) (by decide +kernel), big_mem 27 (by decide +kernel) (by decide +kernel), cbX8_minutesOf⟩
set_option maxRecDepth 20000 in
theorem v8_274 : CV 8 274 mX8_heavyMinutes 1 := ⟨big_mem 1374 (by decide +kernel) (by decide +kernel), big_mem 1376 (by decide +kernel) (by decide +kernel), big_mem 28 (by decide +kernel) (by decide +kernel), cbX8_heavyMinutes⟩
set_option maxRecDepth 20000 in
theorem v8_268 : CV 8 268 mX8_plainMinutes 1 := ⟨big_mem 1378 (by decide +kernel) (by decide +kernel), big_mem 1380 (by decide +kernel) (by decide +kernel), big_mem 29 (by decide +kernel) (by decide +kernel), cbX8_plainMinutes⟩
set_option maxRecDepth 20000 in
theorem v8_262 : CV 8 262 mX8_walk 2 := ⟨big_mem 1382 (by decide +kernel) (by decide +kernel), big_mem 1384 (by decide +kernel) (by decide +kernel), big_mem 30 (by decide +kernel) (by decide +kernel), cbX8_walk⟩
set_option maxRecDepth 20000 in
theorem s8_256 : CS 8 256 mX8_far 2 := ⟨big_mem 1386 (by decide +kernel) (by decide +kernel), big_mem 1387 (by decide +kernel) (by decide +kernel), cbX8_far⟩
set_option maxRecDepth 20000 in
theorem v8_265 : CV 8 265 mX8_carry 2 := ⟨big_mem 1389 (by decide +kernel) (by decide +kernel), big_mem 1391 (by decide +kernel) (by decide +kernel), big_mem 31 (by decide +kernel) (by decide +kernel), cbX8_carry⟩
set_option maxRecDepth 20000 in
theorem s8_259 : CS 8 259 mX8_up 2 := ⟨big_mem 1393 (by decide +kernel) (by decide +kernel), big_mem 1394 (by decide +kernel) (by decide +kernel), cbX8_up⟩
set_option maxRecDepth 20000 in
theorem v8_271 : CV 8 271 mX8_nextMover 1 := ⟨big_mem 1396 (by decide +kernel) (by decide +kernel), big_mem 1398 (by decide +kernel) (by decide +kernel), big_mem 32 (by decide +kernel) (by decide +kernel), cbX8_nextMover⟩
set_option maxRecDepth 20000 in
theorem v8_277 : CV 8 277 mX8_othersThere 1 := ⟨big_mem 1400 (by decide +kernel) (by decide +kernel), big_mem 1402 (by decide +kernel) (by decide +kernel), big_mem 33 (by decide +kernel) (by decide +kernel), cbX8_othersThere⟩
set_option maxRecDepth 20000 in
theorem v9_76 : CV 9 76 mX8_may 0 := ⟨big_mem 1404 (by decide +kernel) (by decide +kernel), big_mem 1405 (by decide +kernel) (by decide +kernel), big_mem 1406 (by decide +kernel) (by decide +kernel), cbX8_may⟩
set_option maxRecDepth 20000 in
theorem v8_298 : CV 8 298 mX8_maySet 0 := ⟨big_mem 1408 (by decide +kernel) (by decide +kernel), big_mem 1410 (by decide +kernel) (by decide +kernel), big_mem 34 (by decide +kernel) (by decide +kernel), cbX8_maySet⟩
set_option maxRecDepth 20000 in
theorem v8_295 : CV 8 295 mX8_isFree 1 := ⟨big_mem 1412 (by decide +kernel) (by decide +kernel), big_mem 1414 (by decide +kernel) (by decide +kernel), big_mem 35 (by decide +kernel) (by decide +kernel), cbX8_isFree⟩
