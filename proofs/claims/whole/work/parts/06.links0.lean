abbrev mX7_feed : Mi := (7, yX7_feed, cX7_feed, 4, (some .int))
set_option maxRecDepth 20000 in
theorem cbX7_feed : CB mX7_feed 2 := ⟨big_mem 77 (by decide +kernel) (by decide +kernel), big_mem 436 (by decide +kernel) (by decide +kernel), by decide +kernel, by decide +kernel, by decide +kernel, by decide⟩
abbrev mX4_append : Mi := (4, yX4_append, cX4_append, 5, (some .boolean))
set_option maxRecDepth 20000 in
theorem cbX4_append : CB mX4_append 2 := ⟨big_mem 82 (by decide +kernel) (by decide +kernel), big_mem 440 (by decide +kernel) (by decide +kernel), by decide +kernel, by decide +kernel, by decide +kernel, by decide⟩
abbrev mX7_town : Mi := (7, yX7_town, cX7_town, 2, (some .int))
set_option maxRecDepth 20000 in
theorem cbX7_town : CB mX7_town 0 := ⟨big_mem 77 (by decide +kernel) (by decide +kernel), big_mem 444 (by decide +kernel) (by decide +kernel), by decide +kernel, by decide +kernel, by decide +kernel, by decide⟩
abbrev mX5_clear : Mi := (5, yX5_clear, cX5_clear, 1, none)
set_option maxRecDepth 20000 in
theorem cbX5_clear : CB mX5_clear 0 := ⟨big_mem 79 (by decide +kernel) (by decide +kernel), big_mem 448 (by decide +kernel) (by decide +kernel), by decide +kernel, by decide +kernel, by decide +kernel, by decide⟩
abbrev mX5_takeLaws : Mi := (5, yX5_takeLaws, cX5_takeLaws, 2, none)
set_option maxRecDepth 20000 in
theorem cbX5_takeLaws : CB mX5_takeLaws 1 := ⟨big_mem 79 (by decide +kernel) (by decide +kernel), big_mem 452 (by decide +kernel) (by decide +kernel), by decide +kernel, by decide +kernel, by decide +kernel, by decide⟩
abbrev mX4_readInto : Mi := (4, yX4_readInto, cX4_readInto, 3, (some .int))
set_option maxRecDepth 20000 in
theorem cbX4_readInto : CB mX4_readInto 1 := ⟨big_mem 82 (by decide +kernel) (by decide +kernel), big_mem 459 (by decide +kernel) (by decide +kernel), by decide +kernel, by decide +kernel, by decide +kernel, by decide⟩
abbrev mX4_advance : Mi := (4, yX4_advance, cX4_advance, 1, none)
set_option maxRecDepth 20000 in
theorem cbX4_advance : CB mX4_advance 0 := ⟨big_mem 82 (by decide +kernel) (by decide +kernel), big_mem 463 (by decide +kernel) (by decide +kernel), by decide +kernel, by decide +kernel, by decide +kernel, by decide⟩
abbrev mX4_sortOf : Mi := (4, yX4_sortOf, cX4_sortOf, 1, (some .int))
set_option maxRecDepth 20000 in
theorem cbX4_sortOf : CB mX4_sortOf 1 := ⟨big_mem 82 (by decide +kernel) (by decide +kernel), big_mem 466 (by decide +kernel) (by decide +kernel), by decide +kernel, by decide +kernel, by decide +kernel, by decide⟩
abbrev mX4_readSentence : Mi := (4, yX4_readSentence, cX4_readSentence, 3, none)
set_option maxRecDepth 20000 in
theorem cbX4_readSentence : CB mX4_readSentence 1 := ⟨big_mem 82 (by decide +kernel) (by decide +kernel), big_mem 470 (by decide +kernel) (by decide +kernel), by decide +kernel, by decide +kernel, by decide +kernel, by decide⟩
abbrev mX4_kindTold : Mi := (4, yX4_kindTold, cX4_kindTold, 1, (some .int))
set_option maxRecDepth 20000 in
theorem cbX4_kindTold : CB mX4_kindTold 0 := ⟨big_mem 82 (by decide +kernel) (by decide +kernel), big_mem 474 (by decide +kernel) (by decide +kernel), by decide +kernel, by decide +kernel, by decide +kernel, by decide⟩
abbrev mX4_isWord : Mi := (4, yX4_isWord, cX4_isWord, 3, (some .boolean))
set_option maxRecDepth 20000 in
theorem cbX4_isWord : CB mX4_isWord 1 := ⟨big_mem 82 (by decide +kernel) (by decide +kernel), big_mem 479 (by decide +kernel) (by decide +kernel), by decide +kernel, by decide +kernel, by decide +kernel, by decide⟩
abbrev mJ0_length_8abf5 : Mi := (10, yJ0_length_8abf5, cJ0_length_8abf5, 1, (some .int))
set_option maxRecDepth 20000 in
theorem cbJ0_length_8abf5 : CB mJ0_length_8abf5 0 := ⟨big_mem 87 (by decide +kernel) (by decide +kernel), big_mem 483 (by decide +kernel) (by decide +kernel), by decide +kernel, by decide +kernel, by decide +kernel, by decide⟩
abbrev mJ0_coder_7d493 : Mi := (10, yJ0_coder_7d493, cJ0_coder_7d493, 1, (some .byte))
set_option maxRecDepth 20000 in
theorem cbJ0_coder_7d493 : CB mJ0_coder_7d493 0 := ⟨big_mem 87 (by decide +kernel) (by decide +kernel), big_mem 487 (by decide +kernel) (by decide +kernel), by decide +kernel, by decide +kernel, by decide +kernel, by decide⟩
abbrev mJ0_charAt_5068e : Mi := (10, yJ0_charAt_5068e, cJ0_charAt_5068e, 2, (some .char))
set_option maxRecDepth 20000 in
theorem cbJ0_charAt_5068e : CB mJ0_charAt_5068e 1 := ⟨big_mem 87 (by decide +kernel) (by decide +kernel), big_mem 493 (by decide +kernel) (by decide +kernel), by decide +kernel, by decide +kernel, by decide +kernel, by decide⟩
abbrev mJ0_isLatin1_aae02 : Mi := (10, yJ0_isLatin1_aae02, cJ0_isLatin1_aae02, 1, (some .boolean))
set_option maxRecDepth 20000 in
theorem cbJ0_isLatin1_aae02 : CB mJ0_isLatin1_aae02 0 := ⟨big_mem 87 (by decide +kernel) (by decide +kernel), big_mem 497 (by decide +kernel) (by decide +kernel), by decide +kernel, by decide +kernel, by decide +kernel, by decide⟩
abbrev mJ1_charAt_3b067 : Mi := (11, yJ1_charAt_3b067, cJ1_charAt_3b067, 2, (some .char))
set_option maxRecDepth 20000 in
theorem cbJ1_charAt_3b067 : CB mJ1_charAt_3b067 2 := ⟨big_mem 88 (by decide +kernel) (by decide +kernel), big_mem 500 (by decide +kernel) (by decide +kernel), by decide +kernel, by decide +kernel, by decide +kernel, by decide⟩
abbrev mJ0_checkIndex_df160 : Mi := (10, yJ0_checkIndex_df160, cJ0_checkIndex_df160, 2, none)
set_option maxRecDepth 20000 in
theorem cbJ0_checkIndex_df160 : CB mJ0_checkIndex_df160 2 := ⟨big_mem 87 (by decide +kernel) (by decide +kernel), big_mem 503 (by decide +kernel) (by decide +kernel), by decide +kernel, by decide +kernel, by decide +kernel, by decide⟩
abbrev mJ3_checkIndex_8e157 : Mi := (12, yJ3_checkIndex_8e157, cJ3_checkIndex_8e157, 3, (some .int))
set_option maxRecDepth 20000 in
theorem cbJ3_checkIndex_8e157 : CB mJ3_checkIndex_8e157 3 := ⟨big_mem 89 (by decide +kernel) (by decide +kernel), big_mem 508 (by decide +kernel) (by decide +kernel), by decide +kernel, by decide +kernel, by decide +kernel, by decide⟩
abbrev mX4_readWork : Mi := (4, yX4_readWork, cX4_readWork, 9, none)
set_option maxRecDepth 20000 in
theorem cbX4_readWork : CB mX4_readWork 2 := ⟨big_mem 82 (by decide +kernel) (by decide +kernel), big_mem 536 (by decide +kernel) (by decide +kernel), by decide +kernel, by decide +kernel, by decide +kernel, by decide⟩
abbrev mX4_fail : Mi := (4, yX4_fail, cX4_fail, 1, none)
set_option maxRecDepth 20000 in
theorem cbX4_fail : CB mX4_fail 0 := ⟨big_mem 82 (by decide +kernel) (by decide +kernel), big_mem 540 (by decide +kernel) (by decide +kernel), by decide +kernel, by decide +kernel, by decide +kernel, by decide⟩
abbrev mX4_readNumber : Mi := (4, yX4_readNumber, cX4_readNumber, 5, (some .int))
set_option maxRecDepth 20000 in
theorem cbX4_readNumber : CB mX4_readNumber 2 := ⟨big_mem 82 (by decide +kernel) (by decide +kernel), big_mem 544 (by decide +kernel) (by decide +kernel), by decide +kernel, by decide +kernel, by decide +kernel, by decide⟩
abbrev mX4_readWord : Mi := (4, yX4_readWord, cX4_readWord, 2, none)
set_option maxRecDepth 20000 in
theorem cbX4_readWord : CB mX4_readWord 1 := ⟨big_mem 82 (by decide +kernel) (by decide +kernel), big_mem 549 (by decide +kernel) (by decide +kernel), by decide +kernel, by decide +kernel, by decide +kernel, by decide⟩
abbrev mX5_addWork : Mi := (5, yX5_addWork, cX5_addWork, 8, (some .int))
set_option maxRecDepth 20000 in
theorem cbX5_addWork : CB mX5_addWork 6 := ⟨big_mem 79 (by decide +kernel) (by decide +kernel), big_mem 555 (by decide +kernel) (by decide +kernel), by decide +kernel, by decide +kernel, by decide +kernel, by decide⟩
abbrev mX4_readMover : Mi := (4, yX4_readMover, cX4_readMover, 4, none)
set_option maxRecDepth 20000 in
theorem cbX4_readMover : CB mX4_readMover 1 := ⟨big_mem 82 (by decide +kernel) (by decide +kernel), big_mem 562 (by decide +kernel) (by decide +kernel), by decide +kernel, by decide +kernel, by decide +kernel, by decide⟩
abbrev mX5_addMover : Mi := (5, yX5_addMover, cX5_addMover, 3, (some .int))
set_option maxRecDepth 20000 in
theorem cbX5_addMover : CB mX5_addMover 2 := ⟨big_mem 79 (by decide +kernel) (by decide +kernel), big_mem 566 (by decide +kernel) (by decide +kernel), by decide +kernel, by decide +kernel, by decide +kernel, by decide⟩
abbrev mX4_readThing : Mi := (4, yX4_readThing, cX4_readThing, 4, none)
set_option maxRecDepth 20000 in
theorem cbX4_readThing : CB mX4_readThing 1 := ⟨big_mem 82 (by decide +kernel) (by decide +kernel), big_mem 571 (by decide +kernel) (by decide +kernel), by decide +kernel, by decide +kernel, by decide +kernel, by decide⟩
abbrev mX5_addThing : Mi := (5, yX5_addThing, cX5_addThing, 3, (some .int))
set_option maxRecDepth 20000 in
theorem cbX5_addThing : CB mX5_addThing 2 := ⟨big_mem 79 (by decide +kernel) (by decide +kernel), big_mem 575 (by decide +kernel) (by decide +kernel), by decide +kernel, by decide +kernel, by decide +kernel, by decide⟩
abbrev mX4_readLaw : Mi := (4, yX4_readLaw, cX4_readLaw, 4, none)
set_option maxRecDepth 20000 in
theorem cbX4_readLaw : CB mX4_readLaw 2 := ⟨big_mem 82 (by decide +kernel) (by decide +kernel), big_mem 580 (by decide +kernel) (by decide +kernel), by decide +kernel, by decide +kernel, by decide +kernel, by decide⟩
abbrev mX5_takeTown : Mi := (5, yX5_takeTown, cX5_takeTown, 3, none)
set_option maxRecDepth 20000 in
theorem cbX5_takeTown : CB mX5_takeTown 1 := ⟨big_mem 79 (by decide +kernel) (by decide +kernel), big_mem 591 (by decide +kernel) (by decide +kernel), by decide +kernel, by decide +kernel, by decide +kernel, by decide⟩
abbrev mX6_take : Mi := (6, yX6_take, cX6_take, 2, none)
set_option maxRecDepth 20000 in
theorem cbX6_take : CB mX6_take 1 := ⟨big_mem 81 (by decide +kernel) (by decide +kernel), big_mem 595 (by decide +kernel) (by decide +kernel), by decide +kernel, by decide +kernel, by decide +kernel, by decide⟩
abbrev mX3_take : Mi := (3, yX3_take, cX3_take, 2, none)
set_option maxRecDepth 20000 in
theorem cbX3_take : CB mX3_take 1 := ⟨big_mem 80 (by decide +kernel) (by decide +kernel), big_mem 600 (by decide +kernel) (by decide +kernel), by decide +kernel, by decide +kernel, by decide +kernel, by decide⟩
abbrev mX7_mover : Mi := (7, yX7_mover, cX7_mover, 3, (some .int))
set_option maxRecDepth 20000 in
theorem cbX7_mover : CB mX7_mover 2 := ⟨big_mem 77 (by decide +kernel) (by decide +kernel), big_mem 605 (by decide +kernel) (by decide +kernel), by decide +kernel, by decide +kernel, by decide +kernel, by decide⟩
abbrev mX7_isWithin : Mi := (7, yX7_isWithin, cX7_isWithin, 3, (some .boolean))
set_option maxRecDepth 20000 in
theorem cbX7_isWithin : CB mX7_isWithin 3 := ⟨big_mem 77 (by decide +kernel) (by decide +kernel), big_mem 608 (by decide +kernel) (by decide +kernel), by decide +kernel, by decide +kernel, by decide +kernel, by decide⟩
abbrev mX7_thing : Mi := (7, yX7_thing, cX7_thing, 3, (some .int))
set_option maxRecDepth 20000 in
theorem cbX7_thing : CB mX7_thing 2 := ⟨big_mem 77 (by decide +kernel) (by decide +kernel), big_mem 613 (by decide +kernel) (by decide +kernel), by decide +kernel, by decide +kernel, by decide +kernel, by decide⟩
abbrev mX7_work : Mi := (7, yX7_work, cX7_work, 8, (some .int))
set_option maxRecDepth 20000 in
theorem cbX7_work : CB mX7_work 6 := ⟨big_mem 77 (by decide +kernel) (by decide +kernel), big_mem 618 (by decide +kernel) (by decide +kernel), by decide +kernel, by decide +kernel, by decide +kernel, by decide⟩
abbrev mX7_behind : Mi := (7, yX7_behind, cX7_behind, 6, (some .int))
set_option maxRecDepth 20000 in
theorem cbX7_behind : CB mX7_behind 3 := ⟨big_mem 77 (by decide +kernel) (by decide +kernel), big_mem 623 (by decide +kernel) (by decide +kernel), by decide +kernel, by decide +kernel, by decide +kernel, by decide⟩
abbrev mX5_hasWork : Mi := (5, yX5_hasWork, cX5_hasWork, 2, (some .boolean))
set_option maxRecDepth 20000 in
theorem cbX5_hasWork : CB mX5_hasWork 1 := ⟨big_mem 79 (by decide +kernel) (by decide +kernel), big_mem 627 (by decide +kernel) (by decide +kernel), by decide +kernel, by decide +kernel, by decide +kernel, by decide⟩
abbrev mX7_orNone : Mi := (7, yX7_orNone, cX7_orNone, 1, (some .int))
set_option maxRecDepth 20000 in
theorem cbX7_orNone : CB mX7_orNone 1 := ⟨big_mem 77 (by decide +kernel) (by decide +kernel), big_mem 630 (by decide +kernel) (by decide +kernel), by decide +kernel, by decide +kernel, by decide +kernel, by decide⟩
abbrev mX7_workOf : Mi := (7, yX7_workOf, cX7_workOf, 4, (some .int))
set_option maxRecDepth 20000 in
theorem cbX7_workOf : CB mX7_workOf 2 := ⟨big_mem 77 (by decide +kernel) (by decide +kernel), big_mem 634 (by decide +kernel) (by decide +kernel), by decide +kernel, by decide +kernel, by decide +kernel, by decide⟩
abbrev mX7_at : Mi := (7, yX7_at, cX7_at, 3, (some .int))
set_option maxRecDepth 20000 in
theorem cbX7_at : CB mX7_at 2 := ⟨big_mem 77 (by decide +kernel) (by decide +kernel), big_mem 638 (by decide +kernel) (by decide +kernel), by decide +kernel, by decide +kernel, by decide +kernel, by decide⟩
abbrev mX5_isThere : Mi := (5, yX5_isThere, cX5_isThere, 3, (some .boolean))
set_option maxRecDepth 20000 in
theorem cbX5_isThere : CB mX5_isThere 2 := ⟨big_mem 79 (by decide +kernel) (by decide +kernel), big_mem 642 (by decide +kernel) (by decide +kernel), by decide +kernel, by decide +kernel, by decide +kernel, by decide⟩
abbrev mX3_placesOf : Mi := (3, yX3_placesOf, cX3_placesOf, 2, (some (.array .int)))
set_option maxRecDepth 20000 in
theorem cbX3_placesOf : CB mX3_placesOf 1 := ⟨big_mem 80 (by decide +kernel) (by decide +kernel), big_mem 646 (by decide +kernel) (by decide +kernel), by decide +kernel, by decide +kernel, by decide +kernel, by decide⟩
abbrev mX7_put : Mi := (7, yX7_put, cX7_put, 6, (some .int))
set_option maxRecDepth 20000 in
theorem cbX7_put : CB mX7_put 3 := ⟨big_mem 77 (by decide +kernel) (by decide +kernel), big_mem 650 (by decide +kernel) (by decide +kernel), by decide +kernel, by decide +kernel, by decide +kernel, by decide⟩
abbrev mX7_set : Mi := (7, yX7_set, cX7_set, 4, (some .int))
set_option maxRecDepth 20000 in
theorem cbX7_set : CB mX7_set 2 := ⟨big_mem 77 (by decide +kernel) (by decide +kernel), big_mem 654 (by decide +kernel) (by decide +kernel), by decide +kernel, by decide +kernel, by decide +kernel, by decide⟩
abbrev mX7_minute : Mi := (7, yX7_minute, cX7_minute, 1, (some .int))
set_option maxRecDepth 20000 in
theorem cbX7_minute : CB mX7_minute 0 := ⟨big_mem 77 (by decide +kernel) (by decide +kernel), big_mem 660 (by decide +kernel) (by decide +kernel), by decide +kernel, by decide +kernel, by decide +kernel, by decide⟩
abbrev mX7_pass : Mi := (7, yX7_pass, cX7_pass, 2, (some .int))
set_option maxRecDepth 20000 in
theorem cbX7_pass : CB mX7_pass 1 := ⟨big_mem 77 (by decide +kernel) (by decide +kernel), big_mem 664 (by decide +kernel) (by decide +kernel), by decide +kernel, by decide +kernel, by decide +kernel, by decide⟩
abbrev mX7_minutes : Mi := (7, yX7_minutes, cX7_minutes, 2, (some .int))
set_option maxRecDepth 20000 in
theorem cbX7_minutes : CB mX7_minutes 1 := ⟨big_mem 77 (by decide +kernel) (by decide +kernel), big_mem 668 (by decide +kernel) (by decide +kernel), by decide +kernel, by decide +kernel, by decide +kernel, by decide⟩
abbrev mX5_minutesOf : Mi := (5, yX5_minutesOf, cX5_minutesOf, 8, (some .int))
set_option maxRecDepth 20000 in
theorem cbX5_minutesOf : CB mX5_minutesOf 2 := ⟨big_mem 79 (by decide +kernel) (by decide +kernel), big_mem 672 (by decide +kernel) (by decide +kernel), by decide +kernel, by decide +kernel, by decide +kernel, by decide⟩
abbrev mX5_partsOf : Mi := (5, yX5_partsOf, cX5_partsOf, 2, (some .int))
set_option maxRecDepth 20000 in
theorem cbX5_partsOf : CB mX5_partsOf 2 := ⟨big_mem 79 (by decide +kernel) (by decide +kernel), big_mem 678 (by decide +kernel) (by decide +kernel), by decide +kernel, by decide +kernel, by decide +kernel, by decide⟩
abbrev mX5_nextMover : Mi := (5, yX5_nextMover, cX5_nextMover, 2, (some .int))
set_option maxRecDepth 20000 in
theorem cbX5_nextMover : CB mX5_nextMover 1 := ⟨big_mem 79 (by decide +kernel) (by decide +kernel), big_mem 682 (by decide +kernel) (by decide +kernel), by decide +kernel, by decide +kernel, by decide +kernel, by decide⟩
abbrev mX5_thingsBeside : Mi := (5, yX5_thingsBeside, cX5_thingsBeside, 5, (some .int))
set_option maxRecDepth 20000 in
theorem cbX5_thingsBeside : CB mX5_thingsBeside 2 := ⟨big_mem 79 (by decide +kernel) (by decide +kernel), big_mem 686 (by decide +kernel) (by decide +kernel), by decide +kernel, by decide +kernel, by decide +kernel, by decide⟩
abbrev mX7_may : Mi := (7, yX7_may, cX7_may, 1, (some .int))
set_option maxRecDepth 20000 in
theorem cbX7_may : CB mX7_may 0 := ⟨big_mem 77 (by decide +kernel) (by decide +kernel), big_mem 690 (by decide +kernel) (by decide +kernel), by decide +kernel, by decide +kernel, by decide +kernel, by decide⟩
abbrev mX5_freeOnes : Mi := (5, yX5_freeOnes, cX5_freeOnes, 4, (some .int))
set_option maxRecDepth 20000 in
theorem cbX5_freeOnes : CB mX5_freeOnes 1 := ⟨big_mem 79 (by decide +kernel) (by decide +kernel), big_mem 694 (by decide +kernel) (by decide +kernel), by decide +kernel, by decide +kernel, by decide +kernel, by decide⟩
abbrev mX5_isFree : Mi := (5, yX5_isFree, cX5_isFree, 3, (some .boolean))
set_option maxRecDepth 20000 in
theorem cbX5_isFree : CB mX5_isFree 2 := ⟨big_mem 79 (by decide +kernel) (by decide +kernel), big_mem 698 (by decide +kernel) (by decide +kernel), by decide +kernel, by decide +kernel, by decide +kernel, by decide⟩
abbrev mX5_isOpen : Mi := (5, yX5_isOpen, cX5_isOpen, 3, (some .boolean))
set_option maxRecDepth 20000 in
theorem cbX5_isOpen : CB mX5_isOpen 2 := ⟨big_mem 79 (by decide +kernel) (by decide +kernel), big_mem 702 (by decide +kernel) (by decide +kernel), by decide +kernel, by decide +kernel, by decide +kernel, by decide⟩
abbrev mX7_does : Mi := (7, yX7_does, cX7_does, 2, (some .int))
set_option maxRecDepth 20000 in
theorem cbX7_does : CB mX7_does 1 := ⟨big_mem 77 (by decide +kernel) (by decide +kernel), big_mem 707 (by decide +kernel) (by decide +kernel), by decide +kernel, by decide +kernel, by decide +kernel, by decide⟩
abbrev mX5_carryOut : Mi := (5, yX5_carryOut, cX5_carryOut, 5, (some .int))
set_option maxRecDepth 20000 in
theorem cbX5_carryOut : CB mX5_carryOut 2 := ⟨big_mem 79 (by decide +kernel) (by decide +kernel), big_mem 712 (by decide +kernel) (by decide +kernel), by decide +kernel, by decide +kernel, by decide +kernel, by decide⟩
abbrev mX5_spoils : Mi := (5, yX5_spoils, cX5_spoils, 4, (some .boolean))
set_option maxRecDepth 20000 in
theorem cbX5_spoils : CB mX5_spoils 2 := ⟨big_mem 79 (by decide +kernel) (by decide +kernel), big_mem 716 (by decide +kernel) (by decide +kernel), by decide +kernel, by decide +kernel, by decide +kernel, by decide⟩
abbrev mX5_after : Mi := (5, yX5_after, cX5_after, 7, (some .int))
set_option maxRecDepth 20000 in
theorem cbX5_after : CB mX5_after 2 := ⟨big_mem 79 (by decide +kernel) (by decide +kernel), big_mem 721 (by decide +kernel) (by decide +kernel), by decide +kernel, by decide +kernel, by decide +kernel, by decide⟩
abbrev mX5_moveAll : Mi := (5, yX5_moveAll, cX5_moveAll, 5, none)
set_option maxRecDepth 20000 in
theorem cbX5_moveAll : CB mX5_moveAll 2 := ⟨big_mem 79 (by decide +kernel) (by decide +kernel), big_mem 728 (by decide +kernel) (by decide +kernel), by decide +kernel, by decide +kernel, by decide +kernel, by decide⟩
abbrev mX6_worthAt : Mi := (6, yX6_worthAt, cX6_worthAt, 2, (some .int))
set_option maxRecDepth 20000 in
theorem cbX6_worthAt : CB mX6_worthAt 1 := ⟨big_mem 81 (by decide +kernel) (by decide +kernel), big_mem 732 (by decide +kernel) (by decide +kernel), by decide +kernel, by decide +kernel, by decide +kernel, by decide⟩
abbrev mX7_had : Mi := (7, yX7_had, cX7_had, 1, (some .int))
set_option maxRecDepth 20000 in
theorem cbX7_had : CB mX7_had 0 := ⟨big_mem 77 (by decide +kernel) (by decide +kernel), big_mem 737 (by decide +kernel) (by decide +kernel), by decide +kernel, by decide +kernel, by decide +kernel, by decide⟩
abbrev mX7_worth : Mi := (7, yX7_worth, cX7_worth, 3, (some .int))
set_option maxRecDepth 20000 in
theorem cbX7_worth : CB mX7_worth 1 := ⟨big_mem 77 (by decide +kernel) (by decide +kernel), big_mem 741 (by decide +kernel) (by decide +kernel), by decide +kernel, by decide +kernel, by decide +kernel, by decide⟩
abbrev mX2_readDigits : Mi := (2, yX2_readDigits, cX2_readDigits, 7, (some .int))
set_option maxRecDepth 20000 in
theorem cbX2_readDigits : CB mX2_readDigits 1 := ⟨big_mem 78 (by decide +kernel) (by decide +kernel), big_mem 745 (by decide +kernel) (by decide +kernel), by decide +kernel, by decide +kernel, by decide +kernel, by decide⟩
abbrev mX5_openOnes : Mi := (5, yX5_openOnes, cX5_openOnes, 4, (some .int))
set_option maxRecDepth 20000 in
theorem cbX5_openOnes : CB mX5_openOnes 1 := ⟨big_mem 79 (by decide +kernel) (by decide +kernel), big_mem 749 (by decide +kernel) (by decide +kernel), by decide +kernel, by decide +kernel, by decide +kernel, by decide⟩
abbrev mX2_isIn : Mi := (2, yX2_isIn, cX2_isIn, 2, (some .boolean))
set_option maxRecDepth 20000 in
theorem cbX2_isIn : CB mX2_isIn 2 := ⟨big_mem 78 (by decide +kernel) (by decide +kernel), big_mem 753 (by decide +kernel) (by decide +kernel), by decide +kernel, by decide +kernel, by decide +kernel, by decide⟩
abbrev mX2_runCalled : Mi := (2, yX2_runCalled, cX2_runCalled, 4, (some (.object "OneMoves$Stand")))
set_option maxRecDepth 20000 in
theorem cbX2_runCalled : CB mX2_runCalled 1 := ⟨big_mem 78 (by decide +kernel) (by decide +kernel), big_mem 757 (by decide +kernel) (by decide +kernel), by decide +kernel, by decide +kernel, by decide +kernel, by decide⟩
abbrev mX3_beginFrom : Mi := (3, yX3_beginFrom, cX3_beginFrom, 2, none)
set_option maxRecDepth 20000 in
theorem cbX3_beginFrom : CB mX3_beginFrom 1 := ⟨big_mem 80 (by decide +kernel) (by decide +kernel), big_mem 761 (by decide +kernel) (by decide +kernel), by decide +kernel, by decide +kernel, by decide +kernel, by decide⟩
abbrev mX7_ends : Mi := (7, yX7_ends, cX7_ends, 5, (some .int))
set_option maxRecDepth 20000 in
theorem cbX7_ends : CB mX7_ends 2 := ⟨big_mem 77 (by decide +kernel) (by decide +kernel), big_mem 768 (by decide +kernel) (by decide +kernel), by decide +kernel, by decide +kernel, by decide +kernel, by decide⟩
abbrev mX7_best : Mi := (7, yX7_best, cX7_best, 2, (some .int))
set_option maxRecDepth 20000 in
theorem cbX7_best : CB mX7_best 1 := ⟨big_mem 77 (by decide +kernel) (by decide +kernel), big_mem 773 (by decide +kernel) (by decide +kernel), by decide +kernel, by decide +kernel, by decide +kernel, by decide⟩
abbrev mX2_search : Mi := (2, yX2_search, cX2_search, 1, none)
set_option maxRecDepth 20000 in
theorem cbX2_search : CB mX2_search 0 := ⟨big_mem 78 (by decide +kernel) (by decide +kernel), big_mem 777 (by decide +kernel) (by decide +kernel), by decide +kernel, by decide +kernel, by decide +kernel, by decide⟩
abbrev mX2_searchFrom : Mi := (2, yX2_searchFrom, cX2_searchFrom, 5, none)
set_option maxRecDepth 20000 in
theorem cbX2_searchFrom : CB mX2_searchFrom 1 := ⟨big_mem 78 (by decide +kernel) (by decide +kernel), big_mem 781 (by decide +kernel) (by decide +kernel), by decide +kernel, by decide +kernel, by decide +kernel, by decide⟩
abbrev mX2_compare : Mi := (2, yX2_compare, cX2_compare, 3, none)
set_option maxRecDepth 20000 in
theorem cbX2_compare : CB mX2_compare 2 := ⟨big_mem 78 (by decide +kernel) (by decide +kernel), big_mem 786 (by decide +kernel) (by decide +kernel), by decide +kernel, by decide +kernel, by decide +kernel, by decide⟩
abbrev mX2_digitsOf : Mi := (2, yX2_digitsOf, cX2_digitsOf, 4, (some .int))
set_option maxRecDepth 20000 in
theorem cbX2_digitsOf : CB mX2_digitsOf 1 := ⟨big_mem 78 (by decide +kernel) (by decide +kernel), big_mem 790 (by decide +kernel) (by decide +kernel), by decide +kernel, by decide +kernel, by decide +kernel, by decide⟩
abbrev mX7_fewest : Mi := (7, yX7_fewest, cX7_fewest, 1, (some .int))
set_option maxRecDepth 20000 in
theorem cbX7_fewest : CB mX7_fewest 0 := ⟨big_mem 77 (by decide +kernel) (by decide +kernel), big_mem 798 (by decide +kernel) (by decide +kernel), by decide +kernel, by decide +kernel, by decide +kernel, by decide⟩
abbrev mX7_shortest : Mi := (7, yX7_shortest, cX7_shortest, 1, (some .int))
set_option maxRecDepth 20000 in
theorem cbX7_shortest : CB mX7_shortest 0 := ⟨big_mem 77 (by decide +kernel) (by decide +kernel), big_mem 802 (by decide +kernel) (by decide +kernel), by decide +kernel, by decide +kernel, by decide +kernel, by decide⟩
abbrev mX7_mean : Mi := (7, yX7_mean, cX7_mean, 3, (some .long))
set_option maxRecDepth 20000 in
theorem cbX7_mean : CB mX7_mean 2 := ⟨big_mem 77 (by decide +kernel) (by decide +kernel), big_mem 806 (by decide +kernel) (by decide +kernel), by decide +kernel, by decide +kernel, by decide +kernel, by decide⟩
abbrev mX7_fractionOf : Mi := (7, yX7_fractionOf, cX7_fractionOf, 5, (some .long))
set_option maxRecDepth 20000 in
theorem cbX7_fractionOf : CB mX7_fractionOf 3 := ⟨big_mem 77 (by decide +kernel) (by decide +kernel), big_mem 810 (by decide +kernel) (by decide +kernel), by decide +kernel, by decide +kernel, by decide +kernel, by decide⟩
abbrev mX2_average : Mi := (2, yX2_average, cX2_average, 7, none)
set_option maxRecDepth 20000 in
theorem cbX2_average : CB mX2_average 1 := ⟨big_mem 78 (by decide +kernel) (by decide +kernel), big_mem 815 (by decide +kernel) (by decide +kernel), by decide +kernel, by decide +kernel, by decide +kernel, by decide⟩
abbrev mX2_weightOf : Mi := (2, yX2_weightOf, cX2_weightOf, 5, (some .long))
set_option maxRecDepth 20000 in
theorem cbX2_weightOf : CB mX2_weightOf 1 := ⟨big_mem 78 (by decide +kernel) (by decide +kernel), big_mem 819 (by decide +kernel) (by decide +kernel), by decide +kernel, by decide +kernel, by decide +kernel, by decide⟩
abbrev mX7_sure : Mi := (7, yX7_sure, cX7_sure, 3, (some .long))
set_option maxRecDepth 20000 in
theorem cbX7_sure : CB mX7_sure 2 := ⟨big_mem 77 (by decide +kernel) (by decide +kernel), big_mem 825 (by decide +kernel) (by decide +kernel), by decide +kernel, by decide +kernel, by decide +kernel, by decide⟩
abbrev mX7_bell : Mi := (7, yX7_bell, cX7_bell, 2, (some .int))
set_option maxRecDepth 20000 in
theorem cbX7_bell : CB mX7_bell 1 := ⟨big_mem 77 (by decide +kernel) (by decide +kernel), big_mem 829 (by decide +kernel) (by decide +kernel), by decide +kernel, by decide +kernel, by decide +kernel, by decide⟩
abbrev mX2_endByTheBell : Mi := (2, yX2_endByTheBell, cX2_endByTheBell, 5, (some .int))
set_option maxRecDepth 20000 in
theorem cbX2_endByTheBell : CB mX2_endByTheBell 1 := ⟨big_mem 78 (by decide +kernel) (by decide +kernel), big_mem 833 (by decide +kernel) (by decide +kernel), by decide +kernel, by decide +kernel, by decide +kernel, by decide⟩
abbrev mX2_ringFor : Mi := (2, yX2_ringFor, cX2_ringFor, 4, none)
set_option maxRecDepth 20000 in
theorem cbX2_ringFor : CB mX2_ringFor 2 := ⟨big_mem 78 (by decide +kernel) (by decide +kernel), big_mem 839 (by decide +kernel) (by decide +kernel), by decide +kernel, by decide +kernel, by decide +kernel, by decide⟩
abbrev mX7_rule : Mi := (7, yX7_rule, cX7_rule, 3, (some .int))
set_option maxRecDepth 20000 in
theorem cbX7_rule : CB mX7_rule 2 := ⟨big_mem 77 (by decide +kernel) (by decide +kernel), big_mem 843 (by decide +kernel) (by decide +kernel), by decide +kernel, by decide +kernel, by decide +kernel, by decide⟩
abbrev mX5_addRule : Mi := (5, yX5_addRule, cX5_addRule, 3, (some .int))
set_option maxRecDepth 20000 in
theorem cbX5_addRule : CB mX5_addRule 2 := ⟨big_mem 79 (by decide +kernel) (by decide +kernel), big_mem 847 (by decide +kernel) (by decide +kernel), by decide +kernel, by decide +kernel, by decide +kernel, by decide⟩
abbrev mX7_ruleOf : Mi := (7, yX7_ruleOf, cX7_ruleOf, 3, (some .int))
set_option maxRecDepth 20000 in
theorem cbX7_ruleOf : CB mX7_ruleOf 2 := ⟨big_mem 77 (by decide +kernel) (by decide +kernel), big_mem 851 (by decide +kernel) (by decide +kernel), by decide +kernel, by decide +kernel, by decide +kernel, by decide⟩
abbrev mX5_hasRule : Mi := (5, yX5_hasRule, cX5_hasRule, 2, (some .boolean))
set_option maxRecDepth 20000 in
theorem cbX5_hasRule : CB mX5_hasRule 1 := ⟨big_mem 79 (by decide +kernel) (by decide +kernel), big_mem 855 (by decide +kernel) (by decide +kernel), by decide +kernel, by decide +kernel, by decide +kernel, by decide⟩
abbrev mX7_takes : Mi := (7, yX7_takes, cX7_takes, 2, (some .int))
set_option maxRecDepth 20000 in
theorem cbX7_takes : CB mX7_takes 1 := ⟨big_mem 77 (by decide +kernel) (by decide +kernel), big_mem 859 (by decide +kernel) (by decide +kernel), by decide +kernel, by decide +kernel, by decide +kernel, by decide⟩
abbrev mX2_choice : Mi := (2, yX2_choice, cX2_choice, 5, (some .int))
set_option maxRecDepth 20000 in
theorem cbX2_choice : CB mX2_choice 2 := ⟨big_mem 78 (by decide +kernel) (by decide +kernel), big_mem 863 (by decide +kernel) (by decide +kernel), by decide +kernel, by decide +kernel, by decide +kernel, by decide⟩
abbrev mX2_firstFrom : Mi := (2, yX2_firstFrom, cX2_firstFrom, 6, (some .int))
set_option maxRecDepth 20000 in
theorem cbX2_firstFrom : CB mX2_firstFrom 2 := ⟨big_mem 78 (by decide +kernel) (by decide +kernel), big_mem 867 (by decide +kernel) (by decide +kernel), by decide +kernel, by decide +kernel, by decide +kernel, by decide⟩
abbrev mX2_soonest : Mi := (2, yX2_soonest, cX2_soonest, 7, (some .int))
set_option maxRecDepth 20000 in
theorem cbX2_soonest : CB mX2_soonest 2 := ⟨big_mem 78 (by decide +kernel) (by decide +kernel), big_mem 871 (by decide +kernel) (by decide +kernel), by decide +kernel, by decide +kernel, by decide +kernel, by decide⟩
abbrev mX2_worthiest : Mi := (2, yX2_worthiest, cX2_worthiest, 9, (some .int))
set_option maxRecDepth 20000 in
theorem cbX2_worthiest : CB mX2_worthiest 2 := ⟨big_mem 78 (by decide +kernel) (by decide +kernel), big_mem 875 (by decide +kernel) (by decide +kernel), by decide +kernel, by decide +kernel, by decide +kernel, by decide⟩
abbrev mX2_greatestKind : Mi := (2, yX2_greatestKind, cX2_greatestKind, 5, (some .int))
set_option maxRecDepth 20000 in
theorem cbX2_greatestKind : CB mX2_greatestKind 1 := ⟨big_mem 78 (by decide +kernel) (by decide +kernel), big_mem 880 (by decide +kernel) (by decide +kernel), by decide +kernel, by decide +kernel, by decide +kernel, by decide⟩
abbrev mX2_atPlace : Mi := (2, yX2_atPlace, cX2_atPlace, 6, (some .int))
set_option maxRecDepth 20000 in
theorem cbX2_atPlace : CB mX2_atPlace 2 := ⟨big_mem 78 (by decide +kernel) (by decide +kernel), big_mem 884 (by decide +kernel) (by decide +kernel), by decide +kernel, by decide +kernel, by decide +kernel, by decide⟩
abbrev mJ6_bitCount_0f7a4 : Mi := (13, yJ6_bitCount_0f7a4, cJ6_bitCount_0f7a4, 1, (some .int))
set_option maxRecDepth 20000 in
theorem cbJ6_bitCount_0f7a4 : CB mJ6_bitCount_0f7a4 1 := ⟨big_mem 92 (by decide +kernel) (by decide +kernel), big_mem 887 (by decide +kernel) (by decide +kernel), by decide +kernel, by decide +kernel, by decide +kernel, by decide⟩
abbrev mX7_orderOf : Mi := (7, yX7_orderOf, cX7_orderOf, 2, (some .int))
set_option maxRecDepth 20000 in
theorem cbX7_orderOf : CB mX7_orderOf 1 := ⟨big_mem 77 (by decide +kernel) (by decide +kernel), big_mem 894 (by decide +kernel) (by decide +kernel), by decide +kernel, by decide +kernel, by decide +kernel, by decide⟩
abbrev mX2_digitsByRule : Mi := (2, yX2_digitsByRule, cX2_digitsByRule, 6, (some .int))
set_option maxRecDepth 20000 in
theorem cbX2_digitsByRule : CB mX2_digitsByRule 1 := ⟨big_mem 78 (by decide +kernel) (by decide +kernel), big_mem 898 (by decide +kernel) (by decide +kernel), by decide +kernel, by decide +kernel, by decide +kernel, by decide⟩
abbrev mX7_prove : Mi := (7, yX7_prove, cX7_prove, 1, (some .int))
set_option maxRecDepth 20000 in
theorem cbX7_prove : CB mX7_prove 0 := ⟨big_mem 77 (by decide +kernel) (by decide +kernel), big_mem 903 (by decide +kernel) (by decide +kernel), by decide +kernel, by decide +kernel, by decide +kernel, by decide⟩
abbrev mX2_writeBestRows : Mi := (2, yX2_writeBestRows, cX2_writeBestRows, 7, (some .int))
set_option maxRecDepth 20000 in
theorem cbX2_writeBestRows : CB mX2_writeBestRows 1 := ⟨big_mem 78 (by decide +kernel) (by decide +kernel), big_mem 907 (by decide +kernel) (by decide +kernel), by decide +kernel, by decide +kernel, by decide +kernel, by decide⟩
abbrev mX7_row : Mi := (7, yX7_row, cX7_row, 3, (some .int))
set_option maxRecDepth 20000 in
theorem cbX7_row : CB mX7_row 2 := ⟨big_mem 77 (by decide +kernel) (by decide +kernel), big_mem 911 (by decide +kernel) (by decide +kernel), by decide +kernel, by decide +kernel, by decide +kernel, by decide⟩
abbrev mX7_hasCell : Mi := (7, yX7_hasCell, cX7_hasCell, 3, (some .boolean))
set_option maxRecDepth 20000 in
theorem cbX7_hasCell : CB mX7_hasCell 2 := ⟨big_mem 77 (by decide +kernel) (by decide +kernel), big_mem 915 (by decide +kernel) (by decide +kernel), by decide +kernel, by decide +kernel, by decide +kernel, by decide⟩
abbrev mX7_alterRow : Mi := (7, yX7_alterRow, cX7_alterRow, 5, (some .int))
set_option maxRecDepth 20000 in
theorem cbX7_alterRow : CB mX7_alterRow 3 := ⟨big_mem 77 (by decide +kernel) (by decide +kernel), big_mem 919 (by decide +kernel) (by decide +kernel), by decide +kernel, by decide +kernel, by decide +kernel, by decide⟩
abbrev mX7_judge : Mi := (7, yX7_judge, cX7_judge, 1, (some .int))
set_option maxRecDepth 20000 in
theorem cbX7_judge : CB mX7_judge 0 := ⟨big_mem 77 (by decide +kernel) (by decide +kernel), big_mem 923 (by decide +kernel) (by decide +kernel), by decide +kernel, by decide +kernel, by decide +kernel, by decide⟩
abbrev mX2_firstWrongRow : Mi := (2, yX2_firstWrongRow, cX2_firstWrongRow, 7, (some .int))
set_option maxRecDepth 20000 in
theorem cbX2_firstWrongRow : CB mX2_firstWrongRow 2 := ⟨big_mem 78 (by decide +kernel) (by decide +kernel), big_mem 927 (by decide +kernel) (by decide +kernel), by decide +kernel, by decide +kernel, by decide +kernel, by decide⟩
abbrev mX7_dues : Mi := (7, yX7_dues, cX7_dues, 6, (some .int))
set_option maxRecDepth 20000 in
theorem cbX7_dues : CB mX7_dues 1 := ⟨big_mem 77 (by decide +kernel) (by decide +kernel), big_mem 931 (by decide +kernel) (by decide +kernel), by decide +kernel, by decide +kernel, by decide +kernel, by decide⟩
abbrev mX1_refusalOf : Mi := (1, yX1_refusalOf, cX1_refusalOf, 3, (some .int))
set_option maxRecDepth 20000 in
theorem cbX1_refusalOf : CB mX1_refusalOf 2 := ⟨big_mem 84 (by decide +kernel) (by decide +kernel), big_mem 935 (by decide +kernel) (by decide +kernel), by decide +kernel, by decide +kernel, by decide +kernel, by decide⟩
abbrev mX1_isNumber : Mi := (1, yX1_isNumber, cX1_isNumber, 1, (some .boolean))
set_option maxRecDepth 20000 in
theorem cbX1_isNumber : CB mX1_isNumber 1 := ⟨big_mem 84 (by decide +kernel) (by decide +kernel), big_mem 938 (by decide +kernel) (by decide +kernel), by decide +kernel, by decide +kernel, by decide +kernel, by decide⟩
abbrev mX7_sheet : Mi := (7, yX7_sheet, cX7_sheet, 4, (some .int))
set_option maxRecDepth 20000 in
theorem cbX7_sheet : CB mX7_sheet 3 := ⟨big_mem 77 (by decide +kernel) (by decide +kernel), big_mem 944 (by decide +kernel) (by decide +kernel), by decide +kernel, by decide +kernel, by decide +kernel, by decide⟩
abbrev mX1_makeRow : Mi := (1, yX1_makeRow, cX1_makeRow, 5, none)
set_option maxRecDepth 20000 in
theorem cbX1_makeRow : CB mX1_makeRow 3 := ⟨big_mem 84 (by decide +kernel) (by decide +kernel), big_mem 949 (by decide +kernel) (by decide +kernel), by decide +kernel, by decide +kernel, by decide +kernel, by decide⟩
abbrev mX7_write : Mi := (7, yX7_write, cX7_write, 4, (some .int))
set_option maxRecDepth 20000 in
theorem cbX7_write : CB mX7_write 3 := ⟨big_mem 77 (by decide +kernel) (by decide +kernel), big_mem 953 (by decide +kernel) (by decide +kernel), by decide +kernel, by decide +kernel, by decide +kernel, by decide⟩
abbrev mX1_narrowed : Mi := (1, yX1_narrowed, cX1_narrowed, 2, (some .long))
set_option maxRecDepth 20000 in
theorem cbX1_narrowed : CB mX1_narrowed 2 := ⟨big_mem 84 (by decide +kernel) (by decide +kernel), big_mem 956 (by decide +kernel) (by decide +kernel), by decide +kernel, by decide +kernel, by decide +kernel, by decide⟩
abbrev mX7_item : Mi := (7, yX7_item, cX7_item, 5, (some .int))
set_option maxRecDepth 20000 in
theorem cbX7_item : CB mX7_item 3 := ⟨big_mem 77 (by decide +kernel) (by decide +kernel), big_mem 960 (by decide +kernel) (by decide +kernel), by decide +kernel, by decide +kernel, by decide +kernel, by decide⟩
abbrev mX7_shelf : Mi := (7, yX7_shelf, cX7_shelf, 4, (some .int))
set_option maxRecDepth 20000 in
theorem cbX7_shelf : CB mX7_shelf 3 := ⟨big_mem 77 (by decide +kernel) (by decide +kernel), big_mem 964 (by decide +kernel) (by decide +kernel), by decide +kernel, by decide +kernel, by decide +kernel, by decide⟩
abbrev mX1_layOn : Mi := (1, yX1_layOn, cX1_layOn, 6, none)
set_option maxRecDepth 20000 in
theorem cbX1_layOn : CB mX1_layOn 3 := ⟨big_mem 84 (by decide +kernel) (by decide +kernel), big_mem 968 (by decide +kernel) (by decide +kernel), by decide +kernel, by decide +kernel, by decide +kernel, by decide⟩
abbrev mX7_taken : Mi := (7, yX7_taken, cX7_taken, 6, (some .int))
set_option maxRecDepth 20000 in
theorem cbX7_taken : CB mX7_taken 2 := ⟨big_mem 77 (by decide +kernel) (by decide +kernel), big_mem 972 (by decide +kernel) (by decide +kernel), by decide +kernel, by decide +kernel, by decide +kernel, by decide⟩
abbrev mX7_holdsNow : Mi := (7, yX7_holdsNow, cX7_holdsNow, 3, (some .int))
set_option maxRecDepth 20000 in
theorem cbX7_holdsNow : CB mX7_holdsNow 1 := ⟨big_mem 77 (by decide +kernel) (by decide +kernel), big_mem 976 (by decide +kernel) (by decide +kernel), by decide +kernel, by decide +kernel, by decide +kernel, by decide⟩
abbrev mX0_isOrUnder : Mi := (0, yX0_isOrUnder, cX0_isOrUnder, 2, (some .boolean))
set_option maxRecDepth 20000 in
theorem cbX0_isOrUnder : CB mX0_isOrUnder 2 := ⟨big_mem 83 (by decide +kernel) (by decide +kernel), big_mem 979 (by decide +kernel) (by decide +kernel), by decide +kernel, by decide +kernel, by decide +kernel, by decide⟩
abbrev mX7_act : Mi := (7, yX7_act, cX7_act, 5, (some .int))
set_option maxRecDepth 20000 in
theorem cbX7_act : CB mX7_act 3 := ⟨big_mem 77 (by decide +kernel) (by decide +kernel), big_mem 983 (by decide +kernel) (by decide +kernel), by decide +kernel, by decide +kernel, by decide +kernel, by decide⟩
abbrev mX0_perform : Mi := (0, yX0_perform, cX0_perform, 7, (some .int))
set_option maxRecDepth 20000 in
theorem cbX0_perform : CB mX0_perform 5 := ⟨big_mem 83 (by decide +kernel) (by decide +kernel), big_mem 987 (by decide +kernel) (by decide +kernel), by decide +kernel, by decide +kernel, by decide +kernel, by decide⟩
abbrev mX0_bodyOf : Mi := (0, yX0_bodyOf, cX0_bodyOf, 3, (some .int))
set_option maxRecDepth 20000 in
theorem cbX0_bodyOf : CB mX0_bodyOf 2 := ⟨big_mem 83 (by decide +kernel) (by decide +kernel), big_mem 991 (by decide +kernel) (by decide +kernel), by decide +kernel, by decide +kernel, by decide +kernel, by decide⟩
abbrev mX0_movesAs : Mi := (0, yX0_movesAs, cX0_movesAs, 3, (some .int))
set_option maxRecDepth 20000 in
theorem cbX0_movesAs : CB mX0_movesAs 2 := ⟨big_mem 83 (by decide +kernel) (by decide +kernel), big_mem 995 (by decide +kernel) (by decide +kernel), by decide +kernel, by decide +kernel, by decide +kernel, by decide⟩
abbrev mX0_begin : Mi := (0, yX0_begin, cX0_begin, 2, none)
set_option maxRecDepth 20000 in
theorem cbX0_begin : CB mX0_begin 1 := ⟨big_mem 83 (by decide +kernel) (by decide +kernel), big_mem 999 (by decide +kernel) (by decide +kernel), by decide +kernel, by decide +kernel, by decide +kernel, by decide⟩
abbrev mX0_callsAs : Mi := (0, yX0_callsAs, cX0_callsAs, 3, (some .int))
set_option maxRecDepth 20000 in
theorem cbX0_callsAs : CB mX0_callsAs 2 := ⟨big_mem 83 (by decide +kernel) (by decide +kernel), big_mem 1003 (by decide +kernel) (by decide +kernel), by decide +kernel, by decide +kernel, by decide +kernel, by decide⟩
abbrev mX0_sharesAs : Mi := (0, yX0_sharesAs, cX0_sharesAs, 3, (some .int))
set_option maxRecDepth 20000 in
theorem cbX0_sharesAs : CB mX0_sharesAs 2 := ⟨big_mem 83 (by decide +kernel) (by decide +kernel), big_mem 1007 (by decide +kernel) (by decide +kernel), by decide +kernel, by decide +kernel, by decide +kernel, by decide⟩
abbrev mX0_part : Mi := (0, yX0_part, cX0_part, 3, (some .int))
set_option maxRecDepth 20000 in
theorem cbX0_part : CB mX0_part 2 := ⟨big_mem 83 (by decide +kernel) (by decide +kernel), big_mem 1011 (by decide +kernel) (by decide +kernel), by decide +kernel, by decide +kernel, by decide +kernel, by decide⟩
abbrev mX0_tellsAs : Mi := (0, yX0_tellsAs, cX0_tellsAs, 3, (some .int))
set_option maxRecDepth 20000 in
theorem cbX0_tellsAs : CB mX0_tellsAs 2 := ⟨big_mem 83 (by decide +kernel) (by decide +kernel), big_mem 1015 (by decide +kernel) (by decide +kernel), by decide +kernel, by decide +kernel, by decide +kernel, by decide⟩
abbrev mX7_trace : Mi := (7, yX7_trace, cX7_trace, 2, (some .int))
set_option maxRecDepth 20000 in
theorem cbX7_trace : CB mX7_trace 1 := ⟨big_mem 77 (by decide +kernel) (by decide +kernel), big_mem 1019 (by decide +kernel) (by decide +kernel), by decide +kernel, by decide +kernel, by decide +kernel, by decide⟩
abbrev mX7_many : Mi := (7, yX7_many, cX7_many, 2, (some .int))
set_option maxRecDepth 20000 in
theorem cbX7_many : CB mX7_many 1 := ⟨big_mem 77 (by decide +kernel) (by decide +kernel), big_mem 1023 (by decide +kernel) (by decide +kernel), by decide +kernel, by decide +kernel, by decide +kernel, by decide⟩
abbrev mX7_keep : Mi := (7, yX7_keep, cX7_keep, 1, (some .int))
set_option maxRecDepth 20000 in
theorem cbX7_keep : CB mX7_keep 0 := ⟨big_mem 77 (by decide +kernel) (by decide +kernel), big_mem 1028 (by decide +kernel) (by decide +kernel), by decide +kernel, by decide +kernel, by decide +kernel, by decide⟩
abbrev mX5_takeAll : Mi := (5, yX5_takeAll, cX5_takeAll, 2, none)
set_option maxRecDepth 20000 in
theorem cbX5_takeAll : CB mX5_takeAll 1 := ⟨big_mem 79 (by decide +kernel) (by decide +kernel), big_mem 1032 (by decide +kernel) (by decide +kernel), by decide +kernel, by decide +kernel, by decide +kernel, by decide⟩
abbrev mX7_again : Mi := (7, yX7_again, cX7_again, 1, (some .int))
set_option maxRecDepth 20000 in
theorem cbX7_again : CB mX7_again 0 := ⟨big_mem 77 (by decide +kernel) (by decide +kernel), big_mem 1037 (by decide +kernel) (by decide +kernel), by decide +kernel, by decide +kernel, by decide +kernel, by decide⟩
abbrev mX8_feed : Mi := (8, yX8_feed, cX8_feed, 5, (some .int))
set_option maxRecDepth 20000 in
theorem cbX8_feed : CB mX8_feed 2 := ⟨big_mem 85 (by decide +kernel) (by decide +kernel), big_mem 1225 (by decide +kernel) (by decide +kernel), by decide +kernel, by decide +kernel, by decide +kernel, by decide⟩
abbrev mX8_in : Mi := (8, yX8_in, cX8_in, 3, (some .boolean))
set_option maxRecDepth 20000 in
theorem cbX8_in : CB mX8_in 3 := ⟨big_mem 85 (by decide +kernel) (by decide +kernel), big_mem 1228 (by decide +kernel) (by decide +kernel), by decide +kernel, by decide +kernel, by decide +kernel, by decide⟩
abbrev mX8_town : Mi := (8, yX8_town, cX8_town, 2, (some .int))
set_option maxRecDepth 20000 in
theorem cbX8_town : CB mX8_town 0 := ⟨big_mem 85 (by decide +kernel) (by decide +kernel), big_mem 1233 (by decide +kernel) (by decide +kernel), by decide +kernel, by decide +kernel, by decide +kernel, by decide⟩
abbrev mX8_advance : Mi := (8, yX8_advance, cX8_advance, 2, none)
set_option maxRecDepth 20000 in
theorem cbX8_advance : CB mX8_advance 0 := ⟨big_mem 85 (by decide +kernel) (by decide +kernel), big_mem 1237 (by decide +kernel) (by decide +kernel), by decide +kernel, by decide +kernel, by decide +kernel, by decide⟩
abbrev mX8_byteAt : Mi := (8, yX8_byteAt, cX8_byteAt, 2, (some .int))
set_option maxRecDepth 20000 in
theorem cbX8_byteAt : CB mX8_byteAt 1 := ⟨big_mem 85 (by decide +kernel) (by decide +kernel), big_mem 1241 (by decide +kernel) (by decide +kernel), by decide +kernel, by decide +kernel, by decide +kernel, by decide⟩
abbrev mX8_isLetter : Mi := (8, yX8_isLetter, cX8_isLetter, 1, (some .boolean))
set_option maxRecDepth 20000 in
theorem cbX8_isLetter : CB mX8_isLetter 1 := ⟨big_mem 85 (by decide +kernel) (by decide +kernel), big_mem 1244 (by decide +kernel) (by decide +kernel), by decide +kernel, by decide +kernel, by decide +kernel, by decide⟩
abbrev mX8_isDigit : Mi := (8, yX8_isDigit, cX8_isDigit, 1, (some .boolean))
set_option maxRecDepth 20000 in
theorem cbX8_isDigit : CB mX8_isDigit 1 := ⟨big_mem 85 (by decide +kernel) (by decide +kernel), big_mem 1247 (by decide +kernel) (by decide +kernel), by decide +kernel, by decide +kernel, by decide +kernel, by decide⟩
abbrev mX8_wantClause : Mi := (8, yX8_wantClause, cX8_wantClause, 1, none)
set_option maxRecDepth 20000 in
theorem cbX8_wantClause : CB mX8_wantClause 0 := ⟨big_mem 85 (by decide +kernel) (by decide +kernel), big_mem 1254 (by decide +kernel) (by decide +kernel), by decide +kernel, by decide +kernel, by decide +kernel, by decide⟩
abbrev mX8_isWord : Mi := (8, yX8_isWord, cX8_isWord, 3, (some .boolean))
set_option maxRecDepth 20000 in
theorem cbX8_isWord : CB mX8_isWord 1 := ⟨big_mem 85 (by decide +kernel) (by decide +kernel), big_mem 1259 (by decide +kernel) (by decide +kernel), by decide +kernel, by decide +kernel, by decide +kernel, by decide⟩
abbrev mX8_wantOne : Mi := (8, yX8_wantOne, cX8_wantOne, 7, (some .boolean))
set_option maxRecDepth 20000 in
theorem cbX8_wantOne : CB mX8_wantOne 4 := ⟨big_mem 85 (by decide +kernel) (by decide +kernel), big_mem 1263 (by decide +kernel) (by decide +kernel), by decide +kernel, by decide +kernel, by decide +kernel, by decide⟩
abbrev mX8_wantNumber : Mi := (8, yX8_wantNumber, cX8_wantNumber, 4, (some .int))
set_option maxRecDepth 20000 in
theorem cbX8_wantNumber : CB mX8_wantNumber 2 := ⟨big_mem 85 (by decide +kernel) (by decide +kernel), big_mem 1267 (by decide +kernel) (by decide +kernel), by decide +kernel, by decide +kernel, by decide +kernel, by decide⟩
abbrev mX8_wantEnd : Mi := (8, yX8_wantEnd, cX8_wantEnd, 1, none)
set_option maxRecDepth 20000 in
theorem cbX8_wantEnd : CB mX8_wantEnd 0 := ⟨big_mem 85 (by decide +kernel) (by decide +kernel), big_mem 1271 (by decide +kernel) (by decide +kernel), by decide +kernel, by decide +kernel, by decide +kernel, by decide⟩
abbrev mX8_isMark : Mi := (8, yX8_isMark, cX8_isMark, 2, (some .boolean))
set_option maxRecDepth 20000 in
theorem cbX8_isMark : CB mX8_isMark 1 := ⟨big_mem 85 (by decide +kernel) (by decide +kernel), big_mem 1275 (by decide +kernel) (by decide +kernel), by decide +kernel, by decide +kernel, by decide +kernel, by decide⟩
abbrev mX8_kindHere : Mi := (8, yX8_kindHere, cX8_kindHere, 1, (some .int))
set_option maxRecDepth 20000 in
theorem cbX8_kindHere : CB mX8_kindHere 0 := ⟨big_mem 85 (by decide +kernel) (by decide +kernel), big_mem 1280 (by decide +kernel) (by decide +kernel), by decide +kernel, by decide +kernel, by decide +kernel, by decide⟩
abbrev mX8_wantWork : Mi := (8, yX8_wantWork, cX8_wantWork, 10, none)
set_option maxRecDepth 20000 in
theorem cbX8_wantWork : CB mX8_wantWork 1 := ⟨big_mem 85 (by decide +kernel) (by decide +kernel), big_mem 1290 (by decide +kernel) (by decide +kernel), by decide +kernel, by decide +kernel, by decide +kernel, by decide⟩
abbrev mX8_wantWord : Mi := (8, yX8_wantWord, cX8_wantWord, 3, none)
set_option maxRecDepth 20000 in
theorem cbX8_wantWord : CB mX8_wantWord 1 := ⟨big_mem 85 (by decide +kernel) (by decide +kernel), big_mem 1295 (by decide +kernel) (by decide +kernel), by decide +kernel, by decide +kernel, by decide +kernel, by decide⟩
abbrev mX8_wantLaw : Mi := (8, yX8_wantLaw, cX8_wantLaw, 2, none)
set_option maxRecDepth 20000 in
theorem cbX8_wantLaw : CB mX8_wantLaw 1 := ⟨big_mem 85 (by decide +kernel) (by decide +kernel), big_mem 1304 (by decide +kernel) (by decide +kernel), by decide +kernel, by decide +kernel, by decide +kernel, by decide⟩
abbrev mX8_mover : Mi := (8, yX8_mover, cX8_mover, 3, (some .int))
set_option maxRecDepth 20000 in
theorem cbX8_mover : CB mX8_mover 2 := ⟨big_mem 85 (by decide +kernel) (by decide +kernel), big_mem 1310 (by decide +kernel) (by decide +kernel), by decide +kernel, by decide +kernel, by decide +kernel, by decide⟩
abbrev mX8_isPlace : Mi := (8, yX8_isPlace, cX8_isPlace, 1, (some .boolean))
set_option maxRecDepth 20000 in
theorem cbX8_isPlace : CB mX8_isPlace 1 := ⟨big_mem 85 (by decide +kernel) (by decide +kernel), big_mem 1313 (by decide +kernel) (by decide +kernel), by decide +kernel, by decide +kernel, by decide +kernel, by decide⟩
abbrev mX8_thing : Mi := (8, yX8_thing, cX8_thing, 3, (some .int))
set_option maxRecDepth 20000 in
theorem cbX8_thing : CB mX8_thing 2 := ⟨big_mem 85 (by decide +kernel) (by decide +kernel), big_mem 1317 (by decide +kernel) (by decide +kernel), by decide +kernel, by decide +kernel, by decide +kernel, by decide⟩
abbrev mX8_work : Mi := (8, yX8_work, cX8_work, 8, (some .int))
set_option maxRecDepth 20000 in
theorem cbX8_work : CB mX8_work 6 := ⟨big_mem 85 (by decide +kernel) (by decide +kernel), big_mem 1321 (by decide +kernel) (by decide +kernel), by decide +kernel, by decide +kernel, by decide +kernel, by decide⟩
abbrev mX8_behind : Mi := (8, yX8_behind, cX8_behind, 5, (some .int))
set_option maxRecDepth 20000 in
theorem cbX8_behind : CB mX8_behind 3 := ⟨big_mem 85 (by decide +kernel) (by decide +kernel), big_mem 1325 (by decide +kernel) (by decide +kernel), by decide +kernel, by decide +kernel, by decide +kernel, by decide⟩
abbrev mX8_isWork : Mi := (8, yX8_isWork, cX8_isWork, 2, (some .boolean))
set_option maxRecDepth 20000 in
theorem cbX8_isWork : CB mX8_isWork 1 := ⟨big_mem 85 (by decide +kernel) (by decide +kernel), big_mem 1329 (by decide +kernel) (by decide +kernel), by decide +kernel, by decide +kernel, by decide +kernel, by decide⟩
abbrev mX8_isOpen : Mi := (8, yX8_isOpen, cX8_isOpen, 2, (some .boolean))
set_option maxRecDepth 20000 in
theorem cbX8_isOpen : CB mX8_isOpen 1 := ⟨big_mem 85 (by decide +kernel) (by decide +kernel), big_mem 1333 (by decide +kernel) (by decide +kernel), by decide +kernel, by decide +kernel, by decide +kernel, by decide⟩
abbrev mX8_its : Mi := (8, yX8_its, cX8_its, 3, (some .int))
set_option maxRecDepth 20000 in
theorem cbX8_its : CB mX8_its 2 := ⟨big_mem 85 (by decide +kernel) (by decide +kernel), big_mem 1337 (by decide +kernel) (by decide +kernel), by decide +kernel, by decide +kernel, by decide +kernel, by decide⟩
abbrev mX8_workOf : Mi := (8, yX8_workOf, cX8_workOf, 3, (some .int))
set_option maxRecDepth 20000 in
theorem cbX8_workOf : CB mX8_workOf 2 := ⟨big_mem 85 (by decide +kernel) (by decide +kernel), big_mem 1341 (by decide +kernel) (by decide +kernel), by decide +kernel, by decide +kernel, by decide +kernel, by decide⟩
abbrev mX8_at : Mi := (8, yX8_at, cX8_at, 3, (some .int))
set_option maxRecDepth 20000 in
theorem cbX8_at : CB mX8_at 2 := ⟨big_mem 85 (by decide +kernel) (by decide +kernel), big_mem 1345 (by decide +kernel) (by decide +kernel), by decide +kernel, by decide +kernel, by decide +kernel, by decide⟩
abbrev mX8_isMoved : Mi := (8, yX8_isMoved, cX8_isMoved, 3, (some .boolean))
set_option maxRecDepth 20000 in
theorem cbX8_isMoved : CB mX8_isMoved 2 := ⟨big_mem 85 (by decide +kernel) (by decide +kernel), big_mem 1349 (by decide +kernel) (by decide +kernel), by decide +kernel, by decide +kernel, by decide +kernel, by decide⟩
abbrev mX8_put : Mi := (8, yX8_put, cX8_put, 6, (some .int))
set_option maxRecDepth 20000 in
theorem cbX8_put : CB mX8_put 3 := ⟨big_mem 85 (by decide +kernel) (by decide +kernel), big_mem 1353 (by decide +kernel) (by decide +kernel), by decide +kernel, by decide +kernel, by decide +kernel, by decide⟩
abbrev mX8_set : Mi := (8, yX8_set, cX8_set, 5, (some .int))
set_option maxRecDepth 20000 in
theorem cbX8_set : CB mX8_set 2 := ⟨big_mem 85 (by decide +kernel) (by decide +kernel), big_mem 1357 (by decide +kernel) (by decide +kernel), by decide +kernel, by decide +kernel, by decide +kernel, by decide⟩
abbrev mX8_minute : Mi := (8, yX8_minute, cX8_minute, 1, (some .int))
set_option maxRecDepth 20000 in
theorem cbX8_minute : CB mX8_minute 0 := ⟨big_mem 85 (by decide +kernel) (by decide +kernel), big_mem 1361 (by decide +kernel) (by decide +kernel), by decide +kernel, by decide +kernel, by decide +kernel, by decide⟩
abbrev mX8_pass : Mi := (8, yX8_pass, cX8_pass, 2, (some .int))
set_option maxRecDepth 20000 in
theorem cbX8_pass : CB mX8_pass 1 := ⟨big_mem 85 (by decide +kernel) (by decide +kernel), big_mem 1365 (by decide +kernel) (by decide +kernel), by decide +kernel, by decide +kernel, by decide +kernel, by decide⟩
abbrev mX8_minutes : Mi := (8, yX8_minutes, cX8_minutes, 2, (some .int))
set_option maxRecDepth 20000 in
theorem cbX8_minutes : CB mX8_minutes 1 := ⟨big_mem 85 (by decide +kernel) (by decide +kernel), big_mem 1369 (by decide +kernel) (by decide +kernel), by decide +kernel, by decide +kernel, by decide +kernel, by decide⟩
abbrev mX8_minutesOf : Mi := (8, yX8_minutesOf, cX8_minutesOf, 2, (some .int))
set_option maxRecDepth 20000 in
theorem cbX8_minutesOf : CB mX8_minutesOf 1 := ⟨big_mem 85 (by decide +kernel) (by decide +kernel), big_mem 1373 (by decide +kernel) (by decide +kernel), by decide +kernel, by decide +kernel, by decide +kernel, by decide⟩
abbrev mX8_heavyMinutes : Mi := (8, yX8_heavyMinutes, cX8_heavyMinutes, 2, (some .int))
set_option maxRecDepth 20000 in
theorem cbX8_heavyMinutes : CB mX8_heavyMinutes 1 := ⟨big_mem 85 (by decide +kernel) (by decide +kernel), big_mem 1377 (by decide +kernel) (by decide +kernel), by decide +kernel, by decide +kernel, by decide +kernel, by decide⟩
abbrev mX8_plainMinutes : Mi := (8, yX8_plainMinutes, cX8_plainMinutes, 2, (some .int))
set_option maxRecDepth 20000 in
theorem cbX8_plainMinutes : CB mX8_plainMinutes 1 := ⟨big_mem 85 (by decide +kernel) (by decide +kernel), big_mem 1381 (by decide +kernel) (by decide +kernel), by decide +kernel, by decide +kernel, by decide +kernel, by decide⟩
abbrev mX8_walk : Mi := (8, yX8_walk, cX8_walk, 3, (some .int))
set_option maxRecDepth 20000 in
theorem cbX8_walk : CB mX8_walk 2 := ⟨big_mem 85 (by decide +kernel) (by decide +kernel), big_mem 1385 (by decide +kernel) (by decide +kernel), by decide +kernel, by decide +kernel, by decide +kernel, by decide⟩
abbrev mX8_far : Mi := (8, yX8_far, cX8_far, 2, (some .int))
set_option maxRecDepth 20000 in
theorem cbX8_far : CB mX8_far 2 := ⟨big_mem 85 (by decide +kernel) (by decide +kernel), big_mem 1388 (by decide +kernel) (by decide +kernel), by decide +kernel, by decide +kernel, by decide +kernel, by decide⟩
abbrev mX8_carry : Mi := (8, yX8_carry, cX8_carry, 4, (some .int))
set_option maxRecDepth 20000 in
theorem cbX8_carry : CB mX8_carry 2 := ⟨big_mem 85 (by decide +kernel) (by decide +kernel), big_mem 1392 (by decide +kernel) (by decide +kernel), by decide +kernel, by decide +kernel, by decide +kernel, by decide⟩
abbrev mX8_up : Mi := (8, yX8_up, cX8_up, 2, (some .int))
set_option maxRecDepth 20000 in
theorem cbX8_up : CB mX8_up 2 := ⟨big_mem 85 (by decide +kernel) (by decide +kernel), big_mem 1395 (by decide +kernel) (by decide +kernel), by decide +kernel, by decide +kernel, by decide +kernel, by decide⟩
abbrev mX8_nextMover : Mi := (8, yX8_nextMover, cX8_nextMover, 2, (some .int))
set_option maxRecDepth 20000 in
theorem cbX8_nextMover : CB mX8_nextMover 1 := ⟨big_mem 85 (by decide +kernel) (by decide +kernel), big_mem 1399 (by decide +kernel) (by decide +kernel), by decide +kernel, by decide +kernel, by decide +kernel, by decide⟩
abbrev mX8_othersThere : Mi := (8, yX8_othersThere, cX8_othersThere, 4, (some .int))
set_option maxRecDepth 20000 in
theorem cbX8_othersThere : CB mX8_othersThere 1 := ⟨big_mem 85 (by decide +kernel) (by decide +kernel), big_mem 1403 (by decide +kernel) (by decide +kernel), by decide +kernel, by decide +kernel, by decide +kernel, by decide⟩
abbrev mX8_may : Mi := (8, yX8_may, cX8_may, 1, (some .int))
set_option maxRecDepth 20000 in
theorem cbX8_may : CB mX8_may 0 := ⟨big_mem 85 (by decide +kernel) (by decide +kernel), big_mem 1407 (by decide +kernel) (by decide +kernel), by decide +kernel, by decide +kernel, by decide +kernel, by decide⟩
