/-! the constructors: walks -/
theorem cz_1030 : Rc 2 mXc3 [.ref 1030] 24 88 28 95 := by
  refine Rc.of [some (.ref 1030)] (by decide) rfl rfl rfl (by decide) rfl ?_
  intro J g ret
  refine jc_aload_n g (pc := 0) (n := 24) (t := 88) (i := 0) (by decide +kernel) rfl ?_
  refine jc_obj g (pc := 1) (n := 24) (t := 88) (by omega) wo_3 wo_i wo_c (by decide) (by decide +kernel) ?_
  refine jc_aload_n g (pc := 4) (n := 24) (t := 88) (i := 0) (by decide +kernel) rfl ?_
  refine jc_iconst g (pc := 5) (n := 24) (t := 88) (x := 3) (3) (by decide +kernel) rfl ?_
  refine jc_newaI g (pc := 6) (n := 24) (t := 88) (a := 1031) (N := 3) (by decide +kernel) (by decide) (by decide) (by omega) (by omega) (by omega) (by decide +kernel) wa_i (by decide +kernel) ?_
  refine jc_put g (pc := 8) (n := 25) (t := 88) (i := 23) f3_9 (fun q h => by cases h; rfl) (by decide) (by decide +kernel) (by decide +kernel) (by omega) (by decide +kernel) (by decide +kernel) ?_
  refine jc_aload_n g (pc := 11) (n := 25) (t := 89) (i := 0) (by decide +kernel) rfl ?_
  refine jc_bipush g (pc := 12) (n := 25) (t := 89) (x := 6) (6) (by decide +kernel) (by decide +kernel) ?_
  refine jc_newaI g (pc := 14) (n := 25) (t := 89) (a := 1032) (N := 6) (by decide +kernel) (by decide) (by decide) (by omega) (by omega) (by omega) (by decide +kernel) wa_i (by decide +kernel) ?_
  refine jc_put g (pc := 16) (n := 26) (t := 89) (i := 23) f3_15 (fun q h => by cases h; rfl) (by decide) (by decide +kernel) (by decide +kernel) (by omega) (by decide +kernel) (by decide +kernel) ?_
  refine jc_aload_n g (pc := 19) (n := 26) (t := 90) (i := 0) (by decide +kernel) rfl ?_
  refine jc_bipush g (pc := 20) (n := 26) (t := 90) (x := 6) (6) (by decide +kernel) (by decide +kernel) ?_
  refine jc_newaI g (pc := 22) (n := 26) (t := 90) (a := 1033) (N := 6) (by decide +kernel) (by decide) (by decide) (by omega) (by omega) (by omega) (by decide +kernel) wa_i (by decide +kernel) ?_
  refine jc_put g (pc := 24) (n := 27) (t := 90) (i := 23) f3_18 (fun q h => by cases h; rfl) (by decide) (by decide +kernel) (by decide +kernel) (by omega) (by decide +kernel) (by decide +kernel) ?_
  refine jc_aload_n g (pc := 27) (n := 27) (t := 91) (i := 0) (by decide +kernel) rfl ?_
  refine jc_bipush g (pc := 28) (n := 27) (t := 91) (x := 6) (6) (by decide +kernel) (by decide +kernel) ?_
  refine jc_newaI g (pc := 30) (n := 27) (t := 91) (a := 1034) (N := 6) (by decide +kernel) (by decide) (by decide) (by omega) (by omega) (by omega) (by decide +kernel) wa_i (by decide +kernel) ?_
  refine jc_put g (pc := 32) (n := 28) (t := 91) (i := 23) f3_21 (fun q h => by cases h; rfl) (by decide) (by decide +kernel) (by decide +kernel) (by omega) (by decide +kernel) (by decide +kernel) ?_
  refine jc_aload_n g (pc := 35) (n := 28) (t := 92) (i := 0) (by decide +kernel) rfl ?_
  refine jc_iconst g (pc := 36) (n := 28) (t := 92) (x := 0) (0) (by decide +kernel) rfl ?_
  refine jc_put g (pc := 37) (n := 28) (t := 92) (i := 23) f3_24 (fun q h => by cases h; rfl) (by decide) (by decide +kernel) (by decide +kernel) (by omega) (by decide +kernel) (by decide +kernel) ?_
  refine jc_aload_n g (pc := 40) (n := 28) (t := 93) (i := 0) (by decide +kernel) rfl ?_
  refine jc_iconst g (pc := 41) (n := 28) (t := 93) (x := 0) (0) (by decide +kernel) rfl ?_
  refine jc_put g (pc := 42) (n := 28) (t := 93) (i := 23) f3_28 (fun q h => by cases h; rfl) (by decide) (by decide +kernel) (by decide +kernel) (by omega) (by decide +kernel) (by decide +kernel) ?_
  refine jc_aload_n g (pc := 45) (n := 28) (t := 94) (i := 0) (by decide +kernel) rfl ?_
  refine jc_iconst g (pc := 46) (n := 28) (t := 94) (x := 0) (0) (by decide +kernel) rfl ?_
  refine jc_put g (pc := 47) (n := 28) (t := 94) (i := 23) f3_31 (fun q h => by cases h; rfl) (by decide) (by decide +kernel) (by decide +kernel) (by omega) (by decide +kernel) (by decide +kernel) ?_
  exact ret _ _ (by decide +kernel)
theorem cz_1040 : Rc 2 mXc3 [.ref 1040] 29 96 33 103 := by
  refine Rc.of [some (.ref 1040)] (by decide) rfl rfl rfl (by decide) rfl ?_
  intro J g ret
  refine jc_aload_n g (pc := 0) (n := 29) (t := 96) (i := 0) (by decide +kernel) rfl ?_
  refine jc_obj g (pc := 1) (n := 29) (t := 96) (by omega) wo_3 wo_i wo_c (by decide) (by decide +kernel) ?_
  refine jc_aload_n g (pc := 4) (n := 29) (t := 96) (i := 0) (by decide +kernel) rfl ?_
  refine jc_iconst g (pc := 5) (n := 29) (t := 96) (x := 3) (3) (by decide +kernel) rfl ?_
  refine jc_newaI g (pc := 6) (n := 29) (t := 96) (a := 1041) (N := 3) (by decide +kernel) (by decide) (by decide) (by omega) (by omega) (by omega) (by decide +kernel) wa_i (by decide +kernel) ?_
  refine jc_put g (pc := 8) (n := 30) (t := 96) (i := 28) f3_9 (fun q h => by cases h; rfl) (by decide) (by decide +kernel) (by decide +kernel) (by omega) (by decide +kernel) (by decide +kernel) ?_
  refine jc_aload_n g (pc := 11) (n := 30) (t := 97) (i := 0) (by decide +kernel) rfl ?_
  refine jc_bipush g (pc := 12) (n := 30) (t := 97) (x := 6) (6) (by decide +kernel) (by decide +kernel) ?_
  refine jc_newaI g (pc := 14) (n := 30) (t := 97) (a := 1042) (N := 6) (by decide +kernel) (by decide) (by decide) (by omega) (by omega) (by omega) (by decide +kernel) wa_i (by decide +kernel) ?_
  refine jc_put g (pc := 16) (n := 31) (t := 97) (i := 28) f3_15 (fun q h => by cases h; rfl) (by decide) (by decide +kernel) (by decide +kernel) (by omega) (by decide +kernel) (by decide +kernel) ?_
  refine jc_aload_n g (pc := 19) (n := 31) (t := 98) (i := 0) (by decide +kernel) rfl ?_
  refine jc_bipush g (pc := 20) (n := 31) (t := 98) (x := 6) (6) (by decide +kernel) (by decide +kernel) ?_
  refine jc_newaI g (pc := 22) (n := 31) (t := 98) (a := 1043) (N := 6) (by decide +kernel) (by decide) (by decide) (by omega) (by omega) (by omega) (by decide +kernel) wa_i (by decide +kernel) ?_
  refine jc_put g (pc := 24) (n := 32) (t := 98) (i := 28) f3_18 (fun q h => by cases h; rfl) (by decide) (by decide +kernel) (by decide +kernel) (by omega) (by decide +kernel) (by decide +kernel) ?_
  refine jc_aload_n g (pc := 27) (n := 32) (t := 99) (i := 0) (by decide +kernel) rfl ?_
  refine jc_bipush g (pc := 28) (n := 32) (t := 99) (x := 6) (6) (by decide +kernel) (by decide +kernel) ?_
  refine jc_newaI g (pc := 30) (n := 32) (t := 99) (a := 1044) (N := 6) (by decide +kernel) (by decide) (by decide) (by omega) (by omega) (by omega) (by decide +kernel) wa_i (by decide +kernel) ?_
  refine jc_put g (pc := 32) (n := 33) (t := 99) (i := 28) f3_21 (fun q h => by cases h; rfl) (by decide) (by decide +kernel) (by decide +kernel) (by omega) (by decide +kernel) (by decide +kernel) ?_
  refine jc_aload_n g (pc := 35) (n := 33) (t := 100) (i := 0) (by decide +kernel) rfl ?_
  refine jc_iconst g (pc := 36) (n := 33) (t := 100) (x := 0) (0) (by decide +kernel) rfl ?_
  refine jc_put g (pc := 37) (n := 33) (t := 100) (i := 28) f3_24 (fun q h => by cases h; rfl) (by decide) (by decide +kernel) (by decide +kernel) (by omega) (by decide +kernel) (by decide +kernel) ?_
  refine jc_aload_n g (pc := 40) (n := 33) (t := 101) (i := 0) (by decide +kernel) rfl ?_
  refine jc_iconst g (pc := 41) (n := 33) (t := 101) (x := 0) (0) (by decide +kernel) rfl ?_
  refine jc_put g (pc := 42) (n := 33) (t := 101) (i := 28) f3_28 (fun q h => by cases h; rfl) (by decide) (by decide +kernel) (by decide +kernel) (by omega) (by decide +kernel) (by decide +kernel) ?_
  refine jc_aload_n g (pc := 45) (n := 33) (t := 102) (i := 0) (by decide +kernel) rfl ?_
  refine jc_iconst g (pc := 46) (n := 33) (t := 102) (x := 0) (0) (by decide +kernel) rfl ?_
  refine jc_put g (pc := 47) (n := 33) (t := 102) (i := 28) f3_31 (fun q h => by cases h; rfl) (by decide) (by decide +kernel) (by decide +kernel) (by omega) (by decide +kernel) (by decide +kernel) ?_
  exact ret _ _ (by decide +kernel)
theorem cz_1050 : Rc 2 mXc3 [.ref 1050] 34 104 38 111 := by
  refine Rc.of [some (.ref 1050)] (by decide) rfl rfl rfl (by decide) rfl ?_
  intro J g ret
  refine jc_aload_n g (pc := 0) (n := 34) (t := 104) (i := 0) (by decide +kernel) rfl ?_
  refine jc_obj g (pc := 1) (n := 34) (t := 104) (by omega) wo_3 wo_i wo_c (by decide) (by decide +kernel) ?_
  refine jc_aload_n g (pc := 4) (n := 34) (t := 104) (i := 0) (by decide +kernel) rfl ?_
  refine jc_iconst g (pc := 5) (n := 34) (t := 104) (x := 3) (3) (by decide +kernel) rfl ?_
  refine jc_newaI g (pc := 6) (n := 34) (t := 104) (a := 1051) (N := 3) (by decide +kernel) (by decide) (by decide) (by omega) (by omega) (by omega) (by decide +kernel) wa_i (by decide +kernel) ?_
  refine jc_put g (pc := 8) (n := 35) (t := 104) (i := 33) f3_9 (fun q h => by cases h; rfl) (by decide) (by decide +kernel) (by decide +kernel) (by omega) (by decide +kernel) (by decide +kernel) ?_
  refine jc_aload_n g (pc := 11) (n := 35) (t := 105) (i := 0) (by decide +kernel) rfl ?_
  refine jc_bipush g (pc := 12) (n := 35) (t := 105) (x := 6) (6) (by decide +kernel) (by decide +kernel) ?_
  refine jc_newaI g (pc := 14) (n := 35) (t := 105) (a := 1052) (N := 6) (by decide +kernel) (by decide) (by decide) (by omega) (by omega) (by omega) (by decide +kernel) wa_i (by decide +kernel) ?_
  refine jc_put g (pc := 16) (n := 36) (t := 105) (i := 33) f3_15 (fun q h => by cases h; rfl) (by decide) (by decide +kernel) (by decide +kernel) (by omega) (by decide +kernel) (by decide +kernel) ?_
  refine jc_aload_n g (pc := 19) (n := 36) (t := 106) (i := 0) (by decide +kernel) rfl ?_
  refine jc_bipush g (pc := 20) (n := 36) (t := 106) (x := 6) (6) (by decide +kernel) (by decide +kernel) ?_
  refine jc_newaI g (pc := 22) (n := 36) (t := 106) (a := 1053) (N := 6) (by decide +kernel) (by decide) (by decide) (by omega) (by omega) (by omega) (by decide +kernel) wa_i (by decide +kernel) ?_
  refine jc_put g (pc := 24) (n := 37) (t := 106) (i := 33) f3_18 (fun q h => by cases h; rfl) (by decide) (by decide +kernel) (by decide +kernel) (by omega) (by decide +kernel) (by decide +kernel) ?_
  refine jc_aload_n g (pc := 27) (n := 37) (t := 107) (i := 0) (by decide +kernel) rfl ?_
  refine jc_bipush g (pc := 28) (n := 37) (t := 107) (x := 6) (6) (by decide +kernel) (by decide +kernel) ?_
  refine jc_newaI g (pc := 30) (n := 37) (t := 107) (a := 1054) (N := 6) (by decide +kernel) (by decide) (by decide) (by omega) (by omega) (by omega) (by decide +kernel) wa_i (by decide +kernel) ?_
  refine jc_put g (pc := 32) (n := 38) (t := 107) (i := 33) f3_21 (fun q h => by cases h; rfl) (by decide) (by decide +kernel) (by decide +kernel) (by omega) (by decide +kernel) (by decide +kernel) ?_
  refine jc_aload_n g (pc := 35) (n := 38) (t := 108) (i := 0) (by decide +kernel) rfl ?_
  refine jc_iconst g (pc := 36) (n := 38) (t := 108) (x := 0) (0) (by decide +kernel) rfl ?_
  refine jc_put g (pc := 37) (n := 38) (t := 108) (i := 33) f3_24 (fun q h => by cases h; rfl) (by decide) (by decide +kernel) (by decide +kernel) (by omega) (by decide +kernel) (by decide +kernel) ?_
  refine jc_aload_n g (pc := 40) (n := 38) (t := 109) (i := 0) (by decide +kernel) rfl ?_
  refine jc_iconst g (pc := 41) (n := 38) (t := 109) (x := 0) (0) (by decide +kernel) rfl ?_
  refine jc_put g (pc := 42) (n := 38) (t := 109) (i := 33) f3_28 (fun q h => by cases h; rfl) (by decide) (by decide +kernel) (by decide +kernel) (by omega) (by decide +kernel) (by decide +kernel) ?_
  refine jc_aload_n g (pc := 45) (n := 38) (t := 110) (i := 0) (by decide +kernel) rfl ?_
  refine jc_iconst g (pc := 46) (n := 38) (t := 110) (x := 0) (0) (by decide +kernel) rfl ?_
  refine jc_put g (pc := 47) (n := 38) (t := 110) (i := 33) f3_31 (fun q h => by cases h; rfl) (by decide) (by decide +kernel) (by decide +kernel) (by omega) (by decide +kernel) (by decide +kernel) ?_
  exact ret _ _ (by decide +kernel)
theorem cz_1060 : Rc 2 mXc3 [.ref 1060] 39 112 43 119 := by
  refine Rc.of [some (.ref 1060)] (by decide) rfl rfl rfl (by decide) rfl ?_
  intro J g ret
  refine jc_aload_n g (pc := 0) (n := 39) (t := 112) (i := 0) (by decide +kernel) rfl ?_
  refine jc_obj g (pc := 1) (n := 39) (t := 112) (by omega) wo_3 wo_i wo_c (by decide) (by decide +kernel) ?_
  refine jc_aload_n g (pc := 4) (n := 39) (t := 112) (i := 0) (by decide +kernel) rfl ?_
  refine jc_iconst g (pc := 5) (n := 39) (t := 112) (x := 3) (3) (by decide +kernel) rfl ?_
  refine jc_newaI g (pc := 6) (n := 39) (t := 112) (a := 1061) (N := 3) (by decide +kernel) (by decide) (by decide) (by omega) (by omega) (by omega) (by decide +kernel) wa_i (by decide +kernel) ?_
  refine jc_put g (pc := 8) (n := 40) (t := 112) (i := 38) f3_9 (fun q h => by cases h; rfl) (by decide) (by decide +kernel) (by decide +kernel) (by omega) (by decide +kernel) (by decide +kernel) ?_
  refine jc_aload_n g (pc := 11) (n := 40) (t := 113) (i := 0) (by decide +kernel) rfl ?_
  refine jc_bipush g (pc := 12) (n := 40) (t := 113) (x := 6) (6) (by decide +kernel) (by decide +kernel) ?_
  refine jc_newaI g (pc := 14) (n := 40) (t := 113) (a := 1062) (N := 6) (by decide +kernel) (by decide) (by decide) (by omega) (by omega) (by omega) (by decide +kernel) wa_i (by decide +kernel) ?_
  refine jc_put g (pc := 16) (n := 41) (t := 113) (i := 38) f3_15 (fun q h => by cases h; rfl) (by decide) (by decide +kernel) (by decide +kernel) (by omega) (by decide +kernel) (by decide +kernel) ?_
  refine jc_aload_n g (pc := 19) (n := 41) (t := 114) (i := 0) (by decide +kernel) rfl ?_
  refine jc_bipush g (pc := 20) (n := 41) (t := 114) (x := 6) (6) (by decide +kernel) (by decide +kernel) ?_
  refine jc_newaI g (pc := 22) (n := 41) (t := 114) (a := 1063) (N := 6) (by decide +kernel) (by decide) (by decide) (by omega) (by omega) (by omega) (by decide +kernel) wa_i (by decide +kernel) ?_
  refine jc_put g (pc := 24) (n := 42) (t := 114) (i := 38) f3_18 (fun q h => by cases h; rfl) (by decide) (by decide +kernel) (by decide +kernel) (by omega) (by decide +kernel) (by decide +kernel) ?_
  refine jc_aload_n g (pc := 27) (n := 42) (t := 115) (i := 0) (by decide +kernel) rfl ?_
  refine jc_bipush g (pc := 28) (n := 42) (t := 115) (x := 6) (6) (by decide +kernel) (by decide +kernel) ?_
  refine jc_newaI g (pc := 30) (n := 42) (t := 115) (a := 1064) (N := 6) (by decide +kernel) (by decide) (by decide) (by omega) (by omega) (by omega) (by decide +kernel) wa_i (by decide +kernel) ?_
  refine jc_put g (pc := 32) (n := 43) (t := 115) (i := 38) f3_21 (fun q h => by cases h; rfl) (by decide) (by decide +kernel) (by decide +kernel) (by omega) (by decide +kernel) (by decide +kernel) ?_
  refine jc_aload_n g (pc := 35) (n := 43) (t := 116) (i := 0) (by decide +kernel) rfl ?_
  refine jc_iconst g (pc := 36) (n := 43) (t := 116) (x := 0) (0) (by decide +kernel) rfl ?_
  refine jc_put g (pc := 37) (n := 43) (t := 116) (i := 38) f3_24 (fun q h => by cases h; rfl) (by decide) (by decide +kernel) (by decide +kernel) (by omega) (by decide +kernel) (by decide +kernel) ?_
  refine jc_aload_n g (pc := 40) (n := 43) (t := 117) (i := 0) (by decide +kernel) rfl ?_
  refine jc_iconst g (pc := 41) (n := 43) (t := 117) (x := 0) (0) (by decide +kernel) rfl ?_
  refine jc_put g (pc := 42) (n := 43) (t := 117) (i := 38) f3_28 (fun q h => by cases h; rfl) (by decide) (by decide +kernel) (by decide +kernel) (by omega) (by decide +kernel) (by decide +kernel) ?_
  refine jc_aload_n g (pc := 45) (n := 43) (t := 118) (i := 0) (by decide +kernel) rfl ?_
  refine jc_iconst g (pc := 46) (n := 43) (t := 118) (x := 0) (0) (by decide +kernel) rfl ?_
  refine jc_put g (pc := 47) (n := 43) (t := 118) (i := 38) f3_31 (fun q h => by cases h; rfl) (by decide) (by decide +kernel) (by decide +kernel) (by omega) (by decide +kernel) (by decide +kernel) ?_
  exact ret _ _ (by decide +kernel)
theorem cz_1070 : Rc 2 mXc3 [.ref 1070] 44 120 48 127 := by
  refine Rc.of [some (.ref 1070)] (by decide) rfl rfl rfl (by decide) rfl ?_
  intro J g ret
  refine jc_aload_n g (pc := 0) (n := 44) (t := 120) (i := 0) (by decide +kernel) rfl ?_
  refine jc_obj g (pc := 1) (n := 44) (t := 120) (by omega) wo_3 wo_i wo_c (by decide) (by decide +kernel) ?_
  refine jc_aload_n g (pc := 4) (n := 44) (t := 120) (i := 0) (by decide +kernel) rfl ?_
  refine jc_iconst g (pc := 5) (n := 44) (t := 120) (x := 3) (3) (by decide +kernel) rfl ?_
  refine jc_newaI g (pc := 6) (n := 44) (t := 120) (a := 1071) (N := 3) (by decide +kernel) (by decide) (by decide) (by omega) (by omega) (by omega) (by decide +kernel) wa_i (by decide +kernel) ?_
  refine jc_put g (pc := 8) (n := 45) (t := 120) (i := 43) f3_9 (fun q h => by cases h; rfl) (by decide) (by decide +kernel) (by decide +kernel) (by omega) (by decide +kernel) (by decide +kernel) ?_
  refine jc_aload_n g (pc := 11) (n := 45) (t := 121) (i := 0) (by decide +kernel) rfl ?_
  refine jc_bipush g (pc := 12) (n := 45) (t := 121) (x := 6) (6) (by decide +kernel) (by decide +kernel) ?_
  refine jc_newaI g (pc := 14) (n := 45) (t := 121) (a := 1072) (N := 6) (by decide +kernel) (by decide) (by decide) (by omega) (by omega) (by omega) (by decide +kernel) wa_i (by decide +kernel) ?_
  refine jc_put g (pc := 16) (n := 46) (t := 121) (i := 43) f3_15 (fun q h => by cases h; rfl) (by decide) (by decide +kernel) (by decide +kernel) (by omega) (by decide +kernel) (by decide +kernel) ?_
  refine jc_aload_n g (pc := 19) (n := 46) (t := 122) (i := 0) (by decide +kernel) rfl ?_
  refine jc_bipush g (pc := 20) (n := 46) (t := 122) (x := 6) (6) (by decide +kernel) (by decide +kernel) ?_
  refine jc_newaI g (pc := 22) (n := 46) (t := 122) (a := 1073) (N := 6) (by decide +kernel) (by decide) (by decide) (by omega) (by omega) (by omega) (by decide +kernel) wa_i (by decide +kernel) ?_
  refine jc_put g (pc := 24) (n := 47) (t := 122) (i := 43) f3_18 (fun q h => by cases h; rfl) (by decide) (by decide +kernel) (by decide +kernel) (by omega) (by decide +kernel) (by decide +kernel) ?_
  refine jc_aload_n g (pc := 27) (n := 47) (t := 123) (i := 0) (by decide +kernel) rfl ?_
  refine jc_bipush g (pc := 28) (n := 47) (t := 123) (x := 6) (6) (by decide +kernel) (by decide +kernel) ?_
  refine jc_newaI g (pc := 30) (n := 47) (t := 123) (a := 1074) (N := 6) (by decide +kernel) (by decide) (by decide) (by omega) (by omega) (by omega) (by decide +kernel) wa_i (by decide +kernel) ?_
  refine jc_put g (pc := 32) (n := 48) (t := 123) (i := 43) f3_21 (fun q h => by cases h; rfl) (by decide) (by decide +kernel) (by decide +kernel) (by omega) (by decide +kernel) (by decide +kernel) ?_
  refine jc_aload_n g (pc := 35) (n := 48) (t := 124) (i := 0) (by decide +kernel) rfl ?_
  refine jc_iconst g (pc := 36) (n := 48) (t := 124) (x := 0) (0) (by decide +kernel) rfl ?_
  refine jc_put g (pc := 37) (n := 48) (t := 124) (i := 43) f3_24 (fun q h => by cases h; rfl) (by decide) (by decide +kernel) (by decide +kernel) (by omega) (by decide +kernel) (by decide +kernel) ?_
  refine jc_aload_n g (pc := 40) (n := 48) (t := 125) (i := 0) (by decide +kernel) rfl ?_
  refine jc_iconst g (pc := 41) (n := 48) (t := 125) (x := 0) (0) (by decide +kernel) rfl ?_
  refine jc_put g (pc := 42) (n := 48) (t := 125) (i := 43) f3_28 (fun q h => by cases h; rfl) (by decide) (by decide +kernel) (by decide +kernel) (by omega) (by decide +kernel) (by decide +kernel) ?_
  refine jc_aload_n g (pc := 45) (n := 48) (t := 126) (i := 0) (by decide +kernel) rfl ?_
  refine jc_iconst g (pc := 46) (n := 48) (t := 126) (x := 0) (0) (by decide +kernel) rfl ?_
  refine jc_put g (pc := 47) (n := 48) (t := 126) (i := 43) f3_31 (fun q h => by cases h; rfl) (by decide) (by decide +kernel) (by decide +kernel) (by omega) (by decide +kernel) (by decide +kernel) ?_
  exact ret _ _ (by decide +kernel)
theorem cz_1080 : Rc 2 mXc3 [.ref 1080] 49 128 53 135 := by
  refine Rc.of [some (.ref 1080)] (by decide) rfl rfl rfl (by decide) rfl ?_
  intro J g ret
  refine jc_aload_n g (pc := 0) (n := 49) (t := 128) (i := 0) (by decide +kernel) rfl ?_
  refine jc_obj g (pc := 1) (n := 49) (t := 128) (by omega) wo_3 wo_i wo_c (by decide) (by decide +kernel) ?_
  refine jc_aload_n g (pc := 4) (n := 49) (t := 128) (i := 0) (by decide +kernel) rfl ?_
  refine jc_iconst g (pc := 5) (n := 49) (t := 128) (x := 3) (3) (by decide +kernel) rfl ?_
  refine jc_newaI g (pc := 6) (n := 49) (t := 128) (a := 1081) (N := 3) (by decide +kernel) (by decide) (by decide) (by omega) (by omega) (by omega) (by decide +kernel) wa_i (by decide +kernel) ?_
  refine jc_put g (pc := 8) (n := 50) (t := 128) (i := 48) f3_9 (fun q h => by cases h; rfl) (by decide) (by decide +kernel) (by decide +kernel) (by omega) (by decide +kernel) (by decide +kernel) ?_
  refine jc_aload_n g (pc := 11) (n := 50) (t := 129) (i := 0) (by decide +kernel) rfl ?_
  refine jc_bipush g (pc := 12) (n := 50) (t := 129) (x := 6) (6) (by decide +kernel) (by decide +kernel) ?_
  refine jc_newaI g (pc := 14) (n := 50) (t := 129) (a := 1082) (N := 6) (by decide +kernel) (by decide) (by decide) (by omega) (by omega) (by omega) (by decide +kernel) wa_i (by decide +kernel) ?_
  refine jc_put g (pc := 16) (n := 51) (t := 129) (i := 48) f3_15 (fun q h => by cases h; rfl) (by decide) (by decide +kernel) (by decide +kernel) (by omega) (by decide +kernel) (by decide +kernel) ?_
  refine jc_aload_n g (pc := 19) (n := 51) (t := 130) (i := 0) (by decide +kernel) rfl ?_
  refine jc_bipush g (pc := 20) (n := 51) (t := 130) (x := 6) (6) (by decide +kernel) (by decide +kernel) ?_
  refine jc_newaI g (pc := 22) (n := 51) (t := 130) (a := 1083) (N := 6) (by decide +kernel) (by decide) (by decide) (by omega) (by omega) (by omega) (by decide +kernel) wa_i (by decide +kernel) ?_
  refine jc_put g (pc := 24) (n := 52) (t := 130) (i := 48) f3_18 (fun q h => by cases h; rfl) (by decide) (by decide +kernel) (by decide +kernel) (by omega) (by decide +kernel) (by decide +kernel) ?_
  refine jc_aload_n g (pc := 27) (n := 52) (t := 131) (i := 0) (by decide +kernel) rfl ?_
  refine jc_bipush g (pc := 28) (n := 52) (t := 131) (x := 6) (6) (by decide +kernel) (by decide +kernel) ?_
  refine jc_newaI g (pc := 30) (n := 52) (t := 131) (a := 1084) (N := 6) (by decide +kernel) (by decide) (by decide) (by omega) (by omega) (by omega) (by decide +kernel) wa_i (by decide +kernel) ?_
  refine jc_put g (pc := 32) (n := 53) (t := 131) (i := 48) f3_21 (fun q h => by cases h; rfl) (by decide) (by decide +kernel) (by decide +kernel) (by omega) (by decide +kernel) (by decide +kernel) ?_
  refine jc_aload_n g (pc := 35) (n := 53) (t := 132) (i := 0) (by decide +kernel) rfl ?_
  refine jc_iconst g (pc := 36) (n := 53) (t := 132) (x := 0) (0) (by decide +kernel) rfl ?_
  refine jc_put g (pc := 37) (n := 53) (t := 132) (i := 48) f3_24 (fun q h => by cases h; rfl) (by decide) (by decide +kernel) (by decide +kernel) (by omega) (by decide +kernel) (by decide +kernel) ?_
  refine jc_aload_n g (pc := 40) (n := 53) (t := 133) (i := 0) (by decide +kernel) rfl ?_
  refine jc_iconst g (pc := 41) (n := 53) (t := 133) (x := 0) (0) (by decide +kernel) rfl ?_
  refine jc_put g (pc := 42) (n := 53) (t := 133) (i := 48) f3_28 (fun q h => by cases h; rfl) (by decide) (by decide +kernel) (by decide +kernel) (by omega) (by decide +kernel) (by decide +kernel) ?_
  refine jc_aload_n g (pc := 45) (n := 53) (t := 134) (i := 0) (by decide +kernel) rfl ?_
  refine jc_iconst g (pc := 46) (n := 53) (t := 134) (x := 0) (0) (by decide +kernel) rfl ?_
  refine jc_put g (pc := 47) (n := 53) (t := 134) (i := 48) f3_31 (fun q h => by cases h; rfl) (by decide) (by decide +kernel) (by decide +kernel) (by omega) (by decide +kernel) (by decide +kernel) ?_
  exact ret _ _ (by decide +kernel)
theorem cz_1090 : Rc 2 mXc3 [.ref 1090] 54 136 58 143 := by
  refine Rc.of [some (.ref 1090)] (by decide) rfl rfl rfl (by decide) rfl ?_
  intro J g ret
  refine jc_aload_n g (pc := 0) (n := 54) (t := 136) (i := 0) (by decide +kernel) rfl ?_
  refine jc_obj g (pc := 1) (n := 54) (t := 136) (by omega) wo_3 wo_i wo_c (by decide) (by decide +kernel) ?_
  refine jc_aload_n g (pc := 4) (n := 54) (t := 136) (i := 0) (by decide +kernel) rfl ?_
  refine jc_iconst g (pc := 5) (n := 54) (t := 136) (x := 3) (3) (by decide +kernel) rfl ?_
  refine jc_newaI g (pc := 6) (n := 54) (t := 136) (a := 1091) (N := 3) (by decide +kernel) (by decide) (by decide) (by omega) (by omega) (by omega) (by decide +kernel) wa_i (by decide +kernel) ?_
  refine jc_put g (pc := 8) (n := 55) (t := 136) (i := 53) f3_9 (fun q h => by cases h; rfl) (by decide) (by decide +kernel) (by decide +kernel) (by omega) (by decide +kernel) (by decide +kernel) ?_
  refine jc_aload_n g (pc := 11) (n := 55) (t := 137) (i := 0) (by decide +kernel) rfl ?_
  refine jc_bipush g (pc := 12) (n := 55) (t := 137) (x := 6) (6) (by decide +kernel) (by decide +kernel) ?_
  refine jc_newaI g (pc := 14) (n := 55) (t := 137) (a := 1092) (N := 6) (by decide +kernel) (by decide) (by decide) (by omega) (by omega) (by omega) (by decide +kernel) wa_i (by decide +kernel) ?_
  refine jc_put g (pc := 16) (n := 56) (t := 137) (i := 53) f3_15 (fun q h => by cases h; rfl) (by decide) (by decide +kernel) (by decide +kernel) (by omega) (by decide +kernel) (by decide +kernel) ?_
  refine jc_aload_n g (pc := 19) (n := 56) (t := 138) (i := 0) (by decide +kernel) rfl ?_
  refine jc_bipush g (pc := 20) (n := 56) (t := 138) (x := 6) (6) (by decide +kernel) (by decide +kernel) ?_
  refine jc_newaI g (pc := 22) (n := 56) (t := 138) (a := 1093) (N := 6) (by decide +kernel) (by decide) (by decide) (by omega) (by omega) (by omega) (by decide +kernel) wa_i (by decide +kernel) ?_
  refine jc_put g (pc := 24) (n := 57) (t := 138) (i := 53) f3_18 (fun q h => by cases h; rfl) (by decide) (by decide +kernel) (by decide +kernel) (by omega) (by decide +kernel) (by decide +kernel) ?_
  refine jc_aload_n g (pc := 27) (n := 57) (t := 139) (i := 0) (by decide +kernel) rfl ?_
  refine jc_bipush g (pc := 28) (n := 57) (t := 139) (x := 6) (6) (by decide +kernel) (by decide +kernel) ?_
  refine jc_newaI g (pc := 30) (n := 57) (t := 139) (a := 1094) (N := 6) (by decide +kernel) (by decide) (by decide) (by omega) (by omega) (by omega) (by decide +kernel) wa_i (by decide +kernel) ?_
  refine jc_put g (pc := 32) (n := 58) (t := 139) (i := 53) f3_21 (fun q h => by cases h; rfl) (by decide) (by decide +kernel) (by decide +kernel) (by omega) (by decide +kernel) (by decide +kernel) ?_
  refine jc_aload_n g (pc := 35) (n := 58) (t := 140) (i := 0) (by decide +kernel) rfl ?_
  refine jc_iconst g (pc := 36) (n := 58) (t := 140) (x := 0) (0) (by decide +kernel) rfl ?_
  refine jc_put g (pc := 37) (n := 58) (t := 140) (i := 53) f3_24 (fun q h => by cases h; rfl) (by decide) (by decide +kernel) (by decide +kernel) (by omega) (by decide +kernel) (by decide +kernel) ?_
  refine jc_aload_n g (pc := 40) (n := 58) (t := 141) (i := 0) (by decide +kernel) rfl ?_
  refine jc_iconst g (pc := 41) (n := 58) (t := 141) (x := 0) (0) (by decide +kernel) rfl ?_
  refine jc_put g (pc := 42) (n := 58) (t := 141) (i := 53) f3_28 (fun q h => by cases h; rfl) (by decide) (by decide +kernel) (by decide +kernel) (by omega) (by decide +kernel) (by decide +kernel) ?_
  refine jc_aload_n g (pc := 45) (n := 58) (t := 142) (i := 0) (by decide +kernel) rfl ?_
  refine jc_iconst g (pc := 46) (n := 58) (t := 142) (x := 0) (0) (by decide +kernel) rfl ?_
  refine jc_put g (pc := 47) (n := 58) (t := 142) (i := 53) f3_31 (fun q h => by cases h; rfl) (by decide) (by decide +kernel) (by decide +kernel) (by omega) (by decide +kernel) (by decide +kernel) ?_
  exact ret _ _ (by decide +kernel)
theorem cz_510 : Rc 3 mXc2 [.ref 510] 2 0 58 144 := by
  refine Rc.of [some (.ref 510), none] (by decide) rfl rfl rfl (by decide) rfl ?_
  intro J g ret
  refine jc_aload_n g (pc := 0) (n := 2) (t := 0) (i := 0) (by decide +kernel) rfl ?_
  refine jc_obj g (pc := 1) (n := 2) (t := 0) (by omega) wo_2 wo_i wo_c (by decide) (by decide +kernel) ?_
  refine jc_aload_n g (pc := 4) (n := 2) (t := 0) (i := 0) (by decide +kernel) rfl ?_
  refine jc_new g (pc := 5) (n := 2) (t := 0) (ci := 5) (a := 100) rfl (by decide +kernel) (by omega) (by omega) (by decide +kernel) wk_2_9 wn_5 wz_5 (by decide +kernel) ?_
  refine jc_dup g (pc := 8) (n := 3) (t := 0) (by decide +kernel) rfl ?_
  refine jc_call g (pc := 9) (n := 3) (t := 0) (As := []) cz_100 wm_2_11 cb_5 (by omega) (by omega) (by omega) rfl (by decide +kernel) (by decide +kernel) (by decide) (by decide +kernel) ?_
  refine jc_put g (pc := 12) (n := 20) (t := 76) (i := 1) f2_12 (fun q h => by cases h; rfl) (by decide) (by decide +kernel) (by decide +kernel) (by omega) (by decide +kernel) (by decide +kernel) ?_
  refine jc_aload_n g (pc := 15) (n := 20) (t := 77) (i := 0) (by decide +kernel) rfl ?_
  refine jc_bipush g (pc := 16) (n := 20) (t := 77) (x := 7) (7) (by decide +kernel) (by decide +kernel) ?_
  refine jc_anewS g (pc := 18) (n := 20) (t := 77) (a := 511) (N := 7) (by decide +kernel) (by decide) (by decide) (by omega) (by omega) (by omega) (by decide +kernel) wk_2_18 (by decide +kernel) ?_
  refine jc_put g (pc := 21) (n := 21) (t := 77) (i := 1) f2_20 (fun q h => by cases h; rfl) (by decide) (by decide +kernel) (by decide +kernel) (by omega) (by decide +kernel) (by decide +kernel) ?_
  refine jc_aload_n g (pc := 24) (n := 21) (t := 78) (i := 0) (by decide +kernel) rfl ?_
  refine jc_bipush g (pc := 25) (n := 21) (t := 78) (x := 6) (6) (by decide +kernel) (by decide +kernel) ?_
  refine jc_newaI g (pc := 27) (n := 21) (t := 78) (a := 512) (N := 6) (by decide +kernel) (by decide) (by decide) (by omega) (by omega) (by omega) (by decide +kernel) wa_i (by decide +kernel) ?_
  refine jc_put g (pc := 29) (n := 22) (t := 78) (i := 1) f2_24 (fun q h => by cases h; rfl) (by decide) (by decide +kernel) (by decide +kernel) (by omega) (by decide +kernel) (by decide +kernel) ?_
  refine jc_aload_n g (pc := 32) (n := 22) (t := 79) (i := 0) (by decide +kernel) rfl ?_
  refine jc_bipush g (pc := 33) (n := 22) (t := 79) (x := 6) (6) (by decide +kernel) (by decide +kernel) ?_
  refine jc_newaI g (pc := 35) (n := 22) (t := 79) (a := 513) (N := 6) (by decide +kernel) (by decide) (by decide) (by omega) (by omega) (by omega) (by decide +kernel) wa_i (by decide +kernel) ?_
  refine jc_put g (pc := 37) (n := 23) (t := 79) (i := 1) f2_28 (fun q h => by cases h; rfl) (by decide) (by decide +kernel) (by decide +kernel) (by omega) (by decide +kernel) (by decide +kernel) ?_
  refine jc_aload_n g (pc := 40) (n := 23) (t := 80) (i := 0) (by decide +kernel) rfl ?_
  refine jc_iconst g (pc := 41) (n := 23) (t := 80) (x := 0) (0) (by decide +kernel) rfl ?_
  refine jc_put g (pc := 42) (n := 23) (t := 80) (i := 1) f2_31 (fun q h => by cases h; rfl) (by decide) (by decide +kernel) (by decide +kernel) (by omega) (by decide +kernel) (by decide +kernel) ?_
  refine jc_aload_n g (pc := 45) (n := 23) (t := 81) (i := 0) (by decide +kernel) rfl ?_
  refine jc_iconst g (pc := 46) (n := 23) (t := 81) (x := 0) (0) (by decide +kernel) rfl ?_
  refine jc_put g (pc := 47) (n := 23) (t := 81) (i := 1) f2_35 (fun q h => by cases h; rfl) (by decide) (by decide +kernel) (by decide +kernel) (by omega) (by decide +kernel) (by decide +kernel) ?_
  refine jc_aload_n g (pc := 50) (n := 23) (t := 82) (i := 0) (by decide +kernel) rfl ?_
  refine jc_iconst g (pc := 51) (n := 23) (t := 82) (x := 0) (0) (by decide +kernel) rfl ?_
  refine jc_put g (pc := 52) (n := 23) (t := 82) (i := 1) f2_39 (fun q h => by cases h; rfl) (by decide) (by decide +kernel) (by decide +kernel) (by omega) (by decide +kernel) (by decide +kernel) ?_
  refine jc_aload_n g (pc := 55) (n := 23) (t := 83) (i := 0) (by decide +kernel) rfl ?_
  refine jc_iconst g (pc := 56) (n := 23) (t := 83) (x := 0) (0) (by decide +kernel) rfl ?_
  refine jc_put g (pc := 57) (n := 23) (t := 83) (i := 1) f2_42 (fun q h => by cases h; rfl) (by decide) (by decide +kernel) (by decide +kernel) (by omega) (by decide +kernel) (by decide +kernel) ?_
  refine jc_aload_n g (pc := 60) (n := 23) (t := 84) (i := 0) (by decide +kernel) rfl ?_
  refine jc_iconst g (pc := 61) (n := 23) (t := 84) (x := 0) (0) (by decide +kernel) rfl ?_
  refine jc_put g (pc := 62) (n := 23) (t := 84) (i := 1) f2_45 (fun q h => by cases h; rfl) (by decide) (by decide +kernel) (by decide +kernel) (by omega) (by decide +kernel) (by decide +kernel) ?_
  refine jc_aload_n g (pc := 65) (n := 23) (t := 85) (i := 0) (by decide +kernel) rfl ?_
  refine jc_iconst g (pc := 66) (n := 23) (t := 85) (x := 0) (0) (by decide +kernel) rfl ?_
  refine jc_put g (pc := 67) (n := 23) (t := 85) (i := 1) f2_48 (fun q h => by cases h; rfl) (by decide) (by decide +kernel) (by decide +kernel) (by omega) (by decide +kernel) (by decide +kernel) ?_
  refine jc_aload_n g (pc := 70) (n := 23) (t := 86) (i := 0) (by decide +kernel) rfl ?_
  refine jc_lconst g (pc := 71) (n := 23) (t := 86) (x := 0) (0) (by decide +kernel) rfl ?_
  refine jc_put g (pc := 72) (n := 23) (t := 86) (i := 1) f2_51 (fun q h => by cases h; rfl) (by decide) (by decide +kernel) (by decide +kernel) (by omega) (by decide +kernel) (by decide +kernel) ?_
  refine jc_aload_n g (pc := 75) (n := 23) (t := 87) (i := 0) (by decide +kernel) rfl ?_
  refine jc_lconst g (pc := 76) (n := 23) (t := 87) (x := 1) (1) (by decide +kernel) rfl ?_
  refine jc_put g (pc := 77) (n := 23) (t := 87) (i := 1) f2_55 (fun q h => by cases h; rfl) (by decide) (by decide +kernel) (by decide +kernel) (by omega) (by decide +kernel) (by decide +kernel) ?_
  refine jc_iconst g (pc := 80) (n := 23) (t := 88) (x := 0) (0) (by decide +kernel) rfl ?_
  refine jc_istore_n g (pc := 81) (n := 23) (t := 88) (i := 1) (by decide +kernel) (by decide) ?_
  dsimp only [stL, clL, hdL]
  refine jc_iload_n g (pc := 82) (n := 23) (t := 88) (i := 1) (by decide +kernel) rfl ?_
  refine jc_bipush g (pc := 83) (n := 23) (t := 88) (x := 6) (6) (by decide +kernel) (by decide +kernel) ?_
  refine jc_gt_f g (pc := 85) (n := 23) (t := 88) (off := 22) (tgt := 107) (by decide +kernel) (by decide) (by decide) ?_
  refine jc_aload_n g (pc := 88) (n := 23) (t := 88) (i := 0) (by decide +kernel) rfl ?_
  refine jc_get g (pc := 89) (n := 23) (t := 88) (i := 1) (b := 511) f2_20 (by decide +kernel) (by omega) (by decide +kernel) (by decide +kernel) ?_
  refine jc_iload_n g (pc := 92) (n := 23) (t := 88) (i := 1) (by decide +kernel) rfl ?_
  refine jc_new g (pc := 93) (n := 23) (t := 88) (ci := 3) (a := 1030) rfl (by decide +kernel) (by omega) (by omega) (by decide +kernel) wk_2_18 wn_3 wz_3 (by decide +kernel) ?_
  refine jc_dup g (pc := 96) (n := 24) (t := 88) (by decide +kernel) rfl ?_
  refine jc_callN g (pc := 97) (n := 24) (t := 88) (As := []) cz_1030 wm_2_58 cb_3 (by omega) (by omega) (by omega) rfl (by decide +kernel) (by decide +kernel) (by decide) (by decide +kernel) ?_
  refine jc_aastS g (pc := 100) (n := 28) (t := 95) (i := 20) (N := 7) (i2 := 23) (by decide +kernel) (by omega) (by decide +kernel) (by omega) (by decide +kernel) (by rw [vin_iff]; decide +kernel) (by decide +kernel) ?_
  refine jc_iinc g (pc := 101) (n := 28) (t := 96) (i := 1) (z := 1) (1) (by decide +kernel) rfl (by decide) rfl ?_
  dsimp only [stL, clL, hdL]
  refine jc_goto g (pc := 104) (n := 28) (t := 96) (off := -22) (tgt := 82) (by decide +kernel) (by decide) ?_
  refine jc_iload_n g (pc := 82) (n := 28) (t := 96) (i := 1) (by decide +kernel) rfl ?_
  refine jc_bipush g (pc := 83) (n := 28) (t := 96) (x := 6) (6) (by decide +kernel) (by decide +kernel) ?_
  refine jc_gt_f g (pc := 85) (n := 28) (t := 96) (off := 22) (tgt := 107) (by decide +kernel) (by decide) (by decide) ?_
  refine jc_aload_n g (pc := 88) (n := 28) (t := 96) (i := 0) (by decide +kernel) rfl ?_
  refine jc_get g (pc := 89) (n := 28) (t := 96) (i := 1) (b := 511) f2_20 (by decide +kernel) (by omega) (by decide +kernel) (by decide +kernel) ?_
  refine jc_iload_n g (pc := 92) (n := 28) (t := 96) (i := 1) (by decide +kernel) rfl ?_
  refine jc_new g (pc := 93) (n := 28) (t := 96) (ci := 3) (a := 1040) rfl (by decide +kernel) (by omega) (by omega) (by decide +kernel) wk_2_18 wn_3 wz_3 (by decide +kernel) ?_
  refine jc_dup g (pc := 96) (n := 29) (t := 96) (by decide +kernel) rfl ?_
  refine jc_callN g (pc := 97) (n := 29) (t := 96) (As := []) cz_1040 wm_2_58 cb_3 (by omega) (by omega) (by omega) rfl (by decide +kernel) (by decide +kernel) (by decide) (by decide +kernel) ?_
  refine jc_aastS g (pc := 100) (n := 33) (t := 103) (i := 20) (N := 7) (i2 := 28) (by decide +kernel) (by omega) (by decide +kernel) (by omega) (by decide +kernel) (by rw [vin_iff]; decide +kernel) (by decide +kernel) ?_
  refine jc_iinc g (pc := 101) (n := 33) (t := 104) (i := 1) (z := 1) (1) (by decide +kernel) rfl (by decide) rfl ?_
  dsimp only [stL, clL, hdL]
  refine jc_goto g (pc := 104) (n := 33) (t := 104) (off := -22) (tgt := 82) (by decide +kernel) (by decide) ?_
  refine jc_iload_n g (pc := 82) (n := 33) (t := 104) (i := 1) (by decide +kernel) rfl ?_
  refine jc_bipush g (pc := 83) (n := 33) (t := 104) (x := 6) (6) (by decide +kernel) (by decide +kernel) ?_
  refine jc_gt_f g (pc := 85) (n := 33) (t := 104) (off := 22) (tgt := 107) (by decide +kernel) (by decide) (by decide) ?_
  refine jc_aload_n g (pc := 88) (n := 33) (t := 104) (i := 0) (by decide +kernel) rfl ?_
  refine jc_get g (pc := 89) (n := 33) (t := 104) (i := 1) (b := 511) f2_20 (by decide +kernel) (by omega) (by decide +kernel) (by decide +kernel) ?_
  refine jc_iload_n g (pc := 92) (n := 33) (t := 104) (i := 1) (by decide +kernel) rfl ?_
  refine jc_new g (pc := 93) (n := 33) (t := 104) (ci := 3) (a := 1050) rfl (by decide +kernel) (by omega) (by omega) (by decide +kernel) wk_2_18 wn_3 wz_3 (by decide +kernel) ?_
  refine jc_dup g (pc := 96) (n := 34) (t := 104) (by decide +kernel) rfl ?_
  refine jc_callN g (pc := 97) (n := 34) (t := 104) (As := []) cz_1050 wm_2_58 cb_3 (by omega) (by omega) (by omega) rfl (by decide +kernel) (by decide +kernel) (by decide) (by decide +kernel) ?_
  refine jc_aastS g (pc := 100) (n := 38) (t := 111) (i := 20) (N := 7) (i2 := 33) (by decide +kernel) (by omega) (by decide +kernel) (by omega) (by decide +kernel) (by rw [vin_iff]; decide +kernel) (by decide +kernel) ?_
  refine jc_iinc g (pc := 101) (n := 38) (t := 112) (i := 1) (z := 1) (1) (by decide +kernel) rfl (by decide) rfl ?_
  dsimp only [stL, clL, hdL]
  refine jc_goto g (pc := 104) (n := 38) (t := 112) (off := -22) (tgt := 82) (by decide +kernel) (by decide) ?_
  refine jc_iload_n g (pc := 82) (n := 38) (t := 112) (i := 1) (by decide +kernel) rfl ?_
  refine jc_bipush g (pc := 83) (n := 38) (t := 112) (x := 6) (6) (by decide +kernel) (by decide +kernel) ?_
  refine jc_gt_f g (pc := 85) (n := 38) (t := 112) (off := 22) (tgt := 107) (by decide +kernel) (by decide) (by decide) ?_
  refine jc_aload_n g (pc := 88) (n := 38) (t := 112) (i := 0) (by decide +kernel) rfl ?_
  refine jc_get g (pc := 89) (n := 38) (t := 112) (i := 1) (b := 511) f2_20 (by decide +kernel) (by omega) (by decide +kernel) (by decide +kernel) ?_
  refine jc_iload_n g (pc := 92) (n := 38) (t := 112) (i := 1) (by decide +kernel) rfl ?_
  refine jc_new g (pc := 93) (n := 38) (t := 112) (ci := 3) (a := 1060) rfl (by decide +kernel) (by omega) (by omega) (by decide +kernel) wk_2_18 wn_3 wz_3 (by decide +kernel) ?_
  refine jc_dup g (pc := 96) (n := 39) (t := 112) (by decide +kernel) rfl ?_
  refine jc_callN g (pc := 97) (n := 39) (t := 112) (As := []) cz_1060 wm_2_58 cb_3 (by omega) (by omega) (by omega) rfl (by decide +kernel) (by decide +kernel) (by decide) (by decide +kernel) ?_
  refine jc_aastS g (pc := 100) (n := 43) (t := 119) (i := 20) (N := 7) (i2 := 38) (by decide +kernel) (by omega) (by decide +kernel) (by omega) (by decide +kernel) (by rw [vin_iff]; decide +kernel) (by decide +kernel) ?_
  refine jc_iinc g (pc := 101) (n := 43) (t := 120) (i := 1) (z := 1) (1) (by decide +kernel) rfl (by decide) rfl ?_
  dsimp only [stL, clL, hdL]
  refine jc_goto g (pc := 104) (n := 43) (t := 120) (off := -22) (tgt := 82) (by decide +kernel) (by decide) ?_
  refine jc_iload_n g (pc := 82) (n := 43) (t := 120) (i := 1) (by decide +kernel) rfl ?_
  refine jc_bipush g (pc := 83) (n := 43) (t := 120) (x := 6) (6) (by decide +kernel) (by decide +kernel) ?_
  refine jc_gt_f g (pc := 85) (n := 43) (t := 120) (off := 22) (tgt := 107) (by decide +kernel) (by decide) (by decide) ?_
  refine jc_aload_n g (pc := 88) (n := 43) (t := 120) (i := 0) (by decide +kernel) rfl ?_
  refine jc_get g (pc := 89) (n := 43) (t := 120) (i := 1) (b := 511) f2_20 (by decide +kernel) (by omega) (by decide +kernel) (by decide +kernel) ?_
  refine jc_iload_n g (pc := 92) (n := 43) (t := 120) (i := 1) (by decide +kernel) rfl ?_
  refine jc_new g (pc := 93) (n := 43) (t := 120) (ci := 3) (a := 1070) rfl (by decide +kernel) (by omega) (by omega) (by decide +kernel) wk_2_18 wn_3 wz_3 (by decide +kernel) ?_
  refine jc_dup g (pc := 96) (n := 44) (t := 120) (by decide +kernel) rfl ?_
  refine jc_callN g (pc := 97) (n := 44) (t := 120) (As := []) cz_1070 wm_2_58 cb_3 (by omega) (by omega) (by omega) rfl (by decide +kernel) (by decide +kernel) (by decide) (by decide +kernel) ?_
  refine jc_aastS g (pc := 100) (n := 48) (t := 127) (i := 20) (N := 7) (i2 := 43) (by decide +kernel) (by omega) (by decide +kernel) (by omega) (by decide +kernel) (by rw [vin_iff]; decide +kernel) (by decide +kernel) ?_
  refine jc_iinc g (pc := 101) (n := 48) (t := 128) (i := 1) (z := 1) (1) (by decide +kernel) rfl (by decide) rfl ?_
  dsimp only [stL, clL, hdL]
  refine jc_goto g (pc := 104) (n := 48) (t := 128) (off := -22) (tgt := 82) (by decide +kernel) (by decide) ?_
  refine jc_iload_n g (pc := 82) (n := 48) (t := 128) (i := 1) (by decide +kernel) rfl ?_
  refine jc_bipush g (pc := 83) (n := 48) (t := 128) (x := 6) (6) (by decide +kernel) (by decide +kernel) ?_
  refine jc_gt_f g (pc := 85) (n := 48) (t := 128) (off := 22) (tgt := 107) (by decide +kernel) (by decide) (by decide) ?_
  refine jc_aload_n g (pc := 88) (n := 48) (t := 128) (i := 0) (by decide +kernel) rfl ?_
  refine jc_get g (pc := 89) (n := 48) (t := 128) (i := 1) (b := 511) f2_20 (by decide +kernel) (by omega) (by decide +kernel) (by decide +kernel) ?_
  refine jc_iload_n g (pc := 92) (n := 48) (t := 128) (i := 1) (by decide +kernel) rfl ?_
  refine jc_new g (pc := 93) (n := 48) (t := 128) (ci := 3) (a := 1080) rfl (by decide +kernel) (by omega) (by omega) (by decide +kernel) wk_2_18 wn_3 wz_3 (by decide +kernel) ?_
  refine jc_dup g (pc := 96) (n := 49) (t := 128) (by decide +kernel) rfl ?_
  refine jc_callN g (pc := 97) (n := 49) (t := 128) (As := []) cz_1080 wm_2_58 cb_3 (by omega) (by omega) (by omega) rfl (by decide +kernel) (by decide +kernel) (by decide) (by decide +kernel) ?_
  refine jc_aastS g (pc := 100) (n := 53) (t := 135) (i := 20) (N := 7) (i2 := 48) (by decide +kernel) (by omega) (by decide +kernel) (by omega) (by decide +kernel) (by rw [vin_iff]; decide +kernel) (by decide +kernel) ?_
  refine jc_iinc g (pc := 101) (n := 53) (t := 136) (i := 1) (z := 1) (1) (by decide +kernel) rfl (by decide) rfl ?_
  dsimp only [stL, clL, hdL]
  refine jc_goto g (pc := 104) (n := 53) (t := 136) (off := -22) (tgt := 82) (by decide +kernel) (by decide) ?_
  refine jc_iload_n g (pc := 82) (n := 53) (t := 136) (i := 1) (by decide +kernel) rfl ?_
  refine jc_bipush g (pc := 83) (n := 53) (t := 136) (x := 6) (6) (by decide +kernel) (by decide +kernel) ?_
  refine jc_gt_f g (pc := 85) (n := 53) (t := 136) (off := 22) (tgt := 107) (by decide +kernel) (by decide) (by decide) ?_
  refine jc_aload_n g (pc := 88) (n := 53) (t := 136) (i := 0) (by decide +kernel) rfl ?_
  refine jc_get g (pc := 89) (n := 53) (t := 136) (i := 1) (b := 511) f2_20 (by decide +kernel) (by omega) (by decide +kernel) (by decide +kernel) ?_
  refine jc_iload_n g (pc := 92) (n := 53) (t := 136) (i := 1) (by decide +kernel) rfl ?_
  refine jc_new g (pc := 93) (n := 53) (t := 136) (ci := 3) (a := 1090) rfl (by decide +kernel) (by omega) (by omega) (by decide +kernel) wk_2_18 wn_3 wz_3 (by decide +kernel) ?_
  refine jc_dup g (pc := 96) (n := 54) (t := 136) (by decide +kernel) rfl ?_
  refine jc_callN g (pc := 97) (n := 54) (t := 136) (As := []) cz_1090 wm_2_58 cb_3 (by omega) (by omega) (by omega) rfl (by decide +kernel) (by decide +kernel) (by decide) (by decide +kernel) ?_
  refine jc_aastS g (pc := 100) (n := 58) (t := 143) (i := 20) (N := 7) (i2 := 53) (by decide +kernel) (by omega) (by decide +kernel) (by omega) (by decide +kernel) (by rw [vin_iff]; decide +kernel) (by decide +kernel) ?_
  refine jc_iinc g (pc := 101) (n := 58) (t := 144) (i := 1) (z := 1) (1) (by decide +kernel) rfl (by decide) rfl ?_
  dsimp only [stL, clL, hdL]
  refine jc_goto g (pc := 104) (n := 58) (t := 144) (off := -22) (tgt := 82) (by decide +kernel) (by decide) ?_
  refine jc_iload_n g (pc := 82) (n := 58) (t := 144) (i := 1) (by decide +kernel) rfl ?_
  refine jc_bipush g (pc := 83) (n := 58) (t := 144) (x := 6) (6) (by decide +kernel) (by decide +kernel) ?_
  refine jc_gt_t g (pc := 85) (n := 58) (t := 144) (off := 22) (tgt := 107) (by decide +kernel) (by decide) (by decide) ?_
  exact ret _ _ (by decide +kernel)
theorem cz_1010 : Rc 2 mXc3 [.ref 1010] 66 160 70 167 := by
  refine Rc.of [some (.ref 1010)] (by decide) rfl rfl rfl (by decide) rfl ?_
  intro J g ret
  refine jc_aload_n g (pc := 0) (n := 66) (t := 160) (i := 0) (by decide +kernel) rfl ?_
  refine jc_obj g (pc := 1) (n := 66) (t := 160) (by omega) wo_3 wo_i wo_c (by decide) (by decide +kernel) ?_
  refine jc_aload_n g (pc := 4) (n := 66) (t := 160) (i := 0) (by decide +kernel) rfl ?_
  refine jc_iconst g (pc := 5) (n := 66) (t := 160) (x := 3) (3) (by decide +kernel) rfl ?_
  refine jc_newaI g (pc := 6) (n := 66) (t := 160) (a := 1011) (N := 3) (by decide +kernel) (by decide) (by decide) (by omega) (by omega) (by omega) (by decide +kernel) wa_i (by decide +kernel) ?_
  refine jc_put g (pc := 8) (n := 67) (t := 160) (i := 65) f3_9 (fun q h => by cases h; rfl) (by decide) (by decide +kernel) (by decide +kernel) (by omega) (by decide +kernel) (by decide +kernel) ?_
  refine jc_aload_n g (pc := 11) (n := 67) (t := 161) (i := 0) (by decide +kernel) rfl ?_
  refine jc_bipush g (pc := 12) (n := 67) (t := 161) (x := 6) (6) (by decide +kernel) (by decide +kernel) ?_
  refine jc_newaI g (pc := 14) (n := 67) (t := 161) (a := 1012) (N := 6) (by decide +kernel) (by decide) (by decide) (by omega) (by omega) (by omega) (by decide +kernel) wa_i (by decide +kernel) ?_
  refine jc_put g (pc := 16) (n := 68) (t := 161) (i := 65) f3_15 (fun q h => by cases h; rfl) (by decide) (by decide +kernel) (by decide +kernel) (by omega) (by decide +kernel) (by decide +kernel) ?_
  refine jc_aload_n g (pc := 19) (n := 68) (t := 162) (i := 0) (by decide +kernel) rfl ?_
  refine jc_bipush g (pc := 20) (n := 68) (t := 162) (x := 6) (6) (by decide +kernel) (by decide +kernel) ?_
  refine jc_newaI g (pc := 22) (n := 68) (t := 162) (a := 1013) (N := 6) (by decide +kernel) (by decide) (by decide) (by omega) (by omega) (by omega) (by decide +kernel) wa_i (by decide +kernel) ?_
  refine jc_put g (pc := 24) (n := 69) (t := 162) (i := 65) f3_18 (fun q h => by cases h; rfl) (by decide) (by decide +kernel) (by decide +kernel) (by omega) (by decide +kernel) (by decide +kernel) ?_
  refine jc_aload_n g (pc := 27) (n := 69) (t := 163) (i := 0) (by decide +kernel) rfl ?_
  refine jc_bipush g (pc := 28) (n := 69) (t := 163) (x := 6) (6) (by decide +kernel) (by decide +kernel) ?_
  refine jc_newaI g (pc := 30) (n := 69) (t := 163) (a := 1014) (N := 6) (by decide +kernel) (by decide) (by decide) (by omega) (by omega) (by omega) (by decide +kernel) wa_i (by decide +kernel) ?_
  refine jc_put g (pc := 32) (n := 70) (t := 163) (i := 65) f3_21 (fun q h => by cases h; rfl) (by decide) (by decide +kernel) (by decide +kernel) (by omega) (by decide +kernel) (by decide +kernel) ?_
  refine jc_aload_n g (pc := 35) (n := 70) (t := 164) (i := 0) (by decide +kernel) rfl ?_
  refine jc_iconst g (pc := 36) (n := 70) (t := 164) (x := 0) (0) (by decide +kernel) rfl ?_
  refine jc_put g (pc := 37) (n := 70) (t := 164) (i := 65) f3_24 (fun q h => by cases h; rfl) (by decide) (by decide +kernel) (by decide +kernel) (by omega) (by decide +kernel) (by decide +kernel) ?_
  refine jc_aload_n g (pc := 40) (n := 70) (t := 165) (i := 0) (by decide +kernel) rfl ?_
  refine jc_iconst g (pc := 41) (n := 70) (t := 165) (x := 0) (0) (by decide +kernel) rfl ?_
  refine jc_put g (pc := 42) (n := 70) (t := 165) (i := 65) f3_28 (fun q h => by cases h; rfl) (by decide) (by decide +kernel) (by decide +kernel) (by omega) (by decide +kernel) (by decide +kernel) ?_
  refine jc_aload_n g (pc := 45) (n := 70) (t := 166) (i := 0) (by decide +kernel) rfl ?_
  refine jc_iconst g (pc := 46) (n := 70) (t := 166) (x := 0) (0) (by decide +kernel) rfl ?_
  refine jc_put g (pc := 47) (n := 70) (t := 166) (i := 65) f3_31 (fun q h => by cases h; rfl) (by decide) (by decide +kernel) (by decide +kernel) (by omega) (by decide +kernel) (by decide +kernel) ?_
  exact ret _ _ (by decide +kernel)
theorem cz_210 : Rc 2 mXc6 [.ref 210] 71 168 71 176 := by
  refine Rc.of [some (.ref 210)] (by decide) rfl rfl rfl (by decide) rfl ?_
  intro J g ret
  refine jc_aload_n g (pc := 0) (n := 71) (t := 168) (i := 0) (by decide +kernel) rfl ?_
  refine jc_obj g (pc := 1) (n := 71) (t := 168) (by omega) wo_6 wo_i wo_c (by decide) (by decide +kernel) ?_
  refine jc_aload_n g (pc := 4) (n := 71) (t := 168) (i := 0) (by decide +kernel) rfl ?_
  refine jc_iconst g (pc := 5) (n := 71) (t := 168) (x := 0) (0) (by decide +kernel) rfl ?_
  refine jc_put g (pc := 6) (n := 71) (t := 168) (i := 70) f6_7 (fun q h => by cases h; rfl) (by decide) (by decide +kernel) (by decide +kernel) (by omega) (by decide +kernel) (by decide +kernel) ?_
  refine jc_aload_n g (pc := 9) (n := 71) (t := 169) (i := 0) (by decide +kernel) rfl ?_
  refine jc_iconst g (pc := 10) (n := 71) (t := 169) (x := 0) (0) (by decide +kernel) rfl ?_
  refine jc_put g (pc := 11) (n := 71) (t := 169) (i := 70) f6_13 (fun q h => by cases h; rfl) (by decide) (by decide +kernel) (by decide +kernel) (by omega) (by decide +kernel) (by decide +kernel) ?_
  refine jc_aload_n g (pc := 14) (n := 71) (t := 170) (i := 0) (by decide +kernel) rfl ?_
  refine jc_iconst g (pc := 15) (n := 71) (t := 170) (x := 0) (0) (by decide +kernel) rfl ?_
  refine jc_put g (pc := 16) (n := 71) (t := 170) (i := 70) f6_16 (fun q h => by cases h; rfl) (by decide) (by decide +kernel) (by decide +kernel) (by omega) (by decide +kernel) (by decide +kernel) ?_
  refine jc_aload_n g (pc := 19) (n := 71) (t := 171) (i := 0) (by decide +kernel) rfl ?_
  refine jc_iconst g (pc := 20) (n := 71) (t := 171) (x := 0) (0) (by decide +kernel) rfl ?_
  refine jc_put g (pc := 21) (n := 71) (t := 171) (i := 70) f6_19 (fun q h => by cases h; rfl) (by decide) (by decide +kernel) (by decide +kernel) (by omega) (by decide +kernel) (by decide +kernel) ?_
  refine jc_aload_n g (pc := 24) (n := 71) (t := 172) (i := 0) (by decide +kernel) rfl ?_
  refine jc_iconst g (pc := 25) (n := 71) (t := 172) (x := 0) (0) (by decide +kernel) rfl ?_
  refine jc_put g (pc := 26) (n := 71) (t := 172) (i := 70) f6_22 (fun q h => by cases h; rfl) (by decide) (by decide +kernel) (by decide +kernel) (by omega) (by decide +kernel) (by decide +kernel) ?_
  refine jc_aload_n g (pc := 29) (n := 71) (t := 173) (i := 0) (by decide +kernel) rfl ?_
  refine jc_iconst g (pc := 30) (n := 71) (t := 173) (x := 0) (0) (by decide +kernel) rfl ?_
  refine jc_put g (pc := 31) (n := 71) (t := 173) (i := 70) f6_25 (fun q h => by cases h; rfl) (by decide) (by decide +kernel) (by decide +kernel) (by omega) (by decide +kernel) (by decide +kernel) ?_
  refine jc_aload_n g (pc := 34) (n := 71) (t := 174) (i := 0) (by decide +kernel) rfl ?_
  refine jc_iconst g (pc := 35) (n := 71) (t := 174) (x := -1) (-1) (by decide +kernel) rfl ?_
  refine jc_put g (pc := 36) (n := 71) (t := 174) (i := 70) f6_28 (fun q h => by cases h; rfl) (by decide) (by decide +kernel) (by decide +kernel) (by omega) (by decide +kernel) (by decide +kernel) ?_
  refine jc_aload_n g (pc := 39) (n := 71) (t := 175) (i := 0) (by decide +kernel) rfl ?_
  refine jc_iconst g (pc := 40) (n := 71) (t := 175) (x := 0) (0) (by decide +kernel) rfl ?_
  refine jc_put g (pc := 41) (n := 71) (t := 175) (i := 70) f6_31 (fun q h => by cases h; rfl) (by decide) (by decide +kernel) (by decide +kernel) (by omega) (by decide +kernel) (by decide +kernel) ?_
  exact ret _ _ (by decide +kernel)
theorem cz_211 : Rc 2 mXc6 [.ref 211] 72 177 72 185 := by
  refine Rc.of [some (.ref 211)] (by decide) rfl rfl rfl (by decide) rfl ?_
  intro J g ret
  refine jc_aload_n g (pc := 0) (n := 72) (t := 177) (i := 0) (by decide +kernel) rfl ?_
  refine jc_obj g (pc := 1) (n := 72) (t := 177) (by omega) wo_6 wo_i wo_c (by decide) (by decide +kernel) ?_
  refine jc_aload_n g (pc := 4) (n := 72) (t := 177) (i := 0) (by decide +kernel) rfl ?_
  refine jc_iconst g (pc := 5) (n := 72) (t := 177) (x := 0) (0) (by decide +kernel) rfl ?_
  refine jc_put g (pc := 6) (n := 72) (t := 177) (i := 71) f6_7 (fun q h => by cases h; rfl) (by decide) (by decide +kernel) (by decide +kernel) (by omega) (by decide +kernel) (by decide +kernel) ?_
  refine jc_aload_n g (pc := 9) (n := 72) (t := 178) (i := 0) (by decide +kernel) rfl ?_
  refine jc_iconst g (pc := 10) (n := 72) (t := 178) (x := 0) (0) (by decide +kernel) rfl ?_
  refine jc_put g (pc := 11) (n := 72) (t := 178) (i := 71) f6_13 (fun q h => by cases h; rfl) (by decide) (by decide +kernel) (by decide +kernel) (by omega) (by decide +kernel) (by decide +kernel) ?_
  refine jc_aload_n g (pc := 14) (n := 72) (t := 179) (i := 0) (by decide +kernel) rfl ?_
  refine jc_iconst g (pc := 15) (n := 72) (t := 179) (x := 0) (0) (by decide +kernel) rfl ?_
  refine jc_put g (pc := 16) (n := 72) (t := 179) (i := 71) f6_16 (fun q h => by cases h; rfl) (by decide) (by decide +kernel) (by decide +kernel) (by omega) (by decide +kernel) (by decide +kernel) ?_
  refine jc_aload_n g (pc := 19) (n := 72) (t := 180) (i := 0) (by decide +kernel) rfl ?_
  refine jc_iconst g (pc := 20) (n := 72) (t := 180) (x := 0) (0) (by decide +kernel) rfl ?_
  refine jc_put g (pc := 21) (n := 72) (t := 180) (i := 71) f6_19 (fun q h => by cases h; rfl) (by decide) (by decide +kernel) (by decide +kernel) (by omega) (by decide +kernel) (by decide +kernel) ?_
  refine jc_aload_n g (pc := 24) (n := 72) (t := 181) (i := 0) (by decide +kernel) rfl ?_
  refine jc_iconst g (pc := 25) (n := 72) (t := 181) (x := 0) (0) (by decide +kernel) rfl ?_
  refine jc_put g (pc := 26) (n := 72) (t := 181) (i := 71) f6_22 (fun q h => by cases h; rfl) (by decide) (by decide +kernel) (by decide +kernel) (by omega) (by decide +kernel) (by decide +kernel) ?_
  refine jc_aload_n g (pc := 29) (n := 72) (t := 182) (i := 0) (by decide +kernel) rfl ?_
  refine jc_iconst g (pc := 30) (n := 72) (t := 182) (x := 0) (0) (by decide +kernel) rfl ?_
  refine jc_put g (pc := 31) (n := 72) (t := 182) (i := 71) f6_25 (fun q h => by cases h; rfl) (by decide) (by decide +kernel) (by decide +kernel) (by omega) (by decide +kernel) (by decide +kernel) ?_
  refine jc_aload_n g (pc := 34) (n := 72) (t := 183) (i := 0) (by decide +kernel) rfl ?_
  refine jc_iconst g (pc := 35) (n := 72) (t := 183) (x := -1) (-1) (by decide +kernel) rfl ?_
  refine jc_put g (pc := 36) (n := 72) (t := 183) (i := 71) f6_28 (fun q h => by cases h; rfl) (by decide) (by decide +kernel) (by decide +kernel) (by omega) (by decide +kernel) (by decide +kernel) ?_
  refine jc_aload_n g (pc := 39) (n := 72) (t := 184) (i := 0) (by decide +kernel) rfl ?_
  refine jc_iconst g (pc := 40) (n := 72) (t := 184) (x := 0) (0) (by decide +kernel) rfl ?_
  refine jc_put g (pc := 41) (n := 72) (t := 184) (i := 71) f6_31 (fun q h => by cases h; rfl) (by decide) (by decide +kernel) (by decide +kernel) (by omega) (by decide +kernel) (by decide +kernel) ?_
  exact ret _ _ (by decide +kernel)
theorem cz_212 : Rc 2 mXc6 [.ref 212] 73 186 73 194 := by
  refine Rc.of [some (.ref 212)] (by decide) rfl rfl rfl (by decide) rfl ?_
  intro J g ret
  refine jc_aload_n g (pc := 0) (n := 73) (t := 186) (i := 0) (by decide +kernel) rfl ?_
  refine jc_obj g (pc := 1) (n := 73) (t := 186) (by omega) wo_6 wo_i wo_c (by decide) (by decide +kernel) ?_
  refine jc_aload_n g (pc := 4) (n := 73) (t := 186) (i := 0) (by decide +kernel) rfl ?_
  refine jc_iconst g (pc := 5) (n := 73) (t := 186) (x := 0) (0) (by decide +kernel) rfl ?_
  refine jc_put g (pc := 6) (n := 73) (t := 186) (i := 72) f6_7 (fun q h => by cases h; rfl) (by decide) (by decide +kernel) (by decide +kernel) (by omega) (by decide +kernel) (by decide +kernel) ?_
  refine jc_aload_n g (pc := 9) (n := 73) (t := 187) (i := 0) (by decide +kernel) rfl ?_
  refine jc_iconst g (pc := 10) (n := 73) (t := 187) (x := 0) (0) (by decide +kernel) rfl ?_
  refine jc_put g (pc := 11) (n := 73) (t := 187) (i := 72) f6_13 (fun q h => by cases h; rfl) (by decide) (by decide +kernel) (by decide +kernel) (by omega) (by decide +kernel) (by decide +kernel) ?_
  refine jc_aload_n g (pc := 14) (n := 73) (t := 188) (i := 0) (by decide +kernel) rfl ?_
  refine jc_iconst g (pc := 15) (n := 73) (t := 188) (x := 0) (0) (by decide +kernel) rfl ?_
  refine jc_put g (pc := 16) (n := 73) (t := 188) (i := 72) f6_16 (fun q h => by cases h; rfl) (by decide) (by decide +kernel) (by decide +kernel) (by omega) (by decide +kernel) (by decide +kernel) ?_
  refine jc_aload_n g (pc := 19) (n := 73) (t := 189) (i := 0) (by decide +kernel) rfl ?_
  refine jc_iconst g (pc := 20) (n := 73) (t := 189) (x := 0) (0) (by decide +kernel) rfl ?_
  refine jc_put g (pc := 21) (n := 73) (t := 189) (i := 72) f6_19 (fun q h => by cases h; rfl) (by decide) (by decide +kernel) (by decide +kernel) (by omega) (by decide +kernel) (by decide +kernel) ?_
  refine jc_aload_n g (pc := 24) (n := 73) (t := 190) (i := 0) (by decide +kernel) rfl ?_
  refine jc_iconst g (pc := 25) (n := 73) (t := 190) (x := 0) (0) (by decide +kernel) rfl ?_
  refine jc_put g (pc := 26) (n := 73) (t := 190) (i := 72) f6_22 (fun q h => by cases h; rfl) (by decide) (by decide +kernel) (by decide +kernel) (by omega) (by decide +kernel) (by decide +kernel) ?_
  refine jc_aload_n g (pc := 29) (n := 73) (t := 191) (i := 0) (by decide +kernel) rfl ?_
  refine jc_iconst g (pc := 30) (n := 73) (t := 191) (x := 0) (0) (by decide +kernel) rfl ?_
  refine jc_put g (pc := 31) (n := 73) (t := 191) (i := 72) f6_25 (fun q h => by cases h; rfl) (by decide) (by decide +kernel) (by decide +kernel) (by omega) (by decide +kernel) (by decide +kernel) ?_
  refine jc_aload_n g (pc := 34) (n := 73) (t := 192) (i := 0) (by decide +kernel) rfl ?_
  refine jc_iconst g (pc := 35) (n := 73) (t := 192) (x := -1) (-1) (by decide +kernel) rfl ?_
  refine jc_put g (pc := 36) (n := 73) (t := 192) (i := 72) f6_28 (fun q h => by cases h; rfl) (by decide) (by decide +kernel) (by decide +kernel) (by omega) (by decide +kernel) (by decide +kernel) ?_
  refine jc_aload_n g (pc := 39) (n := 73) (t := 193) (i := 0) (by decide +kernel) rfl ?_
  refine jc_iconst g (pc := 40) (n := 73) (t := 193) (x := 0) (0) (by decide +kernel) rfl ?_
  refine jc_put g (pc := 41) (n := 73) (t := 193) (i := 72) f6_31 (fun q h => by cases h; rfl) (by decide) (by decide +kernel) (by decide +kernel) (by omega) (by decide +kernel) (by decide +kernel) ?_
  exact ret _ _ (by decide +kernel)
theorem cz_213 : Rc 2 mXc6 [.ref 213] 74 195 74 203 := by
  refine Rc.of [some (.ref 213)] (by decide) rfl rfl rfl (by decide) rfl ?_
  intro J g ret
  refine jc_aload_n g (pc := 0) (n := 74) (t := 195) (i := 0) (by decide +kernel) rfl ?_
  refine jc_obj g (pc := 1) (n := 74) (t := 195) (by omega) wo_6 wo_i wo_c (by decide) (by decide +kernel) ?_
  refine jc_aload_n g (pc := 4) (n := 74) (t := 195) (i := 0) (by decide +kernel) rfl ?_
  refine jc_iconst g (pc := 5) (n := 74) (t := 195) (x := 0) (0) (by decide +kernel) rfl ?_
  refine jc_put g (pc := 6) (n := 74) (t := 195) (i := 73) f6_7 (fun q h => by cases h; rfl) (by decide) (by decide +kernel) (by decide +kernel) (by omega) (by decide +kernel) (by decide +kernel) ?_
  refine jc_aload_n g (pc := 9) (n := 74) (t := 196) (i := 0) (by decide +kernel) rfl ?_
  refine jc_iconst g (pc := 10) (n := 74) (t := 196) (x := 0) (0) (by decide +kernel) rfl ?_
  refine jc_put g (pc := 11) (n := 74) (t := 196) (i := 73) f6_13 (fun q h => by cases h; rfl) (by decide) (by decide +kernel) (by decide +kernel) (by omega) (by decide +kernel) (by decide +kernel) ?_
  refine jc_aload_n g (pc := 14) (n := 74) (t := 197) (i := 0) (by decide +kernel) rfl ?_
  refine jc_iconst g (pc := 15) (n := 74) (t := 197) (x := 0) (0) (by decide +kernel) rfl ?_
  refine jc_put g (pc := 16) (n := 74) (t := 197) (i := 73) f6_16 (fun q h => by cases h; rfl) (by decide) (by decide +kernel) (by decide +kernel) (by omega) (by decide +kernel) (by decide +kernel) ?_
  refine jc_aload_n g (pc := 19) (n := 74) (t := 198) (i := 0) (by decide +kernel) rfl ?_
  refine jc_iconst g (pc := 20) (n := 74) (t := 198) (x := 0) (0) (by decide +kernel) rfl ?_
  refine jc_put g (pc := 21) (n := 74) (t := 198) (i := 73) f6_19 (fun q h => by cases h; rfl) (by decide) (by decide +kernel) (by decide +kernel) (by omega) (by decide +kernel) (by decide +kernel) ?_
  refine jc_aload_n g (pc := 24) (n := 74) (t := 199) (i := 0) (by decide +kernel) rfl ?_
  refine jc_iconst g (pc := 25) (n := 74) (t := 199) (x := 0) (0) (by decide +kernel) rfl ?_
  refine jc_put g (pc := 26) (n := 74) (t := 199) (i := 73) f6_22 (fun q h => by cases h; rfl) (by decide) (by decide +kernel) (by decide +kernel) (by omega) (by decide +kernel) (by decide +kernel) ?_
  refine jc_aload_n g (pc := 29) (n := 74) (t := 200) (i := 0) (by decide +kernel) rfl ?_
  refine jc_iconst g (pc := 30) (n := 74) (t := 200) (x := 0) (0) (by decide +kernel) rfl ?_
  refine jc_put g (pc := 31) (n := 74) (t := 200) (i := 73) f6_25 (fun q h => by cases h; rfl) (by decide) (by decide +kernel) (by decide +kernel) (by omega) (by decide +kernel) (by decide +kernel) ?_
  refine jc_aload_n g (pc := 34) (n := 74) (t := 201) (i := 0) (by decide +kernel) rfl ?_
  refine jc_iconst g (pc := 35) (n := 74) (t := 201) (x := -1) (-1) (by decide +kernel) rfl ?_
  refine jc_put g (pc := 36) (n := 74) (t := 201) (i := 73) f6_28 (fun q h => by cases h; rfl) (by decide) (by decide +kernel) (by decide +kernel) (by omega) (by decide +kernel) (by decide +kernel) ?_
  refine jc_aload_n g (pc := 39) (n := 74) (t := 202) (i := 0) (by decide +kernel) rfl ?_
  refine jc_iconst g (pc := 40) (n := 74) (t := 202) (x := 0) (0) (by decide +kernel) rfl ?_
  refine jc_put g (pc := 41) (n := 74) (t := 202) (i := 73) f6_31 (fun q h => by cases h; rfl) (by decide) (by decide +kernel) (by decide +kernel) (by omega) (by decide +kernel) (by decide +kernel) ?_
  exact ret _ _ (by decide +kernel)
theorem cz_214 : Rc 2 mXc6 [.ref 214] 75 204 75 212 := by
  refine Rc.of [some (.ref 214)] (by decide) rfl rfl rfl (by decide) rfl ?_
  intro J g ret
  refine jc_aload_n g (pc := 0) (n := 75) (t := 204) (i := 0) (by decide +kernel) rfl ?_
  refine jc_obj g (pc := 1) (n := 75) (t := 204) (by omega) wo_6 wo_i wo_c (by decide) (by decide +kernel) ?_
  refine jc_aload_n g (pc := 4) (n := 75) (t := 204) (i := 0) (by decide +kernel) rfl ?_
  refine jc_iconst g (pc := 5) (n := 75) (t := 204) (x := 0) (0) (by decide +kernel) rfl ?_
  refine jc_put g (pc := 6) (n := 75) (t := 204) (i := 74) f6_7 (fun q h => by cases h; rfl) (by decide) (by decide +kernel) (by decide +kernel) (by omega) (by decide +kernel) (by decide +kernel) ?_
  refine jc_aload_n g (pc := 9) (n := 75) (t := 205) (i := 0) (by decide +kernel) rfl ?_
  refine jc_iconst g (pc := 10) (n := 75) (t := 205) (x := 0) (0) (by decide +kernel) rfl ?_
  refine jc_put g (pc := 11) (n := 75) (t := 205) (i := 74) f6_13 (fun q h => by cases h; rfl) (by decide) (by decide +kernel) (by decide +kernel) (by omega) (by decide +kernel) (by decide +kernel) ?_
  refine jc_aload_n g (pc := 14) (n := 75) (t := 206) (i := 0) (by decide +kernel) rfl ?_
  refine jc_iconst g (pc := 15) (n := 75) (t := 206) (x := 0) (0) (by decide +kernel) rfl ?_
  refine jc_put g (pc := 16) (n := 75) (t := 206) (i := 74) f6_16 (fun q h => by cases h; rfl) (by decide) (by decide +kernel) (by decide +kernel) (by omega) (by decide +kernel) (by decide +kernel) ?_
  refine jc_aload_n g (pc := 19) (n := 75) (t := 207) (i := 0) (by decide +kernel) rfl ?_
  refine jc_iconst g (pc := 20) (n := 75) (t := 207) (x := 0) (0) (by decide +kernel) rfl ?_
  refine jc_put g (pc := 21) (n := 75) (t := 207) (i := 74) f6_19 (fun q h => by cases h; rfl) (by decide) (by decide +kernel) (by decide +kernel) (by omega) (by decide +kernel) (by decide +kernel) ?_
  refine jc_aload_n g (pc := 24) (n := 75) (t := 208) (i := 0) (by decide +kernel) rfl ?_
  refine jc_iconst g (pc := 25) (n := 75) (t := 208) (x := 0) (0) (by decide +kernel) rfl ?_
  refine jc_put g (pc := 26) (n := 75) (t := 208) (i := 74) f6_22 (fun q h => by cases h; rfl) (by decide) (by decide +kernel) (by decide +kernel) (by omega) (by decide +kernel) (by decide +kernel) ?_
  refine jc_aload_n g (pc := 29) (n := 75) (t := 209) (i := 0) (by decide +kernel) rfl ?_
  refine jc_iconst g (pc := 30) (n := 75) (t := 209) (x := 0) (0) (by decide +kernel) rfl ?_
  refine jc_put g (pc := 31) (n := 75) (t := 209) (i := 74) f6_25 (fun q h => by cases h; rfl) (by decide) (by decide +kernel) (by decide +kernel) (by omega) (by decide +kernel) (by decide +kernel) ?_
  refine jc_aload_n g (pc := 34) (n := 75) (t := 210) (i := 0) (by decide +kernel) rfl ?_
  refine jc_iconst g (pc := 35) (n := 75) (t := 210) (x := -1) (-1) (by decide +kernel) rfl ?_
  refine jc_put g (pc := 36) (n := 75) (t := 210) (i := 74) f6_28 (fun q h => by cases h; rfl) (by decide) (by decide +kernel) (by decide +kernel) (by omega) (by decide +kernel) (by decide +kernel) ?_
  refine jc_aload_n g (pc := 39) (n := 75) (t := 211) (i := 0) (by decide +kernel) rfl ?_
  refine jc_iconst g (pc := 40) (n := 75) (t := 211) (x := 0) (0) (by decide +kernel) rfl ?_
  refine jc_put g (pc := 41) (n := 75) (t := 211) (i := 74) f6_31 (fun q h => by cases h; rfl) (by decide) (by decide +kernel) (by decide +kernel) (by omega) (by decide +kernel) (by decide +kernel) ?_
  exact ret _ _ (by decide +kernel)
theorem cz_215 : Rc 2 mXc6 [.ref 215] 76 213 76 221 := by
  refine Rc.of [some (.ref 215)] (by decide) rfl rfl rfl (by decide) rfl ?_
  intro J g ret
  refine jc_aload_n g (pc := 0) (n := 76) (t := 213) (i := 0) (by decide +kernel) rfl ?_
  refine jc_obj g (pc := 1) (n := 76) (t := 213) (by omega) wo_6 wo_i wo_c (by decide) (by decide +kernel) ?_
  refine jc_aload_n g (pc := 4) (n := 76) (t := 213) (i := 0) (by decide +kernel) rfl ?_
  refine jc_iconst g (pc := 5) (n := 76) (t := 213) (x := 0) (0) (by decide +kernel) rfl ?_
  refine jc_put g (pc := 6) (n := 76) (t := 213) (i := 75) f6_7 (fun q h => by cases h; rfl) (by decide) (by decide +kernel) (by decide +kernel) (by omega) (by decide +kernel) (by decide +kernel) ?_
  refine jc_aload_n g (pc := 9) (n := 76) (t := 214) (i := 0) (by decide +kernel) rfl ?_
  refine jc_iconst g (pc := 10) (n := 76) (t := 214) (x := 0) (0) (by decide +kernel) rfl ?_
  refine jc_put g (pc := 11) (n := 76) (t := 214) (i := 75) f6_13 (fun q h => by cases h; rfl) (by decide) (by decide +kernel) (by decide +kernel) (by omega) (by decide +kernel) (by decide +kernel) ?_
  refine jc_aload_n g (pc := 14) (n := 76) (t := 215) (i := 0) (by decide +kernel) rfl ?_
  refine jc_iconst g (pc := 15) (n := 76) (t := 215) (x := 0) (0) (by decide +kernel) rfl ?_
  refine jc_put g (pc := 16) (n := 76) (t := 215) (i := 75) f6_16 (fun q h => by cases h; rfl) (by decide) (by decide +kernel) (by decide +kernel) (by omega) (by decide +kernel) (by decide +kernel) ?_
  refine jc_aload_n g (pc := 19) (n := 76) (t := 216) (i := 0) (by decide +kernel) rfl ?_
  refine jc_iconst g (pc := 20) (n := 76) (t := 216) (x := 0) (0) (by decide +kernel) rfl ?_
  refine jc_put g (pc := 21) (n := 76) (t := 216) (i := 75) f6_19 (fun q h => by cases h; rfl) (by decide) (by decide +kernel) (by decide +kernel) (by omega) (by decide +kernel) (by decide +kernel) ?_
  refine jc_aload_n g (pc := 24) (n := 76) (t := 217) (i := 0) (by decide +kernel) rfl ?_
  refine jc_iconst g (pc := 25) (n := 76) (t := 217) (x := 0) (0) (by decide +kernel) rfl ?_
  refine jc_put g (pc := 26) (n := 76) (t := 217) (i := 75) f6_22 (fun q h => by cases h; rfl) (by decide) (by decide +kernel) (by decide +kernel) (by omega) (by decide +kernel) (by decide +kernel) ?_
  refine jc_aload_n g (pc := 29) (n := 76) (t := 218) (i := 0) (by decide +kernel) rfl ?_
  refine jc_iconst g (pc := 30) (n := 76) (t := 218) (x := 0) (0) (by decide +kernel) rfl ?_
  refine jc_put g (pc := 31) (n := 76) (t := 218) (i := 75) f6_25 (fun q h => by cases h; rfl) (by decide) (by decide +kernel) (by decide +kernel) (by omega) (by decide +kernel) (by decide +kernel) ?_
  refine jc_aload_n g (pc := 34) (n := 76) (t := 219) (i := 0) (by decide +kernel) rfl ?_
  refine jc_iconst g (pc := 35) (n := 76) (t := 219) (x := -1) (-1) (by decide +kernel) rfl ?_
  refine jc_put g (pc := 36) (n := 76) (t := 219) (i := 75) f6_28 (fun q h => by cases h; rfl) (by decide) (by decide +kernel) (by decide +kernel) (by omega) (by decide +kernel) (by decide +kernel) ?_
  refine jc_aload_n g (pc := 39) (n := 76) (t := 220) (i := 0) (by decide +kernel) rfl ?_
  refine jc_iconst g (pc := 40) (n := 76) (t := 220) (x := 0) (0) (by decide +kernel) rfl ?_
  refine jc_put g (pc := 41) (n := 76) (t := 220) (i := 75) f6_31 (fun q h => by cases h; rfl) (by decide) (by decide +kernel) (by decide +kernel) (by omega) (by decide +kernel) (by decide +kernel) ?_
  exact ret _ _ (by decide +kernel)
theorem cz_200 : Rc 3 mXc5 [.ref 200] 59 146 76 222 := by
  refine Rc.of [some (.ref 200), none] (by decide) rfl rfl rfl (by decide) rfl ?_
  intro J g ret
  refine jc_aload_n g (pc := 0) (n := 59) (t := 146) (i := 0) (by decide +kernel) rfl ?_
  refine jc_obj g (pc := 1) (n := 59) (t := 146) (by omega) wo_5 wo_i wo_c (by decide) (by decide +kernel) ?_
  refine jc_aload_n g (pc := 4) (n := 59) (t := 146) (i := 0) (by decide +kernel) rfl ?_
  refine jc_iconst g (pc := 5) (n := 59) (t := 146) (x := 0) (0) (by decide +kernel) rfl ?_
  refine jc_put g (pc := 6) (n := 59) (t := 146) (i := 58) f5_9 (fun q h => by cases h; rfl) (by decide) (by decide +kernel) (by decide +kernel) (by omega) (by decide +kernel) (by decide +kernel) ?_
  refine jc_aload_n g (pc := 9) (n := 59) (t := 147) (i := 0) (by decide +kernel) rfl ?_
  refine jc_iconst g (pc := 10) (n := 59) (t := 147) (x := 0) (0) (by decide +kernel) rfl ?_
  refine jc_put g (pc := 11) (n := 59) (t := 147) (i := 58) f5_15 (fun q h => by cases h; rfl) (by decide) (by decide +kernel) (by decide +kernel) (by omega) (by decide +kernel) (by decide +kernel) ?_
  refine jc_aload_n g (pc := 14) (n := 59) (t := 148) (i := 0) (by decide +kernel) rfl ?_
  refine jc_iconst g (pc := 15) (n := 59) (t := 148) (x := 0) (0) (by decide +kernel) rfl ?_
  refine jc_put g (pc := 16) (n := 59) (t := 148) (i := 58) f5_18 (fun q h => by cases h; rfl) (by decide) (by decide +kernel) (by decide +kernel) (by omega) (by decide +kernel) (by decide +kernel) ?_
  refine jc_aload_n g (pc := 19) (n := 59) (t := 149) (i := 0) (by decide +kernel) rfl ?_
  refine jc_iconst g (pc := 20) (n := 59) (t := 149) (x := 0) (0) (by decide +kernel) rfl ?_
  refine jc_put g (pc := 21) (n := 59) (t := 149) (i := 58) f5_21 (fun q h => by cases h; rfl) (by decide) (by decide +kernel) (by decide +kernel) (by omega) (by decide +kernel) (by decide +kernel) ?_
  refine jc_aload_n g (pc := 24) (n := 59) (t := 150) (i := 0) (by decide +kernel) rfl ?_
  refine jc_iconst g (pc := 25) (n := 59) (t := 150) (x := 3) (3) (by decide +kernel) rfl ?_
  refine jc_newaI g (pc := 26) (n := 59) (t := 150) (a := 201) (N := 3) (by decide +kernel) (by decide) (by decide) (by omega) (by omega) (by omega) (by decide +kernel) wa_i (by decide +kernel) ?_
  refine jc_put g (pc := 28) (n := 60) (t := 150) (i := 58) f5_24 (fun q h => by cases h; rfl) (by decide) (by decide +kernel) (by decide +kernel) (by omega) (by decide +kernel) (by decide +kernel) ?_
  refine jc_aload_n g (pc := 31) (n := 60) (t := 151) (i := 0) (by decide +kernel) rfl ?_
  refine jc_bipush g (pc := 32) (n := 60) (t := 151) (x := 6) (6) (by decide +kernel) (by decide +kernel) ?_
  refine jc_newaI g (pc := 34) (n := 60) (t := 151) (a := 202) (N := 6) (by decide +kernel) (by decide) (by decide) (by omega) (by omega) (by omega) (by decide +kernel) wa_i (by decide +kernel) ?_
  refine jc_put g (pc := 36) (n := 61) (t := 151) (i := 58) f5_28 (fun q h => by cases h; rfl) (by decide) (by decide +kernel) (by decide +kernel) (by omega) (by decide +kernel) (by decide +kernel) ?_
  refine jc_aload_n g (pc := 39) (n := 61) (t := 152) (i := 0) (by decide +kernel) rfl ?_
  refine jc_bipush g (pc := 40) (n := 61) (t := 152) (x := 6) (6) (by decide +kernel) (by decide +kernel) ?_
  refine jc_anewW g (pc := 42) (n := 61) (t := 152) (a := 203) (N := 6) (by decide +kernel) (by decide) (by decide) (by omega) (by omega) (by omega) (by decide +kernel) wk_5_31 (by decide +kernel) ?_
  refine jc_put g (pc := 45) (n := 62) (t := 152) (i := 58) f5_33 (fun q h => by cases h; rfl) (by decide) (by decide +kernel) (by decide +kernel) (by omega) (by decide +kernel) (by decide +kernel) ?_
  refine jc_aload_n g (pc := 48) (n := 62) (t := 153) (i := 0) (by decide +kernel) rfl ?_
  refine jc_iconst g (pc := 49) (n := 62) (t := 153) (x := 4) (4) (by decide +kernel) rfl ?_
  refine jc_newaI g (pc := 50) (n := 62) (t := 153) (a := 204) (N := 4) (by decide +kernel) (by decide) (by decide) (by omega) (by omega) (by omega) (by decide +kernel) wa_i (by decide +kernel) ?_
  refine jc_dup g (pc := 52) (n := 63) (t := 153) (by decide +kernel) rfl ?_
  refine jc_iconst g (pc := 53) (n := 63) (t := 153) (x := 0) (0) (by decide +kernel) rfl ?_
  refine jc_iconst g (pc := 54) (n := 63) (t := 153) (x := 0) (0) (by decide +kernel) rfl ?_
  refine jc_iast g (pc := 55) (n := 63) (t := 153) (i := 62) (N := 4) (by decide +kernel) (by omega) (by decide +kernel) (by rw [vin_iff]; decide +kernel) (by decide +kernel) ?_
  refine jc_dup g (pc := 56) (n := 63) (t := 154) (by decide +kernel) rfl ?_
  refine jc_iconst g (pc := 57) (n := 63) (t := 154) (x := 1) (1) (by decide +kernel) rfl ?_
  refine jc_iconst g (pc := 58) (n := 63) (t := 154) (x := 1) (1) (by decide +kernel) rfl ?_
  refine jc_iast g (pc := 59) (n := 63) (t := 154) (i := 62) (N := 4) (by decide +kernel) (by omega) (by decide +kernel) (by rw [vin_iff]; decide +kernel) (by decide +kernel) ?_
  refine jc_dup g (pc := 60) (n := 63) (t := 155) (by decide +kernel) rfl ?_
  refine jc_iconst g (pc := 61) (n := 63) (t := 155) (x := 2) (2) (by decide +kernel) rfl ?_
  refine jc_iconst g (pc := 62) (n := 63) (t := 155) (x := 5) (5) (by decide +kernel) rfl ?_
  refine jc_iast g (pc := 63) (n := 63) (t := 155) (i := 62) (N := 4) (by decide +kernel) (by omega) (by decide +kernel) (by rw [vin_iff]; decide +kernel) (by decide +kernel) ?_
  refine jc_dup g (pc := 64) (n := 63) (t := 156) (by decide +kernel) rfl ?_
  refine jc_iconst g (pc := 65) (n := 63) (t := 156) (x := 3) (3) (by decide +kernel) rfl ?_
  refine jc_iconst g (pc := 66) (n := 63) (t := 156) (x := 3) (3) (by decide +kernel) rfl ?_
  refine jc_iast g (pc := 67) (n := 63) (t := 156) (i := 62) (N := 4) (by decide +kernel) (by omega) (by decide +kernel) (by rw [vin_iff]; decide +kernel) (by decide +kernel) ?_
  refine jc_put g (pc := 68) (n := 63) (t := 157) (i := 58) f5_37 (fun q h => by cases h; rfl) (by decide) (by decide +kernel) (by decide +kernel) (by omega) (by decide +kernel) (by decide +kernel) ?_
  refine jc_aload_n g (pc := 71) (n := 63) (t := 158) (i := 0) (by decide +kernel) rfl ?_
  refine jc_iconst g (pc := 72) (n := 63) (t := 158) (x := 4) (4) (by decide +kernel) rfl ?_
  refine jc_newaI g (pc := 73) (n := 63) (t := 158) (a := 205) (N := 4) (by decide +kernel) (by decide) (by decide) (by omega) (by omega) (by omega) (by decide +kernel) wa_i (by decide +kernel) ?_
  refine jc_put g (pc := 75) (n := 64) (t := 158) (i := 58) f5_40 (fun q h => by cases h; rfl) (by decide) (by decide +kernel) (by decide +kernel) (by omega) (by decide +kernel) (by decide +kernel) ?_
  refine jc_aload_n g (pc := 78) (n := 64) (t := 159) (i := 0) (by decide +kernel) rfl ?_
  refine jc_iconst g (pc := 79) (n := 64) (t := 159) (x := 4) (4) (by decide +kernel) rfl ?_
  refine jc_newaI g (pc := 80) (n := 64) (t := 159) (a := 206) (N := 4) (by decide +kernel) (by decide) (by decide) (by omega) (by omega) (by omega) (by decide +kernel) wa_i (by decide +kernel) ?_
  refine jc_put g (pc := 82) (n := 65) (t := 159) (i := 58) f5_43 (fun q h => by cases h; rfl) (by decide) (by decide +kernel) (by decide +kernel) (by omega) (by decide +kernel) (by decide +kernel) ?_
  refine jc_aload_n g (pc := 85) (n := 65) (t := 160) (i := 0) (by decide +kernel) rfl ?_
  refine jc_new g (pc := 86) (n := 65) (t := 160) (ci := 3) (a := 1010) rfl (by decide +kernel) (by omega) (by omega) (by decide +kernel) wk_5_46 wn_3 wz_3 (by decide +kernel) ?_
  refine jc_dup g (pc := 89) (n := 66) (t := 160) (by decide +kernel) rfl ?_
  refine jc_callN g (pc := 90) (n := 66) (t := 160) (As := []) cz_1010 wm_5_48 cb_3 (by omega) (by omega) (by omega) rfl (by decide +kernel) (by decide +kernel) (by decide) (by decide +kernel) ?_
  refine jc_put g (pc := 93) (n := 70) (t := 167) (i := 58) f5_49 (fun q h => by cases h; rfl) (by decide) (by decide +kernel) (by decide +kernel) (by omega) (by decide +kernel) (by decide +kernel) ?_
  refine jc_iconst g (pc := 96) (n := 70) (t := 168) (x := 0) (0) (by decide +kernel) rfl ?_
  refine jc_istore_n g (pc := 97) (n := 70) (t := 168) (i := 1) (by decide +kernel) (by decide) ?_
  dsimp only [stL, clL, hdL]
  refine jc_iload_n g (pc := 98) (n := 70) (t := 168) (i := 1) (by decide +kernel) rfl ?_
  refine jc_bipush g (pc := 99) (n := 70) (t := 168) (x := 6) (6) (by decide +kernel) (by decide +kernel) ?_
  refine jc_ge_f g (pc := 101) (n := 70) (t := 168) (off := 22) (tgt := 123) (by decide +kernel) (by decide) (by decide) ?_
  refine jc_aload_n g (pc := 104) (n := 70) (t := 168) (i := 0) (by decide +kernel) rfl ?_
  refine jc_get g (pc := 105) (n := 70) (t := 168) (i := 58) (b := 203) f5_33 (by decide +kernel) (by omega) (by decide +kernel) (by decide +kernel) ?_
  refine jc_iload_n g (pc := 108) (n := 70) (t := 168) (i := 1) (by decide +kernel) rfl ?_
  refine jc_new g (pc := 109) (n := 70) (t := 168) (ci := 6) (a := 210) rfl (by decide +kernel) (by omega) (by omega) (by decide +kernel) wk_5_31 wn_6 wz_6 (by decide +kernel) ?_
  refine jc_dup g (pc := 112) (n := 71) (t := 168) (by decide +kernel) rfl ?_
  refine jc_callN g (pc := 113) (n := 71) (t := 168) (As := []) cz_210 wm_5_53 cb_6 (by omega) (by omega) (by omega) rfl (by decide +kernel) (by decide +kernel) (by decide) (by decide +kernel) ?_
  refine jc_aastW g (pc := 116) (n := 71) (t := 176) (i := 61) (N := 6) (i2 := 70) (by decide +kernel) (by omega) (by decide +kernel) (by omega) (by decide +kernel) (by rw [vin_iff]; decide +kernel) (by decide +kernel) ?_
  refine jc_iinc g (pc := 117) (n := 71) (t := 177) (i := 1) (z := 1) (1) (by decide +kernel) rfl (by decide) rfl ?_
  dsimp only [stL, clL, hdL]
  refine jc_goto g (pc := 120) (n := 71) (t := 177) (off := -22) (tgt := 98) (by decide +kernel) (by decide) ?_
  refine jc_iload_n g (pc := 98) (n := 71) (t := 177) (i := 1) (by decide +kernel) rfl ?_
  refine jc_bipush g (pc := 99) (n := 71) (t := 177) (x := 6) (6) (by decide +kernel) (by decide +kernel) ?_
  refine jc_ge_f g (pc := 101) (n := 71) (t := 177) (off := 22) (tgt := 123) (by decide +kernel) (by decide) (by decide) ?_
  refine jc_aload_n g (pc := 104) (n := 71) (t := 177) (i := 0) (by decide +kernel) rfl ?_
  refine jc_get g (pc := 105) (n := 71) (t := 177) (i := 58) (b := 203) f5_33 (by decide +kernel) (by omega) (by decide +kernel) (by decide +kernel) ?_
  refine jc_iload_n g (pc := 108) (n := 71) (t := 177) (i := 1) (by decide +kernel) rfl ?_
  refine jc_new g (pc := 109) (n := 71) (t := 177) (ci := 6) (a := 211) rfl (by decide +kernel) (by omega) (by omega) (by decide +kernel) wk_5_31 wn_6 wz_6 (by decide +kernel) ?_
  refine jc_dup g (pc := 112) (n := 72) (t := 177) (by decide +kernel) rfl ?_
  refine jc_callN g (pc := 113) (n := 72) (t := 177) (As := []) cz_211 wm_5_53 cb_6 (by omega) (by omega) (by omega) rfl (by decide +kernel) (by decide +kernel) (by decide) (by decide +kernel) ?_
  refine jc_aastW g (pc := 116) (n := 72) (t := 185) (i := 61) (N := 6) (i2 := 71) (by decide +kernel) (by omega) (by decide +kernel) (by omega) (by decide +kernel) (by rw [vin_iff]; decide +kernel) (by decide +kernel) ?_
  refine jc_iinc g (pc := 117) (n := 72) (t := 186) (i := 1) (z := 1) (1) (by decide +kernel) rfl (by decide) rfl ?_
  dsimp only [stL, clL, hdL]
  refine jc_goto g (pc := 120) (n := 72) (t := 186) (off := -22) (tgt := 98) (by decide +kernel) (by decide) ?_
  refine jc_iload_n g (pc := 98) (n := 72) (t := 186) (i := 1) (by decide +kernel) rfl ?_
  refine jc_bipush g (pc := 99) (n := 72) (t := 186) (x := 6) (6) (by decide +kernel) (by decide +kernel) ?_
  refine jc_ge_f g (pc := 101) (n := 72) (t := 186) (off := 22) (tgt := 123) (by decide +kernel) (by decide) (by decide) ?_
  refine jc_aload_n g (pc := 104) (n := 72) (t := 186) (i := 0) (by decide +kernel) rfl ?_
  refine jc_get g (pc := 105) (n := 72) (t := 186) (i := 58) (b := 203) f5_33 (by decide +kernel) (by omega) (by decide +kernel) (by decide +kernel) ?_
  refine jc_iload_n g (pc := 108) (n := 72) (t := 186) (i := 1) (by decide +kernel) rfl ?_
  refine jc_new g (pc := 109) (n := 72) (t := 186) (ci := 6) (a := 212) rfl (by decide +kernel) (by omega) (by omega) (by decide +kernel) wk_5_31 wn_6 wz_6 (by decide +kernel) ?_
  refine jc_dup g (pc := 112) (n := 73) (t := 186) (by decide +kernel) rfl ?_
  refine jc_callN g (pc := 113) (n := 73) (t := 186) (As := []) cz_212 wm_5_53 cb_6 (by omega) (by omega) (by omega) rfl (by decide +kernel) (by decide +kernel) (by decide) (by decide +kernel) ?_
  refine jc_aastW g (pc := 116) (n := 73) (t := 194) (i := 61) (N := 6) (i2 := 72) (by decide +kernel) (by omega) (by decide +kernel) (by omega) (by decide +kernel) (by rw [vin_iff]; decide +kernel) (by decide +kernel) ?_
  refine jc_iinc g (pc := 117) (n := 73) (t := 195) (i := 1) (z := 1) (1) (by decide +kernel) rfl (by decide) rfl ?_
  dsimp only [stL, clL, hdL]
  refine jc_goto g (pc := 120) (n := 73) (t := 195) (off := -22) (tgt := 98) (by decide +kernel) (by decide) ?_
  refine jc_iload_n g (pc := 98) (n := 73) (t := 195) (i := 1) (by decide +kernel) rfl ?_
  refine jc_bipush g (pc := 99) (n := 73) (t := 195) (x := 6) (6) (by decide +kernel) (by decide +kernel) ?_
  refine jc_ge_f g (pc := 101) (n := 73) (t := 195) (off := 22) (tgt := 123) (by decide +kernel) (by decide) (by decide) ?_
  refine jc_aload_n g (pc := 104) (n := 73) (t := 195) (i := 0) (by decide +kernel) rfl ?_
  refine jc_get g (pc := 105) (n := 73) (t := 195) (i := 58) (b := 203) f5_33 (by decide +kernel) (by omega) (by decide +kernel) (by decide +kernel) ?_
  refine jc_iload_n g (pc := 108) (n := 73) (t := 195) (i := 1) (by decide +kernel) rfl ?_
  refine jc_new g (pc := 109) (n := 73) (t := 195) (ci := 6) (a := 213) rfl (by decide +kernel) (by omega) (by omega) (by decide +kernel) wk_5_31 wn_6 wz_6 (by decide +kernel) ?_
  refine jc_dup g (pc := 112) (n := 74) (t := 195) (by decide +kernel) rfl ?_
  refine jc_callN g (pc := 113) (n := 74) (t := 195) (As := []) cz_213 wm_5_53 cb_6 (by omega) (by omega) (by omega) rfl (by decide +kernel) (by decide +kernel) (by decide) (by decide +kernel) ?_
  refine jc_aastW g (pc := 116) (n := 74) (t := 203) (i := 61) (N := 6) (i2 := 73) (by decide +kernel) (by omega) (by decide +kernel) (by omega) (by decide +kernel) (by rw [vin_iff]; decide +kernel) (by decide +kernel) ?_
  refine jc_iinc g (pc := 117) (n := 74) (t := 204) (i := 1) (z := 1) (1) (by decide +kernel) rfl (by decide) rfl ?_
  dsimp only [stL, clL, hdL]
  refine jc_goto g (pc := 120) (n := 74) (t := 204) (off := -22) (tgt := 98) (by decide +kernel) (by decide) ?_
  refine jc_iload_n g (pc := 98) (n := 74) (t := 204) (i := 1) (by decide +kernel) rfl ?_
  refine jc_bipush g (pc := 99) (n := 74) (t := 204) (x := 6) (6) (by decide +kernel) (by decide +kernel) ?_
  refine jc_ge_f g (pc := 101) (n := 74) (t := 204) (off := 22) (tgt := 123) (by decide +kernel) (by decide) (by decide) ?_
  refine jc_aload_n g (pc := 104) (n := 74) (t := 204) (i := 0) (by decide +kernel) rfl ?_
  refine jc_get g (pc := 105) (n := 74) (t := 204) (i := 58) (b := 203) f5_33 (by decide +kernel) (by omega) (by decide +kernel) (by decide +kernel) ?_
  refine jc_iload_n g (pc := 108) (n := 74) (t := 204) (i := 1) (by decide +kernel) rfl ?_
  refine jc_new g (pc := 109) (n := 74) (t := 204) (ci := 6) (a := 214) rfl (by decide +kernel) (by omega) (by omega) (by decide +kernel) wk_5_31 wn_6 wz_6 (by decide +kernel) ?_
  refine jc_dup g (pc := 112) (n := 75) (t := 204) (by decide +kernel) rfl ?_
  refine jc_callN g (pc := 113) (n := 75) (t := 204) (As := []) cz_214 wm_5_53 cb_6 (by omega) (by omega) (by omega) rfl (by decide +kernel) (by decide +kernel) (by decide) (by decide +kernel) ?_
  refine jc_aastW g (pc := 116) (n := 75) (t := 212) (i := 61) (N := 6) (i2 := 74) (by decide +kernel) (by omega) (by decide +kernel) (by omega) (by decide +kernel) (by rw [vin_iff]; decide +kernel) (by decide +kernel) ?_
  refine jc_iinc g (pc := 117) (n := 75) (t := 213) (i := 1) (z := 1) (1) (by decide +kernel) rfl (by decide) rfl ?_
  dsimp only [stL, clL, hdL]
  refine jc_goto g (pc := 120) (n := 75) (t := 213) (off := -22) (tgt := 98) (by decide +kernel) (by decide) ?_
  refine jc_iload_n g (pc := 98) (n := 75) (t := 213) (i := 1) (by decide +kernel) rfl ?_
  refine jc_bipush g (pc := 99) (n := 75) (t := 213) (x := 6) (6) (by decide +kernel) (by decide +kernel) ?_
  refine jc_ge_f g (pc := 101) (n := 75) (t := 213) (off := 22) (tgt := 123) (by decide +kernel) (by decide) (by decide) ?_
  refine jc_aload_n g (pc := 104) (n := 75) (t := 213) (i := 0) (by decide +kernel) rfl ?_
  refine jc_get g (pc := 105) (n := 75) (t := 213) (i := 58) (b := 203) f5_33 (by decide +kernel) (by omega) (by decide +kernel) (by decide +kernel) ?_
  refine jc_iload_n g (pc := 108) (n := 75) (t := 213) (i := 1) (by decide +kernel) rfl ?_
  refine jc_new g (pc := 109) (n := 75) (t := 213) (ci := 6) (a := 215) rfl (by decide +kernel) (by omega) (by omega) (by decide +kernel) wk_5_31 wn_6 wz_6 (by decide +kernel) ?_
  refine jc_dup g (pc := 112) (n := 76) (t := 213) (by decide +kernel) rfl ?_
  refine jc_callN g (pc := 113) (n := 76) (t := 213) (As := []) cz_215 wm_5_53 cb_6 (by omega) (by omega) (by omega) rfl (by decide +kernel) (by decide +kernel) (by decide) (by decide +kernel) ?_
  refine jc_aastW g (pc := 116) (n := 76) (t := 221) (i := 61) (N := 6) (i2 := 75) (by decide +kernel) (by omega) (by decide +kernel) (by omega) (by decide +kernel) (by rw [vin_iff]; decide +kernel) (by decide +kernel) ?_
  refine jc_iinc g (pc := 117) (n := 76) (t := 222) (i := 1) (z := 1) (1) (by decide +kernel) rfl (by decide) rfl ?_
  dsimp only [stL, clL, hdL]
  refine jc_goto g (pc := 120) (n := 76) (t := 222) (off := -22) (tgt := 98) (by decide +kernel) (by decide) ?_
  refine jc_iload_n g (pc := 98) (n := 76) (t := 222) (i := 1) (by decide +kernel) rfl ?_
  refine jc_bipush g (pc := 99) (n := 76) (t := 222) (x := 6) (6) (by decide +kernel) (by decide +kernel) ?_
  refine jc_ge_t g (pc := 101) (n := 76) (t := 222) (off := 22) (tgt := 123) (by decide +kernel) (by decide) (by decide) ?_
  exact ret _ _ (by decide +kernel)
theorem cz_1020 : Rc 2 mXc3 [.ref 1020] 84 237 88 244 := by
  refine Rc.of [some (.ref 1020)] (by decide) rfl rfl rfl (by decide) rfl ?_
  intro J g ret
  refine jc_aload_n g (pc := 0) (n := 84) (t := 237) (i := 0) (by decide +kernel) rfl ?_
  refine jc_obj g (pc := 1) (n := 84) (t := 237) (by omega) wo_3 wo_i wo_c (by decide) (by decide +kernel) ?_
  refine jc_aload_n g (pc := 4) (n := 84) (t := 237) (i := 0) (by decide +kernel) rfl ?_
  refine jc_iconst g (pc := 5) (n := 84) (t := 237) (x := 3) (3) (by decide +kernel) rfl ?_
  refine jc_newaI g (pc := 6) (n := 84) (t := 237) (a := 1021) (N := 3) (by decide +kernel) (by decide) (by decide) (by omega) (by omega) (by omega) (by decide +kernel) wa_i (by decide +kernel) ?_
  refine jc_put g (pc := 8) (n := 85) (t := 237) (i := 83) f3_9 (fun q h => by cases h; rfl) (by decide) (by decide +kernel) (by decide +kernel) (by omega) (by decide +kernel) (by decide +kernel) ?_
  refine jc_aload_n g (pc := 11) (n := 85) (t := 238) (i := 0) (by decide +kernel) rfl ?_
  refine jc_bipush g (pc := 12) (n := 85) (t := 238) (x := 6) (6) (by decide +kernel) (by decide +kernel) ?_
  refine jc_newaI g (pc := 14) (n := 85) (t := 238) (a := 1022) (N := 6) (by decide +kernel) (by decide) (by decide) (by omega) (by omega) (by omega) (by decide +kernel) wa_i (by decide +kernel) ?_
  refine jc_put g (pc := 16) (n := 86) (t := 238) (i := 83) f3_15 (fun q h => by cases h; rfl) (by decide) (by decide +kernel) (by decide +kernel) (by omega) (by decide +kernel) (by decide +kernel) ?_
  refine jc_aload_n g (pc := 19) (n := 86) (t := 239) (i := 0) (by decide +kernel) rfl ?_
  refine jc_bipush g (pc := 20) (n := 86) (t := 239) (x := 6) (6) (by decide +kernel) (by decide +kernel) ?_
  refine jc_newaI g (pc := 22) (n := 86) (t := 239) (a := 1023) (N := 6) (by decide +kernel) (by decide) (by decide) (by omega) (by omega) (by omega) (by decide +kernel) wa_i (by decide +kernel) ?_
  refine jc_put g (pc := 24) (n := 87) (t := 239) (i := 83) f3_18 (fun q h => by cases h; rfl) (by decide) (by decide +kernel) (by decide +kernel) (by omega) (by decide +kernel) (by decide +kernel) ?_
  refine jc_aload_n g (pc := 27) (n := 87) (t := 240) (i := 0) (by decide +kernel) rfl ?_
  refine jc_bipush g (pc := 28) (n := 87) (t := 240) (x := 6) (6) (by decide +kernel) (by decide +kernel) ?_
  refine jc_newaI g (pc := 30) (n := 87) (t := 240) (a := 1024) (N := 6) (by decide +kernel) (by decide) (by decide) (by omega) (by omega) (by omega) (by decide +kernel) wa_i (by decide +kernel) ?_
  refine jc_put g (pc := 32) (n := 88) (t := 240) (i := 83) f3_21 (fun q h => by cases h; rfl) (by decide) (by decide +kernel) (by decide +kernel) (by omega) (by decide +kernel) (by decide +kernel) ?_
  refine jc_aload_n g (pc := 35) (n := 88) (t := 241) (i := 0) (by decide +kernel) rfl ?_
  refine jc_iconst g (pc := 36) (n := 88) (t := 241) (x := 0) (0) (by decide +kernel) rfl ?_
  refine jc_put g (pc := 37) (n := 88) (t := 241) (i := 83) f3_24 (fun q h => by cases h; rfl) (by decide) (by decide +kernel) (by decide +kernel) (by omega) (by decide +kernel) (by decide +kernel) ?_
  refine jc_aload_n g (pc := 40) (n := 88) (t := 242) (i := 0) (by decide +kernel) rfl ?_
  refine jc_iconst g (pc := 41) (n := 88) (t := 242) (x := 0) (0) (by decide +kernel) rfl ?_
  refine jc_put g (pc := 42) (n := 88) (t := 242) (i := 83) f3_28 (fun q h => by cases h; rfl) (by decide) (by decide +kernel) (by decide +kernel) (by omega) (by decide +kernel) (by decide +kernel) ?_
  refine jc_aload_n g (pc := 45) (n := 88) (t := 243) (i := 0) (by decide +kernel) rfl ?_
  refine jc_iconst g (pc := 46) (n := 88) (t := 243) (x := 0) (0) (by decide +kernel) rfl ?_
  refine jc_put g (pc := 47) (n := 88) (t := 243) (i := 83) f3_31 (fun q h => by cases h; rfl) (by decide) (by decide +kernel) (by decide +kernel) (by omega) (by decide +kernel) (by decide +kernel) ?_
  exact ret _ _ (by decide +kernel)
theorem cz_310 : Rc 2 mXc6 [.ref 310] 89 245 89 253 := by
  refine Rc.of [some (.ref 310)] (by decide) rfl rfl rfl (by decide) rfl ?_
  intro J g ret
  refine jc_aload_n g (pc := 0) (n := 89) (t := 245) (i := 0) (by decide +kernel) rfl ?_
  refine jc_obj g (pc := 1) (n := 89) (t := 245) (by omega) wo_6 wo_i wo_c (by decide) (by decide +kernel) ?_
  refine jc_aload_n g (pc := 4) (n := 89) (t := 245) (i := 0) (by decide +kernel) rfl ?_
  refine jc_iconst g (pc := 5) (n := 89) (t := 245) (x := 0) (0) (by decide +kernel) rfl ?_
  refine jc_put g (pc := 6) (n := 89) (t := 245) (i := 88) f6_7 (fun q h => by cases h; rfl) (by decide) (by decide +kernel) (by decide +kernel) (by omega) (by decide +kernel) (by decide +kernel) ?_
  refine jc_aload_n g (pc := 9) (n := 89) (t := 246) (i := 0) (by decide +kernel) rfl ?_
  refine jc_iconst g (pc := 10) (n := 89) (t := 246) (x := 0) (0) (by decide +kernel) rfl ?_
  refine jc_put g (pc := 11) (n := 89) (t := 246) (i := 88) f6_13 (fun q h => by cases h; rfl) (by decide) (by decide +kernel) (by decide +kernel) (by omega) (by decide +kernel) (by decide +kernel) ?_
  refine jc_aload_n g (pc := 14) (n := 89) (t := 247) (i := 0) (by decide +kernel) rfl ?_
  refine jc_iconst g (pc := 15) (n := 89) (t := 247) (x := 0) (0) (by decide +kernel) rfl ?_
  refine jc_put g (pc := 16) (n := 89) (t := 247) (i := 88) f6_16 (fun q h => by cases h; rfl) (by decide) (by decide +kernel) (by decide +kernel) (by omega) (by decide +kernel) (by decide +kernel) ?_
  refine jc_aload_n g (pc := 19) (n := 89) (t := 248) (i := 0) (by decide +kernel) rfl ?_
  refine jc_iconst g (pc := 20) (n := 89) (t := 248) (x := 0) (0) (by decide +kernel) rfl ?_
  refine jc_put g (pc := 21) (n := 89) (t := 248) (i := 88) f6_19 (fun q h => by cases h; rfl) (by decide) (by decide +kernel) (by decide +kernel) (by omega) (by decide +kernel) (by decide +kernel) ?_
  refine jc_aload_n g (pc := 24) (n := 89) (t := 249) (i := 0) (by decide +kernel) rfl ?_
  refine jc_iconst g (pc := 25) (n := 89) (t := 249) (x := 0) (0) (by decide +kernel) rfl ?_
  refine jc_put g (pc := 26) (n := 89) (t := 249) (i := 88) f6_22 (fun q h => by cases h; rfl) (by decide) (by decide +kernel) (by decide +kernel) (by omega) (by decide +kernel) (by decide +kernel) ?_
  refine jc_aload_n g (pc := 29) (n := 89) (t := 250) (i := 0) (by decide +kernel) rfl ?_
  refine jc_iconst g (pc := 30) (n := 89) (t := 250) (x := 0) (0) (by decide +kernel) rfl ?_
  refine jc_put g (pc := 31) (n := 89) (t := 250) (i := 88) f6_25 (fun q h => by cases h; rfl) (by decide) (by decide +kernel) (by decide +kernel) (by omega) (by decide +kernel) (by decide +kernel) ?_
  refine jc_aload_n g (pc := 34) (n := 89) (t := 251) (i := 0) (by decide +kernel) rfl ?_
  refine jc_iconst g (pc := 35) (n := 89) (t := 251) (x := -1) (-1) (by decide +kernel) rfl ?_
  refine jc_put g (pc := 36) (n := 89) (t := 251) (i := 88) f6_28 (fun q h => by cases h; rfl) (by decide) (by decide +kernel) (by decide +kernel) (by omega) (by decide +kernel) (by decide +kernel) ?_
  refine jc_aload_n g (pc := 39) (n := 89) (t := 252) (i := 0) (by decide +kernel) rfl ?_
  refine jc_iconst g (pc := 40) (n := 89) (t := 252) (x := 0) (0) (by decide +kernel) rfl ?_
  refine jc_put g (pc := 41) (n := 89) (t := 252) (i := 88) f6_31 (fun q h => by cases h; rfl) (by decide) (by decide +kernel) (by decide +kernel) (by omega) (by decide +kernel) (by decide +kernel) ?_
  exact ret _ _ (by decide +kernel)
theorem cz_311 : Rc 2 mXc6 [.ref 311] 90 254 90 262 := by
  refine Rc.of [some (.ref 311)] (by decide) rfl rfl rfl (by decide) rfl ?_
  intro J g ret
  refine jc_aload_n g (pc := 0) (n := 90) (t := 254) (i := 0) (by decide +kernel) rfl ?_
  refine jc_obj g (pc := 1) (n := 90) (t := 254) (by omega) wo_6 wo_i wo_c (by decide) (by decide +kernel) ?_
  refine jc_aload_n g (pc := 4) (n := 90) (t := 254) (i := 0) (by decide +kernel) rfl ?_
  refine jc_iconst g (pc := 5) (n := 90) (t := 254) (x := 0) (0) (by decide +kernel) rfl ?_
  refine jc_put g (pc := 6) (n := 90) (t := 254) (i := 89) f6_7 (fun q h => by cases h; rfl) (by decide) (by decide +kernel) (by decide +kernel) (by omega) (by decide +kernel) (by decide +kernel) ?_
  refine jc_aload_n g (pc := 9) (n := 90) (t := 255) (i := 0) (by decide +kernel) rfl ?_
  refine jc_iconst g (pc := 10) (n := 90) (t := 255) (x := 0) (0) (by decide +kernel) rfl ?_
  refine jc_put g (pc := 11) (n := 90) (t := 255) (i := 89) f6_13 (fun q h => by cases h; rfl) (by decide) (by decide +kernel) (by decide +kernel) (by omega) (by decide +kernel) (by decide +kernel) ?_
  refine jc_aload_n g (pc := 14) (n := 90) (t := 256) (i := 0) (by decide +kernel) rfl ?_
  refine jc_iconst g (pc := 15) (n := 90) (t := 256) (x := 0) (0) (by decide +kernel) rfl ?_
  refine jc_put g (pc := 16) (n := 90) (t := 256) (i := 89) f6_16 (fun q h => by cases h; rfl) (by decide) (by decide +kernel) (by decide +kernel) (by omega) (by decide +kernel) (by decide +kernel) ?_
  refine jc_aload_n g (pc := 19) (n := 90) (t := 257) (i := 0) (by decide +kernel) rfl ?_
  refine jc_iconst g (pc := 20) (n := 90) (t := 257) (x := 0) (0) (by decide +kernel) rfl ?_
  refine jc_put g (pc := 21) (n := 90) (t := 257) (i := 89) f6_19 (fun q h => by cases h; rfl) (by decide) (by decide +kernel) (by decide +kernel) (by omega) (by decide +kernel) (by decide +kernel) ?_
  refine jc_aload_n g (pc := 24) (n := 90) (t := 258) (i := 0) (by decide +kernel) rfl ?_
  refine jc_iconst g (pc := 25) (n := 90) (t := 258) (x := 0) (0) (by decide +kernel) rfl ?_
  refine jc_put g (pc := 26) (n := 90) (t := 258) (i := 89) f6_22 (fun q h => by cases h; rfl) (by decide) (by decide +kernel) (by decide +kernel) (by omega) (by decide +kernel) (by decide +kernel) ?_
  refine jc_aload_n g (pc := 29) (n := 90) (t := 259) (i := 0) (by decide +kernel) rfl ?_
  refine jc_iconst g (pc := 30) (n := 90) (t := 259) (x := 0) (0) (by decide +kernel) rfl ?_
  refine jc_put g (pc := 31) (n := 90) (t := 259) (i := 89) f6_25 (fun q h => by cases h; rfl) (by decide) (by decide +kernel) (by decide +kernel) (by omega) (by decide +kernel) (by decide +kernel) ?_
  refine jc_aload_n g (pc := 34) (n := 90) (t := 260) (i := 0) (by decide +kernel) rfl ?_
  refine jc_iconst g (pc := 35) (n := 90) (t := 260) (x := -1) (-1) (by decide +kernel) rfl ?_
  refine jc_put g (pc := 36) (n := 90) (t := 260) (i := 89) f6_28 (fun q h => by cases h; rfl) (by decide) (by decide +kernel) (by decide +kernel) (by omega) (by decide +kernel) (by decide +kernel) ?_
  refine jc_aload_n g (pc := 39) (n := 90) (t := 261) (i := 0) (by decide +kernel) rfl ?_
  refine jc_iconst g (pc := 40) (n := 90) (t := 261) (x := 0) (0) (by decide +kernel) rfl ?_
  refine jc_put g (pc := 41) (n := 90) (t := 261) (i := 89) f6_31 (fun q h => by cases h; rfl) (by decide) (by decide +kernel) (by decide +kernel) (by omega) (by decide +kernel) (by decide +kernel) ?_
  exact ret _ _ (by decide +kernel)
theorem cz_312 : Rc 2 mXc6 [.ref 312] 91 263 91 271 := by
  refine Rc.of [some (.ref 312)] (by decide) rfl rfl rfl (by decide) rfl ?_
  intro J g ret
  refine jc_aload_n g (pc := 0) (n := 91) (t := 263) (i := 0) (by decide +kernel) rfl ?_
  refine jc_obj g (pc := 1) (n := 91) (t := 263) (by omega) wo_6 wo_i wo_c (by decide) (by decide +kernel) ?_
  refine jc_aload_n g (pc := 4) (n := 91) (t := 263) (i := 0) (by decide +kernel) rfl ?_
  refine jc_iconst g (pc := 5) (n := 91) (t := 263) (x := 0) (0) (by decide +kernel) rfl ?_
  refine jc_put g (pc := 6) (n := 91) (t := 263) (i := 90) f6_7 (fun q h => by cases h; rfl) (by decide) (by decide +kernel) (by decide +kernel) (by omega) (by decide +kernel) (by decide +kernel) ?_
  refine jc_aload_n g (pc := 9) (n := 91) (t := 264) (i := 0) (by decide +kernel) rfl ?_
  refine jc_iconst g (pc := 10) (n := 91) (t := 264) (x := 0) (0) (by decide +kernel) rfl ?_
  refine jc_put g (pc := 11) (n := 91) (t := 264) (i := 90) f6_13 (fun q h => by cases h; rfl) (by decide) (by decide +kernel) (by decide +kernel) (by omega) (by decide +kernel) (by decide +kernel) ?_
  refine jc_aload_n g (pc := 14) (n := 91) (t := 265) (i := 0) (by decide +kernel) rfl ?_
  refine jc_iconst g (pc := 15) (n := 91) (t := 265) (x := 0) (0) (by decide +kernel) rfl ?_
  refine jc_put g (pc := 16) (n := 91) (t := 265) (i := 90) f6_16 (fun q h => by cases h; rfl) (by decide) (by decide +kernel) (by decide +kernel) (by omega) (by decide +kernel) (by decide +kernel) ?_
  refine jc_aload_n g (pc := 19) (n := 91) (t := 266) (i := 0) (by decide +kernel) rfl ?_
  refine jc_iconst g (pc := 20) (n := 91) (t := 266) (x := 0) (0) (by decide +kernel) rfl ?_
  refine jc_put g (pc := 21) (n := 91) (t := 266) (i := 90) f6_19 (fun q h => by cases h; rfl) (by decide) (by decide +kernel) (by decide +kernel) (by omega) (by decide +kernel) (by decide +kernel) ?_
  refine jc_aload_n g (pc := 24) (n := 91) (t := 267) (i := 0) (by decide +kernel) rfl ?_
  refine jc_iconst g (pc := 25) (n := 91) (t := 267) (x := 0) (0) (by decide +kernel) rfl ?_
  refine jc_put g (pc := 26) (n := 91) (t := 267) (i := 90) f6_22 (fun q h => by cases h; rfl) (by decide) (by decide +kernel) (by decide +kernel) (by omega) (by decide +kernel) (by decide +kernel) ?_
  refine jc_aload_n g (pc := 29) (n := 91) (t := 268) (i := 0) (by decide +kernel) rfl ?_
  refine jc_iconst g (pc := 30) (n := 91) (t := 268) (x := 0) (0) (by decide +kernel) rfl ?_
  refine jc_put g (pc := 31) (n := 91) (t := 268) (i := 90) f6_25 (fun q h => by cases h; rfl) (by decide) (by decide +kernel) (by decide +kernel) (by omega) (by decide +kernel) (by decide +kernel) ?_
  refine jc_aload_n g (pc := 34) (n := 91) (t := 269) (i := 0) (by decide +kernel) rfl ?_
  refine jc_iconst g (pc := 35) (n := 91) (t := 269) (x := -1) (-1) (by decide +kernel) rfl ?_
  refine jc_put g (pc := 36) (n := 91) (t := 269) (i := 90) f6_28 (fun q h => by cases h; rfl) (by decide) (by decide +kernel) (by decide +kernel) (by omega) (by decide +kernel) (by decide +kernel) ?_
  refine jc_aload_n g (pc := 39) (n := 91) (t := 270) (i := 0) (by decide +kernel) rfl ?_
  refine jc_iconst g (pc := 40) (n := 91) (t := 270) (x := 0) (0) (by decide +kernel) rfl ?_
  refine jc_put g (pc := 41) (n := 91) (t := 270) (i := 90) f6_31 (fun q h => by cases h; rfl) (by decide) (by decide +kernel) (by decide +kernel) (by omega) (by decide +kernel) (by decide +kernel) ?_
  exact ret _ _ (by decide +kernel)
theorem cz_313 : Rc 2 mXc6 [.ref 313] 92 272 92 280 := by
  refine Rc.of [some (.ref 313)] (by decide) rfl rfl rfl (by decide) rfl ?_
  intro J g ret
  refine jc_aload_n g (pc := 0) (n := 92) (t := 272) (i := 0) (by decide +kernel) rfl ?_
  refine jc_obj g (pc := 1) (n := 92) (t := 272) (by omega) wo_6 wo_i wo_c (by decide) (by decide +kernel) ?_
  refine jc_aload_n g (pc := 4) (n := 92) (t := 272) (i := 0) (by decide +kernel) rfl ?_
  refine jc_iconst g (pc := 5) (n := 92) (t := 272) (x := 0) (0) (by decide +kernel) rfl ?_
  refine jc_put g (pc := 6) (n := 92) (t := 272) (i := 91) f6_7 (fun q h => by cases h; rfl) (by decide) (by decide +kernel) (by decide +kernel) (by omega) (by decide +kernel) (by decide +kernel) ?_
  refine jc_aload_n g (pc := 9) (n := 92) (t := 273) (i := 0) (by decide +kernel) rfl ?_
  refine jc_iconst g (pc := 10) (n := 92) (t := 273) (x := 0) (0) (by decide +kernel) rfl ?_
  refine jc_put g (pc := 11) (n := 92) (t := 273) (i := 91) f6_13 (fun q h => by cases h; rfl) (by decide) (by decide +kernel) (by decide +kernel) (by omega) (by decide +kernel) (by decide +kernel) ?_
  refine jc_aload_n g (pc := 14) (n := 92) (t := 274) (i := 0) (by decide +kernel) rfl ?_
  refine jc_iconst g (pc := 15) (n := 92) (t := 274) (x := 0) (0) (by decide +kernel) rfl ?_
  refine jc_put g (pc := 16) (n := 92) (t := 274) (i := 91) f6_16 (fun q h => by cases h; rfl) (by decide) (by decide +kernel) (by decide +kernel) (by omega) (by decide +kernel) (by decide +kernel) ?_
  refine jc_aload_n g (pc := 19) (n := 92) (t := 275) (i := 0) (by decide +kernel) rfl ?_
  refine jc_iconst g (pc := 20) (n := 92) (t := 275) (x := 0) (0) (by decide +kernel) rfl ?_
  refine jc_put g (pc := 21) (n := 92) (t := 275) (i := 91) f6_19 (fun q h => by cases h; rfl) (by decide) (by decide +kernel) (by decide +kernel) (by omega) (by decide +kernel) (by decide +kernel) ?_
  refine jc_aload_n g (pc := 24) (n := 92) (t := 276) (i := 0) (by decide +kernel) rfl ?_
  refine jc_iconst g (pc := 25) (n := 92) (t := 276) (x := 0) (0) (by decide +kernel) rfl ?_
  refine jc_put g (pc := 26) (n := 92) (t := 276) (i := 91) f6_22 (fun q h => by cases h; rfl) (by decide) (by decide +kernel) (by decide +kernel) (by omega) (by decide +kernel) (by decide +kernel) ?_
  refine jc_aload_n g (pc := 29) (n := 92) (t := 277) (i := 0) (by decide +kernel) rfl ?_
  refine jc_iconst g (pc := 30) (n := 92) (t := 277) (x := 0) (0) (by decide +kernel) rfl ?_
  refine jc_put g (pc := 31) (n := 92) (t := 277) (i := 91) f6_25 (fun q h => by cases h; rfl) (by decide) (by decide +kernel) (by decide +kernel) (by omega) (by decide +kernel) (by decide +kernel) ?_
  refine jc_aload_n g (pc := 34) (n := 92) (t := 278) (i := 0) (by decide +kernel) rfl ?_
  refine jc_iconst g (pc := 35) (n := 92) (t := 278) (x := -1) (-1) (by decide +kernel) rfl ?_
  refine jc_put g (pc := 36) (n := 92) (t := 278) (i := 91) f6_28 (fun q h => by cases h; rfl) (by decide) (by decide +kernel) (by decide +kernel) (by omega) (by decide +kernel) (by decide +kernel) ?_
  refine jc_aload_n g (pc := 39) (n := 92) (t := 279) (i := 0) (by decide +kernel) rfl ?_
  refine jc_iconst g (pc := 40) (n := 92) (t := 279) (x := 0) (0) (by decide +kernel) rfl ?_
  refine jc_put g (pc := 41) (n := 92) (t := 279) (i := 91) f6_31 (fun q h => by cases h; rfl) (by decide) (by decide +kernel) (by decide +kernel) (by omega) (by decide +kernel) (by decide +kernel) ?_
  exact ret _ _ (by decide +kernel)
theorem cz_314 : Rc 2 mXc6 [.ref 314] 93 281 93 289 := by
  refine Rc.of [some (.ref 314)] (by decide) rfl rfl rfl (by decide) rfl ?_
  intro J g ret
  refine jc_aload_n g (pc := 0) (n := 93) (t := 281) (i := 0) (by decide +kernel) rfl ?_
  refine jc_obj g (pc := 1) (n := 93) (t := 281) (by omega) wo_6 wo_i wo_c (by decide) (by decide +kernel) ?_
  refine jc_aload_n g (pc := 4) (n := 93) (t := 281) (i := 0) (by decide +kernel) rfl ?_
  refine jc_iconst g (pc := 5) (n := 93) (t := 281) (x := 0) (0) (by decide +kernel) rfl ?_
  refine jc_put g (pc := 6) (n := 93) (t := 281) (i := 92) f6_7 (fun q h => by cases h; rfl) (by decide) (by decide +kernel) (by decide +kernel) (by omega) (by decide +kernel) (by decide +kernel) ?_
  refine jc_aload_n g (pc := 9) (n := 93) (t := 282) (i := 0) (by decide +kernel) rfl ?_
  refine jc_iconst g (pc := 10) (n := 93) (t := 282) (x := 0) (0) (by decide +kernel) rfl ?_
  refine jc_put g (pc := 11) (n := 93) (t := 282) (i := 92) f6_13 (fun q h => by cases h; rfl) (by decide) (by decide +kernel) (by decide +kernel) (by omega) (by decide +kernel) (by decide +kernel) ?_
  refine jc_aload_n g (pc := 14) (n := 93) (t := 283) (i := 0) (by decide +kernel) rfl ?_
  refine jc_iconst g (pc := 15) (n := 93) (t := 283) (x := 0) (0) (by decide +kernel) rfl ?_
  refine jc_put g (pc := 16) (n := 93) (t := 283) (i := 92) f6_16 (fun q h => by cases h; rfl) (by decide) (by decide +kernel) (by decide +kernel) (by omega) (by decide +kernel) (by decide +kernel) ?_
  refine jc_aload_n g (pc := 19) (n := 93) (t := 284) (i := 0) (by decide +kernel) rfl ?_
  refine jc_iconst g (pc := 20) (n := 93) (t := 284) (x := 0) (0) (by decide +kernel) rfl ?_
  refine jc_put g (pc := 21) (n := 93) (t := 284) (i := 92) f6_19 (fun q h => by cases h; rfl) (by decide) (by decide +kernel) (by decide +kernel) (by omega) (by decide +kernel) (by decide +kernel) ?_
  refine jc_aload_n g (pc := 24) (n := 93) (t := 285) (i := 0) (by decide +kernel) rfl ?_
  refine jc_iconst g (pc := 25) (n := 93) (t := 285) (x := 0) (0) (by decide +kernel) rfl ?_
  refine jc_put g (pc := 26) (n := 93) (t := 285) (i := 92) f6_22 (fun q h => by cases h; rfl) (by decide) (by decide +kernel) (by decide +kernel) (by omega) (by decide +kernel) (by decide +kernel) ?_
  refine jc_aload_n g (pc := 29) (n := 93) (t := 286) (i := 0) (by decide +kernel) rfl ?_
  refine jc_iconst g (pc := 30) (n := 93) (t := 286) (x := 0) (0) (by decide +kernel) rfl ?_
  refine jc_put g (pc := 31) (n := 93) (t := 286) (i := 92) f6_25 (fun q h => by cases h; rfl) (by decide) (by decide +kernel) (by decide +kernel) (by omega) (by decide +kernel) (by decide +kernel) ?_
  refine jc_aload_n g (pc := 34) (n := 93) (t := 287) (i := 0) (by decide +kernel) rfl ?_
  refine jc_iconst g (pc := 35) (n := 93) (t := 287) (x := -1) (-1) (by decide +kernel) rfl ?_
  refine jc_put g (pc := 36) (n := 93) (t := 287) (i := 92) f6_28 (fun q h => by cases h; rfl) (by decide) (by decide +kernel) (by decide +kernel) (by omega) (by decide +kernel) (by decide +kernel) ?_
  refine jc_aload_n g (pc := 39) (n := 93) (t := 288) (i := 0) (by decide +kernel) rfl ?_
  refine jc_iconst g (pc := 40) (n := 93) (t := 288) (x := 0) (0) (by decide +kernel) rfl ?_
  refine jc_put g (pc := 41) (n := 93) (t := 288) (i := 92) f6_31 (fun q h => by cases h; rfl) (by decide) (by decide +kernel) (by decide +kernel) (by omega) (by decide +kernel) (by decide +kernel) ?_
  exact ret _ _ (by decide +kernel)
theorem cz_315 : Rc 2 mXc6 [.ref 315] 94 290 94 298 := by
  refine Rc.of [some (.ref 315)] (by decide) rfl rfl rfl (by decide) rfl ?_
  intro J g ret
  refine jc_aload_n g (pc := 0) (n := 94) (t := 290) (i := 0) (by decide +kernel) rfl ?_
  refine jc_obj g (pc := 1) (n := 94) (t := 290) (by omega) wo_6 wo_i wo_c (by decide) (by decide +kernel) ?_
  refine jc_aload_n g (pc := 4) (n := 94) (t := 290) (i := 0) (by decide +kernel) rfl ?_
  refine jc_iconst g (pc := 5) (n := 94) (t := 290) (x := 0) (0) (by decide +kernel) rfl ?_
  refine jc_put g (pc := 6) (n := 94) (t := 290) (i := 93) f6_7 (fun q h => by cases h; rfl) (by decide) (by decide +kernel) (by decide +kernel) (by omega) (by decide +kernel) (by decide +kernel) ?_
  refine jc_aload_n g (pc := 9) (n := 94) (t := 291) (i := 0) (by decide +kernel) rfl ?_
  refine jc_iconst g (pc := 10) (n := 94) (t := 291) (x := 0) (0) (by decide +kernel) rfl ?_
  refine jc_put g (pc := 11) (n := 94) (t := 291) (i := 93) f6_13 (fun q h => by cases h; rfl) (by decide) (by decide +kernel) (by decide +kernel) (by omega) (by decide +kernel) (by decide +kernel) ?_
  refine jc_aload_n g (pc := 14) (n := 94) (t := 292) (i := 0) (by decide +kernel) rfl ?_
  refine jc_iconst g (pc := 15) (n := 94) (t := 292) (x := 0) (0) (by decide +kernel) rfl ?_
  refine jc_put g (pc := 16) (n := 94) (t := 292) (i := 93) f6_16 (fun q h => by cases h; rfl) (by decide) (by decide +kernel) (by decide +kernel) (by omega) (by decide +kernel) (by decide +kernel) ?_
  refine jc_aload_n g (pc := 19) (n := 94) (t := 293) (i := 0) (by decide +kernel) rfl ?_
  refine jc_iconst g (pc := 20) (n := 94) (t := 293) (x := 0) (0) (by decide +kernel) rfl ?_
  refine jc_put g (pc := 21) (n := 94) (t := 293) (i := 93) f6_19 (fun q h => by cases h; rfl) (by decide) (by decide +kernel) (by decide +kernel) (by omega) (by decide +kernel) (by decide +kernel) ?_
  refine jc_aload_n g (pc := 24) (n := 94) (t := 294) (i := 0) (by decide +kernel) rfl ?_
  refine jc_iconst g (pc := 25) (n := 94) (t := 294) (x := 0) (0) (by decide +kernel) rfl ?_
  refine jc_put g (pc := 26) (n := 94) (t := 294) (i := 93) f6_22 (fun q h => by cases h; rfl) (by decide) (by decide +kernel) (by decide +kernel) (by omega) (by decide +kernel) (by decide +kernel) ?_
  refine jc_aload_n g (pc := 29) (n := 94) (t := 295) (i := 0) (by decide +kernel) rfl ?_
  refine jc_iconst g (pc := 30) (n := 94) (t := 295) (x := 0) (0) (by decide +kernel) rfl ?_
  refine jc_put g (pc := 31) (n := 94) (t := 295) (i := 93) f6_25 (fun q h => by cases h; rfl) (by decide) (by decide +kernel) (by decide +kernel) (by omega) (by decide +kernel) (by decide +kernel) ?_
  refine jc_aload_n g (pc := 34) (n := 94) (t := 296) (i := 0) (by decide +kernel) rfl ?_
  refine jc_iconst g (pc := 35) (n := 94) (t := 296) (x := -1) (-1) (by decide +kernel) rfl ?_
  refine jc_put g (pc := 36) (n := 94) (t := 296) (i := 93) f6_28 (fun q h => by cases h; rfl) (by decide) (by decide +kernel) (by decide +kernel) (by omega) (by decide +kernel) (by decide +kernel) ?_
  refine jc_aload_n g (pc := 39) (n := 94) (t := 297) (i := 0) (by decide +kernel) rfl ?_
  refine jc_iconst g (pc := 40) (n := 94) (t := 297) (x := 0) (0) (by decide +kernel) rfl ?_
  refine jc_put g (pc := 41) (n := 94) (t := 297) (i := 93) f6_31 (fun q h => by cases h; rfl) (by decide) (by decide +kernel) (by decide +kernel) (by omega) (by decide +kernel) (by decide +kernel) ?_
  exact ret _ _ (by decide +kernel)
theorem cz_300 : Rc 3 mXc5 [.ref 300] 77 223 94 299 := by
  refine Rc.of [some (.ref 300), none] (by decide) rfl rfl rfl (by decide) rfl ?_
  intro J g ret
  refine jc_aload_n g (pc := 0) (n := 77) (t := 223) (i := 0) (by decide +kernel) rfl ?_
  refine jc_obj g (pc := 1) (n := 77) (t := 223) (by omega) wo_5 wo_i wo_c (by decide) (by decide +kernel) ?_
  refine jc_aload_n g (pc := 4) (n := 77) (t := 223) (i := 0) (by decide +kernel) rfl ?_
  refine jc_iconst g (pc := 5) (n := 77) (t := 223) (x := 0) (0) (by decide +kernel) rfl ?_
  refine jc_put g (pc := 6) (n := 77) (t := 223) (i := 76) f5_9 (fun q h => by cases h; rfl) (by decide) (by decide +kernel) (by decide +kernel) (by omega) (by decide +kernel) (by decide +kernel) ?_
  refine jc_aload_n g (pc := 9) (n := 77) (t := 224) (i := 0) (by decide +kernel) rfl ?_
  refine jc_iconst g (pc := 10) (n := 77) (t := 224) (x := 0) (0) (by decide +kernel) rfl ?_
  refine jc_put g (pc := 11) (n := 77) (t := 224) (i := 76) f5_15 (fun q h => by cases h; rfl) (by decide) (by decide +kernel) (by decide +kernel) (by omega) (by decide +kernel) (by decide +kernel) ?_
  refine jc_aload_n g (pc := 14) (n := 77) (t := 225) (i := 0) (by decide +kernel) rfl ?_
  refine jc_iconst g (pc := 15) (n := 77) (t := 225) (x := 0) (0) (by decide +kernel) rfl ?_
  refine jc_put g (pc := 16) (n := 77) (t := 225) (i := 76) f5_18 (fun q h => by cases h; rfl) (by decide) (by decide +kernel) (by decide +kernel) (by omega) (by decide +kernel) (by decide +kernel) ?_
  refine jc_aload_n g (pc := 19) (n := 77) (t := 226) (i := 0) (by decide +kernel) rfl ?_
  refine jc_iconst g (pc := 20) (n := 77) (t := 226) (x := 0) (0) (by decide +kernel) rfl ?_
  refine jc_put g (pc := 21) (n := 77) (t := 226) (i := 76) f5_21 (fun q h => by cases h; rfl) (by decide) (by decide +kernel) (by decide +kernel) (by omega) (by decide +kernel) (by decide +kernel) ?_
  refine jc_aload_n g (pc := 24) (n := 77) (t := 227) (i := 0) (by decide +kernel) rfl ?_
  refine jc_iconst g (pc := 25) (n := 77) (t := 227) (x := 3) (3) (by decide +kernel) rfl ?_
  refine jc_newaI g (pc := 26) (n := 77) (t := 227) (a := 301) (N := 3) (by decide +kernel) (by decide) (by decide) (by omega) (by omega) (by omega) (by decide +kernel) wa_i (by decide +kernel) ?_
  refine jc_put g (pc := 28) (n := 78) (t := 227) (i := 76) f5_24 (fun q h => by cases h; rfl) (by decide) (by decide +kernel) (by decide +kernel) (by omega) (by decide +kernel) (by decide +kernel) ?_
  refine jc_aload_n g (pc := 31) (n := 78) (t := 228) (i := 0) (by decide +kernel) rfl ?_
  refine jc_bipush g (pc := 32) (n := 78) (t := 228) (x := 6) (6) (by decide +kernel) (by decide +kernel) ?_
  refine jc_newaI g (pc := 34) (n := 78) (t := 228) (a := 302) (N := 6) (by decide +kernel) (by decide) (by decide) (by omega) (by omega) (by omega) (by decide +kernel) wa_i (by decide +kernel) ?_
  refine jc_put g (pc := 36) (n := 79) (t := 228) (i := 76) f5_28 (fun q h => by cases h; rfl) (by decide) (by decide +kernel) (by decide +kernel) (by omega) (by decide +kernel) (by decide +kernel) ?_
  refine jc_aload_n g (pc := 39) (n := 79) (t := 229) (i := 0) (by decide +kernel) rfl ?_
  refine jc_bipush g (pc := 40) (n := 79) (t := 229) (x := 6) (6) (by decide +kernel) (by decide +kernel) ?_
  refine jc_anewW g (pc := 42) (n := 79) (t := 229) (a := 303) (N := 6) (by decide +kernel) (by decide) (by decide) (by omega) (by omega) (by omega) (by decide +kernel) wk_5_31 (by decide +kernel) ?_
  refine jc_put g (pc := 45) (n := 80) (t := 229) (i := 76) f5_33 (fun q h => by cases h; rfl) (by decide) (by decide +kernel) (by decide +kernel) (by omega) (by decide +kernel) (by decide +kernel) ?_
  refine jc_aload_n g (pc := 48) (n := 80) (t := 230) (i := 0) (by decide +kernel) rfl ?_
  refine jc_iconst g (pc := 49) (n := 80) (t := 230) (x := 4) (4) (by decide +kernel) rfl ?_
  refine jc_newaI g (pc := 50) (n := 80) (t := 230) (a := 304) (N := 4) (by decide +kernel) (by decide) (by decide) (by omega) (by omega) (by omega) (by decide +kernel) wa_i (by decide +kernel) ?_
  refine jc_dup g (pc := 52) (n := 81) (t := 230) (by decide +kernel) rfl ?_
  refine jc_iconst g (pc := 53) (n := 81) (t := 230) (x := 0) (0) (by decide +kernel) rfl ?_
  refine jc_iconst g (pc := 54) (n := 81) (t := 230) (x := 0) (0) (by decide +kernel) rfl ?_
  refine jc_iast g (pc := 55) (n := 81) (t := 230) (i := 80) (N := 4) (by decide +kernel) (by omega) (by decide +kernel) (by rw [vin_iff]; decide +kernel) (by decide +kernel) ?_
  refine jc_dup g (pc := 56) (n := 81) (t := 231) (by decide +kernel) rfl ?_
  refine jc_iconst g (pc := 57) (n := 81) (t := 231) (x := 1) (1) (by decide +kernel) rfl ?_
  refine jc_iconst g (pc := 58) (n := 81) (t := 231) (x := 1) (1) (by decide +kernel) rfl ?_
  refine jc_iast g (pc := 59) (n := 81) (t := 231) (i := 80) (N := 4) (by decide +kernel) (by omega) (by decide +kernel) (by rw [vin_iff]; decide +kernel) (by decide +kernel) ?_
  refine jc_dup g (pc := 60) (n := 81) (t := 232) (by decide +kernel) rfl ?_
  refine jc_iconst g (pc := 61) (n := 81) (t := 232) (x := 2) (2) (by decide +kernel) rfl ?_
  refine jc_iconst g (pc := 62) (n := 81) (t := 232) (x := 5) (5) (by decide +kernel) rfl ?_
  refine jc_iast g (pc := 63) (n := 81) (t := 232) (i := 80) (N := 4) (by decide +kernel) (by omega) (by decide +kernel) (by rw [vin_iff]; decide +kernel) (by decide +kernel) ?_
  refine jc_dup g (pc := 64) (n := 81) (t := 233) (by decide +kernel) rfl ?_
  refine jc_iconst g (pc := 65) (n := 81) (t := 233) (x := 3) (3) (by decide +kernel) rfl ?_
  refine jc_iconst g (pc := 66) (n := 81) (t := 233) (x := 3) (3) (by decide +kernel) rfl ?_
  refine jc_iast g (pc := 67) (n := 81) (t := 233) (i := 80) (N := 4) (by decide +kernel) (by omega) (by decide +kernel) (by rw [vin_iff]; decide +kernel) (by decide +kernel) ?_
  refine jc_put g (pc := 68) (n := 81) (t := 234) (i := 76) f5_37 (fun q h => by cases h; rfl) (by decide) (by decide +kernel) (by decide +kernel) (by omega) (by decide +kernel) (by decide +kernel) ?_
  refine jc_aload_n g (pc := 71) (n := 81) (t := 235) (i := 0) (by decide +kernel) rfl ?_
  refine jc_iconst g (pc := 72) (n := 81) (t := 235) (x := 4) (4) (by decide +kernel) rfl ?_
  refine jc_newaI g (pc := 73) (n := 81) (t := 235) (a := 305) (N := 4) (by decide +kernel) (by decide) (by decide) (by omega) (by omega) (by omega) (by decide +kernel) wa_i (by decide +kernel) ?_
  refine jc_put g (pc := 75) (n := 82) (t := 235) (i := 76) f5_40 (fun q h => by cases h; rfl) (by decide) (by decide +kernel) (by decide +kernel) (by omega) (by decide +kernel) (by decide +kernel) ?_
  refine jc_aload_n g (pc := 78) (n := 82) (t := 236) (i := 0) (by decide +kernel) rfl ?_
  refine jc_iconst g (pc := 79) (n := 82) (t := 236) (x := 4) (4) (by decide +kernel) rfl ?_
  refine jc_newaI g (pc := 80) (n := 82) (t := 236) (a := 306) (N := 4) (by decide +kernel) (by decide) (by decide) (by omega) (by omega) (by omega) (by decide +kernel) wa_i (by decide +kernel) ?_
  refine jc_put g (pc := 82) (n := 83) (t := 236) (i := 76) f5_43 (fun q h => by cases h; rfl) (by decide) (by decide +kernel) (by decide +kernel) (by omega) (by decide +kernel) (by decide +kernel) ?_
  refine jc_aload_n g (pc := 85) (n := 83) (t := 237) (i := 0) (by decide +kernel) rfl ?_
  refine jc_new g (pc := 86) (n := 83) (t := 237) (ci := 3) (a := 1020) rfl (by decide +kernel) (by omega) (by omega) (by decide +kernel) wk_5_46 wn_3 wz_3 (by decide +kernel) ?_
  refine jc_dup g (pc := 89) (n := 84) (t := 237) (by decide +kernel) rfl ?_
  refine jc_callN g (pc := 90) (n := 84) (t := 237) (As := []) cz_1020 wm_5_48 cb_3 (by omega) (by omega) (by omega) rfl (by decide +kernel) (by decide +kernel) (by decide) (by decide +kernel) ?_
  refine jc_put g (pc := 93) (n := 88) (t := 244) (i := 76) f5_49 (fun q h => by cases h; rfl) (by decide) (by decide +kernel) (by decide +kernel) (by omega) (by decide +kernel) (by decide +kernel) ?_
  refine jc_iconst g (pc := 96) (n := 88) (t := 245) (x := 0) (0) (by decide +kernel) rfl ?_
  refine jc_istore_n g (pc := 97) (n := 88) (t := 245) (i := 1) (by decide +kernel) (by decide) ?_
  dsimp only [stL, clL, hdL]
  refine jc_iload_n g (pc := 98) (n := 88) (t := 245) (i := 1) (by decide +kernel) rfl ?_
  refine jc_bipush g (pc := 99) (n := 88) (t := 245) (x := 6) (6) (by decide +kernel) (by decide +kernel) ?_
  refine jc_ge_f g (pc := 101) (n := 88) (t := 245) (off := 22) (tgt := 123) (by decide +kernel) (by decide) (by decide) ?_
  refine jc_aload_n g (pc := 104) (n := 88) (t := 245) (i := 0) (by decide +kernel) rfl ?_
  refine jc_get g (pc := 105) (n := 88) (t := 245) (i := 76) (b := 303) f5_33 (by decide +kernel) (by omega) (by decide +kernel) (by decide +kernel) ?_
  refine jc_iload_n g (pc := 108) (n := 88) (t := 245) (i := 1) (by decide +kernel) rfl ?_
  refine jc_new g (pc := 109) (n := 88) (t := 245) (ci := 6) (a := 310) rfl (by decide +kernel) (by omega) (by omega) (by decide +kernel) wk_5_31 wn_6 wz_6 (by decide +kernel) ?_
  refine jc_dup g (pc := 112) (n := 89) (t := 245) (by decide +kernel) rfl ?_
  refine jc_callN g (pc := 113) (n := 89) (t := 245) (As := []) cz_310 wm_5_53 cb_6 (by omega) (by omega) (by omega) rfl (by decide +kernel) (by decide +kernel) (by decide) (by decide +kernel) ?_
  refine jc_aastW g (pc := 116) (n := 89) (t := 253) (i := 79) (N := 6) (i2 := 88) (by decide +kernel) (by omega) (by decide +kernel) (by omega) (by decide +kernel) (by rw [vin_iff]; decide +kernel) (by decide +kernel) ?_
  refine jc_iinc g (pc := 117) (n := 89) (t := 254) (i := 1) (z := 1) (1) (by decide +kernel) rfl (by decide) rfl ?_
  dsimp only [stL, clL, hdL]
  refine jc_goto g (pc := 120) (n := 89) (t := 254) (off := -22) (tgt := 98) (by decide +kernel) (by decide) ?_
  refine jc_iload_n g (pc := 98) (n := 89) (t := 254) (i := 1) (by decide +kernel) rfl ?_
  refine jc_bipush g (pc := 99) (n := 89) (t := 254) (x := 6) (6) (by decide +kernel) (by decide +kernel) ?_
  refine jc_ge_f g (pc := 101) (n := 89) (t := 254) (off := 22) (tgt := 123) (by decide +kernel) (by decide) (by decide) ?_
  refine jc_aload_n g (pc := 104) (n := 89) (t := 254) (i := 0) (by decide +kernel) rfl ?_
  refine jc_get g (pc := 105) (n := 89) (t := 254) (i := 76) (b := 303) f5_33 (by decide +kernel) (by omega) (by decide +kernel) (by decide +kernel) ?_
  refine jc_iload_n g (pc := 108) (n := 89) (t := 254) (i := 1) (by decide +kernel) rfl ?_
  refine jc_new g (pc := 109) (n := 89) (t := 254) (ci := 6) (a := 311) rfl (by decide +kernel) (by omega) (by omega) (by decide +kernel) wk_5_31 wn_6 wz_6 (by decide +kernel) ?_
  refine jc_dup g (pc := 112) (n := 90) (t := 254) (by decide +kernel) rfl ?_
  refine jc_callN g (pc := 113) (n := 90) (t := 254) (As := []) cz_311 wm_5_53 cb_6 (by omega) (by omega) (by omega) rfl (by decide +kernel) (by decide +kernel) (by decide) (by decide +kernel) ?_
  refine jc_aastW g (pc := 116) (n := 90) (t := 262) (i := 79) (N := 6) (i2 := 89) (by decide +kernel) (by omega) (by decide +kernel) (by omega) (by decide +kernel) (by rw [vin_iff]; decide +kernel) (by decide +kernel) ?_
  refine jc_iinc g (pc := 117) (n := 90) (t := 263) (i := 1) (z := 1) (1) (by decide +kernel) rfl (by decide) rfl ?_
  dsimp only [stL, clL, hdL]
  refine jc_goto g (pc := 120) (n := 90) (t := 263) (off := -22) (tgt := 98) (by decide +kernel) (by decide) ?_
  refine jc_iload_n g (pc := 98) (n := 90) (t := 263) (i := 1) (by decide +kernel) rfl ?_
  refine jc_bipush g (pc := 99) (n := 90) (t := 263) (x := 6) (6) (by decide +kernel) (by decide +kernel) ?_
  refine jc_ge_f g (pc := 101) (n := 90) (t := 263) (off := 22) (tgt := 123) (by decide +kernel) (by decide) (by decide) ?_
  refine jc_aload_n g (pc := 104) (n := 90) (t := 263) (i := 0) (by decide +kernel) rfl ?_
  refine jc_get g (pc := 105) (n := 90) (t := 263) (i := 76) (b := 303) f5_33 (by decide +kernel) (by omega) (by decide +kernel) (by decide +kernel) ?_
  refine jc_iload_n g (pc := 108) (n := 90) (t := 263) (i := 1) (by decide +kernel) rfl ?_
  refine jc_new g (pc := 109) (n := 90) (t := 263) (ci := 6) (a := 312) rfl (by decide +kernel) (by omega) (by omega) (by decide +kernel) wk_5_31 wn_6 wz_6 (by decide +kernel) ?_
  refine jc_dup g (pc := 112) (n := 91) (t := 263) (by decide +kernel) rfl ?_
  refine jc_callN g (pc := 113) (n := 91) (t := 263) (As := []) cz_312 wm_5_53 cb_6 (by omega) (by omega) (by omega) rfl (by decide +kernel) (by decide +kernel) (by decide) (by decide +kernel) ?_
  refine jc_aastW g (pc := 116) (n := 91) (t := 271) (i := 79) (N := 6) (i2 := 90) (by decide +kernel) (by omega) (by decide +kernel) (by omega) (by decide +kernel) (by rw [vin_iff]; decide +kernel) (by decide +kernel) ?_
  refine jc_iinc g (pc := 117) (n := 91) (t := 272) (i := 1) (z := 1) (1) (by decide +kernel) rfl (by decide) rfl ?_
  dsimp only [stL, clL, hdL]
  refine jc_goto g (pc := 120) (n := 91) (t := 272) (off := -22) (tgt := 98) (by decide +kernel) (by decide) ?_
  refine jc_iload_n g (pc := 98) (n := 91) (t := 272) (i := 1) (by decide +kernel) rfl ?_
  refine jc_bipush g (pc := 99) (n := 91) (t := 272) (x := 6) (6) (by decide +kernel) (by decide +kernel) ?_
  refine jc_ge_f g (pc := 101) (n := 91) (t := 272) (off := 22) (tgt := 123) (by decide +kernel) (by decide) (by decide) ?_
  refine jc_aload_n g (pc := 104) (n := 91) (t := 272) (i := 0) (by decide +kernel) rfl ?_
  refine jc_get g (pc := 105) (n := 91) (t := 272) (i := 76) (b := 303) f5_33 (by decide +kernel) (by omega) (by decide +kernel) (by decide +kernel) ?_
  refine jc_iload_n g (pc := 108) (n := 91) (t := 272) (i := 1) (by decide +kernel) rfl ?_
  refine jc_new g (pc := 109) (n := 91) (t := 272) (ci := 6) (a := 313) rfl (by decide +kernel) (by omega) (by omega) (by decide +kernel) wk_5_31 wn_6 wz_6 (by decide +kernel) ?_
  refine jc_dup g (pc := 112) (n := 92) (t := 272) (by decide +kernel) rfl ?_
  refine jc_callN g (pc := 113) (n := 92) (t := 272) (As := []) cz_313 wm_5_53 cb_6 (by omega) (by omega) (by omega) rfl (by decide +kernel) (by decide +kernel) (by decide) (by decide +kernel) ?_
  refine jc_aastW g (pc := 116) (n := 92) (t := 280) (i := 79) (N := 6) (i2 := 91) (by decide +kernel) (by omega) (by decide +kernel) (by omega) (by decide +kernel) (by rw [vin_iff]; decide +kernel) (by decide +kernel) ?_
  refine jc_iinc g (pc := 117) (n := 92) (t := 281) (i := 1) (z := 1) (1) (by decide +kernel) rfl (by decide) rfl ?_
  dsimp only [stL, clL, hdL]
  refine jc_goto g (pc := 120) (n := 92) (t := 281) (off := -22) (tgt := 98) (by decide +kernel) (by decide) ?_
  refine jc_iload_n g (pc := 98) (n := 92) (t := 281) (i := 1) (by decide +kernel) rfl ?_
  refine jc_bipush g (pc := 99) (n := 92) (t := 281) (x := 6) (6) (by decide +kernel) (by decide +kernel) ?_
  refine jc_ge_f g (pc := 101) (n := 92) (t := 281) (off := 22) (tgt := 123) (by decide +kernel) (by decide) (by decide) ?_
  refine jc_aload_n g (pc := 104) (n := 92) (t := 281) (i := 0) (by decide +kernel) rfl ?_
  refine jc_get g (pc := 105) (n := 92) (t := 281) (i := 76) (b := 303) f5_33 (by decide +kernel) (by omega) (by decide +kernel) (by decide +kernel) ?_
  refine jc_iload_n g (pc := 108) (n := 92) (t := 281) (i := 1) (by decide +kernel) rfl ?_
  refine jc_new g (pc := 109) (n := 92) (t := 281) (ci := 6) (a := 314) rfl (by decide +kernel) (by omega) (by omega) (by decide +kernel) wk_5_31 wn_6 wz_6 (by decide +kernel) ?_
  refine jc_dup g (pc := 112) (n := 93) (t := 281) (by decide +kernel) rfl ?_
  refine jc_callN g (pc := 113) (n := 93) (t := 281) (As := []) cz_314 wm_5_53 cb_6 (by omega) (by omega) (by omega) rfl (by decide +kernel) (by decide +kernel) (by decide) (by decide +kernel) ?_
  refine jc_aastW g (pc := 116) (n := 93) (t := 289) (i := 79) (N := 6) (i2 := 92) (by decide +kernel) (by omega) (by decide +kernel) (by omega) (by decide +kernel) (by rw [vin_iff]; decide +kernel) (by decide +kernel) ?_
  refine jc_iinc g (pc := 117) (n := 93) (t := 290) (i := 1) (z := 1) (1) (by decide +kernel) rfl (by decide) rfl ?_
  dsimp only [stL, clL, hdL]
  refine jc_goto g (pc := 120) (n := 93) (t := 290) (off := -22) (tgt := 98) (by decide +kernel) (by decide) ?_
  refine jc_iload_n g (pc := 98) (n := 93) (t := 290) (i := 1) (by decide +kernel) rfl ?_
  refine jc_bipush g (pc := 99) (n := 93) (t := 290) (x := 6) (6) (by decide +kernel) (by decide +kernel) ?_
  refine jc_ge_f g (pc := 101) (n := 93) (t := 290) (off := 22) (tgt := 123) (by decide +kernel) (by decide) (by decide) ?_
  refine jc_aload_n g (pc := 104) (n := 93) (t := 290) (i := 0) (by decide +kernel) rfl ?_
  refine jc_get g (pc := 105) (n := 93) (t := 290) (i := 76) (b := 303) f5_33 (by decide +kernel) (by omega) (by decide +kernel) (by decide +kernel) ?_
  refine jc_iload_n g (pc := 108) (n := 93) (t := 290) (i := 1) (by decide +kernel) rfl ?_
  refine jc_new g (pc := 109) (n := 93) (t := 290) (ci := 6) (a := 315) rfl (by decide +kernel) (by omega) (by omega) (by decide +kernel) wk_5_31 wn_6 wz_6 (by decide +kernel) ?_
  refine jc_dup g (pc := 112) (n := 94) (t := 290) (by decide +kernel) rfl ?_
  refine jc_callN g (pc := 113) (n := 94) (t := 290) (As := []) cz_315 wm_5_53 cb_6 (by omega) (by omega) (by omega) rfl (by decide +kernel) (by decide +kernel) (by decide) (by decide +kernel) ?_
  refine jc_aastW g (pc := 116) (n := 94) (t := 298) (i := 79) (N := 6) (i2 := 93) (by decide +kernel) (by omega) (by decide +kernel) (by omega) (by decide +kernel) (by rw [vin_iff]; decide +kernel) (by decide +kernel) ?_
  refine jc_iinc g (pc := 117) (n := 94) (t := 299) (i := 1) (z := 1) (1) (by decide +kernel) rfl (by decide) rfl ?_
  dsimp only [stL, clL, hdL]
  refine jc_goto g (pc := 120) (n := 94) (t := 299) (off := -22) (tgt := 98) (by decide +kernel) (by decide) ?_
  refine jc_iload_n g (pc := 98) (n := 94) (t := 299) (i := 1) (by decide +kernel) rfl ?_
  refine jc_bipush g (pc := 99) (n := 94) (t := 299) (x := 6) (6) (by decide +kernel) (by decide +kernel) ?_
  refine jc_ge_t g (pc := 101) (n := 94) (t := 299) (off := 22) (tgt := 123) (by decide +kernel) (by decide) (by decide) ?_
  exact ret _ _ (by decide +kernel)
theorem cz_500 : Rc 3 mXc4 [.ref 500] 95 300 96 306 := by
  refine Rc.of [some (.ref 500)] (by decide) rfl rfl rfl (by decide) rfl ?_
  intro J g ret
  refine jc_aload_n g (pc := 0) (n := 95) (t := 300) (i := 0) (by decide +kernel) rfl ?_
  refine jc_obj g (pc := 1) (n := 95) (t := 300) (by omega) wo_4 wo_i wo_c (by decide) (by decide +kernel) ?_
  refine jc_aload_n g (pc := 4) (n := 95) (t := 300) (i := 0) (by decide +kernel) rfl ?_
  refine jc_sipush g (pc := 5) (n := 95) (t := 300) (x := 240) (240) (by decide +kernel) (by decide +kernel) ?_
  refine jc_newaB g (pc := 8) (n := 95) (t := 300) (a := 501) (N := 240) (by decide +kernel) (by decide) (by decide) (by omega) (by omega) (by omega) (by decide +kernel) wa_b (by decide +kernel) ?_
  refine jc_put g (pc := 10) (n := 96) (t := 300) (i := 94) f4_11 (fun q h => by cases h; rfl) (by decide) (by decide +kernel) (by decide +kernel) (by omega) (by decide +kernel) (by decide +kernel) ?_
  refine jc_aload_n g (pc := 13) (n := 96) (t := 301) (i := 0) (by decide +kernel) rfl ?_
  refine jc_iconst g (pc := 14) (n := 96) (t := 301) (x := 0) (0) (by decide +kernel) rfl ?_
  refine jc_put g (pc := 15) (n := 96) (t := 301) (i := 94) f4_15 (fun q h => by cases h; rfl) (by decide) (by decide +kernel) (by decide +kernel) (by omega) (by decide +kernel) (by decide +kernel) ?_
  refine jc_aload_n g (pc := 18) (n := 96) (t := 302) (i := 0) (by decide +kernel) rfl ?_
  refine jc_iconst g (pc := 19) (n := 96) (t := 302) (x := 0) (0) (by decide +kernel) rfl ?_
  refine jc_put g (pc := 20) (n := 96) (t := 302) (i := 94) f4_19 (fun q h => by cases h; rfl) (by decide) (by decide +kernel) (by decide +kernel) (by omega) (by decide +kernel) (by decide +kernel) ?_
  refine jc_aload_n g (pc := 23) (n := 96) (t := 303) (i := 0) (by decide +kernel) rfl ?_
  refine jc_iconst g (pc := 24) (n := 96) (t := 303) (x := 0) (0) (by decide +kernel) rfl ?_
  refine jc_put g (pc := 25) (n := 96) (t := 303) (i := 94) f4_22 (fun q h => by cases h; rfl) (by decide) (by decide +kernel) (by decide +kernel) (by omega) (by decide +kernel) (by decide +kernel) ?_
  refine jc_aload_n g (pc := 28) (n := 96) (t := 304) (i := 0) (by decide +kernel) rfl ?_
  refine jc_iconst g (pc := 29) (n := 96) (t := 304) (x := 0) (0) (by decide +kernel) rfl ?_
  refine jc_put g (pc := 30) (n := 96) (t := 304) (i := 94) f4_25 (fun q h => by cases h; rfl) (by decide) (by decide +kernel) (by decide +kernel) (by omega) (by decide +kernel) (by decide +kernel) ?_
  refine jc_aload_n g (pc := 33) (n := 96) (t := 305) (i := 0) (by decide +kernel) rfl ?_
  refine jc_iconst g (pc := 34) (n := 96) (t := 305) (x := -1) (-1) (by decide +kernel) rfl ?_
  refine jc_put g (pc := 35) (n := 96) (t := 305) (i := 94) f4_28 (fun q h => by cases h; rfl) (by decide) (by decide +kernel) (by decide +kernel) (by omega) (by decide +kernel) (by decide +kernel) ?_
  exact ret _ _ (by decide +kernel)
