/-! the constructors: walks -/
theorem cz_1010 : Rc 1 mXc3 [.ref 1010] 27 91 31 98 := by
  refine Rc.of [some (.ref 1010)] (by decide) rfl rfl rfl (by decide) rfl ?_
  intro J g ret
  refine jc_aload_n g (pc := 0) (n := 27) (t := 91) (i := 0) (by decide +kernel) rfl ?_
  refine jc_obj g (pc := 1) (n := 27) (t := 91) (by omega) wo_3 wo_i wo_c (by decide) (by decide +kernel) ?_
  refine jc_aload_n g (pc := 4) (n := 27) (t := 91) (i := 0) (by decide +kernel) rfl ?_
  refine jc_iconst g (pc := 5) (n := 27) (t := 91) (x := 3) (3) (by decide +kernel) rfl ?_
  refine jc_newaI g (pc := 6) (n := 27) (t := 91) (a := 1011) (N := 3) (by decide +kernel) (by decide) (by decide) (by omega) (by omega) (by omega) (by decide +kernel) wa_i (by decide +kernel) ?_
  refine jc_put g (pc := 8) (n := 28) (t := 91) (i := 26) f3_9 (fun q h => by cases h; rfl) (by decide) (by decide +kernel) (by decide +kernel) (by omega) (by decide +kernel) (by decide +kernel) ?_
  refine jc_aload_n g (pc := 11) (n := 28) (t := 92) (i := 0) (by decide +kernel) rfl ?_
  refine jc_bipush g (pc := 12) (n := 28) (t := 92) (x := 6) (6) (by decide +kernel) (by decide +kernel) ?_
  refine jc_newaI g (pc := 14) (n := 28) (t := 92) (a := 1012) (N := 6) (by decide +kernel) (by decide) (by decide) (by omega) (by omega) (by omega) (by decide +kernel) wa_i (by decide +kernel) ?_
  refine jc_put g (pc := 16) (n := 29) (t := 92) (i := 26) f3_15 (fun q h => by cases h; rfl) (by decide) (by decide +kernel) (by decide +kernel) (by omega) (by decide +kernel) (by decide +kernel) ?_
  refine jc_aload_n g (pc := 19) (n := 29) (t := 93) (i := 0) (by decide +kernel) rfl ?_
  refine jc_bipush g (pc := 20) (n := 29) (t := 93) (x := 6) (6) (by decide +kernel) (by decide +kernel) ?_
  refine jc_newaI g (pc := 22) (n := 29) (t := 93) (a := 1013) (N := 6) (by decide +kernel) (by decide) (by decide) (by omega) (by omega) (by omega) (by decide +kernel) wa_i (by decide +kernel) ?_
  refine jc_put g (pc := 24) (n := 30) (t := 93) (i := 26) f3_18 (fun q h => by cases h; rfl) (by decide) (by decide +kernel) (by decide +kernel) (by omega) (by decide +kernel) (by decide +kernel) ?_
  refine jc_aload_n g (pc := 27) (n := 30) (t := 94) (i := 0) (by decide +kernel) rfl ?_
  refine jc_bipush g (pc := 28) (n := 30) (t := 94) (x := 6) (6) (by decide +kernel) (by decide +kernel) ?_
  refine jc_newaI g (pc := 30) (n := 30) (t := 94) (a := 1014) (N := 6) (by decide +kernel) (by decide) (by decide) (by omega) (by omega) (by omega) (by decide +kernel) wa_i (by decide +kernel) ?_
  refine jc_put g (pc := 32) (n := 31) (t := 94) (i := 26) f3_21 (fun q h => by cases h; rfl) (by decide) (by decide +kernel) (by decide +kernel) (by omega) (by decide +kernel) (by decide +kernel) ?_
  refine jc_aload_n g (pc := 35) (n := 31) (t := 95) (i := 0) (by decide +kernel) rfl ?_
  refine jc_iconst g (pc := 36) (n := 31) (t := 95) (x := 0) (0) (by decide +kernel) rfl ?_
  refine jc_put g (pc := 37) (n := 31) (t := 95) (i := 26) f3_24 (fun q h => by cases h; rfl) (by decide) (by decide +kernel) (by decide +kernel) (by omega) (by decide +kernel) (by decide +kernel) ?_
  refine jc_aload_n g (pc := 40) (n := 31) (t := 96) (i := 0) (by decide +kernel) rfl ?_
  refine jc_iconst g (pc := 41) (n := 31) (t := 96) (x := 0) (0) (by decide +kernel) rfl ?_
  refine jc_put g (pc := 42) (n := 31) (t := 96) (i := 26) f3_28 (fun q h => by cases h; rfl) (by decide) (by decide +kernel) (by decide +kernel) (by omega) (by decide +kernel) (by decide +kernel) ?_
  refine jc_aload_n g (pc := 45) (n := 31) (t := 97) (i := 0) (by decide +kernel) rfl ?_
  refine jc_iconst g (pc := 46) (n := 31) (t := 97) (x := 0) (0) (by decide +kernel) rfl ?_
  refine jc_put g (pc := 47) (n := 31) (t := 97) (i := 26) f3_31 (fun q h => by cases h; rfl) (by decide) (by decide +kernel) (by decide +kernel) (by omega) (by decide +kernel) (by decide +kernel) ?_
  exact ret _ _ (by decide +kernel)
theorem cz_210 : Rc 1 mXc6 [.ref 210] 32 99 32 107 := by
  refine Rc.of [some (.ref 210)] (by decide) rfl rfl rfl (by decide) rfl ?_
  intro J g ret
  refine jc_aload_n g (pc := 0) (n := 32) (t := 99) (i := 0) (by decide +kernel) rfl ?_
  refine jc_obj g (pc := 1) (n := 32) (t := 99) (by omega) wo_6 wo_i wo_c (by decide) (by decide +kernel) ?_
  refine jc_aload_n g (pc := 4) (n := 32) (t := 99) (i := 0) (by decide +kernel) rfl ?_
  refine jc_iconst g (pc := 5) (n := 32) (t := 99) (x := 0) (0) (by decide +kernel) rfl ?_
  refine jc_put g (pc := 6) (n := 32) (t := 99) (i := 31) f6_7 (fun q h => by cases h; rfl) (by decide) (by decide +kernel) (by decide +kernel) (by omega) (by decide +kernel) (by decide +kernel) ?_
  refine jc_aload_n g (pc := 9) (n := 32) (t := 100) (i := 0) (by decide +kernel) rfl ?_
  refine jc_iconst g (pc := 10) (n := 32) (t := 100) (x := 0) (0) (by decide +kernel) rfl ?_
  refine jc_put g (pc := 11) (n := 32) (t := 100) (i := 31) f6_13 (fun q h => by cases h; rfl) (by decide) (by decide +kernel) (by decide +kernel) (by omega) (by decide +kernel) (by decide +kernel) ?_
  refine jc_aload_n g (pc := 14) (n := 32) (t := 101) (i := 0) (by decide +kernel) rfl ?_
  refine jc_iconst g (pc := 15) (n := 32) (t := 101) (x := 0) (0) (by decide +kernel) rfl ?_
  refine jc_put g (pc := 16) (n := 32) (t := 101) (i := 31) f6_16 (fun q h => by cases h; rfl) (by decide) (by decide +kernel) (by decide +kernel) (by omega) (by decide +kernel) (by decide +kernel) ?_
  refine jc_aload_n g (pc := 19) (n := 32) (t := 102) (i := 0) (by decide +kernel) rfl ?_
  refine jc_iconst g (pc := 20) (n := 32) (t := 102) (x := 0) (0) (by decide +kernel) rfl ?_
  refine jc_put g (pc := 21) (n := 32) (t := 102) (i := 31) f6_19 (fun q h => by cases h; rfl) (by decide) (by decide +kernel) (by decide +kernel) (by omega) (by decide +kernel) (by decide +kernel) ?_
  refine jc_aload_n g (pc := 24) (n := 32) (t := 103) (i := 0) (by decide +kernel) rfl ?_
  refine jc_iconst g (pc := 25) (n := 32) (t := 103) (x := 0) (0) (by decide +kernel) rfl ?_
  refine jc_put g (pc := 26) (n := 32) (t := 103) (i := 31) f6_22 (fun q h => by cases h; rfl) (by decide) (by decide +kernel) (by decide +kernel) (by omega) (by decide +kernel) (by decide +kernel) ?_
  refine jc_aload_n g (pc := 29) (n := 32) (t := 104) (i := 0) (by decide +kernel) rfl ?_
  refine jc_iconst g (pc := 30) (n := 32) (t := 104) (x := 0) (0) (by decide +kernel) rfl ?_
  refine jc_put g (pc := 31) (n := 32) (t := 104) (i := 31) f6_25 (fun q h => by cases h; rfl) (by decide) (by decide +kernel) (by decide +kernel) (by omega) (by decide +kernel) (by decide +kernel) ?_
  refine jc_aload_n g (pc := 34) (n := 32) (t := 105) (i := 0) (by decide +kernel) rfl ?_
  refine jc_iconst g (pc := 35) (n := 32) (t := 105) (x := -1) (-1) (by decide +kernel) rfl ?_
  refine jc_put g (pc := 36) (n := 32) (t := 105) (i := 31) f6_28 (fun q h => by cases h; rfl) (by decide) (by decide +kernel) (by decide +kernel) (by omega) (by decide +kernel) (by decide +kernel) ?_
  refine jc_aload_n g (pc := 39) (n := 32) (t := 106) (i := 0) (by decide +kernel) rfl ?_
  refine jc_iconst g (pc := 40) (n := 32) (t := 106) (x := 0) (0) (by decide +kernel) rfl ?_
  refine jc_put g (pc := 41) (n := 32) (t := 106) (i := 31) f6_31 (fun q h => by cases h; rfl) (by decide) (by decide +kernel) (by decide +kernel) (by omega) (by decide +kernel) (by decide +kernel) ?_
  exact ret _ _ (by decide +kernel)
theorem cz_211 : Rc 1 mXc6 [.ref 211] 33 108 33 116 := by
  refine Rc.of [some (.ref 211)] (by decide) rfl rfl rfl (by decide) rfl ?_
  intro J g ret
  refine jc_aload_n g (pc := 0) (n := 33) (t := 108) (i := 0) (by decide +kernel) rfl ?_
  refine jc_obj g (pc := 1) (n := 33) (t := 108) (by omega) wo_6 wo_i wo_c (by decide) (by decide +kernel) ?_
  refine jc_aload_n g (pc := 4) (n := 33) (t := 108) (i := 0) (by decide +kernel) rfl ?_
  refine jc_iconst g (pc := 5) (n := 33) (t := 108) (x := 0) (0) (by decide +kernel) rfl ?_
  refine jc_put g (pc := 6) (n := 33) (t := 108) (i := 32) f6_7 (fun q h => by cases h; rfl) (by decide) (by decide +kernel) (by decide +kernel) (by omega) (by decide +kernel) (by decide +kernel) ?_
  refine jc_aload_n g (pc := 9) (n := 33) (t := 109) (i := 0) (by decide +kernel) rfl ?_
  refine jc_iconst g (pc := 10) (n := 33) (t := 109) (x := 0) (0) (by decide +kernel) rfl ?_
  refine jc_put g (pc := 11) (n := 33) (t := 109) (i := 32) f6_13 (fun q h => by cases h; rfl) (by decide) (by decide +kernel) (by decide +kernel) (by omega) (by decide +kernel) (by decide +kernel) ?_
  refine jc_aload_n g (pc := 14) (n := 33) (t := 110) (i := 0) (by decide +kernel) rfl ?_
  refine jc_iconst g (pc := 15) (n := 33) (t := 110) (x := 0) (0) (by decide +kernel) rfl ?_
  refine jc_put g (pc := 16) (n := 33) (t := 110) (i := 32) f6_16 (fun q h => by cases h; rfl) (by decide) (by decide +kernel) (by decide +kernel) (by omega) (by decide +kernel) (by decide +kernel) ?_
  refine jc_aload_n g (pc := 19) (n := 33) (t := 111) (i := 0) (by decide +kernel) rfl ?_
  refine jc_iconst g (pc := 20) (n := 33) (t := 111) (x := 0) (0) (by decide +kernel) rfl ?_
  refine jc_put g (pc := 21) (n := 33) (t := 111) (i := 32) f6_19 (fun q h => by cases h; rfl) (by decide) (by decide +kernel) (by decide +kernel) (by omega) (by decide +kernel) (by decide +kernel) ?_
  refine jc_aload_n g (pc := 24) (n := 33) (t := 112) (i := 0) (by decide +kernel) rfl ?_
  refine jc_iconst g (pc := 25) (n := 33) (t := 112) (x := 0) (0) (by decide +kernel) rfl ?_
  refine jc_put g (pc := 26) (n := 33) (t := 112) (i := 32) f6_22 (fun q h => by cases h; rfl) (by decide) (by decide +kernel) (by decide +kernel) (by omega) (by decide +kernel) (by decide +kernel) ?_
  refine jc_aload_n g (pc := 29) (n := 33) (t := 113) (i := 0) (by decide +kernel) rfl ?_
  refine jc_iconst g (pc := 30) (n := 33) (t := 113) (x := 0) (0) (by decide +kernel) rfl ?_
  refine jc_put g (pc := 31) (n := 33) (t := 113) (i := 32) f6_25 (fun q h => by cases h; rfl) (by decide) (by decide +kernel) (by decide +kernel) (by omega) (by decide +kernel) (by decide +kernel) ?_
  refine jc_aload_n g (pc := 34) (n := 33) (t := 114) (i := 0) (by decide +kernel) rfl ?_
  refine jc_iconst g (pc := 35) (n := 33) (t := 114) (x := -1) (-1) (by decide +kernel) rfl ?_
  refine jc_put g (pc := 36) (n := 33) (t := 114) (i := 32) f6_28 (fun q h => by cases h; rfl) (by decide) (by decide +kernel) (by decide +kernel) (by omega) (by decide +kernel) (by decide +kernel) ?_
  refine jc_aload_n g (pc := 39) (n := 33) (t := 115) (i := 0) (by decide +kernel) rfl ?_
  refine jc_iconst g (pc := 40) (n := 33) (t := 115) (x := 0) (0) (by decide +kernel) rfl ?_
  refine jc_put g (pc := 41) (n := 33) (t := 115) (i := 32) f6_31 (fun q h => by cases h; rfl) (by decide) (by decide +kernel) (by decide +kernel) (by omega) (by decide +kernel) (by decide +kernel) ?_
  exact ret _ _ (by decide +kernel)
theorem cz_212 : Rc 1 mXc6 [.ref 212] 34 117 34 125 := by
  refine Rc.of [some (.ref 212)] (by decide) rfl rfl rfl (by decide) rfl ?_
  intro J g ret
  refine jc_aload_n g (pc := 0) (n := 34) (t := 117) (i := 0) (by decide +kernel) rfl ?_
  refine jc_obj g (pc := 1) (n := 34) (t := 117) (by omega) wo_6 wo_i wo_c (by decide) (by decide +kernel) ?_
  refine jc_aload_n g (pc := 4) (n := 34) (t := 117) (i := 0) (by decide +kernel) rfl ?_
  refine jc_iconst g (pc := 5) (n := 34) (t := 117) (x := 0) (0) (by decide +kernel) rfl ?_
  refine jc_put g (pc := 6) (n := 34) (t := 117) (i := 33) f6_7 (fun q h => by cases h; rfl) (by decide) (by decide +kernel) (by decide +kernel) (by omega) (by decide +kernel) (by decide +kernel) ?_
  refine jc_aload_n g (pc := 9) (n := 34) (t := 118) (i := 0) (by decide +kernel) rfl ?_
  refine jc_iconst g (pc := 10) (n := 34) (t := 118) (x := 0) (0) (by decide +kernel) rfl ?_
  refine jc_put g (pc := 11) (n := 34) (t := 118) (i := 33) f6_13 (fun q h => by cases h; rfl) (by decide) (by decide +kernel) (by decide +kernel) (by omega) (by decide +kernel) (by decide +kernel) ?_
  refine jc_aload_n g (pc := 14) (n := 34) (t := 119) (i := 0) (by decide +kernel) rfl ?_
  refine jc_iconst g (pc := 15) (n := 34) (t := 119) (x := 0) (0) (by decide +kernel) rfl ?_
  refine jc_put g (pc := 16) (n := 34) (t := 119) (i := 33) f6_16 (fun q h => by cases h; rfl) (by decide) (by decide +kernel) (by decide +kernel) (by omega) (by decide +kernel) (by decide +kernel) ?_
  refine jc_aload_n g (pc := 19) (n := 34) (t := 120) (i := 0) (by decide +kernel) rfl ?_
  refine jc_iconst g (pc := 20) (n := 34) (t := 120) (x := 0) (0) (by decide +kernel) rfl ?_
  refine jc_put g (pc := 21) (n := 34) (t := 120) (i := 33) f6_19 (fun q h => by cases h; rfl) (by decide) (by decide +kernel) (by decide +kernel) (by omega) (by decide +kernel) (by decide +kernel) ?_
  refine jc_aload_n g (pc := 24) (n := 34) (t := 121) (i := 0) (by decide +kernel) rfl ?_
  refine jc_iconst g (pc := 25) (n := 34) (t := 121) (x := 0) (0) (by decide +kernel) rfl ?_
  refine jc_put g (pc := 26) (n := 34) (t := 121) (i := 33) f6_22 (fun q h => by cases h; rfl) (by decide) (by decide +kernel) (by decide +kernel) (by omega) (by decide +kernel) (by decide +kernel) ?_
  refine jc_aload_n g (pc := 29) (n := 34) (t := 122) (i := 0) (by decide +kernel) rfl ?_
  refine jc_iconst g (pc := 30) (n := 34) (t := 122) (x := 0) (0) (by decide +kernel) rfl ?_
  refine jc_put g (pc := 31) (n := 34) (t := 122) (i := 33) f6_25 (fun q h => by cases h; rfl) (by decide) (by decide +kernel) (by decide +kernel) (by omega) (by decide +kernel) (by decide +kernel) ?_
  refine jc_aload_n g (pc := 34) (n := 34) (t := 123) (i := 0) (by decide +kernel) rfl ?_
  refine jc_iconst g (pc := 35) (n := 34) (t := 123) (x := -1) (-1) (by decide +kernel) rfl ?_
  refine jc_put g (pc := 36) (n := 34) (t := 123) (i := 33) f6_28 (fun q h => by cases h; rfl) (by decide) (by decide +kernel) (by decide +kernel) (by omega) (by decide +kernel) (by decide +kernel) ?_
  refine jc_aload_n g (pc := 39) (n := 34) (t := 124) (i := 0) (by decide +kernel) rfl ?_
  refine jc_iconst g (pc := 40) (n := 34) (t := 124) (x := 0) (0) (by decide +kernel) rfl ?_
  refine jc_put g (pc := 41) (n := 34) (t := 124) (i := 33) f6_31 (fun q h => by cases h; rfl) (by decide) (by decide +kernel) (by decide +kernel) (by omega) (by decide +kernel) (by decide +kernel) ?_
  exact ret _ _ (by decide +kernel)
theorem cz_213 : Rc 1 mXc6 [.ref 213] 35 126 35 134 := by
  refine Rc.of [some (.ref 213)] (by decide) rfl rfl rfl (by decide) rfl ?_
  intro J g ret
  refine jc_aload_n g (pc := 0) (n := 35) (t := 126) (i := 0) (by decide +kernel) rfl ?_
  refine jc_obj g (pc := 1) (n := 35) (t := 126) (by omega) wo_6 wo_i wo_c (by decide) (by decide +kernel) ?_
  refine jc_aload_n g (pc := 4) (n := 35) (t := 126) (i := 0) (by decide +kernel) rfl ?_
  refine jc_iconst g (pc := 5) (n := 35) (t := 126) (x := 0) (0) (by decide +kernel) rfl ?_
  refine jc_put g (pc := 6) (n := 35) (t := 126) (i := 34) f6_7 (fun q h => by cases h; rfl) (by decide) (by decide +kernel) (by decide +kernel) (by omega) (by decide +kernel) (by decide +kernel) ?_
  refine jc_aload_n g (pc := 9) (n := 35) (t := 127) (i := 0) (by decide +kernel) rfl ?_
  refine jc_iconst g (pc := 10) (n := 35) (t := 127) (x := 0) (0) (by decide +kernel) rfl ?_
  refine jc_put g (pc := 11) (n := 35) (t := 127) (i := 34) f6_13 (fun q h => by cases h; rfl) (by decide) (by decide +kernel) (by decide +kernel) (by omega) (by decide +kernel) (by decide +kernel) ?_
  refine jc_aload_n g (pc := 14) (n := 35) (t := 128) (i := 0) (by decide +kernel) rfl ?_
  refine jc_iconst g (pc := 15) (n := 35) (t := 128) (x := 0) (0) (by decide +kernel) rfl ?_
  refine jc_put g (pc := 16) (n := 35) (t := 128) (i := 34) f6_16 (fun q h => by cases h; rfl) (by decide) (by decide +kernel) (by decide +kernel) (by omega) (by decide +kernel) (by decide +kernel) ?_
  refine jc_aload_n g (pc := 19) (n := 35) (t := 129) (i := 0) (by decide +kernel) rfl ?_
  refine jc_iconst g (pc := 20) (n := 35) (t := 129) (x := 0) (0) (by decide +kernel) rfl ?_
  refine jc_put g (pc := 21) (n := 35) (t := 129) (i := 34) f6_19 (fun q h => by cases h; rfl) (by decide) (by decide +kernel) (by decide +kernel) (by omega) (by decide +kernel) (by decide +kernel) ?_
  refine jc_aload_n g (pc := 24) (n := 35) (t := 130) (i := 0) (by decide +kernel) rfl ?_
  refine jc_iconst g (pc := 25) (n := 35) (t := 130) (x := 0) (0) (by decide +kernel) rfl ?_
  refine jc_put g (pc := 26) (n := 35) (t := 130) (i := 34) f6_22 (fun q h => by cases h; rfl) (by decide) (by decide +kernel) (by decide +kernel) (by omega) (by decide +kernel) (by decide +kernel) ?_
  refine jc_aload_n g (pc := 29) (n := 35) (t := 131) (i := 0) (by decide +kernel) rfl ?_
  refine jc_iconst g (pc := 30) (n := 35) (t := 131) (x := 0) (0) (by decide +kernel) rfl ?_
  refine jc_put g (pc := 31) (n := 35) (t := 131) (i := 34) f6_25 (fun q h => by cases h; rfl) (by decide) (by decide +kernel) (by decide +kernel) (by omega) (by decide +kernel) (by decide +kernel) ?_
  refine jc_aload_n g (pc := 34) (n := 35) (t := 132) (i := 0) (by decide +kernel) rfl ?_
  refine jc_iconst g (pc := 35) (n := 35) (t := 132) (x := -1) (-1) (by decide +kernel) rfl ?_
  refine jc_put g (pc := 36) (n := 35) (t := 132) (i := 34) f6_28 (fun q h => by cases h; rfl) (by decide) (by decide +kernel) (by decide +kernel) (by omega) (by decide +kernel) (by decide +kernel) ?_
  refine jc_aload_n g (pc := 39) (n := 35) (t := 133) (i := 0) (by decide +kernel) rfl ?_
  refine jc_iconst g (pc := 40) (n := 35) (t := 133) (x := 0) (0) (by decide +kernel) rfl ?_
  refine jc_put g (pc := 41) (n := 35) (t := 133) (i := 34) f6_31 (fun q h => by cases h; rfl) (by decide) (by decide +kernel) (by decide +kernel) (by omega) (by decide +kernel) (by decide +kernel) ?_
  exact ret _ _ (by decide +kernel)
theorem cz_214 : Rc 1 mXc6 [.ref 214] 36 135 36 143 := by
  refine Rc.of [some (.ref 214)] (by decide) rfl rfl rfl (by decide) rfl ?_
  intro J g ret
  refine jc_aload_n g (pc := 0) (n := 36) (t := 135) (i := 0) (by decide +kernel) rfl ?_
  refine jc_obj g (pc := 1) (n := 36) (t := 135) (by omega) wo_6 wo_i wo_c (by decide) (by decide +kernel) ?_
  refine jc_aload_n g (pc := 4) (n := 36) (t := 135) (i := 0) (by decide +kernel) rfl ?_
  refine jc_iconst g (pc := 5) (n := 36) (t := 135) (x := 0) (0) (by decide +kernel) rfl ?_
  refine jc_put g (pc := 6) (n := 36) (t := 135) (i := 35) f6_7 (fun q h => by cases h; rfl) (by decide) (by decide +kernel) (by decide +kernel) (by omega) (by decide +kernel) (by decide +kernel) ?_
  refine jc_aload_n g (pc := 9) (n := 36) (t := 136) (i := 0) (by decide +kernel) rfl ?_
  refine jc_iconst g (pc := 10) (n := 36) (t := 136) (x := 0) (0) (by decide +kernel) rfl ?_
  refine jc_put g (pc := 11) (n := 36) (t := 136) (i := 35) f6_13 (fun q h => by cases h; rfl) (by decide) (by decide +kernel) (by decide +kernel) (by omega) (by decide +kernel) (by decide +kernel) ?_
  refine jc_aload_n g (pc := 14) (n := 36) (t := 137) (i := 0) (by decide +kernel) rfl ?_
  refine jc_iconst g (pc := 15) (n := 36) (t := 137) (x := 0) (0) (by decide +kernel) rfl ?_
  refine jc_put g (pc := 16) (n := 36) (t := 137) (i := 35) f6_16 (fun q h => by cases h; rfl) (by decide) (by decide +kernel) (by decide +kernel) (by omega) (by decide +kernel) (by decide +kernel) ?_
  refine jc_aload_n g (pc := 19) (n := 36) (t := 138) (i := 0) (by decide +kernel) rfl ?_
  refine jc_iconst g (pc := 20) (n := 36) (t := 138) (x := 0) (0) (by decide +kernel) rfl ?_
  refine jc_put g (pc := 21) (n := 36) (t := 138) (i := 35) f6_19 (fun q h => by cases h; rfl) (by decide) (by decide +kernel) (by decide +kernel) (by omega) (by decide +kernel) (by decide +kernel) ?_
  refine jc_aload_n g (pc := 24) (n := 36) (t := 139) (i := 0) (by decide +kernel) rfl ?_
  refine jc_iconst g (pc := 25) (n := 36) (t := 139) (x := 0) (0) (by decide +kernel) rfl ?_
  refine jc_put g (pc := 26) (n := 36) (t := 139) (i := 35) f6_22 (fun q h => by cases h; rfl) (by decide) (by decide +kernel) (by decide +kernel) (by omega) (by decide +kernel) (by decide +kernel) ?_
  refine jc_aload_n g (pc := 29) (n := 36) (t := 140) (i := 0) (by decide +kernel) rfl ?_
  refine jc_iconst g (pc := 30) (n := 36) (t := 140) (x := 0) (0) (by decide +kernel) rfl ?_
  refine jc_put g (pc := 31) (n := 36) (t := 140) (i := 35) f6_25 (fun q h => by cases h; rfl) (by decide) (by decide +kernel) (by decide +kernel) (by omega) (by decide +kernel) (by decide +kernel) ?_
  refine jc_aload_n g (pc := 34) (n := 36) (t := 141) (i := 0) (by decide +kernel) rfl ?_
  refine jc_iconst g (pc := 35) (n := 36) (t := 141) (x := -1) (-1) (by decide +kernel) rfl ?_
  refine jc_put g (pc := 36) (n := 36) (t := 141) (i := 35) f6_28 (fun q h => by cases h; rfl) (by decide) (by decide +kernel) (by decide +kernel) (by omega) (by decide +kernel) (by decide +kernel) ?_
  refine jc_aload_n g (pc := 39) (n := 36) (t := 142) (i := 0) (by decide +kernel) rfl ?_
  refine jc_iconst g (pc := 40) (n := 36) (t := 142) (x := 0) (0) (by decide +kernel) rfl ?_
  refine jc_put g (pc := 41) (n := 36) (t := 142) (i := 35) f6_31 (fun q h => by cases h; rfl) (by decide) (by decide +kernel) (by decide +kernel) (by omega) (by decide +kernel) (by decide +kernel) ?_
  exact ret _ _ (by decide +kernel)
theorem cz_215 : Rc 1 mXc6 [.ref 215] 37 144 37 152 := by
  refine Rc.of [some (.ref 215)] (by decide) rfl rfl rfl (by decide) rfl ?_
  intro J g ret
  refine jc_aload_n g (pc := 0) (n := 37) (t := 144) (i := 0) (by decide +kernel) rfl ?_
  refine jc_obj g (pc := 1) (n := 37) (t := 144) (by omega) wo_6 wo_i wo_c (by decide) (by decide +kernel) ?_
  refine jc_aload_n g (pc := 4) (n := 37) (t := 144) (i := 0) (by decide +kernel) rfl ?_
  refine jc_iconst g (pc := 5) (n := 37) (t := 144) (x := 0) (0) (by decide +kernel) rfl ?_
  refine jc_put g (pc := 6) (n := 37) (t := 144) (i := 36) f6_7 (fun q h => by cases h; rfl) (by decide) (by decide +kernel) (by decide +kernel) (by omega) (by decide +kernel) (by decide +kernel) ?_
  refine jc_aload_n g (pc := 9) (n := 37) (t := 145) (i := 0) (by decide +kernel) rfl ?_
  refine jc_iconst g (pc := 10) (n := 37) (t := 145) (x := 0) (0) (by decide +kernel) rfl ?_
  refine jc_put g (pc := 11) (n := 37) (t := 145) (i := 36) f6_13 (fun q h => by cases h; rfl) (by decide) (by decide +kernel) (by decide +kernel) (by omega) (by decide +kernel) (by decide +kernel) ?_
  refine jc_aload_n g (pc := 14) (n := 37) (t := 146) (i := 0) (by decide +kernel) rfl ?_
  refine jc_iconst g (pc := 15) (n := 37) (t := 146) (x := 0) (0) (by decide +kernel) rfl ?_
  refine jc_put g (pc := 16) (n := 37) (t := 146) (i := 36) f6_16 (fun q h => by cases h; rfl) (by decide) (by decide +kernel) (by decide +kernel) (by omega) (by decide +kernel) (by decide +kernel) ?_
  refine jc_aload_n g (pc := 19) (n := 37) (t := 147) (i := 0) (by decide +kernel) rfl ?_
  refine jc_iconst g (pc := 20) (n := 37) (t := 147) (x := 0) (0) (by decide +kernel) rfl ?_
  refine jc_put g (pc := 21) (n := 37) (t := 147) (i := 36) f6_19 (fun q h => by cases h; rfl) (by decide) (by decide +kernel) (by decide +kernel) (by omega) (by decide +kernel) (by decide +kernel) ?_
  refine jc_aload_n g (pc := 24) (n := 37) (t := 148) (i := 0) (by decide +kernel) rfl ?_
  refine jc_iconst g (pc := 25) (n := 37) (t := 148) (x := 0) (0) (by decide +kernel) rfl ?_
  refine jc_put g (pc := 26) (n := 37) (t := 148) (i := 36) f6_22 (fun q h => by cases h; rfl) (by decide) (by decide +kernel) (by decide +kernel) (by omega) (by decide +kernel) (by decide +kernel) ?_
  refine jc_aload_n g (pc := 29) (n := 37) (t := 149) (i := 0) (by decide +kernel) rfl ?_
  refine jc_iconst g (pc := 30) (n := 37) (t := 149) (x := 0) (0) (by decide +kernel) rfl ?_
  refine jc_put g (pc := 31) (n := 37) (t := 149) (i := 36) f6_25 (fun q h => by cases h; rfl) (by decide) (by decide +kernel) (by decide +kernel) (by omega) (by decide +kernel) (by decide +kernel) ?_
  refine jc_aload_n g (pc := 34) (n := 37) (t := 150) (i := 0) (by decide +kernel) rfl ?_
  refine jc_iconst g (pc := 35) (n := 37) (t := 150) (x := -1) (-1) (by decide +kernel) rfl ?_
  refine jc_put g (pc := 36) (n := 37) (t := 150) (i := 36) f6_28 (fun q h => by cases h; rfl) (by decide) (by decide +kernel) (by decide +kernel) (by omega) (by decide +kernel) (by decide +kernel) ?_
  refine jc_aload_n g (pc := 39) (n := 37) (t := 151) (i := 0) (by decide +kernel) rfl ?_
  refine jc_iconst g (pc := 40) (n := 37) (t := 151) (x := 0) (0) (by decide +kernel) rfl ?_
  refine jc_put g (pc := 41) (n := 37) (t := 151) (i := 36) f6_31 (fun q h => by cases h; rfl) (by decide) (by decide +kernel) (by decide +kernel) (by omega) (by decide +kernel) (by decide +kernel) ?_
  exact ret _ _ (by decide +kernel)
theorem cz_200 : Rc 2 mXc5 [.ref 200] 20 77 37 153 := by
  refine Rc.of [some (.ref 200), none] (by decide) rfl rfl rfl (by decide) rfl ?_
  intro J g ret
  refine jc_aload_n g (pc := 0) (n := 20) (t := 77) (i := 0) (by decide +kernel) rfl ?_
  refine jc_obj g (pc := 1) (n := 20) (t := 77) (by omega) wo_5 wo_i wo_c (by decide) (by decide +kernel) ?_
  refine jc_aload_n g (pc := 4) (n := 20) (t := 77) (i := 0) (by decide +kernel) rfl ?_
  refine jc_iconst g (pc := 5) (n := 20) (t := 77) (x := 0) (0) (by decide +kernel) rfl ?_
  refine jc_put g (pc := 6) (n := 20) (t := 77) (i := 19) f5_9 (fun q h => by cases h; rfl) (by decide) (by decide +kernel) (by decide +kernel) (by omega) (by decide +kernel) (by decide +kernel) ?_
  refine jc_aload_n g (pc := 9) (n := 20) (t := 78) (i := 0) (by decide +kernel) rfl ?_
  refine jc_iconst g (pc := 10) (n := 20) (t := 78) (x := 0) (0) (by decide +kernel) rfl ?_
  refine jc_put g (pc := 11) (n := 20) (t := 78) (i := 19) f5_15 (fun q h => by cases h; rfl) (by decide) (by decide +kernel) (by decide +kernel) (by omega) (by decide +kernel) (by decide +kernel) ?_
  refine jc_aload_n g (pc := 14) (n := 20) (t := 79) (i := 0) (by decide +kernel) rfl ?_
  refine jc_iconst g (pc := 15) (n := 20) (t := 79) (x := 0) (0) (by decide +kernel) rfl ?_
  refine jc_put g (pc := 16) (n := 20) (t := 79) (i := 19) f5_18 (fun q h => by cases h; rfl) (by decide) (by decide +kernel) (by decide +kernel) (by omega) (by decide +kernel) (by decide +kernel) ?_
  refine jc_aload_n g (pc := 19) (n := 20) (t := 80) (i := 0) (by decide +kernel) rfl ?_
  refine jc_iconst g (pc := 20) (n := 20) (t := 80) (x := 0) (0) (by decide +kernel) rfl ?_
  refine jc_put g (pc := 21) (n := 20) (t := 80) (i := 19) f5_21 (fun q h => by cases h; rfl) (by decide) (by decide +kernel) (by decide +kernel) (by omega) (by decide +kernel) (by decide +kernel) ?_
  refine jc_aload_n g (pc := 24) (n := 20) (t := 81) (i := 0) (by decide +kernel) rfl ?_
  refine jc_iconst g (pc := 25) (n := 20) (t := 81) (x := 3) (3) (by decide +kernel) rfl ?_
  refine jc_newaI g (pc := 26) (n := 20) (t := 81) (a := 201) (N := 3) (by decide +kernel) (by decide) (by decide) (by omega) (by omega) (by omega) (by decide +kernel) wa_i (by decide +kernel) ?_
  refine jc_put g (pc := 28) (n := 21) (t := 81) (i := 19) f5_24 (fun q h => by cases h; rfl) (by decide) (by decide +kernel) (by decide +kernel) (by omega) (by decide +kernel) (by decide +kernel) ?_
  refine jc_aload_n g (pc := 31) (n := 21) (t := 82) (i := 0) (by decide +kernel) rfl ?_
  refine jc_bipush g (pc := 32) (n := 21) (t := 82) (x := 6) (6) (by decide +kernel) (by decide +kernel) ?_
  refine jc_newaI g (pc := 34) (n := 21) (t := 82) (a := 202) (N := 6) (by decide +kernel) (by decide) (by decide) (by omega) (by omega) (by omega) (by decide +kernel) wa_i (by decide +kernel) ?_
  refine jc_put g (pc := 36) (n := 22) (t := 82) (i := 19) f5_28 (fun q h => by cases h; rfl) (by decide) (by decide +kernel) (by decide +kernel) (by omega) (by decide +kernel) (by decide +kernel) ?_
  refine jc_aload_n g (pc := 39) (n := 22) (t := 83) (i := 0) (by decide +kernel) rfl ?_
  refine jc_bipush g (pc := 40) (n := 22) (t := 83) (x := 6) (6) (by decide +kernel) (by decide +kernel) ?_
  refine jc_anewW g (pc := 42) (n := 22) (t := 83) (a := 203) (N := 6) (by decide +kernel) (by decide) (by decide) (by omega) (by omega) (by omega) (by decide +kernel) wk_5_31 (by decide +kernel) ?_
  refine jc_put g (pc := 45) (n := 23) (t := 83) (i := 19) f5_33 (fun q h => by cases h; rfl) (by decide) (by decide +kernel) (by decide +kernel) (by omega) (by decide +kernel) (by decide +kernel) ?_
  refine jc_aload_n g (pc := 48) (n := 23) (t := 84) (i := 0) (by decide +kernel) rfl ?_
  refine jc_iconst g (pc := 49) (n := 23) (t := 84) (x := 4) (4) (by decide +kernel) rfl ?_
  refine jc_newaI g (pc := 50) (n := 23) (t := 84) (a := 204) (N := 4) (by decide +kernel) (by decide) (by decide) (by omega) (by omega) (by omega) (by decide +kernel) wa_i (by decide +kernel) ?_
  refine jc_dup g (pc := 52) (n := 24) (t := 84) (by decide +kernel) rfl ?_
  refine jc_iconst g (pc := 53) (n := 24) (t := 84) (x := 0) (0) (by decide +kernel) rfl ?_
  refine jc_iconst g (pc := 54) (n := 24) (t := 84) (x := 0) (0) (by decide +kernel) rfl ?_
  refine jc_iast g (pc := 55) (n := 24) (t := 84) (i := 23) (N := 4) (by decide +kernel) (by omega) (by decide +kernel) (by rw [vin_iff]; decide +kernel) (by decide +kernel) ?_
  refine jc_dup g (pc := 56) (n := 24) (t := 85) (by decide +kernel) rfl ?_
  refine jc_iconst g (pc := 57) (n := 24) (t := 85) (x := 1) (1) (by decide +kernel) rfl ?_
  refine jc_iconst g (pc := 58) (n := 24) (t := 85) (x := 1) (1) (by decide +kernel) rfl ?_
  refine jc_iast g (pc := 59) (n := 24) (t := 85) (i := 23) (N := 4) (by decide +kernel) (by omega) (by decide +kernel) (by rw [vin_iff]; decide +kernel) (by decide +kernel) ?_
  refine jc_dup g (pc := 60) (n := 24) (t := 86) (by decide +kernel) rfl ?_
  refine jc_iconst g (pc := 61) (n := 24) (t := 86) (x := 2) (2) (by decide +kernel) rfl ?_
  refine jc_iconst g (pc := 62) (n := 24) (t := 86) (x := 5) (5) (by decide +kernel) rfl ?_
  refine jc_iast g (pc := 63) (n := 24) (t := 86) (i := 23) (N := 4) (by decide +kernel) (by omega) (by decide +kernel) (by rw [vin_iff]; decide +kernel) (by decide +kernel) ?_
  refine jc_dup g (pc := 64) (n := 24) (t := 87) (by decide +kernel) rfl ?_
  refine jc_iconst g (pc := 65) (n := 24) (t := 87) (x := 3) (3) (by decide +kernel) rfl ?_
  refine jc_iconst g (pc := 66) (n := 24) (t := 87) (x := 3) (3) (by decide +kernel) rfl ?_
  refine jc_iast g (pc := 67) (n := 24) (t := 87) (i := 23) (N := 4) (by decide +kernel) (by omega) (by decide +kernel) (by rw [vin_iff]; decide +kernel) (by decide +kernel) ?_
  refine jc_put g (pc := 68) (n := 24) (t := 88) (i := 19) f5_37 (fun q h => by cases h; rfl) (by decide) (by decide +kernel) (by decide +kernel) (by omega) (by decide +kernel) (by decide +kernel) ?_
  refine jc_aload_n g (pc := 71) (n := 24) (t := 89) (i := 0) (by decide +kernel) rfl ?_
  refine jc_iconst g (pc := 72) (n := 24) (t := 89) (x := 4) (4) (by decide +kernel) rfl ?_
  refine jc_newaI g (pc := 73) (n := 24) (t := 89) (a := 205) (N := 4) (by decide +kernel) (by decide) (by decide) (by omega) (by omega) (by omega) (by decide +kernel) wa_i (by decide +kernel) ?_
  refine jc_put g (pc := 75) (n := 25) (t := 89) (i := 19) f5_40 (fun q h => by cases h; rfl) (by decide) (by decide +kernel) (by decide +kernel) (by omega) (by decide +kernel) (by decide +kernel) ?_
  refine jc_aload_n g (pc := 78) (n := 25) (t := 90) (i := 0) (by decide +kernel) rfl ?_
  refine jc_iconst g (pc := 79) (n := 25) (t := 90) (x := 4) (4) (by decide +kernel) rfl ?_
  refine jc_newaI g (pc := 80) (n := 25) (t := 90) (a := 206) (N := 4) (by decide +kernel) (by decide) (by decide) (by omega) (by omega) (by omega) (by decide +kernel) wa_i (by decide +kernel) ?_
  refine jc_put g (pc := 82) (n := 26) (t := 90) (i := 19) f5_43 (fun q h => by cases h; rfl) (by decide) (by decide +kernel) (by decide +kernel) (by omega) (by decide +kernel) (by decide +kernel) ?_
  refine jc_aload_n g (pc := 85) (n := 26) (t := 91) (i := 0) (by decide +kernel) rfl ?_
  refine jc_new g (pc := 86) (n := 26) (t := 91) (ci := 3) (a := 1010) rfl (by decide +kernel) (by omega) (by omega) (by decide +kernel) wk_5_46 wn_3 wz_3 (by decide +kernel) ?_
  refine jc_dup g (pc := 89) (n := 27) (t := 91) (by decide +kernel) rfl ?_
  refine jc_callN g (pc := 90) (n := 27) (t := 91) (As := []) cz_1010 wm_5_48 cb_3 (by omega) (by omega) (by omega) rfl (by decide +kernel) (by decide +kernel) (by decide) (by decide +kernel) ?_
  refine jc_put g (pc := 93) (n := 31) (t := 98) (i := 19) f5_49 (fun q h => by cases h; rfl) (by decide) (by decide +kernel) (by decide +kernel) (by omega) (by decide +kernel) (by decide +kernel) ?_
  refine jc_iconst g (pc := 96) (n := 31) (t := 99) (x := 0) (0) (by decide +kernel) rfl ?_
  refine jc_istore_n g (pc := 97) (n := 31) (t := 99) (i := 1) (by decide +kernel) (by decide) ?_
  dsimp only [stL, clL, hdL]
  refine jc_iload_n g (pc := 98) (n := 31) (t := 99) (i := 1) (by decide +kernel) rfl ?_
  refine jc_bipush g (pc := 99) (n := 31) (t := 99) (x := 6) (6) (by decide +kernel) (by decide +kernel) ?_
  refine jc_ge_f g (pc := 101) (n := 31) (t := 99) (off := 22) (tgt := 123) (by decide +kernel) (by decide) (by decide) ?_
  refine jc_aload_n g (pc := 104) (n := 31) (t := 99) (i := 0) (by decide +kernel) rfl ?_
  refine jc_get g (pc := 105) (n := 31) (t := 99) (i := 19) (b := 203) f5_33 (by decide +kernel) (by omega) (by decide +kernel) (by decide +kernel) ?_
  refine jc_iload_n g (pc := 108) (n := 31) (t := 99) (i := 1) (by decide +kernel) rfl ?_
  refine jc_new g (pc := 109) (n := 31) (t := 99) (ci := 6) (a := 210) rfl (by decide +kernel) (by omega) (by omega) (by decide +kernel) wk_5_31 wn_6 wz_6 (by decide +kernel) ?_
  refine jc_dup g (pc := 112) (n := 32) (t := 99) (by decide +kernel) rfl ?_
  refine jc_callN g (pc := 113) (n := 32) (t := 99) (As := []) cz_210 wm_5_53 cb_6 (by omega) (by omega) (by omega) rfl (by decide +kernel) (by decide +kernel) (by decide) (by decide +kernel) ?_
  refine jc_aastW g (pc := 116) (n := 32) (t := 107) (i := 22) (N := 6) (i2 := 31) (by decide +kernel) (by omega) (by decide +kernel) (by omega) (by decide +kernel) (by rw [vin_iff]; decide +kernel) (by decide +kernel) ?_
  refine jc_iinc g (pc := 117) (n := 32) (t := 108) (i := 1) (z := 1) (1) (by decide +kernel) rfl (by decide) rfl ?_
  dsimp only [stL, clL, hdL]
  refine jc_goto g (pc := 120) (n := 32) (t := 108) (off := -22) (tgt := 98) (by decide +kernel) (by decide) ?_
  refine jc_iload_n g (pc := 98) (n := 32) (t := 108) (i := 1) (by decide +kernel) rfl ?_
  refine jc_bipush g (pc := 99) (n := 32) (t := 108) (x := 6) (6) (by decide +kernel) (by decide +kernel) ?_
  refine jc_ge_f g (pc := 101) (n := 32) (t := 108) (off := 22) (tgt := 123) (by decide +kernel) (by decide) (by decide) ?_
  refine jc_aload_n g (pc := 104) (n := 32) (t := 108) (i := 0) (by decide +kernel) rfl ?_
  refine jc_get g (pc := 105) (n := 32) (t := 108) (i := 19) (b := 203) f5_33 (by decide +kernel) (by omega) (by decide +kernel) (by decide +kernel) ?_
  refine jc_iload_n g (pc := 108) (n := 32) (t := 108) (i := 1) (by decide +kernel) rfl ?_
  refine jc_new g (pc := 109) (n := 32) (t := 108) (ci := 6) (a := 211) rfl (by decide +kernel) (by omega) (by omega) (by decide +kernel) wk_5_31 wn_6 wz_6 (by decide +kernel) ?_
  refine jc_dup g (pc := 112) (n := 33) (t := 108) (by decide +kernel) rfl ?_
  refine jc_callN g (pc := 113) (n := 33) (t := 108) (As := []) cz_211 wm_5_53 cb_6 (by omega) (by omega) (by omega) rfl (by decide +kernel) (by decide +kernel) (by decide) (by decide +kernel) ?_
  refine jc_aastW g (pc := 116) (n := 33) (t := 116) (i := 22) (N := 6) (i2 := 32) (by decide +kernel) (by omega) (by decide +kernel) (by omega) (by decide +kernel) (by rw [vin_iff]; decide +kernel) (by decide +kernel) ?_
  refine jc_iinc g (pc := 117) (n := 33) (t := 117) (i := 1) (z := 1) (1) (by decide +kernel) rfl (by decide) rfl ?_
  dsimp only [stL, clL, hdL]
  refine jc_goto g (pc := 120) (n := 33) (t := 117) (off := -22) (tgt := 98) (by decide +kernel) (by decide) ?_
  refine jc_iload_n g (pc := 98) (n := 33) (t := 117) (i := 1) (by decide +kernel) rfl ?_
  refine jc_bipush g (pc := 99) (n := 33) (t := 117) (x := 6) (6) (by decide +kernel) (by decide +kernel) ?_
  refine jc_ge_f g (pc := 101) (n := 33) (t := 117) (off := 22) (tgt := 123) (by decide +kernel) (by decide) (by decide) ?_
  refine jc_aload_n g (pc := 104) (n := 33) (t := 117) (i := 0) (by decide +kernel) rfl ?_
  refine jc_get g (pc := 105) (n := 33) (t := 117) (i := 19) (b := 203) f5_33 (by decide +kernel) (by omega) (by decide +kernel) (by decide +kernel) ?_
  refine jc_iload_n g (pc := 108) (n := 33) (t := 117) (i := 1) (by decide +kernel) rfl ?_
  refine jc_new g (pc := 109) (n := 33) (t := 117) (ci := 6) (a := 212) rfl (by decide +kernel) (by omega) (by omega) (by decide +kernel) wk_5_31 wn_6 wz_6 (by decide +kernel) ?_
  refine jc_dup g (pc := 112) (n := 34) (t := 117) (by decide +kernel) rfl ?_
  refine jc_callN g (pc := 113) (n := 34) (t := 117) (As := []) cz_212 wm_5_53 cb_6 (by omega) (by omega) (by omega) rfl (by decide +kernel) (by decide +kernel) (by decide) (by decide +kernel) ?_
  refine jc_aastW g (pc := 116) (n := 34) (t := 125) (i := 22) (N := 6) (i2 := 33) (by decide +kernel) (by omega) (by decide +kernel) (by omega) (by decide +kernel) (by rw [vin_iff]; decide +kernel) (by decide +kernel) ?_
  refine jc_iinc g (pc := 117) (n := 34) (t := 126) (i := 1) (z := 1) (1) (by decide +kernel) rfl (by decide) rfl ?_
  dsimp only [stL, clL, hdL]
  refine jc_goto g (pc := 120) (n := 34) (t := 126) (off := -22) (tgt := 98) (by decide +kernel) (by decide) ?_
  refine jc_iload_n g (pc := 98) (n := 34) (t := 126) (i := 1) (by decide +kernel) rfl ?_
  refine jc_bipush g (pc := 99) (n := 34) (t := 126) (x := 6) (6) (by decide +kernel) (by decide +kernel) ?_
  refine jc_ge_f g (pc := 101) (n := 34) (t := 126) (off := 22) (tgt := 123) (by decide +kernel) (by decide) (by decide) ?_
  refine jc_aload_n g (pc := 104) (n := 34) (t := 126) (i := 0) (by decide +kernel) rfl ?_
  refine jc_get g (pc := 105) (n := 34) (t := 126) (i := 19) (b := 203) f5_33 (by decide +kernel) (by omega) (by decide +kernel) (by decide +kernel) ?_
  refine jc_iload_n g (pc := 108) (n := 34) (t := 126) (i := 1) (by decide +kernel) rfl ?_
  refine jc_new g (pc := 109) (n := 34) (t := 126) (ci := 6) (a := 213) rfl (by decide +kernel) (by omega) (by omega) (by decide +kernel) wk_5_31 wn_6 wz_6 (by decide +kernel) ?_
  refine jc_dup g (pc := 112) (n := 35) (t := 126) (by decide +kernel) rfl ?_
  refine jc_callN g (pc := 113) (n := 35) (t := 126) (As := []) cz_213 wm_5_53 cb_6 (by omega) (by omega) (by omega) rfl (by decide +kernel) (by decide +kernel) (by decide) (by decide +kernel) ?_
  refine jc_aastW g (pc := 116) (n := 35) (t := 134) (i := 22) (N := 6) (i2 := 34) (by decide +kernel) (by omega) (by decide +kernel) (by omega) (by decide +kernel) (by rw [vin_iff]; decide +kernel) (by decide +kernel) ?_
  refine jc_iinc g (pc := 117) (n := 35) (t := 135) (i := 1) (z := 1) (1) (by decide +kernel) rfl (by decide) rfl ?_
  dsimp only [stL, clL, hdL]
  refine jc_goto g (pc := 120) (n := 35) (t := 135) (off := -22) (tgt := 98) (by decide +kernel) (by decide) ?_
  refine jc_iload_n g (pc := 98) (n := 35) (t := 135) (i := 1) (by decide +kernel) rfl ?_
  refine jc_bipush g (pc := 99) (n := 35) (t := 135) (x := 6) (6) (by decide +kernel) (by decide +kernel) ?_
  refine jc_ge_f g (pc := 101) (n := 35) (t := 135) (off := 22) (tgt := 123) (by decide +kernel) (by decide) (by decide) ?_
  refine jc_aload_n g (pc := 104) (n := 35) (t := 135) (i := 0) (by decide +kernel) rfl ?_
  refine jc_get g (pc := 105) (n := 35) (t := 135) (i := 19) (b := 203) f5_33 (by decide +kernel) (by omega) (by decide +kernel) (by decide +kernel) ?_
  refine jc_iload_n g (pc := 108) (n := 35) (t := 135) (i := 1) (by decide +kernel) rfl ?_
  refine jc_new g (pc := 109) (n := 35) (t := 135) (ci := 6) (a := 214) rfl (by decide +kernel) (by omega) (by omega) (by decide +kernel) wk_5_31 wn_6 wz_6 (by decide +kernel) ?_
  refine jc_dup g (pc := 112) (n := 36) (t := 135) (by decide +kernel) rfl ?_
  refine jc_callN g (pc := 113) (n := 36) (t := 135) (As := []) cz_214 wm_5_53 cb_6 (by omega) (by omega) (by omega) rfl (by decide +kernel) (by decide +kernel) (by decide) (by decide +kernel) ?_
  refine jc_aastW g (pc := 116) (n := 36) (t := 143) (i := 22) (N := 6) (i2 := 35) (by decide +kernel) (by omega) (by decide +kernel) (by omega) (by decide +kernel) (by rw [vin_iff]; decide +kernel) (by decide +kernel) ?_
  refine jc_iinc g (pc := 117) (n := 36) (t := 144) (i := 1) (z := 1) (1) (by decide +kernel) rfl (by decide) rfl ?_
  dsimp only [stL, clL, hdL]
  refine jc_goto g (pc := 120) (n := 36) (t := 144) (off := -22) (tgt := 98) (by decide +kernel) (by decide) ?_
  refine jc_iload_n g (pc := 98) (n := 36) (t := 144) (i := 1) (by decide +kernel) rfl ?_
  refine jc_bipush g (pc := 99) (n := 36) (t := 144) (x := 6) (6) (by decide +kernel) (by decide +kernel) ?_
  refine jc_ge_f g (pc := 101) (n := 36) (t := 144) (off := 22) (tgt := 123) (by decide +kernel) (by decide) (by decide) ?_
  refine jc_aload_n g (pc := 104) (n := 36) (t := 144) (i := 0) (by decide +kernel) rfl ?_
  refine jc_get g (pc := 105) (n := 36) (t := 144) (i := 19) (b := 203) f5_33 (by decide +kernel) (by omega) (by decide +kernel) (by decide +kernel) ?_
  refine jc_iload_n g (pc := 108) (n := 36) (t := 144) (i := 1) (by decide +kernel) rfl ?_
  refine jc_new g (pc := 109) (n := 36) (t := 144) (ci := 6) (a := 215) rfl (by decide +kernel) (by omega) (by omega) (by decide +kernel) wk_5_31 wn_6 wz_6 (by decide +kernel) ?_
  refine jc_dup g (pc := 112) (n := 37) (t := 144) (by decide +kernel) rfl ?_
  refine jc_callN g (pc := 113) (n := 37) (t := 144) (As := []) cz_215 wm_5_53 cb_6 (by omega) (by omega) (by omega) rfl (by decide +kernel) (by decide +kernel) (by decide) (by decide +kernel) ?_
  refine jc_aastW g (pc := 116) (n := 37) (t := 152) (i := 22) (N := 6) (i2 := 36) (by decide +kernel) (by omega) (by decide +kernel) (by omega) (by decide +kernel) (by rw [vin_iff]; decide +kernel) (by decide +kernel) ?_
  refine jc_iinc g (pc := 117) (n := 37) (t := 153) (i := 1) (z := 1) (1) (by decide +kernel) rfl (by decide) rfl ?_
  dsimp only [stL, clL, hdL]
  refine jc_goto g (pc := 120) (n := 37) (t := 153) (off := -22) (tgt := 98) (by decide +kernel) (by decide) ?_
  refine jc_iload_n g (pc := 98) (n := 37) (t := 153) (i := 1) (by decide +kernel) rfl ?_
  refine jc_bipush g (pc := 99) (n := 37) (t := 153) (x := 6) (6) (by decide +kernel) (by decide +kernel) ?_
  refine jc_ge_t g (pc := 101) (n := 37) (t := 153) (off := 22) (tgt := 123) (by decide +kernel) (by decide) (by decide) ?_
  exact ret _ _ (by decide +kernel)
theorem cz_1020 : Rc 1 mXc3 [.ref 1020] 45 168 49 175 := by
  refine Rc.of [some (.ref 1020)] (by decide) rfl rfl rfl (by decide) rfl ?_
  intro J g ret
  refine jc_aload_n g (pc := 0) (n := 45) (t := 168) (i := 0) (by decide +kernel) rfl ?_
  refine jc_obj g (pc := 1) (n := 45) (t := 168) (by omega) wo_3 wo_i wo_c (by decide) (by decide +kernel) ?_
  refine jc_aload_n g (pc := 4) (n := 45) (t := 168) (i := 0) (by decide +kernel) rfl ?_
  refine jc_iconst g (pc := 5) (n := 45) (t := 168) (x := 3) (3) (by decide +kernel) rfl ?_
  refine jc_newaI g (pc := 6) (n := 45) (t := 168) (a := 1021) (N := 3) (by decide +kernel) (by decide) (by decide) (by omega) (by omega) (by omega) (by decide +kernel) wa_i (by decide +kernel) ?_
  refine jc_put g (pc := 8) (n := 46) (t := 168) (i := 44) f3_9 (fun q h => by cases h; rfl) (by decide) (by decide +kernel) (by decide +kernel) (by omega) (by decide +kernel) (by decide +kernel) ?_
  refine jc_aload_n g (pc := 11) (n := 46) (t := 169) (i := 0) (by decide +kernel) rfl ?_
  refine jc_bipush g (pc := 12) (n := 46) (t := 169) (x := 6) (6) (by decide +kernel) (by decide +kernel) ?_
  refine jc_newaI g (pc := 14) (n := 46) (t := 169) (a := 1022) (N := 6) (by decide +kernel) (by decide) (by decide) (by omega) (by omega) (by omega) (by decide +kernel) wa_i (by decide +kernel) ?_
  refine jc_put g (pc := 16) (n := 47) (t := 169) (i := 44) f3_15 (fun q h => by cases h; rfl) (by decide) (by decide +kernel) (by decide +kernel) (by omega) (by decide +kernel) (by decide +kernel) ?_
  refine jc_aload_n g (pc := 19) (n := 47) (t := 170) (i := 0) (by decide +kernel) rfl ?_
  refine jc_bipush g (pc := 20) (n := 47) (t := 170) (x := 6) (6) (by decide +kernel) (by decide +kernel) ?_
  refine jc_newaI g (pc := 22) (n := 47) (t := 170) (a := 1023) (N := 6) (by decide +kernel) (by decide) (by decide) (by omega) (by omega) (by omega) (by decide +kernel) wa_i (by decide +kernel) ?_
  refine jc_put g (pc := 24) (n := 48) (t := 170) (i := 44) f3_18 (fun q h => by cases h; rfl) (by decide) (by decide +kernel) (by decide +kernel) (by omega) (by decide +kernel) (by decide +kernel) ?_
  refine jc_aload_n g (pc := 27) (n := 48) (t := 171) (i := 0) (by decide +kernel) rfl ?_
  refine jc_bipush g (pc := 28) (n := 48) (t := 171) (x := 6) (6) (by decide +kernel) (by decide +kernel) ?_
  refine jc_newaI g (pc := 30) (n := 48) (t := 171) (a := 1024) (N := 6) (by decide +kernel) (by decide) (by decide) (by omega) (by omega) (by omega) (by decide +kernel) wa_i (by decide +kernel) ?_
  refine jc_put g (pc := 32) (n := 49) (t := 171) (i := 44) f3_21 (fun q h => by cases h; rfl) (by decide) (by decide +kernel) (by decide +kernel) (by omega) (by decide +kernel) (by decide +kernel) ?_
  refine jc_aload_n g (pc := 35) (n := 49) (t := 172) (i := 0) (by decide +kernel) rfl ?_
  refine jc_iconst g (pc := 36) (n := 49) (t := 172) (x := 0) (0) (by decide +kernel) rfl ?_
  refine jc_put g (pc := 37) (n := 49) (t := 172) (i := 44) f3_24 (fun q h => by cases h; rfl) (by decide) (by decide +kernel) (by decide +kernel) (by omega) (by decide +kernel) (by decide +kernel) ?_
  refine jc_aload_n g (pc := 40) (n := 49) (t := 173) (i := 0) (by decide +kernel) rfl ?_
  refine jc_iconst g (pc := 41) (n := 49) (t := 173) (x := 0) (0) (by decide +kernel) rfl ?_
  refine jc_put g (pc := 42) (n := 49) (t := 173) (i := 44) f3_28 (fun q h => by cases h; rfl) (by decide) (by decide +kernel) (by decide +kernel) (by omega) (by decide +kernel) (by decide +kernel) ?_
  refine jc_aload_n g (pc := 45) (n := 49) (t := 174) (i := 0) (by decide +kernel) rfl ?_
  refine jc_iconst g (pc := 46) (n := 49) (t := 174) (x := 0) (0) (by decide +kernel) rfl ?_
  refine jc_put g (pc := 47) (n := 49) (t := 174) (i := 44) f3_31 (fun q h => by cases h; rfl) (by decide) (by decide +kernel) (by decide +kernel) (by omega) (by decide +kernel) (by decide +kernel) ?_
  exact ret _ _ (by decide +kernel)
theorem cz_310 : Rc 1 mXc6 [.ref 310] 50 176 50 184 := by
  refine Rc.of [some (.ref 310)] (by decide) rfl rfl rfl (by decide) rfl ?_
  intro J g ret
  refine jc_aload_n g (pc := 0) (n := 50) (t := 176) (i := 0) (by decide +kernel) rfl ?_
  refine jc_obj g (pc := 1) (n := 50) (t := 176) (by omega) wo_6 wo_i wo_c (by decide) (by decide +kernel) ?_
  refine jc_aload_n g (pc := 4) (n := 50) (t := 176) (i := 0) (by decide +kernel) rfl ?_
  refine jc_iconst g (pc := 5) (n := 50) (t := 176) (x := 0) (0) (by decide +kernel) rfl ?_
  refine jc_put g (pc := 6) (n := 50) (t := 176) (i := 49) f6_7 (fun q h => by cases h; rfl) (by decide) (by decide +kernel) (by decide +kernel) (by omega) (by decide +kernel) (by decide +kernel) ?_
  refine jc_aload_n g (pc := 9) (n := 50) (t := 177) (i := 0) (by decide +kernel) rfl ?_
  refine jc_iconst g (pc := 10) (n := 50) (t := 177) (x := 0) (0) (by decide +kernel) rfl ?_
  refine jc_put g (pc := 11) (n := 50) (t := 177) (i := 49) f6_13 (fun q h => by cases h; rfl) (by decide) (by decide +kernel) (by decide +kernel) (by omega) (by decide +kernel) (by decide +kernel) ?_
  refine jc_aload_n g (pc := 14) (n := 50) (t := 178) (i := 0) (by decide +kernel) rfl ?_
  refine jc_iconst g (pc := 15) (n := 50) (t := 178) (x := 0) (0) (by decide +kernel) rfl ?_
  refine jc_put g (pc := 16) (n := 50) (t := 178) (i := 49) f6_16 (fun q h => by cases h; rfl) (by decide) (by decide +kernel) (by decide +kernel) (by omega) (by decide +kernel) (by decide +kernel) ?_
  refine jc_aload_n g (pc := 19) (n := 50) (t := 179) (i := 0) (by decide +kernel) rfl ?_
  refine jc_iconst g (pc := 20) (n := 50) (t := 179) (x := 0) (0) (by decide +kernel) rfl ?_
  refine jc_put g (pc := 21) (n := 50) (t := 179) (i := 49) f6_19 (fun q h => by cases h; rfl) (by decide) (by decide +kernel) (by decide +kernel) (by omega) (by decide +kernel) (by decide +kernel) ?_
  refine jc_aload_n g (pc := 24) (n := 50) (t := 180) (i := 0) (by decide +kernel) rfl ?_
  refine jc_iconst g (pc := 25) (n := 50) (t := 180) (x := 0) (0) (by decide +kernel) rfl ?_
  refine jc_put g (pc := 26) (n := 50) (t := 180) (i := 49) f6_22 (fun q h => by cases h; rfl) (by decide) (by decide +kernel) (by decide +kernel) (by omega) (by decide +kernel) (by decide +kernel) ?_
  refine jc_aload_n g (pc := 29) (n := 50) (t := 181) (i := 0) (by decide +kernel) rfl ?_
  refine jc_iconst g (pc := 30) (n := 50) (t := 181) (x := 0) (0) (by decide +kernel) rfl ?_
  refine jc_put g (pc := 31) (n := 50) (t := 181) (i := 49) f6_25 (fun q h => by cases h; rfl) (by decide) (by decide +kernel) (by decide +kernel) (by omega) (by decide +kernel) (by decide +kernel) ?_
  refine jc_aload_n g (pc := 34) (n := 50) (t := 182) (i := 0) (by decide +kernel) rfl ?_
  refine jc_iconst g (pc := 35) (n := 50) (t := 182) (x := -1) (-1) (by decide +kernel) rfl ?_
  refine jc_put g (pc := 36) (n := 50) (t := 182) (i := 49) f6_28 (fun q h => by cases h; rfl) (by decide) (by decide +kernel) (by decide +kernel) (by omega) (by decide +kernel) (by decide +kernel) ?_
  refine jc_aload_n g (pc := 39) (n := 50) (t := 183) (i := 0) (by decide +kernel) rfl ?_
  refine jc_iconst g (pc := 40) (n := 50) (t := 183) (x := 0) (0) (by decide +kernel) rfl ?_
  refine jc_put g (pc := 41) (n := 50) (t := 183) (i := 49) f6_31 (fun q h => by cases h; rfl) (by decide) (by decide +kernel) (by decide +kernel) (by omega) (by decide +kernel) (by decide +kernel) ?_
  exact ret _ _ (by decide +kernel)
theorem cz_311 : Rc 1 mXc6 [.ref 311] 51 185 51 193 := by
  refine Rc.of [some (.ref 311)] (by decide) rfl rfl rfl (by decide) rfl ?_
  intro J g ret
  refine jc_aload_n g (pc := 0) (n := 51) (t := 185) (i := 0) (by decide +kernel) rfl ?_
  refine jc_obj g (pc := 1) (n := 51) (t := 185) (by omega) wo_6 wo_i wo_c (by decide) (by decide +kernel) ?_
  refine jc_aload_n g (pc := 4) (n := 51) (t := 185) (i := 0) (by decide +kernel) rfl ?_
  refine jc_iconst g (pc := 5) (n := 51) (t := 185) (x := 0) (0) (by decide +kernel) rfl ?_
  refine jc_put g (pc := 6) (n := 51) (t := 185) (i := 50) f6_7 (fun q h => by cases h; rfl) (by decide) (by decide +kernel) (by decide +kernel) (by omega) (by decide +kernel) (by decide +kernel) ?_
  refine jc_aload_n g (pc := 9) (n := 51) (t := 186) (i := 0) (by decide +kernel) rfl ?_
  refine jc_iconst g (pc := 10) (n := 51) (t := 186) (x := 0) (0) (by decide +kernel) rfl ?_
  refine jc_put g (pc := 11) (n := 51) (t := 186) (i := 50) f6_13 (fun q h => by cases h; rfl) (by decide) (by decide +kernel) (by decide +kernel) (by omega) (by decide +kernel) (by decide +kernel) ?_
  refine jc_aload_n g (pc := 14) (n := 51) (t := 187) (i := 0) (by decide +kernel) rfl ?_
  refine jc_iconst g (pc := 15) (n := 51) (t := 187) (x := 0) (0) (by decide +kernel) rfl ?_
  refine jc_put g (pc := 16) (n := 51) (t := 187) (i := 50) f6_16 (fun q h => by cases h; rfl) (by decide) (by decide +kernel) (by decide +kernel) (by omega) (by decide +kernel) (by decide +kernel) ?_
  refine jc_aload_n g (pc := 19) (n := 51) (t := 188) (i := 0) (by decide +kernel) rfl ?_
  refine jc_iconst g (pc := 20) (n := 51) (t := 188) (x := 0) (0) (by decide +kernel) rfl ?_
  refine jc_put g (pc := 21) (n := 51) (t := 188) (i := 50) f6_19 (fun q h => by cases h; rfl) (by decide) (by decide +kernel) (by decide +kernel) (by omega) (by decide +kernel) (by decide +kernel) ?_
  refine jc_aload_n g (pc := 24) (n := 51) (t := 189) (i := 0) (by decide +kernel) rfl ?_
  refine jc_iconst g (pc := 25) (n := 51) (t := 189) (x := 0) (0) (by decide +kernel) rfl ?_
  refine jc_put g (pc := 26) (n := 51) (t := 189) (i := 50) f6_22 (fun q h => by cases h; rfl) (by decide) (by decide +kernel) (by decide +kernel) (by omega) (by decide +kernel) (by decide +kernel) ?_
  refine jc_aload_n g (pc := 29) (n := 51) (t := 190) (i := 0) (by decide +kernel) rfl ?_
  refine jc_iconst g (pc := 30) (n := 51) (t := 190) (x := 0) (0) (by decide +kernel) rfl ?_
  refine jc_put g (pc := 31) (n := 51) (t := 190) (i := 50) f6_25 (fun q h => by cases h; rfl) (by decide) (by decide +kernel) (by decide +kernel) (by omega) (by decide +kernel) (by decide +kernel) ?_
  refine jc_aload_n g (pc := 34) (n := 51) (t := 191) (i := 0) (by decide +kernel) rfl ?_
  refine jc_iconst g (pc := 35) (n := 51) (t := 191) (x := -1) (-1) (by decide +kernel) rfl ?_
  refine jc_put g (pc := 36) (n := 51) (t := 191) (i := 50) f6_28 (fun q h => by cases h; rfl) (by decide) (by decide +kernel) (by decide +kernel) (by omega) (by decide +kernel) (by decide +kernel) ?_
  refine jc_aload_n g (pc := 39) (n := 51) (t := 192) (i := 0) (by decide +kernel) rfl ?_
  refine jc_iconst g (pc := 40) (n := 51) (t := 192) (x := 0) (0) (by decide +kernel) rfl ?_
  refine jc_put g (pc := 41) (n := 51) (t := 192) (i := 50) f6_31 (fun q h => by cases h; rfl) (by decide) (by decide +kernel) (by decide +kernel) (by omega) (by decide +kernel) (by decide +kernel) ?_
  exact ret _ _ (by decide +kernel)
theorem cz_312 : Rc 1 mXc6 [.ref 312] 52 194 52 202 := by
  refine Rc.of [some (.ref 312)] (by decide) rfl rfl rfl (by decide) rfl ?_
  intro J g ret
  refine jc_aload_n g (pc := 0) (n := 52) (t := 194) (i := 0) (by decide +kernel) rfl ?_
  refine jc_obj g (pc := 1) (n := 52) (t := 194) (by omega) wo_6 wo_i wo_c (by decide) (by decide +kernel) ?_
  refine jc_aload_n g (pc := 4) (n := 52) (t := 194) (i := 0) (by decide +kernel) rfl ?_
  refine jc_iconst g (pc := 5) (n := 52) (t := 194) (x := 0) (0) (by decide +kernel) rfl ?_
  refine jc_put g (pc := 6) (n := 52) (t := 194) (i := 51) f6_7 (fun q h => by cases h; rfl) (by decide) (by decide +kernel) (by decide +kernel) (by omega) (by decide +kernel) (by decide +kernel) ?_
  refine jc_aload_n g (pc := 9) (n := 52) (t := 195) (i := 0) (by decide +kernel) rfl ?_
  refine jc_iconst g (pc := 10) (n := 52) (t := 195) (x := 0) (0) (by decide +kernel) rfl ?_
  refine jc_put g (pc := 11) (n := 52) (t := 195) (i := 51) f6_13 (fun q h => by cases h; rfl) (by decide) (by decide +kernel) (by decide +kernel) (by omega) (by decide +kernel) (by decide +kernel) ?_
  refine jc_aload_n g (pc := 14) (n := 52) (t := 196) (i := 0) (by decide +kernel) rfl ?_
  refine jc_iconst g (pc := 15) (n := 52) (t := 196) (x := 0) (0) (by decide +kernel) rfl ?_
  refine jc_put g (pc := 16) (n := 52) (t := 196) (i := 51) f6_16 (fun q h => by cases h; rfl) (by decide) (by decide +kernel) (by decide +kernel) (by omega) (by decide +kernel) (by decide +kernel) ?_
  refine jc_aload_n g (pc := 19) (n := 52) (t := 197) (i := 0) (by decide +kernel) rfl ?_
  refine jc_iconst g (pc := 20) (n := 52) (t := 197) (x := 0) (0) (by decide +kernel) rfl ?_
  refine jc_put g (pc := 21) (n := 52) (t := 197) (i := 51) f6_19 (fun q h => by cases h; rfl) (by decide) (by decide +kernel) (by decide +kernel) (by omega) (by decide +kernel) (by decide +kernel) ?_
  refine jc_aload_n g (pc := 24) (n := 52) (t := 198) (i := 0) (by decide +kernel) rfl ?_
  refine jc_iconst g (pc := 25) (n := 52) (t := 198) (x := 0) (0) (by decide +kernel) rfl ?_
  refine jc_put g (pc := 26) (n := 52) (t := 198) (i := 51) f6_22 (fun q h => by cases h; rfl) (by decide) (by decide +kernel) (by decide +kernel) (by omega) (by decide +kernel) (by decide +kernel) ?_
  refine jc_aload_n g (pc := 29) (n := 52) (t := 199) (i := 0) (by decide +kernel) rfl ?_
  refine jc_iconst g (pc := 30) (n := 52) (t := 199) (x := 0) (0) (by decide +kernel) rfl ?_
  refine jc_put g (pc := 31) (n := 52) (t := 199) (i := 51) f6_25 (fun q h => by cases h; rfl) (by decide) (by decide +kernel) (by decide +kernel) (by omega) (by decide +kernel) (by decide +kernel) ?_
  refine jc_aload_n g (pc := 34) (n := 52) (t := 200) (i := 0) (by decide +kernel) rfl ?_
  refine jc_iconst g (pc := 35) (n := 52) (t := 200) (x := -1) (-1) (by decide +kernel) rfl ?_
  refine jc_put g (pc := 36) (n := 52) (t := 200) (i := 51) f6_28 (fun q h => by cases h; rfl) (by decide) (by decide +kernel) (by decide +kernel) (by omega) (by decide +kernel) (by decide +kernel) ?_
  refine jc_aload_n g (pc := 39) (n := 52) (t := 201) (i := 0) (by decide +kernel) rfl ?_
  refine jc_iconst g (pc := 40) (n := 52) (t := 201) (x := 0) (0) (by decide +kernel) rfl ?_
  refine jc_put g (pc := 41) (n := 52) (t := 201) (i := 51) f6_31 (fun q h => by cases h; rfl) (by decide) (by decide +kernel) (by decide +kernel) (by omega) (by decide +kernel) (by decide +kernel) ?_
  exact ret _ _ (by decide +kernel)
theorem cz_313 : Rc 1 mXc6 [.ref 313] 53 203 53 211 := by
  refine Rc.of [some (.ref 313)] (by decide) rfl rfl rfl (by decide) rfl ?_
  intro J g ret
  refine jc_aload_n g (pc := 0) (n := 53) (t := 203) (i := 0) (by decide +kernel) rfl ?_
  refine jc_obj g (pc := 1) (n := 53) (t := 203) (by omega) wo_6 wo_i wo_c (by decide) (by decide +kernel) ?_
  refine jc_aload_n g (pc := 4) (n := 53) (t := 203) (i := 0) (by decide +kernel) rfl ?_
  refine jc_iconst g (pc := 5) (n := 53) (t := 203) (x := 0) (0) (by decide +kernel) rfl ?_
  refine jc_put g (pc := 6) (n := 53) (t := 203) (i := 52) f6_7 (fun q h => by cases h; rfl) (by decide) (by decide +kernel) (by decide +kernel) (by omega) (by decide +kernel) (by decide +kernel) ?_
  refine jc_aload_n g (pc := 9) (n := 53) (t := 204) (i := 0) (by decide +kernel) rfl ?_
  refine jc_iconst g (pc := 10) (n := 53) (t := 204) (x := 0) (0) (by decide +kernel) rfl ?_
  refine jc_put g (pc := 11) (n := 53) (t := 204) (i := 52) f6_13 (fun q h => by cases h; rfl) (by decide) (by decide +kernel) (by decide +kernel) (by omega) (by decide +kernel) (by decide +kernel) ?_
  refine jc_aload_n g (pc := 14) (n := 53) (t := 205) (i := 0) (by decide +kernel) rfl ?_
  refine jc_iconst g (pc := 15) (n := 53) (t := 205) (x := 0) (0) (by decide +kernel) rfl ?_
  refine jc_put g (pc := 16) (n := 53) (t := 205) (i := 52) f6_16 (fun q h => by cases h; rfl) (by decide) (by decide +kernel) (by decide +kernel) (by omega) (by decide +kernel) (by decide +kernel) ?_
  refine jc_aload_n g (pc := 19) (n := 53) (t := 206) (i := 0) (by decide +kernel) rfl ?_
  refine jc_iconst g (pc := 20) (n := 53) (t := 206) (x := 0) (0) (by decide +kernel) rfl ?_
  refine jc_put g (pc := 21) (n := 53) (t := 206) (i := 52) f6_19 (fun q h => by cases h; rfl) (by decide) (by decide +kernel) (by decide +kernel) (by omega) (by decide +kernel) (by decide +kernel) ?_
  refine jc_aload_n g (pc := 24) (n := 53) (t := 207) (i := 0) (by decide +kernel) rfl ?_
  refine jc_iconst g (pc := 25) (n := 53) (t := 207) (x := 0) (0) (by decide +kernel) rfl ?_
  refine jc_put g (pc := 26) (n := 53) (t := 207) (i := 52) f6_22 (fun q h => by cases h; rfl) (by decide) (by decide +kernel) (by decide +kernel) (by omega) (by decide +kernel) (by decide +kernel) ?_
  refine jc_aload_n g (pc := 29) (n := 53) (t := 208) (i := 0) (by decide +kernel) rfl ?_
  refine jc_iconst g (pc := 30) (n := 53) (t := 208) (x := 0) (0) (by decide +kernel) rfl ?_
  refine jc_put g (pc := 31) (n := 53) (t := 208) (i := 52) f6_25 (fun q h => by cases h; rfl) (by decide) (by decide +kernel) (by decide +kernel) (by omega) (by decide +kernel) (by decide +kernel) ?_
  refine jc_aload_n g (pc := 34) (n := 53) (t := 209) (i := 0) (by decide +kernel) rfl ?_
  refine jc_iconst g (pc := 35) (n := 53) (t := 209) (x := -1) (-1) (by decide +kernel) rfl ?_
  refine jc_put g (pc := 36) (n := 53) (t := 209) (i := 52) f6_28 (fun q h => by cases h; rfl) (by decide) (by decide +kernel) (by decide +kernel) (by omega) (by decide +kernel) (by decide +kernel) ?_
  refine jc_aload_n g (pc := 39) (n := 53) (t := 210) (i := 0) (by decide +kernel) rfl ?_
  refine jc_iconst g (pc := 40) (n := 53) (t := 210) (x := 0) (0) (by decide +kernel) rfl ?_
  refine jc_put g (pc := 41) (n := 53) (t := 210) (i := 52) f6_31 (fun q h => by cases h; rfl) (by decide) (by decide +kernel) (by decide +kernel) (by omega) (by decide +kernel) (by decide +kernel) ?_
  exact ret _ _ (by decide +kernel)
theorem cz_314 : Rc 1 mXc6 [.ref 314] 54 212 54 220 := by
  refine Rc.of [some (.ref 314)] (by decide) rfl rfl rfl (by decide) rfl ?_
  intro J g ret
  refine jc_aload_n g (pc := 0) (n := 54) (t := 212) (i := 0) (by decide +kernel) rfl ?_
  refine jc_obj g (pc := 1) (n := 54) (t := 212) (by omega) wo_6 wo_i wo_c (by decide) (by decide +kernel) ?_
  refine jc_aload_n g (pc := 4) (n := 54) (t := 212) (i := 0) (by decide +kernel) rfl ?_
  refine jc_iconst g (pc := 5) (n := 54) (t := 212) (x := 0) (0) (by decide +kernel) rfl ?_
  refine jc_put g (pc := 6) (n := 54) (t := 212) (i := 53) f6_7 (fun q h => by cases h; rfl) (by decide) (by decide +kernel) (by decide +kernel) (by omega) (by decide +kernel) (by decide +kernel) ?_
  refine jc_aload_n g (pc := 9) (n := 54) (t := 213) (i := 0) (by decide +kernel) rfl ?_
  refine jc_iconst g (pc := 10) (n := 54) (t := 213) (x := 0) (0) (by decide +kernel) rfl ?_
  refine jc_put g (pc := 11) (n := 54) (t := 213) (i := 53) f6_13 (fun q h => by cases h; rfl) (by decide) (by decide +kernel) (by decide +kernel) (by omega) (by decide +kernel) (by decide +kernel) ?_
  refine jc_aload_n g (pc := 14) (n := 54) (t := 214) (i := 0) (by decide +kernel) rfl ?_
  refine jc_iconst g (pc := 15) (n := 54) (t := 214) (x := 0) (0) (by decide +kernel) rfl ?_
  refine jc_put g (pc := 16) (n := 54) (t := 214) (i := 53) f6_16 (fun q h => by cases h; rfl) (by decide) (by decide +kernel) (by decide +kernel) (by omega) (by decide +kernel) (by decide +kernel) ?_
  refine jc_aload_n g (pc := 19) (n := 54) (t := 215) (i := 0) (by decide +kernel) rfl ?_
  refine jc_iconst g (pc := 20) (n := 54) (t := 215) (x := 0) (0) (by decide +kernel) rfl ?_
  refine jc_put g (pc := 21) (n := 54) (t := 215) (i := 53) f6_19 (fun q h => by cases h; rfl) (by decide) (by decide +kernel) (by decide +kernel) (by omega) (by decide +kernel) (by decide +kernel) ?_
  refine jc_aload_n g (pc := 24) (n := 54) (t := 216) (i := 0) (by decide +kernel) rfl ?_
  refine jc_iconst g (pc := 25) (n := 54) (t := 216) (x := 0) (0) (by decide +kernel) rfl ?_
  refine jc_put g (pc := 26) (n := 54) (t := 216) (i := 53) f6_22 (fun q h => by cases h; rfl) (by decide) (by decide +kernel) (by decide +kernel) (by omega) (by decide +kernel) (by decide +kernel) ?_
  refine jc_aload_n g (pc := 29) (n := 54) (t := 217) (i := 0) (by decide +kernel) rfl ?_
  refine jc_iconst g (pc := 30) (n := 54) (t := 217) (x := 0) (0) (by decide +kernel) rfl ?_
  refine jc_put g (pc := 31) (n := 54) (t := 217) (i := 53) f6_25 (fun q h => by cases h; rfl) (by decide) (by decide +kernel) (by decide +kernel) (by omega) (by decide +kernel) (by decide +kernel) ?_
  refine jc_aload_n g (pc := 34) (n := 54) (t := 218) (i := 0) (by decide +kernel) rfl ?_
  refine jc_iconst g (pc := 35) (n := 54) (t := 218) (x := -1) (-1) (by decide +kernel) rfl ?_
  refine jc_put g (pc := 36) (n := 54) (t := 218) (i := 53) f6_28 (fun q h => by cases h; rfl) (by decide) (by decide +kernel) (by decide +kernel) (by omega) (by decide +kernel) (by decide +kernel) ?_
  refine jc_aload_n g (pc := 39) (n := 54) (t := 219) (i := 0) (by decide +kernel) rfl ?_
  refine jc_iconst g (pc := 40) (n := 54) (t := 219) (x := 0) (0) (by decide +kernel) rfl ?_
  refine jc_put g (pc := 41) (n := 54) (t := 219) (i := 53) f6_31 (fun q h => by cases h; rfl) (by decide) (by decide +kernel) (by decide +kernel) (by omega) (by decide +kernel) (by decide +kernel) ?_
  exact ret _ _ (by decide +kernel)
theorem cz_315 : Rc 1 mXc6 [.ref 315] 55 221 55 229 := by
  refine Rc.of [some (.ref 315)] (by decide) rfl rfl rfl (by decide) rfl ?_
  intro J g ret
  refine jc_aload_n g (pc := 0) (n := 55) (t := 221) (i := 0) (by decide +kernel) rfl ?_
  refine jc_obj g (pc := 1) (n := 55) (t := 221) (by omega) wo_6 wo_i wo_c (by decide) (by decide +kernel) ?_
  refine jc_aload_n g (pc := 4) (n := 55) (t := 221) (i := 0) (by decide +kernel) rfl ?_
  refine jc_iconst g (pc := 5) (n := 55) (t := 221) (x := 0) (0) (by decide +kernel) rfl ?_
  refine jc_put g (pc := 6) (n := 55) (t := 221) (i := 54) f6_7 (fun q h => by cases h; rfl) (by decide) (by decide +kernel) (by decide +kernel) (by omega) (by decide +kernel) (by decide +kernel) ?_
  refine jc_aload_n g (pc := 9) (n := 55) (t := 222) (i := 0) (by decide +kernel) rfl ?_
  refine jc_iconst g (pc := 10) (n := 55) (t := 222) (x := 0) (0) (by decide +kernel) rfl ?_
  refine jc_put g (pc := 11) (n := 55) (t := 222) (i := 54) f6_13 (fun q h => by cases h; rfl) (by decide) (by decide +kernel) (by decide +kernel) (by omega) (by decide +kernel) (by decide +kernel) ?_
  refine jc_aload_n g (pc := 14) (n := 55) (t := 223) (i := 0) (by decide +kernel) rfl ?_
  refine jc_iconst g (pc := 15) (n := 55) (t := 223) (x := 0) (0) (by decide +kernel) rfl ?_
  refine jc_put g (pc := 16) (n := 55) (t := 223) (i := 54) f6_16 (fun q h => by cases h; rfl) (by decide) (by decide +kernel) (by decide +kernel) (by omega) (by decide +kernel) (by decide +kernel) ?_
  refine jc_aload_n g (pc := 19) (n := 55) (t := 224) (i := 0) (by decide +kernel) rfl ?_
  refine jc_iconst g (pc := 20) (n := 55) (t := 224) (x := 0) (0) (by decide +kernel) rfl ?_
  refine jc_put g (pc := 21) (n := 55) (t := 224) (i := 54) f6_19 (fun q h => by cases h; rfl) (by decide) (by decide +kernel) (by decide +kernel) (by omega) (by decide +kernel) (by decide +kernel) ?_
  refine jc_aload_n g (pc := 24) (n := 55) (t := 225) (i := 0) (by decide +kernel) rfl ?_
  refine jc_iconst g (pc := 25) (n := 55) (t := 225) (x := 0) (0) (by decide +kernel) rfl ?_
  refine jc_put g (pc := 26) (n := 55) (t := 225) (i := 54) f6_22 (fun q h => by cases h; rfl) (by decide) (by decide +kernel) (by decide +kernel) (by omega) (by decide +kernel) (by decide +kernel) ?_
  refine jc_aload_n g (pc := 29) (n := 55) (t := 226) (i := 0) (by decide +kernel) rfl ?_
  refine jc_iconst g (pc := 30) (n := 55) (t := 226) (x := 0) (0) (by decide +kernel) rfl ?_
  refine jc_put g (pc := 31) (n := 55) (t := 226) (i := 54) f6_25 (fun q h => by cases h; rfl) (by decide) (by decide +kernel) (by decide +kernel) (by omega) (by decide +kernel) (by decide +kernel) ?_
  refine jc_aload_n g (pc := 34) (n := 55) (t := 227) (i := 0) (by decide +kernel) rfl ?_
  refine jc_iconst g (pc := 35) (n := 55) (t := 227) (x := -1) (-1) (by decide +kernel) rfl ?_
  refine jc_put g (pc := 36) (n := 55) (t := 227) (i := 54) f6_28 (fun q h => by cases h; rfl) (by decide) (by decide +kernel) (by decide +kernel) (by omega) (by decide +kernel) (by decide +kernel) ?_
  refine jc_aload_n g (pc := 39) (n := 55) (t := 228) (i := 0) (by decide +kernel) rfl ?_
  refine jc_iconst g (pc := 40) (n := 55) (t := 228) (x := 0) (0) (by decide +kernel) rfl ?_
  refine jc_put g (pc := 41) (n := 55) (t := 228) (i := 54) f6_31 (fun q h => by cases h; rfl) (by decide) (by decide +kernel) (by decide +kernel) (by omega) (by decide +kernel) (by decide +kernel) ?_
  exact ret _ _ (by decide +kernel)
theorem cz_300 : Rc 2 mXc5 [.ref 300] 38 154 55 230 := by
  refine Rc.of [some (.ref 300), none] (by decide) rfl rfl rfl (by decide) rfl ?_
  intro J g ret
  refine jc_aload_n g (pc := 0) (n := 38) (t := 154) (i := 0) (by decide +kernel) rfl ?_
  refine jc_obj g (pc := 1) (n := 38) (t := 154) (by omega) wo_5 wo_i wo_c (by decide) (by decide +kernel) ?_
  refine jc_aload_n g (pc := 4) (n := 38) (t := 154) (i := 0) (by decide +kernel) rfl ?_
  refine jc_iconst g (pc := 5) (n := 38) (t := 154) (x := 0) (0) (by decide +kernel) rfl ?_
  refine jc_put g (pc := 6) (n := 38) (t := 154) (i := 37) f5_9 (fun q h => by cases h; rfl) (by decide) (by decide +kernel) (by decide +kernel) (by omega) (by decide +kernel) (by decide +kernel) ?_
  refine jc_aload_n g (pc := 9) (n := 38) (t := 155) (i := 0) (by decide +kernel) rfl ?_
  refine jc_iconst g (pc := 10) (n := 38) (t := 155) (x := 0) (0) (by decide +kernel) rfl ?_
  refine jc_put g (pc := 11) (n := 38) (t := 155) (i := 37) f5_15 (fun q h => by cases h; rfl) (by decide) (by decide +kernel) (by decide +kernel) (by omega) (by decide +kernel) (by decide +kernel) ?_
  refine jc_aload_n g (pc := 14) (n := 38) (t := 156) (i := 0) (by decide +kernel) rfl ?_
  refine jc_iconst g (pc := 15) (n := 38) (t := 156) (x := 0) (0) (by decide +kernel) rfl ?_
  refine jc_put g (pc := 16) (n := 38) (t := 156) (i := 37) f5_18 (fun q h => by cases h; rfl) (by decide) (by decide +kernel) (by decide +kernel) (by omega) (by decide +kernel) (by decide +kernel) ?_
  refine jc_aload_n g (pc := 19) (n := 38) (t := 157) (i := 0) (by decide +kernel) rfl ?_
  refine jc_iconst g (pc := 20) (n := 38) (t := 157) (x := 0) (0) (by decide +kernel) rfl ?_
  refine jc_put g (pc := 21) (n := 38) (t := 157) (i := 37) f5_21 (fun q h => by cases h; rfl) (by decide) (by decide +kernel) (by decide +kernel) (by omega) (by decide +kernel) (by decide +kernel) ?_
  refine jc_aload_n g (pc := 24) (n := 38) (t := 158) (i := 0) (by decide +kernel) rfl ?_
  refine jc_iconst g (pc := 25) (n := 38) (t := 158) (x := 3) (3) (by decide +kernel) rfl ?_
  refine jc_newaI g (pc := 26) (n := 38) (t := 158) (a := 301) (N := 3) (by decide +kernel) (by decide) (by decide) (by omega) (by omega) (by omega) (by decide +kernel) wa_i (by decide +kernel) ?_
  refine jc_put g (pc := 28) (n := 39) (t := 158) (i := 37) f5_24 (fun q h => by cases h; rfl) (by decide) (by decide +kernel) (by decide +kernel) (by omega) (by decide +kernel) (by decide +kernel) ?_
  refine jc_aload_n g (pc := 31) (n := 39) (t := 159) (i := 0) (by decide +kernel) rfl ?_
  refine jc_bipush g (pc := 32) (n := 39) (t := 159) (x := 6) (6) (by decide +kernel) (by decide +kernel) ?_
  refine jc_newaI g (pc := 34) (n := 39) (t := 159) (a := 302) (N := 6) (by decide +kernel) (by decide) (by decide) (by omega) (by omega) (by omega) (by decide +kernel) wa_i (by decide +kernel) ?_
  refine jc_put g (pc := 36) (n := 40) (t := 159) (i := 37) f5_28 (fun q h => by cases h; rfl) (by decide) (by decide +kernel) (by decide +kernel) (by omega) (by decide +kernel) (by decide +kernel) ?_
  refine jc_aload_n g (pc := 39) (n := 40) (t := 160) (i := 0) (by decide +kernel) rfl ?_
  refine jc_bipush g (pc := 40) (n := 40) (t := 160) (x := 6) (6) (by decide +kernel) (by decide +kernel) ?_
  refine jc_anewW g (pc := 42) (n := 40) (t := 160) (a := 303) (N := 6) (by decide +kernel) (by decide) (by decide) (by omega) (by omega) (by omega) (by decide +kernel) wk_5_31 (by decide +kernel) ?_
  refine jc_put g (pc := 45) (n := 41) (t := 160) (i := 37) f5_33 (fun q h => by cases h; rfl) (by decide) (by decide +kernel) (by decide +kernel) (by omega) (by decide +kernel) (by decide +kernel) ?_
  refine jc_aload_n g (pc := 48) (n := 41) (t := 161) (i := 0) (by decide +kernel) rfl ?_
  refine jc_iconst g (pc := 49) (n := 41) (t := 161) (x := 4) (4) (by decide +kernel) rfl ?_
  refine jc_newaI g (pc := 50) (n := 41) (t := 161) (a := 304) (N := 4) (by decide +kernel) (by decide) (by decide) (by omega) (by omega) (by omega) (by decide +kernel) wa_i (by decide +kernel) ?_
  refine jc_dup g (pc := 52) (n := 42) (t := 161) (by decide +kernel) rfl ?_
  refine jc_iconst g (pc := 53) (n := 42) (t := 161) (x := 0) (0) (by decide +kernel) rfl ?_
  refine jc_iconst g (pc := 54) (n := 42) (t := 161) (x := 0) (0) (by decide +kernel) rfl ?_
  refine jc_iast g (pc := 55) (n := 42) (t := 161) (i := 41) (N := 4) (by decide +kernel) (by omega) (by decide +kernel) (by rw [vin_iff]; decide +kernel) (by decide +kernel) ?_
  refine jc_dup g (pc := 56) (n := 42) (t := 162) (by decide +kernel) rfl ?_
  refine jc_iconst g (pc := 57) (n := 42) (t := 162) (x := 1) (1) (by decide +kernel) rfl ?_
  refine jc_iconst g (pc := 58) (n := 42) (t := 162) (x := 1) (1) (by decide +kernel) rfl ?_
  refine jc_iast g (pc := 59) (n := 42) (t := 162) (i := 41) (N := 4) (by decide +kernel) (by omega) (by decide +kernel) (by rw [vin_iff]; decide +kernel) (by decide +kernel) ?_
  refine jc_dup g (pc := 60) (n := 42) (t := 163) (by decide +kernel) rfl ?_
  refine jc_iconst g (pc := 61) (n := 42) (t := 163) (x := 2) (2) (by decide +kernel) rfl ?_
  refine jc_iconst g (pc := 62) (n := 42) (t := 163) (x := 5) (5) (by decide +kernel) rfl ?_
  refine jc_iast g (pc := 63) (n := 42) (t := 163) (i := 41) (N := 4) (by decide +kernel) (by omega) (by decide +kernel) (by rw [vin_iff]; decide +kernel) (by decide +kernel) ?_
  refine jc_dup g (pc := 64) (n := 42) (t := 164) (by decide +kernel) rfl ?_
  refine jc_iconst g (pc := 65) (n := 42) (t := 164) (x := 3) (3) (by decide +kernel) rfl ?_
  refine jc_iconst g (pc := 66) (n := 42) (t := 164) (x := 3) (3) (by decide +kernel) rfl ?_
  refine jc_iast g (pc := 67) (n := 42) (t := 164) (i := 41) (N := 4) (by decide +kernel) (by omega) (by decide +kernel) (by rw [vin_iff]; decide +kernel) (by decide +kernel) ?_
  refine jc_put g (pc := 68) (n := 42) (t := 165) (i := 37) f5_37 (fun q h => by cases h; rfl) (by decide) (by decide +kernel) (by decide +kernel) (by omega) (by decide +kernel) (by decide +kernel) ?_
  refine jc_aload_n g (pc := 71) (n := 42) (t := 166) (i := 0) (by decide +kernel) rfl ?_
  refine jc_iconst g (pc := 72) (n := 42) (t := 166) (x := 4) (4) (by decide +kernel) rfl ?_
  refine jc_newaI g (pc := 73) (n := 42) (t := 166) (a := 305) (N := 4) (by decide +kernel) (by decide) (by decide) (by omega) (by omega) (by omega) (by decide +kernel) wa_i (by decide +kernel) ?_
  refine jc_put g (pc := 75) (n := 43) (t := 166) (i := 37) f5_40 (fun q h => by cases h; rfl) (by decide) (by decide +kernel) (by decide +kernel) (by omega) (by decide +kernel) (by decide +kernel) ?_
  refine jc_aload_n g (pc := 78) (n := 43) (t := 167) (i := 0) (by decide +kernel) rfl ?_
  refine jc_iconst g (pc := 79) (n := 43) (t := 167) (x := 4) (4) (by decide +kernel) rfl ?_
  refine jc_newaI g (pc := 80) (n := 43) (t := 167) (a := 306) (N := 4) (by decide +kernel) (by decide) (by decide) (by omega) (by omega) (by omega) (by decide +kernel) wa_i (by decide +kernel) ?_
  refine jc_put g (pc := 82) (n := 44) (t := 167) (i := 37) f5_43 (fun q h => by cases h; rfl) (by decide) (by decide +kernel) (by decide +kernel) (by omega) (by decide +kernel) (by decide +kernel) ?_
  refine jc_aload_n g (pc := 85) (n := 44) (t := 168) (i := 0) (by decide +kernel) rfl ?_
  refine jc_new g (pc := 86) (n := 44) (t := 168) (ci := 3) (a := 1020) rfl (by decide +kernel) (by omega) (by omega) (by decide +kernel) wk_5_46 wn_3 wz_3 (by decide +kernel) ?_
  refine jc_dup g (pc := 89) (n := 45) (t := 168) (by decide +kernel) rfl ?_
  refine jc_callN g (pc := 90) (n := 45) (t := 168) (As := []) cz_1020 wm_5_48 cb_3 (by omega) (by omega) (by omega) rfl (by decide +kernel) (by decide +kernel) (by decide) (by decide +kernel) ?_
  refine jc_put g (pc := 93) (n := 49) (t := 175) (i := 37) f5_49 (fun q h => by cases h; rfl) (by decide) (by decide +kernel) (by decide +kernel) (by omega) (by decide +kernel) (by decide +kernel) ?_
  refine jc_iconst g (pc := 96) (n := 49) (t := 176) (x := 0) (0) (by decide +kernel) rfl ?_
  refine jc_istore_n g (pc := 97) (n := 49) (t := 176) (i := 1) (by decide +kernel) (by decide) ?_
  dsimp only [stL, clL, hdL]
  refine jc_iload_n g (pc := 98) (n := 49) (t := 176) (i := 1) (by decide +kernel) rfl ?_
  refine jc_bipush g (pc := 99) (n := 49) (t := 176) (x := 6) (6) (by decide +kernel) (by decide +kernel) ?_
  refine jc_ge_f g (pc := 101) (n := 49) (t := 176) (off := 22) (tgt := 123) (by decide +kernel) (by decide) (by decide) ?_
  refine jc_aload_n g (pc := 104) (n := 49) (t := 176) (i := 0) (by decide +kernel) rfl ?_
  refine jc_get g (pc := 105) (n := 49) (t := 176) (i := 37) (b := 303) f5_33 (by decide +kernel) (by omega) (by decide +kernel) (by decide +kernel) ?_
  refine jc_iload_n g (pc := 108) (n := 49) (t := 176) (i := 1) (by decide +kernel) rfl ?_
  refine jc_new g (pc := 109) (n := 49) (t := 176) (ci := 6) (a := 310) rfl (by decide +kernel) (by omega) (by omega) (by decide +kernel) wk_5_31 wn_6 wz_6 (by decide +kernel) ?_
  refine jc_dup g (pc := 112) (n := 50) (t := 176) (by decide +kernel) rfl ?_
  refine jc_callN g (pc := 113) (n := 50) (t := 176) (As := []) cz_310 wm_5_53 cb_6 (by omega) (by omega) (by omega) rfl (by decide +kernel) (by decide +kernel) (by decide) (by decide +kernel) ?_
  refine jc_aastW g (pc := 116) (n := 50) (t := 184) (i := 40) (N := 6) (i2 := 49) (by decide +kernel) (by omega) (by decide +kernel) (by omega) (by decide +kernel) (by rw [vin_iff]; decide +kernel) (by decide +kernel) ?_
  refine jc_iinc g (pc := 117) (n := 50) (t := 185) (i := 1) (z := 1) (1) (by decide +kernel) rfl (by decide) rfl ?_
  dsimp only [stL, clL, hdL]
  refine jc_goto g (pc := 120) (n := 50) (t := 185) (off := -22) (tgt := 98) (by decide +kernel) (by decide) ?_
  refine jc_iload_n g (pc := 98) (n := 50) (t := 185) (i := 1) (by decide +kernel) rfl ?_
  refine jc_bipush g (pc := 99) (n := 50) (t := 185) (x := 6) (6) (by decide +kernel) (by decide +kernel) ?_
  refine jc_ge_f g (pc := 101) (n := 50) (t := 185) (off := 22) (tgt := 123) (by decide +kernel) (by decide) (by decide) ?_
  refine jc_aload_n g (pc := 104) (n := 50) (t := 185) (i := 0) (by decide +kernel) rfl ?_
  refine jc_get g (pc := 105) (n := 50) (t := 185) (i := 37) (b := 303) f5_33 (by decide +kernel) (by omega) (by decide +kernel) (by decide +kernel) ?_
  refine jc_iload_n g (pc := 108) (n := 50) (t := 185) (i := 1) (by decide +kernel) rfl ?_
  refine jc_new g (pc := 109) (n := 50) (t := 185) (ci := 6) (a := 311) rfl (by decide +kernel) (by omega) (by omega) (by decide +kernel) wk_5_31 wn_6 wz_6 (by decide +kernel) ?_
  refine jc_dup g (pc := 112) (n := 51) (t := 185) (by decide +kernel) rfl ?_
  refine jc_callN g (pc := 113) (n := 51) (t := 185) (As := []) cz_311 wm_5_53 cb_6 (by omega) (by omega) (by omega) rfl (by decide +kernel) (by decide +kernel) (by decide) (by decide +kernel) ?_
  refine jc_aastW g (pc := 116) (n := 51) (t := 193) (i := 40) (N := 6) (i2 := 50) (by decide +kernel) (by omega) (by decide +kernel) (by omega) (by decide +kernel) (by rw [vin_iff]; decide +kernel) (by decide +kernel) ?_
  refine jc_iinc g (pc := 117) (n := 51) (t := 194) (i := 1) (z := 1) (1) (by decide +kernel) rfl (by decide) rfl ?_
  dsimp only [stL, clL, hdL]
  refine jc_goto g (pc := 120) (n := 51) (t := 194) (off := -22) (tgt := 98) (by decide +kernel) (by decide) ?_
  refine jc_iload_n g (pc := 98) (n := 51) (t := 194) (i := 1) (by decide +kernel) rfl ?_
  refine jc_bipush g (pc := 99) (n := 51) (t := 194) (x := 6) (6) (by decide +kernel) (by decide +kernel) ?_
  refine jc_ge_f g (pc := 101) (n := 51) (t := 194) (off := 22) (tgt := 123) (by decide +kernel) (by decide) (by decide) ?_
  refine jc_aload_n g (pc := 104) (n := 51) (t := 194) (i := 0) (by decide +kernel) rfl ?_
  refine jc_get g (pc := 105) (n := 51) (t := 194) (i := 37) (b := 303) f5_33 (by decide +kernel) (by omega) (by decide +kernel) (by decide +kernel) ?_
  refine jc_iload_n g (pc := 108) (n := 51) (t := 194) (i := 1) (by decide +kernel) rfl ?_
  refine jc_new g (pc := 109) (n := 51) (t := 194) (ci := 6) (a := 312) rfl (by decide +kernel) (by omega) (by omega) (by decide +kernel) wk_5_31 wn_6 wz_6 (by decide +kernel) ?_
  refine jc_dup g (pc := 112) (n := 52) (t := 194) (by decide +kernel) rfl ?_
  refine jc_callN g (pc := 113) (n := 52) (t := 194) (As := []) cz_312 wm_5_53 cb_6 (by omega) (by omega) (by omega) rfl (by decide +kernel) (by decide +kernel) (by decide) (by decide +kernel) ?_
  refine jc_aastW g (pc := 116) (n := 52) (t := 202) (i := 40) (N := 6) (i2 := 51) (by decide +kernel) (by omega) (by decide +kernel) (by omega) (by decide +kernel) (by rw [vin_iff]; decide +kernel) (by decide +kernel) ?_
  refine jc_iinc g (pc := 117) (n := 52) (t := 203) (i := 1) (z := 1) (1) (by decide +kernel) rfl (by decide) rfl ?_
  dsimp only [stL, clL, hdL]
  refine jc_goto g (pc := 120) (n := 52) (t := 203) (off := -22) (tgt := 98) (by decide +kernel) (by decide) ?_
  refine jc_iload_n g (pc := 98) (n := 52) (t := 203) (i := 1) (by decide +kernel) rfl ?_
  refine jc_bipush g (pc := 99) (n := 52) (t := 203) (x := 6) (6) (by decide +kernel) (by decide +kernel) ?_
  refine jc_ge_f g (pc := 101) (n := 52) (t := 203) (off := 22) (tgt := 123) (by decide +kernel) (by decide) (by decide) ?_
  refine jc_aload_n g (pc := 104) (n := 52) (t := 203) (i := 0) (by decide +kernel) rfl ?_
  refine jc_get g (pc := 105) (n := 52) (t := 203) (i := 37) (b := 303) f5_33 (by decide +kernel) (by omega) (by decide +kernel) (by decide +kernel) ?_
  refine jc_iload_n g (pc := 108) (n := 52) (t := 203) (i := 1) (by decide +kernel) rfl ?_
  refine jc_new g (pc := 109) (n := 52) (t := 203) (ci := 6) (a := 313) rfl (by decide +kernel) (by omega) (by omega) (by decide +kernel) wk_5_31 wn_6 wz_6 (by decide +kernel) ?_
  refine jc_dup g (pc := 112) (n := 53) (t := 203) (by decide +kernel) rfl ?_
  refine jc_callN g (pc := 113) (n := 53) (t := 203) (As := []) cz_313 wm_5_53 cb_6 (by omega) (by omega) (by omega) rfl (by decide +kernel) (by decide +kernel) (by decide) (by decide +kernel) ?_
  refine jc_aastW g (pc := 116) (n := 53) (t := 211) (i := 40) (N := 6) (i2 := 52) (by decide +kernel) (by omega) (by decide +kernel) (by omega) (by decide +kernel) (by rw [vin_iff]; decide +kernel) (by decide +kernel) ?_
  refine jc_iinc g (pc := 117) (n := 53) (t := 212) (i := 1) (z := 1) (1) (by decide +kernel) rfl (by decide) rfl ?_
  dsimp only [stL, clL, hdL]
  refine jc_goto g (pc := 120) (n := 53) (t := 212) (off := -22) (tgt := 98) (by decide +kernel) (by decide) ?_
  refine jc_iload_n g (pc := 98) (n := 53) (t := 212) (i := 1) (by decide +kernel) rfl ?_
  refine jc_bipush g (pc := 99) (n := 53) (t := 212) (x := 6) (6) (by decide +kernel) (by decide +kernel) ?_
  refine jc_ge_f g (pc := 101) (n := 53) (t := 212) (off := 22) (tgt := 123) (by decide +kernel) (by decide) (by decide) ?_
  refine jc_aload_n g (pc := 104) (n := 53) (t := 212) (i := 0) (by decide +kernel) rfl ?_
  refine jc_get g (pc := 105) (n := 53) (t := 212) (i := 37) (b := 303) f5_33 (by decide +kernel) (by omega) (by decide +kernel) (by decide +kernel) ?_
  refine jc_iload_n g (pc := 108) (n := 53) (t := 212) (i := 1) (by decide +kernel) rfl ?_
  refine jc_new g (pc := 109) (n := 53) (t := 212) (ci := 6) (a := 314) rfl (by decide +kernel) (by omega) (by omega) (by decide +kernel) wk_5_31 wn_6 wz_6 (by decide +kernel) ?_
  refine jc_dup g (pc := 112) (n := 54) (t := 212) (by decide +kernel) rfl ?_
  refine jc_callN g (pc := 113) (n := 54) (t := 212) (As := []) cz_314 wm_5_53 cb_6 (by omega) (by omega) (by omega) rfl (by decide +kernel) (by decide +kernel) (by decide) (by decide +kernel) ?_
  refine jc_aastW g (pc := 116) (n := 54) (t := 220) (i := 40) (N := 6) (i2 := 53) (by decide +kernel) (by omega) (by decide +kernel) (by omega) (by decide +kernel) (by rw [vin_iff]; decide +kernel) (by decide +kernel) ?_
  refine jc_iinc g (pc := 117) (n := 54) (t := 221) (i := 1) (z := 1) (1) (by decide +kernel) rfl (by decide) rfl ?_
  dsimp only [stL, clL, hdL]
  refine jc_goto g (pc := 120) (n := 54) (t := 221) (off := -22) (tgt := 98) (by decide +kernel) (by decide) ?_
  refine jc_iload_n g (pc := 98) (n := 54) (t := 221) (i := 1) (by decide +kernel) rfl ?_
  refine jc_bipush g (pc := 99) (n := 54) (t := 221) (x := 6) (6) (by decide +kernel) (by decide +kernel) ?_
  refine jc_ge_f g (pc := 101) (n := 54) (t := 221) (off := 22) (tgt := 123) (by decide +kernel) (by decide) (by decide) ?_
  refine jc_aload_n g (pc := 104) (n := 54) (t := 221) (i := 0) (by decide +kernel) rfl ?_
  refine jc_get g (pc := 105) (n := 54) (t := 221) (i := 37) (b := 303) f5_33 (by decide +kernel) (by omega) (by decide +kernel) (by decide +kernel) ?_
  refine jc_iload_n g (pc := 108) (n := 54) (t := 221) (i := 1) (by decide +kernel) rfl ?_
  refine jc_new g (pc := 109) (n := 54) (t := 221) (ci := 6) (a := 315) rfl (by decide +kernel) (by omega) (by omega) (by decide +kernel) wk_5_31 wn_6 wz_6 (by decide +kernel) ?_
  refine jc_dup g (pc := 112) (n := 55) (t := 221) (by decide +kernel) rfl ?_
  refine jc_callN g (pc := 113) (n := 55) (t := 221) (As := []) cz_315 wm_5_53 cb_6 (by omega) (by omega) (by omega) rfl (by decide +kernel) (by decide +kernel) (by decide) (by decide +kernel) ?_
  refine jc_aastW g (pc := 116) (n := 55) (t := 229) (i := 40) (N := 6) (i2 := 54) (by decide +kernel) (by omega) (by decide +kernel) (by omega) (by decide +kernel) (by rw [vin_iff]; decide +kernel) (by decide +kernel) ?_
  refine jc_iinc g (pc := 117) (n := 55) (t := 230) (i := 1) (z := 1) (1) (by decide +kernel) rfl (by decide) rfl ?_
  dsimp only [stL, clL, hdL]
  refine jc_goto g (pc := 120) (n := 55) (t := 230) (off := -22) (tgt := 98) (by decide +kernel) (by decide) ?_
  refine jc_iload_n g (pc := 98) (n := 55) (t := 230) (i := 1) (by decide +kernel) rfl ?_
  refine jc_bipush g (pc := 99) (n := 55) (t := 230) (x := 6) (6) (by decide +kernel) (by decide +kernel) ?_
  refine jc_ge_t g (pc := 101) (n := 55) (t := 230) (off := 22) (tgt := 123) (by decide +kernel) (by decide) (by decide) ?_
  exact ret _ _ (by decide +kernel)
theorem cz_500 : Rc 2 mXc4 [.ref 500] 56 231 57 237 := by
  refine Rc.of [some (.ref 500)] (by decide) rfl rfl rfl (by decide) rfl ?_
  intro J g ret
  refine jc_aload_n g (pc := 0) (n := 56) (t := 231) (i := 0) (by decide +kernel) rfl ?_
  refine jc_obj g (pc := 1) (n := 56) (t := 231) (by omega) wo_4 wo_i wo_c (by decide) (by decide +kernel) ?_
  refine jc_aload_n g (pc := 4) (n := 56) (t := 231) (i := 0) (by decide +kernel) rfl ?_
  refine jc_sipush g (pc := 5) (n := 56) (t := 231) (x := 240) (240) (by decide +kernel) (by decide +kernel) ?_
  refine jc_newaB g (pc := 8) (n := 56) (t := 231) (a := 501) (N := 240) (by decide +kernel) (by decide) (by decide) (by omega) (by omega) (by omega) (by decide +kernel) wa_b (by decide +kernel) ?_
  refine jc_put g (pc := 10) (n := 57) (t := 231) (i := 55) f4_11 (fun q h => by cases h; rfl) (by decide) (by decide +kernel) (by decide +kernel) (by omega) (by decide +kernel) (by decide +kernel) ?_
  refine jc_aload_n g (pc := 13) (n := 57) (t := 232) (i := 0) (by decide +kernel) rfl ?_
  refine jc_iconst g (pc := 14) (n := 57) (t := 232) (x := 0) (0) (by decide +kernel) rfl ?_
  refine jc_put g (pc := 15) (n := 57) (t := 232) (i := 55) f4_15 (fun q h => by cases h; rfl) (by decide) (by decide +kernel) (by decide +kernel) (by omega) (by decide +kernel) (by decide +kernel) ?_
  refine jc_aload_n g (pc := 18) (n := 57) (t := 233) (i := 0) (by decide +kernel) rfl ?_
  refine jc_iconst g (pc := 19) (n := 57) (t := 233) (x := 0) (0) (by decide +kernel) rfl ?_
  refine jc_put g (pc := 20) (n := 57) (t := 233) (i := 55) f4_19 (fun q h => by cases h; rfl) (by decide) (by decide +kernel) (by decide +kernel) (by omega) (by decide +kernel) (by decide +kernel) ?_
  refine jc_aload_n g (pc := 23) (n := 57) (t := 234) (i := 0) (by decide +kernel) rfl ?_
  refine jc_iconst g (pc := 24) (n := 57) (t := 234) (x := 0) (0) (by decide +kernel) rfl ?_
  refine jc_put g (pc := 25) (n := 57) (t := 234) (i := 55) f4_22 (fun q h => by cases h; rfl) (by decide) (by decide +kernel) (by decide +kernel) (by omega) (by decide +kernel) (by decide +kernel) ?_
  refine jc_aload_n g (pc := 28) (n := 57) (t := 235) (i := 0) (by decide +kernel) rfl ?_
  refine jc_iconst g (pc := 29) (n := 57) (t := 235) (x := 0) (0) (by decide +kernel) rfl ?_
  refine jc_put g (pc := 30) (n := 57) (t := 235) (i := 55) f4_25 (fun q h => by cases h; rfl) (by decide) (by decide +kernel) (by decide +kernel) (by omega) (by decide +kernel) (by decide +kernel) ?_
  refine jc_aload_n g (pc := 33) (n := 57) (t := 236) (i := 0) (by decide +kernel) rfl ?_
  refine jc_iconst g (pc := 34) (n := 57) (t := 236) (x := -1) (-1) (by decide +kernel) rfl ?_
  refine jc_put g (pc := 35) (n := 57) (t := 236) (i := 55) f4_28 (fun q h => by cases h; rfl) (by decide) (by decide +kernel) (by decide +kernel) (by omega) (by decide +kernel) (by decide +kernel) ?_
  exact ret _ _ (by decide +kernel)
theorem cz_1030 : Rc 1 mXc3 [.ref 1030] 62 250 66 257 := by
  refine Rc.of [some (.ref 1030)] (by decide) rfl rfl rfl (by decide) rfl ?_
  intro J g ret
  refine jc_aload_n g (pc := 0) (n := 62) (t := 250) (i := 0) (by decide +kernel) rfl ?_
  refine jc_obj g (pc := 1) (n := 62) (t := 250) (by omega) wo_3 wo_i wo_c (by decide) (by decide +kernel) ?_
  refine jc_aload_n g (pc := 4) (n := 62) (t := 250) (i := 0) (by decide +kernel) rfl ?_
  refine jc_iconst g (pc := 5) (n := 62) (t := 250) (x := 3) (3) (by decide +kernel) rfl ?_
  refine jc_newaI g (pc := 6) (n := 62) (t := 250) (a := 1031) (N := 3) (by decide +kernel) (by decide) (by decide) (by omega) (by omega) (by omega) (by decide +kernel) wa_i (by decide +kernel) ?_
  refine jc_put g (pc := 8) (n := 63) (t := 250) (i := 61) f3_9 (fun q h => by cases h; rfl) (by decide) (by decide +kernel) (by decide +kernel) (by omega) (by decide +kernel) (by decide +kernel) ?_
  refine jc_aload_n g (pc := 11) (n := 63) (t := 251) (i := 0) (by decide +kernel) rfl ?_
  refine jc_bipush g (pc := 12) (n := 63) (t := 251) (x := 6) (6) (by decide +kernel) (by decide +kernel) ?_
  refine jc_newaI g (pc := 14) (n := 63) (t := 251) (a := 1032) (N := 6) (by decide +kernel) (by decide) (by decide) (by omega) (by omega) (by omega) (by decide +kernel) wa_i (by decide +kernel) ?_
  refine jc_put g (pc := 16) (n := 64) (t := 251) (i := 61) f3_15 (fun q h => by cases h; rfl) (by decide) (by decide +kernel) (by decide +kernel) (by omega) (by decide +kernel) (by decide +kernel) ?_
  refine jc_aload_n g (pc := 19) (n := 64) (t := 252) (i := 0) (by decide +kernel) rfl ?_
  refine jc_bipush g (pc := 20) (n := 64) (t := 252) (x := 6) (6) (by decide +kernel) (by decide +kernel) ?_
  refine jc_newaI g (pc := 22) (n := 64) (t := 252) (a := 1033) (N := 6) (by decide +kernel) (by decide) (by decide) (by omega) (by omega) (by omega) (by decide +kernel) wa_i (by decide +kernel) ?_
  refine jc_put g (pc := 24) (n := 65) (t := 252) (i := 61) f3_18 (fun q h => by cases h; rfl) (by decide) (by decide +kernel) (by decide +kernel) (by omega) (by decide +kernel) (by decide +kernel) ?_
  refine jc_aload_n g (pc := 27) (n := 65) (t := 253) (i := 0) (by decide +kernel) rfl ?_
  refine jc_bipush g (pc := 28) (n := 65) (t := 253) (x := 6) (6) (by decide +kernel) (by decide +kernel) ?_
  refine jc_newaI g (pc := 30) (n := 65) (t := 253) (a := 1034) (N := 6) (by decide +kernel) (by decide) (by decide) (by omega) (by omega) (by omega) (by decide +kernel) wa_i (by decide +kernel) ?_
  refine jc_put g (pc := 32) (n := 66) (t := 253) (i := 61) f3_21 (fun q h => by cases h; rfl) (by decide) (by decide +kernel) (by decide +kernel) (by omega) (by decide +kernel) (by decide +kernel) ?_
  refine jc_aload_n g (pc := 35) (n := 66) (t := 254) (i := 0) (by decide +kernel) rfl ?_
  refine jc_iconst g (pc := 36) (n := 66) (t := 254) (x := 0) (0) (by decide +kernel) rfl ?_
  refine jc_put g (pc := 37) (n := 66) (t := 254) (i := 61) f3_24 (fun q h => by cases h; rfl) (by decide) (by decide +kernel) (by decide +kernel) (by omega) (by decide +kernel) (by decide +kernel) ?_
  refine jc_aload_n g (pc := 40) (n := 66) (t := 255) (i := 0) (by decide +kernel) rfl ?_
  refine jc_iconst g (pc := 41) (n := 66) (t := 255) (x := 0) (0) (by decide +kernel) rfl ?_
  refine jc_put g (pc := 42) (n := 66) (t := 255) (i := 61) f3_28 (fun q h => by cases h; rfl) (by decide) (by decide +kernel) (by decide +kernel) (by omega) (by decide +kernel) (by decide +kernel) ?_
  refine jc_aload_n g (pc := 45) (n := 66) (t := 256) (i := 0) (by decide +kernel) rfl ?_
  refine jc_iconst g (pc := 46) (n := 66) (t := 256) (x := 0) (0) (by decide +kernel) rfl ?_
  refine jc_put g (pc := 47) (n := 66) (t := 256) (i := 61) f3_31 (fun q h => by cases h; rfl) (by decide) (by decide +kernel) (by decide +kernel) (by omega) (by decide +kernel) (by decide +kernel) ?_
  exact ret _ _ (by decide +kernel)
theorem cz_1040 : Rc 1 mXc3 [.ref 1040] 67 258 71 265 := by
  refine Rc.of [some (.ref 1040)] (by decide) rfl rfl rfl (by decide) rfl ?_
  intro J g ret
  refine jc_aload_n g (pc := 0) (n := 67) (t := 258) (i := 0) (by decide +kernel) rfl ?_
  refine jc_obj g (pc := 1) (n := 67) (t := 258) (by omega) wo_3 wo_i wo_c (by decide) (by decide +kernel) ?_
  refine jc_aload_n g (pc := 4) (n := 67) (t := 258) (i := 0) (by decide +kernel) rfl ?_
  refine jc_iconst g (pc := 5) (n := 67) (t := 258) (x := 3) (3) (by decide +kernel) rfl ?_
  refine jc_newaI g (pc := 6) (n := 67) (t := 258) (a := 1041) (N := 3) (by decide +kernel) (by decide) (by decide) (by omega) (by omega) (by omega) (by decide +kernel) wa_i (by decide +kernel) ?_
  refine jc_put g (pc := 8) (n := 68) (t := 258) (i := 66) f3_9 (fun q h => by cases h; rfl) (by decide) (by decide +kernel) (by decide +kernel) (by omega) (by decide +kernel) (by decide +kernel) ?_
  refine jc_aload_n g (pc := 11) (n := 68) (t := 259) (i := 0) (by decide +kernel) rfl ?_
  refine jc_bipush g (pc := 12) (n := 68) (t := 259) (x := 6) (6) (by decide +kernel) (by decide +kernel) ?_
  refine jc_newaI g (pc := 14) (n := 68) (t := 259) (a := 1042) (N := 6) (by decide +kernel) (by decide) (by decide) (by omega) (by omega) (by omega) (by decide +kernel) wa_i (by decide +kernel) ?_
  refine jc_put g (pc := 16) (n := 69) (t := 259) (i := 66) f3_15 (fun q h => by cases h; rfl) (by decide) (by decide +kernel) (by decide +kernel) (by omega) (by decide +kernel) (by decide +kernel) ?_
  refine jc_aload_n g (pc := 19) (n := 69) (t := 260) (i := 0) (by decide +kernel) rfl ?_
  refine jc_bipush g (pc := 20) (n := 69) (t := 260) (x := 6) (6) (by decide +kernel) (by decide +kernel) ?_
  refine jc_newaI g (pc := 22) (n := 69) (t := 260) (a := 1043) (N := 6) (by decide +kernel) (by decide) (by decide) (by omega) (by omega) (by omega) (by decide +kernel) wa_i (by decide +kernel) ?_
  refine jc_put g (pc := 24) (n := 70) (t := 260) (i := 66) f3_18 (fun q h => by cases h; rfl) (by decide) (by decide +kernel) (by decide +kernel) (by omega) (by decide +kernel) (by decide +kernel) ?_
  refine jc_aload_n g (pc := 27) (n := 70) (t := 261) (i := 0) (by decide +kernel) rfl ?_
  refine jc_bipush g (pc := 28) (n := 70) (t := 261) (x := 6) (6) (by decide +kernel) (by decide +kernel) ?_
  refine jc_newaI g (pc := 30) (n := 70) (t := 261) (a := 1044) (N := 6) (by decide +kernel) (by decide) (by decide) (by omega) (by omega) (by omega) (by decide +kernel) wa_i (by decide +kernel) ?_
  refine jc_put g (pc := 32) (n := 71) (t := 261) (i := 66) f3_21 (fun q h => by cases h; rfl) (by decide) (by decide +kernel) (by decide +kernel) (by omega) (by decide +kernel) (by decide +kernel) ?_
  refine jc_aload_n g (pc := 35) (n := 71) (t := 262) (i := 0) (by decide +kernel) rfl ?_
  refine jc_iconst g (pc := 36) (n := 71) (t := 262) (x := 0) (0) (by decide +kernel) rfl ?_
  refine jc_put g (pc := 37) (n := 71) (t := 262) (i := 66) f3_24 (fun q h => by cases h; rfl) (by decide) (by decide +kernel) (by decide +kernel) (by omega) (by decide +kernel) (by decide +kernel) ?_
  refine jc_aload_n g (pc := 40) (n := 71) (t := 263) (i := 0) (by decide +kernel) rfl ?_
  refine jc_iconst g (pc := 41) (n := 71) (t := 263) (x := 0) (0) (by decide +kernel) rfl ?_
  refine jc_put g (pc := 42) (n := 71) (t := 263) (i := 66) f3_28 (fun q h => by cases h; rfl) (by decide) (by decide +kernel) (by decide +kernel) (by omega) (by decide +kernel) (by decide +kernel) ?_
  refine jc_aload_n g (pc := 45) (n := 71) (t := 264) (i := 0) (by decide +kernel) rfl ?_
  refine jc_iconst g (pc := 46) (n := 71) (t := 264) (x := 0) (0) (by decide +kernel) rfl ?_
  refine jc_put g (pc := 47) (n := 71) (t := 264) (i := 66) f3_31 (fun q h => by cases h; rfl) (by decide) (by decide +kernel) (by decide +kernel) (by omega) (by decide +kernel) (by decide +kernel) ?_
  exact ret _ _ (by decide +kernel)
theorem cz_1050 : Rc 1 mXc3 [.ref 1050] 72 266 76 273 := by
  refine Rc.of [some (.ref 1050)] (by decide) rfl rfl rfl (by decide) rfl ?_
  intro J g ret
  refine jc_aload_n g (pc := 0) (n := 72) (t := 266) (i := 0) (by decide +kernel) rfl ?_
  refine jc_obj g (pc := 1) (n := 72) (t := 266) (by omega) wo_3 wo_i wo_c (by decide) (by decide +kernel) ?_
  refine jc_aload_n g (pc := 4) (n := 72) (t := 266) (i := 0) (by decide +kernel) rfl ?_
  refine jc_iconst g (pc := 5) (n := 72) (t := 266) (x := 3) (3) (by decide +kernel) rfl ?_
  refine jc_newaI g (pc := 6) (n := 72) (t := 266) (a := 1051) (N := 3) (by decide +kernel) (by decide) (by decide) (by omega) (by omega) (by omega) (by decide +kernel) wa_i (by decide +kernel) ?_
  refine jc_put g (pc := 8) (n := 73) (t := 266) (i := 71) f3_9 (fun q h => by cases h; rfl) (by decide) (by decide +kernel) (by decide +kernel) (by omega) (by decide +kernel) (by decide +kernel) ?_
  refine jc_aload_n g (pc := 11) (n := 73) (t := 267) (i := 0) (by decide +kernel) rfl ?_
  refine jc_bipush g (pc := 12) (n := 73) (t := 267) (x := 6) (6) (by decide +kernel) (by decide +kernel) ?_
  refine jc_newaI g (pc := 14) (n := 73) (t := 267) (a := 1052) (N := 6) (by decide +kernel) (by decide) (by decide) (by omega) (by omega) (by omega) (by decide +kernel) wa_i (by decide +kernel) ?_
  refine jc_put g (pc := 16) (n := 74) (t := 267) (i := 71) f3_15 (fun q h => by cases h; rfl) (by decide) (by decide +kernel) (by decide +kernel) (by omega) (by decide +kernel) (by decide +kernel) ?_
  refine jc_aload_n g (pc := 19) (n := 74) (t := 268) (i := 0) (by decide +kernel) rfl ?_
  refine jc_bipush g (pc := 20) (n := 74) (t := 268) (x := 6) (6) (by decide +kernel) (by decide +kernel) ?_
  refine jc_newaI g (pc := 22) (n := 74) (t := 268) (a := 1053) (N := 6) (by decide +kernel) (by decide) (by decide) (by omega) (by omega) (by omega) (by decide +kernel) wa_i (by decide +kernel) ?_
  refine jc_put g (pc := 24) (n := 75) (t := 268) (i := 71) f3_18 (fun q h => by cases h; rfl) (by decide) (by decide +kernel) (by decide +kernel) (by omega) (by decide +kernel) (by decide +kernel) ?_
  refine jc_aload_n g (pc := 27) (n := 75) (t := 269) (i := 0) (by decide +kernel) rfl ?_
  refine jc_bipush g (pc := 28) (n := 75) (t := 269) (x := 6) (6) (by decide +kernel) (by decide +kernel) ?_
  refine jc_newaI g (pc := 30) (n := 75) (t := 269) (a := 1054) (N := 6) (by decide +kernel) (by decide) (by decide) (by omega) (by omega) (by omega) (by decide +kernel) wa_i (by decide +kernel) ?_
  refine jc_put g (pc := 32) (n := 76) (t := 269) (i := 71) f3_21 (fun q h => by cases h; rfl) (by decide) (by decide +kernel) (by decide +kernel) (by omega) (by decide +kernel) (by decide +kernel) ?_
  refine jc_aload_n g (pc := 35) (n := 76) (t := 270) (i := 0) (by decide +kernel) rfl ?_
  refine jc_iconst g (pc := 36) (n := 76) (t := 270) (x := 0) (0) (by decide +kernel) rfl ?_
  refine jc_put g (pc := 37) (n := 76) (t := 270) (i := 71) f3_24 (fun q h => by cases h; rfl) (by decide) (by decide +kernel) (by decide +kernel) (by omega) (by decide +kernel) (by decide +kernel) ?_
  refine jc_aload_n g (pc := 40) (n := 76) (t := 271) (i := 0) (by decide +kernel) rfl ?_
  refine jc_iconst g (pc := 41) (n := 76) (t := 271) (x := 0) (0) (by decide +kernel) rfl ?_
  refine jc_put g (pc := 42) (n := 76) (t := 271) (i := 71) f3_28 (fun q h => by cases h; rfl) (by decide) (by decide +kernel) (by decide +kernel) (by omega) (by decide +kernel) (by decide +kernel) ?_
  refine jc_aload_n g (pc := 45) (n := 76) (t := 272) (i := 0) (by decide +kernel) rfl ?_
  refine jc_iconst g (pc := 46) (n := 76) (t := 272) (x := 0) (0) (by decide +kernel) rfl ?_
  refine jc_put g (pc := 47) (n := 76) (t := 272) (i := 71) f3_31 (fun q h => by cases h; rfl) (by decide) (by decide +kernel) (by decide +kernel) (by omega) (by decide +kernel) (by decide +kernel) ?_
  exact ret _ _ (by decide +kernel)
theorem cz_1060 : Rc 1 mXc3 [.ref 1060] 77 274 81 281 := by
  refine Rc.of [some (.ref 1060)] (by decide) rfl rfl rfl (by decide) rfl ?_
  intro J g ret
  refine jc_aload_n g (pc := 0) (n := 77) (t := 274) (i := 0) (by decide +kernel) rfl ?_
  refine jc_obj g (pc := 1) (n := 77) (t := 274) (by omega) wo_3 wo_i wo_c (by decide) (by decide +kernel) ?_
  refine jc_aload_n g (pc := 4) (n := 77) (t := 274) (i := 0) (by decide +kernel) rfl ?_
  refine jc_iconst g (pc := 5) (n := 77) (t := 274) (x := 3) (3) (by decide +kernel) rfl ?_
  refine jc_newaI g (pc := 6) (n := 77) (t := 274) (a := 1061) (N := 3) (by decide +kernel) (by decide) (by decide) (by omega) (by omega) (by omega) (by decide +kernel) wa_i (by decide +kernel) ?_
  refine jc_put g (pc := 8) (n := 78) (t := 274) (i := 76) f3_9 (fun q h => by cases h; rfl) (by decide) (by decide +kernel) (by decide +kernel) (by omega) (by decide +kernel) (by decide +kernel) ?_
  refine jc_aload_n g (pc := 11) (n := 78) (t := 275) (i := 0) (by decide +kernel) rfl ?_
  refine jc_bipush g (pc := 12) (n := 78) (t := 275) (x := 6) (6) (by decide +kernel) (by decide +kernel) ?_
  refine jc_newaI g (pc := 14) (n := 78) (t := 275) (a := 1062) (N := 6) (by decide +kernel) (by decide) (by decide) (by omega) (by omega) (by omega) (by decide +kernel) wa_i (by decide +kernel) ?_
  refine jc_put g (pc := 16) (n := 79) (t := 275) (i := 76) f3_15 (fun q h => by cases h; rfl) (by decide) (by decide +kernel) (by decide +kernel) (by omega) (by decide +kernel) (by decide +kernel) ?_
  refine jc_aload_n g (pc := 19) (n := 79) (t := 276) (i := 0) (by decide +kernel) rfl ?_
  refine jc_bipush g (pc := 20) (n := 79) (t := 276) (x := 6) (6) (by decide +kernel) (by decide +kernel) ?_
  refine jc_newaI g (pc := 22) (n := 79) (t := 276) (a := 1063) (N := 6) (by decide +kernel) (by decide) (by decide) (by omega) (by omega) (by omega) (by decide +kernel) wa_i (by decide +kernel) ?_
  refine jc_put g (pc := 24) (n := 80) (t := 276) (i := 76) f3_18 (fun q h => by cases h; rfl) (by decide) (by decide +kernel) (by decide +kernel) (by omega) (by decide +kernel) (by decide +kernel) ?_
  refine jc_aload_n g (pc := 27) (n := 80) (t := 277) (i := 0) (by decide +kernel) rfl ?_
  refine jc_bipush g (pc := 28) (n := 80) (t := 277) (x := 6) (6) (by decide +kernel) (by decide +kernel) ?_
  refine jc_newaI g (pc := 30) (n := 80) (t := 277) (a := 1064) (N := 6) (by decide +kernel) (by decide) (by decide) (by omega) (by omega) (by omega) (by decide +kernel) wa_i (by decide +kernel) ?_
  refine jc_put g (pc := 32) (n := 81) (t := 277) (i := 76) f3_21 (fun q h => by cases h; rfl) (by decide) (by decide +kernel) (by decide +kernel) (by omega) (by decide +kernel) (by decide +kernel) ?_
  refine jc_aload_n g (pc := 35) (n := 81) (t := 278) (i := 0) (by decide +kernel) rfl ?_
  refine jc_iconst g (pc := 36) (n := 81) (t := 278) (x := 0) (0) (by decide +kernel) rfl ?_
  refine jc_put g (pc := 37) (n := 81) (t := 278) (i := 76) f3_24 (fun q h => by cases h; rfl) (by decide) (by decide +kernel) (by decide +kernel) (by omega) (by decide +kernel) (by decide +kernel) ?_
  refine jc_aload_n g (pc := 40) (n := 81) (t := 279) (i := 0) (by decide +kernel) rfl ?_
  refine jc_iconst g (pc := 41) (n := 81) (t := 279) (x := 0) (0) (by decide +kernel) rfl ?_
  refine jc_put g (pc := 42) (n := 81) (t := 279) (i := 76) f3_28 (fun q h => by cases h; rfl) (by decide) (by decide +kernel) (by decide +kernel) (by omega) (by decide +kernel) (by decide +kernel) ?_
  refine jc_aload_n g (pc := 45) (n := 81) (t := 280) (i := 0) (by decide +kernel) rfl ?_
  refine jc_iconst g (pc := 46) (n := 81) (t := 280) (x := 0) (0) (by decide +kernel) rfl ?_
  refine jc_put g (pc := 47) (n := 81) (t := 280) (i := 76) f3_31 (fun q h => by cases h; rfl) (by decide) (by decide +kernel) (by decide +kernel) (by omega) (by decide +kernel) (by decide +kernel) ?_
  exact ret _ _ (by decide +kernel)
theorem cz_1070 : Rc 1 mXc3 [.ref 1070] 82 282 86 289 := by
  refine Rc.of [some (.ref 1070)] (by decide) rfl rfl rfl (by decide) rfl ?_
  intro J g ret
  refine jc_aload_n g (pc := 0) (n := 82) (t := 282) (i := 0) (by decide +kernel) rfl ?_
  refine jc_obj g (pc := 1) (n := 82) (t := 282) (by omega) wo_3 wo_i wo_c (by decide) (by decide +kernel) ?_
  refine jc_aload_n g (pc := 4) (n := 82) (t := 282) (i := 0) (by decide +kernel) rfl ?_
  refine jc_iconst g (pc := 5) (n := 82) (t := 282) (x := 3) (3) (by decide +kernel) rfl ?_
  refine jc_newaI g (pc := 6) (n := 82) (t := 282) (a := 1071) (N := 3) (by decide +kernel) (by decide) (by decide) (by omega) (by omega) (by omega) (by decide +kernel) wa_i (by decide +kernel) ?_
  refine jc_put g (pc := 8) (n := 83) (t := 282) (i := 81) f3_9 (fun q h => by cases h; rfl) (by decide) (by decide +kernel) (by decide +kernel) (by omega) (by decide +kernel) (by decide +kernel) ?_
  refine jc_aload_n g (pc := 11) (n := 83) (t := 283) (i := 0) (by decide +kernel) rfl ?_
  refine jc_bipush g (pc := 12) (n := 83) (t := 283) (x := 6) (6) (by decide +kernel) (by decide +kernel) ?_
  refine jc_newaI g (pc := 14) (n := 83) (t := 283) (a := 1072) (N := 6) (by decide +kernel) (by decide) (by decide) (by omega) (by omega) (by omega) (by decide +kernel) wa_i (by decide +kernel) ?_
  refine jc_put g (pc := 16) (n := 84) (t := 283) (i := 81) f3_15 (fun q h => by cases h; rfl) (by decide) (by decide +kernel) (by decide +kernel) (by omega) (by decide +kernel) (by decide +kernel) ?_
  refine jc_aload_n g (pc := 19) (n := 84) (t := 284) (i := 0) (by decide +kernel) rfl ?_
  refine jc_bipush g (pc := 20) (n := 84) (t := 284) (x := 6) (6) (by decide +kernel) (by decide +kernel) ?_
  refine jc_newaI g (pc := 22) (n := 84) (t := 284) (a := 1073) (N := 6) (by decide +kernel) (by decide) (by decide) (by omega) (by omega) (by omega) (by decide +kernel) wa_i (by decide +kernel) ?_
  refine jc_put g (pc := 24) (n := 85) (t := 284) (i := 81) f3_18 (fun q h => by cases h; rfl) (by decide) (by decide +kernel) (by decide +kernel) (by omega) (by decide +kernel) (by decide +kernel) ?_
  refine jc_aload_n g (pc := 27) (n := 85) (t := 285) (i := 0) (by decide +kernel) rfl ?_
  refine jc_bipush g (pc := 28) (n := 85) (t := 285) (x := 6) (6) (by decide +kernel) (by decide +kernel) ?_
  refine jc_newaI g (pc := 30) (n := 85) (t := 285) (a := 1074) (N := 6) (by decide +kernel) (by decide) (by decide) (by omega) (by omega) (by omega) (by decide +kernel) wa_i (by decide +kernel) ?_
  refine jc_put g (pc := 32) (n := 86) (t := 285) (i := 81) f3_21 (fun q h => by cases h; rfl) (by decide) (by decide +kernel) (by decide +kernel) (by omega) (by decide +kernel) (by decide +kernel) ?_
  refine jc_aload_n g (pc := 35) (n := 86) (t := 286) (i := 0) (by decide +kernel) rfl ?_
  refine jc_iconst g (pc := 36) (n := 86) (t := 286) (x := 0) (0) (by decide +kernel) rfl ?_
  refine jc_put g (pc := 37) (n := 86) (t := 286) (i := 81) f3_24 (fun q h => by cases h; rfl) (by decide) (by decide +kernel) (by decide +kernel) (by omega) (by decide +kernel) (by decide +kernel) ?_
  refine jc_aload_n g (pc := 40) (n := 86) (t := 287) (i := 0) (by decide +kernel) rfl ?_
  refine jc_iconst g (pc := 41) (n := 86) (t := 287) (x := 0) (0) (by decide +kernel) rfl ?_
  refine jc_put g (pc := 42) (n := 86) (t := 287) (i := 81) f3_28 (fun q h => by cases h; rfl) (by decide) (by decide +kernel) (by decide +kernel) (by omega) (by decide +kernel) (by decide +kernel) ?_
  refine jc_aload_n g (pc := 45) (n := 86) (t := 288) (i := 0) (by decide +kernel) rfl ?_
  refine jc_iconst g (pc := 46) (n := 86) (t := 288) (x := 0) (0) (by decide +kernel) rfl ?_
  refine jc_put g (pc := 47) (n := 86) (t := 288) (i := 81) f3_31 (fun q h => by cases h; rfl) (by decide) (by decide +kernel) (by decide +kernel) (by omega) (by decide +kernel) (by decide +kernel) ?_
  exact ret _ _ (by decide +kernel)
theorem cz_1080 : Rc 1 mXc3 [.ref 1080] 87 290 91 297 := by
  refine Rc.of [some (.ref 1080)] (by decide) rfl rfl rfl (by decide) rfl ?_
  intro J g ret
  refine jc_aload_n g (pc := 0) (n := 87) (t := 290) (i := 0) (by decide +kernel) rfl ?_
  refine jc_obj g (pc := 1) (n := 87) (t := 290) (by omega) wo_3 wo_i wo_c (by decide) (by decide +kernel) ?_
  refine jc_aload_n g (pc := 4) (n := 87) (t := 290) (i := 0) (by decide +kernel) rfl ?_
  refine jc_iconst g (pc := 5) (n := 87) (t := 290) (x := 3) (3) (by decide +kernel) rfl ?_
  refine jc_newaI g (pc := 6) (n := 87) (t := 290) (a := 1081) (N := 3) (by decide +kernel) (by decide) (by decide) (by omega) (by omega) (by omega) (by decide +kernel) wa_i (by decide +kernel) ?_
  refine jc_put g (pc := 8) (n := 88) (t := 290) (i := 86) f3_9 (fun q h => by cases h; rfl) (by decide) (by decide +kernel) (by decide +kernel) (by omega) (by decide +kernel) (by decide +kernel) ?_
  refine jc_aload_n g (pc := 11) (n := 88) (t := 291) (i := 0) (by decide +kernel) rfl ?_
  refine jc_bipush g (pc := 12) (n := 88) (t := 291) (x := 6) (6) (by decide +kernel) (by decide +kernel) ?_
  refine jc_newaI g (pc := 14) (n := 88) (t := 291) (a := 1082) (N := 6) (by decide +kernel) (by decide) (by decide) (by omega) (by omega) (by omega) (by decide +kernel) wa_i (by decide +kernel) ?_
  refine jc_put g (pc := 16) (n := 89) (t := 291) (i := 86) f3_15 (fun q h => by cases h; rfl) (by decide) (by decide +kernel) (by decide +kernel) (by omega) (by decide +kernel) (by decide +kernel) ?_
  refine jc_aload_n g (pc := 19) (n := 89) (t := 292) (i := 0) (by decide +kernel) rfl ?_
  refine jc_bipush g (pc := 20) (n := 89) (t := 292) (x := 6) (6) (by decide +kernel) (by decide +kernel) ?_
  refine jc_newaI g (pc := 22) (n := 89) (t := 292) (a := 1083) (N := 6) (by decide +kernel) (by decide) (by decide) (by omega) (by omega) (by omega) (by decide +kernel) wa_i (by decide +kernel) ?_
  refine jc_put g (pc := 24) (n := 90) (t := 292) (i := 86) f3_18 (fun q h => by cases h; rfl) (by decide) (by decide +kernel) (by decide +kernel) (by omega) (by decide +kernel) (by decide +kernel) ?_
  refine jc_aload_n g (pc := 27) (n := 90) (t := 293) (i := 0) (by decide +kernel) rfl ?_
  refine jc_bipush g (pc := 28) (n := 90) (t := 293) (x := 6) (6) (by decide +kernel) (by decide +kernel) ?_
  refine jc_newaI g (pc := 30) (n := 90) (t := 293) (a := 1084) (N := 6) (by decide +kernel) (by decide) (by decide) (by omega) (by omega) (by omega) (by decide +kernel) wa_i (by decide +kernel) ?_
  refine jc_put g (pc := 32) (n := 91) (t := 293) (i := 86) f3_21 (fun q h => by cases h; rfl) (by decide) (by decide +kernel) (by decide +kernel) (by omega) (by decide +kernel) (by decide +kernel) ?_
  refine jc_aload_n g (pc := 35) (n := 91) (t := 294) (i := 0) (by decide +kernel) rfl ?_
  refine jc_iconst g (pc := 36) (n := 91) (t := 294) (x := 0) (0) (by decide +kernel) rfl ?_
  refine jc_put g (pc := 37) (n := 91) (t := 294) (i := 86) f3_24 (fun q h => by cases h; rfl) (by decide) (by decide +kernel) (by decide +kernel) (by omega) (by decide +kernel) (by decide +kernel) ?_
  refine jc_aload_n g (pc := 40) (n := 91) (t := 295) (i := 0) (by decide +kernel) rfl ?_
  refine jc_iconst g (pc := 41) (n := 91) (t := 295) (x := 0) (0) (by decide +kernel) rfl ?_
  refine jc_put g (pc := 42) (n := 91) (t := 295) (i := 86) f3_28 (fun q h => by cases h; rfl) (by decide) (by decide +kernel) (by decide +kernel) (by omega) (by decide +kernel) (by decide +kernel) ?_
  refine jc_aload_n g (pc := 45) (n := 91) (t := 296) (i := 0) (by decide +kernel) rfl ?_
  refine jc_iconst g (pc := 46) (n := 91) (t := 296) (x := 0) (0) (by decide +kernel) rfl ?_
  refine jc_put g (pc := 47) (n := 91) (t := 296) (i := 86) f3_31 (fun q h => by cases h; rfl) (by decide) (by decide +kernel) (by decide +kernel) (by omega) (by decide +kernel) (by decide +kernel) ?_
  exact ret _ _ (by decide +kernel)
theorem cz_1090 : Rc 1 mXc3 [.ref 1090] 92 298 96 305 := by
  refine Rc.of [some (.ref 1090)] (by decide) rfl rfl rfl (by decide) rfl ?_
  intro J g ret
  refine jc_aload_n g (pc := 0) (n := 92) (t := 298) (i := 0) (by decide +kernel) rfl ?_
  refine jc_obj g (pc := 1) (n := 92) (t := 298) (by omega) wo_3 wo_i wo_c (by decide) (by decide +kernel) ?_
  refine jc_aload_n g (pc := 4) (n := 92) (t := 298) (i := 0) (by decide +kernel) rfl ?_
  refine jc_iconst g (pc := 5) (n := 92) (t := 298) (x := 3) (3) (by decide +kernel) rfl ?_
  refine jc_newaI g (pc := 6) (n := 92) (t := 298) (a := 1091) (N := 3) (by decide +kernel) (by decide) (by decide) (by omega) (by omega) (by omega) (by decide +kernel) wa_i (by decide +kernel) ?_
  refine jc_put g (pc := 8) (n := 93) (t := 298) (i := 91) f3_9 (fun q h => by cases h; rfl) (by decide) (by decide +kernel) (by decide +kernel) (by omega) (by decide +kernel) (by decide +kernel) ?_
  refine jc_aload_n g (pc := 11) (n := 93) (t := 299) (i := 0) (by decide +kernel) rfl ?_
  refine jc_bipush g (pc := 12) (n := 93) (t := 299) (x := 6) (6) (by decide +kernel) (by decide +kernel) ?_
  refine jc_newaI g (pc := 14) (n := 93) (t := 299) (a := 1092) (N := 6) (by decide +kernel) (by decide) (by decide) (by omega) (by omega) (by omega) (by decide +kernel) wa_i (by decide +kernel) ?_
  refine jc_put g (pc := 16) (n := 94) (t := 299) (i := 91) f3_15 (fun q h => by cases h; rfl) (by decide) (by decide +kernel) (by decide +kernel) (by omega) (by decide +kernel) (by decide +kernel) ?_
  refine jc_aload_n g (pc := 19) (n := 94) (t := 300) (i := 0) (by decide +kernel) rfl ?_
  refine jc_bipush g (pc := 20) (n := 94) (t := 300) (x := 6) (6) (by decide +kernel) (by decide +kernel) ?_
  refine jc_newaI g (pc := 22) (n := 94) (t := 300) (a := 1093) (N := 6) (by decide +kernel) (by decide) (by decide) (by omega) (by omega) (by omega) (by decide +kernel) wa_i (by decide +kernel) ?_
  refine jc_put g (pc := 24) (n := 95) (t := 300) (i := 91) f3_18 (fun q h => by cases h; rfl) (by decide) (by decide +kernel) (by decide +kernel) (by omega) (by decide +kernel) (by decide +kernel) ?_
  refine jc_aload_n g (pc := 27) (n := 95) (t := 301) (i := 0) (by decide +kernel) rfl ?_
  refine jc_bipush g (pc := 28) (n := 95) (t := 301) (x := 6) (6) (by decide +kernel) (by decide +kernel) ?_
  refine jc_newaI g (pc := 30) (n := 95) (t := 301) (a := 1094) (N := 6) (by decide +kernel) (by decide) (by decide) (by omega) (by omega) (by omega) (by decide +kernel) wa_i (by decide +kernel) ?_
  refine jc_put g (pc := 32) (n := 96) (t := 301) (i := 91) f3_21 (fun q h => by cases h; rfl) (by decide) (by decide +kernel) (by decide +kernel) (by omega) (by decide +kernel) (by decide +kernel) ?_
  refine jc_aload_n g (pc := 35) (n := 96) (t := 302) (i := 0) (by decide +kernel) rfl ?_
  refine jc_iconst g (pc := 36) (n := 96) (t := 302) (x := 0) (0) (by decide +kernel) rfl ?_
  refine jc_put g (pc := 37) (n := 96) (t := 302) (i := 91) f3_24 (fun q h => by cases h; rfl) (by decide) (by decide +kernel) (by decide +kernel) (by omega) (by decide +kernel) (by decide +kernel) ?_
  refine jc_aload_n g (pc := 40) (n := 96) (t := 303) (i := 0) (by decide +kernel) rfl ?_
  refine jc_iconst g (pc := 41) (n := 96) (t := 303) (x := 0) (0) (by decide +kernel) rfl ?_
  refine jc_put g (pc := 42) (n := 96) (t := 303) (i := 91) f3_28 (fun q h => by cases h; rfl) (by decide) (by decide +kernel) (by decide +kernel) (by omega) (by decide +kernel) (by decide +kernel) ?_
  refine jc_aload_n g (pc := 45) (n := 96) (t := 304) (i := 0) (by decide +kernel) rfl ?_
  refine jc_iconst g (pc := 46) (n := 96) (t := 304) (x := 0) (0) (by decide +kernel) rfl ?_
  refine jc_put g (pc := 47) (n := 96) (t := 304) (i := 91) f3_31 (fun q h => by cases h; rfl) (by decide) (by decide +kernel) (by decide +kernel) (by omega) (by decide +kernel) (by decide +kernel) ?_
  exact ret _ _ (by decide +kernel)
theorem cz_510 : Rc 2 mXc2 [.ref 510, .ref 100] 58 238 96 306 := by
  refine Rc.of [some (.ref 510), some (.ref 100), none] (by decide) rfl rfl rfl (by decide) rfl ?_
  intro J g ret
  refine jc_aload_n g (pc := 0) (n := 58) (t := 238) (i := 0) (by decide +kernel) rfl ?_
  refine jc_obj g (pc := 1) (n := 58) (t := 238) (by omega) wo_2 wo_i wo_c (by decide) (by decide +kernel) ?_
  refine jc_aload_n g (pc := 4) (n := 58) (t := 238) (i := 0) (by decide +kernel) rfl ?_
  refine jc_bipush g (pc := 5) (n := 58) (t := 238) (x := 7) (7) (by decide +kernel) (by decide +kernel) ?_
  refine jc_anewS g (pc := 7) (n := 58) (t := 238) (a := 511) (N := 7) (by decide +kernel) (by decide) (by decide) (by omega) (by omega) (by omega) (by decide +kernel) wk_2_9 (by decide +kernel) ?_
  refine jc_put g (pc := 10) (n := 59) (t := 238) (i := 57) f2_11 (fun q h => by cases h; rfl) (by decide) (by decide +kernel) (by decide +kernel) (by omega) (by decide +kernel) (by decide +kernel) ?_
  refine jc_aload_n g (pc := 13) (n := 59) (t := 239) (i := 0) (by decide +kernel) rfl ?_
  refine jc_bipush g (pc := 14) (n := 59) (t := 239) (x := 6) (6) (by decide +kernel) (by decide +kernel) ?_
  refine jc_newaI g (pc := 16) (n := 59) (t := 239) (a := 512) (N := 6) (by decide +kernel) (by decide) (by decide) (by omega) (by omega) (by omega) (by decide +kernel) wa_i (by decide +kernel) ?_
  refine jc_put g (pc := 18) (n := 60) (t := 239) (i := 57) f2_17 (fun q h => by cases h; rfl) (by decide) (by decide +kernel) (by decide +kernel) (by omega) (by decide +kernel) (by decide +kernel) ?_
  refine jc_aload_n g (pc := 21) (n := 60) (t := 240) (i := 0) (by decide +kernel) rfl ?_
  refine jc_bipush g (pc := 22) (n := 60) (t := 240) (x := 6) (6) (by decide +kernel) (by decide +kernel) ?_
  refine jc_newaI g (pc := 24) (n := 60) (t := 240) (a := 513) (N := 6) (by decide +kernel) (by decide) (by decide) (by omega) (by omega) (by omega) (by decide +kernel) wa_i (by decide +kernel) ?_
  refine jc_put g (pc := 26) (n := 61) (t := 240) (i := 57) f2_21 (fun q h => by cases h; rfl) (by decide) (by decide +kernel) (by decide +kernel) (by omega) (by decide +kernel) (by decide +kernel) ?_
  refine jc_aload_n g (pc := 29) (n := 61) (t := 241) (i := 0) (by decide +kernel) rfl ?_
  refine jc_iconst g (pc := 30) (n := 61) (t := 241) (x := 0) (0) (by decide +kernel) rfl ?_
  refine jc_put g (pc := 31) (n := 61) (t := 241) (i := 57) f2_24 (fun q h => by cases h; rfl) (by decide) (by decide +kernel) (by decide +kernel) (by omega) (by decide +kernel) (by decide +kernel) ?_
  refine jc_aload_n g (pc := 34) (n := 61) (t := 242) (i := 0) (by decide +kernel) rfl ?_
  refine jc_iconst g (pc := 35) (n := 61) (t := 242) (x := 0) (0) (by decide +kernel) rfl ?_
  refine jc_put g (pc := 36) (n := 61) (t := 242) (i := 57) f2_28 (fun q h => by cases h; rfl) (by decide) (by decide +kernel) (by decide +kernel) (by omega) (by decide +kernel) (by decide +kernel) ?_
  refine jc_aload_n g (pc := 39) (n := 61) (t := 243) (i := 0) (by decide +kernel) rfl ?_
  refine jc_iconst g (pc := 40) (n := 61) (t := 243) (x := 0) (0) (by decide +kernel) rfl ?_
  refine jc_put g (pc := 41) (n := 61) (t := 243) (i := 57) f2_32 (fun q h => by cases h; rfl) (by decide) (by decide +kernel) (by decide +kernel) (by omega) (by decide +kernel) (by decide +kernel) ?_
  refine jc_aload_n g (pc := 44) (n := 61) (t := 244) (i := 0) (by decide +kernel) rfl ?_
  refine jc_iconst g (pc := 45) (n := 61) (t := 244) (x := 0) (0) (by decide +kernel) rfl ?_
  refine jc_put g (pc := 46) (n := 61) (t := 244) (i := 57) f2_35 (fun q h => by cases h; rfl) (by decide) (by decide +kernel) (by decide +kernel) (by omega) (by decide +kernel) (by decide +kernel) ?_
  refine jc_aload_n g (pc := 49) (n := 61) (t := 245) (i := 0) (by decide +kernel) rfl ?_
  refine jc_iconst g (pc := 50) (n := 61) (t := 245) (x := 0) (0) (by decide +kernel) rfl ?_
  refine jc_put g (pc := 51) (n := 61) (t := 245) (i := 57) f2_38 (fun q h => by cases h; rfl) (by decide) (by decide +kernel) (by decide +kernel) (by omega) (by decide +kernel) (by decide +kernel) ?_
  refine jc_aload_n g (pc := 54) (n := 61) (t := 246) (i := 0) (by decide +kernel) rfl ?_
  refine jc_iconst g (pc := 55) (n := 61) (t := 246) (x := 0) (0) (by decide +kernel) rfl ?_
  refine jc_put g (pc := 56) (n := 61) (t := 246) (i := 57) f2_41 (fun q h => by cases h; rfl) (by decide) (by decide +kernel) (by decide +kernel) (by omega) (by decide +kernel) (by decide +kernel) ?_
  refine jc_aload_n g (pc := 59) (n := 61) (t := 247) (i := 0) (by decide +kernel) rfl ?_
  refine jc_lconst g (pc := 60) (n := 61) (t := 247) (x := 0) (0) (by decide +kernel) rfl ?_
  refine jc_put g (pc := 61) (n := 61) (t := 247) (i := 57) f2_44 (fun q h => by cases h; rfl) (by decide) (by decide +kernel) (by decide +kernel) (by omega) (by decide +kernel) (by decide +kernel) ?_
  refine jc_aload_n g (pc := 64) (n := 61) (t := 248) (i := 0) (by decide +kernel) rfl ?_
  refine jc_lconst g (pc := 65) (n := 61) (t := 248) (x := 1) (1) (by decide +kernel) rfl ?_
  refine jc_put g (pc := 66) (n := 61) (t := 248) (i := 57) f2_48 (fun q h => by cases h; rfl) (by decide) (by decide +kernel) (by decide +kernel) (by omega) (by decide +kernel) (by decide +kernel) ?_
  refine jc_aload_n g (pc := 69) (n := 61) (t := 249) (i := 0) (by decide +kernel) rfl ?_
  refine jc_aload_n g (pc := 70) (n := 61) (t := 249) (i := 1) (by decide +kernel) rfl ?_
  refine jc_put g (pc := 71) (n := 61) (t := 249) (i := 57) f2_51 (fun q h => by cases h; rfl) (by decide) (by decide +kernel) (by decide +kernel) (by omega) (by decide +kernel) (by decide +kernel) ?_
  refine jc_iconst g (pc := 74) (n := 61) (t := 250) (x := 0) (0) (by decide +kernel) rfl ?_
  refine jc_istore_n g (pc := 75) (n := 61) (t := 250) (i := 2) (by decide +kernel) (by decide) ?_
  dsimp only [stL, clL, hdL]
  refine jc_iload_n g (pc := 76) (n := 61) (t := 250) (i := 2) (by decide +kernel) rfl ?_
  refine jc_bipush g (pc := 77) (n := 61) (t := 250) (x := 6) (6) (by decide +kernel) (by decide +kernel) ?_
  refine jc_gt_f g (pc := 79) (n := 61) (t := 250) (off := 22) (tgt := 101) (by decide +kernel) (by decide) (by decide) ?_
  refine jc_aload_n g (pc := 82) (n := 61) (t := 250) (i := 0) (by decide +kernel) rfl ?_
  refine jc_get g (pc := 83) (n := 61) (t := 250) (i := 57) (b := 511) f2_11 (by decide +kernel) (by omega) (by decide +kernel) (by decide +kernel) ?_
  refine jc_iload_n g (pc := 86) (n := 61) (t := 250) (i := 2) (by decide +kernel) rfl ?_
  refine jc_new g (pc := 87) (n := 61) (t := 250) (ci := 3) (a := 1030) rfl (by decide +kernel) (by omega) (by omega) (by decide +kernel) wk_2_9 wn_3 wz_3 (by decide +kernel) ?_
  refine jc_dup g (pc := 90) (n := 62) (t := 250) (by decide +kernel) rfl ?_
  refine jc_callN g (pc := 91) (n := 62) (t := 250) (As := []) cz_1030 wm_2_55 cb_3 (by omega) (by omega) (by omega) rfl (by decide +kernel) (by decide +kernel) (by decide) (by decide +kernel) ?_
  refine jc_aastS g (pc := 94) (n := 66) (t := 257) (i := 58) (N := 7) (i2 := 61) (by decide +kernel) (by omega) (by decide +kernel) (by omega) (by decide +kernel) (by rw [vin_iff]; decide +kernel) (by decide +kernel) ?_
  refine jc_iinc g (pc := 95) (n := 66) (t := 258) (i := 2) (z := 1) (1) (by decide +kernel) rfl (by decide) rfl ?_
  dsimp only [stL, clL, hdL]
  refine jc_goto g (pc := 98) (n := 66) (t := 258) (off := -22) (tgt := 76) (by decide +kernel) (by decide) ?_
  refine jc_iload_n g (pc := 76) (n := 66) (t := 258) (i := 2) (by decide +kernel) rfl ?_
  refine jc_bipush g (pc := 77) (n := 66) (t := 258) (x := 6) (6) (by decide +kernel) (by decide +kernel) ?_
  refine jc_gt_f g (pc := 79) (n := 66) (t := 258) (off := 22) (tgt := 101) (by decide +kernel) (by decide) (by decide) ?_
  refine jc_aload_n g (pc := 82) (n := 66) (t := 258) (i := 0) (by decide +kernel) rfl ?_
  refine jc_get g (pc := 83) (n := 66) (t := 258) (i := 57) (b := 511) f2_11 (by decide +kernel) (by omega) (by decide +kernel) (by decide +kernel) ?_
  refine jc_iload_n g (pc := 86) (n := 66) (t := 258) (i := 2) (by decide +kernel) rfl ?_
  refine jc_new g (pc := 87) (n := 66) (t := 258) (ci := 3) (a := 1040) rfl (by decide +kernel) (by omega) (by omega) (by decide +kernel) wk_2_9 wn_3 wz_3 (by decide +kernel) ?_
  refine jc_dup g (pc := 90) (n := 67) (t := 258) (by decide +kernel) rfl ?_
  refine jc_callN g (pc := 91) (n := 67) (t := 258) (As := []) cz_1040 wm_2_55 cb_3 (by omega) (by omega) (by omega) rfl (by decide +kernel) (by decide +kernel) (by decide) (by decide +kernel) ?_
  refine jc_aastS g (pc := 94) (n := 71) (t := 265) (i := 58) (N := 7) (i2 := 66) (by decide +kernel) (by omega) (by decide +kernel) (by omega) (by decide +kernel) (by rw [vin_iff]; decide +kernel) (by decide +kernel) ?_
  refine jc_iinc g (pc := 95) (n := 71) (t := 266) (i := 2) (z := 1) (1) (by decide +kernel) rfl (by decide) rfl ?_
  dsimp only [stL, clL, hdL]
  refine jc_goto g (pc := 98) (n := 71) (t := 266) (off := -22) (tgt := 76) (by decide +kernel) (by decide) ?_
  refine jc_iload_n g (pc := 76) (n := 71) (t := 266) (i := 2) (by decide +kernel) rfl ?_
  refine jc_bipush g (pc := 77) (n := 71) (t := 266) (x := 6) (6) (by decide +kernel) (by decide +kernel) ?_
  refine jc_gt_f g (pc := 79) (n := 71) (t := 266) (off := 22) (tgt := 101) (by decide +kernel) (by decide) (by decide) ?_
  refine jc_aload_n g (pc := 82) (n := 71) (t := 266) (i := 0) (by decide +kernel) rfl ?_
  refine jc_get g (pc := 83) (n := 71) (t := 266) (i := 57) (b := 511) f2_11 (by decide +kernel) (by omega) (by decide +kernel) (by decide +kernel) ?_
  refine jc_iload_n g (pc := 86) (n := 71) (t := 266) (i := 2) (by decide +kernel) rfl ?_
  refine jc_new g (pc := 87) (n := 71) (t := 266) (ci := 3) (a := 1050) rfl (by decide +kernel) (by omega) (by omega) (by decide +kernel) wk_2_9 wn_3 wz_3 (by decide +kernel) ?_
  refine jc_dup g (pc := 90) (n := 72) (t := 266) (by decide +kernel) rfl ?_
  refine jc_callN g (pc := 91) (n := 72) (t := 266) (As := []) cz_1050 wm_2_55 cb_3 (by omega) (by omega) (by omega) rfl (by decide +kernel) (by decide +kernel) (by decide) (by decide +kernel) ?_
  refine jc_aastS g (pc := 94) (n := 76) (t := 273) (i := 58) (N := 7) (i2 := 71) (by decide +kernel) (by omega) (by decide +kernel) (by omega) (by decide +kernel) (by rw [vin_iff]; decide +kernel) (by decide +kernel) ?_
  refine jc_iinc g (pc := 95) (n := 76) (t := 274) (i := 2) (z := 1) (1) (by decide +kernel) rfl (by decide) rfl ?_
  dsimp only [stL, clL, hdL]
  refine jc_goto g (pc := 98) (n := 76) (t := 274) (off := -22) (tgt := 76) (by decide +kernel) (by decide) ?_
  refine jc_iload_n g (pc := 76) (n := 76) (t := 274) (i := 2) (by decide +kernel) rfl ?_
  refine jc_bipush g (pc := 77) (n := 76) (t := 274) (x := 6) (6) (by decide +kernel) (by decide +kernel) ?_
  refine jc_gt_f g (pc := 79) (n := 76) (t := 274) (off := 22) (tgt := 101) (by decide +kernel) (by decide) (by decide) ?_
  refine jc_aload_n g (pc := 82) (n := 76) (t := 274) (i := 0) (by decide +kernel) rfl ?_
  refine jc_get g (pc := 83) (n := 76) (t := 274) (i := 57) (b := 511) f2_11 (by decide +kernel) (by omega) (by decide +kernel) (by decide +kernel) ?_
  refine jc_iload_n g (pc := 86) (n := 76) (t := 274) (i := 2) (by decide +kernel) rfl ?_
  refine jc_new g (pc := 87) (n := 76) (t := 274) (ci := 3) (a := 1060) rfl (by decide +kernel) (by omega) (by omega) (by decide +kernel) wk_2_9 wn_3 wz_3 (by decide +kernel) ?_
  refine jc_dup g (pc := 90) (n := 77) (t := 274) (by decide +kernel) rfl ?_
  refine jc_callN g (pc := 91) (n := 77) (t := 274) (As := []) cz_1060 wm_2_55 cb_3 (by omega) (by omega) (by omega) rfl (by decide +kernel) (by decide +kernel) (by decide) (by decide +kernel) ?_
  refine jc_aastS g (pc := 94) (n := 81) (t := 281) (i := 58) (N := 7) (i2 := 76) (by decide +kernel) (by omega) (by decide +kernel) (by omega) (by decide +kernel) (by rw [vin_iff]; decide +kernel) (by decide +kernel) ?_
  refine jc_iinc g (pc := 95) (n := 81) (t := 282) (i := 2) (z := 1) (1) (by decide +kernel) rfl (by decide) rfl ?_
  dsimp only [stL, clL, hdL]
  refine jc_goto g (pc := 98) (n := 81) (t := 282) (off := -22) (tgt := 76) (by decide +kernel) (by decide) ?_
  refine jc_iload_n g (pc := 76) (n := 81) (t := 282) (i := 2) (by decide +kernel) rfl ?_
  refine jc_bipush g (pc := 77) (n := 81) (t := 282) (x := 6) (6) (by decide +kernel) (by decide +kernel) ?_
  refine jc_gt_f g (pc := 79) (n := 81) (t := 282) (off := 22) (tgt := 101) (by decide +kernel) (by decide) (by decide) ?_
  refine jc_aload_n g (pc := 82) (n := 81) (t := 282) (i := 0) (by decide +kernel) rfl ?_
  refine jc_get g (pc := 83) (n := 81) (t := 282) (i := 57) (b := 511) f2_11 (by decide +kernel) (by omega) (by decide +kernel) (by decide +kernel) ?_
  refine jc_iload_n g (pc := 86) (n := 81) (t := 282) (i := 2) (by decide +kernel) rfl ?_
  refine jc_new g (pc := 87) (n := 81) (t := 282) (ci := 3) (a := 1070) rfl (by decide +kernel) (by omega) (by omega) (by decide +kernel) wk_2_9 wn_3 wz_3 (by decide +kernel) ?_
  refine jc_dup g (pc := 90) (n := 82) (t := 282) (by decide +kernel) rfl ?_
  refine jc_callN g (pc := 91) (n := 82) (t := 282) (As := []) cz_1070 wm_2_55 cb_3 (by omega) (by omega) (by omega) rfl (by decide +kernel) (by decide +kernel) (by decide) (by decide +kernel) ?_
  refine jc_aastS g (pc := 94) (n := 86) (t := 289) (i := 58) (N := 7) (i2 := 81) (by decide +kernel) (by omega) (by decide +kernel) (by omega) (by decide +kernel) (by rw [vin_iff]; decide +kernel) (by decide +kernel) ?_
  refine jc_iinc g (pc := 95) (n := 86) (t := 290) (i := 2) (z := 1) (1) (by decide +kernel) rfl (by decide) rfl ?_
  dsimp only [stL, clL, hdL]
  refine jc_goto g (pc := 98) (n := 86) (t := 290) (off := -22) (tgt := 76) (by decide +kernel) (by decide) ?_
  refine jc_iload_n g (pc := 76) (n := 86) (t := 290) (i := 2) (by decide +kernel) rfl ?_
  refine jc_bipush g (pc := 77) (n := 86) (t := 290) (x := 6) (6) (by decide +kernel) (by decide +kernel) ?_
  refine jc_gt_f g (pc := 79) (n := 86) (t := 290) (off := 22) (tgt := 101) (by decide +kernel) (by decide) (by decide) ?_
  refine jc_aload_n g (pc := 82) (n := 86) (t := 290) (i := 0) (by decide +kernel) rfl ?_
  refine jc_get g (pc := 83) (n := 86) (t := 290) (i := 57) (b := 511) f2_11 (by decide +kernel) (by omega) (by decide +kernel) (by decide +kernel) ?_
  refine jc_iload_n g (pc := 86) (n := 86) (t := 290) (i := 2) (by decide +kernel) rfl ?_
  refine jc_new g (pc := 87) (n := 86) (t := 290) (ci := 3) (a := 1080) rfl (by decide +kernel) (by omega) (by omega) (by decide +kernel) wk_2_9 wn_3 wz_3 (by decide +kernel) ?_
  refine jc_dup g (pc := 90) (n := 87) (t := 290) (by decide +kernel) rfl ?_
  refine jc_callN g (pc := 91) (n := 87) (t := 290) (As := []) cz_1080 wm_2_55 cb_3 (by omega) (by omega) (by omega) rfl (by decide +kernel) (by decide +kernel) (by decide) (by decide +kernel) ?_
  refine jc_aastS g (pc := 94) (n := 91) (t := 297) (i := 58) (N := 7) (i2 := 86) (by decide +kernel) (by omega) (by decide +kernel) (by omega) (by decide +kernel) (by rw [vin_iff]; decide +kernel) (by decide +kernel) ?_
  refine jc_iinc g (pc := 95) (n := 91) (t := 298) (i := 2) (z := 1) (1) (by decide +kernel) rfl (by decide) rfl ?_
  dsimp only [stL, clL, hdL]
  refine jc_goto g (pc := 98) (n := 91) (t := 298) (off := -22) (tgt := 76) (by decide +kernel) (by decide) ?_
  refine jc_iload_n g (pc := 76) (n := 91) (t := 298) (i := 2) (by decide +kernel) rfl ?_
  refine jc_bipush g (pc := 77) (n := 91) (t := 298) (x := 6) (6) (by decide +kernel) (by decide +kernel) ?_
  refine jc_gt_f g (pc := 79) (n := 91) (t := 298) (off := 22) (tgt := 101) (by decide +kernel) (by decide) (by decide) ?_
  refine jc_aload_n g (pc := 82) (n := 91) (t := 298) (i := 0) (by decide +kernel) rfl ?_
  refine jc_get g (pc := 83) (n := 91) (t := 298) (i := 57) (b := 511) f2_11 (by decide +kernel) (by omega) (by decide +kernel) (by decide +kernel) ?_
  refine jc_iload_n g (pc := 86) (n := 91) (t := 298) (i := 2) (by decide +kernel) rfl ?_
  refine jc_new g (pc := 87) (n := 91) (t := 298) (ci := 3) (a := 1090) rfl (by decide +kernel) (by omega) (by omega) (by decide +kernel) wk_2_9 wn_3 wz_3 (by decide +kernel) ?_
  refine jc_dup g (pc := 90) (n := 92) (t := 298) (by decide +kernel) rfl ?_
  refine jc_callN g (pc := 91) (n := 92) (t := 298) (As := []) cz_1090 wm_2_55 cb_3 (by omega) (by omega) (by omega) rfl (by decide +kernel) (by decide +kernel) (by decide) (by decide +kernel) ?_
  refine jc_aastS g (pc := 94) (n := 96) (t := 305) (i := 58) (N := 7) (i2 := 91) (by decide +kernel) (by omega) (by decide +kernel) (by omega) (by decide +kernel) (by rw [vin_iff]; decide +kernel) (by decide +kernel) ?_
  refine jc_iinc g (pc := 95) (n := 96) (t := 306) (i := 2) (z := 1) (1) (by decide +kernel) rfl (by decide) rfl ?_
  dsimp only [stL, clL, hdL]
  refine jc_goto g (pc := 98) (n := 96) (t := 306) (off := -22) (tgt := 76) (by decide +kernel) (by decide) ?_
  refine jc_iload_n g (pc := 76) (n := 96) (t := 306) (i := 2) (by decide +kernel) rfl ?_
  refine jc_bipush g (pc := 77) (n := 96) (t := 306) (x := 6) (6) (by decide +kernel) (by decide +kernel) ?_
  refine jc_gt_t g (pc := 79) (n := 96) (t := 306) (off := 22) (tgt := 101) (by decide +kernel) (by decide) (by decide) ?_
  exact ret _ _ (by decide +kernel)
