/-! the constructors: walks -/
theorem cz_520 : Rc 3 mXc0 [.ref 520] 97 307 98 313 := by
  refine Rc.of [some (.ref 520)] (by decide) rfl rfl rfl (by decide) rfl ?_
  intro J g ret
  refine jc_aload_n g (pc := 0) (n := 97) (t := 307) (i := 0) (by decide +kernel) rfl ?_
  refine jc_obj g (pc := 1) (n := 97) (t := 307) (by omega) wo_0 wo_i wo_c (by decide) (by decide +kernel) ?_
  refine jc_aload_n g (pc := 4) (n := 97) (t := 307) (i := 0) (by decide +kernel) rfl ?_
  refine jc_bipush g (pc := 5) (n := 97) (t := 307) (x := 30) (30) (by decide +kernel) (by decide +kernel) ?_
  refine jc_newaI g (pc := 7) (n := 97) (t := 307) (a := 521) (N := 30) (by decide +kernel) (by decide) (by decide) (by omega) (by omega) (by omega) (by decide +kernel) wa_i (by decide +kernel) ?_
  refine jc_put g (pc := 9) (n := 98) (t := 307) (i := 96) f0_11 (fun q h => by cases h; rfl) (by decide) (by decide +kernel) (by decide +kernel) (by omega) (by decide +kernel) (by decide +kernel) ?_
  refine jc_aload_n g (pc := 12) (n := 98) (t := 308) (i := 0) (by decide +kernel) rfl ?_
  refine jc_iconst g (pc := 13) (n := 98) (t := 308) (x := 0) (0) (by decide +kernel) rfl ?_
  refine jc_put g (pc := 14) (n := 98) (t := 308) (i := 96) f0_15 (fun q h => by cases h; rfl) (by decide) (by decide +kernel) (by decide +kernel) (by omega) (by decide +kernel) (by decide +kernel) ?_
  refine jc_aload_n g (pc := 17) (n := 98) (t := 309) (i := 0) (by decide +kernel) rfl ?_
  refine jc_iconst g (pc := 18) (n := 98) (t := 309) (x := 0) (0) (by decide +kernel) rfl ?_
  refine jc_put g (pc := 19) (n := 98) (t := 309) (i := 96) f0_19 (fun q h => by cases h; rfl) (by decide) (by decide +kernel) (by decide +kernel) (by omega) (by decide +kernel) (by decide +kernel) ?_
  refine jc_aload_n g (pc := 22) (n := 98) (t := 310) (i := 0) (by decide +kernel) rfl ?_
  refine jc_iconst g (pc := 23) (n := 98) (t := 310) (x := 0) (0) (by decide +kernel) rfl ?_
  refine jc_put g (pc := 24) (n := 98) (t := 310) (i := 96) f0_23 (fun q h => by cases h; rfl) (by decide) (by decide +kernel) (by decide +kernel) (by omega) (by decide +kernel) (by decide +kernel) ?_
  refine jc_aload_n g (pc := 27) (n := 98) (t := 311) (i := 0) (by decide +kernel) rfl ?_
  refine jc_iconst g (pc := 28) (n := 98) (t := 311) (x := 0) (0) (by decide +kernel) rfl ?_
  refine jc_put g (pc := 29) (n := 98) (t := 311) (i := 96) f0_26 (fun q h => by cases h; rfl) (by decide) (by decide +kernel) (by decide +kernel) (by omega) (by decide +kernel) (by decide +kernel) ?_
  refine jc_aload_n g (pc := 32) (n := 98) (t := 312) (i := 0) (by decide +kernel) rfl ?_
  refine jc_iconst g (pc := 33) (n := 98) (t := 312) (x := 0) (0) (by decide +kernel) rfl ?_
  refine jc_put g (pc := 34) (n := 98) (t := 312) (i := 96) f0_29 (fun q h => by cases h; rfl) (by decide) (by decide +kernel) (by decide +kernel) (by omega) (by decide +kernel) (by decide +kernel) ?_
  exact ret _ _ (by decide +kernel)
theorem cz_530 : Rc 3 mXc1 [.ref 530] 99 314 109 332 := by
  refine Rc.of [some (.ref 530)] (by decide) rfl rfl rfl (by decide) rfl ?_
  intro J g ret
  refine jc_aload_n g (pc := 0) (n := 99) (t := 314) (i := 0) (by decide +kernel) rfl ?_
  refine jc_obj g (pc := 1) (n := 99) (t := 314) (by omega) wo_1 wo_i wo_c (by decide) (by decide +kernel) ?_
  refine jc_aload_n g (pc := 4) (n := 99) (t := 314) (i := 0) (by decide +kernel) rfl ?_
  refine jc_iconst g (pc := 5) (n := 99) (t := 314) (x := 4) (4) (by decide +kernel) rfl ?_
  refine jc_newaI g (pc := 6) (n := 99) (t := 314) (a := 531) (N := 4) (by decide +kernel) (by decide) (by decide) (by omega) (by omega) (by omega) (by decide +kernel) wa_i (by decide +kernel) ?_
  refine jc_dup g (pc := 8) (n := 100) (t := 314) (by decide +kernel) rfl ?_
  refine jc_iconst g (pc := 9) (n := 100) (t := 314) (x := 0) (0) (by decide +kernel) rfl ?_
  refine jc_iconst g (pc := 10) (n := 100) (t := 314) (x := -1) (-1) (by decide +kernel) rfl ?_
  refine jc_iast g (pc := 11) (n := 100) (t := 314) (i := 99) (N := 4) (by decide +kernel) (by omega) (by decide +kernel) (by rw [vin_iff]; decide +kernel) (by decide +kernel) ?_
  refine jc_dup g (pc := 12) (n := 100) (t := 315) (by decide +kernel) rfl ?_
  refine jc_iconst g (pc := 13) (n := 100) (t := 315) (x := 1) (1) (by decide +kernel) rfl ?_
  refine jc_iconst g (pc := 14) (n := 100) (t := 315) (x := -1) (-1) (by decide +kernel) rfl ?_
  refine jc_iast g (pc := 15) (n := 100) (t := 315) (i := 99) (N := 4) (by decide +kernel) (by omega) (by decide +kernel) (by rw [vin_iff]; decide +kernel) (by decide +kernel) ?_
  refine jc_dup g (pc := 16) (n := 100) (t := 316) (by decide +kernel) rfl ?_
  refine jc_iconst g (pc := 17) (n := 100) (t := 316) (x := 2) (2) (by decide +kernel) rfl ?_
  refine jc_iconst g (pc := 18) (n := 100) (t := 316) (x := -1) (-1) (by decide +kernel) rfl ?_
  refine jc_iast g (pc := 19) (n := 100) (t := 316) (i := 99) (N := 4) (by decide +kernel) (by omega) (by decide +kernel) (by rw [vin_iff]; decide +kernel) (by decide +kernel) ?_
  refine jc_dup g (pc := 20) (n := 100) (t := 317) (by decide +kernel) rfl ?_
  refine jc_iconst g (pc := 21) (n := 100) (t := 317) (x := 3) (3) (by decide +kernel) rfl ?_
  refine jc_iconst g (pc := 22) (n := 100) (t := 317) (x := -1) (-1) (by decide +kernel) rfl ?_
  refine jc_iast g (pc := 23) (n := 100) (t := 317) (i := 99) (N := 4) (by decide +kernel) (by omega) (by decide +kernel) (by rw [vin_iff]; decide +kernel) (by decide +kernel) ?_
  refine jc_put g (pc := 24) (n := 100) (t := 318) (i := 98) f1_11 (fun q h => by cases h; rfl) (by decide) (by decide +kernel) (by decide +kernel) (by omega) (by decide +kernel) (by decide +kernel) ?_
  refine jc_aload_n g (pc := 27) (n := 100) (t := 319) (i := 0) (by decide +kernel) rfl ?_
  refine jc_iconst g (pc := 28) (n := 100) (t := 319) (x := 4) (4) (by decide +kernel) rfl ?_
  refine jc_newaI g (pc := 29) (n := 100) (t := 319) (a := 532) (N := 4) (by decide +kernel) (by decide) (by decide) (by omega) (by omega) (by omega) (by decide +kernel) wa_i (by decide +kernel) ?_
  refine jc_put g (pc := 31) (n := 101) (t := 319) (i := 98) f1_15 (fun q h => by cases h; rfl) (by decide) (by decide +kernel) (by decide +kernel) (by omega) (by decide +kernel) (by decide +kernel) ?_
  refine jc_aload_n g (pc := 34) (n := 101) (t := 320) (i := 0) (by decide +kernel) rfl ?_
  refine jc_iconst g (pc := 35) (n := 101) (t := 320) (x := 4) (4) (by decide +kernel) rfl ?_
  refine jc_bipush g (pc := 36) (n := 101) (t := 320) (x := 40) (40) (by decide +kernel) (by decide +kernel) ?_
  refine jc_multi g (pc := 38) (n := 101) (t := 320) (by decide +kernel) (by decide +kernel) (by omega) (by omega) (by decide +kernel) wk_m wa_j (by decide +kernel) ?_
  refine jc_put g (pc := 42) (n := 106) (t := 324) (i := 98) f1_20 (fun q h => by cases h; rfl) (by decide) (by decide +kernel) (by decide +kernel) (by omega) (by decide +kernel) (by decide +kernel) ?_
  refine jc_aload_n g (pc := 45) (n := 106) (t := 325) (i := 0) (by decide +kernel) rfl ?_
  refine jc_iconst g (pc := 46) (n := 106) (t := 325) (x := 4) (4) (by decide +kernel) rfl ?_
  refine jc_newaI g (pc := 47) (n := 106) (t := 325) (a := 538) (N := 4) (by decide +kernel) (by decide) (by decide) (by omega) (by omega) (by omega) (by decide +kernel) wa_i (by decide +kernel) ?_
  refine jc_dup g (pc := 49) (n := 107) (t := 325) (by decide +kernel) rfl ?_
  refine jc_iconst g (pc := 50) (n := 107) (t := 325) (x := 0) (0) (by decide +kernel) rfl ?_
  refine jc_iconst g (pc := 51) (n := 107) (t := 325) (x := 2) (2) (by decide +kernel) rfl ?_
  refine jc_iast g (pc := 52) (n := 107) (t := 325) (i := 106) (N := 4) (by decide +kernel) (by omega) (by decide +kernel) (by rw [vin_iff]; decide +kernel) (by decide +kernel) ?_
  refine jc_dup g (pc := 53) (n := 107) (t := 326) (by decide +kernel) rfl ?_
  refine jc_iconst g (pc := 54) (n := 107) (t := 326) (x := 1) (1) (by decide +kernel) rfl ?_
  refine jc_iconst g (pc := 55) (n := 107) (t := 326) (x := 2) (2) (by decide +kernel) rfl ?_
  refine jc_iast g (pc := 56) (n := 107) (t := 326) (i := 106) (N := 4) (by decide +kernel) (by omega) (by decide +kernel) (by rw [vin_iff]; decide +kernel) (by decide +kernel) ?_
  refine jc_dup g (pc := 57) (n := 107) (t := 327) (by decide +kernel) rfl ?_
  refine jc_iconst g (pc := 58) (n := 107) (t := 327) (x := 2) (2) (by decide +kernel) rfl ?_
  refine jc_iconst g (pc := 59) (n := 107) (t := 327) (x := 2) (2) (by decide +kernel) rfl ?_
  refine jc_iast g (pc := 60) (n := 107) (t := 327) (i := 106) (N := 4) (by decide +kernel) (by omega) (by decide +kernel) (by rw [vin_iff]; decide +kernel) (by decide +kernel) ?_
  refine jc_dup g (pc := 61) (n := 107) (t := 328) (by decide +kernel) rfl ?_
  refine jc_iconst g (pc := 62) (n := 107) (t := 328) (x := 3) (3) (by decide +kernel) rfl ?_
  refine jc_iconst g (pc := 63) (n := 107) (t := 328) (x := 2) (2) (by decide +kernel) rfl ?_
  refine jc_iast g (pc := 64) (n := 107) (t := 328) (i := 106) (N := 4) (by decide +kernel) (by omega) (by decide +kernel) (by rw [vin_iff]; decide +kernel) (by decide +kernel) ?_
  refine jc_put g (pc := 65) (n := 107) (t := 329) (i := 98) f1_23 (fun q h => by cases h; rfl) (by decide) (by decide +kernel) (by decide +kernel) (by omega) (by decide +kernel) (by decide +kernel) ?_
  refine jc_aload_n g (pc := 68) (n := 107) (t := 330) (i := 0) (by decide +kernel) rfl ?_
  refine jc_iconst g (pc := 69) (n := 107) (t := 330) (x := 4) (4) (by decide +kernel) rfl ?_
  refine jc_newaI g (pc := 70) (n := 107) (t := 330) (a := 539) (N := 4) (by decide +kernel) (by decide) (by decide) (by omega) (by omega) (by omega) (by decide +kernel) wa_i (by decide +kernel) ?_
  refine jc_put g (pc := 72) (n := 108) (t := 330) (i := 98) f1_26 (fun q h => by cases h; rfl) (by decide) (by decide +kernel) (by decide +kernel) (by omega) (by decide +kernel) (by decide +kernel) ?_
  refine jc_aload_n g (pc := 75) (n := 108) (t := 331) (i := 0) (by decide +kernel) rfl ?_
  refine jc_iconst g (pc := 76) (n := 108) (t := 331) (x := 4) (4) (by decide +kernel) rfl ?_
  refine jc_newaI g (pc := 77) (n := 108) (t := 331) (a := 540) (N := 4) (by decide +kernel) (by decide) (by decide) (by omega) (by omega) (by omega) (by decide +kernel) wa_i (by decide +kernel) ?_
  refine jc_put g (pc := 79) (n := 109) (t := 331) (i := 98) f1_29 (fun q h => by cases h; rfl) (by decide) (by decide +kernel) (by decide +kernel) (by omega) (by decide +kernel) (by decide +kernel) ?_
  exact ret _ _ (by decide +kernel)
theorem cz_1 : Rc 4 mXc7 [.ref 1] 1 0 110 336 := by
  refine Rc.of [some (.ref 1)] (by decide) rfl rfl rfl (by decide) rfl ?_
  intro J g ret
  refine jc_aload_n g (pc := 0) (n := 1) (t := 0) (i := 0) (by decide +kernel) rfl ?_
  refine jc_obj g (pc := 1) (n := 1) (t := 0) (by omega) wo_7 wo_i wo_c (by decide) (by decide +kernel) ?_
  refine jc_aload_n g (pc := 4) (n := 1) (t := 0) (i := 0) (by decide +kernel) rfl ?_
  refine jc_new g (pc := 5) (n := 1) (t := 0) (ci := 2) (a := 510) rfl (by decide +kernel) (by omega) (by omega) (by decide +kernel) wk_7_7 wn_2 wz_2 (by decide +kernel) ?_
  refine jc_dup g (pc := 8) (n := 2) (t := 0) (by decide +kernel) rfl ?_
  refine jc_call g (pc := 9) (n := 2) (t := 0) (As := []) cz_510 wm_7_9 cb_2 (by omega) (by omega) (by omega) rfl (by decide +kernel) (by decide +kernel) (by decide) (by decide +kernel) ?_
  refine jc_put g (pc := 12) (n := 58) (t := 144) (i := 0) f7_10 (fun q h => by cases h; rfl) (by decide) (by decide +kernel) (by decide +kernel) (by omega) (by decide +kernel) (by decide +kernel) ?_
  refine jc_aload_n g (pc := 15) (n := 58) (t := 145) (i := 0) (by decide +kernel) rfl ?_
  refine jc_aload_n g (pc := 16) (n := 58) (t := 145) (i := 0) (by decide +kernel) rfl ?_
  refine jc_get g (pc := 17) (n := 58) (t := 145) (i := 0) (b := 510) f7_10 (by decide +kernel) (by omega) (by decide +kernel) (by decide +kernel) ?_
  refine jc_get g (pc := 20) (n := 58) (t := 145) (i := 1) (b := 100) f7_16 (by decide +kernel) (by omega) (by decide +kernel) (by decide +kernel) ?_
  refine jc_put g (pc := 23) (n := 58) (t := 145) (i := 0) f7_20 (fun q h => by cases h; rfl) (by decide) (by decide +kernel) (by decide +kernel) (by omega) (by decide +kernel) (by decide +kernel) ?_
  refine jc_aload_n g (pc := 26) (n := 58) (t := 146) (i := 0) (by decide +kernel) rfl ?_
  refine jc_new g (pc := 27) (n := 58) (t := 146) (ci := 5) (a := 200) rfl (by decide +kernel) (by omega) (by omega) (by decide +kernel) wk_7_21 wn_5 wz_5 (by decide +kernel) ?_
  refine jc_dup g (pc := 30) (n := 59) (t := 146) (by decide +kernel) rfl ?_
  refine jc_call g (pc := 31) (n := 59) (t := 146) (As := []) cz_200 wm_7_23 cb_5 (by omega) (by omega) (by omega) rfl (by decide +kernel) (by decide +kernel) (by decide) (by decide +kernel) ?_
  refine jc_put g (pc := 34) (n := 76) (t := 222) (i := 0) f7_24 (fun q h => by cases h; rfl) (by decide) (by decide +kernel) (by decide +kernel) (by omega) (by decide +kernel) (by decide +kernel) ?_
  refine jc_aload_n g (pc := 37) (n := 76) (t := 223) (i := 0) (by decide +kernel) rfl ?_
  refine jc_new g (pc := 38) (n := 76) (t := 223) (ci := 5) (a := 300) rfl (by decide +kernel) (by omega) (by omega) (by decide +kernel) wk_7_21 wn_5 wz_5 (by decide +kernel) ?_
  refine jc_dup g (pc := 41) (n := 77) (t := 223) (by decide +kernel) rfl ?_
  refine jc_call g (pc := 42) (n := 77) (t := 223) (As := []) cz_300 wm_7_23 cb_5 (by omega) (by omega) (by omega) rfl (by decide +kernel) (by decide +kernel) (by decide) (by decide +kernel) ?_
  refine jc_put g (pc := 45) (n := 94) (t := 299) (i := 0) f7_27 (fun q h => by cases h; rfl) (by decide) (by decide +kernel) (by decide +kernel) (by omega) (by decide +kernel) (by decide +kernel) ?_
  refine jc_aload_n g (pc := 48) (n := 94) (t := 300) (i := 0) (by decide +kernel) rfl ?_
  refine jc_new g (pc := 49) (n := 94) (t := 300) (ci := 4) (a := 500) rfl (by decide +kernel) (by omega) (by omega) (by decide +kernel) wk_7_30 wn_4 wz_4 (by decide +kernel) ?_
  refine jc_dup g (pc := 52) (n := 95) (t := 300) (by decide +kernel) rfl ?_
  refine jc_callN g (pc := 53) (n := 95) (t := 300) (As := []) cz_500 wm_7_32 cb_4 (by omega) (by omega) (by omega) rfl (by decide +kernel) (by decide +kernel) (by decide) (by decide +kernel) ?_
  refine jc_put g (pc := 56) (n := 96) (t := 306) (i := 0) f7_33 (fun q h => by cases h; rfl) (by decide) (by decide +kernel) (by decide +kernel) (by omega) (by decide +kernel) (by decide +kernel) ?_
  refine jc_aload_n g (pc := 59) (n := 96) (t := 307) (i := 0) (by decide +kernel) rfl ?_
  refine jc_new g (pc := 60) (n := 96) (t := 307) (ci := 0) (a := 520) rfl (by decide +kernel) (by omega) (by omega) (by decide +kernel) wk_7_37 wn_0 wz_0 (by decide +kernel) ?_
  refine jc_dup g (pc := 63) (n := 97) (t := 307) (by decide +kernel) rfl ?_
  refine jc_callN g (pc := 64) (n := 97) (t := 307) (As := []) cz_520 wm_7_39 cb_0 (by omega) (by omega) (by omega) rfl (by decide +kernel) (by decide +kernel) (by decide) (by decide +kernel) ?_
  refine jc_put g (pc := 67) (n := 98) (t := 313) (i := 0) f7_40 (fun q h => by cases h; rfl) (by decide) (by decide +kernel) (by decide +kernel) (by omega) (by decide +kernel) (by decide +kernel) ?_
  refine jc_aload_n g (pc := 70) (n := 98) (t := 314) (i := 0) (by decide +kernel) rfl ?_
  refine jc_new g (pc := 71) (n := 98) (t := 314) (ci := 1) (a := 530) rfl (by decide +kernel) (by omega) (by omega) (by decide +kernel) wk_7_44 wn_1 wz_1 (by decide +kernel) ?_
  refine jc_dup g (pc := 74) (n := 99) (t := 314) (by decide +kernel) rfl ?_
  refine jc_callN g (pc := 75) (n := 99) (t := 314) (As := []) cz_530 wm_7_46 cb_1 (by omega) (by omega) (by omega) rfl (by decide +kernel) (by decide +kernel) (by decide) (by decide +kernel) ?_
  refine jc_put g (pc := 78) (n := 109) (t := 332) (i := 0) f7_47 (fun q h => by cases h; rfl) (by decide) (by decide +kernel) (by decide +kernel) (by omega) (by decide +kernel) (by decide +kernel) ?_
  refine jc_aload_n g (pc := 81) (n := 109) (t := 333) (i := 0) (by decide +kernel) rfl ?_
  refine jc_bipush g (pc := 82) (n := 109) (t := 333) (x := 18) (18) (by decide +kernel) (by decide +kernel) ?_
  refine jc_newaI g (pc := 84) (n := 109) (t := 333) (a := 550) (N := 18) (by decide +kernel) (by decide) (by decide) (by omega) (by omega) (by omega) (by decide +kernel) wa_i (by decide +kernel) ?_
  refine jc_put g (pc := 86) (n := 110) (t := 333) (i := 0) f7_51 (fun q h => by cases h; rfl) (by decide) (by decide +kernel) (by decide +kernel) (by omega) (by decide +kernel) (by decide +kernel) ?_
  refine jc_aload_n g (pc := 89) (n := 110) (t := 334) (i := 0) (by decide +kernel) rfl ?_
  refine jc_iconst g (pc := 90) (n := 110) (t := 334) (x := 0) (0) (by decide +kernel) rfl ?_
  refine jc_put g (pc := 91) (n := 110) (t := 334) (i := 0) f7_55 (fun q h => by cases h; rfl) (by decide) (by decide +kernel) (by decide +kernel) (by omega) (by decide +kernel) (by decide +kernel) ?_
  refine jc_aload_n g (pc := 94) (n := 110) (t := 335) (i := 0) (by decide +kernel) rfl ?_
  refine jc_iconst g (pc := 95) (n := 110) (t := 335) (x := 0) (0) (by decide +kernel) rfl ?_
  refine jc_put g (pc := 96) (n := 110) (t := 335) (i := 0) f7_59 (fun q h => by cases h; rfl) (by decide) (by decide +kernel) (by decide +kernel) (by omega) (by decide +kernel) (by decide +kernel) ?_
  exact ret _ _ (by decide +kernel)
theorem cz_600 : Rc 4 mXc8 [.ref 600] 111 336 139 384 := by
  refine Rc.of [some (.ref 600)] (by decide) rfl rfl rfl (by decide) rfl ?_
  intro J g ret
  refine jc_aload_n g (pc := 0) (n := 111) (t := 336) (i := 0) (by decide +kernel) rfl ?_
  refine jc_obj g (pc := 1) (n := 111) (t := 336) (by omega) wo_8 wo_i wo_c (by decide) (by decide +kernel) ?_
  refine jc_aload_n g (pc := 4) (n := 111) (t := 336) (i := 0) (by decide +kernel) rfl ?_
  refine jc_iconst g (pc := 5) (n := 111) (t := 336) (x := 3) (3) (by decide +kernel) rfl ?_
  refine jc_newaI g (pc := 6) (n := 111) (t := 336) (a := 601) (N := 3) (by decide +kernel) (by decide) (by decide) (by omega) (by omega) (by omega) (by decide +kernel) wa_i (by decide +kernel) ?_
  refine jc_put g (pc := 8) (n := 112) (t := 336) (i := 110) f8_7 (fun q h => by cases h; rfl) (by decide) (by decide +kernel) (by decide +kernel) (by omega) (by decide +kernel) (by decide +kernel) ?_
  refine jc_aload_n g (pc := 11) (n := 112) (t := 337) (i := 0) (by decide +kernel) rfl ?_
  refine jc_bipush g (pc := 12) (n := 112) (t := 337) (x := 6) (6) (by decide +kernel) (by decide +kernel) ?_
  refine jc_newaI g (pc := 14) (n := 112) (t := 337) (a := 602) (N := 6) (by decide +kernel) (by decide) (by decide) (by omega) (by omega) (by omega) (by decide +kernel) wa_i (by decide +kernel) ?_
  refine jc_put g (pc := 16) (n := 113) (t := 337) (i := 110) f8_13 (fun q h => by cases h; rfl) (by decide) (by decide +kernel) (by decide +kernel) (by omega) (by decide +kernel) (by decide +kernel) ?_
  refine jc_aload_n g (pc := 19) (n := 113) (t := 338) (i := 0) (by decide +kernel) rfl ?_
  refine jc_bipush g (pc := 20) (n := 113) (t := 338) (x := 48) (48) (by decide +kernel) (by decide +kernel) ?_
  refine jc_newaI g (pc := 22) (n := 113) (t := 338) (a := 603) (N := 48) (by decide +kernel) (by decide) (by decide) (by omega) (by omega) (by omega) (by decide +kernel) wa_i (by decide +kernel) ?_
  refine jc_put g (pc := 24) (n := 114) (t := 338) (i := 110) f8_16 (fun q h => by cases h; rfl) (by decide) (by decide +kernel) (by decide +kernel) (by omega) (by decide +kernel) (by decide +kernel) ?_
  refine jc_aload_n g (pc := 27) (n := 114) (t := 339) (i := 0) (by decide +kernel) rfl ?_
  refine jc_iconst g (pc := 28) (n := 114) (t := 339) (x := 4) (4) (by decide +kernel) rfl ?_
  refine jc_newaI g (pc := 29) (n := 114) (t := 339) (a := 604) (N := 4) (by decide +kernel) (by decide) (by decide) (by omega) (by omega) (by omega) (by decide +kernel) wa_i (by decide +kernel) ?_
  refine jc_dup g (pc := 31) (n := 115) (t := 339) (by decide +kernel) rfl ?_
  refine jc_iconst g (pc := 32) (n := 115) (t := 339) (x := 0) (0) (by decide +kernel) rfl ?_
  refine jc_iconst g (pc := 33) (n := 115) (t := 339) (x := 0) (0) (by decide +kernel) rfl ?_
  refine jc_iast g (pc := 34) (n := 115) (t := 339) (i := 114) (N := 4) (by decide +kernel) (by omega) (by decide +kernel) (by rw [vin_iff]; decide +kernel) (by decide +kernel) ?_
  refine jc_dup g (pc := 35) (n := 115) (t := 340) (by decide +kernel) rfl ?_
  refine jc_iconst g (pc := 36) (n := 115) (t := 340) (x := 1) (1) (by decide +kernel) rfl ?_
  refine jc_iconst g (pc := 37) (n := 115) (t := 340) (x := 1) (1) (by decide +kernel) rfl ?_
  refine jc_iast g (pc := 38) (n := 115) (t := 340) (i := 114) (N := 4) (by decide +kernel) (by omega) (by decide +kernel) (by rw [vin_iff]; decide +kernel) (by decide +kernel) ?_
  refine jc_dup g (pc := 39) (n := 115) (t := 341) (by decide +kernel) rfl ?_
  refine jc_iconst g (pc := 40) (n := 115) (t := 341) (x := 2) (2) (by decide +kernel) rfl ?_
  refine jc_iconst g (pc := 41) (n := 115) (t := 341) (x := 5) (5) (by decide +kernel) rfl ?_
  refine jc_iast g (pc := 42) (n := 115) (t := 341) (i := 114) (N := 4) (by decide +kernel) (by omega) (by decide +kernel) (by rw [vin_iff]; decide +kernel) (by decide +kernel) ?_
  refine jc_dup g (pc := 43) (n := 115) (t := 342) (by decide +kernel) rfl ?_
  refine jc_iconst g (pc := 44) (n := 115) (t := 342) (x := 3) (3) (by decide +kernel) rfl ?_
  refine jc_iconst g (pc := 45) (n := 115) (t := 342) (x := 3) (3) (by decide +kernel) rfl ?_
  refine jc_iast g (pc := 46) (n := 115) (t := 342) (i := 114) (N := 4) (by decide +kernel) (by omega) (by decide +kernel) (by rw [vin_iff]; decide +kernel) (by decide +kernel) ?_
  refine jc_put g (pc := 47) (n := 115) (t := 343) (i := 110) f8_19 (fun q h => by cases h; rfl) (by decide) (by decide +kernel) (by decide +kernel) (by omega) (by decide +kernel) (by decide +kernel) ?_
  refine jc_aload_n g (pc := 50) (n := 115) (t := 344) (i := 0) (by decide +kernel) rfl ?_
  refine jc_iconst g (pc := 51) (n := 115) (t := 344) (x := 4) (4) (by decide +kernel) rfl ?_
  refine jc_newaI g (pc := 52) (n := 115) (t := 344) (a := 605) (N := 4) (by decide +kernel) (by decide) (by decide) (by omega) (by omega) (by omega) (by decide +kernel) wa_i (by decide +kernel) ?_
  refine jc_dup g (pc := 54) (n := 116) (t := 344) (by decide +kernel) rfl ?_
  refine jc_iconst g (pc := 55) (n := 116) (t := 344) (x := 0) (0) (by decide +kernel) rfl ?_
  refine jc_iconst g (pc := 56) (n := 116) (t := 344) (x := 0) (0) (by decide +kernel) rfl ?_
  refine jc_iast g (pc := 57) (n := 116) (t := 344) (i := 115) (N := 4) (by decide +kernel) (by omega) (by decide +kernel) (by rw [vin_iff]; decide +kernel) (by decide +kernel) ?_
  refine jc_dup g (pc := 58) (n := 116) (t := 345) (by decide +kernel) rfl ?_
  refine jc_iconst g (pc := 59) (n := 116) (t := 345) (x := 1) (1) (by decide +kernel) rfl ?_
  refine jc_iconst g (pc := 60) (n := 116) (t := 345) (x := 0) (0) (by decide +kernel) rfl ?_
  refine jc_iast g (pc := 61) (n := 116) (t := 345) (i := 115) (N := 4) (by decide +kernel) (by omega) (by decide +kernel) (by rw [vin_iff]; decide +kernel) (by decide +kernel) ?_
  refine jc_dup g (pc := 62) (n := 116) (t := 346) (by decide +kernel) rfl ?_
  refine jc_iconst g (pc := 63) (n := 116) (t := 346) (x := 2) (2) (by decide +kernel) rfl ?_
  refine jc_iconst g (pc := 64) (n := 116) (t := 346) (x := 1) (1) (by decide +kernel) rfl ?_
  refine jc_iast g (pc := 65) (n := 116) (t := 346) (i := 115) (N := 4) (by decide +kernel) (by omega) (by decide +kernel) (by rw [vin_iff]; decide +kernel) (by decide +kernel) ?_
  refine jc_dup g (pc := 66) (n := 116) (t := 347) (by decide +kernel) rfl ?_
  refine jc_iconst g (pc := 67) (n := 116) (t := 347) (x := 3) (3) (by decide +kernel) rfl ?_
  refine jc_iconst g (pc := 68) (n := 116) (t := 347) (x := 1) (1) (by decide +kernel) rfl ?_
  refine jc_iast g (pc := 69) (n := 116) (t := 347) (i := 115) (N := 4) (by decide +kernel) (by omega) (by decide +kernel) (by rw [vin_iff]; decide +kernel) (by decide +kernel) ?_
  refine jc_put g (pc := 70) (n := 116) (t := 348) (i := 110) f8_22 (fun q h => by cases h; rfl) (by decide) (by decide +kernel) (by decide +kernel) (by omega) (by decide +kernel) (by decide +kernel) ?_
  refine jc_aload_n g (pc := 73) (n := 116) (t := 349) (i := 0) (by decide +kernel) rfl ?_
  refine jc_iconst g (pc := 74) (n := 116) (t := 349) (x := 4) (4) (by decide +kernel) rfl ?_
  refine jc_newaI g (pc := 75) (n := 116) (t := 349) (a := 606) (N := 4) (by decide +kernel) (by decide) (by decide) (by omega) (by omega) (by omega) (by decide +kernel) wa_i (by decide +kernel) ?_
  refine jc_dup g (pc := 77) (n := 117) (t := 349) (by decide +kernel) rfl ?_
  refine jc_iconst g (pc := 78) (n := 117) (t := 349) (x := 0) (0) (by decide +kernel) rfl ?_
  refine jc_bipush g (pc := 79) (n := 117) (t := 349) (x := 9) (9) (by decide +kernel) (by decide +kernel) ?_
  refine jc_iast g (pc := 81) (n := 117) (t := 349) (i := 116) (N := 4) (by decide +kernel) (by omega) (by decide +kernel) (by rw [vin_iff]; decide +kernel) (by decide +kernel) ?_
  refine jc_dup g (pc := 82) (n := 117) (t := 350) (by decide +kernel) rfl ?_
  refine jc_iconst g (pc := 83) (n := 117) (t := 350) (x := 1) (1) (by decide +kernel) rfl ?_
  refine jc_bipush g (pc := 84) (n := 117) (t := 350) (x := 8) (8) (by decide +kernel) (by decide +kernel) ?_
  refine jc_iast g (pc := 86) (n := 117) (t := 350) (i := 116) (N := 4) (by decide +kernel) (by omega) (by decide +kernel) (by rw [vin_iff]; decide +kernel) (by decide +kernel) ?_
  refine jc_dup g (pc := 87) (n := 117) (t := 351) (by decide +kernel) rfl ?_
  refine jc_iconst g (pc := 88) (n := 117) (t := 351) (x := 2) (2) (by decide +kernel) rfl ?_
  refine jc_bipush g (pc := 89) (n := 117) (t := 351) (x := 30) (30) (by decide +kernel) (by decide +kernel) ?_
  refine jc_iast g (pc := 91) (n := 117) (t := 351) (i := 116) (N := 4) (by decide +kernel) (by omega) (by decide +kernel) (by rw [vin_iff]; decide +kernel) (by decide +kernel) ?_
  refine jc_dup g (pc := 92) (n := 117) (t := 352) (by decide +kernel) rfl ?_
  refine jc_iconst g (pc := 93) (n := 117) (t := 352) (x := 3) (3) (by decide +kernel) rfl ?_
  refine jc_bipush g (pc := 94) (n := 117) (t := 352) (x := 20) (20) (by decide +kernel) (by decide +kernel) ?_
  refine jc_iast g (pc := 96) (n := 117) (t := 352) (i := 116) (N := 4) (by decide +kernel) (by omega) (by decide +kernel) (by rw [vin_iff]; decide +kernel) (by decide +kernel) ?_
  refine jc_put g (pc := 97) (n := 117) (t := 353) (i := 110) f8_25 (fun q h => by cases h; rfl) (by decide) (by decide +kernel) (by decide +kernel) (by omega) (by decide +kernel) (by decide +kernel) ?_
  refine jc_aload_n g (pc := 100) (n := 117) (t := 354) (i := 0) (by decide +kernel) rfl ?_
  refine jc_bipush g (pc := 101) (n := 117) (t := 354) (x := 44) (44) (by decide +kernel) (by decide +kernel) ?_
  refine jc_newaI g (pc := 103) (n := 117) (t := 354) (a := 607) (N := 44) (by decide +kernel) (by decide) (by decide) (by omega) (by omega) (by omega) (by decide +kernel) wa_i (by decide +kernel) ?_
  refine jc_put g (pc := 105) (n := 118) (t := 354) (i := 110) f8_28 (fun q h => by cases h; rfl) (by decide) (by decide +kernel) (by decide +kernel) (by omega) (by decide +kernel) (by decide +kernel) ?_
  refine jc_aload_n g (pc := 108) (n := 118) (t := 355) (i := 0) (by decide +kernel) rfl ?_
  refine jc_bipush g (pc := 109) (n := 118) (t := 355) (x := 8) (8) (by decide +kernel) (by decide +kernel) ?_
  refine jc_newaI g (pc := 111) (n := 118) (t := 355) (a := 608) (N := 8) (by decide +kernel) (by decide) (by decide) (by omega) (by omega) (by omega) (by decide +kernel) wa_i (by decide +kernel) ?_
  refine jc_put g (pc := 113) (n := 119) (t := 355) (i := 110) f8_31 (fun q h => by cases h; rfl) (by decide) (by decide +kernel) (by decide +kernel) (by omega) (by decide +kernel) (by decide +kernel) ?_
  refine jc_aload_n g (pc := 116) (n := 119) (t := 356) (i := 0) (by decide +kernel) rfl ?_
  refine jc_sipush g (pc := 117) (n := 119) (t := 356) (x := 240) (240) (by decide +kernel) (by decide +kernel) ?_
  refine jc_newaI g (pc := 120) (n := 119) (t := 356) (a := 609) (N := 240) (by decide +kernel) (by decide) (by decide) (by omega) (by omega) (by omega) (by decide +kernel) wa_i (by decide +kernel) ?_
  refine jc_put g (pc := 122) (n := 120) (t := 356) (i := 110) f8_34 (fun q h => by cases h; rfl) (by decide) (by decide +kernel) (by decide +kernel) (by omega) (by decide +kernel) (by decide +kernel) ?_
  refine jc_aload_n g (pc := 125) (n := 120) (t := 357) (i := 0) (by decide +kernel) rfl ?_
  refine jc_bipush g (pc := 126) (n := 120) (t := 357) (x := 6) (6) (by decide +kernel) (by decide +kernel) ?_
  refine jc_newaI g (pc := 128) (n := 120) (t := 357) (a := 610) (N := 6) (by decide +kernel) (by decide) (by decide) (by omega) (by omega) (by omega) (by decide +kernel) wa_i (by decide +kernel) ?_
  refine jc_put g (pc := 130) (n := 121) (t := 357) (i := 110) f8_37 (fun q h => by cases h; rfl) (by decide) (by decide +kernel) (by decide +kernel) (by omega) (by decide +kernel) (by decide +kernel) ?_
  refine jc_aload_n g (pc := 133) (n := 121) (t := 358) (i := 0) (by decide +kernel) rfl ?_
  refine jc_bipush g (pc := 134) (n := 121) (t := 358) (x := 12) (12) (by decide +kernel) (by decide +kernel) ?_
  refine jc_newaI g (pc := 136) (n := 121) (t := 358) (a := 611) (N := 12) (by decide +kernel) (by decide) (by decide) (by omega) (by omega) (by omega) (by decide +kernel) wa_i (by decide +kernel) ?_
  refine jc_put g (pc := 138) (n := 122) (t := 358) (i := 110) f8_40 (fun q h => by cases h; rfl) (by decide) (by decide +kernel) (by decide +kernel) (by omega) (by decide +kernel) (by decide +kernel) ?_
  refine jc_aload_n g (pc := 141) (n := 122) (t := 359) (i := 0) (by decide +kernel) rfl ?_
  refine jc_bipush g (pc := 142) (n := 122) (t := 359) (x := 48) (48) (by decide +kernel) (by decide +kernel) ?_
  refine jc_newaI g (pc := 144) (n := 122) (t := 359) (a := 612) (N := 48) (by decide +kernel) (by decide) (by decide) (by omega) (by omega) (by omega) (by decide +kernel) wa_i (by decide +kernel) ?_
  refine jc_put g (pc := 146) (n := 123) (t := 359) (i := 110) f8_43 (fun q h => by cases h; rfl) (by decide) (by decide +kernel) (by decide +kernel) (by omega) (by decide +kernel) (by decide +kernel) ?_
  refine jc_aload_n g (pc := 149) (n := 123) (t := 360) (i := 0) (by decide +kernel) rfl ?_
  refine jc_iconst g (pc := 150) (n := 123) (t := 360) (x := 4) (4) (by decide +kernel) rfl ?_
  refine jc_newaI g (pc := 151) (n := 123) (t := 360) (a := 613) (N := 4) (by decide +kernel) (by decide) (by decide) (by omega) (by omega) (by omega) (by decide +kernel) wa_i (by decide +kernel) ?_
  refine jc_put g (pc := 153) (n := 124) (t := 360) (i := 110) f8_46 (fun q h => by cases h; rfl) (by decide) (by decide +kernel) (by decide +kernel) (by omega) (by decide +kernel) (by decide +kernel) ?_
  refine jc_aload_n g (pc := 156) (n := 124) (t := 361) (i := 0) (by decide +kernel) rfl ?_
  refine jc_bipush g (pc := 157) (n := 124) (t := 361) (x := 6) (6) (by decide +kernel) (by decide +kernel) ?_
  refine jc_newaI g (pc := 159) (n := 124) (t := 361) (a := 614) (N := 6) (by decide +kernel) (by decide) (by decide) (by omega) (by omega) (by omega) (by decide +kernel) wa_i (by decide +kernel) ?_
  refine jc_put g (pc := 161) (n := 125) (t := 361) (i := 110) f8_49 (fun q h => by cases h; rfl) (by decide) (by decide +kernel) (by decide +kernel) (by omega) (by decide +kernel) (by decide +kernel) ?_
  refine jc_aload_n g (pc := 164) (n := 125) (t := 362) (i := 0) (by decide +kernel) rfl ?_
  refine jc_bipush g (pc := 165) (n := 125) (t := 362) (x := 6) (6) (by decide +kernel) (by decide +kernel) ?_
  refine jc_newaI g (pc := 167) (n := 125) (t := 362) (a := 615) (N := 6) (by decide +kernel) (by decide) (by decide) (by omega) (by omega) (by omega) (by decide +kernel) wa_i (by decide +kernel) ?_
  refine jc_put g (pc := 169) (n := 126) (t := 362) (i := 110) f8_52 (fun q h => by cases h; rfl) (by decide) (by decide +kernel) (by decide +kernel) (by omega) (by decide +kernel) (by decide +kernel) ?_
  refine jc_aload_n g (pc := 172) (n := 126) (t := 363) (i := 0) (by decide +kernel) rfl ?_
  refine jc_bipush g (pc := 173) (n := 126) (t := 363) (x := 6) (6) (by decide +kernel) (by decide +kernel) ?_
  refine jc_newaI g (pc := 175) (n := 126) (t := 363) (a := 616) (N := 6) (by decide +kernel) (by decide) (by decide) (by omega) (by omega) (by omega) (by decide +kernel) wa_i (by decide +kernel) ?_
  refine jc_put g (pc := 177) (n := 127) (t := 363) (i := 110) f8_55 (fun q h => by cases h; rfl) (by decide) (by decide +kernel) (by decide +kernel) (by omega) (by decide +kernel) (by decide +kernel) ?_
  refine jc_aload_n g (pc := 180) (n := 127) (t := 364) (i := 0) (by decide +kernel) rfl ?_
  refine jc_bipush g (pc := 181) (n := 127) (t := 364) (x := 6) (6) (by decide +kernel) (by decide +kernel) ?_
  refine jc_newaI g (pc := 183) (n := 127) (t := 364) (a := 617) (N := 6) (by decide +kernel) (by decide) (by decide) (by omega) (by omega) (by omega) (by decide +kernel) wa_i (by decide +kernel) ?_
  refine jc_put g (pc := 185) (n := 128) (t := 364) (i := 110) f8_58 (fun q h => by cases h; rfl) (by decide) (by decide +kernel) (by decide +kernel) (by omega) (by decide +kernel) (by decide +kernel) ?_
  refine jc_aload_n g (pc := 188) (n := 128) (t := 365) (i := 0) (by decide +kernel) rfl ?_
  refine jc_bipush g (pc := 189) (n := 128) (t := 365) (x := 6) (6) (by decide +kernel) (by decide +kernel) ?_
  refine jc_newaI g (pc := 191) (n := 128) (t := 365) (a := 618) (N := 6) (by decide +kernel) (by decide) (by decide) (by omega) (by omega) (by omega) (by decide +kernel) wa_i (by decide +kernel) ?_
  refine jc_put g (pc := 193) (n := 129) (t := 365) (i := 110) f8_61 (fun q h => by cases h; rfl) (by decide) (by decide +kernel) (by decide +kernel) (by omega) (by decide +kernel) (by decide +kernel) ?_
  refine jc_aload_n g (pc := 196) (n := 129) (t := 366) (i := 0) (by decide +kernel) rfl ?_
  refine jc_bipush g (pc := 197) (n := 129) (t := 366) (x := 18) (18) (by decide +kernel) (by decide +kernel) ?_
  refine jc_newaI g (pc := 199) (n := 129) (t := 366) (a := 619) (N := 18) (by decide +kernel) (by decide) (by decide) (by omega) (by omega) (by omega) (by decide +kernel) wa_i (by decide +kernel) ?_
  refine jc_put g (pc := 201) (n := 130) (t := 366) (i := 110) f8_64 (fun q h => by cases h; rfl) (by decide) (by decide +kernel) (by decide +kernel) (by omega) (by decide +kernel) (by decide +kernel) ?_
  refine jc_aload_n g (pc := 204) (n := 130) (t := 367) (i := 0) (by decide +kernel) rfl ?_
  refine jc_iconst g (pc := 205) (n := 130) (t := 367) (x := 4) (4) (by decide +kernel) rfl ?_
  refine jc_newaI g (pc := 206) (n := 130) (t := 367) (a := 620) (N := 4) (by decide +kernel) (by decide) (by decide) (by omega) (by omega) (by omega) (by decide +kernel) wa_i (by decide +kernel) ?_
  refine jc_dup g (pc := 208) (n := 131) (t := 367) (by decide +kernel) rfl ?_
  refine jc_iconst g (pc := 209) (n := 131) (t := 367) (x := 0) (0) (by decide +kernel) rfl ?_
  refine jc_iconst g (pc := 210) (n := 131) (t := 367) (x := -1) (-1) (by decide +kernel) rfl ?_
  refine jc_iast g (pc := 211) (n := 131) (t := 367) (i := 130) (N := 4) (by decide +kernel) (by omega) (by decide +kernel) (by rw [vin_iff]; decide +kernel) (by decide +kernel) ?_
  refine jc_dup g (pc := 212) (n := 131) (t := 368) (by decide +kernel) rfl ?_
  refine jc_iconst g (pc := 213) (n := 131) (t := 368) (x := 1) (1) (by decide +kernel) rfl ?_
  refine jc_iconst g (pc := 214) (n := 131) (t := 368) (x := -1) (-1) (by decide +kernel) rfl ?_
  refine jc_iast g (pc := 215) (n := 131) (t := 368) (i := 130) (N := 4) (by decide +kernel) (by omega) (by decide +kernel) (by rw [vin_iff]; decide +kernel) (by decide +kernel) ?_
  refine jc_dup g (pc := 216) (n := 131) (t := 369) (by decide +kernel) rfl ?_
  refine jc_iconst g (pc := 217) (n := 131) (t := 369) (x := 2) (2) (by decide +kernel) rfl ?_
  refine jc_iconst g (pc := 218) (n := 131) (t := 369) (x := -1) (-1) (by decide +kernel) rfl ?_
  refine jc_iast g (pc := 219) (n := 131) (t := 369) (i := 130) (N := 4) (by decide +kernel) (by omega) (by decide +kernel) (by rw [vin_iff]; decide +kernel) (by decide +kernel) ?_
  refine jc_dup g (pc := 220) (n := 131) (t := 370) (by decide +kernel) rfl ?_
  refine jc_iconst g (pc := 221) (n := 131) (t := 370) (x := 3) (3) (by decide +kernel) rfl ?_
  refine jc_iconst g (pc := 222) (n := 131) (t := 370) (x := -1) (-1) (by decide +kernel) rfl ?_
  refine jc_iast g (pc := 223) (n := 131) (t := 370) (i := 130) (N := 4) (by decide +kernel) (by omega) (by decide +kernel) (by rw [vin_iff]; decide +kernel) (by decide +kernel) ?_
  refine jc_put g (pc := 224) (n := 131) (t := 371) (i := 110) f8_67 (fun q h => by cases h; rfl) (by decide) (by decide +kernel) (by decide +kernel) (by omega) (by decide +kernel) (by decide +kernel) ?_
  refine jc_aload_n g (pc := 227) (n := 131) (t := 372) (i := 0) (by decide +kernel) rfl ?_
  refine jc_iconst g (pc := 228) (n := 131) (t := 372) (x := 4) (4) (by decide +kernel) rfl ?_
  refine jc_newaI g (pc := 229) (n := 131) (t := 372) (a := 621) (N := 4) (by decide +kernel) (by decide) (by decide) (by omega) (by omega) (by omega) (by decide +kernel) wa_i (by decide +kernel) ?_
  refine jc_put g (pc := 231) (n := 132) (t := 372) (i := 110) f8_70 (fun q h => by cases h; rfl) (by decide) (by decide +kernel) (by decide +kernel) (by omega) (by decide +kernel) (by decide +kernel) ?_
  refine jc_aload_n g (pc := 234) (n := 132) (t := 373) (i := 0) (by decide +kernel) rfl ?_
  refine jc_sipush g (pc := 235) (n := 132) (t := 373) (x := 160) (160) (by decide +kernel) (by decide +kernel) ?_
  refine jc_newaJ g (pc := 238) (n := 132) (t := 373) (a := 622) (N := 160) (by decide +kernel) (by decide) (by decide) (by omega) (by omega) (by omega) (by decide +kernel) wa_j (by decide +kernel) ?_
  refine jc_put g (pc := 240) (n := 133) (t := 373) (i := 110) f8_73 (fun q h => by cases h; rfl) (by decide) (by decide +kernel) (by decide +kernel) (by omega) (by decide +kernel) (by decide +kernel) ?_
  refine jc_aload_n g (pc := 243) (n := 133) (t := 374) (i := 0) (by decide +kernel) rfl ?_
  refine jc_iconst g (pc := 244) (n := 133) (t := 374) (x := 4) (4) (by decide +kernel) rfl ?_
  refine jc_newaI g (pc := 245) (n := 133) (t := 374) (a := 623) (N := 4) (by decide +kernel) (by decide) (by decide) (by omega) (by omega) (by omega) (by decide +kernel) wa_i (by decide +kernel) ?_
  refine jc_dup g (pc := 247) (n := 134) (t := 374) (by decide +kernel) rfl ?_
  refine jc_iconst g (pc := 248) (n := 134) (t := 374) (x := 0) (0) (by decide +kernel) rfl ?_
  refine jc_iconst g (pc := 249) (n := 134) (t := 374) (x := -1) (-1) (by decide +kernel) rfl ?_
  refine jc_iast g (pc := 250) (n := 134) (t := 374) (i := 133) (N := 4) (by decide +kernel) (by omega) (by decide +kernel) (by rw [vin_iff]; decide +kernel) (by decide +kernel) ?_
  refine jc_dup g (pc := 251) (n := 134) (t := 375) (by decide +kernel) rfl ?_
  refine jc_iconst g (pc := 252) (n := 134) (t := 375) (x := 1) (1) (by decide +kernel) rfl ?_
  refine jc_iconst g (pc := 253) (n := 134) (t := 375) (x := -1) (-1) (by decide +kernel) rfl ?_
  refine jc_iast g (pc := 254) (n := 134) (t := 375) (i := 133) (N := 4) (by decide +kernel) (by omega) (by decide +kernel) (by rw [vin_iff]; decide +kernel) (by decide +kernel) ?_
  refine jc_dup g (pc := 255) (n := 134) (t := 376) (by decide +kernel) rfl ?_
  refine jc_iconst g (pc := 256) (n := 134) (t := 376) (x := 2) (2) (by decide +kernel) rfl ?_
  refine jc_iconst g (pc := 257) (n := 134) (t := 376) (x := -1) (-1) (by decide +kernel) rfl ?_
  refine jc_iast g (pc := 258) (n := 134) (t := 376) (i := 133) (N := 4) (by decide +kernel) (by omega) (by decide +kernel) (by rw [vin_iff]; decide +kernel) (by decide +kernel) ?_
  refine jc_dup g (pc := 259) (n := 134) (t := 377) (by decide +kernel) rfl ?_
  refine jc_iconst g (pc := 260) (n := 134) (t := 377) (x := 3) (3) (by decide +kernel) rfl ?_
  refine jc_iconst g (pc := 261) (n := 134) (t := 377) (x := -1) (-1) (by decide +kernel) rfl ?_
  refine jc_iast g (pc := 262) (n := 134) (t := 377) (i := 133) (N := 4) (by decide +kernel) (by omega) (by decide +kernel) (by rw [vin_iff]; decide +kernel) (by decide +kernel) ?_
  refine jc_put g (pc := 263) (n := 134) (t := 378) (i := 110) f8_77 (fun q h => by cases h; rfl) (by decide) (by decide +kernel) (by decide +kernel) (by omega) (by decide +kernel) (by decide +kernel) ?_
  refine jc_aload_n g (pc := 266) (n := 134) (t := 379) (i := 0) (by decide +kernel) rfl ?_
  refine jc_iconst g (pc := 267) (n := 134) (t := 379) (x := 4) (4) (by decide +kernel) rfl ?_
  refine jc_newaI g (pc := 268) (n := 134) (t := 379) (a := 624) (N := 4) (by decide +kernel) (by decide) (by decide) (by omega) (by omega) (by omega) (by decide +kernel) wa_i (by decide +kernel) ?_
  refine jc_put g (pc := 270) (n := 135) (t := 379) (i := 110) f8_80 (fun q h => by cases h; rfl) (by decide) (by decide +kernel) (by decide +kernel) (by omega) (by decide +kernel) (by decide +kernel) ?_
  refine jc_aload_n g (pc := 273) (n := 135) (t := 380) (i := 0) (by decide +kernel) rfl ?_
  refine jc_iconst g (pc := 274) (n := 135) (t := 380) (x := 4) (4) (by decide +kernel) rfl ?_
  refine jc_newaI g (pc := 275) (n := 135) (t := 380) (a := 625) (N := 4) (by decide +kernel) (by decide) (by decide) (by omega) (by omega) (by omega) (by decide +kernel) wa_i (by decide +kernel) ?_
  refine jc_put g (pc := 277) (n := 136) (t := 380) (i := 110) f8_83 (fun q h => by cases h; rfl) (by decide) (by decide +kernel) (by decide +kernel) (by omega) (by decide +kernel) (by decide +kernel) ?_
  refine jc_aload_n g (pc := 280) (n := 136) (t := 381) (i := 0) (by decide +kernel) rfl ?_
  refine jc_bipush g (pc := 281) (n := 136) (t := 381) (x := 30) (30) (by decide +kernel) (by decide +kernel) ?_
  refine jc_newaI g (pc := 283) (n := 136) (t := 381) (a := 626) (N := 30) (by decide +kernel) (by decide) (by decide) (by omega) (by omega) (by omega) (by decide +kernel) wa_i (by decide +kernel) ?_
  refine jc_put g (pc := 285) (n := 137) (t := 381) (i := 110) f8_86 (fun q h => by cases h; rfl) (by decide) (by decide +kernel) (by decide +kernel) (by omega) (by decide +kernel) (by decide +kernel) ?_
  refine jc_aload_n g (pc := 288) (n := 137) (t := 382) (i := 0) (by decide +kernel) rfl ?_
  refine jc_bipush g (pc := 289) (n := 137) (t := 382) (x := 110) (110) (by decide +kernel) (by decide +kernel) ?_
  refine jc_newaI g (pc := 291) (n := 137) (t := 382) (a := 627) (N := 110) (by decide +kernel) (by decide) (by decide) (by omega) (by omega) (by omega) (by decide +kernel) wa_i (by decide +kernel) ?_
  refine jc_put g (pc := 293) (n := 138) (t := 382) (i := 110) f8_89 (fun q h => by cases h; rfl) (by decide) (by decide +kernel) (by decide +kernel) (by omega) (by decide +kernel) (by decide +kernel) ?_
  refine jc_aload_n g (pc := 296) (n := 138) (t := 383) (i := 0) (by decide +kernel) rfl ?_
  refine jc_iconst g (pc := 297) (n := 138) (t := 383) (x := 5) (5) (by decide +kernel) rfl ?_
  refine jc_newaI g (pc := 298) (n := 138) (t := 383) (a := 628) (N := 5) (by decide +kernel) (by decide) (by decide) (by omega) (by omega) (by omega) (by decide +kernel) wa_i (by decide +kernel) ?_
  refine jc_put g (pc := 300) (n := 139) (t := 383) (i := 110) f8_92 (fun q h => by cases h; rfl) (by decide) (by decide +kernel) (by decide +kernel) (by omega) (by decide +kernel) (by decide +kernel) ?_
  exact ret _ _ (by decide +kernel)
