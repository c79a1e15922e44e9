/-! the constructors: words, walks -/
section B5W
theorem wo_i : Cond.instanceMethod Lib.objectInit ∈ BIG := big_mem 99 (by decide +kernel) (by decide +kernel)
theorem wo_c : Cond.code Lib.objectInit ⟨#[0xb1]⟩ 1 none ∈ BIG := big_mem 100 (by decide +kernel) (by decide +kernel)
theorem wo_0 : Cond.methodLink (om_own 0) 3 Lib.objectInit ∈ BIG := big_mem 346 (by decide +kernel) (by decide +kernel)
theorem wn_0 : Cond.instantiable RX0 6 ∈ BIG := big_mem 342 (by decide +kernel) (by decide +kernel)
theorem wz_0 : Cond.initialized RX0 ∈ BIG := big_mem 83 (by decide +kernel) (by decide +kernel)
abbrev mXc0 : Mi := (0, yX0_init, cX0_init, 1, none)
theorem cb_0 : CBI mXc0 0 := ⟨big_mem 344 (by decide +kernel) (by decide +kernel), big_mem 83 (by decide +kernel) (by decide +kernel), big_mem 345 (by decide +kernel) (by decide +kernel), rfl, rfl, by decide, by decide, by decide +kernel, by decide⟩
theorem wo_1 : Cond.methodLink (om_own 1) 3 Lib.objectInit ∈ BIG := big_mem 373 (by decide +kernel) (by decide +kernel)
theorem wn_1 : Cond.instantiable RX1 6 ∈ BIG := big_mem 369 (by decide +kernel) (by decide +kernel)
theorem wz_1 : Cond.initialized RX1 ∈ BIG := big_mem 84 (by decide +kernel) (by decide +kernel)
abbrev mXc1 : Mi := (1, yX1_init, cX1_init, 1, none)
theorem cb_1 : CBI mXc1 0 := ⟨big_mem 371 (by decide +kernel) (by decide +kernel), big_mem 84 (by decide +kernel) (by decide +kernel), big_mem 372 (by decide +kernel) (by decide +kernel), rfl, rfl, by decide, by decide, by decide +kernel, by decide⟩
theorem wo_2 : Cond.methodLink (om_own 2) 3 Lib.objectInit ∈ BIG := big_mem 106 (by decide +kernel) (by decide +kernel)
theorem wn_2 : Cond.instantiable RX2 12 ∈ BIG := big_mem 102 (by decide +kernel) (by decide +kernel)
theorem wz_2 : Cond.initialized RX2 ∈ BIG := big_mem 78 (by decide +kernel) (by decide +kernel)
abbrev mXc2 : Mi := (2, yX2_init, cX2_init, 2, none)
theorem cb_2 : CBI mXc2 0 := ⟨big_mem 104 (by decide +kernel) (by decide +kernel), big_mem 78 (by decide +kernel) (by decide +kernel), big_mem 105 (by decide +kernel) (by decide +kernel), rfl, rfl, by decide, by decide, by decide +kernel, by decide⟩
theorem wo_3 : Cond.methodLink (om_own 3) 3 Lib.objectInit ∈ BIG := big_mem 120 (by decide +kernel) (by decide +kernel)
theorem wn_3 : Cond.instantiable RX3 7 ∈ BIG := big_mem 116 (by decide +kernel) (by decide +kernel)
theorem wz_3 : Cond.initialized RX3 ∈ BIG := big_mem 80 (by decide +kernel) (by decide +kernel)
abbrev mXc3 : Mi := (3, yX3_init, cX3_init, 1, none)
theorem cb_3 : CBI mXc3 0 := ⟨big_mem 118 (by decide +kernel) (by decide +kernel), big_mem 80 (by decide +kernel) (by decide +kernel), big_mem 119 (by decide +kernel) (by decide +kernel), rfl, rfl, by decide, by decide, by decide +kernel, by decide⟩
theorem wo_4 : Cond.methodLink (om_own 4) 3 Lib.objectInit ∈ BIG := big_mem 319 (by decide +kernel) (by decide +kernel)
theorem wn_4 : Cond.instantiable RX4 6 ∈ BIG := big_mem 315 (by decide +kernel) (by decide +kernel)
theorem wz_4 : Cond.initialized RX4 ∈ BIG := big_mem 82 (by decide +kernel) (by decide +kernel)
abbrev mXc4 : Mi := (4, yX4_init, cX4_init, 1, none)
theorem cb_4 : CBI mXc4 0 := ⟨big_mem 317 (by decide +kernel) (by decide +kernel), big_mem 82 (by decide +kernel) (by decide +kernel), big_mem 318 (by decide +kernel) (by decide +kernel), rfl, rfl, by decide, by decide, by decide +kernel, by decide⟩
theorem wo_5 : Cond.methodLink (om_own 5) 3 Lib.objectInit ∈ BIG := big_mem 112 (by decide +kernel) (by decide +kernel)
theorem wn_5 : Cond.instantiable RX5 11 ∈ BIG := big_mem 108 (by decide +kernel) (by decide +kernel)
theorem wz_5 : Cond.initialized RX5 ∈ BIG := big_mem 79 (by decide +kernel) (by decide +kernel)
abbrev mXc5 : Mi := (5, yX5_init, cX5_init, 2, none)
theorem cb_5 : CBI mXc5 0 := ⟨big_mem 110 (by decide +kernel) (by decide +kernel), big_mem 79 (by decide +kernel) (by decide +kernel), big_mem 111 (by decide +kernel) (by decide +kernel), rfl, rfl, by decide, by decide, by decide +kernel, by decide⟩
theorem wo_6 : Cond.methodLink (om_own 6) 1 Lib.objectInit ∈ BIG := big_mem 164 (by decide +kernel) (by decide +kernel)
theorem wn_6 : Cond.instantiable RX6 8 ∈ BIG := big_mem 160 (by decide +kernel) (by decide +kernel)
theorem wz_6 : Cond.initialized RX6 ∈ BIG := big_mem 81 (by decide +kernel) (by decide +kernel)
abbrev mXc6 : Mi := (6, yX6_init, cX6_init, 1, none)
theorem cb_6 : CBI mXc6 0 := ⟨big_mem 162 (by decide +kernel) (by decide +kernel), big_mem 81 (by decide +kernel) (by decide +kernel), big_mem 163 (by decide +kernel) (by decide +kernel), rfl, rfl, by decide, by decide, by decide +kernel, by decide⟩
theorem wo_7 : Cond.methodLink (om_own 7) 1 Lib.objectInit ∈ BIG := big_mem 98 (by decide +kernel) (by decide +kernel)
theorem wn_7 : Cond.instantiable RX7 10 ∈ BIG := big_mem 94 (by decide +kernel) (by decide +kernel)
theorem wz_7 : Cond.initialized RX7 ∈ BIG := big_mem 77 (by decide +kernel) (by decide +kernel)
abbrev mXc7 : Mi := (7, yX7_init, cX7_init, 1, none)
theorem cb_7 : CBI mXc7 0 := ⟨big_mem 96 (by decide +kernel) (by decide +kernel), big_mem 77 (by decide +kernel) (by decide +kernel), big_mem 97 (by decide +kernel) (by decide +kernel), rfl, rfl, by decide, by decide, by decide +kernel, by decide⟩
theorem wo_8 : Cond.methodLink (om_own 8) 1 Lib.objectInit ∈ BIG := big_mem 1043 (by decide +kernel) (by decide +kernel)
theorem wn_8 : Cond.instantiable RX8 59 ∈ BIG := big_mem 1039 (by decide +kernel) (by decide +kernel)
theorem wz_8 : Cond.initialized RX8 ∈ BIG := big_mem 85 (by decide +kernel) (by decide +kernel)
abbrev mXc8 : Mi := (8, yX8_init, cX8_init, 1, none)
theorem cb_8 : CBI mXc8 0 := ⟨big_mem 1041 (by decide +kernel) (by decide +kernel), big_mem 85 (by decide +kernel) (by decide +kernel), big_mem 1042 (by decide +kernel) (by decide +kernel), rfl, rfl, by decide, by decide, by decide +kernel, by decide⟩
theorem wa_i : Cond.arrayClass .int ∈ BIG := big_mem 159 (by decide +kernel) (by decide +kernel)
theorem wa_b : Cond.arrayClass .byte ∈ BIG := big_mem 340 (by decide +kernel) (by decide +kernel)
theorem wa_j : Cond.arrayClass .long ∈ BIG := big_mem 401 (by decide +kernel) (by decide +kernel)
theorem wk_7_7 : Cond.classLink (om_own 7) 7 RX2 ∈ BIG := big_mem 101 (by decide +kernel) (by decide +kernel)
theorem wk_2_9 : Cond.classLink (om_own 2) 9 RX5 ∈ BIG := big_mem 107 (by decide +kernel) (by decide +kernel)
theorem wk_5_31 : Cond.classLink (om_own 5) 31 RX6 ∈ BIG := big_mem 113 (by decide +kernel) (by decide +kernel)
theorem wk_5_46 : Cond.classLink (om_own 5) 46 RX3 ∈ BIG := big_mem 115 (by decide +kernel) (by decide +kernel)
theorem wk_2_18 : Cond.classLink (om_own 2) 18 RX3 ∈ BIG := big_mem 265 (by decide +kernel) (by decide +kernel)
theorem wk_7_21 : Cond.classLink (om_own 7) 21 RX5 ∈ BIG := big_mem 312 (by decide +kernel) (by decide +kernel)
theorem wk_7_30 : Cond.classLink (om_own 7) 30 RX4 ∈ BIG := big_mem 314 (by decide +kernel) (by decide +kernel)
theorem wk_7_37 : Cond.classLink (om_own 7) 37 RX0 ∈ BIG := big_mem 341 (by decide +kernel) (by decide +kernel)
theorem wk_7_44 : Cond.classLink (om_own 7) 44 RX1 ∈ BIG := big_mem 368 (by decide +kernel) (by decide +kernel)
theorem wk_m : Cond.classLink (om_own 1) 18 ("[" ++ (FieldType.array .long).toString) ∈ BIG := big_mem 374 (by decide +kernel) (by decide +kernel)
theorem wm_7_9 : Cond.methodLink (om_own 7) 9 mXc2.2.1 ∈ BIG := big_mem 103 (by decide +kernel) (by decide +kernel)
theorem wm_2_11 : Cond.methodLink (om_own 2) 11 mXc5.2.1 ∈ BIG := big_mem 109 (by decide +kernel) (by decide +kernel)
theorem wm_7_23 : Cond.methodLink (om_own 7) 23 mXc5.2.1 ∈ BIG := big_mem 313 (by decide +kernel) (by decide +kernel)
theorem wm_5_48 : ∀ U, NX U → va_Nw (.methodLinkNest (om_own 5) 48 mXc3.2.1 RX7) U := fun _ h => h.2.1
theorem wm_5_53 : ∀ U, NX U → va_Nw (.methodLinkNest (om_own 5) 53 mXc6.2.1 RX7) U := fun _ h => h.2.2.1
theorem wm_2_58 : ∀ U, NX U → va_Nw (.methodLinkNest (om_own 2) 58 mXc3.2.1 RX7) U := fun _ h => h.2.2.2.2.1
theorem wm_7_32 : ∀ U, NX U → va_Nw (.methodLinkNest (om_own 7) 32 mXc4.2.1 RX7) U := fun _ h => h.2.2.2.1
theorem wm_7_39 : ∀ U, NX U → va_Nw (.methodLinkNest (om_own 7) 39 mXc0.2.1 RX7) U := fun _ h => h.2.2.2.2.2.1
theorem wm_7_46 : ∀ U, NX U → va_Nw (.methodLinkNest (om_own 7) 46 mXc1.2.1 RX7) U := fun _ h => h.2.2.2.2.2.2
end B5W
theorem cz_1000 : Rc 1 mXc3 [.ref 1000] 10 14 14 21 := by
  refine Rc.of [some (.ref 1000)] (by decide) rfl rfl rfl (by decide) rfl ?_
  intro J g ret
  refine jc_aload_n g (pc := 0) (n := 10) (t := 14) (i := 0) (by decide +kernel) rfl ?_
  refine jc_obj g (pc := 1) (n := 10) (t := 14) (by omega) wo_3 wo_i wo_c (by decide) (by decide +kernel) ?_
  refine jc_aload_n g (pc := 4) (n := 10) (t := 14) (i := 0) (by decide +kernel) rfl ?_
  refine jc_iconst g (pc := 5) (n := 10) (t := 14) (x := 3) (3) (by decide +kernel) rfl ?_
  refine jc_newaI g (pc := 6) (n := 10) (t := 14) (a := 1001) (N := 3) (by decide +kernel) (by decide) (by decide) (by omega) (by omega) (by omega) (by decide +kernel) wa_i (by decide +kernel) ?_
  refine jc_put g (pc := 8) (n := 11) (t := 14) (i := 9) f3_9 (fun q h => by cases h; rfl) (by decide) (by decide +kernel) (by decide +kernel) (by omega) (by decide +kernel) (by decide +kernel) ?_
  refine jc_aload_n g (pc := 11) (n := 11) (t := 15) (i := 0) (by decide +kernel) rfl ?_
  refine jc_bipush g (pc := 12) (n := 11) (t := 15) (x := 6) (6) (by decide +kernel) (by decide +kernel) ?_
  refine jc_newaI g (pc := 14) (n := 11) (t := 15) (a := 1002) (N := 6) (by decide +kernel) (by decide) (by decide) (by omega) (by omega) (by omega) (by decide +kernel) wa_i (by decide +kernel) ?_
  refine jc_put g (pc := 16) (n := 12) (t := 15) (i := 9) f3_15 (fun q h => by cases h; rfl) (by decide) (by decide +kernel) (by decide +kernel) (by omega) (by decide +kernel) (by decide +kernel) ?_
  refine jc_aload_n g (pc := 19) (n := 12) (t := 16) (i := 0) (by decide +kernel) rfl ?_
  refine jc_bipush g (pc := 20) (n := 12) (t := 16) (x := 6) (6) (by decide +kernel) (by decide +kernel) ?_
  refine jc_newaI g (pc := 22) (n := 12) (t := 16) (a := 1003) (N := 6) (by decide +kernel) (by decide) (by decide) (by omega) (by omega) (by omega) (by decide +kernel) wa_i (by decide +kernel) ?_
  refine jc_put g (pc := 24) (n := 13) (t := 16) (i := 9) f3_18 (fun q h => by cases h; rfl) (by decide) (by decide +kernel) (by decide +kernel) (by omega) (by decide +kernel) (by decide +kernel) ?_
  refine jc_aload_n g (pc := 27) (n := 13) (t := 17) (i := 0) (by decide +kernel) rfl ?_
  refine jc_bipush g (pc := 28) (n := 13) (t := 17) (x := 6) (6) (by decide +kernel) (by decide +kernel) ?_
  refine jc_newaI g (pc := 30) (n := 13) (t := 17) (a := 1004) (N := 6) (by decide +kernel) (by decide) (by decide) (by omega) (by omega) (by omega) (by decide +kernel) wa_i (by decide +kernel) ?_
  refine jc_put g (pc := 32) (n := 14) (t := 17) (i := 9) f3_21 (fun q h => by cases h; rfl) (by decide) (by decide +kernel) (by decide +kernel) (by omega) (by decide +kernel) (by decide +kernel) ?_
  refine jc_aload_n g (pc := 35) (n := 14) (t := 18) (i := 0) (by decide +kernel) rfl ?_
  refine jc_iconst g (pc := 36) (n := 14) (t := 18) (x := 0) (0) (by decide +kernel) rfl ?_
  refine jc_put g (pc := 37) (n := 14) (t := 18) (i := 9) f3_24 (fun q h => by cases h; rfl) (by decide) (by decide +kernel) (by decide +kernel) (by omega) (by decide +kernel) (by decide +kernel) ?_
  refine jc_aload_n g (pc := 40) (n := 14) (t := 19) (i := 0) (by decide +kernel) rfl ?_
  refine jc_iconst g (pc := 41) (n := 14) (t := 19) (x := 0) (0) (by decide +kernel) rfl ?_
  refine jc_put g (pc := 42) (n := 14) (t := 19) (i := 9) f3_28 (fun q h => by cases h; rfl) (by decide) (by decide +kernel) (by decide +kernel) (by omega) (by decide +kernel) (by decide +kernel) ?_
  refine jc_aload_n g (pc := 45) (n := 14) (t := 20) (i := 0) (by decide +kernel) rfl ?_
  refine jc_iconst g (pc := 46) (n := 14) (t := 20) (x := 0) (0) (by decide +kernel) rfl ?_
  refine jc_put g (pc := 47) (n := 14) (t := 20) (i := 9) f3_31 (fun q h => by cases h; rfl) (by decide) (by decide +kernel) (by decide +kernel) (by omega) (by decide +kernel) (by decide +kernel) ?_
  exact ret _ _ (by decide +kernel)
theorem cz_110 : Rc 1 mXc6 [.ref 110] 15 22 15 30 := by
  refine Rc.of [some (.ref 110)] (by decide) rfl rfl rfl (by decide) rfl ?_
  intro J g ret
  refine jc_aload_n g (pc := 0) (n := 15) (t := 22) (i := 0) (by decide +kernel) rfl ?_
  refine jc_obj g (pc := 1) (n := 15) (t := 22) (by omega) wo_6 wo_i wo_c (by decide) (by decide +kernel) ?_
  refine jc_aload_n g (pc := 4) (n := 15) (t := 22) (i := 0) (by decide +kernel) rfl ?_
  refine jc_iconst g (pc := 5) (n := 15) (t := 22) (x := 0) (0) (by decide +kernel) rfl ?_
  refine jc_put g (pc := 6) (n := 15) (t := 22) (i := 14) f6_7 (fun q h => by cases h; rfl) (by decide) (by decide +kernel) (by decide +kernel) (by omega) (by decide +kernel) (by decide +kernel) ?_
  refine jc_aload_n g (pc := 9) (n := 15) (t := 23) (i := 0) (by decide +kernel) rfl ?_
  refine jc_iconst g (pc := 10) (n := 15) (t := 23) (x := 0) (0) (by decide +kernel) rfl ?_
  refine jc_put g (pc := 11) (n := 15) (t := 23) (i := 14) f6_13 (fun q h => by cases h; rfl) (by decide) (by decide +kernel) (by decide +kernel) (by omega) (by decide +kernel) (by decide +kernel) ?_
  refine jc_aload_n g (pc := 14) (n := 15) (t := 24) (i := 0) (by decide +kernel) rfl ?_
  refine jc_iconst g (pc := 15) (n := 15) (t := 24) (x := 0) (0) (by decide +kernel) rfl ?_
  refine jc_put g (pc := 16) (n := 15) (t := 24) (i := 14) f6_16 (fun q h => by cases h; rfl) (by decide) (by decide +kernel) (by decide +kernel) (by omega) (by decide +kernel) (by decide +kernel) ?_
  refine jc_aload_n g (pc := 19) (n := 15) (t := 25) (i := 0) (by decide +kernel) rfl ?_
  refine jc_iconst g (pc := 20) (n := 15) (t := 25) (x := 0) (0) (by decide +kernel) rfl ?_
  refine jc_put g (pc := 21) (n := 15) (t := 25) (i := 14) f6_19 (fun q h => by cases h; rfl) (by decide) (by decide +kernel) (by decide +kernel) (by omega) (by decide +kernel) (by decide +kernel) ?_
  refine jc_aload_n g (pc := 24) (n := 15) (t := 26) (i := 0) (by decide +kernel) rfl ?_
  refine jc_iconst g (pc := 25) (n := 15) (t := 26) (x := 0) (0) (by decide +kernel) rfl ?_
  refine jc_put g (pc := 26) (n := 15) (t := 26) (i := 14) f6_22 (fun q h => by cases h; rfl) (by decide) (by decide +kernel) (by decide +kernel) (by omega) (by decide +kernel) (by decide +kernel) ?_
  refine jc_aload_n g (pc := 29) (n := 15) (t := 27) (i := 0) (by decide +kernel) rfl ?_
  refine jc_iconst g (pc := 30) (n := 15) (t := 27) (x := 0) (0) (by decide +kernel) rfl ?_
  refine jc_put g (pc := 31) (n := 15) (t := 27) (i := 14) f6_25 (fun q h => by cases h; rfl) (by decide) (by decide +kernel) (by decide +kernel) (by omega) (by decide +kernel) (by decide +kernel) ?_
  refine jc_aload_n g (pc := 34) (n := 15) (t := 28) (i := 0) (by decide +kernel) rfl ?_
  refine jc_iconst g (pc := 35) (n := 15) (t := 28) (x := -1) (-1) (by decide +kernel) rfl ?_
  refine jc_put g (pc := 36) (n := 15) (t := 28) (i := 14) f6_28 (fun q h => by cases h; rfl) (by decide) (by decide +kernel) (by decide +kernel) (by omega) (by decide +kernel) (by decide +kernel) ?_
  refine jc_aload_n g (pc := 39) (n := 15) (t := 29) (i := 0) (by decide +kernel) rfl ?_
  refine jc_iconst g (pc := 40) (n := 15) (t := 29) (x := 0) (0) (by decide +kernel) rfl ?_
  refine jc_put g (pc := 41) (n := 15) (t := 29) (i := 14) f6_31 (fun q h => by cases h; rfl) (by decide) (by decide +kernel) (by decide +kernel) (by omega) (by decide +kernel) (by decide +kernel) ?_
  exact ret _ _ (by decide +kernel)
theorem cz_111 : Rc 1 mXc6 [.ref 111] 16 31 16 39 := by
  refine Rc.of [some (.ref 111)] (by decide) rfl rfl rfl (by decide) rfl ?_
  intro J g ret
  refine jc_aload_n g (pc := 0) (n := 16) (t := 31) (i := 0) (by decide +kernel) rfl ?_
  refine jc_obj g (pc := 1) (n := 16) (t := 31) (by omega) wo_6 wo_i wo_c (by decide) (by decide +kernel) ?_
  refine jc_aload_n g (pc := 4) (n := 16) (t := 31) (i := 0) (by decide +kernel) rfl ?_
  refine jc_iconst g (pc := 5) (n := 16) (t := 31) (x := 0) (0) (by decide +kernel) rfl ?_
  refine jc_put g (pc := 6) (n := 16) (t := 31) (i := 15) f6_7 (fun q h => by cases h; rfl) (by decide) (by decide +kernel) (by decide +kernel) (by omega) (by decide +kernel) (by decide +kernel) ?_
  refine jc_aload_n g (pc := 9) (n := 16) (t := 32) (i := 0) (by decide +kernel) rfl ?_
  refine jc_iconst g (pc := 10) (n := 16) (t := 32) (x := 0) (0) (by decide +kernel) rfl ?_
  refine jc_put g (pc := 11) (n := 16) (t := 32) (i := 15) f6_13 (fun q h => by cases h; rfl) (by decide) (by decide +kernel) (by decide +kernel) (by omega) (by decide +kernel) (by decide +kernel) ?_
  refine jc_aload_n g (pc := 14) (n := 16) (t := 33) (i := 0) (by decide +kernel) rfl ?_
  refine jc_iconst g (pc := 15) (n := 16) (t := 33) (x := 0) (0) (by decide +kernel) rfl ?_
  refine jc_put g (pc := 16) (n := 16) (t := 33) (i := 15) f6_16 (fun q h => by cases h; rfl) (by decide) (by decide +kernel) (by decide +kernel) (by omega) (by decide +kernel) (by decide +kernel) ?_
  refine jc_aload_n g (pc := 19) (n := 16) (t := 34) (i := 0) (by decide +kernel) rfl ?_
  refine jc_iconst g (pc := 20) (n := 16) (t := 34) (x := 0) (0) (by decide +kernel) rfl ?_
  refine jc_put g (pc := 21) (n := 16) (t := 34) (i := 15) f6_19 (fun q h => by cases h; rfl) (by decide) (by decide +kernel) (by decide +kernel) (by omega) (by decide +kernel) (by decide +kernel) ?_
  refine jc_aload_n g (pc := 24) (n := 16) (t := 35) (i := 0) (by decide +kernel) rfl ?_
  refine jc_iconst g (pc := 25) (n := 16) (t := 35) (x := 0) (0) (by decide +kernel) rfl ?_
  refine jc_put g (pc := 26) (n := 16) (t := 35) (i := 15) f6_22 (fun q h => by cases h; rfl) (by decide) (by decide +kernel) (by decide +kernel) (by omega) (by decide +kernel) (by decide +kernel) ?_
  refine jc_aload_n g (pc := 29) (n := 16) (t := 36) (i := 0) (by decide +kernel) rfl ?_
  refine jc_iconst g (pc := 30) (n := 16) (t := 36) (x := 0) (0) (by decide +kernel) rfl ?_
  refine jc_put g (pc := 31) (n := 16) (t := 36) (i := 15) f6_25 (fun q h => by cases h; rfl) (by decide) (by decide +kernel) (by decide +kernel) (by omega) (by decide +kernel) (by decide +kernel) ?_
  refine jc_aload_n g (pc := 34) (n := 16) (t := 37) (i := 0) (by decide +kernel) rfl ?_
  refine jc_iconst g (pc := 35) (n := 16) (t := 37) (x := -1) (-1) (by decide +kernel) rfl ?_
  refine jc_put g (pc := 36) (n := 16) (t := 37) (i := 15) f6_28 (fun q h => by cases h; rfl) (by decide) (by decide +kernel) (by decide +kernel) (by omega) (by decide +kernel) (by decide +kernel) ?_
  refine jc_aload_n g (pc := 39) (n := 16) (t := 38) (i := 0) (by decide +kernel) rfl ?_
  refine jc_iconst g (pc := 40) (n := 16) (t := 38) (x := 0) (0) (by decide +kernel) rfl ?_
  refine jc_put g (pc := 41) (n := 16) (t := 38) (i := 15) f6_31 (fun q h => by cases h; rfl) (by decide) (by decide +kernel) (by decide +kernel) (by omega) (by decide +kernel) (by decide +kernel) ?_
  exact ret _ _ (by decide +kernel)
theorem cz_112 : Rc 1 mXc6 [.ref 112] 17 40 17 48 := by
  refine Rc.of [some (.ref 112)] (by decide) rfl rfl rfl (by decide) rfl ?_
  intro J g ret
  refine jc_aload_n g (pc := 0) (n := 17) (t := 40) (i := 0) (by decide +kernel) rfl ?_
  refine jc_obj g (pc := 1) (n := 17) (t := 40) (by omega) wo_6 wo_i wo_c (by decide) (by decide +kernel) ?_
  refine jc_aload_n g (pc := 4) (n := 17) (t := 40) (i := 0) (by decide +kernel) rfl ?_
  refine jc_iconst g (pc := 5) (n := 17) (t := 40) (x := 0) (0) (by decide +kernel) rfl ?_
  refine jc_put g (pc := 6) (n := 17) (t := 40) (i := 16) f6_7 (fun q h => by cases h; rfl) (by decide) (by decide +kernel) (by decide +kernel) (by omega) (by decide +kernel) (by decide +kernel) ?_
  refine jc_aload_n g (pc := 9) (n := 17) (t := 41) (i := 0) (by decide +kernel) rfl ?_
  refine jc_iconst g (pc := 10) (n := 17) (t := 41) (x := 0) (0) (by decide +kernel) rfl ?_
  refine jc_put g (pc := 11) (n := 17) (t := 41) (i := 16) f6_13 (fun q h => by cases h; rfl) (by decide) (by decide +kernel) (by decide +kernel) (by omega) (by decide +kernel) (by decide +kernel) ?_
  refine jc_aload_n g (pc := 14) (n := 17) (t := 42) (i := 0) (by decide +kernel) rfl ?_
  refine jc_iconst g (pc := 15) (n := 17) (t := 42) (x := 0) (0) (by decide +kernel) rfl ?_
  refine jc_put g (pc := 16) (n := 17) (t := 42) (i := 16) f6_16 (fun q h => by cases h; rfl) (by decide) (by decide +kernel) (by decide +kernel) (by omega) (by decide +kernel) (by decide +kernel) ?_
  refine jc_aload_n g (pc := 19) (n := 17) (t := 43) (i := 0) (by decide +kernel) rfl ?_
  refine jc_iconst g (pc := 20) (n := 17) (t := 43) (x := 0) (0) (by decide +kernel) rfl ?_
  refine jc_put g (pc := 21) (n := 17) (t := 43) (i := 16) f6_19 (fun q h => by cases h; rfl) (by decide) (by decide +kernel) (by decide +kernel) (by omega) (by decide +kernel) (by decide +kernel) ?_
  refine jc_aload_n g (pc := 24) (n := 17) (t := 44) (i := 0) (by decide +kernel) rfl ?_
  refine jc_iconst g (pc := 25) (n := 17) (t := 44) (x := 0) (0) (by decide +kernel) rfl ?_
  refine jc_put g (pc := 26) (n := 17) (t := 44) (i := 16) f6_22 (fun q h => by cases h; rfl) (by decide) (by decide +kernel) (by decide +kernel) (by omega) (by decide +kernel) (by decide +kernel) ?_
  refine jc_aload_n g (pc := 29) (n := 17) (t := 45) (i := 0) (by decide +kernel) rfl ?_
  refine jc_iconst g (pc := 30) (n := 17) (t := 45) (x := 0) (0) (by decide +kernel) rfl ?_
  refine jc_put g (pc := 31) (n := 17) (t := 45) (i := 16) f6_25 (fun q h => by cases h; rfl) (by decide) (by decide +kernel) (by decide +kernel) (by omega) (by decide +kernel) (by decide +kernel) ?_
  refine jc_aload_n g (pc := 34) (n := 17) (t := 46) (i := 0) (by decide +kernel) rfl ?_
  refine jc_iconst g (pc := 35) (n := 17) (t := 46) (x := -1) (-1) (by decide +kernel) rfl ?_
  refine jc_put g (pc := 36) (n := 17) (t := 46) (i := 16) f6_28 (fun q h => by cases h; rfl) (by decide) (by decide +kernel) (by decide +kernel) (by omega) (by decide +kernel) (by decide +kernel) ?_
  refine jc_aload_n g (pc := 39) (n := 17) (t := 47) (i := 0) (by decide +kernel) rfl ?_
  refine jc_iconst g (pc := 40) (n := 17) (t := 47) (x := 0) (0) (by decide +kernel) rfl ?_
  refine jc_put g (pc := 41) (n := 17) (t := 47) (i := 16) f6_31 (fun q h => by cases h; rfl) (by decide) (by decide +kernel) (by decide +kernel) (by omega) (by decide +kernel) (by decide +kernel) ?_
  exact ret _ _ (by decide +kernel)
theorem cz_113 : Rc 1 mXc6 [.ref 113] 18 49 18 57 := by
  refine Rc.of [some (.ref 113)] (by decide) rfl rfl rfl (by decide) rfl ?_
  intro J g ret
  refine jc_aload_n g (pc := 0) (n := 18) (t := 49) (i := 0) (by decide +kernel) rfl ?_
  refine jc_obj g (pc := 1) (n := 18) (t := 49) (by omega) wo_6 wo_i wo_c (by decide) (by decide +kernel) ?_
  refine jc_aload_n g (pc := 4) (n := 18) (t := 49) (i := 0) (by decide +kernel) rfl ?_
  refine jc_iconst g (pc := 5) (n := 18) (t := 49) (x := 0) (0) (by decide +kernel) rfl ?_
  refine jc_put g (pc := 6) (n := 18) (t := 49) (i := 17) f6_7 (fun q h => by cases h; rfl) (by decide) (by decide +kernel) (by decide +kernel) (by omega) (by decide +kernel) (by decide +kernel) ?_
  refine jc_aload_n g (pc := 9) (n := 18) (t := 50) (i := 0) (by decide +kernel) rfl ?_
  refine jc_iconst g (pc := 10) (n := 18) (t := 50) (x := 0) (0) (by decide +kernel) rfl ?_
  refine jc_put g (pc := 11) (n := 18) (t := 50) (i := 17) f6_13 (fun q h => by cases h; rfl) (by decide) (by decide +kernel) (by decide +kernel) (by omega) (by decide +kernel) (by decide +kernel) ?_
  refine jc_aload_n g (pc := 14) (n := 18) (t := 51) (i := 0) (by decide +kernel) rfl ?_
  refine jc_iconst g (pc := 15) (n := 18) (t := 51) (x := 0) (0) (by decide +kernel) rfl ?_
  refine jc_put g (pc := 16) (n := 18) (t := 51) (i := 17) f6_16 (fun q h => by cases h; rfl) (by decide) (by decide +kernel) (by decide +kernel) (by omega) (by decide +kernel) (by decide +kernel) ?_
  refine jc_aload_n g (pc := 19) (n := 18) (t := 52) (i := 0) (by decide +kernel) rfl ?_
  refine jc_iconst g (pc := 20) (n := 18) (t := 52) (x := 0) (0) (by decide +kernel) rfl ?_
  refine jc_put g (pc := 21) (n := 18) (t := 52) (i := 17) f6_19 (fun q h => by cases h; rfl) (by decide) (by decide +kernel) (by decide +kernel) (by omega) (by decide +kernel) (by decide +kernel) ?_
  refine jc_aload_n g (pc := 24) (n := 18) (t := 53) (i := 0) (by decide +kernel) rfl ?_
  refine jc_iconst g (pc := 25) (n := 18) (t := 53) (x := 0) (0) (by decide +kernel) rfl ?_
  refine jc_put g (pc := 26) (n := 18) (t := 53) (i := 17) f6_22 (fun q h => by cases h; rfl) (by decide) (by decide +kernel) (by decide +kernel) (by omega) (by decide +kernel) (by decide +kernel) ?_
  refine jc_aload_n g (pc := 29) (n := 18) (t := 54) (i := 0) (by decide +kernel) rfl ?_
  refine jc_iconst g (pc := 30) (n := 18) (t := 54) (x := 0) (0) (by decide +kernel) rfl ?_
  refine jc_put g (pc := 31) (n := 18) (t := 54) (i := 17) f6_25 (fun q h => by cases h; rfl) (by decide) (by decide +kernel) (by decide +kernel) (by omega) (by decide +kernel) (by decide +kernel) ?_
  refine jc_aload_n g (pc := 34) (n := 18) (t := 55) (i := 0) (by decide +kernel) rfl ?_
  refine jc_iconst g (pc := 35) (n := 18) (t := 55) (x := -1) (-1) (by decide +kernel) rfl ?_
  refine jc_put g (pc := 36) (n := 18) (t := 55) (i := 17) f6_28 (fun q h => by cases h; rfl) (by decide) (by decide +kernel) (by decide +kernel) (by omega) (by decide +kernel) (by decide +kernel) ?_
  refine jc_aload_n g (pc := 39) (n := 18) (t := 56) (i := 0) (by decide +kernel) rfl ?_
  refine jc_iconst g (pc := 40) (n := 18) (t := 56) (x := 0) (0) (by decide +kernel) rfl ?_
  refine jc_put g (pc := 41) (n := 18) (t := 56) (i := 17) f6_31 (fun q h => by cases h; rfl) (by decide) (by decide +kernel) (by decide +kernel) (by omega) (by decide +kernel) (by decide +kernel) ?_
  exact ret _ _ (by decide +kernel)
theorem cz_114 : Rc 1 mXc6 [.ref 114] 19 58 19 66 := by
  refine Rc.of [some (.ref 114)] (by decide) rfl rfl rfl (by decide) rfl ?_
  intro J g ret
  refine jc_aload_n g (pc := 0) (n := 19) (t := 58) (i := 0) (by decide +kernel) rfl ?_
  refine jc_obj g (pc := 1) (n := 19) (t := 58) (by omega) wo_6 wo_i wo_c (by decide) (by decide +kernel) ?_
  refine jc_aload_n g (pc := 4) (n := 19) (t := 58) (i := 0) (by decide +kernel) rfl ?_
  refine jc_iconst g (pc := 5) (n := 19) (t := 58) (x := 0) (0) (by decide +kernel) rfl ?_
  refine jc_put g (pc := 6) (n := 19) (t := 58) (i := 18) f6_7 (fun q h => by cases h; rfl) (by decide) (by decide +kernel) (by decide +kernel) (by omega) (by decide +kernel) (by decide +kernel) ?_
  refine jc_aload_n g (pc := 9) (n := 19) (t := 59) (i := 0) (by decide +kernel) rfl ?_
  refine jc_iconst g (pc := 10) (n := 19) (t := 59) (x := 0) (0) (by decide +kernel) rfl ?_
  refine jc_put g (pc := 11) (n := 19) (t := 59) (i := 18) f6_13 (fun q h => by cases h; rfl) (by decide) (by decide +kernel) (by decide +kernel) (by omega) (by decide +kernel) (by decide +kernel) ?_
  refine jc_aload_n g (pc := 14) (n := 19) (t := 60) (i := 0) (by decide +kernel) rfl ?_
  refine jc_iconst g (pc := 15) (n := 19) (t := 60) (x := 0) (0) (by decide +kernel) rfl ?_
  refine jc_put g (pc := 16) (n := 19) (t := 60) (i := 18) f6_16 (fun q h => by cases h; rfl) (by decide) (by decide +kernel) (by decide +kernel) (by omega) (by decide +kernel) (by decide +kernel) ?_
  refine jc_aload_n g (pc := 19) (n := 19) (t := 61) (i := 0) (by decide +kernel) rfl ?_
  refine jc_iconst g (pc := 20) (n := 19) (t := 61) (x := 0) (0) (by decide +kernel) rfl ?_
  refine jc_put g (pc := 21) (n := 19) (t := 61) (i := 18) f6_19 (fun q h => by cases h; rfl) (by decide) (by decide +kernel) (by decide +kernel) (by omega) (by decide +kernel) (by decide +kernel) ?_
  refine jc_aload_n g (pc := 24) (n := 19) (t := 62) (i := 0) (by decide +kernel) rfl ?_
  refine jc_iconst g (pc := 25) (n := 19) (t := 62) (x := 0) (0) (by decide +kernel) rfl ?_
  refine jc_put g (pc := 26) (n := 19) (t := 62) (i := 18) f6_22 (fun q h => by cases h; rfl) (by decide) (by decide +kernel) (by decide +kernel) (by omega) (by decide +kernel) (by decide +kernel) ?_
  refine jc_aload_n g (pc := 29) (n := 19) (t := 63) (i := 0) (by decide +kernel) rfl ?_
  refine jc_iconst g (pc := 30) (n := 19) (t := 63) (x := 0) (0) (by decide +kernel) rfl ?_
  refine jc_put g (pc := 31) (n := 19) (t := 63) (i := 18) f6_25 (fun q h => by cases h; rfl) (by decide) (by decide +kernel) (by decide +kernel) (by omega) (by decide +kernel) (by decide +kernel) ?_
  refine jc_aload_n g (pc := 34) (n := 19) (t := 64) (i := 0) (by decide +kernel) rfl ?_
  refine jc_iconst g (pc := 35) (n := 19) (t := 64) (x := -1) (-1) (by decide +kernel) rfl ?_
  refine jc_put g (pc := 36) (n := 19) (t := 64) (i := 18) f6_28 (fun q h => by cases h; rfl) (by decide) (by decide +kernel) (by decide +kernel) (by omega) (by decide +kernel) (by decide +kernel) ?_
  refine jc_aload_n g (pc := 39) (n := 19) (t := 65) (i := 0) (by decide +kernel) rfl ?_
  refine jc_iconst g (pc := 40) (n := 19) (t := 65) (x := 0) (0) (by decide +kernel) rfl ?_
  refine jc_put g (pc := 41) (n := 19) (t := 65) (i := 18) f6_31 (fun q h => by cases h; rfl) (by decide) (by decide +kernel) (by decide +kernel) (by omega) (by decide +kernel) (by decide +kernel) ?_
  exact ret _ _ (by decide +kernel)
theorem cz_115 : Rc 1 mXc6 [.ref 115] 20 67 20 75 := by
  refine Rc.of [some (.ref 115)] (by decide) rfl rfl rfl (by decide) rfl ?_
  intro J g ret
  refine jc_aload_n g (pc := 0) (n := 20) (t := 67) (i := 0) (by decide +kernel) rfl ?_
  refine jc_obj g (pc := 1) (n := 20) (t := 67) (by omega) wo_6 wo_i wo_c (by decide) (by decide +kernel) ?_
  refine jc_aload_n g (pc := 4) (n := 20) (t := 67) (i := 0) (by decide +kernel) rfl ?_
  refine jc_iconst g (pc := 5) (n := 20) (t := 67) (x := 0) (0) (by decide +kernel) rfl ?_
  refine jc_put g (pc := 6) (n := 20) (t := 67) (i := 19) f6_7 (fun q h => by cases h; rfl) (by decide) (by decide +kernel) (by decide +kernel) (by omega) (by decide +kernel) (by decide +kernel) ?_
  refine jc_aload_n g (pc := 9) (n := 20) (t := 68) (i := 0) (by decide +kernel) rfl ?_
  refine jc_iconst g (pc := 10) (n := 20) (t := 68) (x := 0) (0) (by decide +kernel) rfl ?_
  refine jc_put g (pc := 11) (n := 20) (t := 68) (i := 19) f6_13 (fun q h => by cases h; rfl) (by decide) (by decide +kernel) (by decide +kernel) (by omega) (by decide +kernel) (by decide +kernel) ?_
  refine jc_aload_n g (pc := 14) (n := 20) (t := 69) (i := 0) (by decide +kernel) rfl ?_
  refine jc_iconst g (pc := 15) (n := 20) (t := 69) (x := 0) (0) (by decide +kernel) rfl ?_
  refine jc_put g (pc := 16) (n := 20) (t := 69) (i := 19) f6_16 (fun q h => by cases h; rfl) (by decide) (by decide +kernel) (by decide +kernel) (by omega) (by decide +kernel) (by decide +kernel) ?_
  refine jc_aload_n g (pc := 19) (n := 20) (t := 70) (i := 0) (by decide +kernel) rfl ?_
  refine jc_iconst g (pc := 20) (n := 20) (t := 70) (x := 0) (0) (by decide +kernel) rfl ?_
  refine jc_put g (pc := 21) (n := 20) (t := 70) (i := 19) f6_19 (fun q h => by cases h; rfl) (by decide) (by decide +kernel) (by decide +kernel) (by omega) (by decide +kernel) (by decide +kernel) ?_
  refine jc_aload_n g (pc := 24) (n := 20) (t := 71) (i := 0) (by decide +kernel) rfl ?_
  refine jc_iconst g (pc := 25) (n := 20) (t := 71) (x := 0) (0) (by decide +kernel) rfl ?_
  refine jc_put g (pc := 26) (n := 20) (t := 71) (i := 19) f6_22 (fun q h => by cases h; rfl) (by decide) (by decide +kernel) (by decide +kernel) (by omega) (by decide +kernel) (by decide +kernel) ?_
  refine jc_aload_n g (pc := 29) (n := 20) (t := 72) (i := 0) (by decide +kernel) rfl ?_
  refine jc_iconst g (pc := 30) (n := 20) (t := 72) (x := 0) (0) (by decide +kernel) rfl ?_
  refine jc_put g (pc := 31) (n := 20) (t := 72) (i := 19) f6_25 (fun q h => by cases h; rfl) (by decide) (by decide +kernel) (by decide +kernel) (by omega) (by decide +kernel) (by decide +kernel) ?_
  refine jc_aload_n g (pc := 34) (n := 20) (t := 73) (i := 0) (by decide +kernel) rfl ?_
  refine jc_iconst g (pc := 35) (n := 20) (t := 73) (x := -1) (-1) (by decide +kernel) rfl ?_
  refine jc_put g (pc := 36) (n := 20) (t := 73) (i := 19) f6_28 (fun q h => by cases h; rfl) (by decide) (by decide +kernel) (by decide +kernel) (by omega) (by decide +kernel) (by decide +kernel) ?_
  refine jc_aload_n g (pc := 39) (n := 20) (t := 74) (i := 0) (by decide +kernel) rfl ?_
  refine jc_iconst g (pc := 40) (n := 20) (t := 74) (x := 0) (0) (by decide +kernel) rfl ?_
  refine jc_put g (pc := 41) (n := 20) (t := 74) (i := 19) f6_31 (fun q h => by cases h; rfl) (by decide) (by decide +kernel) (by decide +kernel) (by omega) (by decide +kernel) (by decide +kernel) ?_
  exact ret _ _ (by decide +kernel)
theorem cz_100 : Rc 2 mXc5 [.ref 100] 3 0 20 76 := by
  refine Rc.of [some (.ref 100), none] (by decide) rfl rfl rfl (by decide) rfl ?_
  intro J g ret
  refine jc_aload_n g (pc := 0) (n := 3) (t := 0) (i := 0) (by decide +kernel) rfl ?_
  refine jc_obj g (pc := 1) (n := 3) (t := 0) (by omega) wo_5 wo_i wo_c (by decide) (by decide +kernel) ?_
  refine jc_aload_n g (pc := 4) (n := 3) (t := 0) (i := 0) (by decide +kernel) rfl ?_
  refine jc_iconst g (pc := 5) (n := 3) (t := 0) (x := 0) (0) (by decide +kernel) rfl ?_
  refine jc_put g (pc := 6) (n := 3) (t := 0) (i := 2) f5_9 (fun q h => by cases h; rfl) (by decide) (by decide +kernel) (by decide +kernel) (by omega) (by decide +kernel) (by decide +kernel) ?_
  refine jc_aload_n g (pc := 9) (n := 3) (t := 1) (i := 0) (by decide +kernel) rfl ?_
  refine jc_iconst g (pc := 10) (n := 3) (t := 1) (x := 0) (0) (by decide +kernel) rfl ?_
  refine jc_put g (pc := 11) (n := 3) (t := 1) (i := 2) f5_15 (fun q h => by cases h; rfl) (by decide) (by decide +kernel) (by decide +kernel) (by omega) (by decide +kernel) (by decide +kernel) ?_
  refine jc_aload_n g (pc := 14) (n := 3) (t := 2) (i := 0) (by decide +kernel) rfl ?_
  refine jc_iconst g (pc := 15) (n := 3) (t := 2) (x := 0) (0) (by decide +kernel) rfl ?_
  refine jc_put g (pc := 16) (n := 3) (t := 2) (i := 2) f5_18 (fun q h => by cases h; rfl) (by decide) (by decide +kernel) (by decide +kernel) (by omega) (by decide +kernel) (by decide +kernel) ?_
  refine jc_aload_n g (pc := 19) (n := 3) (t := 3) (i := 0) (by decide +kernel) rfl ?_
  refine jc_iconst g (pc := 20) (n := 3) (t := 3) (x := 0) (0) (by decide +kernel) rfl ?_
  refine jc_put g (pc := 21) (n := 3) (t := 3) (i := 2) f5_21 (fun q h => by cases h; rfl) (by decide) (by decide +kernel) (by decide +kernel) (by omega) (by decide +kernel) (by decide +kernel) ?_
  refine jc_aload_n g (pc := 24) (n := 3) (t := 4) (i := 0) (by decide +kernel) rfl ?_
  refine jc_iconst g (pc := 25) (n := 3) (t := 4) (x := 3) (3) (by decide +kernel) rfl ?_
  refine jc_newaI g (pc := 26) (n := 3) (t := 4) (a := 101) (N := 3) (by decide +kernel) (by decide) (by decide) (by omega) (by omega) (by omega) (by decide +kernel) wa_i (by decide +kernel) ?_
  refine jc_put g (pc := 28) (n := 4) (t := 4) (i := 2) f5_24 (fun q h => by cases h; rfl) (by decide) (by decide +kernel) (by decide +kernel) (by omega) (by decide +kernel) (by decide +kernel) ?_
  refine jc_aload_n g (pc := 31) (n := 4) (t := 5) (i := 0) (by decide +kernel) rfl ?_
  refine jc_bipush g (pc := 32) (n := 4) (t := 5) (x := 6) (6) (by decide +kernel) (by decide +kernel) ?_
  refine jc_newaI g (pc := 34) (n := 4) (t := 5) (a := 102) (N := 6) (by decide +kernel) (by decide) (by decide) (by omega) (by omega) (by omega) (by decide +kernel) wa_i (by decide +kernel) ?_
  refine jc_put g (pc := 36) (n := 5) (t := 5) (i := 2) f5_28 (fun q h => by cases h; rfl) (by decide) (by decide +kernel) (by decide +kernel) (by omega) (by decide +kernel) (by decide +kernel) ?_
  refine jc_aload_n g (pc := 39) (n := 5) (t := 6) (i := 0) (by decide +kernel) rfl ?_
  refine jc_bipush g (pc := 40) (n := 5) (t := 6) (x := 6) (6) (by decide +kernel) (by decide +kernel) ?_
  refine jc_anewW g (pc := 42) (n := 5) (t := 6) (a := 103) (N := 6) (by decide +kernel) (by decide) (by decide) (by omega) (by omega) (by omega) (by decide +kernel) wk_5_31 (by decide +kernel) ?_
  refine jc_put g (pc := 45) (n := 6) (t := 6) (i := 2) f5_33 (fun q h => by cases h; rfl) (by decide) (by decide +kernel) (by decide +kernel) (by omega) (by decide +kernel) (by decide +kernel) ?_
  refine jc_aload_n g (pc := 48) (n := 6) (t := 7) (i := 0) (by decide +kernel) rfl ?_
  refine jc_iconst g (pc := 49) (n := 6) (t := 7) (x := 4) (4) (by decide +kernel) rfl ?_
  refine jc_newaI g (pc := 50) (n := 6) (t := 7) (a := 104) (N := 4) (by decide +kernel) (by decide) (by decide) (by omega) (by omega) (by omega) (by decide +kernel) wa_i (by decide +kernel) ?_
  refine jc_dup g (pc := 52) (n := 7) (t := 7) (by decide +kernel) rfl ?_
  refine jc_iconst g (pc := 53) (n := 7) (t := 7) (x := 0) (0) (by decide +kernel) rfl ?_
  refine jc_iconst g (pc := 54) (n := 7) (t := 7) (x := 0) (0) (by decide +kernel) rfl ?_
  refine jc_iast g (pc := 55) (n := 7) (t := 7) (i := 6) (N := 4) (by decide +kernel) (by omega) (by decide +kernel) (by rw [vin_iff]; decide +kernel) (by decide +kernel) ?_
  refine jc_dup g (pc := 56) (n := 7) (t := 8) (by decide +kernel) rfl ?_
  refine jc_iconst g (pc := 57) (n := 7) (t := 8) (x := 1) (1) (by decide +kernel) rfl ?_
  refine jc_iconst g (pc := 58) (n := 7) (t := 8) (x := 1) (1) (by decide +kernel) rfl ?_
  refine jc_iast g (pc := 59) (n := 7) (t := 8) (i := 6) (N := 4) (by decide +kernel) (by omega) (by decide +kernel) (by rw [vin_iff]; decide +kernel) (by decide +kernel) ?_
  refine jc_dup g (pc := 60) (n := 7) (t := 9) (by decide +kernel) rfl ?_
  refine jc_iconst g (pc := 61) (n := 7) (t := 9) (x := 2) (2) (by decide +kernel) rfl ?_
  refine jc_iconst g (pc := 62) (n := 7) (t := 9) (x := 5) (5) (by decide +kernel) rfl ?_
  refine jc_iast g (pc := 63) (n := 7) (t := 9) (i := 6) (N := 4) (by decide +kernel) (by omega) (by decide +kernel) (by rw [vin_iff]; decide +kernel) (by decide +kernel) ?_
  refine jc_dup g (pc := 64) (n := 7) (t := 10) (by decide +kernel) rfl ?_
  refine jc_iconst g (pc := 65) (n := 7) (t := 10) (x := 3) (3) (by decide +kernel) rfl ?_
  refine jc_iconst g (pc := 66) (n := 7) (t := 10) (x := 3) (3) (by decide +kernel) rfl ?_
  refine jc_iast g (pc := 67) (n := 7) (t := 10) (i := 6) (N := 4) (by decide +kernel) (by omega) (by decide +kernel) (by rw [vin_iff]; decide +kernel) (by decide +kernel) ?_
  refine jc_put g (pc := 68) (n := 7) (t := 11) (i := 2) f5_37 (fun q h => by cases h; rfl) (by decide) (by decide +kernel) (by decide +kernel) (by omega) (by decide +kernel) (by decide +kernel) ?_
  refine jc_aload_n g (pc := 71) (n := 7) (t := 12) (i := 0) (by decide +kernel) rfl ?_
  refine jc_iconst g (pc := 72) (n := 7) (t := 12) (x := 4) (4) (by decide +kernel) rfl ?_
  refine jc_newaI g (pc := 73) (n := 7) (t := 12) (a := 105) (N := 4) (by decide +kernel) (by decide) (by decide) (by omega) (by omega) (by omega) (by decide +kernel) wa_i (by decide +kernel) ?_
  refine jc_put g (pc := 75) (n := 8) (t := 12) (i := 2) f5_40 (fun q h => by cases h; rfl) (by decide) (by decide +kernel) (by decide +kernel) (by omega) (by decide +kernel) (by decide +kernel) ?_
  refine jc_aload_n g (pc := 78) (n := 8) (t := 13) (i := 0) (by decide +kernel) rfl ?_
  refine jc_iconst g (pc := 79) (n := 8) (t := 13) (x := 4) (4) (by decide +kernel) rfl ?_
  refine jc_newaI g (pc := 80) (n := 8) (t := 13) (a := 106) (N := 4) (by decide +kernel) (by decide) (by decide) (by omega) (by omega) (by omega) (by decide +kernel) wa_i (by decide +kernel) ?_
  refine jc_put g (pc := 82) (n := 9) (t := 13) (i := 2) f5_43 (fun q h => by cases h; rfl) (by decide) (by decide +kernel) (by decide +kernel) (by omega) (by decide +kernel) (by decide +kernel) ?_
  refine jc_aload_n g (pc := 85) (n := 9) (t := 14) (i := 0) (by decide +kernel) rfl ?_
  refine jc_new g (pc := 86) (n := 9) (t := 14) (ci := 3) (a := 1000) rfl (by decide +kernel) (by omega) (by omega) (by decide +kernel) wk_5_46 wn_3 wz_3 (by decide +kernel) ?_
  refine jc_dup g (pc := 89) (n := 10) (t := 14) (by decide +kernel) rfl ?_
  refine jc_callN g (pc := 90) (n := 10) (t := 14) (As := []) cz_1000 wm_5_48 cb_3 (by omega) (by omega) (by omega) rfl (by decide +kernel) (by decide +kernel) (by decide) (by decide +kernel) ?_
  refine jc_put g (pc := 93) (n := 14) (t := 21) (i := 2) f5_49 (fun q h => by cases h; rfl) (by decide) (by decide +kernel) (by decide +kernel) (by omega) (by decide +kernel) (by decide +kernel) ?_
  refine jc_iconst g (pc := 96) (n := 14) (t := 22) (x := 0) (0) (by decide +kernel) rfl ?_
  refine jc_istore_n g (pc := 97) (n := 14) (t := 22) (i := 1) (by decide +kernel) (by decide) ?_
  dsimp only [stL, clL, hdL]
  refine jc_iload_n g (pc := 98) (n := 14) (t := 22) (i := 1) (by decide +kernel) rfl ?_
  refine jc_bipush g (pc := 99) (n := 14) (t := 22) (x := 6) (6) (by decide +kernel) (by decide +kernel) ?_
  refine jc_ge_f g (pc := 101) (n := 14) (t := 22) (off := 22) (tgt := 123) (by decide +kernel) (by decide) (by decide) ?_
  refine jc_aload_n g (pc := 104) (n := 14) (t := 22) (i := 0) (by decide +kernel) rfl ?_
  refine jc_get g (pc := 105) (n := 14) (t := 22) (i := 2) (b := 103) f5_33 (by decide +kernel) (by omega) (by decide +kernel) (by decide +kernel) ?_
  refine jc_iload_n g (pc := 108) (n := 14) (t := 22) (i := 1) (by decide +kernel) rfl ?_
  refine jc_new g (pc := 109) (n := 14) (t := 22) (ci := 6) (a := 110) rfl (by decide +kernel) (by omega) (by omega) (by decide +kernel) wk_5_31 wn_6 wz_6 (by decide +kernel) ?_
  refine jc_dup g (pc := 112) (n := 15) (t := 22) (by decide +kernel) rfl ?_
  refine jc_callN g (pc := 113) (n := 15) (t := 22) (As := []) cz_110 wm_5_53 cb_6 (by omega) (by omega) (by omega) rfl (by decide +kernel) (by decide +kernel) (by decide) (by decide +kernel) ?_
  refine jc_aastW g (pc := 116) (n := 15) (t := 30) (i := 5) (N := 6) (i2 := 14) (by decide +kernel) (by omega) (by decide +kernel) (by omega) (by decide +kernel) (by rw [vin_iff]; decide +kernel) (by decide +kernel) ?_
  refine jc_iinc g (pc := 117) (n := 15) (t := 31) (i := 1) (z := 1) (1) (by decide +kernel) rfl (by decide) rfl ?_
  dsimp only [stL, clL, hdL]
  refine jc_goto g (pc := 120) (n := 15) (t := 31) (off := -22) (tgt := 98) (by decide +kernel) (by decide) ?_
  refine jc_iload_n g (pc := 98) (n := 15) (t := 31) (i := 1) (by decide +kernel) rfl ?_
  refine jc_bipush g (pc := 99) (n := 15) (t := 31) (x := 6) (6) (by decide +kernel) (by decide +kernel) ?_
  refine jc_ge_f g (pc := 101) (n := 15) (t := 31) (off := 22) (tgt := 123) (by decide +kernel) (by decide) (by decide) ?_
  refine jc_aload_n g (pc := 104) (n := 15) (t := 31) (i := 0) (by decide +kernel) rfl ?_
  refine jc_get g (pc := 105) (n := 15) (t := 31) (i := 2) (b := 103) f5_33 (by decide +kernel) (by omega) (by decide +kernel) (by decide +kernel) ?_
  refine jc_iload_n g (pc := 108) (n := 15) (t := 31) (i := 1) (by decide +kernel) rfl ?_
  refine jc_new g (pc := 109) (n := 15) (t := 31) (ci := 6) (a := 111) rfl (by decide +kernel) (by omega) (by omega) (by decide +kernel) wk_5_31 wn_6 wz_6 (by decide +kernel) ?_
  refine jc_dup g (pc := 112) (n := 16) (t := 31) (by decide +kernel) rfl ?_
  refine jc_callN g (pc := 113) (n := 16) (t := 31) (As := []) cz_111 wm_5_53 cb_6 (by omega) (by omega) (by omega) rfl (by decide +kernel) (by decide +kernel) (by decide) (by decide +kernel) ?_
  refine jc_aastW g (pc := 116) (n := 16) (t := 39) (i := 5) (N := 6) (i2 := 15) (by decide +kernel) (by omega) (by decide +kernel) (by omega) (by decide +kernel) (by rw [vin_iff]; decide +kernel) (by decide +kernel) ?_
  refine jc_iinc g (pc := 117) (n := 16) (t := 40) (i := 1) (z := 1) (1) (by decide +kernel) rfl (by decide) rfl ?_
  dsimp only [stL, clL, hdL]
  refine jc_goto g (pc := 120) (n := 16) (t := 40) (off := -22) (tgt := 98) (by decide +kernel) (by decide) ?_
  refine jc_iload_n g (pc := 98) (n := 16) (t := 40) (i := 1) (by decide +kernel) rfl ?_
  refine jc_bipush g (pc := 99) (n := 16) (t := 40) (x := 6) (6) (by decide +kernel) (by decide +kernel) ?_
  refine jc_ge_f g (pc := 101) (n := 16) (t := 40) (off := 22) (tgt := 123) (by decide +kernel) (by decide) (by decide) ?_
  refine jc_aload_n g (pc := 104) (n := 16) (t := 40) (i := 0) (by decide +kernel) rfl ?_
  refine jc_get g (pc := 105) (n := 16) (t := 40) (i := 2) (b := 103) f5_33 (by decide +kernel) (by omega) (by decide +kernel) (by decide +kernel) ?_
  refine jc_iload_n g (pc := 108) (n := 16) (t := 40) (i := 1) (by decide +kernel) rfl ?_
  refine jc_new g (pc := 109) (n := 16) (t := 40) (ci := 6) (a := 112) rfl (by decide +kernel) (by omega) (by omega) (by decide +kernel) wk_5_31 wn_6 wz_6 (by decide +kernel) ?_
  refine jc_dup g (pc := 112) (n := 17) (t := 40) (by decide +kernel) rfl ?_
  refine jc_callN g (pc := 113) (n := 17) (t := 40) (As := []) cz_112 wm_5_53 cb_6 (by omega) (by omega) (by omega) rfl (by decide +kernel) (by decide +kernel) (by decide) (by decide +kernel) ?_
  refine jc_aastW g (pc := 116) (n := 17) (t := 48) (i := 5) (N := 6) (i2 := 16) (by decide +kernel) (by omega) (by decide +kernel) (by omega) (by decide +kernel) (by rw [vin_iff]; decide +kernel) (by decide +kernel) ?_
  refine jc_iinc g (pc := 117) (n := 17) (t := 49) (i := 1) (z := 1) (1) (by decide +kernel) rfl (by decide) rfl ?_
  dsimp only [stL, clL, hdL]
  refine jc_goto g (pc := 120) (n := 17) (t := 49) (off := -22) (tgt := 98) (by decide +kernel) (by decide) ?_
  refine jc_iload_n g (pc := 98) (n := 17) (t := 49) (i := 1) (by decide +kernel) rfl ?_
  refine jc_bipush g (pc := 99) (n := 17) (t := 49) (x := 6) (6) (by decide +kernel) (by decide +kernel) ?_
  refine jc_ge_f g (pc := 101) (n := 17) (t := 49) (off := 22) (tgt := 123) (by decide +kernel) (by decide) (by decide) ?_
  refine jc_aload_n g (pc := 104) (n := 17) (t := 49) (i := 0) (by decide +kernel) rfl ?_
  refine jc_get g (pc := 105) (n := 17) (t := 49) (i := 2) (b := 103) f5_33 (by decide +kernel) (by omega) (by decide +kernel) (by decide +kernel) ?_
  refine jc_iload_n g (pc := 108) (n := 17) (t := 49) (i := 1) (by decide +kernel) rfl ?_
  refine jc_new g (pc := 109) (n := 17) (t := 49) (ci := 6) (a := 113) rfl (by decide +kernel) (by omega) (by omega) (by decide +kernel) wk_5_31 wn_6 wz_6 (by decide +kernel) ?_
  refine jc_dup g (pc := 112) (n := 18) (t := 49) (by decide +kernel) rfl ?_
  refine jc_callN g (pc := 113) (n := 18) (t := 49) (As := []) cz_113 wm_5_53 cb_6 (by omega) (by omega) (by omega) rfl (by decide +kernel) (by decide +kernel) (by decide) (by decide +kernel) ?_
  refine jc_aastW g (pc := 116) (n := 18) (t := 57) (i := 5) (N := 6) (i2 := 17) (by decide +kernel) (by omega) (by decide +kernel) (by omega) (by decide +kernel) (by rw [vin_iff]; decide +kernel) (by decide +kernel) ?_
  refine jc_iinc g (pc := 117) (n := 18) (t := 58) (i := 1) (z := 1) (1) (by decide +kernel) rfl (by decide) rfl ?_
  dsimp only [stL, clL, hdL]
  refine jc_goto g (pc := 120) (n := 18) (t := 58) (off := -22) (tgt := 98) (by decide +kernel) (by decide) ?_
  refine jc_iload_n g (pc := 98) (n := 18) (t := 58) (i := 1) (by decide +kernel) rfl ?_
  refine jc_bipush g (pc := 99) (n := 18) (t := 58) (x := 6) (6) (by decide +kernel) (by decide +kernel) ?_
  refine jc_ge_f g (pc := 101) (n := 18) (t := 58) (off := 22) (tgt := 123) (by decide +kernel) (by decide) (by decide) ?_
  refine jc_aload_n g (pc := 104) (n := 18) (t := 58) (i := 0) (by decide +kernel) rfl ?_
  refine jc_get g (pc := 105) (n := 18) (t := 58) (i := 2) (b := 103) f5_33 (by decide +kernel) (by omega) (by decide +kernel) (by decide +kernel) ?_
  refine jc_iload_n g (pc := 108) (n := 18) (t := 58) (i := 1) (by decide +kernel) rfl ?_
  refine jc_new g (pc := 109) (n := 18) (t := 58) (ci := 6) (a := 114) rfl (by decide +kernel) (by omega) (by omega) (by decide +kernel) wk_5_31 wn_6 wz_6 (by decide +kernel) ?_
  refine jc_dup g (pc := 112) (n := 19) (t := 58) (by decide +kernel) rfl ?_
  refine jc_callN g (pc := 113) (n := 19) (t := 58) (As := []) cz_114 wm_5_53 cb_6 (by omega) (by omega) (by omega) rfl (by decide +kernel) (by decide +kernel) (by decide) (by decide +kernel) ?_
  refine jc_aastW g (pc := 116) (n := 19) (t := 66) (i := 5) (N := 6) (i2 := 18) (by decide +kernel) (by omega) (by decide +kernel) (by omega) (by decide +kernel) (by rw [vin_iff]; decide +kernel) (by decide +kernel) ?_
  refine jc_iinc g (pc := 117) (n := 19) (t := 67) (i := 1) (z := 1) (1) (by decide +kernel) rfl (by decide) rfl ?_
  dsimp only [stL, clL, hdL]
  refine jc_goto g (pc := 120) (n := 19) (t := 67) (off := -22) (tgt := 98) (by decide +kernel) (by decide) ?_
  refine jc_iload_n g (pc := 98) (n := 19) (t := 67) (i := 1) (by decide +kernel) rfl ?_
  refine jc_bipush g (pc := 99) (n := 19) (t := 67) (x := 6) (6) (by decide +kernel) (by decide +kernel) ?_
  refine jc_ge_f g (pc := 101) (n := 19) (t := 67) (off := 22) (tgt := 123) (by decide +kernel) (by decide) (by decide) ?_
  refine jc_aload_n g (pc := 104) (n := 19) (t := 67) (i := 0) (by decide +kernel) rfl ?_
  refine jc_get g (pc := 105) (n := 19) (t := 67) (i := 2) (b := 103) f5_33 (by decide +kernel) (by omega) (by decide +kernel) (by decide +kernel) ?_
  refine jc_iload_n g (pc := 108) (n := 19) (t := 67) (i := 1) (by decide +kernel) rfl ?_
  refine jc_new g (pc := 109) (n := 19) (t := 67) (ci := 6) (a := 115) rfl (by decide +kernel) (by omega) (by omega) (by decide +kernel) wk_5_31 wn_6 wz_6 (by decide +kernel) ?_
  refine jc_dup g (pc := 112) (n := 20) (t := 67) (by decide +kernel) rfl ?_
  refine jc_callN g (pc := 113) (n := 20) (t := 67) (As := []) cz_115 wm_5_53 cb_6 (by omega) (by omega) (by omega) rfl (by decide +kernel) (by decide +kernel) (by decide) (by decide +kernel) ?_
  refine jc_aastW g (pc := 116) (n := 20) (t := 75) (i := 5) (N := 6) (i2 := 19) (by decide +kernel) (by omega) (by decide +kernel) (by omega) (by decide +kernel) (by rw [vin_iff]; decide +kernel) (by decide +kernel) ?_
  refine jc_iinc g (pc := 117) (n := 20) (t := 76) (i := 1) (z := 1) (1) (by decide +kernel) rfl (by decide) rfl ?_
  dsimp only [stL, clL, hdL]
  refine jc_goto g (pc := 120) (n := 20) (t := 76) (off := -22) (tgt := 98) (by decide +kernel) (by decide) ?_
  refine jc_iload_n g (pc := 98) (n := 20) (t := 76) (i := 1) (by decide +kernel) rfl ?_
  refine jc_bipush g (pc := 99) (n := 20) (t := 76) (x := 6) (6) (by decide +kernel) (by decide +kernel) ?_
  refine jc_ge_t g (pc := 101) (n := 20) (t := 76) (off := 22) (tgt := 123) (by decide +kernel) (by decide) (by decide) ?_
  exact ret _ _ (by decide +kernel)
