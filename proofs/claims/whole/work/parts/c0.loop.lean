/-! the law: its loop -/
section C0
variable {Ln : Nat} {xs : Nat → Int32} {J : Nat → Lc → List Value → Mm → Prop}
theorem dsw : decode code 33 = .ok (.tableswitch 1450 0 42 #[187, 250, 263, 296, 329, 404, 447, 480, 513, 556, 589, 602, 625, 648, 661, 684, 697, 720, 753, 776, 789, 802, 836, 870, 893, 926, 959, 982, 1005, 1018, 1051, 1094, 1107, 1130, 1173, 1216, 1259, 1302, 1335, 1378, 1401, 1424, 1437], 187) := by decide +kernel
theorem law_case (gs : GoodS code 4 31 Ln xs J) {i x : Int32} {n : Nat} {M : Mm} (hn : n < 64) (hR : Rel M n) (h1 : vp_in (i + 1) Ln) (h2 : vp_in (i + 2) Ln) (h3 : vp_in (i + 3) Ln) (h4 : vp_in (i + 4) Ln) (h5 : vp_in (i + 5) Ln) (h6 : vp_in (i + 6) Ln) (k : ∀ M', Rel M' (n + 1) → J 1483 [some (.ref 900), some (.ref 1), some (.ref 600), some (.int i)] [] M') : J 33 [some (.ref 900), some (.ref 1), some (.ref 600), some (.int i)] [.int x] M := by
  have g := gs.g
  by_cases hx : x.toInt < 0 ∨ 42 < x.toInt
  · exact j_tableOut g (tgt := 1483) dsw hx (by decide) (k M (hR.up (by omega)))
  · obtain ⟨j, hj⟩ : ∃ j : Nat, x.toInt = (j : Int) := ⟨x.toInt.toNat, by omega⟩
    have hl : ¬ x.toInt < 0 := fun u => hx (Or.inl u)
    have hu : ¬ (42 : Int) < x.toInt := fun u => hx (Or.inr u)
    have hc : j = 0 ∨ j = 1 ∨ j = 2 ∨ j = 3 ∨ j = 4 ∨ j = 5 ∨ j = 6 ∨ j = 7 ∨ j = 8 ∨ j = 9 ∨ j = 10 ∨ j = 11 ∨ j = 12 ∨ j = 13 ∨ j = 14 ∨ j = 15 ∨ j = 16 ∨ j = 17 ∨ j = 18 ∨ j = 19 ∨ j = 20 ∨ j = 21 ∨ j = 22 ∨ j = 23 ∨ j = 24 ∨ j = 25 ∨ j = 26 ∨ j = 27 ∨ j = 28 ∨ j = 29 ∨ j = 30 ∨ j = 31 ∨ j = 32 ∨ j = 33 ∨ j = 34 ∨ j = 35 ∨ j = 36 ∨ j = 37 ∨ j = 38 ∨ j = 39 ∨ j = 40 ∨ j = 41 ∨ j = 42 := by omega
    rcases hc with rfl | rfl | rfl | rfl | rfl | rfl | rfl | rfl | rfl | rfl | rfl | rfl | rfl | rfl | rfl | rfl | rfl | rfl | rfl | rfl | rfl | rfl | rfl | rfl | rfl | rfl | rfl | rfl | rfl | rfl | rfl | rfl | rfl | rfl | rfl | rfl | rfl | rfl | rfl | rfl | rfl | rfl | rfl
    · have q := pair_feed hR hn (((((xs (Int32.toNatClampNeg (i + 1))).toInt64 <<< (Int32.toInt64 32 &&& 63)) ||| ((xs (Int32.toNatClampNeg (i + 2))).toInt64 &&& 4294967295)))) ((xs (Int32.toNatClampNeg (i + 3))))
      refine j_tableIn g (tgt := 220) (off := 187) dsw hl hu (by rw [hj]; rfl) (by decide) ?_
      exact lc_0 gs h1 h2 h3 (rnX7_feed (d := 29) q.1) (rnX8_feed (d := 29) q.2.1) q.2.2.1 (k _ q.2.2.2)
    · have q := pair_town hR hn 
      refine j_tableIn g (tgt := 283) (off := 250) dsw hl hu (by rw [hj]; rfl) (by decide) ?_
      exact lc_1 gs  (rnX7_town (d := 21) q.1) (rnX8_town (d := 24) q.2.1) q.2.2.1 (k _ q.2.2.2)
    · have q := pair_mover hR hn ((xs (Int32.toNatClampNeg (i + 1)))) ((xs (Int32.toNatClampNeg (i + 2))))
      refine j_tableIn g (tgt := 296) (off := 263) dsw hl hu (by rw [hj]; rfl) (by decide) ?_
      exact lc_2 gs h1 h2 (rnX7_mover (d := 29) q.1) (rnX8_mover (d := 28) q.2.1) q.2.2.1 (k _ q.2.2.2)
    · have q := pair_thing hR hn ((xs (Int32.toNatClampNeg (i + 1)))) ((xs (Int32.toNatClampNeg (i + 2))))
      refine j_tableIn g (tgt := 329) (off := 296) dsw hl hu (by rw [hj]; rfl) (by decide) ?_
      exact lc_3 gs h1 h2 (rnX7_thing (d := 29) q.1) (rnX8_thing (d := 28) q.2.1) q.2.2.1 (k _ q.2.2.2)
    · have q := pair_work hR hn ((xs (Int32.toNatClampNeg (i + 1)))) ((xs (Int32.toNatClampNeg (i + 2)))) ((xs (Int32.toNatClampNeg (i + 3)))) ((xs (Int32.toNatClampNeg (i + 4)))) ((xs (Int32.toNatClampNeg (i + 5)))) ((xs (Int32.toNatClampNeg (i + 6))))
      refine j_tableIn g (tgt := 362) (off := 329) dsw hl hu (by rw [hj]; rfl) (by decide) ?_
      exact lc_4 gs h1 h2 h3 h4 h5 h6 (rnX7_work (d := 29) q.1) (rnX8_work (d := 28) q.2.1) q.2.2.1 (k _ q.2.2.2)
    · have q := pair_behind hR hn ((xs (Int32.toNatClampNeg (i + 1)))) ((xs (Int32.toNatClampNeg (i + 2)))) ((xs (Int32.toNatClampNeg (i + 3))))
      refine j_tableIn g (tgt := 437) (off := 404) dsw hl hu (by rw [hj]; rfl) (by decide) ?_
      exact lc_5 gs h1 h2 h3 (rnX7_behind (d := 29) q.1) (rnX8_behind (d := 28) q.2.1) q.2.2.1 (k _ q.2.2.2)
    · have q := pair_workOf hR hn ((xs (Int32.toNatClampNeg (i + 1)))) ((xs (Int32.toNatClampNeg (i + 2))))
      refine j_tableIn g (tgt := 480) (off := 447) dsw hl hu (by rw [hj]; rfl) (by decide) ?_
      exact lc_6 gs h1 h2 (rnX7_workOf (d := 29) q.1) (rnX8_workOf (d := 28) q.2.1) q.2.2.1 (k _ q.2.2.2)
    · have q := pair_at hR hn ((xs (Int32.toNatClampNeg (i + 1)))) ((xs (Int32.toNatClampNeg (i + 2))))
      refine j_tableIn g (tgt := 513) (off := 480) dsw hl hu (by rw [hj]; rfl) (by decide) ?_
      exact lc_7 gs h1 h2 (rnX7_at (d := 29) q.1) (rnX8_at (d := 28) q.2.1) q.2.2.1 (k _ q.2.2.2)
    · have q := pair_put hR hn ((xs (Int32.toNatClampNeg (i + 1)))) ((xs (Int32.toNatClampNeg (i + 2)))) ((xs (Int32.toNatClampNeg (i + 3))))
      refine j_tableIn g (tgt := 546) (off := 513) dsw hl hu (by rw [hj]; rfl) (by decide) ?_
      exact lc_8 gs h1 h2 h3 (rnX7_put (d := 29) q.1) (rnX8_put (d := 28) q.2.1) q.2.2.1 (k _ q.2.2.2)
    · have q := pair_set hR hn ((xs (Int32.toNatClampNeg (i + 1)))) ((xs (Int32.toNatClampNeg (i + 2))))
      refine j_tableIn g (tgt := 589) (off := 556) dsw hl hu (by rw [hj]; rfl) (by decide) ?_
      exact lc_9 gs h1 h2 (rnX7_set (d := 29) q.1) (rnX8_set (d := 29) q.2.1) q.2.2.1 (k _ q.2.2.2)
    · have q := pair_minute hR hn 
      refine j_tableIn g (tgt := 622) (off := 589) dsw hl hu (by rw [hj]; rfl) (by decide) ?_
      exact lc_10 gs  (rnX7_minute (d := 30)) (rnX8_minute (d := 30)) q.2.2.1 (k _ q.2.2.2)
    · have q := pair_pass hR hn ((xs (Int32.toNatClampNeg (i + 1))))
      refine j_tableIn g (tgt := 635) (off := 602) dsw hl hu (by rw [hj]; rfl) (by decide) ?_
      exact lc_11 gs h1 (rnX7_pass (d := 29)) (rnX8_pass (d := 29)) q.2.2.1 (k _ q.2.2.2)
    · have q := pair_minutes hR hn ((xs (Int32.toNatClampNeg (i + 1))))
      refine j_tableIn g (tgt := 658) (off := 625) dsw hl hu (by rw [hj]; rfl) (by decide) ?_
      exact lc_12 gs h1 (rnX7_minutes (d := 28) q.1) (rnX8_minutes (d := 25) q.2.1) q.2.2.1 (k _ q.2.2.2)
    · have q := pair_may hR hn 
      refine j_tableIn g (tgt := 681) (off := 648) dsw hl hu (by rw [hj]; rfl) (by decide) ?_
      exact lc_13 gs  (rnX7_may (d := 26) q.1) (rnX8_may (d := 27) q.2.1) q.2.2.1 (k _ q.2.2.2)
    · have q := pair_does hR hn ((xs (Int32.toNatClampNeg (i + 1))))
      refine j_tableIn g (tgt := 694) (off := 661) dsw hl hu (by rw [hj]; rfl) (by decide) ?_
      exact lc_14 gs h1 (rnX7_does (d := 27) q.1) (rnX8_does (d := 24) q.2.1) q.2.2.1 (k _ q.2.2.2)
    · have q := pair_had hR hn 
      refine j_tableIn g (tgt := 717) (off := 684) dsw hl hu (by rw [hj]; rfl) (by decide) ?_
      exact lc_15 gs  (rnX7_had (d := 30)) (rnX8_had (d := 30)) q.2.2.1 (k _ q.2.2.2)
    · have q := pair_worth hR hn ((xs (Int32.toNatClampNeg (i + 1))))
      refine j_tableIn g (tgt := 730) (off := 697) dsw hl hu (by rw [hj]; rfl) (by decide) ?_
      exact lc_16 gs h1 (rnX7_worth (d := 26) q.1) (rnX8_worth (d := 23) q.2.1) q.2.2.1 (k _ q.2.2.2)
    · have q := pair_ends hR hn ((xs (Int32.toNatClampNeg (i + 1)))) ((xs (Int32.toNatClampNeg (i + 2))))
      refine j_tableIn g (tgt := 753) (off := 720) dsw hl hu (by rw [hj]; rfl) (by decide) ?_
      exact lc_17 gs h1 h2 (rnX7_ends (d := 26) q.1) (rnX8_ends (d := 23) q.2.1) q.2.2.1 (k _ q.2.2.2)
    · have q := pair_best hR hn ((xs (Int32.toNatClampNeg (i + 1))))
      refine j_tableIn g (tgt := 786) (off := 753) dsw hl hu (by rw [hj]; rfl) (by decide) ?_
      exact lc_18 gs h1 (rnX7_best (d := 18) q.1) (rnX8_best (d := 22) q.2.1) q.2.2.1 (k _ q.2.2.2)
    · have q := pair_fewest hR hn 
      refine j_tableIn g (tgt := 809) (off := 776) dsw hl hu (by rw [hj]; rfl) (by decide) ?_
      exact lc_19 gs  (rnX7_fewest (d := 18) q.1) (rnX8_fewest (d := 22) q.2.1) q.2.2.1 (k _ q.2.2.2)
    · have q := pair_shortest hR hn 
      refine j_tableIn g (tgt := 822) (off := 789) dsw hl hu (by rw [hj]; rfl) (by decide) ?_
      exact lc_20 gs  (rnX7_shortest (d := 18) q.1) (rnX8_shortest (d := 22) q.2.1) q.2.2.1 (k _ q.2.2.2)
    · have q := pair_mean hR hn ((xs (Int32.toNatClampNeg (i + 1)))) ((xs (Int32.toNatClampNeg (i + 2))))
      refine j_tableIn g (tgt := 835) (off := 802) dsw hl hu (by rw [hj]; rfl) (by decide) ?_
      exact lc_21 gs h1 h2 (rnX7_mean (d := 24) q.1) (rnX8_mean (d := 22) q.2.1) q.2.2.1 (k _ q.2.2.2)
    · have q := pair_sure hR hn ((xs (Int32.toNatClampNeg (i + 1)))) ((xs (Int32.toNatClampNeg (i + 2))))
      refine j_tableIn g (tgt := 869) (off := 836) dsw hl hu (by rw [hj]; rfl) (by decide) ?_
      exact lc_22 gs h1 h2 (rnX7_sure (d := 24) q.1) (rnX8_sure (d := 22) q.2.1) q.2.2.1 (k _ q.2.2.2)
    · have q := pair_bell hR hn ((xs (Int32.toNatClampNeg (i + 1))))
      refine j_tableIn g (tgt := 903) (off := 870) dsw hl hu (by rw [hj]; rfl) (by decide) ?_
      exact lc_23 gs h1 (rnX7_bell (d := 26) q.1) (rnX8_bell (d := 25) q.2.1) q.2.2.1 (k _ q.2.2.2)
    · have q := pair_rule hR hn ((xs (Int32.toNatClampNeg (i + 1)))) ((xs (Int32.toNatClampNeg (i + 2))))
      refine j_tableIn g (tgt := 926) (off := 893) dsw hl hu (by rw [hj]; rfl) (by decide) ?_
      exact lc_24 gs h1 h2 (rnX7_rule (d := 29) q.1) (rnX8_rule (d := 29) q.2.1) q.2.2.1 (k _ q.2.2.2)
    · have q := pair_ruleOf hR hn ((xs (Int32.toNatClampNeg (i + 1)))) ((xs (Int32.toNatClampNeg (i + 2))))
      refine j_tableIn g (tgt := 959) (off := 926) dsw hl hu (by rw [hj]; rfl) (by decide) ?_
      exact lc_25 gs h1 h2 (rnX7_ruleOf (d := 29) q.1) (rnX8_ruleOf (d := 28) q.2.1) q.2.2.1 (k _ q.2.2.2)
    · have q := pair_takes hR hn ((xs (Int32.toNatClampNeg (i + 1))))
      refine j_tableIn g (tgt := 992) (off := 959) dsw hl hu (by rw [hj]; rfl) (by decide) ?_
      exact lc_26 gs h1 (rnX7_takes (d := 25) q.1) (rnX8_takes (d := 23) q.2.1) q.2.2.1 (k _ q.2.2.2)
    · have q := pair_orderOf hR hn ((xs (Int32.toNatClampNeg (i + 1))))
      refine j_tableIn g (tgt := 1015) (off := 982) dsw hl hu (by rw [hj]; rfl) (by decide) ?_
      exact lc_27 gs h1 (rnX7_orderOf (d := 24) q.1) (rnX8_orderOf (d := 23) q.2.1) q.2.2.1 (k _ q.2.2.2)
    · have q := pair_prove hR hn 
      refine j_tableIn g (tgt := 1038) (off := 1005) dsw hl hu (by rw [hj]; rfl) (by decide) ?_
      exact lc_28 gs  (rnX7_prove (d := 18) q.1) (rnX8_prove (d := 22) q.2.1) q.2.2.1 (k _ q.2.2.2)
    · have q := pair_row hR hn ((xs (Int32.toNatClampNeg (i + 1)))) ((xs (Int32.toNatClampNeg (i + 2))))
      refine j_tableIn g (tgt := 1051) (off := 1018) dsw hl hu (by rw [hj]; rfl) (by decide) ?_
      exact lc_29 gs h1 h2 (rnX7_row (d := 28) q.1) (rnX8_row (d := 28) q.2.1) q.2.2.1 (k _ q.2.2.2)
    · have q := pair_alterRow hR hn ((xs (Int32.toNatClampNeg (i + 1)))) ((xs (Int32.toNatClampNeg (i + 2)))) ((xs (Int32.toNatClampNeg (i + 3))))
      refine j_tableIn g (tgt := 1084) (off := 1051) dsw hl hu (by rw [hj]; rfl) (by decide) ?_
      exact lc_30 gs h1 h2 h3 (rnX7_alterRow (d := 28) q.1) (rnX8_alterRow (d := 28) q.2.1) q.2.2.1 (k _ q.2.2.2)
    · have q := pair_judge hR hn 
      refine j_tableIn g (tgt := 1127) (off := 1094) dsw hl hu (by rw [hj]; rfl) (by decide) ?_
      exact lc_31 gs  (rnX7_judge (d := 26) q.1) (rnX8_judge (d := 23) q.2.1) q.2.2.1 (k _ q.2.2.2)
    · have q := pair_dues hR hn ((xs (Int32.toNatClampNeg (i + 1))))
      refine j_tableIn g (tgt := 1140) (off := 1107) dsw hl hu (by rw [hj]; rfl) (by decide) ?_
      exact lc_32 gs h1 (rnX7_dues (d := 28) q.1) (rnX8_dues (d := 28) q.2.1) q.2.2.1 (k _ q.2.2.2)
    · have q := pair_sheet hR hn ((xs (Int32.toNatClampNeg (i + 1)))) ((xs (Int32.toNatClampNeg (i + 2)))) ((xs (Int32.toNatClampNeg (i + 3))))
      refine j_tableIn g (tgt := 1163) (off := 1130) dsw hl hu (by rw [hj]; rfl) (by decide) ?_
      exact lc_33 gs h1 h2 h3 (rnX7_sheet (d := 29) q.1) (rnX8_sheet (d := 28) q.2.1) q.2.2.1 (k _ q.2.2.2)
    · have q := pair_write hR hn ((xs (Int32.toNatClampNeg (i + 1)))) ((xs (Int32.toNatClampNeg (i + 2)))) ((xs (Int32.toNatClampNeg (i + 3))))
      refine j_tableIn g (tgt := 1206) (off := 1173) dsw hl hu (by rw [hj]; rfl) (by decide) ?_
      exact lc_34 gs h1 h2 h3 (rnX7_write (d := 29) q.1) (rnX8_write (d := 28) q.2.1) q.2.2.1 (k _ q.2.2.2)
    · have q := pair_item hR hn ((xs (Int32.toNatClampNeg (i + 1)))) ((xs (Int32.toNatClampNeg (i + 2)))) ((xs (Int32.toNatClampNeg (i + 3))))
      refine j_tableIn g (tgt := 1249) (off := 1216) dsw hl hu (by rw [hj]; rfl) (by decide) ?_
      exact lc_35 gs h1 h2 h3 (rnX7_item (d := 28) q.1) (rnX8_item (d := 28) q.2.1) q.2.2.1 (k _ q.2.2.2)
    · have q := pair_shelf hR hn ((xs (Int32.toNatClampNeg (i + 1)))) ((xs (Int32.toNatClampNeg (i + 2)))) ((xs (Int32.toNatClampNeg (i + 3))))
      refine j_tableIn g (tgt := 1292) (off := 1259) dsw hl hu (by rw [hj]; rfl) (by decide) ?_
      exact lc_36 gs h1 h2 h3 (rnX7_shelf (d := 29) q.1) (rnX8_shelf (d := 27) q.2.1) q.2.2.1 (k _ q.2.2.2)
    · have q := pair_taken hR hn ((xs (Int32.toNatClampNeg (i + 1)))) ((xs (Int32.toNatClampNeg (i + 2))))
      refine j_tableIn g (tgt := 1335) (off := 1302) dsw hl hu (by rw [hj]; rfl) (by decide) ?_
      exact lc_37 gs h1 h2 (rnX7_taken (d := 28) q.1) (rnX8_taken (d := 27) q.2.1) q.2.2.1 (k _ q.2.2.2)
    · have q := pair_act hR hn ((xs (Int32.toNatClampNeg (i + 1)))) ((xs (Int32.toNatClampNeg (i + 2)))) ((xs (Int32.toNatClampNeg (i + 3))))
      refine j_tableIn g (tgt := 1368) (off := 1335) dsw hl hu (by rw [hj]; rfl) (by decide) ?_
      exact lc_38 gs h1 h2 h3 (rnX7_act (d := 20) q.1) (rnX8_act (d := 22) q.2.1) q.2.2.1 (k _ q.2.2.2)
    · have q := pair_trace hR hn ((xs (Int32.toNatClampNeg (i + 1))))
      refine j_tableIn g (tgt := 1411) (off := 1378) dsw hl hu (by rw [hj]; rfl) (by decide) ?_
      exact lc_39 gs h1 (rnX7_trace (d := 29) q.1) (rnX8_trace (d := 29) q.2.1) q.2.2.1 (k _ q.2.2.2)
    · have q := pair_many hR hn ((xs (Int32.toNatClampNeg (i + 1))))
      refine j_tableIn g (tgt := 1434) (off := 1401) dsw hl hu (by rw [hj]; rfl) (by decide) ?_
      exact lc_40 gs h1 (rnX7_many (d := 27) q.1) (rnX8_many (d := 28) q.2.1) q.2.2.1 (k _ q.2.2.2)
    · have q := pair_keep hR hn 
      refine j_tableIn g (tgt := 1457) (off := 1424) dsw hl hu (by rw [hj]; rfl) (by decide) ?_
      exact lc_41 gs  (rnX7_keep (d := 26) q.1) (rnX8_keep (d := 28) q.2.1) q.2.2.1 (k _ q.2.2.2)
    · have q := pair_again hR hn 
      refine j_tableIn g (tgt := 1470) (off := 1437) dsw hl hu (by rw [hj]; rfl) (by decide) ?_
      exact lc_42 gs  (rnX7_again (d := 26) q.1) (rnX8_again (d := 28) q.2.1) q.2.2.1 (k _ q.2.2.2)
theorem law_loop (gs : GoodS code 4 31 Ln xs J) (hL : Ln ≤ 448) (ret : ∀ (pc : Nat) (L : Lc) (M : Mm), decode code pc = .ok (.ireturn, 1) → J pc L [.int 1] M) : ∀ (f n : Nat) (M : Mm), n + f = 64 → Rel M n → J 18 [some (.ref 900), some (.ref 1), some (.ref 600), some (.int (iI ((7 * n : Nat) : Int)))] [] M := by
  have g := gs.g
  have hd : ∀ (n : Nat) (M : Mm), n ≤ 64 → (7 * n + 7 ≤ Ln → J 27 [some (.ref 900), some (.ref 1), some (.ref 600), some (.int (iI ((7 * n : Nat) : Int)))] [] M) → J 18 [some (.ref 900), some (.ref 1), some (.ref 600), some (.int (iI ((7 * n : Nat) : Int)))] [] M := by
    intro n M hn k
    refine j_iload_n g (pc := 18) (i := 3) (by decide +kernel) rfl ?_
    refine j_aload_n g (pc := 19) (i := 0) (by decide +kernel) rfl ?_
    refine j_slen gs (pc := 20) (by decide +kernel) ?_
    refine j_bipush g (pc := 21) (n := 7) (7) (by decide +kernel) (by decide +kernel) ?_
    refine j_isub g (pc := 23) (by decide +kernel) ?_
    refine j_icmp_gt g (pc := 24) (off := 1465) (tgt := 1489) (by decide +kernel) (by decide) (fun _ => ?_) (fun h => ?_)
    · refine j_iconst g (pc := 1489) (n := 1) (1) (by decide +kernel) rfl ?_
      exact ret _ _ _ (by decide +kernel)
    · refine k ?_
      rw [iI_ofNat, cl7, iI_sub, iI_lt (by omega) (by omega) (by omega) (by omega)] at h
      omega
  intro f
  induction f with
  | zero =>
    intro n M hf hR
    exact hd n M (by omega) (fun u => absurd u (by omega))
  | succ f ih =>
    intro n M hf hR
    refine hd n M (by omega) (fun u => ?_)
    have vj : ∀ j : Int, 0 ≤ j → j ≤ 6 → vp_in (iI ((7 * n : Nat) : Int) + iI j) Ln := fun j a b => by
      rw [iI_add]
      exact vin_iI (by omega) (by omega) (by omega)
    have v0 : vp_in (iI ((7 * n : Nat) : Int)) Ln := vin_iI (by omega) (by omega) (by omega)
    refine j_aload_n g (pc := 27) (i := 0) (by decide +kernel) rfl ?_
    refine j_iload_n g (pc := 28) (i := 3) (by decide +kernel) rfl ?_
    refine j_sld gs (pc := 29) v0 (by decide +kernel) ?_
    refine j_bipush g (pc := 30) (n := 63) (63) (by decide +kernel) (by decide +kernel) ?_
    refine j_iand g (pc := 32) (by decide +kernel) ?_
    refine law_case gs (n := n) (by omega) hR (vj 1 (by omega) (by omega)) (vj 2 (by omega) (by omega)) (vj 3 (by omega) (by omega)) (vj 4 (by omega) (by omega)) (vj 5 (by omega) (by omega)) (vj 6 (by omega) (by omega)) (fun M' hR' => ?_)
    refine j_iinc g (pc := 1483) (i := 3) (n := 7) (7) (by decide +kernel) rfl (by decide) rfl ?_
    dsimp only [stL, clL, hdL]
    refine j_goto g (pc := 1486) (off := -1468) (tgt := 18) (by decide +kernel) (by decide) ?_
    have e7 : iI ((7 * n : Nat) : Int) + 7 = iI ((7 * (n + 1) : Nat) : Int) := by
      rw [cl7, iI_add]
      congr 1
    rw [e7]
    exact ih (n + 1) M' (by omega) hR'
end C0
