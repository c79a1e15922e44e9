noncomputable def r_X8_ends_41 (M : Mm) (a1 : Int32) (a2 : Int32) (x3 : Int32) : Int32 := if ¬ (M.1 607 (Int32.toNatClampNeg (((M.1 600 10) + 9) + a2))) = (2 : Int32) then M.1 607 (Int32.toNatClampNeg (((M.1 600 10) + 15) + a2)) else (-9)
noncomputable def w_X8_ends_41 (M : Mm) (a1 : Int32) (a2 : Int32) (x3 : Int32) : Mm := (wi M 600 10 0)
def p_X8_ends_41 (M : Mm) (a1 : Int32) (a2 : Int32) (x3 : Int32) : Prop := (vp_in (((M.1 600 10) + 9) + a2) 44) ∧ (if ¬ (M.1 607 (Int32.toNatClampNeg (((M.1 600 10) + 9) + a2))) = (2 : Int32) then (vp_in (((M.1 600 10) + 15) + a2) 44) ∧ True else True)
theorem jn_X8_ends_41 {d : Nat} {J : Nat → Lc → List Value → Mm → Prop} {M : Mm} {a1 : Int32} {a2 : Int32} {x3 : Int32}  (g : Good mX8_ends.1 mX8_ends.2.2.1 mX8_ends.2.2.2.1 (d + 7) J) {rv : Option Value} {M1 : Mm} (hr : Ret mX8_ends.2.2.1 mX8_ends.2.2.2.2 rv M1 J) (hp : p_X8_ends_41 M a1 a2 x3) (hrv : rv = some (.int (r_X8_ends_41 M a1 a2 x3))) (hmm : M1 = w_X8_ends_41 M a1 a2 x3) : J 41 [some (.ref 600), some (.int a1), some (.int a2), some (.int x3), none] [] M := by
  unfold p_X8_ends_41 at hp
  refine j_aload_n g (i := 0) (by decide +kernel) rfl ?_
  refine j_gA g (b := 607) f8_28 (by decide +kernel) (by decide +kernel) (by decide +kernel) (by decide +kernel) ?_
  refine j_aload_n g (i := 0) (by decide +kernel) rfl ?_
  refine j_gI g f8_240 (by decide +kernel) (by decide +kernel) (by decide +kernel) ?_
  refine j_bipush g (n := 9) (9) (by decide +kernel) (by decide +kernel) ?_
  refine j_iadd g (by decide +kernel) ?_
  refine j_iload_n g (i := 2) (by decide +kernel) rfl ?_
  refine j_iadd g (by decide +kernel) ?_
  obtain ⟨h0, hp⟩ := hp
  refine j_ia g 44 (by decide +kernel) (by decide +kernel) (by decide +kernel) h0 ?_
  refine j_iconst g (n := 2) (2) (by decide +kernel) rfl ?_
  refine j_icmp_ne g (off := 8) (tgt := 64) (by decide +kernel) (by decide) (fun c56 => ?_) (fun c56 => ?_)
  · rw [if_pos (show ¬ (M.1 607 (Int32.toNatClampNeg (((M.1 600 10) + 9) + a2))) = (2 : Int32) from c56)] at hp
    refine j_aload_n g (i := 0) (by decide +kernel) rfl ?_
    refine j_gA g (b := 607) f8_28 (by decide +kernel) (by decide +kernel) (by decide +kernel) (by decide +kernel) ?_
    refine j_aload_n g (i := 0) (by decide +kernel) rfl ?_
    refine j_gI g f8_240 (by decide +kernel) (by decide +kernel) (by decide +kernel) ?_
    refine j_bipush g (n := 15) (15) (by decide +kernel) (by decide +kernel) ?_
    refine j_iadd g (by decide +kernel) ?_
    refine j_iload_n g (i := 2) (by decide +kernel) rfl ?_
    refine j_iadd g (by decide +kernel) ?_
    obtain ⟨h0, hp⟩ := hp
    refine j_ia g 44 (by decide +kernel) (by decide +kernel) (by decide +kernel) h0 ?_
    refine j_istore g (i := 4) (by decide +kernel) (by decide) ?_
    dsimp only [stL, clL, hdL]
    refine j_aload_n g (i := 0) (by decide +kernel) rfl ?_
    refine j_iconst g (n := 0) (0) (by decide +kernel) rfl ?_
    refine j_pI g f8_240 (fun q h => by cases h; rfl) (by decide +kernel) (by decide +kernel) (by decide +kernel) ?_
    refine j_iload g (i := 4) (by decide +kernel) rfl ?_
    refine hr.1 _ _ _ _ (by decide +kernel) ⟨_, rfl, by first | rfl | exact b2i_nar | decide +kernel⟩ ?_ ?_
    · rw [hrv]; unfold r_X8_ends_41; first | (simp only [if_pos (show ¬ (M.1 607 (Int32.toNatClampNeg (((M.1 600 10) + 9) + a2))) = (2 : Int32) from c56)]; done) | (simp only [if_pos (show ¬ (M.1 607 (Int32.toNatClampNeg (((M.1 600 10) + 9) + a2))) = (2 : Int32) from c56)]; rfl) | rfl
    · rw [hmm]; unfold w_X8_ends_41; first | (simp only [if_pos (show ¬ (M.1 607 (Int32.toNatClampNeg (((M.1 600 10) + 9) + a2))) = (2 : Int32) from c56)]; done) | (simp only [if_pos (show ¬ (M.1 607 (Int32.toNatClampNeg (((M.1 600 10) + 9) + a2))) = (2 : Int32) from c56)]; rfl) | rfl
  · rw [if_neg (show ¬ (¬ (M.1 607 (Int32.toNatClampNeg (((M.1 600 10) + 9) + a2))) = (2 : Int32)) from c56)] at hp
    refine j_bipush g (n := -9) (-9) (by decide +kernel) (by decide +kernel) ?_
    refine j_goto g (off := 17) (tgt := 78) (by decide +kernel) (by decide) ?_
    refine j_istore g (i := 4) (by decide +kernel) (by decide) ?_
    dsimp only [stL, clL, hdL]
    refine j_aload_n g (i := 0) (by decide +kernel) rfl ?_
    refine j_iconst g (n := 0) (0) (by decide +kernel) rfl ?_
    refine j_pI g f8_240 (fun q h => by cases h; rfl) (by decide +kernel) (by decide +kernel) (by decide +kernel) ?_
    refine j_iload g (i := 4) (by decide +kernel) rfl ?_
    refine hr.1 _ _ _ _ (by decide +kernel) ⟨_, rfl, by first | rfl | exact b2i_nar | decide +kernel⟩ ?_ ?_
    · rw [hrv]; unfold r_X8_ends_41; first | (simp only [if_neg (show ¬ (¬ (M.1 607 (Int32.toNatClampNeg (((M.1 600 10) + 9) + a2))) = (2 : Int32)) from c56)]; done) | (simp only [if_neg (show ¬ (¬ (M.1 607 (Int32.toNatClampNeg (((M.1 600 10) + 9) + a2))) = (2 : Int32)) from c56)]; rfl) | rfl
    · rw [hmm]; unfold w_X8_ends_41; first | (simp only [if_neg (show ¬ (¬ (M.1 607 (Int32.toNatClampNeg (((M.1 600 10) + 9) + a2))) = (2 : Int32)) from c56)]; done) | (simp only [if_neg (show ¬ (¬ (M.1 607 (Int32.toNatClampNeg (((M.1 600 10) + 9) + a2))) = (2 : Int32)) from c56)]; rfl) | rfl
noncomputable def r_X8_ends (M : Mm) (a1 : Int32) (a2 : Int32) : Int32 := if (b2i (0 ≤ a2 ∧ a2 ≤ M.1 600 2 - 1)) = 0 then (-1) else if (b2i (M.1 607 (Int32.toNatClampNeg (M.1 600 10 + 9 + a2)) = 0)) = 0 then (-1) else if (r_X8_takesOrder M a1) = 0 then r_X8_ends_41 (w_X8_goesThrough (w_X8_takesOrder M a1) (r_X8_openMany (w_X8_takesOrder M a1)) (0 : Int32)) a1 a2 (r_X8_takesOrder M a1) else r_X8_takesOrder M a1
noncomputable def w_X8_ends (M : Mm) (a1 : Int32) (a2 : Int32) : Mm := if (b2i (0 ≤ a2 ∧ a2 ≤ M.1 600 2 - 1)) = 0 then M else if (b2i (M.1 607 (Int32.toNatClampNeg (M.1 600 10 + 9 + a2)) = 0)) = 0 then M else if (r_X8_takesOrder M a1) = 0 then w_X8_ends_41 (w_X8_goesThrough (w_X8_takesOrder M a1) (r_X8_openMany (w_X8_takesOrder M a1)) (0 : Int32)) a1 a2 (r_X8_takesOrder M a1) else (w_X8_takesOrder M a1)
def p_X8_ends (M : Mm) (a1 : Int32) (a2 : Int32) : Prop := (if (b2i (0 ≤ a2 ∧ a2 ≤ M.1 600 2 - 1)) = 0 then True else (vp_in (M.1 600 10 + 9 + a2) 44) ∧ (if (b2i (M.1 607 (Int32.toNatClampNeg (M.1 600 10 + 9 + a2)) = 0)) = 0 then True else (p_X8_takesOrder M a1) ∧ (if (r_X8_takesOrder M a1) = 0 then (p_X8_openMany (w_X8_takesOrder M a1) ) ∧ (p_X8_goesThrough (w_X8_takesOrder M a1) (r_X8_openMany (w_X8_takesOrder M a1)) (0 : Int32)) ∧ p_X8_ends_41 (w_X8_goesThrough (w_X8_takesOrder M a1) (r_X8_openMany (w_X8_takesOrder M a1)) (0 : Int32)) a1 a2 (r_X8_takesOrder M a1) else True)))
set_option maxRecDepth 20000 in
theorem rnX8_ends {d : Nat} {M : Mm} {a1 : Int32} {a2 : Int32}  (hp : p_X8_ends M a1 a2) : Rn (d + 7) mX8_ends [.ref 600, .int a1, .int a2] M (some (.int (r_X8_ends M a1 a2))) (w_X8_ends M a1 a2) := by
  refine Rn.of [some (.ref 600), some (.int a1), some (.int a2), none, none] (by decide +kernel) rfl (Nat.le_of_ble_eq_true rfl) rfl (fun J g hr => ?_)
  unfold p_X8_ends at hp
  refine j_aload_n g (i := 0) (by decide +kernel) rfl ?_
  refine j_iload_n g (i := 2) (by decide +kernel) rfl ?_
  refine j_cV1r g v8_243 ⟨rfl, by decide⟩ (by decide +kernel) (by decide +kernel) (Nat.le_of_ble_eq_true rfl) (rnX8_isWork) ?_
  refine j_if_eq g (off := 19) (tgt := 24) (by decide +kernel) (by decide) (fun c5 => ?_) (fun c5 => ?_)
  · rw [if_pos (show (b2i (0 ≤ a2 ∧ a2 ≤ M.1 600 2 - 1)) = 0 from c5)] at hp
    refine j_iconst g (n := -1) (-1) (by decide +kernel) rfl ?_
    refine j_istore_n g (i := 3) (by decide +kernel) (by decide) ?_
    dsimp only [stL, clL, hdL]
    refine j_iload_n g (i := 3) (by decide +kernel) rfl ?_
    refine j_if_eq g (off := 5) (tgt := 32) (by decide +kernel) (by decide) (fun c => absurd c (by first | decide | (intro h; exact h rfl))) (fun _ => ?_)
    refine j_iload_n g (i := 3) (by decide +kernel) rfl ?_
    refine hr.1 _ _ _ _ (by decide +kernel) ⟨_, rfl, by first | rfl | exact b2i_nar | decide +kernel⟩ ?_ ?_
    · unfold r_X8_ends; first | (simp only [if_pos (show (b2i (0 ≤ a2 ∧ a2 ≤ M.1 600 2 - 1)) = 0 from c5)]; done) | (simp only [if_pos (show (b2i (0 ≤ a2 ∧ a2 ≤ M.1 600 2 - 1)) = 0 from c5)]; rfl) | rfl
    · unfold w_X8_ends; first | (simp only [if_pos (show (b2i (0 ≤ a2 ∧ a2 ≤ M.1 600 2 - 1)) = 0 from c5)]; done) | (simp only [if_pos (show (b2i (0 ≤ a2 ∧ a2 ≤ M.1 600 2 - 1)) = 0 from c5)]; rfl) | rfl
  · rw [if_neg (show ¬ ((b2i (0 ≤ a2 ∧ a2 ≤ M.1 600 2 - 1)) = 0) from c5)] at hp
    refine j_aload_n g (i := 0) (by decide +kernel) rfl ?_
    refine j_iload_n g (i := 2) (by decide +kernel) rfl ?_
    obtain ⟨h0, hp⟩ := hp
    refine j_cV1r g v8_246 ⟨rfl, by decide⟩ (by decide +kernel) (by decide +kernel) (Nat.le_of_ble_eq_true rfl) (rnX8_isOpen h0) ?_
    refine j_if_eq g (off := 11) (tgt := 24) (by decide +kernel) (by decide) (fun c13 => ?_) (fun c13 => ?_)
    · rw [if_pos (show (b2i (M.1 607 (Int32.toNatClampNeg (M.1 600 10 + 9 + a2)) = 0)) = 0 from c13)] at hp
      refine j_iconst g (n := -1) (-1) (by decide +kernel) rfl ?_
      refine j_istore_n g (i := 3) (by decide +kernel) (by decide) ?_
      dsimp only [stL, clL, hdL]
      refine j_iload_n g (i := 3) (by decide +kernel) rfl ?_
      refine j_if_eq g (off := 5) (tgt := 32) (by decide +kernel) (by decide) (fun c => absurd c (by first | decide | (intro h; exact h rfl))) (fun _ => ?_)
      refine j_iload_n g (i := 3) (by decide +kernel) rfl ?_
      refine hr.1 _ _ _ _ (by decide +kernel) ⟨_, rfl, by first | rfl | exact b2i_nar | decide +kernel⟩ ?_ ?_
      · unfold r_X8_ends; first | (simp only [if_neg (show ¬ ((b2i (0 ≤ a2 ∧ a2 ≤ M.1 600 2 - 1)) = 0) from c5), if_pos (show (b2i (M.1 607 (Int32.toNatClampNeg (M.1 600 10 + 9 + a2)) = 0)) = 0 from c13)]; done) | (simp only [if_neg (show ¬ ((b2i (0 ≤ a2 ∧ a2 ≤ M.1 600 2 - 1)) = 0) from c5), if_pos (show (b2i (M.1 607 (Int32.toNatClampNeg (M.1 600 10 + 9 + a2)) = 0)) = 0 from c13)]; rfl) | rfl
      · unfold w_X8_ends; first | (simp only [if_neg (show ¬ ((b2i (0 ≤ a2 ∧ a2 ≤ M.1 600 2 - 1)) = 0) from c5), if_pos (show (b2i (M.1 607 (Int32.toNatClampNeg (M.1 600 10 + 9 + a2)) = 0)) = 0 from c13)]; done) | (simp only [if_neg (show ¬ ((b2i (0 ≤ a2 ∧ a2 ≤ M.1 600 2 - 1)) = 0) from c5), if_pos (show (b2i (M.1 607 (Int32.toNatClampNeg (M.1 600 10 + 9 + a2)) = 0)) = 0 from c13)]; rfl) | rfl
    · rw [if_neg (show ¬ ((b2i (M.1 607 (Int32.toNatClampNeg (M.1 600 10 + 9 + a2)) = 0)) = 0) from c13)] at hp
      refine j_aload_n g (i := 0) (by decide +kernel) rfl ?_
      refine j_iload_n g (i := 1) (by decide +kernel) rfl ?_
      obtain ⟨h0, hp⟩ := hp
      refine j_cV1r g v8_323 ⟨rfl, by decide⟩ (by decide +kernel) (by decide +kernel) (Nat.le_of_ble_eq_true rfl) (rnX8_takesOrder h0) ?_
      refine j_goto g (off := 4) (tgt := 25) (by decide +kernel) (by decide) ?_
      refine j_istore_n g (i := 3) (by decide +kernel) (by decide) ?_
      dsimp only [stL, clL, hdL]
      refine j_iload_n g (i := 3) (by decide +kernel) rfl ?_
      refine j_if_eq g (off := 5) (tgt := 32) (by decide +kernel) (by decide) (fun c27 => ?_) (fun c27 => ?_)
      · rw [if_pos (show (r_X8_takesOrder M a1) = 0 from c27)] at hp
        refine j_aload_n g (i := 0) (by decide +kernel) rfl ?_
        refine j_aload_n g (i := 0) (by decide +kernel) rfl ?_
        obtain ⟨h0, hp⟩ := hp
        refine j_cV0r g v8_304 ⟨rfl, by decide⟩ (by decide +kernel) (by decide +kernel) (Nat.le_of_ble_eq_true rfl) (rnX8_openMany h0) ?_
        refine j_iconst g (n := 0) (0) (by decide +kernel) rfl ?_
        obtain ⟨h0, hp⟩ := hp
        refine j_cV2v g v8_326 ⟨rfl, by decide⟩ (by decide +kernel) (by decide +kernel) (Nat.le_of_ble_eq_true rfl) (rnX8_goesThrough h0) ?_
        refine jn_X8_ends_41  g hr hp ?_ ?_ 
        · unfold r_X8_ends; first | (simp only [if_neg (show ¬ ((b2i (0 ≤ a2 ∧ a2 ≤ M.1 600 2 - 1)) = 0) from c5), if_neg (show ¬ ((b2i (M.1 607 (Int32.toNatClampNeg (M.1 600 10 + 9 + a2)) = 0)) = 0) from c13), if_pos (show (r_X8_takesOrder M a1) = 0 from c27)]; done) | (simp only [if_neg (show ¬ ((b2i (0 ≤ a2 ∧ a2 ≤ M.1 600 2 - 1)) = 0) from c5), if_neg (show ¬ ((b2i (M.1 607 (Int32.toNatClampNeg (M.1 600 10 + 9 + a2)) = 0)) = 0) from c13), if_pos (show (r_X8_takesOrder M a1) = 0 from c27)]; rfl) | rfl
        · unfold w_X8_ends; first | (simp only [if_neg (show ¬ ((b2i (0 ≤ a2 ∧ a2 ≤ M.1 600 2 - 1)) = 0) from c5), if_neg (show ¬ ((b2i (M.1 607 (Int32.toNatClampNeg (M.1 600 10 + 9 + a2)) = 0)) = 0) from c13), if_pos (show (r_X8_takesOrder M a1) = 0 from c27)]; done) | (simp only [if_neg (show ¬ ((b2i (0 ≤ a2 ∧ a2 ≤ M.1 600 2 - 1)) = 0) from c5), if_neg (show ¬ ((b2i (M.1 607 (Int32.toNatClampNeg (M.1 600 10 + 9 + a2)) = 0)) = 0) from c13), if_pos (show (r_X8_takesOrder M a1) = 0 from c27)]; rfl) | rfl
      · rw [if_neg (show ¬ ((r_X8_takesOrder M a1) = 0) from c27)] at hp
        refine j_iload_n g (i := 3) (by decide +kernel) rfl ?_
        refine hr.1 _ _ _ _ (by decide +kernel) ⟨_, rfl, by first | rfl | exact b2i_nar | decide +kernel⟩ ?_ ?_
        · unfold r_X8_ends; first | (simp only [if_neg (show ¬ ((b2i (0 ≤ a2 ∧ a2 ≤ M.1 600 2 - 1)) = 0) from c5), if_neg (show ¬ ((b2i (M.1 607 (Int32.toNatClampNeg (M.1 600 10 + 9 + a2)) = 0)) = 0) from c13), if_neg (show ¬ ((r_X8_takesOrder M a1) = 0) from c27)]; done) | (simp only [if_neg (show ¬ ((b2i (0 ≤ a2 ∧ a2 ≤ M.1 600 2 - 1)) = 0) from c5), if_neg (show ¬ ((b2i (M.1 607 (Int32.toNatClampNeg (M.1 600 10 + 9 + a2)) = 0)) = 0) from c13), if_neg (show ¬ ((r_X8_takesOrder M a1) = 0) from c27)]; rfl) | rfl
        · unfold w_X8_ends; first | (simp only [if_neg (show ¬ ((b2i (0 ≤ a2 ∧ a2 ≤ M.1 600 2 - 1)) = 0) from c5), if_neg (show ¬ ((b2i (M.1 607 (Int32.toNatClampNeg (M.1 600 10 + 9 + a2)) = 0)) = 0) from c13), if_neg (show ¬ ((r_X8_takesOrder M a1) = 0) from c27)]; done) | (simp only [if_neg (show ¬ ((b2i (0 ≤ a2 ∧ a2 ≤ M.1 600 2 - 1)) = 0) from c5), if_neg (show ¬ ((b2i (M.1 607 (Int32.toNatClampNeg (M.1 600 10 + 9 + a2)) = 0)) = 0) from c13), if_neg (show ¬ ((r_X8_takesOrder M a1) = 0) from c27)]; rfl) | rfl
noncomputable def r_X8_again_15 (M : Mm)   : Int32 := (wi (wi (wi (wi (wi M 600 0 (M.1 628 0)) 600 1 ((wi M 600 0 (M.1 628 0)).1 628 1)) 600 2 ((wi (wi M 600 0 (M.1 628 0)) 600 1 ((wi M 600 0 (M.1 628 0)).1 628 1)).1 628 2)) 600 11 ((wi (wi (wi M 600 0 (M.1 628 0)) 600 1 ((wi M 600 0 (M.1 628 0)).1 628 1)) 600 2 ((wi (wi M 600 0 (M.1 628 0)) 600 1 ((wi M 600 0 (M.1 628 0)).1 628 1)).1 628 2)).1 628 3)) 600 12 ((wi (wi (wi (wi M 600 0 (M.1 628 0)) 600 1 ((wi M 600 0 (M.1 628 0)).1 628 1)) 600 2 ((wi (wi M 600 0 (M.1 628 0)) 600 1 ((wi M 600 0 (M.1 628 0)).1 628 1)).1 628 2)) 600 11 ((wi (wi (wi M 600 0 (M.1 628 0)) 600 1 ((wi M 600 0 (M.1 628 0)).1 628 1)) 600 2 ((wi (wi M 600 0 (M.1 628 0)) 600 1 ((wi M 600 0 (M.1 628 0)).1 628 1)).1 628 2)).1 628 3)).1 628 4)).1 600 2
noncomputable def w_X8_again_15 (M : Mm)   : Mm := (wi (wi (wi (wi (wi M 600 0 (M.1 628 0)) 600 1 ((wi M 600 0 (M.1 628 0)).1 628 1)) 600 2 ((wi (wi M 600 0 (M.1 628 0)) 600 1 ((wi M 600 0 (M.1 628 0)).1 628 1)).1 628 2)) 600 11 ((wi (wi (wi M 600 0 (M.1 628 0)) 600 1 ((wi M 600 0 (M.1 628 0)).1 628 1)) 600 2 ((wi (wi M 600 0 (M.1 628 0)) 600 1 ((wi M 600 0 (M.1 628 0)).1 628 1)).1 628 2)).1 628 3)) 600 12 ((wi (wi (wi (wi M 600 0 (M.1 628 0)) 600 1 ((wi M 600 0 (M.1 628 0)).1 628 1)) 600 2 ((wi (wi M 600 0 (M.1 628 0)) 600 1 ((wi M 600 0 (M.1 628 0)).1 628 1)).1 628 2)) 600 11 ((wi (wi (wi M 600 0 (M.1 628 0)) 600 1 ((wi M 600 0 (M.1 628 0)).1 628 1)) 600 2 ((wi (wi M 600 0 (M.1 628 0)) 600 1 ((wi M 600 0 (M.1 628 0)).1 628 1)).1 628 2)).1 628 3)).1 628 4))
theorem jn_X8_again_15 {d : Nat} {J : Nat → Lc → List Value → Mm → Prop} {M : Mm}    (g : Good mX8_again.1 mX8_again.2.2.1 mX8_again.2.2.2.1 (d + 2) J) {rv : Option Value} {M1 : Mm} (hr : Ret mX8_again.2.2.1 mX8_again.2.2.2.2 rv M1 J) (hrv : rv = some (.int (r_X8_again_15 M  ))) (hmm : M1 = w_X8_again_15 M  ) : J 15 [some (.ref 600)] [] M := by
  refine j_aload_n g (i := 0) (by decide +kernel) rfl ?_
  refine j_aload_n g (i := 0) (by decide +kernel) rfl ?_
  refine j_gA g (b := 628) f8_92 (by decide +kernel) (by decide +kernel) (by decide +kernel) (by decide +kernel) ?_
  refine j_iconst g (n := 0) (0) (by decide +kernel) rfl ?_
  refine j_iac g 5 0 (by decide +kernel) (by decide +kernel) (by decide +kernel) (vin_b (by decide +kernel)) (by decide) ?_
  refine j_pI g f8_225 (fun q h => by cases h; rfl) (by decide +kernel) (by decide +kernel) (by decide +kernel) ?_
  refine j_aload_n g (i := 0) (by decide +kernel) rfl ?_
  refine j_aload_n g (i := 0) (by decide +kernel) rfl ?_
  refine j_gA g (b := 628) f8_92 (by decide +kernel) (by decide +kernel) (by decide +kernel) (by decide +kernel) ?_
  refine j_iconst g (n := 1) (1) (by decide +kernel) rfl ?_
  refine j_iac g 5 1 (by decide +kernel) (by decide +kernel) (by decide +kernel) (vin_b (by decide +kernel)) (by decide) ?_
  refine j_pI g f8_228 (fun q h => by cases h; rfl) (by decide +kernel) (by decide +kernel) (by decide +kernel) ?_
  refine j_aload_n g (i := 0) (by decide +kernel) rfl ?_
  refine j_aload_n g (i := 0) (by decide +kernel) rfl ?_
  refine j_gA g (b := 628) f8_92 (by decide +kernel) (by decide +kernel) (by decide +kernel) (by decide +kernel) ?_
  refine j_iconst g (n := 2) (2) (by decide +kernel) rfl ?_
  refine j_iac g 5 2 (by decide +kernel) (by decide +kernel) (by decide +kernel) (vin_b (by decide +kernel)) (by decide) ?_
  refine j_pI g f8_99 (fun q h => by cases h; rfl) (by decide +kernel) (by decide +kernel) (by decide +kernel) ?_
  refine j_aload_n g (i := 0) (by decide +kernel) rfl ?_
  refine j_aload_n g (i := 0) (by decide +kernel) rfl ?_
  refine j_gA g (b := 628) f8_92 (by decide +kernel) (by decide +kernel) (by decide +kernel) (by decide +kernel) ?_
  refine j_iconst g (n := 3) (3) (by decide +kernel) rfl ?_
  refine j_iac g 5 3 (by decide +kernel) (by decide +kernel) (by decide +kernel) (vin_b (by decide +kernel)) (by decide) ?_
  refine j_pI g f8_231 (fun q h => by cases h; rfl) (by decide +kernel) (by decide +kernel) (by decide +kernel) ?_
  refine j_aload_n g (i := 0) (by decide +kernel) rfl ?_
  refine j_aload_n g (i := 0) (by decide +kernel) rfl ?_
  refine j_gA g (b := 628) f8_92 (by decide +kernel) (by decide +kernel) (by decide +kernel) (by decide +kernel) ?_
  refine j_iconst g (n := 4) (4) (by decide +kernel) rfl ?_
  refine j_iac g 5 4 (by decide +kernel) (by decide +kernel) (by decide +kernel) (vin_b (by decide +kernel)) (by decide) ?_
  refine j_pI g f8_368 (fun q h => by cases h; rfl) (by decide +kernel) (by decide +kernel) (by decide +kernel) ?_
  refine j_aload_n g (i := 0) (by decide +kernel) rfl ?_
  refine j_gI g f8_99 (by decide +kernel) (by decide +kernel) (by decide +kernel) ?_
  refine hr.1 _ _ _ _ (by decide +kernel) ⟨_, rfl, by first | rfl | exact b2i_nar | decide +kernel⟩ ?_ ?_
  · rw [hrv]; unfold r_X8_again_15; rfl
  · rw [hmm]; unfold w_X8_again_15; rfl
noncomputable def r_X8_again (M : Mm)  : Int32 := if ¬ (M.1 600 55) = 0 then r_X8_again_15 (w_X8_moveAll M (0 : Int32)) else (-3)
noncomputable def w_X8_again (M : Mm)  : Mm := if ¬ (M.1 600 55) = 0 then w_X8_again_15 (w_X8_moveAll M (0 : Int32)) else M
def p_X8_again (M : Mm)  : Prop := (if ¬ (M.1 600 55) = 0 then (p_X8_moveAll M (0 : Int32)) ∧ True else True)
set_option maxRecDepth 20000 in
theorem rnX8_again {d : Nat} {M : Mm}   (hp : p_X8_again M ) : Rn (d + 2) mX8_again [.ref 600] M (some (.int (r_X8_again M ))) (w_X8_again M ) := by
  refine Rn.of [some (.ref 600)] (by decide +kernel) rfl (Nat.le_of_ble_eq_true rfl) rfl (fun J g hr => ?_)
  unfold p_X8_again at hp
  refine j_aload_n g (i := 0) (by decide +kernel) rfl ?_
  refine j_gI g f8_473 (by decide +kernel) (by decide +kernel) (by decide +kernel) ?_
  refine j_if_ne g (off := 6) (tgt := 10) (by decide +kernel) (by decide) (fun c4 => ?_) (fun c4 => ?_)
  · rw [if_pos (show ¬ (M.1 600 55) = 0 from c4)] at hp
    refine j_aload_n g (i := 0) (by decide +kernel) rfl ?_
    refine j_iconst g (n := 0) (0) (by decide +kernel) rfl ?_
    obtain ⟨h0, hp⟩ := hp
    refine j_cV1v g v8_470 ⟨rfl, by decide⟩ (by decide +kernel) (by decide +kernel) (Nat.le_of_ble_eq_true rfl) (rnX8_moveAll h0) ?_
    refine jn_X8_again_15  g hr  ?_ ?_ 
    · unfold r_X8_again; first | (simp only [if_pos (show ¬ (M.1 600 55) = 0 from c4)]; done) | (simp only [if_pos (show ¬ (M.1 600 55) = 0 from c4)]; rfl) | rfl
    · unfold w_X8_again; first | (simp only [if_pos (show ¬ (M.1 600 55) = 0 from c4)]; done) | (simp only [if_pos (show ¬ (M.1 600 55) = 0 from c4)]; rfl) | rfl
  · rw [if_neg (show ¬ (¬ (M.1 600 55) = 0) from c4)] at hp
    refine j_bipush g (n := -3) (-3) (by decide +kernel) (by decide +kernel) ?_
    refine hr.1 _ _ _ _ (by decide +kernel) ⟨_, rfl, by first | rfl | exact b2i_nar | decide +kernel⟩ ?_ ?_
    · unfold r_X8_again; first | (simp only [if_neg (show ¬ (¬ (M.1 600 55) = 0) from c4)]; done) | (simp only [if_neg (show ¬ (¬ (M.1 600 55) = 0) from c4)]; rfl) | rfl
    · unfold w_X8_again; first | (simp only [if_neg (show ¬ (¬ (M.1 600 55) = 0) from c4)]; done) | (simp only [if_neg (show ¬ (¬ (M.1 600 55) = 0) from c4)]; rfl) | rfl
noncomputable def r_X7_at (M : Mm) (a1 : Int32) (a2 : Int32) : Int32 := if (r_X5_isThere M a1 a2) = 0 then (-1) else if a1 = 0 then M.1 1001 (Int32.toNatClampNeg a2) else M.1 1002 (Int32.toNatClampNeg a2)
def p_X7_at (M : Mm) (a1 : Int32) (a2 : Int32) : Prop := (if (r_X5_isThere M a1 a2) = 0 then True else (if a1 = 0 then (vp_in a2 3) ∧ True else (vp_in a2 6) ∧ True))
set_option maxRecDepth 20000 in
theorem rnX7_at {d : Nat} {M : Mm} {a1 : Int32} {a2 : Int32}  (hp : p_X7_at M a1 a2) : Rn (d + 1) mX7_at [.ref 1, .int a1, .int a2] M (some (.int (r_X7_at M a1 a2))) M := by
  refine Rn.of [some (.ref 1), some (.int a1), some (.int a2)] (by decide +kernel) rfl (Nat.le_of_ble_eq_true rfl) rfl (fun J g hr => ?_)
  unfold p_X7_at at hp
  refine j_aload_n g (i := 0) (by decide +kernel) rfl ?_
  refine j_gA g (b := 100) f7_20 (by decide +kernel) (by decide +kernel) (by decide +kernel) (by decide +kernel) ?_
  refine j_iload_n g (i := 1) (by decide +kernel) rfl ?_
  refine j_iload_n g (i := 2) (by decide +kernel) rfl ?_
  refine j_cV2r g v7_158 ⟨rfl, by decide⟩ (by decide +kernel) (by decide +kernel) (Nat.le_of_ble_eq_true rfl) (rnX5_isThere) ?_
  refine j_if_eq g (off := 19) (tgt := 28) (by decide +kernel) (by decide) (fun c9 => ?_) (fun c9 => ?_)
  · rw [if_pos (show (r_X5_isThere M a1 a2) = 0 from c9)] at hp
    refine j_iconst g (n := -1) (-1) (by decide +kernel) rfl ?_
    refine hr.1 _ _ _ _ (by decide +kernel) ⟨_, rfl, by first | rfl | exact b2i_nar | decide +kernel⟩ ?_ ?_
    · unfold r_X7_at; first | (simp only [if_pos (show (r_X5_isThere M a1 a2) = 0 from c9)]; done) | (simp only [if_pos (show (r_X5_isThere M a1 a2) = 0 from c9)]; rfl) | rfl
    · rfl
  · rw [if_neg (show ¬ ((r_X5_isThere M a1 a2) = 0) from c9)] at hp
    refine j_aload_n g (i := 0) (by decide +kernel) rfl ?_
    refine j_gA g (b := 100) f7_20 (by decide +kernel) (by decide +kernel) (by decide +kernel) (by decide +kernel) ?_
    refine j_gA g (b := 1000) f7_112 (by decide +kernel) (by decide +kernel) (by decide +kernel) (by decide +kernel) ?_
    refine j_iload_n g (i := 1) (by decide +kernel) rfl ?_
    rcases Decidable.em (a1 = 0) with c20 | c20
    · rw [if_pos (show a1 = 0 from c20)] at hp
      refine j_cV1r g v7_162 ⟨rfl, by decide⟩ (by decide +kernel) (by decide +kernel) (Nat.le_of_ble_eq_true rfl) (rnX3_placesOf0 (by simp [isS]) c20) ?_
      refine j_iload_n g (i := 2) (by decide +kernel) rfl ?_
      obtain ⟨h0, hp⟩ := hp
      refine j_ia g 3 (by decide +kernel) (by decide +kernel) (by decide +kernel) h0 ?_
      refine j_goto g (off := 4) (tgt := 29) (by decide +kernel) (by decide) ?_
      refine hr.1 _ _ _ _ (by decide +kernel) ⟨_, rfl, by first | rfl | exact b2i_nar | decide +kernel⟩ ?_ ?_
      · unfold r_X7_at; first | (simp only [if_neg (show ¬ ((r_X5_isThere M a1 a2) = 0) from c9), if_pos (show a1 = 0 from c20)]; done) | (simp only [if_neg (show ¬ ((r_X5_isThere M a1 a2) = 0) from c9), if_pos (show a1 = 0 from c20)]; rfl) | rfl
      · rfl
    · rw [if_neg (show ¬ (a1 = 0) from c20)] at hp
      refine j_cV1r g v7_162 ⟨rfl, by decide⟩ (by decide +kernel) (by decide +kernel) (Nat.le_of_ble_eq_true rfl) (rnX3_placesOf1 (by simp [isS]) c20) ?_
      refine j_iload_n g (i := 2) (by decide +kernel) rfl ?_
      obtain ⟨h0, hp⟩ := hp
      refine j_ia g 6 (by decide +kernel) (by decide +kernel) (by decide +kernel) h0 ?_
      refine j_goto g (off := 4) (tgt := 29) (by decide +kernel) (by decide) ?_
      refine hr.1 _ _ _ _ (by decide +kernel) ⟨_, rfl, by first | rfl | exact b2i_nar | decide +kernel⟩ ?_ ?_
      · unfold r_X7_at; first | (simp only [if_neg (show ¬ ((r_X5_isThere M a1 a2) = 0) from c9), if_neg (show ¬ (a1 = 0) from c20)]; done) | (simp only [if_neg (show ¬ ((r_X5_isThere M a1 a2) = 0) from c9), if_neg (show ¬ (a1 = 0) from c20)]; rfl) | rfl
      · rfl
noncomputable def r_X7_put (M : Mm) (a1 : Int32) (a2 : Int32) (a3 : Int32) : Int32 := if (r_X5_isThere M a1 a2) = 0 then (-1) else if ¬ (b2i ((0 : Int32) ≤ a3 ∧ a3 ≤ (9 : Int32))) = 0 then (if a1 = 0 then M.1 1001 (Int32.toNatClampNeg a2) else M.1 1002 (Int32.toNatClampNeg a2)) else (-1)
noncomputable def w_X7_put (M : Mm) (a1 : Int32) (a2 : Int32) (a3 : Int32) : Mm := if (r_X5_isThere M a1 a2) = 0 then M else if ¬ (b2i ((0 : Int32) ≤ a3 ∧ a3 ≤ (9 : Int32))) = 0 then (if a1 = 0 then (wi M 1001 (Int32.toNatClampNeg a2) a3) else (wi M 1002 (Int32.toNatClampNeg a2) a3)) else M
def p_X7_put (M : Mm) (a1 : Int32) (a2 : Int32) (a3 : Int32) : Prop := (if (r_X5_isThere M a1 a2) = 0 then True else (if ¬ (b2i ((0 : Int32) ≤ a3 ∧ a3 ≤ (9 : Int32))) = 0 then (if a1 = 0 then (vp_in a2 3) ∧ (vp_in a2 3) ∧ True else (vp_in a2 6) ∧ (vp_in a2 6) ∧ True) else True))
set_option maxRecDepth 20000 in
theorem rnX7_put {d : Nat} {M : Mm} {a1 : Int32} {a2 : Int32} {a3 : Int32}  (hp : p_X7_put M a1 a2 a3) : Rn (d + 1) mX7_put [.ref 1, .int a1, .int a2, .int a3] M (some (.int (r_X7_put M a1 a2 a3))) (w_X7_put M a1 a2 a3) := by
  refine Rn.of [some (.ref 1), some (.int a1), some (.int a2), some (.int a3), none, none] (by decide +kernel) rfl (Nat.le_of_ble_eq_true rfl) rfl (fun J g hr => ?_)
  unfold p_X7_put at hp
  refine j_aload_n g (i := 0) (by decide +kernel) rfl ?_
  refine j_gA g (b := 100) f7_20 (by decide +kernel) (by decide +kernel) (by decide +kernel) (by decide +kernel) ?_
  refine j_iload_n g (i := 1) (by decide +kernel) rfl ?_
  refine j_iload_n g (i := 2) (by decide +kernel) rfl ?_
  refine j_cV2r g v7_158 ⟨rfl, by decide⟩ (by decide +kernel) (by decide +kernel) (Nat.le_of_ble_eq_true rfl) (rnX5_isThere) ?_
  refine j_if_eq g (off := 13) (tgt := 22) (by decide +kernel) (by decide) (fun c9 => ?_) (fun c9 => ?_)
  · rw [if_pos (show (r_X5_isThere M a1 a2) = 0 from c9)] at hp
    refine j_iconst g (n := -1) (-1) (by decide +kernel) rfl ?_
    refine hr.1 _ _ _ _ (by decide +kernel) ⟨_, rfl, by first | rfl | exact b2i_nar | decide +kernel⟩ ?_ ?_
    · unfold r_X7_put; first | (simp only [if_pos (show (r_X5_isThere M a1 a2) = 0 from c9)]; done) | (simp only [if_pos (show (r_X5_isThere M a1 a2) = 0 from c9)]; rfl) | rfl
    · unfold w_X7_put; first | (simp only [if_pos (show (r_X5_isThere M a1 a2) = 0 from c9)]; done) | (simp only [if_pos (show (r_X5_isThere M a1 a2) = 0 from c9)]; rfl) | rfl
  · rw [if_neg (show ¬ ((r_X5_isThere M a1 a2) = 0) from c9)] at hp
    refine j_iload_n g (i := 3) (by decide +kernel) rfl ?_
    refine j_iconst g (n := 0) (0) (by decide +kernel) rfl ?_
    refine j_bipush g (n := 9) (9) (by decide +kernel) (by decide +kernel) ?_
    refine j_cS3r g s7_87 (by decide +kernel) (Nat.le_of_ble_eq_true rfl) (rnX7_isWithin) ?_
    refine j_if_ne g (off := 5) (tgt := 24) (by decide +kernel) (by decide) (fun c19 => ?_) (fun c19 => ?_)
    · rw [if_pos (show ¬ (b2i ((0 : Int32) ≤ a3 ∧ a3 ≤ (9 : Int32))) = 0 from c19)] at hp
      refine j_aload_n g (i := 0) (by decide +kernel) rfl ?_
      refine j_gA g (b := 100) f7_20 (by decide +kernel) (by decide +kernel) (by decide +kernel) (by decide +kernel) ?_
      refine j_gA g (b := 1000) f7_112 (by decide +kernel) (by decide +kernel) (by decide +kernel) (by decide +kernel) ?_
      refine j_iload_n g (i := 1) (by decide +kernel) rfl ?_
      rcases Decidable.em (a1 = 0) with c32 | c32
      · rw [if_pos (show a1 = 0 from c32)] at hp
        refine j_cV1r g v7_162 ⟨rfl, by decide⟩ (by decide +kernel) (by decide +kernel) (Nat.le_of_ble_eq_true rfl) (rnX3_placesOf0 (by simp [isS]) c32) ?_
        refine j_astore g (i := 4) (by decide +kernel) (by decide) ?_
        dsimp only [stL, clL, hdL]
        refine j_aload g (i := 4) (by decide +kernel) rfl ?_
        refine j_iload_n g (i := 2) (by decide +kernel) rfl ?_
        obtain ⟨h0, hp⟩ := hp
        refine j_ia g 3 (by decide +kernel) (by decide +kernel) (by decide +kernel) h0 ?_
        refine j_istore g (i := 5) (by decide +kernel) (by decide) ?_
        dsimp only [stL, clL, hdL]
        refine j_aload g (i := 4) (by decide +kernel) rfl ?_
        refine j_iload_n g (i := 2) (by decide +kernel) rfl ?_
        refine j_iload_n g (i := 3) (by decide +kernel) rfl ?_
        obtain ⟨h0, hp⟩ := hp
        refine j_is g 3 (by decide +kernel) (by decide +kernel) (by decide +kernel) h0 ?_
        refine j_iload g (i := 5) (by decide +kernel) rfl ?_
        refine hr.1 _ _ _ _ (by decide +kernel) ⟨_, rfl, by first | rfl | exact b2i_nar | decide +kernel⟩ ?_ ?_
        · unfold r_X7_put; first | (simp only [if_neg (show ¬ ((r_X5_isThere M a1 a2) = 0) from c9), if_pos (show ¬ (b2i ((0 : Int32) ≤ a3 ∧ a3 ≤ (9 : Int32))) = 0 from c19), if_pos (show a1 = 0 from c32)]; done) | (simp only [if_neg (show ¬ ((r_X5_isThere M a1 a2) = 0) from c9), if_pos (show ¬ (b2i ((0 : Int32) ≤ a3 ∧ a3 ≤ (9 : Int32))) = 0 from c19), if_pos (show a1 = 0 from c32)]; rfl) | rfl
        · unfold w_X7_put; first | (simp only [if_neg (show ¬ ((r_X5_isThere M a1 a2) = 0) from c9), if_pos (show ¬ (b2i ((0 : Int32) ≤ a3 ∧ a3 ≤ (9 : Int32))) = 0 from c19), if_pos (show a1 = 0 from c32)]; done) | (simp only [if_neg (show ¬ ((r_X5_isThere M a1 a2) = 0) from c9), if_pos (show ¬ (b2i ((0 : Int32) ≤ a3 ∧ a3 ≤ (9 : Int32))) = 0 from c19), if_pos (show a1 = 0 from c32)]; rfl) | rfl
      · rw [if_neg (show ¬ (a1 = 0) from c32)] at hp
        refine j_cV1r g v7_162 ⟨rfl, by decide⟩ (by decide +kernel) (by decide +kernel) (Nat.le_of_ble_eq_true rfl) (rnX3_placesOf1 (by simp [isS]) c32) ?_
        refine j_astore g (i := 4) (by decide +kernel) (by decide) ?_
        dsimp only [stL, clL, hdL]
        refine j_aload g (i := 4) (by decide +kernel) rfl ?_
        refine j_iload_n g (i := 2) (by decide +kernel) rfl ?_
        obtain ⟨h0, hp⟩ := hp
        refine j_ia g 6 (by decide +kernel) (by decide +kernel) (by decide +kernel) h0 ?_
        refine j_istore g (i := 5) (by decide +kernel) (by decide) ?_
        dsimp only [stL, clL, hdL]
        refine j_aload g (i := 4) (by decide +kernel) rfl ?_
        refine j_iload_n g (i := 2) (by decide +kernel) rfl ?_
        refine j_iload_n g (i := 3) (by decide +kernel) rfl ?_
        obtain ⟨h0, hp⟩ := hp
        refine j_is g 6 (by decide +kernel) (by decide +kernel) (by decide +kernel) h0 ?_
        refine j_iload g (i := 5) (by decide +kernel) rfl ?_
        refine hr.1 _ _ _ _ (by decide +kernel) ⟨_, rfl, by first | rfl | exact b2i_nar | decide +kernel⟩ ?_ ?_
        · unfold r_X7_put; first | (simp only [if_neg (show ¬ ((r_X5_isThere M a1 a2) = 0) from c9), if_pos (show ¬ (b2i ((0 : Int32) ≤ a3 ∧ a3 ≤ (9 : Int32))) = 0 from c19), if_neg (show ¬ (a1 = 0) from c32)]; done) | (simp only [if_neg (show ¬ ((r_X5_isThere M a1 a2) = 0) from c9), if_pos (show ¬ (b2i ((0 : Int32) ≤ a3 ∧ a3 ≤ (9 : Int32))) = 0 from c19), if_neg (show ¬ (a1 = 0) from c32)]; rfl) | rfl
        · unfold w_X7_put; first | (simp only [if_neg (show ¬ ((r_X5_isThere M a1 a2) = 0) from c9), if_pos (show ¬ (b2i ((0 : Int32) ≤ a3 ∧ a3 ≤ (9 : Int32))) = 0 from c19), if_neg (show ¬ (a1 = 0) from c32)]; done) | (simp only [if_neg (show ¬ ((r_X5_isThere M a1 a2) = 0) from c9), if_pos (show ¬ (b2i ((0 : Int32) ≤ a3 ∧ a3 ≤ (9 : Int32))) = 0 from c19), if_neg (show ¬ (a1 = 0) from c32)]; rfl) | rfl
    · rw [if_neg (show ¬ (¬ (b2i ((0 : Int32) ≤ a3 ∧ a3 ≤ (9 : Int32))) = 0) from c19)] at hp
      refine j_iconst g (n := -1) (-1) (by decide +kernel) rfl ?_
      refine hr.1 _ _ _ _ (by decide +kernel) ⟨_, rfl, by first | rfl | exact b2i_nar | decide +kernel⟩ ?_ ?_
      · unfold r_X7_put; first | (simp only [if_neg (show ¬ ((r_X5_isThere M a1 a2) = 0) from c9), if_neg (show ¬ (¬ (b2i ((0 : Int32) ≤ a3 ∧ a3 ≤ (9 : Int32))) = 0) from c19)]; done) | (simp only [if_neg (show ¬ ((r_X5_isThere M a1 a2) = 0) from c9), if_neg (show ¬ (¬ (b2i ((0 : Int32) ≤ a3 ∧ a3 ≤ (9 : Int32))) = 0) from c19)]; rfl) | rfl
      · unfold w_X7_put; first | (simp only [if_neg (show ¬ ((r_X5_isThere M a1 a2) = 0) from c9), if_neg (show ¬ (¬ (b2i ((0 : Int32) ≤ a3 ∧ a3 ≤ (9 : Int32))) = 0) from c19)]; done) | (simp only [if_neg (show ¬ ((r_X5_isThere M a1 a2) = 0) from c9), if_neg (show ¬ (¬ (b2i ((0 : Int32) ≤ a3 ∧ a3 ≤ (9 : Int32))) = 0) from c19)]; rfl) | rfl
noncomputable def r_X7_set (M : Mm) (a1 : Int32) (a2 : Int32) : Int32 := if (b2i ((0 : Int32) ≤ a1 ∧ a1 ≤ (3 : Int32))) = 0 then (-1) else if ¬ (b2i ((om_least (Int32.toNatClampNeg a1)) ≤ a2 ∧ a2 ≤ (om_most (Int32.toNatClampNeg a1)))) = 0 then M.1 104 (Int32.toNatClampNeg a1) else (-1)
noncomputable def w_X7_set (M : Mm) (a1 : Int32) (a2 : Int32) : Mm := if (b2i ((0 : Int32) ≤ a1 ∧ a1 ≤ (3 : Int32))) = 0 then M else if ¬ (b2i ((om_least (Int32.toNatClampNeg a1)) ≤ a2 ∧ a2 ≤ (om_most (Int32.toNatClampNeg a1)))) = 0 then (wi M 104 (Int32.toNatClampNeg a1) a2) else M
def p_X7_set (M : Mm) (a1 : Int32) (a2 : Int32) : Prop := (if (b2i ((0 : Int32) ≤ a1 ∧ a1 ≤ (3 : Int32))) = 0 then True else (vp_in a1 4) ∧ (vp_in a1 4) ∧ (if ¬ (b2i ((om_least (Int32.toNatClampNeg a1)) ≤ a2 ∧ a2 ≤ (om_most (Int32.toNatClampNeg a1)))) = 0 then (vp_in a1 4) ∧ (vp_in a1 4) ∧ True else True))
set_option maxRecDepth 20000 in
theorem rnX7_set {d : Nat} {M : Mm} {a1 : Int32} {a2 : Int32}  (hp : p_X7_set M a1 a2) : Rn (d + 1) mX7_set [.ref 1, .int a1, .int a2] M (some (.int (r_X7_set M a1 a2))) (w_X7_set M a1 a2) := by
  refine Rn.of [some (.ref 1), some (.int a1), some (.int a2), none] (by decide +kernel) rfl (Nat.le_of_ble_eq_true rfl) rfl (fun J g hr => ?_)
  unfold p_X7_set at hp
  refine j_iload_n g (i := 1) (by decide +kernel) rfl ?_
  refine j_iconst g (n := 0) (0) (by decide +kernel) rfl ?_
  refine j_iconst g (n := 3) (3) (by decide +kernel) rfl ?_
  refine j_cS3r g s7_87 (by decide +kernel) (Nat.le_of_ble_eq_true rfl) (rnX7_isWithin) ?_
  refine j_if_eq g (off := 20) (tgt := 26) (by decide +kernel) (by decide) (fun c6 => ?_) (fun c6 => ?_)
  · rw [if_pos (show (b2i ((0 : Int32) ≤ a1 ∧ a1 ≤ (3 : Int32))) = 0 from c6)] at hp
    refine j_iconst g (n := -1) (-1) (by decide +kernel) rfl ?_
    refine hr.1 _ _ _ _ (by decide +kernel) ⟨_, rfl, by first | rfl | exact b2i_nar | decide +kernel⟩ ?_ ?_
    · unfold r_X7_set; first | (simp only [if_pos (show (b2i ((0 : Int32) ≤ a1 ∧ a1 ≤ (3 : Int32))) = 0 from c6)]; done) | (simp only [if_pos (show (b2i ((0 : Int32) ≤ a1 ∧ a1 ≤ (3 : Int32))) = 0 from c6)]; rfl) | rfl
    · unfold w_X7_set; first | (simp only [if_pos (show (b2i ((0 : Int32) ≤ a1 ∧ a1 ≤ (3 : Int32))) = 0 from c6)]; done) | (simp only [if_pos (show (b2i ((0 : Int32) ≤ a1 ∧ a1 ≤ (3 : Int32))) = 0 from c6)]; rfl) | rfl
  · rw [if_neg (show ¬ ((b2i ((0 : Int32) ≤ a1 ∧ a1 ≤ (3 : Int32))) = 0) from c6)] at hp
    refine j_iload_n g (i := 2) (by decide +kernel) rfl ?_
    refine j_stL7 g (by decide +kernel) ?_
    refine j_iload_n g (i := 1) (by decide +kernel) rfl ?_
    obtain ⟨h0, hp⟩ := hp
    refine j_tiL g (by decide +kernel) h0 ?_
    refine j_stM7 g (by decide +kernel) ?_
    refine j_iload_n g (i := 1) (by decide +kernel) rfl ?_
    obtain ⟨h0, hp⟩ := hp
    refine j_tiM g (by decide +kernel) h0 ?_
    refine j_cS3r g s7_87 (by decide +kernel) (Nat.le_of_ble_eq_true rfl) (rnX7_isWithin) ?_
    refine j_if_ne g (off := 5) (tgt := 28) (by decide +kernel) (by decide) (fun c23 => ?_) (fun c23 => ?_)
    · rw [if_pos (show ¬ (b2i ((om_least (Int32.toNatClampNeg a1)) ≤ a2 ∧ a2 ≤ (om_most (Int32.toNatClampNeg a1)))) = 0 from c23)] at hp
      refine j_aload_n g (i := 0) (by decide +kernel) rfl ?_
      refine j_gA g (b := 100) f7_20 (by decide +kernel) (by decide +kernel) (by decide +kernel) (by decide +kernel) ?_
      refine j_gA g (b := 104) f7_172 (by decide +kernel) (by decide +kernel) (by decide +kernel) (by decide +kernel) ?_
      refine j_iload_n g (i := 1) (by decide +kernel) rfl ?_
      obtain ⟨h0, hp⟩ := hp
      refine j_ia g 4 (by decide +kernel) (by decide +kernel) (by decide +kernel) h0 ?_
      refine j_istore_n g (i := 3) (by decide +kernel) (by decide) ?_
      dsimp only [stL, clL, hdL]
      refine j_aload_n g (i := 0) (by decide +kernel) rfl ?_
      refine j_gA g (b := 100) f7_20 (by decide +kernel) (by decide +kernel) (by decide +kernel) (by decide +kernel) ?_
      refine j_gA g (b := 104) f7_172 (by decide +kernel) (by decide +kernel) (by decide +kernel) (by decide +kernel) ?_
      refine j_iload_n g (i := 1) (by decide +kernel) rfl ?_
      refine j_iload_n g (i := 2) (by decide +kernel) rfl ?_
      obtain ⟨h0, hp⟩ := hp
      refine j_is g 4 (by decide +kernel) (by decide +kernel) (by decide +kernel) h0 ?_
      refine j_iload_n g (i := 3) (by decide +kernel) rfl ?_
      refine hr.1 _ _ _ _ (by decide +kernel) ⟨_, rfl, by first | rfl | exact b2i_nar | decide +kernel⟩ ?_ ?_
      · unfold r_X7_set; first | (simp only [if_neg (show ¬ ((b2i ((0 : Int32) ≤ a1 ∧ a1 ≤ (3 : Int32))) = 0) from c6), if_pos (show ¬ (b2i ((om_least (Int32.toNatClampNeg a1)) ≤ a2 ∧ a2 ≤ (om_most (Int32.toNatClampNeg a1)))) = 0 from c23)]; done) | (simp only [if_neg (show ¬ ((b2i ((0 : Int32) ≤ a1 ∧ a1 ≤ (3 : Int32))) = 0) from c6), if_pos (show ¬ (b2i ((om_least (Int32.toNatClampNeg a1)) ≤ a2 ∧ a2 ≤ (om_most (Int32.toNatClampNeg a1)))) = 0 from c23)]; rfl) | rfl
      · unfold w_X7_set; first | (simp only [if_neg (show ¬ ((b2i ((0 : Int32) ≤ a1 ∧ a1 ≤ (3 : Int32))) = 0) from c6), if_pos (show ¬ (b2i ((om_least (Int32.toNatClampNeg a1)) ≤ a2 ∧ a2 ≤ (om_most (Int32.toNatClampNeg a1)))) = 0 from c23)]; done) | (simp only [if_neg (show ¬ ((b2i ((0 : Int32) ≤ a1 ∧ a1 ≤ (3 : Int32))) = 0) from c6), if_pos (show ¬ (b2i ((om_least (Int32.toNatClampNeg a1)) ≤ a2 ∧ a2 ≤ (om_most (Int32.toNatClampNeg a1)))) = 0 from c23)]; rfl) | rfl
    · rw [if_neg (show ¬ (¬ (b2i ((om_least (Int32.toNatClampNeg a1)) ≤ a2 ∧ a2 ≤ (om_most (Int32.toNatClampNeg a1)))) = 0) from c23)] at hp
      refine j_iconst g (n := -1) (-1) (by decide +kernel) rfl ?_
      refine hr.1 _ _ _ _ (by decide +kernel) ⟨_, rfl, by first | rfl | exact b2i_nar | decide +kernel⟩ ?_ ?_
      · unfold r_X7_set; first | (simp only [if_neg (show ¬ ((b2i ((0 : Int32) ≤ a1 ∧ a1 ≤ (3 : Int32))) = 0) from c6), if_neg (show ¬ (¬ (b2i ((om_least (Int32.toNatClampNeg a1)) ≤ a2 ∧ a2 ≤ (om_most (Int32.toNatClampNeg a1)))) = 0) from c23)]; done) | (simp only [if_neg (show ¬ ((b2i ((0 : Int32) ≤ a1 ∧ a1 ≤ (3 : Int32))) = 0) from c6), if_neg (show ¬ (¬ (b2i ((om_least (Int32.toNatClampNeg a1)) ≤ a2 ∧ a2 ≤ (om_most (Int32.toNatClampNeg a1)))) = 0) from c23)]; rfl) | rfl
      · unfold w_X7_set; first | (simp only [if_neg (show ¬ ((b2i ((0 : Int32) ≤ a1 ∧ a1 ≤ (3 : Int32))) = 0) from c6), if_neg (show ¬ (¬ (b2i ((om_least (Int32.toNatClampNeg a1)) ≤ a2 ∧ a2 ≤ (om_most (Int32.toNatClampNeg a1)))) = 0) from c23)]; done) | (simp only [if_neg (show ¬ ((b2i ((0 : Int32) ≤ a1 ∧ a1 ≤ (3 : Int32))) = 0) from c6), if_neg (show ¬ (¬ (b2i ((om_least (Int32.toNatClampNeg a1)) ≤ a2 ∧ a2 ≤ (om_most (Int32.toNatClampNeg a1)))) = 0) from c23)]; rfl) | rfl
noncomputable def w_X6_take (M : Mm) (wk : Nat) (wk1 : Nat) : Mm := (wi (wi (wi (wi (wi (wi (wi (wi M wk 0 (M.1 wk1 0)) wk 1 ((wi M wk 0 (M.1 wk1 0)).1 wk1 1)) wk 2 ((wi (wi M wk 0 (M.1 wk1 0)) wk 1 ((wi M wk 0 (M.1 wk1 0)).1 wk1 1)).1 wk1 2)) wk 3 ((wi (wi (wi M wk 0 (M.1 wk1 0)) wk 1 ((wi M wk 0 (M.1 wk1 0)).1 wk1 1)) wk 2 ((wi (wi M wk 0 (M.1 wk1 0)) wk 1 ((wi M wk 0 (M.1 wk1 0)).1 wk1 1)).1 wk1 2)).1 wk1 3)) wk 4 ((wi (wi (wi (wi M wk 0 (M.1 wk1 0)) wk 1 ((wi M wk 0 (M.1 wk1 0)).1 wk1 1)) wk 2 ((wi (wi M wk 0 (M.1 wk1 0)) wk 1 ((wi M wk 0 (M.1 wk1 0)).1 wk1 1)).1 wk1 2)) wk 3 ((wi (wi (wi M wk 0 (M.1 wk1 0)) wk 1 ((wi M wk 0 (M.1 wk1 0)).1 wk1 1)) wk 2 ((wi (wi M wk 0 (M.1 wk1 0)) wk 1 ((wi M wk 0 (M.1 wk1 0)).1 wk1 1)).1 wk1 2)).1 wk1 3)).1 wk1 4)) wk 5 ((wi (wi (wi (wi (wi M wk 0 (M.1 wk1 0)) wk 1 ((wi M wk 0 (M.1 wk1 0)).1 wk1 1)) wk 2 ((wi (wi M wk 0 (M.1 wk1 0)) wk 1 ((wi M wk 0 (M.1 wk1 0)).1 wk1 1)).1 wk1 2)) wk 3 ((wi (wi (wi M wk 0 (M.1 wk1 0)) wk 1 ((wi M wk 0 (M.1 wk1 0)).1 wk1 1)) wk 2 ((wi (wi M wk 0 (M.1 wk1 0)) wk 1 ((wi M wk 0 (M.1 wk1 0)).1 wk1 1)).1 wk1 2)).1 wk1 3)) wk 4 ((wi (wi (wi (wi M wk 0 (M.1 wk1 0)) wk 1 ((wi M wk 0 (M.1 wk1 0)).1 wk1 1)) wk 2 ((wi (wi M wk 0 (M.1 wk1 0)) wk 1 ((wi M wk 0 (M.1 wk1 0)).1 wk1 1)).1 wk1 2)) wk 3 ((wi (wi (wi M wk 0 (M.1 wk1 0)) wk 1 ((wi M wk 0 (M.1 wk1 0)).1 wk1 1)) wk 2 ((wi (wi M wk 0 (M.1 wk1 0)) wk 1 ((wi M wk 0 (M.1 wk1 0)).1 wk1 1)).1 wk1 2)).1 wk1 3)).1 wk1 4)).1 wk1 5)) wk 6 ((wi (wi (wi (wi (wi (wi M wk 0 (M.1 wk1 0)) wk 1 ((wi M wk 0 (M.1 wk1 0)).1 wk1 1)) wk 2 ((wi (wi M wk 0 (M.1 wk1 0)) wk 1 ((wi M wk 0 (M.1 wk1 0)).1 wk1 1)).1 wk1 2)) wk 3 ((wi (wi (wi M wk 0 (M.1 wk1 0)) wk 1 ((wi M wk 0 (M.1 wk1 0)).1 wk1 1)) wk 2 ((wi (wi M wk 0 (M.1 wk1 0)) wk 1 ((wi M wk 0 (M.1 wk1 0)).1 wk1 1)).1 wk1 2)).1 wk1 3)) wk 4 ((wi (wi (wi (wi M wk 0 (M.1 wk1 0)) wk 1 ((wi M wk 0 (M.1 wk1 0)).1 wk1 1)) wk 2 ((wi (wi M wk 0 (M.1 wk1 0)) wk 1 ((wi M wk 0 (M.1 wk1 0)).1 wk1 1)).1 wk1 2)) wk 3 ((wi (wi (wi M wk 0 (M.1 wk1 0)) wk 1 ((wi M wk 0 (M.1 wk1 0)).1 wk1 1)) wk 2 ((wi (wi M wk 0 (M.1 wk1 0)) wk 1 ((wi M wk 0 (M.1 wk1 0)).1 wk1 1)).1 wk1 2)).1 wk1 3)).1 wk1 4)) wk 5 ((wi (wi (wi (wi (wi M wk 0 (M.1 wk1 0)) wk 1 ((wi M wk 0 (M.1 wk1 0)).1 wk1 1)) wk 2 ((wi (wi M wk 0 (M.1 wk1 0)) wk 1 ((wi M wk 0 (M.1 wk1 0)).1 wk1 1)).1 wk1 2)) wk 3 ((wi (wi (wi M wk 0 (M.1 wk1 0)) wk 1 ((wi M wk 0 (M.1 wk1 0)).1 wk1 1)) wk 2 ((wi (wi M wk 0 (M.1 wk1 0)) wk 1 ((wi M wk 0 (M.1 wk1 0)).1 wk1 1)).1 wk1 2)).1 wk1 3)) wk 4 ((wi (wi (wi (wi M wk 0 (M.1 wk1 0)) wk 1 ((wi M wk 0 (M.1 wk1 0)).1 wk1 1)) wk 2 ((wi (wi M wk 0 (M.1 wk1 0)) wk 1 ((wi M wk 0 (M.1 wk1 0)).1 wk1 1)).1 wk1 2)) wk 3 ((wi (wi (wi M wk 0 (M.1 wk1 0)) wk 1 ((wi M wk 0 (M.1 wk1 0)).1 wk1 1)) wk 2 ((wi (wi M wk 0 (M.1 wk1 0)) wk 1 ((wi M wk 0 (M.1 wk1 0)).1 wk1 1)).1 wk1 2)).1 wk1 3)).1 wk1 4)).1 wk1 5)).1 wk1 6)) wk 7 ((wi (wi (wi (wi (wi (wi (wi M wk 0 (M.1 wk1 0)) wk 1 ((wi M wk 0 (M.1 wk1 0)).1 wk1 1)) wk 2 ((wi (wi M wk 0 (M.1 wk1 0)) wk 1 ((wi M wk 0 (M.1 wk1 0)).1 wk1 1)).1 wk1 2)) wk 3 ((wi (wi (wi M wk 0 (M.1 wk1 0)) wk 1 ((wi M wk 0 (M.1 wk1 0)).1 wk1 1)) wk 2 ((wi (wi M wk 0 (M.1 wk1 0)) wk 1 ((wi M wk 0 (M.1 wk1 0)).1 wk1 1)).1 wk1 2)).1 wk1 3)) wk 4 ((wi (wi (wi (wi M wk 0 (M.1 wk1 0)) wk 1 ((wi M wk 0 (M.1 wk1 0)).1 wk1 1)) wk 2 ((wi (wi M wk 0 (M.1 wk1 0)) wk 1 ((wi M wk 0 (M.1 wk1 0)).1 wk1 1)).1 wk1 2)) wk 3 ((wi (wi (wi M wk 0 (M.1 wk1 0)) wk 1 ((wi M wk 0 (M.1 wk1 0)).1 wk1 1)) wk 2 ((wi (wi M wk 0 (M.1 wk1 0)) wk 1 ((wi M wk 0 (M.1 wk1 0)).1 wk1 1)).1 wk1 2)).1 wk1 3)).1 wk1 4)) wk 5 ((wi (wi (wi (wi (wi M wk 0 (M.1 wk1 0)) wk 1 ((wi M wk 0 (M.1 wk1 0)).1 wk1 1)) wk 2 ((wi (wi M wk 0 (M.1 wk1 0)) wk 1 ((wi M wk 0 (M.1 wk1 0)).1 wk1 1)).1 wk1 2)) wk 3 ((wi (wi (wi M wk 0 (M.1 wk1 0)) wk 1 ((wi M wk 0 (M.1 wk1 0)).1 wk1 1)) wk 2 ((wi (wi M wk 0 (M.1 wk1 0)) wk 1 ((wi M wk 0 (M.1 wk1 0)).1 wk1 1)).1 wk1 2)).1 wk1 3)) wk 4 ((wi (wi (wi (wi M wk 0 (M.1 wk1 0)) wk 1 ((wi M wk 0 (M.1 wk1 0)).1 wk1 1)) wk 2 ((wi (wi M wk 0 (M.1 wk1 0)) wk 1 ((wi M wk 0 (M.1 wk1 0)).1 wk1 1)).1 wk1 2)) wk 3 ((wi (wi (wi M wk 0 (M.1 wk1 0)) wk 1 ((wi M wk 0 (M.1 wk1 0)).1 wk1 1)) wk 2 ((wi (wi M wk 0 (M.1 wk1 0)) wk 1 ((wi M wk 0 (M.1 wk1 0)).1 wk1 1)).1 wk1 2)).1 wk1 3)).1 wk1 4)).1 wk1 5)) wk 6 ((wi (wi (wi (wi (wi (wi M wk 0 (M.1 wk1 0)) wk 1 ((wi M wk 0 (M.1 wk1 0)).1 wk1 1)) wk 2 ((wi (wi M wk 0 (M.1 wk1 0)) wk 1 ((wi M wk 0 (M.1 wk1 0)).1 wk1 1)).1 wk1 2)) wk 3 ((wi (wi (wi M wk 0 (M.1 wk1 0)) wk 1 ((wi M wk 0 (M.1 wk1 0)).1 wk1 1)) wk 2 ((wi (wi M wk 0 (M.1 wk1 0)) wk 1 ((wi M wk 0 (M.1 wk1 0)).1 wk1 1)).1 wk1 2)).1 wk1 3)) wk 4 ((wi (wi (wi (wi M wk 0 (M.1 wk1 0)) wk 1 ((wi M wk 0 (M.1 wk1 0)).1 wk1 1)) wk 2 ((wi (wi M wk 0 (M.1 wk1 0)) wk 1 ((wi M wk 0 (M.1 wk1 0)).1 wk1 1)).1 wk1 2)) wk 3 ((wi (wi (wi M wk 0 (M.1 wk1 0)) wk 1 ((wi M wk 0 (M.1 wk1 0)).1 wk1 1)) wk 2 ((wi (wi M wk 0 (M.1 wk1 0)) wk 1 ((wi M wk 0 (M.1 wk1 0)).1 wk1 1)).1 wk1 2)).1 wk1 3)).1 wk1 4)) wk 5 ((wi (wi (wi (wi (wi M wk 0 (M.1 wk1 0)) wk 1 ((wi M wk 0 (M.1 wk1 0)).1 wk1 1)) wk 2 ((wi (wi M wk 0 (M.1 wk1 0)) wk 1 ((wi M wk 0 (M.1 wk1 0)).1 wk1 1)).1 wk1 2)) wk 3 ((wi (wi (wi M wk 0 (M.1 wk1 0)) wk 1 ((wi M wk 0 (M.1 wk1 0)).1 wk1 1)) wk 2 ((wi (wi M wk 0 (M.1 wk1 0)) wk 1 ((wi M wk 0 (M.1 wk1 0)).1 wk1 1)).1 wk1 2)).1 wk1 3)) wk 4 ((wi (wi (wi (wi M wk 0 (M.1 wk1 0)) wk 1 ((wi M wk 0 (M.1 wk1 0)).1 wk1 1)) wk 2 ((wi (wi M wk 0 (M.1 wk1 0)) wk 1 ((wi M wk 0 (M.1 wk1 0)).1 wk1 1)).1 wk1 2)) wk 3 ((wi (wi (wi M wk 0 (M.1 wk1 0)) wk 1 ((wi M wk 0 (M.1 wk1 0)).1 wk1 1)) wk 2 ((wi (wi M wk 0 (M.1 wk1 0)) wk 1 ((wi M wk 0 (M.1 wk1 0)).1 wk1 1)).1 wk1 2)).1 wk1 3)).1 wk1 4)).1 wk1 5)).1 wk1 6)).1 wk1 7))
set_option maxRecDepth 20000 in
theorem rnX6_take {d : Nat} {M : Mm} {wk : Nat} {wk1 : Nat} (hwk : gk wk = 6) (hwk1 : gk wk1 = 6) : Rn (d + 0) mX6_take [.ref wk, .ref wk1] M none (w_X6_take M wk wk1) := by
  refine Rn.of [some (.ref wk), some (.ref wk1)] (by decide +kernel) rfl (Nat.le_of_ble_eq_true rfl) rfl (fun J g hr => ?_)
  refine j_aload_n g (i := 0) (by decide +kernel) rfl ?_
  refine j_aload_n g (i := 1) (by decide +kernel) rfl ?_
  refine j_gI g f6_7 (by decide +kernel) (by decide +kernel) hwk1 ?_
  refine j_pI g f6_7 (fun q h => by cases h; rfl) (by decide +kernel) (by decide +kernel) hwk ?_
  refine j_aload_n g (i := 0) (by decide +kernel) rfl ?_
  refine j_aload_n g (i := 1) (by decide +kernel) rfl ?_
  refine j_gI g f6_13 (by decide +kernel) (by decide +kernel) hwk1 ?_
  refine j_pI g f6_13 (fun q h => by cases h; rfl) (by decide +kernel) (by decide +kernel) hwk ?_
  refine j_aload_n g (i := 0) (by decide +kernel) rfl ?_
  refine j_aload_n g (i := 1) (by decide +kernel) rfl ?_
  refine j_gI g f6_16 (by decide +kernel) (by decide +kernel) hwk1 ?_
  refine j_pI g f6_16 (fun q h => by cases h; rfl) (by decide +kernel) (by decide +kernel) hwk ?_
  refine j_aload_n g (i := 0) (by decide +kernel) rfl ?_
  refine j_aload_n g (i := 1) (by decide +kernel) rfl ?_
  refine j_gI g f6_19 (by decide +kernel) (by decide +kernel) hwk1 ?_
  refine j_pI g f6_19 (fun q h => by cases h; rfl) (by decide +kernel) (by decide +kernel) hwk ?_
  refine j_aload_n g (i := 0) (by decide +kernel) rfl ?_
  refine j_aload_n g (i := 1) (by decide +kernel) rfl ?_
  refine j_gI g f6_22 (by decide +kernel) (by decide +kernel) hwk1 ?_
  refine j_pI g f6_22 (fun q h => by cases h; rfl) (by decide +kernel) (by decide +kernel) hwk ?_
  refine j_aload_n g (i := 0) (by decide +kernel) rfl ?_
  refine j_aload_n g (i := 1) (by decide +kernel) rfl ?_
  refine j_gI g f6_25 (by decide +kernel) (by decide +kernel) hwk1 ?_
  refine j_pI g f6_25 (fun q h => by cases h; rfl) (by decide +kernel) (by decide +kernel) hwk ?_
  refine j_aload_n g (i := 0) (by decide +kernel) rfl ?_
  refine j_aload_n g (i := 1) (by decide +kernel) rfl ?_
  refine j_gI g f6_28 (by decide +kernel) (by decide +kernel) hwk1 ?_
  refine j_pI g f6_28 (fun q h => by cases h; rfl) (by decide +kernel) (by decide +kernel) hwk ?_
  refine j_aload_n g (i := 0) (by decide +kernel) rfl ?_
  refine j_aload_n g (i := 1) (by decide +kernel) rfl ?_
  refine j_gI g f6_31 (by decide +kernel) (by decide +kernel) hwk1 ?_
  refine j_pI g f6_31 (fun q h => by cases h; rfl) (by decide +kernel) (by decide +kernel) hwk ?_
  refine hr.2.2.2 _ _ _ (by decide +kernel) rfl rfl ?_
  · unfold w_X6_take; rfl
noncomputable def w_X5_takeLaws_300_100 (M : Mm)  : Mm := (cpi M 104 304 0 0 4)
set_option maxRecDepth 20000 in
theorem rnX5_takeLaws_300_100 {d : Nat} {M : Mm}   : Rn (d + 1) mX5_takeLaws [.ref 300, .ref 100] M none (w_X5_takeLaws_300_100 M ) := by
  refine Rn.of [some (.ref 300), some (.ref 100)] (by decide +kernel) rfl (Nat.le_of_ble_eq_true rfl) rfl (fun J g hr => ?_)
  refine j_aload_n g (i := 1) (by decide +kernel) rfl ?_
  refine j_gA g (b := 104) f5_37 (by decide +kernel) (by decide +kernel) (by decide +kernel) (by decide +kernel) ?_
  refine j_iconst g (n := 0) (0) (by decide +kernel) rfl ?_
  refine j_aload_n g (i := 0) (by decide +kernel) rfl ?_
  refine j_gA g (b := 304) f5_37 (by decide +kernel) (by decide +kernel) (by decide +kernel) (by decide +kernel) ?_
  refine j_iconst g (n := 0) (0) (by decide +kernel) rfl ?_
  refine j_iconst g (n := 4) (4) (by decide +kernel) rfl ?_
  refine j_cp g (4) 4 4 4 t5_57 (by decide +kernel) (by decide) (Nat.le_of_ble_eq_true rfl) (by decide +kernel) (by decide +kernel) (by decide +kernel) (by decide +kernel) ?_
  refine hr.2.2.2 _ _ _ (by decide +kernel) rfl rfl ?_
  · unfold w_X5_takeLaws_300_100; rfl
noncomputable def w_X5_takeLaws_100_300 (M : Mm)  : Mm := (cpi M 304 104 0 0 4)
set_option maxRecDepth 20000 in
theorem rnX5_takeLaws_100_300 {d : Nat} {M : Mm}   : Rn (d + 1) mX5_takeLaws [.ref 100, .ref 300] M none (w_X5_takeLaws_100_300 M ) := by
  refine Rn.of [some (.ref 100), some (.ref 300)] (by decide +kernel) rfl (Nat.le_of_ble_eq_true rfl) rfl (fun J g hr => ?_)
  refine j_aload_n g (i := 1) (by decide +kernel) rfl ?_
  refine j_gA g (b := 304) f5_37 (by decide +kernel) (by decide +kernel) (by decide +kernel) (by decide +kernel) ?_
  refine j_iconst g (n := 0) (0) (by decide +kernel) rfl ?_
  refine j_aload_n g (i := 0) (by decide +kernel) rfl ?_
  refine j_gA g (b := 104) f5_37 (by decide +kernel) (by decide +kernel) (by decide +kernel) (by decide +kernel) ?_
  refine j_iconst g (n := 0) (0) (by decide +kernel) rfl ?_
  refine j_iconst g (n := 4) (4) (by decide +kernel) rfl ?_
  refine j_cp g (4) 4 4 4 t5_57 (by decide +kernel) (by decide) (Nat.le_of_ble_eq_true rfl) (by decide +kernel) (by decide +kernel) (by decide +kernel) (by decide +kernel) ?_
  refine hr.2.2.2 _ _ _ (by decide +kernel) rfl rfl ?_
  · unfold w_X5_takeLaws_100_300; rfl
noncomputable def w_X5_takeLaws_200_100 (M : Mm)  : Mm := (cpi M 104 204 0 0 4)
set_option maxRecDepth 20000 in
theorem rnX5_takeLaws_200_100 {d : Nat} {M : Mm}   : Rn (d + 1) mX5_takeLaws [.ref 200, .ref 100] M none (w_X5_takeLaws_200_100 M ) := by
  refine Rn.of [some (.ref 200), some (.ref 100)] (by decide +kernel) rfl (Nat.le_of_ble_eq_true rfl) rfl (fun J g hr => ?_)
  refine j_aload_n g (i := 1) (by decide +kernel) rfl ?_
  refine j_gA g (b := 104) f5_37 (by decide +kernel) (by decide +kernel) (by decide +kernel) (by decide +kernel) ?_
  refine j_iconst g (n := 0) (0) (by decide +kernel) rfl ?_
  refine j_aload_n g (i := 0) (by decide +kernel) rfl ?_
  refine j_gA g (b := 204) f5_37 (by decide +kernel) (by decide +kernel) (by decide +kernel) (by decide +kernel) ?_
  refine j_iconst g (n := 0) (0) (by decide +kernel) rfl ?_
  refine j_iconst g (n := 4) (4) (by decide +kernel) rfl ?_
  refine j_cp g (4) 4 4 4 t5_57 (by decide +kernel) (by decide) (Nat.le_of_ble_eq_true rfl) (by decide +kernel) (by decide +kernel) (by decide +kernel) (by decide +kernel) ?_
  refine hr.2.2.2 _ _ _ (by decide +kernel) rfl rfl ?_
  · unfold w_X5_takeLaws_200_100; rfl
noncomputable def w_X5_takeLaws_100_200 (M : Mm)  : Mm := (cpi M 204 104 0 0 4)
set_option maxRecDepth 20000 in
theorem rnX5_takeLaws_100_200 {d : Nat} {M : Mm}   : Rn (d + 1) mX5_takeLaws [.ref 100, .ref 200] M none (w_X5_takeLaws_100_200 M ) := by
  refine Rn.of [some (.ref 100), some (.ref 200)] (by decide +kernel) rfl (Nat.le_of_ble_eq_true rfl) rfl (fun J g hr => ?_)
  refine j_aload_n g (i := 1) (by decide +kernel) rfl ?_
  refine j_gA g (b := 204) f5_37 (by decide +kernel) (by decide +kernel) (by decide +kernel) (by decide +kernel) ?_
  refine j_iconst g (n := 0) (0) (by decide +kernel) rfl ?_
  refine j_aload_n g (i := 0) (by decide +kernel) rfl ?_
  refine j_gA g (b := 104) f5_37 (by decide +kernel) (by decide +kernel) (by decide +kernel) (by decide +kernel) ?_
  refine j_iconst g (n := 0) (0) (by decide +kernel) rfl ?_
  refine j_iconst g (n := 4) (4) (by decide +kernel) rfl ?_
  refine j_cp g (4) 4 4 4 t5_57 (by decide +kernel) (by decide) (Nat.le_of_ble_eq_true rfl) (by decide +kernel) (by decide +kernel) (by decide +kernel) (by decide +kernel) ?_
  refine hr.2.2.2 _ _ _ (by decide +kernel) rfl rfl ?_
  · unfold w_X5_takeLaws_100_200; rfl
def c_X5_takeTown_100_300_55  (σ : Mm × Int32) : Prop := if (6 : Int32) ≤ σ.2 then False else True
theorem ci_X5_takeTown_100_300_55   {σ : Mm × Int32} : c_X5_takeTown_100_300_55  σ ↔ (if (6 : Int32) ≤ σ.2 then False else True) := Iff.rfl
noncomputable def s_X5_takeTown_100_300_55  (σ : Mm × Int32) : Mm × Int32 := if (6 : Int32) ≤ σ.2 then σ else ((w_X6_take σ.1 (110 + Int32.toNatClampNeg σ.2) (310 + Int32.toNatClampNeg σ.2)), σ.2 + 1)
def q_X5_takeTown_100_300_55  (σ : Mm × Int32) : Prop := (if (6 : Int32) ≤ σ.2 then True else (vp_in σ.2 6) ∧ (vp_in σ.2 6) ∧ True)
noncomputable def l_X5_takeTown_100_300_55  (σ0 : Mm × Int32) : Nat → Mm × Int32 := itN (fun _ σ => s_X5_takeTown_100_300_55  σ) σ0
theorem ps_X5_takeTown_100_300_55 {d : Nat} {J : Nat → Lc → List Value → Mm → Prop}   {σ : Mm × Int32}  (g : Good mX5_takeTown.1 mX5_takeTown.2.2.1 mX5_takeTown.2.2.2.1 (d + 2) J) (hc : c_X5_takeTown_100_300_55  σ) (hp : q_X5_takeTown_100_300_55  σ) (k : J 55 [some (.ref 100), some (.ref 300), some (.int ((s_X5_takeTown_100_300_55  σ).2))] [] ((s_X5_takeTown_100_300_55  σ).1)) : J 55 [some (.ref 100), some (.ref 300), some (.int σ.2)] [] σ.1 := by
  unfold c_X5_takeTown_100_300_55 at hc
  unfold q_X5_takeTown_100_300_55 at hp
  unfold s_X5_takeTown_100_300_55 at k
  refine j_iload_n g (i := 2) (by decide +kernel) rfl ?_
  refine j_bipush g (n := 6) (6) (by decide +kernel) (by decide +kernel) ?_
  refine j_icmp_ge g (off := 24) (tgt := 82) (by decide +kernel) (by decide) (fun c58 => ?_) (fun c58 => ?_)
  · (try rw [if_pos (show (6 : Int32) ≤ σ.2 from c58)] at hc); (rw [if_pos (show (6 : Int32) ≤ σ.2 from c58)] at hp); (try simp only [if_pos (show (6 : Int32) ≤ σ.2 from c58)] at k)
    exact hc.elim
  · (try rw [if_neg (show ¬ ((6 : Int32) ≤ σ.2) from c58)] at hc); (rw [if_neg (show ¬ ((6 : Int32) ≤ σ.2) from c58)] at hp); (try simp only [if_neg (show ¬ ((6 : Int32) ≤ σ.2) from c58)] at k)
    refine j_aload_n g (i := 0) (by decide +kernel) rfl ?_
    refine j_gA g (b := 103) f5_33 (by decide +kernel) (by decide +kernel) (by decide +kernel) (by decide +kernel) ?_
    refine j_iload_n g (i := 2) (by decide +kernel) rfl ?_
    obtain ⟨h0, hp⟩ := hp
    refine j_aW g 6 (by decide +kernel) (by decide +kernel) (by decide +kernel) h0 (rfW103 h0) ?_
    have hw66 := h0
    refine j_aload_n g (i := 1) (by decide +kernel) rfl ?_
    refine j_gA g (b := 303) f5_33 (by decide +kernel) (by decide +kernel) (by decide +kernel) (by decide +kernel) ?_
    refine j_iload_n g (i := 2) (by decide +kernel) rfl ?_
    obtain ⟨h0, hp⟩ := hp
    refine j_aW g 6 (by decide +kernel) (by decide +kernel) (by decide +kernel) h0 (rfW303 h0) ?_
    have hw72 := h0
    refine j_cV1v g v5_63 ⟨rfl, by decide⟩ (gkW103 hw66) (by decide +kernel) (Nat.le_of_ble_eq_true rfl) (rnX6_take (gkW103 hw66) (gkW303 hw72)) ?_
    refine j_iinc g (i := 2) (n := 1) (1) (by decide +kernel) rfl (by decide) rfl ?_
    dsimp only [stL, clL, hdL]
    refine j_goto g (off := -24) (tgt := 55) (by decide +kernel) (by decide) ?_
    exact k 
theorem sh_X5_takeTown_100_300_55 {d : Nat} {J : Nat → Lc → List Value → Mm → Prop}   {σ0 : Mm × Int32}  (g : Good mX5_takeTown.1 mX5_takeTown.2.2.1 mX5_takeTown.2.2.2.1 (d + 2) J) : ∀ (N : Nat), (∀ k, k < N → c_X5_takeTown_100_300_55  (l_X5_takeTown_100_300_55  σ0 k)) → (∀ k, k < N → q_X5_takeTown_100_300_55  (l_X5_takeTown_100_300_55  σ0 k)) → (J 55 [some (.ref 100), some (.ref 300), some (.int ((l_X5_takeTown_100_300_55  σ0 N).2))] [] ((l_X5_takeTown_100_300_55  σ0 N).1)) → J 55 [some (.ref 100), some (.ref 300), some (.int σ0.2)] [] σ0.1
  | 0, _, _, k => k
  | N + 1, hc, hp, k => sh_X5_takeTown_100_300_55  g N (fun i hi => hc i (Nat.lt_succ_of_lt hi)) (fun i hi => hp i (Nat.lt_succ_of_lt hi)) (ps_X5_takeTown_100_300_55  g (hc N (Nat.lt_succ_self N)) (hp N (Nat.lt_succ_self N)) k)
noncomputable def w_X5_takeTown_100_300_82 (M : Mm)  (x2 : Int32) : Mm := (w_X3_take (w_X5_takeLaws_100_300 M) 1000 1020)
theorem jn_X5_takeTown_100_300_82 {d : Nat} {J : Nat → Lc → List Value → Mm → Prop} {M : Mm}  {x2 : Int32}  (g : Good mX5_takeTown.1 mX5_takeTown.2.2.1 mX5_takeTown.2.2.2.1 (d + 2) J) {rv : Option Value} {M1 : Mm} (hr : Ret mX5_takeTown.2.2.1 mX5_takeTown.2.2.2.2 rv M1 J) (hrv : rv = none) (hmm : M1 = w_X5_takeTown_100_300_82 M  x2) : J 82 [some (.ref 100), some (.ref 300), some (.int x2)] [] M := by
  refine j_aload_n g (i := 0) (by decide +kernel) rfl ?_
  refine j_aload_n g (i := 1) (by decide +kernel) rfl ?_
  refine j_cV1v g v5_67 ⟨rfl, by decide⟩ (by decide +kernel) (by decide +kernel) (Nat.le_of_ble_eq_true rfl) (rnX5_takeLaws_100_300) ?_
  refine j_aload_n g (i := 0) (by decide +kernel) rfl ?_
  refine j_gA g (b := 1000) f5_49 (by decide +kernel) (by decide +kernel) (by decide +kernel) (by decide +kernel) ?_
  refine j_aload_n g (i := 1) (by decide +kernel) rfl ?_
  refine j_gA g (b := 1020) f5_49 (by decide +kernel) (by decide +kernel) (by decide +kernel) (by decide +kernel) ?_
  refine j_cV1v g v5_71 ⟨rfl, by decide⟩ (by decide +kernel) (by decide +kernel) (Nat.le_of_ble_eq_true rfl) (rnX3_take (by simp [isS]) (by simp [isS])) ?_
  refine hr.2.2.2 _ _ _ (by decide +kernel) rfl hrv ?_
  · rw [hmm]; unfold w_X5_takeTown_100_300_82; rfl
noncomputable def w_X5_takeTown_100_300 (M : Mm)  : Mm := if (6 : Int32) ≤ ((l_X5_takeTown_100_300_55  ((cpi (cpi (wi (wi (wi M 100 0 (M.1 300 0)) 100 1 ((wi M 100 0 (M.1 300 0)).1 300 1)) 100 2 ((wi (wi M 100 0 (M.1 300 0)) 100 1 ((wi M 100 0 (M.1 300 0)).1 300 1)).1 300 2)) 301 101 0 0 3) 302 102 0 0 6), 0) n6).2) then w_X5_takeTown_100_300_82 ((l_X5_takeTown_100_300_55  ((cpi (cpi (wi (wi (wi M 100 0 (M.1 300 0)) 100 1 ((wi M 100 0 (M.1 300 0)).1 300 1)) 100 2 ((wi (wi M 100 0 (M.1 300 0)) 100 1 ((wi M 100 0 (M.1 300 0)).1 300 1)).1 300 2)) 301 101 0 0 3) 302 102 0 0 6), 0) n6).1)  ((l_X5_takeTown_100_300_55  ((cpi (cpi (wi (wi (wi M 100 0 (M.1 300 0)) 100 1 ((wi M 100 0 (M.1 300 0)).1 300 1)) 100 2 ((wi (wi M 100 0 (M.1 300 0)) 100 1 ((wi M 100 0 (M.1 300 0)).1 300 1)).1 300 2)) 301 101 0 0 3) 302 102 0 0 6), 0) n6).2) else M
def p_X5_takeTown_100_300 (M : Mm)  : Prop := (∀ k, k < n6 → c_X5_takeTown_100_300_55  (l_X5_takeTown_100_300_55  ((cpi (cpi (wi (wi (wi M 100 0 (M.1 300 0)) 100 1 ((wi M 100 0 (M.1 300 0)).1 300 1)) 100 2 ((wi (wi M 100 0 (M.1 300 0)) 100 1 ((wi M 100 0 (M.1 300 0)).1 300 1)).1 300 2)) 301 101 0 0 3) 302 102 0 0 6), 0) k)) ∧ (∀ k, k < n6 → q_X5_takeTown_100_300_55  (l_X5_takeTown_100_300_55  ((cpi (cpi (wi (wi (wi M 100 0 (M.1 300 0)) 100 1 ((wi M 100 0 (M.1 300 0)).1 300 1)) 100 2 ((wi (wi M 100 0 (M.1 300 0)) 100 1 ((wi M 100 0 (M.1 300 0)).1 300 1)).1 300 2)) 301 101 0 0 3) 302 102 0 0 6), 0) k)) ∧ (¬ c_X5_takeTown_100_300_55  (l_X5_takeTown_100_300_55  ((cpi (cpi (wi (wi (wi M 100 0 (M.1 300 0)) 100 1 ((wi M 100 0 (M.1 300 0)).1 300 1)) 100 2 ((wi (wi M 100 0 (M.1 300 0)) 100 1 ((wi M 100 0 (M.1 300 0)).1 300 1)).1 300 2)) 301 101 0 0 3) 302 102 0 0 6), 0) n6)) ∧ (if (6 : Int32) ≤ ((l_X5_takeTown_100_300_55  ((cpi (cpi (wi (wi (wi M 100 0 (M.1 300 0)) 100 1 ((wi M 100 0 (M.1 300 0)).1 300 1)) 100 2 ((wi (wi M 100 0 (M.1 300 0)) 100 1 ((wi M 100 0 (M.1 300 0)).1 300 1)).1 300 2)) 301 101 0 0 3) 302 102 0 0 6), 0) n6).2) then True else True)
set_option maxRecDepth 20000 in
theorem rnX5_takeTown_100_300 {d : Nat} {M : Mm}   (hp : p_X5_takeTown_100_300 M ) : Rn (d + 2) mX5_takeTown [.ref 100, .ref 300] M none (w_X5_takeTown_100_300 M ) := by
  refine Rn.of [some (.ref 100), some (.ref 300), none] (by decide +kernel) rfl (Nat.le_of_ble_eq_true rfl) rfl (fun J g hr => ?_)
  unfold p_X5_takeTown_100_300 at hp
  refine j_aload_n g (i := 0) (by decide +kernel) rfl ?_
  refine j_aload_n g (i := 1) (by decide +kernel) rfl ?_
  refine j_gI g f5_9 (by decide +kernel) (by decide +kernel) (by decide +kernel) ?_
  refine j_pI g f5_9 (fun q h => by cases h; rfl) (by decide +kernel) (by decide +kernel) (by decide +kernel) ?_
  refine j_aload_n g (i := 0) (by decide +kernel) rfl ?_
  refine j_aload_n g (i := 1) (by decide +kernel) rfl ?_
  refine j_gI g f5_15 (by decide +kernel) (by decide +kernel) (by decide +kernel) ?_
  refine j_pI g f5_15 (fun q h => by cases h; rfl) (by decide +kernel) (by decide +kernel) (by decide +kernel) ?_
  refine j_aload_n g (i := 0) (by decide +kernel) rfl ?_
  refine j_aload_n g (i := 1) (by decide +kernel) rfl ?_
  refine j_gI g f5_18 (by decide +kernel) (by decide +kernel) (by decide +kernel) ?_
  refine j_pI g f5_18 (fun q h => by cases h; rfl) (by decide +kernel) (by decide +kernel) (by decide +kernel) ?_
  refine j_aload_n g (i := 1) (by decide +kernel) rfl ?_
  refine j_gA g (b := 301) f5_24 (by decide +kernel) (by decide +kernel) (by decide +kernel) (by decide +kernel) ?_
  refine j_iconst g (n := 0) (0) (by decide +kernel) rfl ?_
  refine j_aload_n g (i := 0) (by decide +kernel) rfl ?_
  refine j_gA g (b := 101) f5_24 (by decide +kernel) (by decide +kernel) (by decide +kernel) (by decide +kernel) ?_
  refine j_iconst g (n := 0) (0) (by decide +kernel) rfl ?_
  refine j_iconst g (n := 3) (3) (by decide +kernel) rfl ?_
  refine j_cp g (3) 3 3 3 t5_57 (by decide +kernel) (by decide) (Nat.le_of_ble_eq_true rfl) (by decide +kernel) (by decide +kernel) (by decide +kernel) (by decide +kernel) ?_
  refine j_aload_n g (i := 1) (by decide +kernel) rfl ?_
  refine j_gA g (b := 302) f5_28 (by decide +kernel) (by decide +kernel) (by decide +kernel) (by decide +kernel) ?_
  refine j_iconst g (n := 0) (0) (by decide +kernel) rfl ?_
  refine j_aload_n g (i := 0) (by decide +kernel) rfl ?_
  refine j_gA g (b := 102) f5_28 (by decide +kernel) (by decide +kernel) (by decide +kernel) (by decide +kernel) ?_
  refine j_iconst g (n := 0) (0) (by decide +kernel) rfl ?_
  refine j_bipush g (n := 6) (6) (by decide +kernel) (by decide +kernel) ?_
  refine j_cp g (6) 6 6 6 t5_57 (by decide +kernel) (by decide) (Nat.le_of_ble_eq_true rfl) (by decide +kernel) (by decide +kernel) (by decide +kernel) (by decide +kernel) ?_
  refine j_iconst g (n := 0) (0) (by decide +kernel) rfl ?_
  refine j_istore_n g (i := 2) (by decide +kernel) (by decide) ?_
  dsimp only [stL, clL, hdL]
  obtain ⟨h0, hp⟩ := hp
  have hc_55_1 := h0
  obtain ⟨h0, hp⟩ := hp
  have hq_55_1 := h0
  obtain ⟨h0, hp⟩ := hp
  have hx_55_1 := h0
  refine sh_X5_takeTown_100_300_55   g (σ0 := ((cpi (cpi (wi (wi (wi M 100 0 (M.1 300 0)) 100 1 ((wi M 100 0 (M.1 300 0)).1 300 1)) 100 2 ((wi (wi M 100 0 (M.1 300 0)) 100 1 ((wi M 100 0 (M.1 300 0)).1 300 1)).1 300 2)) 301 101 0 0 3) 302 102 0 0 6), 0)) n6 hc_55_1 hq_55_1 ?_ 
  refine j_iload_n g (i := 2) (by decide +kernel) rfl ?_
  refine j_bipush g (n := 6) (6) (by decide +kernel) (by decide +kernel) ?_
  refine j_icmp_ge g (off := 24) (tgt := 82) (by decide +kernel) (by decide) (fun c58 => ?_) (fun c58 => ?_)
  · rw [if_pos (show (6 : Int32) ≤ ((l_X5_takeTown_100_300_55  ((cpi (cpi (wi (wi (wi M 100 0 (M.1 300 0)) 100 1 ((wi M 100 0 (M.1 300 0)).1 300 1)) 100 2 ((wi (wi M 100 0 (M.1 300 0)) 100 1 ((wi M 100 0 (M.1 300 0)).1 300 1)).1 300 2)) 301 101 0 0 3) 302 102 0 0 6), 0) n6).2) from c58)] at hp
    refine jn_X5_takeTown_100_300_82  g hr  ?_ ?_ 
    · rfl
    · unfold w_X5_takeTown_100_300; first | (simp only [if_pos (show (6 : Int32) ≤ ((l_X5_takeTown_100_300_55  ((cpi (cpi (wi (wi (wi M 100 0 (M.1 300 0)) 100 1 ((wi M 100 0 (M.1 300 0)).1 300 1)) 100 2 ((wi (wi M 100 0 (M.1 300 0)) 100 1 ((wi M 100 0 (M.1 300 0)).1 300 1)).1 300 2)) 301 101 0 0 3) 302 102 0 0 6), 0) n6).2) from c58)]; done) | (simp only [if_pos (show (6 : Int32) ≤ ((l_X5_takeTown_100_300_55  ((cpi (cpi (wi (wi (wi M 100 0 (M.1 300 0)) 100 1 ((wi M 100 0 (M.1 300 0)).1 300 1)) 100 2 ((wi (wi M 100 0 (M.1 300 0)) 100 1 ((wi M 100 0 (M.1 300 0)).1 300 1)).1 300 2)) 301 101 0 0 3) 302 102 0 0 6), 0) n6).2) from c58)]; rfl) | rfl
  · rw [if_neg (show ¬ ((6 : Int32) ≤ ((l_X5_takeTown_100_300_55  ((cpi (cpi (wi (wi (wi M 100 0 (M.1 300 0)) 100 1 ((wi M 100 0 (M.1 300 0)).1 300 1)) 100 2 ((wi (wi M 100 0 (M.1 300 0)) 100 1 ((wi M 100 0 (M.1 300 0)).1 300 1)).1 300 2)) 301 101 0 0 3) 302 102 0 0 6), 0) n6).2)) from c58)] at hp
    refine absurd (ci_X5_takeTown_100_300_55.mpr ?_) hx_55_1
    simp only [if_neg (show ¬ ((6 : Int32) ≤ ((l_X5_takeTown_100_300_55  ((cpi (cpi (wi (wi (wi M 100 0 (M.1 300 0)) 100 1 ((wi M 100 0 (M.1 300 0)).1 300 1)) 100 2 ((wi (wi M 100 0 (M.1 300 0)) 100 1 ((wi M 100 0 (M.1 300 0)).1 300 1)).1 300 2)) 301 101 0 0 3) 302 102 0 0 6), 0) n6).2)) from c58)]
def c_X5_takeTown_200_100_55  (σ : Mm × Int32) : Prop := if (6 : Int32) ≤ σ.2 then False else True
theorem ci_X5_takeTown_200_100_55   {σ : Mm × Int32} : c_X5_takeTown_200_100_55  σ ↔ (if (6 : Int32) ≤ σ.2 then False else True) := Iff.rfl
noncomputable def s_X5_takeTown_200_100_55  (σ : Mm × Int32) : Mm × Int32 := if (6 : Int32) ≤ σ.2 then σ else ((w_X6_take σ.1 (210 + Int32.toNatClampNeg σ.2) (110 + Int32.toNatClampNeg σ.2)), σ.2 + 1)
def q_X5_takeTown_200_100_55  (σ : Mm × Int32) : Prop := (if (6 : Int32) ≤ σ.2 then True else (vp_in σ.2 6) ∧ (vp_in σ.2 6) ∧ True)
noncomputable def l_X5_takeTown_200_100_55  (σ0 : Mm × Int32) : Nat → Mm × Int32 := itN (fun _ σ => s_X5_takeTown_200_100_55  σ) σ0
theorem ps_X5_takeTown_200_100_55 {d : Nat} {J : Nat → Lc → List Value → Mm → Prop}   {σ : Mm × Int32}  (g : Good mX5_takeTown.1 mX5_takeTown.2.2.1 mX5_takeTown.2.2.2.1 (d + 2) J) (hc : c_X5_takeTown_200_100_55  σ) (hp : q_X5_takeTown_200_100_55  σ) (k : J 55 [some (.ref 200), some (.ref 100), some (.int ((s_X5_takeTown_200_100_55  σ).2))] [] ((s_X5_takeTown_200_100_55  σ).1)) : J 55 [some (.ref 200), some (.ref 100), some (.int σ.2)] [] σ.1 := by
  unfold c_X5_takeTown_200_100_55 at hc
  unfold q_X5_takeTown_200_100_55 at hp
  unfold s_X5_takeTown_200_100_55 at k
  refine j_iload_n g (i := 2) (by decide +kernel) rfl ?_
  refine j_bipush g (n := 6) (6) (by decide +kernel) (by decide +kernel) ?_
  refine j_icmp_ge g (off := 24) (tgt := 82) (by decide +kernel) (by decide) (fun c58 => ?_) (fun c58 => ?_)
  · (try rw [if_pos (show (6 : Int32) ≤ σ.2 from c58)] at hc); (rw [if_pos (show (6 : Int32) ≤ σ.2 from c58)] at hp); (try simp only [if_pos (show (6 : Int32) ≤ σ.2 from c58)] at k)
    exact hc.elim
  · (try rw [if_neg (show ¬ ((6 : Int32) ≤ σ.2) from c58)] at hc); (rw [if_neg (show ¬ ((6 : Int32) ≤ σ.2) from c58)] at hp); (try simp only [if_neg (show ¬ ((6 : Int32) ≤ σ.2) from c58)] at k)
    refine j_aload_n g (i := 0) (by decide +kernel) rfl ?_
    refine j_gA g (b := 203) f5_33 (by decide +kernel) (by decide +kernel) (by decide +kernel) (by decide +kernel) ?_
    refine j_iload_n g (i := 2) (by decide +kernel) rfl ?_
    obtain ⟨h0, hp⟩ := hp
    refine j_aW g 6 (by decide +kernel) (by decide +kernel) (by decide +kernel) h0 (rfW203 h0) ?_
    have hw66 := h0
    refine j_aload_n g (i := 1) (by decide +kernel) rfl ?_
    refine j_gA g (b := 103) f5_33 (by decide +kernel) (by decide +kernel) (by decide +kernel) (by decide +kernel) ?_
    refine j_iload_n g (i := 2) (by decide +kernel) rfl ?_
    obtain ⟨h0, hp⟩ := hp
    refine j_aW g 6 (by decide +kernel) (by decide +kernel) (by decide +kernel) h0 (rfW103 h0) ?_
    have hw72 := h0
    refine j_cV1v g v5_63 ⟨rfl, by decide⟩ (gkW203 hw66) (by decide +kernel) (Nat.le_of_ble_eq_true rfl) (rnX6_take (gkW203 hw66) (gkW103 hw72)) ?_
    refine j_iinc g (i := 2) (n := 1) (1) (by decide +kernel) rfl (by decide) rfl ?_
    dsimp only [stL, clL, hdL]
    refine j_goto g (off := -24) (tgt := 55) (by decide +kernel) (by decide) ?_
    exact k 
theorem sh_X5_takeTown_200_100_55 {d : Nat} {J : Nat → Lc → List Value → Mm → Prop}   {σ0 : Mm × Int32}  (g : Good mX5_takeTown.1 mX5_takeTown.2.2.1 mX5_takeTown.2.2.2.1 (d + 2) J) : ∀ (N : Nat), (∀ k, k < N → c_X5_takeTown_200_100_55  (l_X5_takeTown_200_100_55  σ0 k)) → (∀ k, k < N → q_X5_takeTown_200_100_55  (l_X5_takeTown_200_100_55  σ0 k)) → (J 55 [some (.ref 200), some (.ref 100), some (.int ((l_X5_takeTown_200_100_55  σ0 N).2))] [] ((l_X5_takeTown_200_100_55  σ0 N).1)) → J 55 [some (.ref 200), some (.ref 100), some (.int σ0.2)] [] σ0.1
  | 0, _, _, k => k
  | N + 1, hc, hp, k => sh_X5_takeTown_200_100_55  g N (fun i hi => hc i (Nat.lt_succ_of_lt hi)) (fun i hi => hp i (Nat.lt_succ_of_lt hi)) (ps_X5_takeTown_200_100_55  g (hc N (Nat.lt_succ_self N)) (hp N (Nat.lt_succ_self N)) k)
noncomputable def w_X5_takeTown_200_100_82 (M : Mm)  (x2 : Int32) : Mm := (w_X3_take (w_X5_takeLaws_200_100 M) 1010 1000)
theorem jn_X5_takeTown_200_100_82 {d : Nat} {J : Nat → Lc → List Value → Mm → Prop} {M : Mm}  {x2 : Int32}  (g : Good mX5_takeTown.1 mX5_takeTown.2.2.1 mX5_takeTown.2.2.2.1 (d + 2) J) {rv : Option Value} {M1 : Mm} (hr : Ret mX5_takeTown.2.2.1 mX5_takeTown.2.2.2.2 rv M1 J) (hrv : rv = none) (hmm : M1 = w_X5_takeTown_200_100_82 M  x2) : J 82 [some (.ref 200), some (.ref 100), some (.int x2)] [] M := by
  refine j_aload_n g (i := 0) (by decide +kernel) rfl ?_
  refine j_aload_n g (i := 1) (by decide +kernel) rfl ?_
  refine j_cV1v g v5_67 ⟨rfl, by decide⟩ (by decide +kernel) (by decide +kernel) (Nat.le_of_ble_eq_true rfl) (rnX5_takeLaws_200_100) ?_
  refine j_aload_n g (i := 0) (by decide +kernel) rfl ?_
  refine j_gA g (b := 1010) f5_49 (by decide +kernel) (by decide +kernel) (by decide +kernel) (by decide +kernel) ?_
  refine j_aload_n g (i := 1) (by decide +kernel) rfl ?_
  refine j_gA g (b := 1000) f5_49 (by decide +kernel) (by decide +kernel) (by decide +kernel) (by decide +kernel) ?_
  refine j_cV1v g v5_71 ⟨rfl, by decide⟩ (by decide +kernel) (by decide +kernel) (Nat.le_of_ble_eq_true rfl) (rnX3_take (by simp [isS]) (by simp [isS])) ?_
  refine hr.2.2.2 _ _ _ (by decide +kernel) rfl hrv ?_
  · rw [hmm]; unfold w_X5_takeTown_200_100_82; rfl
noncomputable def w_X5_takeTown_200_100 (M : Mm)  : Mm := if (6 : Int32) ≤ ((l_X5_takeTown_200_100_55  ((cpi (cpi (wi (wi (wi M 200 0 (M.1 100 0)) 200 1 ((wi M 200 0 (M.1 100 0)).1 100 1)) 200 2 ((wi (wi M 200 0 (M.1 100 0)) 200 1 ((wi M 200 0 (M.1 100 0)).1 100 1)).1 100 2)) 101 201 0 0 3) 102 202 0 0 6), 0) n6).2) then w_X5_takeTown_200_100_82 ((l_X5_takeTown_200_100_55  ((cpi (cpi (wi (wi (wi M 200 0 (M.1 100 0)) 200 1 ((wi M 200 0 (M.1 100 0)).1 100 1)) 200 2 ((wi (wi M 200 0 (M.1 100 0)) 200 1 ((wi M 200 0 (M.1 100 0)).1 100 1)).1 100 2)) 101 201 0 0 3) 102 202 0 0 6), 0) n6).1)  ((l_X5_takeTown_200_100_55  ((cpi (cpi (wi (wi (wi M 200 0 (M.1 100 0)) 200 1 ((wi M 200 0 (M.1 100 0)).1 100 1)) 200 2 ((wi (wi M 200 0 (M.1 100 0)) 200 1 ((wi M 200 0 (M.1 100 0)).1 100 1)).1 100 2)) 101 201 0 0 3) 102 202 0 0 6), 0) n6).2) else M
def p_X5_takeTown_200_100 (M : Mm)  : Prop := (∀ k, k < n6 → c_X5_takeTown_200_100_55  (l_X5_takeTown_200_100_55  ((cpi (cpi (wi (wi (wi M 200 0 (M.1 100 0)) 200 1 ((wi M 200 0 (M.1 100 0)).1 100 1)) 200 2 ((wi (wi M 200 0 (M.1 100 0)) 200 1 ((wi M 200 0 (M.1 100 0)).1 100 1)).1 100 2)) 101 201 0 0 3) 102 202 0 0 6), 0) k)) ∧ (∀ k, k < n6 → q_X5_takeTown_200_100_55  (l_X5_takeTown_200_100_55  ((cpi (cpi (wi (wi (wi M 200 0 (M.1 100 0)) 200 1 ((wi M 200 0 (M.1 100 0)).1 100 1)) 200 2 ((wi (wi M 200 0 (M.1 100 0)) 200 1 ((wi M 200 0 (M.1 100 0)).1 100 1)).1 100 2)) 101 201 0 0 3) 102 202 0 0 6), 0) k)) ∧ (¬ c_X5_takeTown_200_100_55  (l_X5_takeTown_200_100_55  ((cpi (cpi (wi (wi (wi M 200 0 (M.1 100 0)) 200 1 ((wi M 200 0 (M.1 100 0)).1 100 1)) 200 2 ((wi (wi M 200 0 (M.1 100 0)) 200 1 ((wi M 200 0 (M.1 100 0)).1 100 1)).1 100 2)) 101 201 0 0 3) 102 202 0 0 6), 0) n6)) ∧ (if (6 : Int32) ≤ ((l_X5_takeTown_200_100_55  ((cpi (cpi (wi (wi (wi M 200 0 (M.1 100 0)) 200 1 ((wi M 200 0 (M.1 100 0)).1 100 1)) 200 2 ((wi (wi M 200 0 (M.1 100 0)) 200 1 ((wi M 200 0 (M.1 100 0)).1 100 1)).1 100 2)) 101 201 0 0 3) 102 202 0 0 6), 0) n6).2) then True else True)
set_option maxRecDepth 20000 in
theorem rnX5_takeTown_200_100 {d : Nat} {M : Mm}   (hp : p_X5_takeTown_200_100 M ) : Rn (d + 2) mX5_takeTown [.ref 200, .ref 100] M none (w_X5_takeTown_200_100 M ) := by
  refine Rn.of [some (.ref 200), some (.ref 100), none] (by decide +kernel) rfl (Nat.le_of_ble_eq_true rfl) rfl (fun J g hr => ?_)
  unfold p_X5_takeTown_200_100 at hp
  refine j_aload_n g (i := 0) (by decide +kernel) rfl ?_
  refine j_aload_n g (i := 1) (by decide +kernel) rfl ?_
  refine j_gI g f5_9 (by decide +kernel) (by decide +kernel) (by decide +kernel) ?_
  refine j_pI g f5_9 (fun q h => by cases h; rfl) (by decide +kernel) (by decide +kernel) (by decide +kernel) ?_
  refine j_aload_n g (i := 0) (by decide +kernel) rfl ?_
  refine j_aload_n g (i := 1) (by decide +kernel) rfl ?_
  refine j_gI g f5_15 (by decide +kernel) (by decide +kernel) (by decide +kernel) ?_
  refine j_pI g f5_15 (fun q h => by cases h; rfl) (by decide +kernel) (by decide +kernel) (by decide +kernel) ?_
  refine j_aload_n g (i := 0) (by decide +kernel) rfl ?_
  refine j_aload_n g (i := 1) (by decide +kernel) rfl ?_
  refine j_gI g f5_18 (by decide +kernel) (by decide +kernel) (by decide +kernel) ?_
  refine j_pI g f5_18 (fun q h => by cases h; rfl) (by decide +kernel) (by decide +kernel) (by decide +kernel) ?_
  refine j_aload_n g (i := 1) (by decide +kernel) rfl ?_
  refine j_gA g (b := 101) f5_24 (by decide +kernel) (by decide +kernel) (by decide +kernel) (by decide +kernel) ?_
  refine j_iconst g (n := 0) (0) (by decide +kernel) rfl ?_
  refine j_aload_n g (i := 0) (by decide +kernel) rfl ?_
  refine j_gA g (b := 201) f5_24 (by decide +kernel) (by decide +kernel) (by decide +kernel) (by decide +kernel) ?_
  refine j_iconst g (n := 0) (0) (by decide +kernel) rfl ?_
  refine j_iconst g (n := 3) (3) (by decide +kernel) rfl ?_
  refine j_cp g (3) 3 3 3 t5_57 (by decide +kernel) (by decide) (Nat.le_of_ble_eq_true rfl) (by decide +kernel) (by decide +kernel) (by decide +kernel) (by decide +kernel) ?_
  refine j_aload_n g (i := 1) (by decide +kernel) rfl ?_
  refine j_gA g (b := 102) f5_28 (by decide +kernel) (by decide +kernel) (by decide +kernel) (by decide +kernel) ?_
  refine j_iconst g (n := 0) (0) (by decide +kernel) rfl ?_
  refine j_aload_n g (i := 0) (by decide +kernel) rfl ?_
  refine j_gA g (b := 202) f5_28 (by decide +kernel) (by decide +kernel) (by decide +kernel) (by decide +kernel) ?_
  refine j_iconst g (n := 0) (0) (by decide +kernel) rfl ?_
  refine j_bipush g (n := 6) (6) (by decide +kernel) (by decide +kernel) ?_
  refine j_cp g (6) 6 6 6 t5_57 (by decide +kernel) (by decide) (Nat.le_of_ble_eq_true rfl) (by decide +kernel) (by decide +kernel) (by decide +kernel) (by decide +kernel) ?_
  refine j_iconst g (n := 0) (0) (by decide +kernel) rfl ?_
  refine j_istore_n g (i := 2) (by decide +kernel) (by decide) ?_
  dsimp only [stL, clL, hdL]
  obtain ⟨h0, hp⟩ := hp
  have hc_55_1 := h0
  obtain ⟨h0, hp⟩ := hp
  have hq_55_1 := h0
  obtain ⟨h0, hp⟩ := hp
  have hx_55_1 := h0
  refine sh_X5_takeTown_200_100_55   g (σ0 := ((cpi (cpi (wi (wi (wi M 200 0 (M.1 100 0)) 200 1 ((wi M 200 0 (M.1 100 0)).1 100 1)) 200 2 ((wi (wi M 200 0 (M.1 100 0)) 200 1 ((wi M 200 0 (M.1 100 0)).1 100 1)).1 100 2)) 101 201 0 0 3) 102 202 0 0 6), 0)) n6 hc_55_1 hq_55_1 ?_ 
  refine j_iload_n g (i := 2) (by decide +kernel) rfl ?_
  refine j_bipush g (n := 6) (6) (by decide +kernel) (by decide +kernel) ?_
  refine j_icmp_ge g (off := 24) (tgt := 82) (by decide +kernel) (by decide) (fun c58 => ?_) (fun c58 => ?_)
  · rw [if_pos (show (6 : Int32) ≤ ((l_X5_takeTown_200_100_55  ((cpi (cpi (wi (wi (wi M 200 0 (M.1 100 0)) 200 1 ((wi M 200 0 (M.1 100 0)).1 100 1)) 200 2 ((wi (wi M 200 0 (M.1 100 0)) 200 1 ((wi M 200 0 (M.1 100 0)).1 100 1)).1 100 2)) 101 201 0 0 3) 102 202 0 0 6), 0) n6).2) from c58)] at hp
    refine jn_X5_takeTown_200_100_82  g hr  ?_ ?_ 
    · rfl
    · unfold w_X5_takeTown_200_100; first | (simp only [if_pos (show (6 : Int32) ≤ ((l_X5_takeTown_200_100_55  ((cpi (cpi (wi (wi (wi M 200 0 (M.1 100 0)) 200 1 ((wi M 200 0 (M.1 100 0)).1 100 1)) 200 2 ((wi (wi M 200 0 (M.1 100 0)) 200 1 ((wi M 200 0 (M.1 100 0)).1 100 1)).1 100 2)) 101 201 0 0 3) 102 202 0 0 6), 0) n6).2) from c58)]; done) | (simp only [if_pos (show (6 : Int32) ≤ ((l_X5_takeTown_200_100_55  ((cpi (cpi (wi (wi (wi M 200 0 (M.1 100 0)) 200 1 ((wi M 200 0 (M.1 100 0)).1 100 1)) 200 2 ((wi (wi M 200 0 (M.1 100 0)) 200 1 ((wi M 200 0 (M.1 100 0)).1 100 1)).1 100 2)) 101 201 0 0 3) 102 202 0 0 6), 0) n6).2) from c58)]; rfl) | rfl
  · rw [if_neg (show ¬ ((6 : Int32) ≤ ((l_X5_takeTown_200_100_55  ((cpi (cpi (wi (wi (wi M 200 0 (M.1 100 0)) 200 1 ((wi M 200 0 (M.1 100 0)).1 100 1)) 200 2 ((wi (wi M 200 0 (M.1 100 0)) 200 1 ((wi M 200 0 (M.1 100 0)).1 100 1)).1 100 2)) 101 201 0 0 3) 102 202 0 0 6), 0) n6).2)) from c58)] at hp
    refine absurd (ci_X5_takeTown_200_100_55.mpr ?_) hx_55_1
    simp only [if_neg (show ¬ ((6 : Int32) ≤ ((l_X5_takeTown_200_100_55  ((cpi (cpi (wi (wi (wi M 200 0 (M.1 100 0)) 200 1 ((wi M 200 0 (M.1 100 0)).1 100 1)) 200 2 ((wi (wi M 200 0 (M.1 100 0)) 200 1 ((wi M 200 0 (M.1 100 0)).1 100 1)).1 100 2)) 101 201 0 0 3) 102 202 0 0 6), 0) n6).2)) from c58)]
def c_X5_takeTown_100_200_55  (σ : Mm × Int32) : Prop := if (6 : Int32) ≤ σ.2 then False else True
theorem ci_X5_takeTown_100_200_55   {σ : Mm × Int32} : c_X5_takeTown_100_200_55  σ ↔ (if (6 : Int32) ≤ σ.2 then False else True) := Iff.rfl
noncomputable def s_X5_takeTown_100_200_55  (σ : Mm × Int32) : Mm × Int32 := if (6 : Int32) ≤ σ.2 then σ else ((w_X6_take σ.1 (110 + Int32.toNatClampNeg σ.2) (210 + Int32.toNatClampNeg σ.2)), σ.2 + 1)
def q_X5_takeTown_100_200_55  (σ : Mm × Int32) : Prop := (if (6 : Int32) ≤ σ.2 then True else (vp_in σ.2 6) ∧ (vp_in σ.2 6) ∧ True)
noncomputable def l_X5_takeTown_100_200_55  (σ0 : Mm × Int32) : Nat → Mm × Int32 := itN (fun _ σ => s_X5_takeTown_100_200_55  σ) σ0
theorem ps_X5_takeTown_100_200_55 {d : Nat} {J : Nat → Lc → List Value → Mm → Prop}   {σ : Mm × Int32}  (g : Good mX5_takeTown.1 mX5_takeTown.2.2.1 mX5_takeTown.2.2.2.1 (d + 2) J) (hc : c_X5_takeTown_100_200_55  σ) (hp : q_X5_takeTown_100_200_55  σ) (k : J 55 [some (.ref 100), some (.ref 200), some (.int ((s_X5_takeTown_100_200_55  σ).2))] [] ((s_X5_takeTown_100_200_55  σ).1)) : J 55 [some (.ref 100), some (.ref 200), some (.int σ.2)] [] σ.1 := by
  unfold c_X5_takeTown_100_200_55 at hc
  unfold q_X5_takeTown_100_200_55 at hp
  unfold s_X5_takeTown_100_200_55 at k
  refine j_iload_n g (i := 2) (by decide +kernel) rfl ?_
  refine j_bipush g (n := 6) (6) (by decide +kernel) (by decide +kernel) ?_
  refine j_icmp_ge g (off := 24) (tgt := 82) (by decide +kernel) (by decide) (fun c58 => ?_) (fun c58 => ?_)
  · (try rw [if_pos (show (6 : Int32) ≤ σ.2 from c58)] at hc); (rw [if_pos (show (6 : Int32) ≤ σ.2 from c58)] at hp); (try simp only [if_pos (show (6 : Int32) ≤ σ.2 from c58)] at k)
    exact hc.elim
  · (try rw [if_neg (show ¬ ((6 : Int32) ≤ σ.2) from c58)] at hc); (rw [if_neg (show ¬ ((6 : Int32) ≤ σ.2) from c58)] at hp); (try simp only [if_neg (show ¬ ((6 : Int32) ≤ σ.2) from c58)] at k)
    refine j_aload_n g (i := 0) (by decide +kernel) rfl ?_
    refine j_gA g (b := 103) f5_33 (by decide +kernel) (by decide +kernel) (by decide +kernel) (by decide +kernel) ?_
    refine j_iload_n g (i := 2) (by decide +kernel) rfl ?_
    obtain ⟨h0, hp⟩ := hp
    refine j_aW g 6 (by decide +kernel) (by decide +kernel) (by decide +kernel) h0 (rfW103 h0) ?_
    have hw66 := h0
    refine j_aload_n g (i := 1) (by decide +kernel) rfl ?_
    refine j_gA g (b := 203) f5_33 (by decide +kernel) (by decide +kernel) (by decide +kernel) (by decide +kernel) ?_
    refine j_iload_n g (i := 2) (by decide +kernel) rfl ?_
    obtain ⟨h0, hp⟩ := hp
    refine j_aW g 6 (by decide +kernel) (by decide +kernel) (by decide +kernel) h0 (rfW203 h0) ?_
    have hw72 := h0
    refine j_cV1v g v5_63 ⟨rfl, by decide⟩ (gkW103 hw66) (by decide +kernel) (Nat.le_of_ble_eq_true rfl) (rnX6_take (gkW103 hw66) (gkW203 hw72)) ?_
    refine j_iinc g (i := 2) (n := 1) (1) (by decide +kernel) rfl (by decide) rfl ?_
    dsimp only [stL, clL, hdL]
    refine j_goto g (off := -24) (tgt := 55) (by decide +kernel) (by decide) ?_
    exact k 
theorem sh_X5_takeTown_100_200_55 {d : Nat} {J : Nat → Lc → List Value → Mm → Prop}   {σ0 : Mm × Int32}  (g : Good mX5_takeTown.1 mX5_takeTown.2.2.1 mX5_takeTown.2.2.2.1 (d + 2) J) : ∀ (N : Nat), (∀ k, k < N → c_X5_takeTown_100_200_55  (l_X5_takeTown_100_200_55  σ0 k)) → (∀ k, k < N → q_X5_takeTown_100_200_55  (l_X5_takeTown_100_200_55  σ0 k)) → (J 55 [some (.ref 100), some (.ref 200), some (.int ((l_X5_takeTown_100_200_55  σ0 N).2))] [] ((l_X5_takeTown_100_200_55  σ0 N).1)) → J 55 [some (.ref 100), some (.ref 200), some (.int σ0.2)] [] σ0.1
  | 0, _, _, k => k
  | N + 1, hc, hp, k => sh_X5_takeTown_100_200_55  g N (fun i hi => hc i (Nat.lt_succ_of_lt hi)) (fun i hi => hp i (Nat.lt_succ_of_lt hi)) (ps_X5_takeTown_100_200_55  g (hc N (Nat.lt_succ_self N)) (hp N (Nat.lt_succ_self N)) k)
noncomputable def w_X5_takeTown_100_200_82 (M : Mm)  (x2 : Int32) : Mm := (w_X3_take (w_X5_takeLaws_100_200 M) 1000 1010)
theorem jn_X5_takeTown_100_200_82 {d : Nat} {J : Nat → Lc → List Value → Mm → Prop} {M : Mm}  {x2 : Int32}  (g : Good mX5_takeTown.1 mX5_takeTown.2.2.1 mX5_takeTown.2.2.2.1 (d + 2) J) {rv : Option Value} {M1 : Mm} (hr : Ret mX5_takeTown.2.2.1 mX5_takeTown.2.2.2.2 rv M1 J) (hrv : rv = none) (hmm : M1 = w_X5_takeTown_100_200_82 M  x2) : J 82 [some (.ref 100), some (.ref 200), some (.int x2)] [] M := by
  refine j_aload_n g (i := 0) (by decide +kernel) rfl ?_
  refine j_aload_n g (i := 1) (by decide +kernel) rfl ?_
  refine j_cV1v g v5_67 ⟨rfl, by decide⟩ (by decide +kernel) (by decide +kernel) (Nat.le_of_ble_eq_true rfl) (rnX5_takeLaws_100_200) ?_
  refine j_aload_n g (i := 0) (by decide +kernel) rfl ?_
  refine j_gA g (b := 1000) f5_49 (by decide +kernel) (by decide +kernel) (by decide +kernel) (by decide +kernel) ?_
  refine j_aload_n g (i := 1) (by decide +kernel) rfl ?_
  refine j_gA g (b := 1010) f5_49 (by decide +kernel) (by decide +kernel) (by decide +kernel) (by decide +kernel) ?_
  refine j_cV1v g v5_71 ⟨rfl, by decide⟩ (by decide +kernel) (by decide +kernel) (Nat.le_of_ble_eq_true rfl) (rnX3_take (by simp [isS]) (by simp [isS])) ?_
  refine hr.2.2.2 _ _ _ (by decide +kernel) rfl hrv ?_
  · rw [hmm]; unfold w_X5_takeTown_100_200_82; rfl
noncomputable def w_X5_takeTown_100_200 (M : Mm)  : Mm := if (6 : Int32) ≤ ((l_X5_takeTown_100_200_55  ((cpi (cpi (wi (wi (wi M 100 0 (M.1 200 0)) 100 1 ((wi M 100 0 (M.1 200 0)).1 200 1)) 100 2 ((wi (wi M 100 0 (M.1 200 0)) 100 1 ((wi M 100 0 (M.1 200 0)).1 200 1)).1 200 2)) 201 101 0 0 3) 202 102 0 0 6), 0) n6).2) then w_X5_takeTown_100_200_82 ((l_X5_takeTown_100_200_55  ((cpi (cpi (wi (wi (wi M 100 0 (M.1 200 0)) 100 1 ((wi M 100 0 (M.1 200 0)).1 200 1)) 100 2 ((wi (wi M 100 0 (M.1 200 0)) 100 1 ((wi M 100 0 (M.1 200 0)).1 200 1)).1 200 2)) 201 101 0 0 3) 202 102 0 0 6), 0) n6).1)  ((l_X5_takeTown_100_200_55  ((cpi (cpi (wi (wi (wi M 100 0 (M.1 200 0)) 100 1 ((wi M 100 0 (M.1 200 0)).1 200 1)) 100 2 ((wi (wi M 100 0 (M.1 200 0)) 100 1 ((wi M 100 0 (M.1 200 0)).1 200 1)).1 200 2)) 201 101 0 0 3) 202 102 0 0 6), 0) n6).2) else M
def p_X5_takeTown_100_200 (M : Mm)  : Prop := (∀ k, k < n6 → c_X5_takeTown_100_200_55  (l_X5_takeTown_100_200_55  ((cpi (cpi (wi (wi (wi M 100 0 (M.1 200 0)) 100 1 ((wi M 100 0 (M.1 200 0)).1 200 1)) 100 2 ((wi (wi M 100 0 (M.1 200 0)) 100 1 ((wi M 100 0 (M.1 200 0)).1 200 1)).1 200 2)) 201 101 0 0 3) 202 102 0 0 6), 0) k)) ∧ (∀ k, k < n6 → q_X5_takeTown_100_200_55  (l_X5_takeTown_100_200_55  ((cpi (cpi (wi (wi (wi M 100 0 (M.1 200 0)) 100 1 ((wi M 100 0 (M.1 200 0)).1 200 1)) 100 2 ((wi (wi M 100 0 (M.1 200 0)) 100 1 ((wi M 100 0 (M.1 200 0)).1 200 1)).1 200 2)) 201 101 0 0 3) 202 102 0 0 6), 0) k)) ∧ (¬ c_X5_takeTown_100_200_55  (l_X5_takeTown_100_200_55  ((cpi (cpi (wi (wi (wi M 100 0 (M.1 200 0)) 100 1 ((wi M 100 0 (M.1 200 0)).1 200 1)) 100 2 ((wi (wi M 100 0 (M.1 200 0)) 100 1 ((wi M 100 0 (M.1 200 0)).1 200 1)).1 200 2)) 201 101 0 0 3) 202 102 0 0 6), 0) n6)) ∧ (if (6 : Int32) ≤ ((l_X5_takeTown_100_200_55  ((cpi (cpi (wi (wi (wi M 100 0 (M.1 200 0)) 100 1 ((wi M 100 0 (M.1 200 0)).1 200 1)) 100 2 ((wi (wi M 100 0 (M.1 200 0)) 100 1 ((wi M 100 0 (M.1 200 0)).1 200 1)).1 200 2)) 201 101 0 0 3) 202 102 0 0 6), 0) n6).2) then True else True)
set_option maxRecDepth 20000 in
theorem rnX5_takeTown_100_200 {d : Nat} {M : Mm}   (hp : p_X5_takeTown_100_200 M ) : Rn (d + 2) mX5_takeTown [.ref 100, .ref 200] M none (w_X5_takeTown_100_200 M ) := by
  refine Rn.of [some (.ref 100), some (.ref 200), none] (by decide +kernel) rfl (Nat.le_of_ble_eq_true rfl) rfl (fun J g hr => ?_)
  unfold p_X5_takeTown_100_200 at hp
  refine j_aload_n g (i := 0) (by decide +kernel) rfl ?_
  refine j_aload_n g (i := 1) (by decide +kernel) rfl ?_
  refine j_gI g f5_9 (by decide +kernel) (by decide +kernel) (by decide +kernel) ?_
  refine j_pI g f5_9 (fun q h => by cases h; rfl) (by decide +kernel) (by decide +kernel) (by decide +kernel) ?_
  refine j_aload_n g (i := 0) (by decide +kernel) rfl ?_
  refine j_aload_n g (i := 1) (by decide +kernel) rfl ?_
  refine j_gI g f5_15 (by decide +kernel) (by decide +kernel) (by decide +kernel) ?_
  refine j_pI g f5_15 (fun q h => by cases h; rfl) (by decide +kernel) (by decide +kernel) (by decide +kernel) ?_
  refine j_aload_n g (i := 0) (by decide +kernel) rfl ?_
  refine j_aload_n g (i := 1) (by decide +kernel) rfl ?_
  refine j_gI g f5_18 (by decide +kernel) (by decide +kernel) (by decide +kernel) ?_
  refine j_pI g f5_18 (fun q h => by cases h; rfl) (by decide +kernel) (by decide +kernel) (by decide +kernel) ?_
  refine j_aload_n g (i := 1) (by decide +kernel) rfl ?_
  refine j_gA g (b := 201) f5_24 (by decide +kernel) (by decide +kernel) (by decide +kernel) (by decide +kernel) ?_
  refine j_iconst g (n := 0) (0) (by decide +kernel) rfl ?_
  refine j_aload_n g (i := 0) (by decide +kernel) rfl ?_
  refine j_gA g (b := 101) f5_24 (by decide +kernel) (by decide +kernel) (by decide +kernel) (by decide +kernel) ?_
  refine j_iconst g (n := 0) (0) (by decide +kernel) rfl ?_
  refine j_iconst g (n := 3) (3) (by decide +kernel) rfl ?_
  refine j_cp g (3) 3 3 3 t5_57 (by decide +kernel) (by decide) (Nat.le_of_ble_eq_true rfl) (by decide +kernel) (by decide +kernel) (by decide +kernel) (by decide +kernel) ?_
  refine j_aload_n g (i := 1) (by decide +kernel) rfl ?_
  refine j_gA g (b := 202) f5_28 (by decide +kernel) (by decide +kernel) (by decide +kernel) (by decide +kernel) ?_
  refine j_iconst g (n := 0) (0) (by decide +kernel) rfl ?_
  refine j_aload_n g (i := 0) (by decide +kernel) rfl ?_
  refine j_gA g (b := 102) f5_28 (by decide +kernel) (by decide +kernel) (by decide +kernel) (by decide +kernel) ?_
  refine j_iconst g (n := 0) (0) (by decide +kernel) rfl ?_
  refine j_bipush g (n := 6) (6) (by decide +kernel) (by decide +kernel) ?_
  refine j_cp g (6) 6 6 6 t5_57 (by decide +kernel) (by decide) (Nat.le_of_ble_eq_true rfl) (by decide +kernel) (by decide +kernel) (by decide +kernel) (by decide +kernel) ?_
  refine j_iconst g (n := 0) (0) (by decide +kernel) rfl ?_
  refine j_istore_n g (i := 2) (by decide +kernel) (by decide) ?_
  dsimp only [stL, clL, hdL]
  obtain ⟨h0, hp⟩ := hp
  have hc_55_1 := h0
  obtain ⟨h0, hp⟩ := hp
  have hq_55_1 := h0
  obtain ⟨h0, hp⟩ := hp
  have hx_55_1 := h0
  refine sh_X5_takeTown_100_200_55   g (σ0 := ((cpi (cpi (wi (wi (wi M 100 0 (M.1 200 0)) 100 1 ((wi M 100 0 (M.1 200 0)).1 200 1)) 100 2 ((wi (wi M 100 0 (M.1 200 0)) 100 1 ((wi M 100 0 (M.1 200 0)).1 200 1)).1 200 2)) 201 101 0 0 3) 202 102 0 0 6), 0)) n6 hc_55_1 hq_55_1 ?_ 
  refine j_iload_n g (i := 2) (by decide +kernel) rfl ?_
  refine j_bipush g (n := 6) (6) (by decide +kernel) (by decide +kernel) ?_
  refine j_icmp_ge g (off := 24) (tgt := 82) (by decide +kernel) (by decide) (fun c58 => ?_) (fun c58 => ?_)
  · rw [if_pos (show (6 : Int32) ≤ ((l_X5_takeTown_100_200_55  ((cpi (cpi (wi (wi (wi M 100 0 (M.1 200 0)) 100 1 ((wi M 100 0 (M.1 200 0)).1 200 1)) 100 2 ((wi (wi M 100 0 (M.1 200 0)) 100 1 ((wi M 100 0 (M.1 200 0)).1 200 1)).1 200 2)) 201 101 0 0 3) 202 102 0 0 6), 0) n6).2) from c58)] at hp
    refine jn_X5_takeTown_100_200_82  g hr  ?_ ?_ 
    · rfl
    · unfold w_X5_takeTown_100_200; first | (simp only [if_pos (show (6 : Int32) ≤ ((l_X5_takeTown_100_200_55  ((cpi (cpi (wi (wi (wi M 100 0 (M.1 200 0)) 100 1 ((wi M 100 0 (M.1 200 0)).1 200 1)) 100 2 ((wi (wi M 100 0 (M.1 200 0)) 100 1 ((wi M 100 0 (M.1 200 0)).1 200 1)).1 200 2)) 201 101 0 0 3) 202 102 0 0 6), 0) n6).2) from c58)]; done) | (simp only [if_pos (show (6 : Int32) ≤ ((l_X5_takeTown_100_200_55  ((cpi (cpi (wi (wi (wi M 100 0 (M.1 200 0)) 100 1 ((wi M 100 0 (M.1 200 0)).1 200 1)) 100 2 ((wi (wi M 100 0 (M.1 200 0)) 100 1 ((wi M 100 0 (M.1 200 0)).1 200 1)).1 200 2)) 201 101 0 0 3) 202 102 0 0 6), 0) n6).2) from c58)]; rfl) | rfl
  · rw [if_neg (show ¬ ((6 : Int32) ≤ ((l_X5_takeTown_100_200_55  ((cpi (cpi (wi (wi (wi M 100 0 (M.1 200 0)) 100 1 ((wi M 100 0 (M.1 200 0)).1 200 1)) 100 2 ((wi (wi M 100 0 (M.1 200 0)) 100 1 ((wi M 100 0 (M.1 200 0)).1 200 1)).1 200 2)) 201 101 0 0 3) 202 102 0 0 6), 0) n6).2)) from c58)] at hp
    refine absurd (ci_X5_takeTown_100_200_55.mpr ?_) hx_55_1
    simp only [if_neg (show ¬ ((6 : Int32) ≤ ((l_X5_takeTown_100_200_55  ((cpi (cpi (wi (wi (wi M 100 0 (M.1 200 0)) 100 1 ((wi M 100 0 (M.1 200 0)).1 200 1)) 100 2 ((wi (wi M 100 0 (M.1 200 0)) 100 1 ((wi M 100 0 (M.1 200 0)).1 200 1)).1 200 2)) 201 101 0 0 3) 202 102 0 0 6), 0) n6).2)) from c58)]
noncomputable def w_X5_takeAll_200_100 (M : Mm)  : Mm := (cpi (cpi (wi (w_X5_takeTown_200_100 M) 200 3 ((w_X5_takeTown_200_100 M).1 100 3)) 105 205 0 0 4) 106 206 0 0 4)
def p_X5_takeAll_200_100 (M : Mm)  : Prop := (p_X5_takeTown_200_100 M ) ∧ True
set_option maxRecDepth 20000 in
theorem rnX5_takeAll_200_100 {d : Nat} {M : Mm}   (hp : p_X5_takeAll_200_100 M ) : Rn (d + 3) mX5_takeAll [.ref 200, .ref 100] M none (w_X5_takeAll_200_100 M ) := by
  refine Rn.of [some (.ref 200), some (.ref 100)] (by decide +kernel) rfl (Nat.le_of_ble_eq_true rfl) rfl (fun J g hr => ?_)
  unfold p_X5_takeAll_200_100 at hp
  refine j_aload_n g (i := 0) (by decide +kernel) rfl ?_
  refine j_aload_n g (i := 1) (by decide +kernel) rfl ?_
  obtain ⟨h0, hp⟩ := hp
  refine j_cV1v g v5_74 ⟨rfl, by decide⟩ (by decide +kernel) (by decide +kernel) (Nat.le_of_ble_eq_true rfl) (rnX5_takeTown_200_100 h0) ?_
  refine j_aload_n g (i := 0) (by decide +kernel) rfl ?_
  refine j_aload_n g (i := 1) (by decide +kernel) rfl ?_
  refine j_gI g f5_21 (by decide +kernel) (by decide +kernel) (by decide +kernel) ?_
  refine j_pI g f5_21 (fun q h => by cases h; rfl) (by decide +kernel) (by decide +kernel) (by decide +kernel) ?_
  refine j_aload_n g (i := 1) (by decide +kernel) rfl ?_
  refine j_gA g (b := 105) f5_40 (by decide +kernel) (by decide +kernel) (by decide +kernel) (by decide +kernel) ?_
  refine j_iconst g (n := 0) (0) (by decide +kernel) rfl ?_
  refine j_aload_n g (i := 0) (by decide +kernel) rfl ?_
  refine j_gA g (b := 205) f5_40 (by decide +kernel) (by decide +kernel) (by decide +kernel) (by decide +kernel) ?_
  refine j_iconst g (n := 0) (0) (by decide +kernel) rfl ?_
  refine j_iconst g (n := 4) (4) (by decide +kernel) rfl ?_
  refine j_cp g (4) 4 4 4 t5_57 (by decide +kernel) (by decide) (Nat.le_of_ble_eq_true rfl) (by decide +kernel) (by decide +kernel) (by decide +kernel) (by decide +kernel) ?_
  refine j_aload_n g (i := 1) (by decide +kernel) rfl ?_
  refine j_gA g (b := 106) f5_43 (by decide +kernel) (by decide +kernel) (by decide +kernel) (by decide +kernel) ?_
  refine j_iconst g (n := 0) (0) (by decide +kernel) rfl ?_
  refine j_aload_n g (i := 0) (by decide +kernel) rfl ?_
  refine j_gA g (b := 206) f5_43 (by decide +kernel) (by decide +kernel) (by decide +kernel) (by decide +kernel) ?_
  refine j_iconst g (n := 0) (0) (by decide +kernel) rfl ?_
  refine j_iconst g (n := 4) (4) (by decide +kernel) rfl ?_
  refine j_cp g (4) 4 4 4 t5_57 (by decide +kernel) (by decide) (Nat.le_of_ble_eq_true rfl) (by decide +kernel) (by decide +kernel) (by decide +kernel) (by decide +kernel) ?_
  refine hr.2.2.2 _ _ _ (by decide +kernel) rfl rfl ?_
  · unfold w_X5_takeAll_200_100; rfl
noncomputable def w_X5_takeAll_100_200 (M : Mm)  : Mm := (cpi (cpi (wi (w_X5_takeTown_100_200 M) 100 3 ((w_X5_takeTown_100_200 M).1 200 3)) 205 105 0 0 4) 206 106 0 0 4)
def p_X5_takeAll_100_200 (M : Mm)  : Prop := (p_X5_takeTown_100_200 M ) ∧ True
set_option maxRecDepth 20000 in
theorem rnX5_takeAll_100_200 {d : Nat} {M : Mm}   (hp : p_X5_takeAll_100_200 M ) : Rn (d + 3) mX5_takeAll [.ref 100, .ref 200] M none (w_X5_takeAll_100_200 M ) := by
  refine Rn.of [some (.ref 100), some (.ref 200)] (by decide +kernel) rfl (Nat.le_of_ble_eq_true rfl) rfl (fun J g hr => ?_)
  unfold p_X5_takeAll_100_200 at hp
  refine j_aload_n g (i := 0) (by decide +kernel) rfl ?_
  refine j_aload_n g (i := 1) (by decide +kernel) rfl ?_
  obtain ⟨h0, hp⟩ := hp
  refine j_cV1v g v5_74 ⟨rfl, by decide⟩ (by decide +kernel) (by decide +kernel) (Nat.le_of_ble_eq_true rfl) (rnX5_takeTown_100_200 h0) ?_
  refine j_aload_n g (i := 0) (by decide +kernel) rfl ?_
  refine j_aload_n g (i := 1) (by decide +kernel) rfl ?_
  refine j_gI g f5_21 (by decide +kernel) (by decide +kernel) (by decide +kernel) ?_
  refine j_pI g f5_21 (fun q h => by cases h; rfl) (by decide +kernel) (by decide +kernel) (by decide +kernel) ?_
  refine j_aload_n g (i := 1) (by decide +kernel) rfl ?_
  refine j_gA g (b := 205) f5_40 (by decide +kernel) (by decide +kernel) (by decide +kernel) (by decide +kernel) ?_
  refine j_iconst g (n := 0) (0) (by decide +kernel) rfl ?_
  refine j_aload_n g (i := 0) (by decide +kernel) rfl ?_
  refine j_gA g (b := 105) f5_40 (by decide +kernel) (by decide +kernel) (by decide +kernel) (by decide +kernel) ?_
  refine j_iconst g (n := 0) (0) (by decide +kernel) rfl ?_
  refine j_iconst g (n := 4) (4) (by decide +kernel) rfl ?_
  refine j_cp g (4) 4 4 4 t5_57 (by decide +kernel) (by decide) (Nat.le_of_ble_eq_true rfl) (by decide +kernel) (by decide +kernel) (by decide +kernel) (by decide +kernel) ?_
  refine j_aload_n g (i := 1) (by decide +kernel) rfl ?_
  refine j_gA g (b := 206) f5_43 (by decide +kernel) (by decide +kernel) (by decide +kernel) (by decide +kernel) ?_
  refine j_iconst g (n := 0) (0) (by decide +kernel) rfl ?_
  refine j_aload_n g (i := 0) (by decide +kernel) rfl ?_
  refine j_gA g (b := 106) f5_43 (by decide +kernel) (by decide +kernel) (by decide +kernel) (by decide +kernel) ?_
  refine j_iconst g (n := 0) (0) (by decide +kernel) rfl ?_
  refine j_iconst g (n := 4) (4) (by decide +kernel) rfl ?_
  refine j_cp g (4) 4 4 4 t5_57 (by decide +kernel) (by decide) (Nat.le_of_ble_eq_true rfl) (by decide +kernel) (by decide +kernel) (by decide +kernel) (by decide +kernel) ?_
  refine hr.2.2.2 _ _ _ (by decide +kernel) rfl rfl ?_
  · unfold w_X5_takeAll_100_200; rfl
noncomputable def r_X7_keep (M : Mm)  : Int32 := 1
noncomputable def w_X7_keep (M : Mm)  : Mm := (wi (w_X5_takeAll_200_100 M) 1 9 1)
def p_X7_keep (M : Mm)  : Prop := (p_X5_takeAll_200_100 M ) ∧ True
set_option maxRecDepth 20000 in
theorem rnX7_keep {d : Nat} {M : Mm}   (hp : p_X7_keep M ) : Rn (d + 4) mX7_keep [.ref 1] M (some (.int (r_X7_keep M ))) (w_X7_keep M ) := by
  refine Rn.of [some (.ref 1)] (by decide +kernel) rfl (Nat.le_of_ble_eq_true rfl) rfl (fun J g hr => ?_)
  unfold p_X7_keep at hp
  refine j_aload_n g (i := 0) (by decide +kernel) rfl ?_
  refine j_gA g (b := 200) f7_24 (by decide +kernel) (by decide +kernel) (by decide +kernel) (by decide +kernel) ?_
  refine j_aload_n g (i := 0) (by decide +kernel) rfl ?_
  refine j_gA g (b := 100) f7_20 (by decide +kernel) (by decide +kernel) (by decide +kernel) (by decide +kernel) ?_
  obtain ⟨h0, hp⟩ := hp
  refine j_cV1v g v7_318 ⟨rfl, by decide⟩ (by decide +kernel) (by decide +kernel) (Nat.le_of_ble_eq_true rfl) (rnX5_takeAll_200_100 h0) ?_
  refine j_aload_n g (i := 0) (by decide +kernel) rfl ?_
  refine j_iconst g (n := 1) (1) (by decide +kernel) rfl ?_
  refine j_pZ g f7_59 (fun q h => by cases h; rfl) (by decide +kernel) (by decide +kernel) (by decide +kernel) (by decide) ?_
  refine j_iconst g (n := 1) (1) (by decide +kernel) rfl ?_
  refine hr.1 _ _ _ _ (by decide +kernel) ⟨_, rfl, by first | rfl | exact b2i_nar | decide +kernel⟩ ?_ ?_
  · unfold r_X7_keep; rfl
  · unfold w_X7_keep; rfl
noncomputable def r_X7_again (M : Mm)  : Int32 := if ¬ (M.1 1 9) = 0 then (w_X5_takeAll_100_200 M).1 100 2 else (-3)
noncomputable def w_X7_again (M : Mm)  : Mm := if ¬ (M.1 1 9) = 0 then (w_X5_takeAll_100_200 M) else M
def p_X7_again (M : Mm)  : Prop := (if ¬ (M.1 1 9) = 0 then (p_X5_takeAll_100_200 M ) ∧ True else True)
set_option maxRecDepth 20000 in
theorem rnX7_again {d : Nat} {M : Mm}   (hp : p_X7_again M ) : Rn (d + 4) mX7_again [.ref 1] M (some (.int (r_X7_again M ))) (w_X7_again M ) := by
  refine Rn.of [some (.ref 1)] (by decide +kernel) rfl (Nat.le_of_ble_eq_true rfl) rfl (fun J g hr => ?_)
  unfold p_X7_again at hp
  refine j_aload_n g (i := 0) (by decide +kernel) rfl ?_
  refine j_gI g f7_59 (by decide +kernel) (by decide +kernel) (by decide +kernel) ?_
  refine j_if_ne g (off := 6) (tgt := 10) (by decide +kernel) (by decide) (fun c4 => ?_) (fun c4 => ?_)
  · rw [if_pos (show ¬ (M.1 1 9) = 0 from c4)] at hp
    refine j_aload_n g (i := 0) (by decide +kernel) rfl ?_
    refine j_gA g (b := 100) f7_20 (by decide +kernel) (by decide +kernel) (by decide +kernel) (by decide +kernel) ?_
    refine j_aload_n g (i := 0) (by decide +kernel) rfl ?_
    refine j_gA g (b := 200) f7_24 (by decide +kernel) (by decide +kernel) (by decide +kernel) (by decide +kernel) ?_
    obtain ⟨h0, hp⟩ := hp
    refine j_cV1v g v7_318 ⟨rfl, by decide⟩ (by decide +kernel) (by decide +kernel) (Nat.le_of_ble_eq_true rfl) (rnX5_takeAll_100_200 h0) ?_
    refine j_aload_n g (i := 0) (by decide +kernel) rfl ?_
    refine j_gA g (b := 100) f7_20 (by decide +kernel) (by decide +kernel) (by decide +kernel) (by decide +kernel) ?_
    refine j_gI g f7_84 (by decide +kernel) (by decide +kernel) (by decide +kernel) ?_
    refine hr.1 _ _ _ _ (by decide +kernel) ⟨_, rfl, by first | rfl | exact b2i_nar | decide +kernel⟩ ?_ ?_
    · unfold r_X7_again; first | (simp only [if_pos (show ¬ (M.1 1 9) = 0 from c4)]; done) | (simp only [if_pos (show ¬ (M.1 1 9) = 0 from c4)]; rfl) | rfl
    · unfold w_X7_again; first | (simp only [if_pos (show ¬ (M.1 1 9) = 0 from c4)]; done) | (simp only [if_pos (show ¬ (M.1 1 9) = 0 from c4)]; rfl) | rfl
  · rw [if_neg (show ¬ (¬ (M.1 1 9) = 0) from c4)] at hp
    refine j_bipush g (n := -3) (-3) (by decide +kernel) (by decide +kernel) ?_
    refine hr.1 _ _ _ _ (by decide +kernel) ⟨_, rfl, by first | rfl | exact b2i_nar | decide +kernel⟩ ?_ ?_
    · unfold r_X7_again; first | (simp only [if_neg (show ¬ (¬ (M.1 1 9) = 0) from c4)]; done) | (simp only [if_neg (show ¬ (¬ (M.1 1 9) = 0) from c4)]; rfl) | rfl
    · unfold w_X7_again; first | (simp only [if_neg (show ¬ (¬ (M.1 1 9) = 0) from c4)]; done) | (simp only [if_neg (show ¬ (¬ (M.1 1 9) = 0) from c4)]; rfl) | rfl
def c_X4_advance_8  (σ : Mm) : Prop := if (σ.1 500 1) ≤ (σ.1 500 3) then False else if ¬ (σ.1 501 (Int32.toNatClampNeg (σ.1 500 3))) = (32 : Int32) then False else True
theorem ci_X4_advance_8   {σ : Mm} : c_X4_advance_8  σ ↔ (if (σ.1 500 1) ≤ (σ.1 500 3) then False else if ¬ (σ.1 501 (Int32.toNatClampNeg (σ.1 500 3))) = (32 : Int32) then False else True) := Iff.rfl
noncomputable def s_X4_advance_8  (σ : Mm) : Mm := if (σ.1 500 1) ≤ (σ.1 500 3) then σ else if ¬ (σ.1 501 (Int32.toNatClampNeg (σ.1 500 3))) = (32 : Int32) then σ else ((wi σ 500 3 ((σ.1 500 3) + 1)))
def q_X4_advance_8  (σ : Mm) : Prop := (if (σ.1 500 1) ≤ (σ.1 500 3) then True else (vp_in (σ.1 500 3) 240) ∧ (if ¬ (σ.1 501 (Int32.toNatClampNeg (σ.1 500 3))) = (32 : Int32) then True else True))
noncomputable def l_X4_advance_8  (σ0 : Mm) : Nat → Mm := itN (fun _ σ => s_X4_advance_8  σ) σ0
theorem ps_X4_advance_8 {d : Nat} {J : Nat → Lc → List Value → Mm → Prop}   {σ : Mm}  (g : Good mX4_advance.1 mX4_advance.2.2.1 mX4_advance.2.2.2.1 (d + 1) J) (hc : c_X4_advance_8  σ) (hp : q_X4_advance_8  σ) (k : J 8 [some (.ref 500)] [] (s_X4_advance_8  σ)) : J 8 [some (.ref 500)] [] σ := by
  unfold c_X4_advance_8 at hc
  unfold q_X4_advance_8 at hp
  unfold s_X4_advance_8 at k
  refine j_aload_n g (i := 0) (by decide +kernel) rfl ?_
  refine j_gI g f4_22 (by decide +kernel) (by decide +kernel) (by decide +kernel) ?_
  refine j_aload_n g (i := 0) (by decide +kernel) rfl ?_
  refine j_gI g f4_15 (by decide +kernel) (by decide +kernel) (by decide +kernel) ?_
  refine j_icmp_ge g (off := 30) (tgt := 46) (by decide +kernel) (by decide) (fun c16 => ?_) (fun c16 => ?_)
  · (try rw [if_pos (show (σ.1 500 1) ≤ (σ.1 500 3) from c16)] at hc); (rw [if_pos (show (σ.1 500 1) ≤ (σ.1 500 3) from c16)] at hp); (try simp only [if_pos (show (σ.1 500 1) ≤ (σ.1 500 3) from c16)] at k)
    exact hc.elim
  · (try rw [if_neg (show ¬ ((σ.1 500 1) ≤ (σ.1 500 3)) from c16)] at hc); (rw [if_neg (show ¬ ((σ.1 500 1) ≤ (σ.1 500 3)) from c16)] at hp); (try simp only [if_neg (show ¬ ((σ.1 500 1) ≤ (σ.1 500 3)) from c16)] at k)
    refine j_aload_n g (i := 0) (by decide +kernel) rfl ?_
    refine j_gA g (b := 501) f4_11 (by decide +kernel) (by decide +kernel) (by decide +kernel) (by decide +kernel) ?_
    refine j_aload_n g (i := 0) (by decide +kernel) rfl ?_
    refine j_gI g f4_22 (by decide +kernel) (by decide +kernel) (by decide +kernel) ?_
    obtain ⟨h0, hp⟩ := hp
    refine j_ba g 240 (by decide +kernel) (by decide +kernel) (by decide +kernel) h0 ?_
    refine j_bipush g (n := 32) (32) (by decide +kernel) (by decide +kernel) ?_
    refine j_icmp_ne g (off := 16) (tgt := 46) (by decide +kernel) (by decide) (fun c30 => ?_) (fun c30 => ?_)
    · (try rw [if_pos (show ¬ (σ.1 501 (Int32.toNatClampNeg (σ.1 500 3))) = (32 : Int32) from c30)] at hc); (rw [if_pos (show ¬ (σ.1 501 (Int32.toNatClampNeg (σ.1 500 3))) = (32 : Int32) from c30)] at hp); (try simp only [if_pos (show ¬ (σ.1 501 (Int32.toNatClampNeg (σ.1 500 3))) = (32 : Int32) from c30)] at k)
      exact hc.elim
    · (try rw [if_neg (show ¬ (¬ (σ.1 501 (Int32.toNatClampNeg (σ.1 500 3))) = (32 : Int32)) from c30)] at hc); (rw [if_neg (show ¬ (¬ (σ.1 501 (Int32.toNatClampNeg (σ.1 500 3))) = (32 : Int32)) from c30)] at hp); (try simp only [if_neg (show ¬ (¬ (σ.1 501 (Int32.toNatClampNeg (σ.1 500 3))) = (32 : Int32)) from c30)] at k)
      refine j_aload_n g (i := 0) (by decide +kernel) rfl ?_
      refine j_dup g (by decide +kernel) rfl ?_
      refine j_gI g f4_22 (by decide +kernel) (by decide +kernel) (by decide +kernel) ?_
      refine j_iconst g (n := 1) (1) (by decide +kernel) rfl ?_
      refine j_iadd g (by decide +kernel) ?_
      refine j_pI g f4_22 (fun q h => by cases h; rfl) (by decide +kernel) (by decide +kernel) (by decide +kernel) ?_
      refine j_goto g (off := -35) (tgt := 8) (by decide +kernel) (by decide) ?_
      exact k 
theorem sh_X4_advance_8 {d : Nat} {J : Nat → Lc → List Value → Mm → Prop}   {σ0 : Mm}  (g : Good mX4_advance.1 mX4_advance.2.2.1 mX4_advance.2.2.2.1 (d + 1) J) : ∀ (N : Nat), (∀ k, k < N → c_X4_advance_8  (l_X4_advance_8  σ0 k)) → (∀ k, k < N → q_X4_advance_8  (l_X4_advance_8  σ0 k)) → (J 8 [some (.ref 500)] [] (l_X4_advance_8  σ0 N)) → J 8 [some (.ref 500)] [] σ0
  | 0, _, _, k => k
  | N + 1, hc, hp, k => sh_X4_advance_8  g N (fun i hi => hc i (Nat.lt_succ_of_lt hi)) (fun i hi => hp i (Nat.lt_succ_of_lt hi)) (ps_X4_advance_8  g (hc N (Nat.lt_succ_self N)) (hp N (Nat.lt_succ_self N)) k)
def c_X4_advance_121  (σ : Mm) : Prop := if (σ.1 500 1) ≤ (σ.1 500 4) then False else if ¬ (if 97 ≤ (σ.1 501 (Int32.toNatClampNeg (σ.1 500 4))) ∧ (σ.1 501 (Int32.toNatClampNeg (σ.1 500 4))) ≤ 122 then 1 else if 48 ≤ (σ.1 501 (Int32.toNatClampNeg (σ.1 500 4))) ∧ (σ.1 501 (Int32.toNatClampNeg (σ.1 500 4))) ≤ 57 then 2 else 3) = (σ.1 500 2) then False else True
theorem ci_X4_advance_121   {σ : Mm} : c_X4_advance_121  σ ↔ (if (σ.1 500 1) ≤ (σ.1 500 4) then False else if ¬ (if 97 ≤ (σ.1 501 (Int32.toNatClampNeg (σ.1 500 4))) ∧ (σ.1 501 (Int32.toNatClampNeg (σ.1 500 4))) ≤ 122 then 1 else if 48 ≤ (σ.1 501 (Int32.toNatClampNeg (σ.1 500 4))) ∧ (σ.1 501 (Int32.toNatClampNeg (σ.1 500 4))) ≤ 57 then 2 else 3) = (σ.1 500 2) then False else True) := Iff.rfl
noncomputable def s_X4_advance_121  (σ : Mm) : Mm := if (σ.1 500 1) ≤ (σ.1 500 4) then σ else if ¬ (if 97 ≤ (σ.1 501 (Int32.toNatClampNeg (σ.1 500 4))) ∧ (σ.1 501 (Int32.toNatClampNeg (σ.1 500 4))) ≤ 122 then 1 else if 48 ≤ (σ.1 501 (Int32.toNatClampNeg (σ.1 500 4))) ∧ (σ.1 501 (Int32.toNatClampNeg (σ.1 500 4))) ≤ 57 then 2 else 3) = (σ.1 500 2) then σ else ((wi σ 500 4 ((σ.1 500 4) + 1)))
def q_X4_advance_121  (σ : Mm) : Prop := (if (σ.1 500 1) ≤ (σ.1 500 4) then True else (vp_in (σ.1 500 4) 240) ∧ (if ¬ (if 97 ≤ (σ.1 501 (Int32.toNatClampNeg (σ.1 500 4))) ∧ (σ.1 501 (Int32.toNatClampNeg (σ.1 500 4))) ≤ 122 then 1 else if 48 ≤ (σ.1 501 (Int32.toNatClampNeg (σ.1 500 4))) ∧ (σ.1 501 (Int32.toNatClampNeg (σ.1 500 4))) ≤ 57 then 2 else 3) = (σ.1 500 2) then True else True))
noncomputable def l_X4_advance_121  (σ0 : Mm) : Nat → Mm := itN (fun _ σ => s_X4_advance_121  σ) σ0
theorem ps_X4_advance_121 {d : Nat} {J : Nat → Lc → List Value → Mm → Prop}   {σ : Mm}  (g : Good mX4_advance.1 mX4_advance.2.2.1 mX4_advance.2.2.2.1 (d + 1) J) (hc : c_X4_advance_121  σ) (hp : q_X4_advance_121  σ) (k : J 121 [some (.ref 500)] [] (s_X4_advance_121  σ)) : J 121 [some (.ref 500)] [] σ := by
  unfold c_X4_advance_121 at hc
  unfold q_X4_advance_121 at hp
  unfold s_X4_advance_121 at k
  refine j_aload_n g (i := 0) (by decide +kernel) rfl ?_
  refine j_gI g f4_25 (by decide +kernel) (by decide +kernel) (by decide +kernel) ?_
  refine j_aload_n g (i := 0) (by decide +kernel) rfl ?_
  refine j_gI g f4_15 (by decide +kernel) (by decide +kernel) (by decide +kernel) ?_
  refine j_icmp_ge g (off := 35) (tgt := 164) (by decide +kernel) (by decide) (fun c129 => ?_) (fun c129 => ?_)
  · (try rw [if_pos (show (σ.1 500 1) ≤ (σ.1 500 4) from c129)] at hc); (rw [if_pos (show (σ.1 500 1) ≤ (σ.1 500 4) from c129)] at hp); (try simp only [if_pos (show (σ.1 500 1) ≤ (σ.1 500 4) from c129)] at k)
    exact hc.elim
  · (try rw [if_neg (show ¬ ((σ.1 500 1) ≤ (σ.1 500 4)) from c129)] at hc); (rw [if_neg (show ¬ ((σ.1 500 1) ≤ (σ.1 500 4)) from c129)] at hp); (try simp only [if_neg (show ¬ ((σ.1 500 1) ≤ (σ.1 500 4)) from c129)] at k)
    refine j_aload_n g (i := 0) (by decide +kernel) rfl ?_
    refine j_gA g (b := 501) f4_11 (by decide +kernel) (by decide +kernel) (by decide +kernel) (by decide +kernel) ?_
    refine j_aload_n g (i := 0) (by decide +kernel) rfl ?_
    refine j_gI g f4_25 (by decide +kernel) (by decide +kernel) (by decide +kernel) ?_
    obtain ⟨h0, hp⟩ := hp
    refine j_ba g 240 (by decide +kernel) (by decide +kernel) (by decide +kernel) h0 ?_
    refine j_cS1r g s4_38 (by decide +kernel) (Nat.le_of_ble_eq_true rfl) (rnX4_sortOf) ?_
    refine j_aload_n g (i := 0) (by decide +kernel) rfl ?_
    refine j_gI g f4_19 (by decide +kernel) (by decide +kernel) (by decide +kernel) ?_
    refine j_icmp_ne g (off := 16) (tgt := 164) (by decide +kernel) (by decide) (fun c148 => ?_) (fun c148 => ?_)
    · (try rw [if_pos (show ¬ (if 97 ≤ (σ.1 501 (Int32.toNatClampNeg (σ.1 500 4))) ∧ (σ.1 501 (Int32.toNatClampNeg (σ.1 500 4))) ≤ 122 then 1 else if 48 ≤ (σ.1 501 (Int32.toNatClampNeg (σ.1 500 4))) ∧ (σ.1 501 (Int32.toNatClampNeg (σ.1 500 4))) ≤ 57 then 2 else 3) = (σ.1 500 2) from c148)] at hc); (rw [if_pos (show ¬ (if 97 ≤ (σ.1 501 (Int32.toNatClampNeg (σ.1 500 4))) ∧ (σ.1 501 (Int32.toNatClampNeg (σ.1 500 4))) ≤ 122 then 1 else if 48 ≤ (σ.1 501 (Int32.toNatClampNeg (σ.1 500 4))) ∧ (σ.1 501 (Int32.toNatClampNeg (σ.1 500 4))) ≤ 57 then 2 else 3) = (σ.1 500 2) from c148)] at hp); (try simp only [if_pos (show ¬ (if 97 ≤ (σ.1 501 (Int32.toNatClampNeg (σ.1 500 4))) ∧ (σ.1 501 (Int32.toNatClampNeg (σ.1 500 4))) ≤ 122 then 1 else if 48 ≤ (σ.1 501 (Int32.toNatClampNeg (σ.1 500 4))) ∧ (σ.1 501 (Int32.toNatClampNeg (σ.1 500 4))) ≤ 57 then 2 else 3) = (σ.1 500 2) from c148)] at k)
      exact hc.elim
    · (try rw [if_neg (show ¬ (¬ (if 97 ≤ (σ.1 501 (Int32.toNatClampNeg (σ.1 500 4))) ∧ (σ.1 501 (Int32.toNatClampNeg (σ.1 500 4))) ≤ 122 then 1 else if 48 ≤ (σ.1 501 (Int32.toNatClampNeg (σ.1 500 4))) ∧ (σ.1 501 (Int32.toNatClampNeg (σ.1 500 4))) ≤ 57 then 2 else 3) = (σ.1 500 2)) from c148)] at hc); (rw [if_neg (show ¬ (¬ (if 97 ≤ (σ.1 501 (Int32.toNatClampNeg (σ.1 500 4))) ∧ (σ.1 501 (Int32.toNatClampNeg (σ.1 500 4))) ≤ 122 then 1 else if 48 ≤ (σ.1 501 (Int32.toNatClampNeg (σ.1 500 4))) ∧ (σ.1 501 (Int32.toNatClampNeg (σ.1 500 4))) ≤ 57 then 2 else 3) = (σ.1 500 2)) from c148)] at hp); (try simp only [if_neg (show ¬ (¬ (if 97 ≤ (σ.1 501 (Int32.toNatClampNeg (σ.1 500 4))) ∧ (σ.1 501 (Int32.toNatClampNeg (σ.1 500 4))) ≤ 122 then 1 else if 48 ≤ (σ.1 501 (Int32.toNatClampNeg (σ.1 500 4))) ∧ (σ.1 501 (Int32.toNatClampNeg (σ.1 500 4))) ≤ 57 then 2 else 3) = (σ.1 500 2)) from c148)] at k)
      refine j_aload_n g (i := 0) (by decide +kernel) rfl ?_
      refine j_dup g (by decide +kernel) rfl ?_
      refine j_gI g f4_25 (by decide +kernel) (by decide +kernel) (by decide +kernel) ?_
      refine j_iconst g (n := 1) (1) (by decide +kernel) rfl ?_
      refine j_iadd g (by decide +kernel) ?_
      refine j_pI g f4_25 (fun q h => by cases h; rfl) (by decide +kernel) (by decide +kernel) (by decide +kernel) ?_
      refine j_goto g (off := -40) (tgt := 121) (by decide +kernel) (by decide) ?_
      exact k 
theorem sh_X4_advance_121 {d : Nat} {J : Nat → Lc → List Value → Mm → Prop}   {σ0 : Mm}  (g : Good mX4_advance.1 mX4_advance.2.2.1 mX4_advance.2.2.2.1 (d + 1) J) : ∀ (N : Nat), (∀ k, k < N → c_X4_advance_121  (l_X4_advance_121  σ0 k)) → (∀ k, k < N → q_X4_advance_121  (l_X4_advance_121  σ0 k)) → (J 121 [some (.ref 500)] [] (l_X4_advance_121  σ0 N)) → J 121 [some (.ref 500)] [] σ0
  | 0, _, _, k => k
  | N + 1, hc, hp, k => sh_X4_advance_121  g N (fun i hi => hc i (Nat.lt_succ_of_lt hi)) (fun i hi => hp i (Nat.lt_succ_of_lt hi)) (ps_X4_advance_121  g (hc N (Nat.lt_succ_self N)) (hp N (Nat.lt_succ_self N)) k)
noncomputable def w_X4_advance_105 (M : Mm)   : Mm := if (M.1 500 2) = (1 : Int32) then (if ((l_X4_advance_121  (M) (cntN (fun k => c_X4_advance_121  (l_X4_advance_121  (M) k)) 241)).1 500 1) ≤ ((l_X4_advance_121  (M) (cntN (fun k => c_X4_advance_121  (l_X4_advance_121  (M) k)) 241)).1 500 4) then (l_X4_advance_121  (M) (cntN (fun k => c_X4_advance_121  (l_X4_advance_121  (M) k)) 241)) else if ¬ (if 97 ≤ ((l_X4_advance_121  (M) (cntN (fun k => c_X4_advance_121  (l_X4_advance_121  (M) k)) 241)).1 501 (Int32.toNatClampNeg ((l_X4_advance_121  (M) (cntN (fun k => c_X4_advance_121  (l_X4_advance_121  (M) k)) 241)).1 500 4))) ∧ ((l_X4_advance_121  (M) (cntN (fun k => c_X4_advance_121  (l_X4_advance_121  (M) k)) 241)).1 501 (Int32.toNatClampNeg ((l_X4_advance_121  (M) (cntN (fun k => c_X4_advance_121  (l_X4_advance_121  (M) k)) 241)).1 500 4))) ≤ 122 then 1 else if 48 ≤ ((l_X4_advance_121  (M) (cntN (fun k => c_X4_advance_121  (l_X4_advance_121  (M) k)) 241)).1 501 (Int32.toNatClampNeg ((l_X4_advance_121  (M) (cntN (fun k => c_X4_advance_121  (l_X4_advance_121  (M) k)) 241)).1 500 4))) ∧ ((l_X4_advance_121  (M) (cntN (fun k => c_X4_advance_121  (l_X4_advance_121  (M) k)) 241)).1 501 (Int32.toNatClampNeg ((l_X4_advance_121  (M) (cntN (fun k => c_X4_advance_121  (l_X4_advance_121  (M) k)) 241)).1 500 4))) ≤ 57 then 2 else 3) = ((l_X4_advance_121  (M) (cntN (fun k => c_X4_advance_121  (l_X4_advance_121  (M) k)) 241)).1 500 2) then (l_X4_advance_121  (M) (cntN (fun k => c_X4_advance_121  (l_X4_advance_121  (M) k)) 241)) else M) else if ¬ (M.1 500 2) = (2 : Int32) then M else if ((l_X4_advance_121  (M) (cntN (fun k => c_X4_advance_121  (l_X4_advance_121  (M) k)) 241)).1 500 1) ≤ ((l_X4_advance_121  (M) (cntN (fun k => c_X4_advance_121  (l_X4_advance_121  (M) k)) 241)).1 500 4) then (l_X4_advance_121  (M) (cntN (fun k => c_X4_advance_121  (l_X4_advance_121  (M) k)) 241)) else if ¬ (if 97 ≤ ((l_X4_advance_121  (M) (cntN (fun k => c_X4_advance_121  (l_X4_advance_121  (M) k)) 241)).1 501 (Int32.toNatClampNeg ((l_X4_advance_121  (M) (cntN (fun k => c_X4_advance_121  (l_X4_advance_121  (M) k)) 241)).1 500 4))) ∧ ((l_X4_advance_121  (M) (cntN (fun k => c_X4_advance_121  (l_X4_advance_121  (M) k)) 241)).1 501 (Int32.toNatClampNeg ((l_X4_advance_121  (M) (cntN (fun k => c_X4_advance_121  (l_X4_advance_121  (M) k)) 241)).1 500 4))) ≤ 122 then 1 else if 48 ≤ ((l_X4_advance_121  (M) (cntN (fun k => c_X4_advance_121  (l_X4_advance_121  (M) k)) 241)).1 501 (Int32.toNatClampNeg ((l_X4_advance_121  (M) (cntN (fun k => c_X4_advance_121  (l_X4_advance_121  (M) k)) 241)).1 500 4))) ∧ ((l_X4_advance_121  (M) (cntN (fun k => c_X4_advance_121  (l_X4_advance_121  (M) k)) 241)).1 501 (Int32.toNatClampNeg ((l_X4_advance_121  (M) (cntN (fun k => c_X4_advance_121  (l_X4_advance_121  (M) k)) 241)).1 500 4))) ≤ 57 then 2 else 3) = ((l_X4_advance_121  (M) (cntN (fun k => c_X4_advance_121  (l_X4_advance_121  (M) k)) 241)).1 500 2) then (l_X4_advance_121  (M) (cntN (fun k => c_X4_advance_121  (l_X4_advance_121  (M) k)) 241)) else M
def p_X4_advance_105 (M : Mm)   : Prop := (if (M.1 500 2) = (1 : Int32) then (∀ k, k < (cntN (fun k => c_X4_advance_121  (l_X4_advance_121  (M) k)) 241) → c_X4_advance_121  (l_X4_advance_121  (M) k)) ∧ (∀ k, k < (cntN (fun k => c_X4_advance_121  (l_X4_advance_121  (M) k)) 241) → q_X4_advance_121  (l_X4_advance_121  (M) k)) ∧ (¬ c_X4_advance_121  (l_X4_advance_121  (M) (cntN (fun k => c_X4_advance_121  (l_X4_advance_121  (M) k)) 241))) ∧ (if ((l_X4_advance_121  (M) (cntN (fun k => c_X4_advance_121  (l_X4_advance_121  (M) k)) 241)).1 500 1) ≤ ((l_X4_advance_121  (M) (cntN (fun k => c_X4_advance_121  (l_X4_advance_121  (M) k)) 241)).1 500 4) then True else (vp_in ((l_X4_advance_121  (M) (cntN (fun k => c_X4_advance_121  (l_X4_advance_121  (M) k)) 241)).1 500 4) 240) ∧ (if ¬ (if 97 ≤ ((l_X4_advance_121  (M) (cntN (fun k => c_X4_advance_121  (l_X4_advance_121  (M) k)) 241)).1 501 (Int32.toNatClampNeg ((l_X4_advance_121  (M) (cntN (fun k => c_X4_advance_121  (l_X4_advance_121  (M) k)) 241)).1 500 4))) ∧ ((l_X4_advance_121  (M) (cntN (fun k => c_X4_advance_121  (l_X4_advance_121  (M) k)) 241)).1 501 (Int32.toNatClampNeg ((l_X4_advance_121  (M) (cntN (fun k => c_X4_advance_121  (l_X4_advance_121  (M) k)) 241)).1 500 4))) ≤ 122 then 1 else if 48 ≤ ((l_X4_advance_121  (M) (cntN (fun k => c_X4_advance_121  (l_X4_advance_121  (M) k)) 241)).1 501 (Int32.toNatClampNeg ((l_X4_advance_121  (M) (cntN (fun k => c_X4_advance_121  (l_X4_advance_121  (M) k)) 241)).1 500 4))) ∧ ((l_X4_advance_121  (M) (cntN (fun k => c_X4_advance_121  (l_X4_advance_121  (M) k)) 241)).1 501 (Int32.toNatClampNeg ((l_X4_advance_121  (M) (cntN (fun k => c_X4_advance_121  (l_X4_advance_121  (M) k)) 241)).1 500 4))) ≤ 57 then 2 else 3) = ((l_X4_advance_121  (M) (cntN (fun k => c_X4_advance_121  (l_X4_advance_121  (M) k)) 241)).1 500 2) then True else True)) else (if ¬ (M.1 500 2) = (2 : Int32) then True else (∀ k, k < (cntN (fun k => c_X4_advance_121  (l_X4_advance_121  (M) k)) 241) → c_X4_advance_121  (l_X4_advance_121  (M) k)) ∧ (∀ k, k < (cntN (fun k => c_X4_advance_121  (l_X4_advance_121  (M) k)) 241) → q_X4_advance_121  (l_X4_advance_121  (M) k)) ∧ (¬ c_X4_advance_121  (l_X4_advance_121  (M) (cntN (fun k => c_X4_advance_121  (l_X4_advance_121  (M) k)) 241))) ∧ (if ((l_X4_advance_121  (M) (cntN (fun k => c_X4_advance_121  (l_X4_advance_121  (M) k)) 241)).1 500 1) ≤ ((l_X4_advance_121  (M) (cntN (fun k => c_X4_advance_121  (l_X4_advance_121  (M) k)) 241)).1 500 4) then True else (vp_in ((l_X4_advance_121  (M) (cntN (fun k => c_X4_advance_121  (l_X4_advance_121  (M) k)) 241)).1 500 4) 240) ∧ (if ¬ (if 97 ≤ ((l_X4_advance_121  (M) (cntN (fun k => c_X4_advance_121  (l_X4_advance_121  (M) k)) 241)).1 501 (Int32.toNatClampNeg ((l_X4_advance_121  (M) (cntN (fun k => c_X4_advance_121  (l_X4_advance_121  (M) k)) 241)).1 500 4))) ∧ ((l_X4_advance_121  (M) (cntN (fun k => c_X4_advance_121  (l_X4_advance_121  (M) k)) 241)).1 501 (Int32.toNatClampNeg ((l_X4_advance_121  (M) (cntN (fun k => c_X4_advance_121  (l_X4_advance_121  (M) k)) 241)).1 500 4))) ≤ 122 then 1 else if 48 ≤ ((l_X4_advance_121  (M) (cntN (fun k => c_X4_advance_121  (l_X4_advance_121  (M) k)) 241)).1 501 (Int32.toNatClampNeg ((l_X4_advance_121  (M) (cntN (fun k => c_X4_advance_121  (l_X4_advance_121  (M) k)) 241)).1 500 4))) ∧ ((l_X4_advance_121  (M) (cntN (fun k => c_X4_advance_121  (l_X4_advance_121  (M) k)) 241)).1 501 (Int32.toNatClampNeg ((l_X4_advance_121  (M) (cntN (fun k => c_X4_advance_121  (l_X4_advance_121  (M) k)) 241)).1 500 4))) ≤ 57 then 2 else 3) = ((l_X4_advance_121  (M) (cntN (fun k => c_X4_advance_121  (l_X4_advance_121  (M) k)) 241)).1 500 2) then True else True))))
theorem jn_X4_advance_105 {d : Nat} {J : Nat → Lc → List Value → Mm → Prop} {M : Mm}    (g : Good mX4_advance.1 mX4_advance.2.2.1 mX4_advance.2.2.2.1 (d + 1) J) {rv : Option Value} {M1 : Mm} (hr : Ret mX4_advance.2.2.1 mX4_advance.2.2.2.2 rv M1 J) (hp : p_X4_advance_105 M  ) (hrv : rv = none) (hmm : M1 = w_X4_advance_105 M  ) : J 105 [some (.ref 500)] [] M := by
  unfold p_X4_advance_105 at hp
  refine j_aload_n g (i := 0) (by decide +kernel) rfl ?_
  refine j_gI g f4_19 (by decide +kernel) (by decide +kernel) (by decide +kernel) ?_
  refine j_iconst g (n := 1) (1) (by decide +kernel) rfl ?_
  refine j_icmp_eq g (off := 11) (tgt := 121) (by decide +kernel) (by decide) (fun c110 => ?_) (fun c110 => ?_)
  · rw [if_pos (show (M.1 500 2) = (1 : Int32) from c110)] at hp
    obtain ⟨h0, hp⟩ := hp
    have hc_121_2 := h0
    obtain ⟨h0, hp⟩ := hp
    have hq_121_2 := h0
    obtain ⟨h0, hp⟩ := hp
    have hx_121_2 := h0
    refine sh_X4_advance_121   g (σ0 := (M)) (cntN (fun k => c_X4_advance_121  (l_X4_advance_121  (M) k)) 241) hc_121_2 hq_121_2 ?_ 
    refine j_aload_n g (i := 0) (by decide +kernel) rfl ?_
    refine j_gI g f4_25 (by decide +kernel) (by decide +kernel) (by decide +kernel) ?_
    refine j_aload_n g (i := 0) (by decide +kernel) rfl ?_
    refine j_gI g f4_15 (by decide +kernel) (by decide +kernel) (by decide +kernel) ?_
    refine j_icmp_ge g (off := 35) (tgt := 164) (by decide +kernel) (by decide) (fun c129 => ?_) (fun c129 => ?_)
    · rw [if_pos (show ((l_X4_advance_121  (M) (cntN (fun k => c_X4_advance_121  (l_X4_advance_121  (M) k)) 241)).1 500 1) ≤ ((l_X4_advance_121  (M) (cntN (fun k => c_X4_advance_121  (l_X4_advance_121  (M) k)) 241)).1 500 4) from c129)] at hp
      refine hr.2.2.2 _ _ _ (by decide +kernel) rfl hrv ?_
      · rw [hmm]; unfold w_X4_advance_105; first | (simp only [if_pos (show (M.1 500 2) = (1 : Int32) from c110), if_pos (show ((l_X4_advance_121  (M) (cntN (fun k => c_X4_advance_121  (l_X4_advance_121  (M) k)) 241)).1 500 1) ≤ ((l_X4_advance_121  (M) (cntN (fun k => c_X4_advance_121  (l_X4_advance_121  (M) k)) 241)).1 500 4) from c129)]; done) | (simp only [if_pos (show (M.1 500 2) = (1 : Int32) from c110), if_pos (show ((l_X4_advance_121  (M) (cntN (fun k => c_X4_advance_121  (l_X4_advance_121  (M) k)) 241)).1 500 1) ≤ ((l_X4_advance_121  (M) (cntN (fun k => c_X4_advance_121  (l_X4_advance_121  (M) k)) 241)).1 500 4) from c129)]; rfl) | rfl
    · rw [if_neg (show ¬ (((l_X4_advance_121  (M) (cntN (fun k => c_X4_advance_121  (l_X4_advance_121  (M) k)) 241)).1 500 1) ≤ ((l_X4_advance_121  (M) (cntN (fun k => c_X4_advance_121  (l_X4_advance_121  (M) k)) 241)).1 500 4)) from c129)] at hp
      refine j_aload_n g (i := 0) (by decide +kernel) rfl ?_
      refine j_gA g (b := 501) f4_11 (by decide +kernel) (by decide +kernel) (by decide +kernel) (by decide +kernel) ?_
      refine j_aload_n g (i := 0) (by decide +kernel) rfl ?_
      refine j_gI g f4_25 (by decide +kernel) (by decide +kernel) (by decide +kernel) ?_
      obtain ⟨h0, hp⟩ := hp
      refine j_ba g 240 (by decide +kernel) (by decide +kernel) (by decide +kernel) h0 ?_
      refine j_cS1r g s4_38 (by decide +kernel) (Nat.le_of_ble_eq_true rfl) (rnX4_sortOf) ?_
      refine j_aload_n g (i := 0) (by decide +kernel) rfl ?_
      refine j_gI g f4_19 (by decide +kernel) (by decide +kernel) (by decide +kernel) ?_
      refine j_icmp_ne g (off := 16) (tgt := 164) (by decide +kernel) (by decide) (fun c148 => ?_) (fun c148 => ?_)
      · rw [if_pos (show ¬ (if 97 ≤ ((l_X4_advance_121  (M) (cntN (fun k => c_X4_advance_121  (l_X4_advance_121  (M) k)) 241)).1 501 (Int32.toNatClampNeg ((l_X4_advance_121  (M) (cntN (fun k => c_X4_advance_121  (l_X4_advance_121  (M) k)) 241)).1 500 4))) ∧ ((l_X4_advance_121  (M) (cntN (fun k => c_X4_advance_121  (l_X4_advance_121  (M) k)) 241)).1 501 (Int32.toNatClampNeg ((l_X4_advance_121  (M) (cntN (fun k => c_X4_advance_121  (l_X4_advance_121  (M) k)) 241)).1 500 4))) ≤ 122 then 1 else if 48 ≤ ((l_X4_advance_121  (M) (cntN (fun k => c_X4_advance_121  (l_X4_advance_121  (M) k)) 241)).1 501 (Int32.toNatClampNeg ((l_X4_advance_121  (M) (cntN (fun k => c_X4_advance_121  (l_X4_advance_121  (M) k)) 241)).1 500 4))) ∧ ((l_X4_advance_121  (M) (cntN (fun k => c_X4_advance_121  (l_X4_advance_121  (M) k)) 241)).1 501 (Int32.toNatClampNeg ((l_X4_advance_121  (M) (cntN (fun k => c_X4_advance_121  (l_X4_advance_121  (M) k)) 241)).1 500 4))) ≤ 57 then 2 else 3) = ((l_X4_advance_121  (M) (cntN (fun k => c_X4_advance_121  (l_X4_advance_121  (M) k)) 241)).1 500 2) from c148)] at hp
        refine hr.2.2.2 _ _ _ (by decide +kernel) rfl hrv ?_
        · rw [hmm]; unfold w_X4_advance_105; first | (simp only [if_pos (show (M.1 500 2) = (1 : Int32) from c110), if_neg (show ¬ (((l_X4_advance_121  (M) (cntN (fun k => c_X4_advance_121  (l_X4_advance_121  (M) k)) 241)).1 500 1) ≤ ((l_X4_advance_121  (M) (cntN (fun k => c_X4_advance_121  (l_X4_advance_121  (M) k)) 241)).1 500 4)) from c129), if_pos (show ¬ (if 97 ≤ ((l_X4_advance_121  (M) (cntN (fun k => c_X4_advance_121  (l_X4_advance_121  (M) k)) 241)).1 501 (Int32.toNatClampNeg ((l_X4_advance_121  (M) (cntN (fun k => c_X4_advance_121  (l_X4_advance_121  (M) k)) 241)).1 500 4))) ∧ ((l_X4_advance_121  (M) (cntN (fun k => c_X4_advance_121  (l_X4_advance_121  (M) k)) 241)).1 501 (Int32.toNatClampNeg ((l_X4_advance_121  (M) (cntN (fun k => c_X4_advance_121  (l_X4_advance_121  (M) k)) 241)).1 500 4))) ≤ 122 then 1 else if 48 ≤ ((l_X4_advance_121  (M) (cntN (fun k => c_X4_advance_121  (l_X4_advance_121  (M) k)) 241)).1 501 (Int32.toNatClampNeg ((l_X4_advance_121  (M) (cntN (fun k => c_X4_advance_121  (l_X4_advance_121  (M) k)) 241)).1 500 4))) ∧ ((l_X4_advance_121  (M) (cntN (fun k => c_X4_advance_121  (l_X4_advance_121  (M) k)) 241)).1 501 (Int32.toNatClampNeg ((l_X4_advance_121  (M) (cntN (fun k => c_X4_advance_121  (l_X4_advance_121  (M) k)) 241)).1 500 4))) ≤ 57 then 2 else 3) = ((l_X4_advance_121  (M) (cntN (fun k => c_X4_advance_121  (l_X4_advance_121  (M) k)) 241)).1 500 2) from c148)]; done) | (simp only [if_pos (show (M.1 500 2) = (1 : Int32) from c110), if_neg (show ¬ (((l_X4_advance_121  (M) (cntN (fun k => c_X4_advance_121  (l_X4_advance_121  (M) k)) 241)).1 500 1) ≤ ((l_X4_advance_121  (M) (cntN (fun k => c_X4_advance_121  (l_X4_advance_121  (M) k)) 241)).1 500 4)) from c129), if_pos (show ¬ (if 97 ≤ ((l_X4_advance_121  (M) (cntN (fun k => c_X4_advance_121  (l_X4_advance_121  (M) k)) 241)).1 501 (Int32.toNatClampNeg ((l_X4_advance_121  (M) (cntN (fun k => c_X4_advance_121  (l_X4_advance_121  (M) k)) 241)).1 500 4))) ∧ ((l_X4_advance_121  (M) (cntN (fun k => c_X4_advance_121  (l_X4_advance_121  (M) k)) 241)).1 501 (Int32.toNatClampNeg ((l_X4_advance_121  (M) (cntN (fun k => c_X4_advance_121  (l_X4_advance_121  (M) k)) 241)).1 500 4))) ≤ 122 then 1 else if 48 ≤ ((l_X4_advance_121  (M) (cntN (fun k => c_X4_advance_121  (l_X4_advance_121  (M) k)) 241)).1 501 (Int32.toNatClampNeg ((l_X4_advance_121  (M) (cntN (fun k => c_X4_advance_121  (l_X4_advance_121  (M) k)) 241)).1 500 4))) ∧ ((l_X4_advance_121  (M) (cntN (fun k => c_X4_advance_121  (l_X4_advance_121  (M) k)) 241)).1 501 (Int32.toNatClampNeg ((l_X4_advance_121  (M) (cntN (fun k => c_X4_advance_121  (l_X4_advance_121  (M) k)) 241)).1 500 4))) ≤ 57 then 2 else 3) = ((l_X4_advance_121  (M) (cntN (fun k => c_X4_advance_121  (l_X4_advance_121  (M) k)) 241)).1 500 2) from c148)]; rfl) | rfl
      · rw [if_neg (show ¬ (¬ (if 97 ≤ ((l_X4_advance_121  (M) (cntN (fun k => c_X4_advance_121  (l_X4_advance_121  (M) k)) 241)).1 501 (Int32.toNatClampNeg ((l_X4_advance_121  (M) (cntN (fun k => c_X4_advance_121  (l_X4_advance_121  (M) k)) 241)).1 500 4))) ∧ ((l_X4_advance_121  (M) (cntN (fun k => c_X4_advance_121  (l_X4_advance_121  (M) k)) 241)).1 501 (Int32.toNatClampNeg ((l_X4_advance_121  (M) (cntN (fun k => c_X4_advance_121  (l_X4_advance_121  (M) k)) 241)).1 500 4))) ≤ 122 then 1 else if 48 ≤ ((l_X4_advance_121  (M) (cntN (fun k => c_X4_advance_121  (l_X4_advance_121  (M) k)) 241)).1 501 (Int32.toNatClampNeg ((l_X4_advance_121  (M) (cntN (fun k => c_X4_advance_121  (l_X4_advance_121  (M) k)) 241)).1 500 4))) ∧ ((l_X4_advance_121  (M) (cntN (fun k => c_X4_advance_121  (l_X4_advance_121  (M) k)) 241)).1 501 (Int32.toNatClampNeg ((l_X4_advance_121  (M) (cntN (fun k => c_X4_advance_121  (l_X4_advance_121  (M) k)) 241)).1 500 4))) ≤ 57 then 2 else 3) = ((l_X4_advance_121  (M) (cntN (fun k => c_X4_advance_121  (l_X4_advance_121  (M) k)) 241)).1 500 2)) from c148)] at hp
        refine absurd (ci_X4_advance_121.mpr ?_) hx_121_2
        simp only [if_pos (show (M.1 500 2) = (1 : Int32) from c110), if_neg (show ¬ (((l_X4_advance_121  (M) (cntN (fun k => c_X4_advance_121  (l_X4_advance_121  (M) k)) 241)).1 500 1) ≤ ((l_X4_advance_121  (M) (cntN (fun k => c_X4_advance_121  (l_X4_advance_121  (M) k)) 241)).1 500 4)) from c129), if_neg (show ¬ (¬ (if 97 ≤ ((l_X4_advance_121  (M) (cntN (fun k => c_X4_advance_121  (l_X4_advance_121  (M) k)) 241)).1 501 (Int32.toNatClampNeg ((l_X4_advance_121  (M) (cntN (fun k => c_X4_advance_121  (l_X4_advance_121  (M) k)) 241)).1 500 4))) ∧ ((l_X4_advance_121  (M) (cntN (fun k => c_X4_advance_121  (l_X4_advance_121  (M) k)) 241)).1 501 (Int32.toNatClampNeg ((l_X4_advance_121  (M) (cntN (fun k => c_X4_advance_121  (l_X4_advance_121  (M) k)) 241)).1 500 4))) ≤ 122 then 1 else if 48 ≤ ((l_X4_advance_121  (M) (cntN (fun k => c_X4_advance_121  (l_X4_advance_121  (M) k)) 241)).1 501 (Int32.toNatClampNeg ((l_X4_advance_121  (M) (cntN (fun k => c_X4_advance_121  (l_X4_advance_121  (M) k)) 241)).1 500 4))) ∧ ((l_X4_advance_121  (M) (cntN (fun k => c_X4_advance_121  (l_X4_advance_121  (M) k)) 241)).1 501 (Int32.toNatClampNeg ((l_X4_advance_121  (M) (cntN (fun k => c_X4_advance_121  (l_X4_advance_121  (M) k)) 241)).1 500 4))) ≤ 57 then 2 else 3) = ((l_X4_advance_121  (M) (cntN (fun k => c_X4_advance_121  (l_X4_advance_121  (M) k)) 241)).1 500 2)) from c148)]
  · rw [if_neg (show ¬ ((M.1 500 2) = (1 : Int32)) from c110)] at hp
    refine j_aload_n g (i := 0) (by decide +kernel) rfl ?_
    refine j_gI g f4_19 (by decide +kernel) (by decide +kernel) (by decide +kernel) ?_
    refine j_iconst g (n := 2) (2) (by decide +kernel) rfl ?_
    refine j_icmp_ne g (off := 46) (tgt := 164) (by decide +kernel) (by decide) (fun c118 => ?_) (fun c118 => ?_)
    · rw [if_pos (show ¬ (M.1 500 2) = (2 : Int32) from c118)] at hp
      refine hr.2.2.2 _ _ _ (by decide +kernel) rfl hrv ?_
      · rw [hmm]; unfold w_X4_advance_105; first | (simp only [if_neg (show ¬ ((M.1 500 2) = (1 : Int32)) from c110), if_pos (show ¬ (M.1 500 2) = (2 : Int32) from c118)]; done) | (simp only [if_neg (show ¬ ((M.1 500 2) = (1 : Int32)) from c110), if_pos (show ¬ (M.1 500 2) = (2 : Int32) from c118)]; rfl) | rfl
    · rw [if_neg (show ¬ (¬ (M.1 500 2) = (2 : Int32)) from c118)] at hp
      obtain ⟨h0, hp⟩ := hp
      have hc_121_3 := h0
      obtain ⟨h0, hp⟩ := hp
      have hq_121_3 := h0
      obtain ⟨h0, hp⟩ := hp
      have hx_121_3 := h0
      refine sh_X4_advance_121   g (σ0 := (M)) (cntN (fun k => c_X4_advance_121  (l_X4_advance_121  (M) k)) 241) hc_121_3 hq_121_3 ?_ 
      refine j_aload_n g (i := 0) (by decide +kernel) rfl ?_
      refine j_gI g f4_25 (by decide +kernel) (by decide +kernel) (by decide +kernel) ?_
      refine j_aload_n g (i := 0) (by decide +kernel) rfl ?_
      refine j_gI g f4_15 (by decide +kernel) (by decide +kernel) (by decide +kernel) ?_
      refine j_icmp_ge g (off := 35) (tgt := 164) (by decide +kernel) (by decide) (fun c129 => ?_) (fun c129 => ?_)
      · rw [if_pos (show ((l_X4_advance_121  (M) (cntN (fun k => c_X4_advance_121  (l_X4_advance_121  (M) k)) 241)).1 500 1) ≤ ((l_X4_advance_121  (M) (cntN (fun k => c_X4_advance_121  (l_X4_advance_121  (M) k)) 241)).1 500 4) from c129)] at hp
        refine hr.2.2.2 _ _ _ (by decide +kernel) rfl hrv ?_
        · rw [hmm]; unfold w_X4_advance_105; first | (simp only [if_neg (show ¬ ((M.1 500 2) = (1 : Int32)) from c110), if_neg (show ¬ (¬ (M.1 500 2) = (2 : Int32)) from c118), if_pos (show ((l_X4_advance_121  (M) (cntN (fun k => c_X4_advance_121  (l_X4_advance_121  (M) k)) 241)).1 500 1) ≤ ((l_X4_advance_121  (M) (cntN (fun k => c_X4_advance_121  (l_X4_advance_121  (M) k)) 241)).1 500 4) from c129)]; done) | (simp only [if_neg (show ¬ ((M.1 500 2) = (1 : Int32)) from c110), if_neg (show ¬ (¬ (M.1 500 2) = (2 : Int32)) from c118), if_pos (show ((l_X4_advance_121  (M) (cntN (fun k => c_X4_advance_121  (l_X4_advance_121  (M) k)) 241)).1 500 1) ≤ ((l_X4_advance_121  (M) (cntN (fun k => c_X4_advance_121  (l_X4_advance_121  (M) k)) 241)).1 500 4) from c129)]; rfl) | rfl
      · rw [if_neg (show ¬ (((l_X4_advance_121  (M) (cntN (fun k => c_X4_advance_121  (l_X4_advance_121  (M) k)) 241)).1 500 1) ≤ ((l_X4_advance_121  (M) (cntN (fun k => c_X4_advance_121  (l_X4_advance_121  (M) k)) 241)).1 500 4)) from c129)] at hp
        refine j_aload_n g (i := 0) (by decide +kernel) rfl ?_
        refine j_gA g (b := 501) f4_11 (by decide +kernel) (by decide +kernel) (by decide +kernel) (by decide +kernel) ?_
        refine j_aload_n g (i := 0) (by decide +kernel) rfl ?_
        refine j_gI g f4_25 (by decide +kernel) (by decide +kernel) (by decide +kernel) ?_
        obtain ⟨h0, hp⟩ := hp
        refine j_ba g 240 (by decide +kernel) (by decide +kernel) (by decide +kernel) h0 ?_
        refine j_cS1r g s4_38 (by decide +kernel) (Nat.le_of_ble_eq_true rfl) (rnX4_sortOf) ?_
        refine j_aload_n g (i := 0) (by decide +kernel) rfl ?_
        refine j_gI g f4_19 (by decide +kernel) (by decide +kernel) (by decide +kernel) ?_
        refine j_icmp_ne g (off := 16) (tgt := 164) (by decide +kernel) (by decide) (fun c148 => ?_) (fun c148 => ?_)
        · rw [if_pos (show ¬ (if 97 ≤ ((l_X4_advance_121  (M) (cntN (fun k => c_X4_advance_121  (l_X4_advance_121  (M) k)) 241)).1 501 (Int32.toNatClampNeg ((l_X4_advance_121  (M) (cntN (fun k => c_X4_advance_121  (l_X4_advance_121  (M) k)) 241)).1 500 4))) ∧ ((l_X4_advance_121  (M) (cntN (fun k => c_X4_advance_121  (l_X4_advance_121  (M) k)) 241)).1 501 (Int32.toNatClampNeg ((l_X4_advance_121  (M) (cntN (fun k => c_X4_advance_121  (l_X4_advance_121  (M) k)) 241)).1 500 4))) ≤ 122 then 1 else if 48 ≤ ((l_X4_advance_121  (M) (cntN (fun k => c_X4_advance_121  (l_X4_advance_121  (M) k)) 241)).1 501 (Int32.toNatClampNeg ((l_X4_advance_121  (M) (cntN (fun k => c_X4_advance_121  (l_X4_advance_121  (M) k)) 241)).1 500 4))) ∧ ((l_X4_advance_121  (M) (cntN (fun k => c_X4_advance_121  (l_X4_advance_121  (M) k)) 241)).1 501 (Int32.toNatClampNeg ((l_X4_advance_121  (M) (cntN (fun k => c_X4_advance_121  (l_X4_advance_121  (M) k)) 241)).1 500 4))) ≤ 57 then 2 else 3) = ((l_X4_advance_121  (M) (cntN (fun k => c_X4_advance_121  (l_X4_advance_121  (M) k)) 241)).1 500 2) from c148)] at hp
          refine hr.2.2.2 _ _ _ (by decide +kernel) rfl hrv ?_
          · rw [hmm]; unfold w_X4_advance_105; first | (simp only [if_neg (show ¬ ((M.1 500 2) = (1 : Int32)) from c110), if_neg (show ¬ (¬ (M.1 500 2) = (2 : Int32)) from c118), if_neg (show ¬ (((l_X4_advance_121  (M) (cntN (fun k => c_X4_advance_121  (l_X4_advance_121  (M) k)) 241)).1 500 1) ≤ ((l_X4_advance_121  (M) (cntN (fun k => c_X4_advance_121  (l_X4_advance_121  (M) k)) 241)).1 500 4)) from c129), if_pos (show ¬ (if 97 ≤ ((l_X4_advance_121  (M) (cntN (fun k => c_X4_advance_121  (l_X4_advance_121  (M) k)) 241)).1 501 (Int32.toNatClampNeg ((l_X4_advance_121  (M) (cntN (fun k => c_X4_advance_121  (l_X4_advance_121  (M) k)) 241)).1 500 4))) ∧ ((l_X4_advance_121  (M) (cntN (fun k => c_X4_advance_121  (l_X4_advance_121  (M) k)) 241)).1 501 (Int32.toNatClampNeg ((l_X4_advance_121  (M) (cntN (fun k => c_X4_advance_121  (l_X4_advance_121  (M) k)) 241)).1 500 4))) ≤ 122 then 1 else if 48 ≤ ((l_X4_advance_121  (M) (cntN (fun k => c_X4_advance_121  (l_X4_advance_121  (M) k)) 241)).1 501 (Int32.toNatClampNeg ((l_X4_advance_121  (M) (cntN (fun k => c_X4_advance_121  (l_X4_advance_121  (M) k)) 241)).1 500 4))) ∧ ((l_X4_advance_121  (M) (cntN (fun k => c_X4_advance_121  (l_X4_advance_121  (M) k)) 241)).1 501 (Int32.toNatClampNeg ((l_X4_advance_121  (M) (cntN (fun k => c_X4_advance_121  (l_X4_advance_121  (M) k)) 241)).1 500 4))) ≤ 57 then 2 else 3) = ((l_X4_advance_121  (M) (cntN (fun k => c_X4_advance_121  (l_X4_advance_121  (M) k)) 241)).1 500 2) from c148)]; done) | (simp only [if_neg (show ¬ ((M.1 500 2) = (1 : Int32)) from c110), if_neg (show ¬ (¬ (M.1 500 2) = (2 : Int32)) from c118), if_neg (show ¬ (((l_X4_advance_121  (M) (cntN (fun k => c_X4_advance_121  (l_X4_advance_121  (M) k)) 241)).1 500 1) ≤ ((l_X4_advance_121  (M) (cntN (fun k => c_X4_advance_121  (l_X4_advance_121  (M) k)) 241)).1 500 4)) from c129), if_pos (show ¬ (if 97 ≤ ((l_X4_advance_121  (M) (cntN (fun k => c_X4_advance_121  (l_X4_advance_121  (M) k)) 241)).1 501 (Int32.toNatClampNeg ((l_X4_advance_121  (M) (cntN (fun k => c_X4_advance_121  (l_X4_advance_121  (M) k)) 241)).1 500 4))) ∧ ((l_X4_advance_121  (M) (cntN (fun k => c_X4_advance_121  (l_X4_advance_121  (M) k)) 241)).1 501 (Int32.toNatClampNeg ((l_X4_advance_121  (M) (cntN (fun k => c_X4_advance_121  (l_X4_advance_121  (M) k)) 241)).1 500 4))) ≤ 122 then 1 else if 48 ≤ ((l_X4_advance_121  (M) (cntN (fun k => c_X4_advance_121  (l_X4_advance_121  (M) k)) 241)).1 501 (Int32.toNatClampNeg ((l_X4_advance_121  (M) (cntN (fun k => c_X4_advance_121  (l_X4_advance_121  (M) k)) 241)).1 500 4))) ∧ ((l_X4_advance_121  (M) (cntN (fun k => c_X4_advance_121  (l_X4_advance_121  (M) k)) 241)).1 501 (Int32.toNatClampNeg ((l_X4_advance_121  (M) (cntN (fun k => c_X4_advance_121  (l_X4_advance_121  (M) k)) 241)).1 500 4))) ≤ 57 then 2 else 3) = ((l_X4_advance_121  (M) (cntN (fun k => c_X4_advance_121  (l_X4_advance_121  (M) k)) 241)).1 500 2) from c148)]; rfl) | rfl
        · rw [if_neg (show ¬ (¬ (if 97 ≤ ((l_X4_advance_121  (M) (cntN (fun k => c_X4_advance_121  (l_X4_advance_121  (M) k)) 241)).1 501 (Int32.toNatClampNeg ((l_X4_advance_121  (M) (cntN (fun k => c_X4_advance_121  (l_X4_advance_121  (M) k)) 241)).1 500 4))) ∧ ((l_X4_advance_121  (M) (cntN (fun k => c_X4_advance_121  (l_X4_advance_121  (M) k)) 241)).1 501 (Int32.toNatClampNeg ((l_X4_advance_121  (M) (cntN (fun k => c_X4_advance_121  (l_X4_advance_121  (M) k)) 241)).1 500 4))) ≤ 122 then 1 else if 48 ≤ ((l_X4_advance_121  (M) (cntN (fun k => c_X4_advance_121  (l_X4_advance_121  (M) k)) 241)).1 501 (Int32.toNatClampNeg ((l_X4_advance_121  (M) (cntN (fun k => c_X4_advance_121  (l_X4_advance_121  (M) k)) 241)).1 500 4))) ∧ ((l_X4_advance_121  (M) (cntN (fun k => c_X4_advance_121  (l_X4_advance_121  (M) k)) 241)).1 501 (Int32.toNatClampNeg ((l_X4_advance_121  (M) (cntN (fun k => c_X4_advance_121  (l_X4_advance_121  (M) k)) 241)).1 500 4))) ≤ 57 then 2 else 3) = ((l_X4_advance_121  (M) (cntN (fun k => c_X4_advance_121  (l_X4_advance_121  (M) k)) 241)).1 500 2)) from c148)] at hp
          refine absurd (ci_X4_advance_121.mpr ?_) hx_121_3
          simp only [if_neg (show ¬ ((M.1 500 2) = (1 : Int32)) from c110), if_neg (show ¬ (¬ (M.1 500 2) = (2 : Int32)) from c118), if_neg (show ¬ (((l_X4_advance_121  (M) (cntN (fun k => c_X4_advance_121  (l_X4_advance_121  (M) k)) 241)).1 500 1) ≤ ((l_X4_advance_121  (M) (cntN (fun k => c_X4_advance_121  (l_X4_advance_121  (M) k)) 241)).1 500 4)) from c129), if_neg (show ¬ (¬ (if 97 ≤ ((l_X4_advance_121  (M) (cntN (fun k => c_X4_advance_121  (l_X4_advance_121  (M) k)) 241)).1 501 (Int32.toNatClampNeg ((l_X4_advance_121  (M) (cntN (fun k => c_X4_advance_121  (l_X4_advance_121  (M) k)) 241)).1 500 4))) ∧ ((l_X4_advance_121  (M) (cntN (fun k => c_X4_advance_121  (l_X4_advance_121  (M) k)) 241)).1 501 (Int32.toNatClampNeg ((l_X4_advance_121  (M) (cntN (fun k => c_X4_advance_121  (l_X4_advance_121  (M) k)) 241)).1 500 4))) ≤ 122 then 1 else if 48 ≤ ((l_X4_advance_121  (M) (cntN (fun k => c_X4_advance_121  (l_X4_advance_121  (M) k)) 241)).1 501 (Int32.toNatClampNeg ((l_X4_advance_121  (M) (cntN (fun k => c_X4_advance_121  (l_X4_advance_121  (M) k)) 241)).1 500 4))) ∧ ((l_X4_advance_121  (M) (cntN (fun k => c_X4_advance_121  (l_X4_advance_121  (M) k)) 241)).1 501 (Int32.toNatClampNeg ((l_X4_advance_121  (M) (cntN (fun k => c_X4_advance_121  (l_X4_advance_121  (M) k)) 241)).1 500 4))) ≤ 57 then 2 else 3) = ((l_X4_advance_121  (M) (cntN (fun k => c_X4_advance_121  (l_X4_advance_121  (M) k)) 241)).1 500 2)) from c148)]
noncomputable def w_X4_advance_77 (M : Mm)   : Mm := if (M.1 500 1) ≤ (M.1 500 3) then w_X4_advance_105 (wi M 500 4 (M.1 500 3)) else w_X4_advance_105 (wi M 500 4 ((M.1 500 3) + 1))
def p_X4_advance_77 (M : Mm)   : Prop := (if (M.1 500 1) ≤ (M.1 500 3) then p_X4_advance_105 (wi M 500 4 (M.1 500 3)) else p_X4_advance_105 (wi M 500 4 ((M.1 500 3) + 1)))
theorem jn_X4_advance_77 {d : Nat} {J : Nat → Lc → List Value → Mm → Prop} {M : Mm}    (g : Good mX4_advance.1 mX4_advance.2.2.1 mX4_advance.2.2.2.1 (d + 1) J) {rv : Option Value} {M1 : Mm} (hr : Ret mX4_advance.2.2.1 mX4_advance.2.2.2.2 rv M1 J) (hp : p_X4_advance_77 M  ) (hrv : rv = none) (hmm : M1 = w_X4_advance_77 M  ) : J 77 [some (.ref 500)] [] M := by
  unfold p_X4_advance_77 at hp
  refine j_aload_n g (i := 0) (by decide +kernel) rfl ?_
  refine j_aload_n g (i := 0) (by decide +kernel) rfl ?_
  refine j_gI g f4_22 (by decide +kernel) (by decide +kernel) (by decide +kernel) ?_
  refine j_aload_n g (i := 0) (by decide +kernel) rfl ?_
  refine j_gI g f4_15 (by decide +kernel) (by decide +kernel) (by decide +kernel) ?_
  refine j_icmp_ge g (off := 12) (tgt := 98) (by decide +kernel) (by decide) (fun c86 => ?_) (fun c86 => ?_)
  · rw [if_pos (show (M.1 500 1) ≤ (M.1 500 3) from c86)] at hp
    refine j_aload_n g (i := 0) (by decide +kernel) rfl ?_
    refine j_gI g f4_22 (by decide +kernel) (by decide +kernel) (by decide +kernel) ?_
    refine j_pI g f4_25 (fun q h => by cases h; rfl) (by decide +kernel) (by decide +kernel) (by decide +kernel) ?_
    refine jn_X4_advance_105  g hr hp ?_ ?_ 
    · exact hrv
    · rw [hmm]; unfold w_X4_advance_77; first | (simp only [if_pos (show (M.1 500 1) ≤ (M.1 500 3) from c86)]; done) | (simp only [if_pos (show (M.1 500 1) ≤ (M.1 500 3) from c86)]; rfl) | rfl
  · rw [if_neg (show ¬ ((M.1 500 1) ≤ (M.1 500 3)) from c86)] at hp
    refine j_aload_n g (i := 0) (by decide +kernel) rfl ?_
    refine j_gI g f4_22 (by decide +kernel) (by decide +kernel) (by decide +kernel) ?_
    refine j_iconst g (n := 1) (1) (by decide +kernel) rfl ?_
    refine j_iadd g (by decide +kernel) ?_
    refine j_goto g (off := 7) (tgt := 102) (by decide +kernel) (by decide) ?_
    refine j_pI g f4_25 (fun q h => by cases h; rfl) (by decide +kernel) (by decide +kernel) (by decide +kernel) ?_
    refine jn_X4_advance_105  g hr hp ?_ ?_ 
    · exact hrv
    · rw [hmm]; unfold w_X4_advance_77; first | (simp only [if_neg (show ¬ ((M.1 500 1) ≤ (M.1 500 3)) from c86)]; done) | (simp only [if_neg (show ¬ ((M.1 500 1) ≤ (M.1 500 3)) from c86)]; rfl) | rfl
noncomputable def w_X4_advance_46 (M : Mm)   : Mm := if (M.1 500 1) ≤ (M.1 500 3) then w_X4_advance_77 (wi M 500 2 0) else w_X4_advance_77 (wi M 500 2 (if 97 ≤ (M.1 501 (Int32.toNatClampNeg (M.1 500 3))) ∧ (M.1 501 (Int32.toNatClampNeg (M.1 500 3))) ≤ 122 then 1 else if 48 ≤ (M.1 501 (Int32.toNatClampNeg (M.1 500 3))) ∧ (M.1 501 (Int32.toNatClampNeg (M.1 500 3))) ≤ 57 then 2 else 3))
def p_X4_advance_46 (M : Mm)   : Prop := (if (M.1 500 1) ≤ (M.1 500 3) then p_X4_advance_77 (wi M 500 2 0) else (vp_in (M.1 500 3) 240) ∧ p_X4_advance_77 (wi M 500 2 (if 97 ≤ (M.1 501 (Int32.toNatClampNeg (M.1 500 3))) ∧ (M.1 501 (Int32.toNatClampNeg (M.1 500 3))) ≤ 122 then 1 else if 48 ≤ (M.1 501 (Int32.toNatClampNeg (M.1 500 3))) ∧ (M.1 501 (Int32.toNatClampNeg (M.1 500 3))) ≤ 57 then 2 else 3)))
theorem jn_X4_advance_46 {d : Nat} {J : Nat → Lc → List Value → Mm → Prop} {M : Mm}    (g : Good mX4_advance.1 mX4_advance.2.2.1 mX4_advance.2.2.2.1 (d + 1) J) {rv : Option Value} {M1 : Mm} (hr : Ret mX4_advance.2.2.1 mX4_advance.2.2.2.2 rv M1 J) (hp : p_X4_advance_46 M  ) (hrv : rv = none) (hmm : M1 = w_X4_advance_46 M  ) : J 46 [some (.ref 500)] [] M := by
  unfold p_X4_advance_46 at hp
  refine j_aload_n g (i := 0) (by decide +kernel) rfl ?_
  refine j_aload_n g (i := 0) (by decide +kernel) rfl ?_
  refine j_gI g f4_22 (by decide +kernel) (by decide +kernel) (by decide +kernel) ?_
  refine j_aload_n g (i := 0) (by decide +kernel) rfl ?_
  refine j_gI g f4_15 (by decide +kernel) (by decide +kernel) (by decide +kernel) ?_
  refine j_icmp_ge g (off := 18) (tgt := 73) (by decide +kernel) (by decide) (fun c55 => ?_) (fun c55 => ?_)
  · rw [if_pos (show (M.1 500 1) ≤ (M.1 500 3) from c55)] at hp
    refine j_iconst g (n := 0) (0) (by decide +kernel) rfl ?_
    refine j_pI g f4_19 (fun q h => by cases h; rfl) (by decide +kernel) (by decide +kernel) (by decide +kernel) ?_
    refine jn_X4_advance_77  g hr hp ?_ ?_ 
    · exact hrv
    · rw [hmm]; unfold w_X4_advance_46; first | (simp only [if_pos (show (M.1 500 1) ≤ (M.1 500 3) from c55)]; done) | (simp only [if_pos (show (M.1 500 1) ≤ (M.1 500 3) from c55)]; rfl) | rfl
  · rw [if_neg (show ¬ ((M.1 500 1) ≤ (M.1 500 3)) from c55)] at hp
    refine j_aload_n g (i := 0) (by decide +kernel) rfl ?_
    refine j_gA g (b := 501) f4_11 (by decide +kernel) (by decide +kernel) (by decide +kernel) (by decide +kernel) ?_
    refine j_aload_n g (i := 0) (by decide +kernel) rfl ?_
    refine j_gI g f4_22 (by decide +kernel) (by decide +kernel) (by decide +kernel) ?_
    obtain ⟨h0, hp⟩ := hp
    refine j_ba g 240 (by decide +kernel) (by decide +kernel) (by decide +kernel) h0 ?_
    refine j_cS1r g s4_38 (by decide +kernel) (Nat.le_of_ble_eq_true rfl) (rnX4_sortOf) ?_
    refine j_goto g (off := 4) (tgt := 74) (by decide +kernel) (by decide) ?_
    refine j_pI g f4_19 (fun q h => by cases h; rfl) (by decide +kernel) (by decide +kernel) (by decide +kernel) ?_
    refine jn_X4_advance_77  g hr hp ?_ ?_ 
    · exact hrv
    · rw [hmm]; unfold w_X4_advance_46; first | (simp only [if_neg (show ¬ ((M.1 500 1) ≤ (M.1 500 3)) from c55)]; done) | (simp only [if_neg (show ¬ ((M.1 500 1) ≤ (M.1 500 3)) from c55)]; rfl) | rfl
noncomputable def w_X4_advance (M : Mm)  : Mm := if ((l_X4_advance_8  ((wi M 500 3 (M.1 500 4))) (cntN (fun k => c_X4_advance_8  (l_X4_advance_8  ((wi M 500 3 (M.1 500 4))) k)) 241)).1 500 1) ≤ ((l_X4_advance_8  ((wi M 500 3 (M.1 500 4))) (cntN (fun k => c_X4_advance_8  (l_X4_advance_8  ((wi M 500 3 (M.1 500 4))) k)) 241)).1 500 3) then w_X4_advance_46 (l_X4_advance_8  ((wi M 500 3 (M.1 500 4))) (cntN (fun k => c_X4_advance_8  (l_X4_advance_8  ((wi M 500 3 (M.1 500 4))) k)) 241)) else if ¬ ((l_X4_advance_8  ((wi M 500 3 (M.1 500 4))) (cntN (fun k => c_X4_advance_8  (l_X4_advance_8  ((wi M 500 3 (M.1 500 4))) k)) 241)).1 501 (Int32.toNatClampNeg ((l_X4_advance_8  ((wi M 500 3 (M.1 500 4))) (cntN (fun k => c_X4_advance_8  (l_X4_advance_8  ((wi M 500 3 (M.1 500 4))) k)) 241)).1 500 3))) = (32 : Int32) then w_X4_advance_46 (l_X4_advance_8  ((wi M 500 3 (M.1 500 4))) (cntN (fun k => c_X4_advance_8  (l_X4_advance_8  ((wi M 500 3 (M.1 500 4))) k)) 241)) else M
def p_X4_advance (M : Mm)  : Prop := (∀ k, k < (cntN (fun k => c_X4_advance_8  (l_X4_advance_8  ((wi M 500 3 (M.1 500 4))) k)) 241) → c_X4_advance_8  (l_X4_advance_8  ((wi M 500 3 (M.1 500 4))) k)) ∧ (∀ k, k < (cntN (fun k => c_X4_advance_8  (l_X4_advance_8  ((wi M 500 3 (M.1 500 4))) k)) 241) → q_X4_advance_8  (l_X4_advance_8  ((wi M 500 3 (M.1 500 4))) k)) ∧ (¬ c_X4_advance_8  (l_X4_advance_8  ((wi M 500 3 (M.1 500 4))) (cntN (fun k => c_X4_advance_8  (l_X4_advance_8  ((wi M 500 3 (M.1 500 4))) k)) 241))) ∧ (if ((l_X4_advance_8  ((wi M 500 3 (M.1 500 4))) (cntN (fun k => c_X4_advance_8  (l_X4_advance_8  ((wi M 500 3 (M.1 500 4))) k)) 241)).1 500 1) ≤ ((l_X4_advance_8  ((wi M 500 3 (M.1 500 4))) (cntN (fun k => c_X4_advance_8  (l_X4_advance_8  ((wi M 500 3 (M.1 500 4))) k)) 241)).1 500 3) then p_X4_advance_46 (l_X4_advance_8  ((wi M 500 3 (M.1 500 4))) (cntN (fun k => c_X4_advance_8  (l_X4_advance_8  ((wi M 500 3 (M.1 500 4))) k)) 241)) else (vp_in ((l_X4_advance_8  ((wi M 500 3 (M.1 500 4))) (cntN (fun k => c_X4_advance_8  (l_X4_advance_8  ((wi M 500 3 (M.1 500 4))) k)) 241)).1 500 3) 240) ∧ (if ¬ ((l_X4_advance_8  ((wi M 500 3 (M.1 500 4))) (cntN (fun k => c_X4_advance_8  (l_X4_advance_8  ((wi M 500 3 (M.1 500 4))) k)) 241)).1 501 (Int32.toNatClampNeg ((l_X4_advance_8  ((wi M 500 3 (M.1 500 4))) (cntN (fun k => c_X4_advance_8  (l_X4_advance_8  ((wi M 500 3 (M.1 500 4))) k)) 241)).1 500 3))) = (32 : Int32) then p_X4_advance_46 (l_X4_advance_8  ((wi M 500 3 (M.1 500 4))) (cntN (fun k => c_X4_advance_8  (l_X4_advance_8  ((wi M 500 3 (M.1 500 4))) k)) 241)) else True))
set_option maxRecDepth 20000 in
theorem rnX4_advance {d : Nat} {M : Mm}   (hp : p_X4_advance M ) : Rn (d + 1) mX4_advance [.ref 500] M none (w_X4_advance M ) := by
  refine Rn.of [some (.ref 500)] (by decide +kernel) rfl (Nat.le_of_ble_eq_true rfl) rfl (fun J g hr => ?_)
  unfold p_X4_advance at hp
  refine j_aload_n g (i := 0) (by decide +kernel) rfl ?_
  refine j_aload_n g (i := 0) (by decide +kernel) rfl ?_
  refine j_gI g f4_25 (by decide +kernel) (by decide +kernel) (by decide +kernel) ?_
  refine j_pI g f4_22 (fun q h => by cases h; rfl) (by decide +kernel) (by decide +kernel) (by decide +kernel) ?_
  obtain ⟨h0, hp⟩ := hp
  have hc_8_1 := h0
  obtain ⟨h0, hp⟩ := hp
  have hq_8_1 := h0
  obtain ⟨h0, hp⟩ := hp
  have hx_8_1 := h0
  refine sh_X4_advance_8   g (σ0 := ((wi M 500 3 (M.1 500 4)))) (cntN (fun k => c_X4_advance_8  (l_X4_advance_8  ((wi M 500 3 (M.1 500 4))) k)) 241) hc_8_1 hq_8_1 ?_ 
  refine j_aload_n g (i := 0) (by decide +kernel) rfl ?_
  refine j_gI g f4_22 (by decide +kernel) (by decide +kernel) (by decide +kernel) ?_
  refine j_aload_n g (i := 0) (by decide +kernel) rfl ?_
  refine j_gI g f4_15 (by decide +kernel) (by decide +kernel) (by decide +kernel) ?_
  refine j_icmp_ge g (off := 30) (tgt := 46) (by decide +kernel) (by decide) (fun c16 => ?_) (fun c16 => ?_)
  · rw [if_pos (show ((l_X4_advance_8  ((wi M 500 3 (M.1 500 4))) (cntN (fun k => c_X4_advance_8  (l_X4_advance_8  ((wi M 500 3 (M.1 500 4))) k)) 241)).1 500 1) ≤ ((l_X4_advance_8  ((wi M 500 3 (M.1 500 4))) (cntN (fun k => c_X4_advance_8  (l_X4_advance_8  ((wi M 500 3 (M.1 500 4))) k)) 241)).1 500 3) from c16)] at hp
    refine jn_X4_advance_46  g hr hp ?_ ?_ 
    · rfl
    · unfold w_X4_advance; first | (simp only [if_pos (show ((l_X4_advance_8  ((wi M 500 3 (M.1 500 4))) (cntN (fun k => c_X4_advance_8  (l_X4_advance_8  ((wi M 500 3 (M.1 500 4))) k)) 241)).1 500 1) ≤ ((l_X4_advance_8  ((wi M 500 3 (M.1 500 4))) (cntN (fun k => c_X4_advance_8  (l_X4_advance_8  ((wi M 500 3 (M.1 500 4))) k)) 241)).1 500 3) from c16)]; done) | (simp only [if_pos (show ((l_X4_advance_8  ((wi M 500 3 (M.1 500 4))) (cntN (fun k => c_X4_advance_8  (l_X4_advance_8  ((wi M 500 3 (M.1 500 4))) k)) 241)).1 500 1) ≤ ((l_X4_advance_8  ((wi M 500 3 (M.1 500 4))) (cntN (fun k => c_X4_advance_8  (l_X4_advance_8  ((wi M 500 3 (M.1 500 4))) k)) 241)).1 500 3) from c16)]; rfl) | rfl
  · rw [if_neg (show ¬ (((l_X4_advance_8  ((wi M 500 3 (M.1 500 4))) (cntN (fun k => c_X4_advance_8  (l_X4_advance_8  ((wi M 500 3 (M.1 500 4))) k)) 241)).1 500 1) ≤ ((l_X4_advance_8  ((wi M 500 3 (M.1 500 4))) (cntN (fun k => c_X4_advance_8  (l_X4_advance_8  ((wi M 500 3 (M.1 500 4))) k)) 241)).1 500 3)) from c16)] at hp
    refine j_aload_n g (i := 0) (by decide +kernel) rfl ?_
    refine j_gA g (b := 501) f4_11 (by decide +kernel) (by decide +kernel) (by decide +kernel) (by decide +kernel) ?_
    refine j_aload_n g (i := 0) (by decide +kernel) rfl ?_
    refine j_gI g f4_22 (by decide +kernel) (by decide +kernel) (by decide +kernel) ?_
    obtain ⟨h0, hp⟩ := hp
    refine j_ba g 240 (by decide +kernel) (by decide +kernel) (by decide +kernel) h0 ?_
    refine j_bipush g (n := 32) (32) (by decide +kernel) (by decide +kernel) ?_
    refine j_icmp_ne g (off := 16) (tgt := 46) (by decide +kernel) (by decide) (fun c30 => ?_) (fun c30 => ?_)
    · rw [if_pos (show ¬ ((l_X4_advance_8  ((wi M 500 3 (M.1 500 4))) (cntN (fun k => c_X4_advance_8  (l_X4_advance_8  ((wi M 500 3 (M.1 500 4))) k)) 241)).1 501 (Int32.toNatClampNeg ((l_X4_advance_8  ((wi M 500 3 (M.1 500 4))) (cntN (fun k => c_X4_advance_8  (l_X4_advance_8  ((wi M 500 3 (M.1 500 4))) k)) 241)).1 500 3))) = (32 : Int32) from c30)] at hp
      refine jn_X4_advance_46  g hr hp ?_ ?_ 
      · rfl
      · unfold w_X4_advance; first | (simp only [if_neg (show ¬ (((l_X4_advance_8  ((wi M 500 3 (M.1 500 4))) (cntN (fun k => c_X4_advance_8  (l_X4_advance_8  ((wi M 500 3 (M.1 500 4))) k)) 241)).1 500 1) ≤ ((l_X4_advance_8  ((wi M 500 3 (M.1 500 4))) (cntN (fun k => c_X4_advance_8  (l_X4_advance_8  ((wi M 500 3 (M.1 500 4))) k)) 241)).1 500 3)) from c16), if_pos (show ¬ ((l_X4_advance_8  ((wi M 500 3 (M.1 500 4))) (cntN (fun k => c_X4_advance_8  (l_X4_advance_8  ((wi M 500 3 (M.1 500 4))) k)) 241)).1 501 (Int32.toNatClampNeg ((l_X4_advance_8  ((wi M 500 3 (M.1 500 4))) (cntN (fun k => c_X4_advance_8  (l_X4_advance_8  ((wi M 500 3 (M.1 500 4))) k)) 241)).1 500 3))) = (32 : Int32) from c30)]; done) | (simp only [if_neg (show ¬ (((l_X4_advance_8  ((wi M 500 3 (M.1 500 4))) (cntN (fun k => c_X4_advance_8  (l_X4_advance_8  ((wi M 500 3 (M.1 500 4))) k)) 241)).1 500 1) ≤ ((l_X4_advance_8  ((wi M 500 3 (M.1 500 4))) (cntN (fun k => c_X4_advance_8  (l_X4_advance_8  ((wi M 500 3 (M.1 500 4))) k)) 241)).1 500 3)) from c16), if_pos (show ¬ ((l_X4_advance_8  ((wi M 500 3 (M.1 500 4))) (cntN (fun k => c_X4_advance_8  (l_X4_advance_8  ((wi M 500 3 (M.1 500 4))) k)) 241)).1 501 (Int32.toNatClampNeg ((l_X4_advance_8  ((wi M 500 3 (M.1 500 4))) (cntN (fun k => c_X4_advance_8  (l_X4_advance_8  ((wi M 500 3 (M.1 500 4))) k)) 241)).1 500 3))) = (32 : Int32) from c30)]; rfl) | rfl
    · rw [if_neg (show ¬ (¬ ((l_X4_advance_8  ((wi M 500 3 (M.1 500 4))) (cntN (fun k => c_X4_advance_8  (l_X4_advance_8  ((wi M 500 3 (M.1 500 4))) k)) 241)).1 501 (Int32.toNatClampNeg ((l_X4_advance_8  ((wi M 500 3 (M.1 500 4))) (cntN (fun k => c_X4_advance_8  (l_X4_advance_8  ((wi M 500 3 (M.1 500 4))) k)) 241)).1 500 3))) = (32 : Int32)) from c30)] at hp
      refine absurd (ci_X4_advance_8.mpr ?_) hx_8_1
      simp only [if_neg (show ¬ (((l_X4_advance_8  ((wi M 500 3 (M.1 500 4))) (cntN (fun k => c_X4_advance_8  (l_X4_advance_8  ((wi M 500 3 (M.1 500 4))) k)) 241)).1 500 1) ≤ ((l_X4_advance_8  ((wi M 500 3 (M.1 500 4))) (cntN (fun k => c_X4_advance_8  (l_X4_advance_8  ((wi M 500 3 (M.1 500 4))) k)) 241)).1 500 3)) from c16), if_neg (show ¬ (¬ ((l_X4_advance_8  ((wi M 500 3 (M.1 500 4))) (cntN (fun k => c_X4_advance_8  (l_X4_advance_8  ((wi M 500 3 (M.1 500 4))) k)) 241)).1 501 (Int32.toNatClampNeg ((l_X4_advance_8  ((wi M 500 3 (M.1 500 4))) (cntN (fun k => c_X4_advance_8  (l_X4_advance_8  ((wi M 500 3 (M.1 500 4))) k)) 241)).1 500 3))) = (32 : Int32)) from c30)]
def c_X4_readNumber_42 (M : Mm) (a1 : Int32) (a2 : Int32) (σ : Int32 × Int32) : Prop := if (M.1 500 4) ≤ σ.2 then False else True
theorem ci_X4_readNumber_42 {M : Mm} {a1 : Int32} {a2 : Int32}  {σ : Int32 × Int32} : c_X4_readNumber_42 M a1 a2 σ ↔ (if (M.1 500 4) ≤ σ.2 then False else True) := Iff.rfl
noncomputable def s_X4_readNumber_42 (M : Mm) (a1 : Int32) (a2 : Int32) (σ : Int32 × Int32) : Int32 × Int32 := if (M.1 500 4) ≤ σ.2 then σ else (((σ.1 * 10) + (M.1 501 (Int32.toNatClampNeg σ.2))) - 48, σ.2 + 1)
def q_X4_readNumber_42 (M : Mm) (a1 : Int32) (a2 : Int32) (σ : Int32 × Int32) : Prop := (if (M.1 500 4) ≤ σ.2 then True else (vp_in σ.2 240) ∧ True)
noncomputable def l_X4_readNumber_42 (M : Mm) (a1 : Int32) (a2 : Int32) (σ0 : Int32 × Int32) : Nat → Int32 × Int32 := itN (fun _ σ => s_X4_readNumber_42 M a1 a2 σ) σ0
theorem ps_X4_readNumber_42 {d : Nat} {J : Nat → Lc → List Value → Mm → Prop} {M : Mm} {a1 : Int32} {a2 : Int32}  {σ : Int32 × Int32}  (g : Good mX4_readNumber.1 mX4_readNumber.2.2.1 mX4_readNumber.2.2.2.1 (d + 2) J) (hc : c_X4_readNumber_42 M a1 a2 σ) (hp : q_X4_readNumber_42 M a1 a2 σ) (k : J 42 [some (.ref 500), some (.int a1), some (.int a2), some (.int ((s_X4_readNumber_42 M a1 a2 σ).1)), some (.int ((s_X4_readNumber_42 M a1 a2 σ).2))] [] M) : J 42 [some (.ref 500), some (.int a1), some (.int a2), some (.int σ.1), some (.int σ.2)] [] M := by
  unfold c_X4_readNumber_42 at hc
  unfold q_X4_readNumber_42 at hp
  unfold s_X4_readNumber_42 at k
  refine j_iload g (i := 4) (by decide +kernel) rfl ?_
  refine j_aload_n g (i := 0) (by decide +kernel) rfl ?_
  refine j_gI g f4_25 (by decide +kernel) (by decide +kernel) (by decide +kernel) ?_
  refine j_icmp_ge g (off := 25) (tgt := 73) (by decide +kernel) (by decide) (fun c48 => ?_) (fun c48 => ?_)
  · (try rw [if_pos (show (M.1 500 4) ≤ σ.2 from c48)] at hc); (rw [if_pos (show (M.1 500 4) ≤ σ.2 from c48)] at hp); (try simp only [if_pos (show (M.1 500 4) ≤ σ.2 from c48)] at k)
    exact hc.elim
  · (try rw [if_neg (show ¬ ((M.1 500 4) ≤ σ.2) from c48)] at hc); (rw [if_neg (show ¬ ((M.1 500 4) ≤ σ.2) from c48)] at hp); (try simp only [if_neg (show ¬ ((M.1 500 4) ≤ σ.2) from c48)] at k)
    refine j_iload_n g (i := 3) (by decide +kernel) rfl ?_
    refine j_bipush g (n := 10) (10) (by decide +kernel) (by decide +kernel) ?_
    refine j_imul g (by decide +kernel) ?_
    refine j_aload_n g (i := 0) (by decide +kernel) rfl ?_
    refine j_gA g (b := 501) f4_11 (by decide +kernel) (by decide +kernel) (by decide +kernel) (by decide +kernel) ?_
    refine j_iload g (i := 4) (by decide +kernel) rfl ?_
    obtain ⟨h0, hp⟩ := hp
    refine j_ba g 240 (by decide +kernel) (by decide +kernel) (by decide +kernel) h0 ?_
    refine j_iadd g (by decide +kernel) ?_
    refine j_bipush g (n := 48) (48) (by decide +kernel) (by decide +kernel) ?_
    refine j_isub g (by decide +kernel) ?_
    refine j_istore_n g (i := 3) (by decide +kernel) (by decide) ?_
    dsimp only [stL, clL, hdL]
    refine j_iinc g (i := 4) (n := 1) (1) (by decide +kernel) rfl (by decide) rfl ?_
    dsimp only [stL, clL, hdL]
    refine j_goto g (off := -28) (tgt := 42) (by decide +kernel) (by decide) ?_
    exact k 
theorem sh_X4_readNumber_42 {d : Nat} {J : Nat → Lc → List Value → Mm → Prop} {M : Mm} {a1 : Int32} {a2 : Int32}  {σ0 : Int32 × Int32}  (g : Good mX4_readNumber.1 mX4_readNumber.2.2.1 mX4_readNumber.2.2.2.1 (d + 2) J) : ∀ (N : Nat), (∀ k, k < N → c_X4_readNumber_42 M a1 a2 (l_X4_readNumber_42 M a1 a2 σ0 k)) → (∀ k, k < N → q_X4_readNumber_42 M a1 a2 (l_X4_readNumber_42 M a1 a2 σ0 k)) → (J 42 [some (.ref 500), some (.int a1), some (.int a2), some (.int ((l_X4_readNumber_42 M a1 a2 σ0 N).1)), some (.int ((l_X4_readNumber_42 M a1 a2 σ0 N).2))] [] M) → J 42 [some (.ref 500), some (.int a1), some (.int a2), some (.int σ0.1), some (.int σ0.2)] [] M
  | 0, _, _, k => k
  | N + 1, hc, hp, k => sh_X4_readNumber_42  g N (fun i hi => hc i (Nat.lt_succ_of_lt hi)) (fun i hi => hp i (Nat.lt_succ_of_lt hi)) (ps_X4_readNumber_42  g (hc N (Nat.lt_succ_self N)) (hp N (Nat.lt_succ_self N)) k)
noncomputable def r_X4_readNumber (M : Mm) (a1 : Int32) (a2 : Int32) : Int32 := if 0 ≤ (M.1 500 5) then a1 else if ¬ (M.1 500 2) = (2 : Int32) then a1 else if ((M.1 500 4) - (M.1 500 3)) ≤ (3 : Int32) then (if (M.1 500 4) ≤ ((l_X4_readNumber_42 M a1 a2 (0, M.1 500 3) (cntN (fun k => c_X4_readNumber_42 M a1 a2 (l_X4_readNumber_42 M a1 a2 (0, M.1 500 3) k)) 4)).2) then (if ((l_X4_readNumber_42 M a1 a2 (0, M.1 500 3) (cntN (fun k => c_X4_readNumber_42 M a1 a2 (l_X4_readNumber_42 M a1 a2 (0, M.1 500 3) k)) 4)).1) < a1 then a1 else if ((l_X4_readNumber_42 M a1 a2 (0, M.1 500 3) (cntN (fun k => c_X4_readNumber_42 M a1 a2 (l_X4_readNumber_42 M a1 a2 (0, M.1 500 3) k)) 4)).1) ≤ a2 then (l_X4_readNumber_42 M a1 a2 (0, M.1 500 3) (cntN (fun k => c_X4_readNumber_42 M a1 a2 (l_X4_readNumber_42 M a1 a2 (0, M.1 500 3) k)) 4)).1 else a1) else 0) else a1
noncomputable def w_X4_readNumber (M : Mm) (a1 : Int32) (a2 : Int32) : Mm := if 0 ≤ (M.1 500 5) then (w_X4_fail M) else if ¬ (M.1 500 2) = (2 : Int32) then (w_X4_fail M) else if ((M.1 500 4) - (M.1 500 3)) ≤ (3 : Int32) then (if (M.1 500 4) ≤ ((l_X4_readNumber_42 M a1 a2 (0, M.1 500 3) (cntN (fun k => c_X4_readNumber_42 M a1 a2 (l_X4_readNumber_42 M a1 a2 (0, M.1 500 3) k)) 4)).2) then (if ((l_X4_readNumber_42 M a1 a2 (0, M.1 500 3) (cntN (fun k => c_X4_readNumber_42 M a1 a2 (l_X4_readNumber_42 M a1 a2 (0, M.1 500 3) k)) 4)).1) < a1 then (w_X4_fail M) else if ((l_X4_readNumber_42 M a1 a2 (0, M.1 500 3) (cntN (fun k => c_X4_readNumber_42 M a1 a2 (l_X4_readNumber_42 M a1 a2 (0, M.1 500 3) k)) 4)).1) ≤ a2 then (w_X4_advance M) else (w_X4_fail M)) else M) else (w_X4_fail M)
def p_X4_readNumber (M : Mm) (a1 : Int32) (a2 : Int32) : Prop := (if 0 ≤ (M.1 500 5) then True else (if ¬ (M.1 500 2) = (2 : Int32) then True else (if ((M.1 500 4) - (M.1 500 3)) ≤ (3 : Int32) then (∀ k, k < (cntN (fun k => c_X4_readNumber_42 M a1 a2 (l_X4_readNumber_42 M a1 a2 (0, M.1 500 3) k)) 4) → c_X4_readNumber_42 M a1 a2 (l_X4_readNumber_42 M a1 a2 (0, M.1 500 3) k)) ∧ (∀ k, k < (cntN (fun k => c_X4_readNumber_42 M a1 a2 (l_X4_readNumber_42 M a1 a2 (0, M.1 500 3) k)) 4) → q_X4_readNumber_42 M a1 a2 (l_X4_readNumber_42 M a1 a2 (0, M.1 500 3) k)) ∧ (¬ c_X4_readNumber_42 M a1 a2 (l_X4_readNumber_42 M a1 a2 (0, M.1 500 3) (cntN (fun k => c_X4_readNumber_42 M a1 a2 (l_X4_readNumber_42 M a1 a2 (0, M.1 500 3) k)) 4))) ∧ (if (M.1 500 4) ≤ ((l_X4_readNumber_42 M a1 a2 (0, M.1 500 3) (cntN (fun k => c_X4_readNumber_42 M a1 a2 (l_X4_readNumber_42 M a1 a2 (0, M.1 500 3) k)) 4)).2) then (if ((l_X4_readNumber_42 M a1 a2 (0, M.1 500 3) (cntN (fun k => c_X4_readNumber_42 M a1 a2 (l_X4_readNumber_42 M a1 a2 (0, M.1 500 3) k)) 4)).1) < a1 then True else (if ((l_X4_readNumber_42 M a1 a2 (0, M.1 500 3) (cntN (fun k => c_X4_readNumber_42 M a1 a2 (l_X4_readNumber_42 M a1 a2 (0, M.1 500 3) k)) 4)).1) ≤ a2 then (p_X4_advance M ) ∧ True else True)) else True) else True)))
set_option maxRecDepth 20000 in
theorem rnX4_readNumber {d : Nat} {M : Mm} {a1 : Int32} {a2 : Int32}  (hp : p_X4_readNumber M a1 a2) : Rn (d + 2) mX4_readNumber [.ref 500, .int a1, .int a2] M (some (.int (r_X4_readNumber M a1 a2))) (w_X4_readNumber M a1 a2) := by
  refine Rn.of [some (.ref 500), some (.int a1), some (.int a2), none, none] (by decide +kernel) rfl (Nat.le_of_ble_eq_true rfl) rfl (fun J g hr => ?_)
  unfold p_X4_readNumber at hp
  refine j_iconst g (n := 0) (0) (by decide +kernel) rfl ?_
  refine j_istore_n g (i := 3) (by decide +kernel) (by decide) ?_
  dsimp only [stL, clL, hdL]
  refine j_aload_n g (i := 0) (by decide +kernel) rfl ?_
  refine j_gI g f4_28 (by decide +kernel) (by decide +kernel) (by decide +kernel) ?_
  refine j_if_ge g (off := 24) (tgt := 30) (by decide +kernel) (by decide) (fun c6 => ?_) (fun c6 => ?_)
  · rw [if_pos (show 0 ≤ (M.1 500 5) from c6)] at hp
    refine j_aload_n g (i := 0) (by decide +kernel) rfl ?_
    refine j_cV0v g v4_55 ⟨rfl, by decide⟩ (by decide +kernel) (by decide +kernel) (Nat.le_of_ble_eq_true rfl) (rnX4_fail) ?_
    refine j_iload_n g (i := 1) (by decide +kernel) rfl ?_
    refine hr.1 _ _ _ _ (by decide +kernel) ⟨_, rfl, by first | rfl | exact b2i_nar | decide +kernel⟩ ?_ ?_
    · unfold r_X4_readNumber; first | (simp only [if_pos (show 0 ≤ (M.1 500 5) from c6)]; done) | (simp only [if_pos (show 0 ≤ (M.1 500 5) from c6)]; rfl) | rfl
    · unfold w_X4_readNumber; first | (simp only [if_pos (show 0 ≤ (M.1 500 5) from c6)]; done) | (simp only [if_pos (show 0 ≤ (M.1 500 5) from c6)]; rfl) | rfl
  · rw [if_neg (show ¬ (0 ≤ (M.1 500 5)) from c6)] at hp
    refine j_aload_n g (i := 0) (by decide +kernel) rfl ?_
    refine j_gI g f4_19 (by decide +kernel) (by decide +kernel) (by decide +kernel) ?_
    refine j_iconst g (n := 2) (2) (by decide +kernel) rfl ?_
    refine j_icmp_ne g (off := 16) (tgt := 30) (by decide +kernel) (by decide) (fun c14 => ?_) (fun c14 => ?_)
    · rw [if_pos (show ¬ (M.1 500 2) = (2 : Int32) from c14)] at hp
      refine j_aload_n g (i := 0) (by decide +kernel) rfl ?_
      refine j_cV0v g v4_55 ⟨rfl, by decide⟩ (by decide +kernel) (by decide +kernel) (Nat.le_of_ble_eq_true rfl) (rnX4_fail) ?_
      refine j_iload_n g (i := 1) (by decide +kernel) rfl ?_
      refine hr.1 _ _ _ _ (by decide +kernel) ⟨_, rfl, by first | rfl | exact b2i_nar | decide +kernel⟩ ?_ ?_
      · unfold r_X4_readNumber; first | (simp only [if_neg (show ¬ (0 ≤ (M.1 500 5)) from c6), if_pos (show ¬ (M.1 500 2) = (2 : Int32) from c14)]; done) | (simp only [if_neg (show ¬ (0 ≤ (M.1 500 5)) from c6), if_pos (show ¬ (M.1 500 2) = (2 : Int32) from c14)]; rfl) | rfl
      · unfold w_X4_readNumber; first | (simp only [if_neg (show ¬ (0 ≤ (M.1 500 5)) from c6), if_pos (show ¬ (M.1 500 2) = (2 : Int32) from c14)]; done) | (simp only [if_neg (show ¬ (0 ≤ (M.1 500 5)) from c6), if_pos (show ¬ (M.1 500 2) = (2 : Int32) from c14)]; rfl) | rfl
    · rw [if_neg (show ¬ (¬ (M.1 500 2) = (2 : Int32)) from c14)] at hp
      refine j_aload_n g (i := 0) (by decide +kernel) rfl ?_
      refine j_gI g f4_25 (by decide +kernel) (by decide +kernel) (by decide +kernel) ?_
      refine j_aload_n g (i := 0) (by decide +kernel) rfl ?_
      refine j_gI g f4_22 (by decide +kernel) (by decide +kernel) (by decide +kernel) ?_
      refine j_isub g (by decide +kernel) ?_
      refine j_iconst g (n := 3) (3) (by decide +kernel) rfl ?_
      refine j_icmp_le g (off := 9) (tgt := 36) (by decide +kernel) (by decide) (fun c27 => ?_) (fun c27 => ?_)
      · rw [if_pos (show ((M.1 500 4) - (M.1 500 3)) ≤ (3 : Int32) from c27)] at hp
        refine j_aload_n g (i := 0) (by decide +kernel) rfl ?_
        refine j_gI g f4_22 (by decide +kernel) (by decide +kernel) (by decide +kernel) ?_
        refine j_istore g (i := 4) (by decide +kernel) (by decide) ?_
        dsimp only [stL, clL, hdL]
        obtain ⟨h0, hp⟩ := hp
        have hc_42_1 := h0
        obtain ⟨h0, hp⟩ := hp
        have hq_42_1 := h0
        obtain ⟨h0, hp⟩ := hp
        have hx_42_1 := h0
        refine sh_X4_readNumber_42   g (σ0 := (0, M.1 500 3)) (cntN (fun k => c_X4_readNumber_42 M a1 a2 (l_X4_readNumber_42 M a1 a2 (0, M.1 500 3) k)) 4) hc_42_1 hq_42_1 ?_ 
        refine j_iload g (i := 4) (by decide +kernel) rfl ?_
        refine j_aload_n g (i := 0) (by decide +kernel) rfl ?_
        refine j_gI g f4_25 (by decide +kernel) (by decide +kernel) (by decide +kernel) ?_
        refine j_icmp_ge g (off := 25) (tgt := 73) (by decide +kernel) (by decide) (fun c48 => ?_) (fun c48 => ?_)
        · rw [if_pos (show (M.1 500 4) ≤ ((l_X4_readNumber_42 M a1 a2 (0, M.1 500 3) (cntN (fun k => c_X4_readNumber_42 M a1 a2 (l_X4_readNumber_42 M a1 a2 (0, M.1 500 3) k)) 4)).2) from c48)] at hp
          refine j_iload_n g (i := 3) (by decide +kernel) rfl ?_
          refine j_iload_n g (i := 1) (by decide +kernel) rfl ?_
          refine j_icmp_lt g (off := 8) (tgt := 83) (by decide +kernel) (by decide) (fun c75 => ?_) (fun c75 => ?_)
          · rw [if_pos (show ((l_X4_readNumber_42 M a1 a2 (0, M.1 500 3) (cntN (fun k => c_X4_readNumber_42 M a1 a2 (l_X4_readNumber_42 M a1 a2 (0, M.1 500 3) k)) 4)).1) < a1 from c75)] at hp
            refine j_aload_n g (i := 0) (by decide +kernel) rfl ?_
            refine j_cV0v g v4_55 ⟨rfl, by decide⟩ (by decide +kernel) (by decide +kernel) (Nat.le_of_ble_eq_true rfl) (rnX4_fail) ?_
            refine j_iload_n g (i := 1) (by decide +kernel) rfl ?_
            refine hr.1 _ _ _ _ (by decide +kernel) ⟨_, rfl, by first | rfl | exact b2i_nar | decide +kernel⟩ ?_ ?_
            · unfold r_X4_readNumber; first | (simp only [if_neg (show ¬ (0 ≤ (M.1 500 5)) from c6), if_neg (show ¬ (¬ (M.1 500 2) = (2 : Int32)) from c14), if_pos (show ((M.1 500 4) - (M.1 500 3)) ≤ (3 : Int32) from c27), if_pos (show (M.1 500 4) ≤ ((l_X4_readNumber_42 M a1 a2 (0, M.1 500 3) (cntN (fun k => c_X4_readNumber_42 M a1 a2 (l_X4_readNumber_42 M a1 a2 (0, M.1 500 3) k)) 4)).2) from c48), if_pos (show ((l_X4_readNumber_42 M a1 a2 (0, M.1 500 3) (cntN (fun k => c_X4_readNumber_42 M a1 a2 (l_X4_readNumber_42 M a1 a2 (0, M.1 500 3) k)) 4)).1) < a1 from c75)]; done) | (simp only [if_neg (show ¬ (0 ≤ (M.1 500 5)) from c6), if_neg (show ¬ (¬ (M.1 500 2) = (2 : Int32)) from c14), if_pos (show ((M.1 500 4) - (M.1 500 3)) ≤ (3 : Int32) from c27), if_pos (show (M.1 500 4) ≤ ((l_X4_readNumber_42 M a1 a2 (0, M.1 500 3) (cntN (fun k => c_X4_readNumber_42 M a1 a2 (l_X4_readNumber_42 M a1 a2 (0, M.1 500 3) k)) 4)).2) from c48), if_pos (show ((l_X4_readNumber_42 M a1 a2 (0, M.1 500 3) (cntN (fun k => c_X4_readNumber_42 M a1 a2 (l_X4_readNumber_42 M a1 a2 (0, M.1 500 3) k)) 4)).1) < a1 from c75)]; rfl) | rfl
            · unfold w_X4_readNumber; first | (simp only [if_neg (show ¬ (0 ≤ (M.1 500 5)) from c6), if_neg (show ¬ (¬ (M.1 500 2) = (2 : Int32)) from c14), if_pos (show ((M.1 500 4) - (M.1 500 3)) ≤ (3 : Int32) from c27), if_pos (show (M.1 500 4) ≤ ((l_X4_readNumber_42 M a1 a2 (0, M.1 500 3) (cntN (fun k => c_X4_readNumber_42 M a1 a2 (l_X4_readNumber_42 M a1 a2 (0, M.1 500 3) k)) 4)).2) from c48), if_pos (show ((l_X4_readNumber_42 M a1 a2 (0, M.1 500 3) (cntN (fun k => c_X4_readNumber_42 M a1 a2 (l_X4_readNumber_42 M a1 a2 (0, M.1 500 3) k)) 4)).1) < a1 from c75)]; done) | (simp only [if_neg (show ¬ (0 ≤ (M.1 500 5)) from c6), if_neg (show ¬ (¬ (M.1 500 2) = (2 : Int32)) from c14), if_pos (show ((M.1 500 4) - (M.1 500 3)) ≤ (3 : Int32) from c27), if_pos (show (M.1 500 4) ≤ ((l_X4_readNumber_42 M a1 a2 (0, M.1 500 3) (cntN (fun k => c_X4_readNumber_42 M a1 a2 (l_X4_readNumber_42 M a1 a2 (0, M.1 500 3) k)) 4)).2) from c48), if_pos (show ((l_X4_readNumber_42 M a1 a2 (0, M.1 500 3) (cntN (fun k => c_X4_readNumber_42 M a1 a2 (l_X4_readNumber_42 M a1 a2 (0, M.1 500 3) k)) 4)).1) < a1 from c75)]; rfl) | rfl
          · rw [if_neg (show ¬ (((l_X4_readNumber_42 M a1 a2 (0, M.1 500 3) (cntN (fun k => c_X4_readNumber_42 M a1 a2 (l_X4_readNumber_42 M a1 a2 (0, M.1 500 3) k)) 4)).1) < a1) from c75)] at hp
            refine j_iload_n g (i := 3) (by decide +kernel) rfl ?_
            refine j_iload_n g (i := 2) (by decide +kernel) rfl ?_
            refine j_icmp_le g (off := 9) (tgt := 89) (by decide +kernel) (by decide) (fun c80 => ?_) (fun c80 => ?_)
            · rw [if_pos (show ((l_X4_readNumber_42 M a1 a2 (0, M.1 500 3) (cntN (fun k => c_X4_readNumber_42 M a1 a2 (l_X4_readNumber_42 M a1 a2 (0, M.1 500 3) k)) 4)).1) ≤ a2 from c80)] at hp
              refine j_aload_n g (i := 0) (by decide +kernel) rfl ?_
              obtain ⟨h0, hp⟩ := hp
              refine j_cV0v g v4_31 ⟨rfl, by decide⟩ (by decide +kernel) (by decide +kernel) (Nat.le_of_ble_eq_true rfl) (rnX4_advance h0) ?_
              refine j_iload_n g (i := 3) (by decide +kernel) rfl ?_
              refine hr.1 _ _ _ _ (by decide +kernel) ⟨_, rfl, by first | rfl | exact b2i_nar | decide +kernel⟩ ?_ ?_
              · unfold r_X4_readNumber; first | (simp only [if_neg (show ¬ (0 ≤ (M.1 500 5)) from c6), if_neg (show ¬ (¬ (M.1 500 2) = (2 : Int32)) from c14), if_pos (show ((M.1 500 4) - (M.1 500 3)) ≤ (3 : Int32) from c27), if_pos (show (M.1 500 4) ≤ ((l_X4_readNumber_42 M a1 a2 (0, M.1 500 3) (cntN (fun k => c_X4_readNumber_42 M a1 a2 (l_X4_readNumber_42 M a1 a2 (0, M.1 500 3) k)) 4)).2) from c48), if_neg (show ¬ (((l_X4_readNumber_42 M a1 a2 (0, M.1 500 3) (cntN (fun k => c_X4_readNumber_42 M a1 a2 (l_X4_readNumber_42 M a1 a2 (0, M.1 500 3) k)) 4)).1) < a1) from c75), if_pos (show ((l_X4_readNumber_42 M a1 a2 (0, M.1 500 3) (cntN (fun k => c_X4_readNumber_42 M a1 a2 (l_X4_readNumber_42 M a1 a2 (0, M.1 500 3) k)) 4)).1) ≤ a2 from c80)]; done) | (simp only [if_neg (show ¬ (0 ≤ (M.1 500 5)) from c6), if_neg (show ¬ (¬ (M.1 500 2) = (2 : Int32)) from c14), if_pos (show ((M.1 500 4) - (M.1 500 3)) ≤ (3 : Int32) from c27), if_pos (show (M.1 500 4) ≤ ((l_X4_readNumber_42 M a1 a2 (0, M.1 500 3) (cntN (fun k => c_X4_readNumber_42 M a1 a2 (l_X4_readNumber_42 M a1 a2 (0, M.1 500 3) k)) 4)).2) from c48), if_neg (show ¬ (((l_X4_readNumber_42 M a1 a2 (0, M.1 500 3) (cntN (fun k => c_X4_readNumber_42 M a1 a2 (l_X4_readNumber_42 M a1 a2 (0, M.1 500 3) k)) 4)).1) < a1) from c75), if_pos (show ((l_X4_readNumber_42 M a1 a2 (0, M.1 500 3) (cntN (fun k => c_X4_readNumber_42 M a1 a2 (l_X4_readNumber_42 M a1 a2 (0, M.1 500 3) k)) 4)).1) ≤ a2 from c80)]; rfl) | rfl
              · unfold w_X4_readNumber; first | (simp only [if_neg (show ¬ (0 ≤ (M.1 500 5)) from c6), if_neg (show ¬ (¬ (M.1 500 2) = (2 : Int32)) from c14), if_pos (show ((M.1 500 4) - (M.1 500 3)) ≤ (3 : Int32) from c27), if_pos (show (M.1 500 4) ≤ ((l_X4_readNumber_42 M a1 a2 (0, M.1 500 3) (cntN (fun k => c_X4_readNumber_42 M a1 a2 (l_X4_readNumber_42 M a1 a2 (0, M.1 500 3) k)) 4)).2) from c48), if_neg (show ¬ (((l_X4_readNumber_42 M a1 a2 (0, M.1 500 3) (cntN (fun k => c_X4_readNumber_42 M a1 a2 (l_X4_readNumber_42 M a1 a2 (0, M.1 500 3) k)) 4)).1) < a1) from c75), if_pos (show ((l_X4_readNumber_42 M a1 a2 (0, M.1 500 3) (cntN (fun k => c_X4_readNumber_42 M a1 a2 (l_X4_readNumber_42 M a1 a2 (0, M.1 500 3) k)) 4)).1) ≤ a2 from c80)]; done) | (simp only [if_neg (show ¬ (0 ≤ (M.1 500 5)) from c6), if_neg (show ¬ (¬ (M.1 500 2) = (2 : Int32)) from c14), if_pos (show ((M.1 500 4) - (M.1 500 3)) ≤ (3 : Int32) from c27), if_pos (show (M.1 500 4) ≤ ((l_X4_readNumber_42 M a1 a2 (0, M.1 500 3) (cntN (fun k => c_X4_readNumber_42 M a1 a2 (l_X4_readNumber_42 M a1 a2 (0, M.1 500 3) k)) 4)).2) from c48), if_neg (show ¬ (((l_X4_readNumber_42 M a1 a2 (0, M.1 500 3) (cntN (fun k => c_X4_readNumber_42 M a1 a2 (l_X4_readNumber_42 M a1 a2 (0, M.1 500 3) k)) 4)).1) < a1) from c75), if_pos (show ((l_X4_readNumber_42 M a1 a2 (0, M.1 500 3) (cntN (fun k => c_X4_readNumber_42 M a1 a2 (l_X4_readNumber_42 M a1 a2 (0, M.1 500 3) k)) 4)).1) ≤ a2 from c80)]; rfl) | rfl
            · rw [if_neg (show ¬ (((l_X4_readNumber_42 M a1 a2 (0, M.1 500 3) (cntN (fun k => c_X4_readNumber_42 M a1 a2 (l_X4_readNumber_42 M a1 a2 (0, M.1 500 3) k)) 4)).1) ≤ a2) from c80)] at hp
              refine j_aload_n g (i := 0) (by decide +kernel) rfl ?_
              refine j_cV0v g v4_55 ⟨rfl, by decide⟩ (by decide +kernel) (by decide +kernel) (Nat.le_of_ble_eq_true rfl) (rnX4_fail) ?_
              refine j_iload_n g (i := 1) (by decide +kernel) rfl ?_
              refine hr.1 _ _ _ _ (by decide +kernel) ⟨_, rfl, by first | rfl | exact b2i_nar | decide +kernel⟩ ?_ ?_
              · unfold r_X4_readNumber; first | (simp only [if_neg (show ¬ (0 ≤ (M.1 500 5)) from c6), if_neg (show ¬ (¬ (M.1 500 2) = (2 : Int32)) from c14), if_pos (show ((M.1 500 4) - (M.1 500 3)) ≤ (3 : Int32) from c27), if_pos (show (M.1 500 4) ≤ ((l_X4_readNumber_42 M a1 a2 (0, M.1 500 3) (cntN (fun k => c_X4_readNumber_42 M a1 a2 (l_X4_readNumber_42 M a1 a2 (0, M.1 500 3) k)) 4)).2) from c48), if_neg (show ¬ (((l_X4_readNumber_42 M a1 a2 (0, M.1 500 3) (cntN (fun k => c_X4_readNumber_42 M a1 a2 (l_X4_readNumber_42 M a1 a2 (0, M.1 500 3) k)) 4)).1) < a1) from c75), if_neg (show ¬ (((l_X4_readNumber_42 M a1 a2 (0, M.1 500 3) (cntN (fun k => c_X4_readNumber_42 M a1 a2 (l_X4_readNumber_42 M a1 a2 (0, M.1 500 3) k)) 4)).1) ≤ a2) from c80)]; done) | (simp only [if_neg (show ¬ (0 ≤ (M.1 500 5)) from c6), if_neg (show ¬ (¬ (M.1 500 2) = (2 : Int32)) from c14), if_pos (show ((M.1 500 4) - (M.1 500 3)) ≤ (3 : Int32) from c27), if_pos (show (M.1 500 4) ≤ ((l_X4_readNumber_42 M a1 a2 (0, M.1 500 3) (cntN (fun k => c_X4_readNumber_42 M a1 a2 (l_X4_readNumber_42 M a1 a2 (0, M.1 500 3) k)) 4)).2) from c48), if_neg (show ¬ (((l_X4_readNumber_42 M a1 a2 (0, M.1 500 3) (cntN (fun k => c_X4_readNumber_42 M a1 a2 (l_X4_readNumber_42 M a1 a2 (0, M.1 500 3) k)) 4)).1) < a1) from c75), if_neg (show ¬ (((l_X4_readNumber_42 M a1 a2 (0, M.1 500 3) (cntN (fun k => c_X4_readNumber_42 M a1 a2 (l_X4_readNumber_42 M a1 a2 (0, M.1 500 3) k)) 4)).1) ≤ a2) from c80)]; rfl) | rfl
              · unfold w_X4_readNumber; first | (simp only [if_neg (show ¬ (0 ≤ (M.1 500 5)) from c6), if_neg (show ¬ (¬ (M.1 500 2) = (2 : Int32)) from c14), if_pos (show ((M.1 500 4) - (M.1 500 3)) ≤ (3 : Int32) from c27), if_pos (show (M.1 500 4) ≤ ((l_X4_readNumber_42 M a1 a2 (0, M.1 500 3) (cntN (fun k => c_X4_readNumber_42 M a1 a2 (l_X4_readNumber_42 M a1 a2 (0, M.1 500 3) k)) 4)).2) from c48), if_neg (show ¬ (((l_X4_readNumber_42 M a1 a2 (0, M.1 500 3) (cntN (fun k => c_X4_readNumber_42 M a1 a2 (l_X4_readNumber_42 M a1 a2 (0, M.1 500 3) k)) 4)).1) < a1) from c75), if_neg (show ¬ (((l_X4_readNumber_42 M a1 a2 (0, M.1 500 3) (cntN (fun k => c_X4_readNumber_42 M a1 a2 (l_X4_readNumber_42 M a1 a2 (0, M.1 500 3) k)) 4)).1) ≤ a2) from c80)]; done) | (simp only [if_neg (show ¬ (0 ≤ (M.1 500 5)) from c6), if_neg (show ¬ (¬ (M.1 500 2) = (2 : Int32)) from c14), if_pos (show ((M.1 500 4) - (M.1 500 3)) ≤ (3 : Int32) from c27), if_pos (show (M.1 500 4) ≤ ((l_X4_readNumber_42 M a1 a2 (0, M.1 500 3) (cntN (fun k => c_X4_readNumber_42 M a1 a2 (l_X4_readNumber_42 M a1 a2 (0, M.1 500 3) k)) 4)).2) from c48), if_neg (show ¬ (((l_X4_readNumber_42 M a1 a2 (0, M.1 500 3) (cntN (fun k => c_X4_readNumber_42 M a1 a2 (l_X4_readNumber_42 M a1 a2 (0, M.1 500 3) k)) 4)).1) < a1) from c75), if_neg (show ¬ (((l_X4_readNumber_42 M a1 a2 (0, M.1 500 3) (cntN (fun k => c_X4_readNumber_42 M a1 a2 (l_X4_readNumber_42 M a1 a2 (0, M.1 500 3) k)) 4)).1) ≤ a2) from c80)]; rfl) | rfl
        · rw [if_neg (show ¬ ((M.1 500 4) ≤ ((l_X4_readNumber_42 M a1 a2 (0, M.1 500 3) (cntN (fun k => c_X4_readNumber_42 M a1 a2 (l_X4_readNumber_42 M a1 a2 (0, M.1 500 3) k)) 4)).2)) from c48)] at hp
          refine absurd (ci_X4_readNumber_42.mpr ?_) hx_42_1
          simp only [if_neg (show ¬ (0 ≤ (M.1 500 5)) from c6), if_neg (show ¬ (¬ (M.1 500 2) = (2 : Int32)) from c14), if_pos (show ((M.1 500 4) - (M.1 500 3)) ≤ (3 : Int32) from c27), if_neg (show ¬ ((M.1 500 4) ≤ ((l_X4_readNumber_42 M a1 a2 (0, M.1 500 3) (cntN (fun k => c_X4_readNumber_42 M a1 a2 (l_X4_readNumber_42 M a1 a2 (0, M.1 500 3) k)) 4)).2)) from c48)]
      · rw [if_neg (show ¬ (((M.1 500 4) - (M.1 500 3)) ≤ (3 : Int32)) from c27)] at hp
        refine j_aload_n g (i := 0) (by decide +kernel) rfl ?_
        refine j_cV0v g v4_55 ⟨rfl, by decide⟩ (by decide +kernel) (by decide +kernel) (Nat.le_of_ble_eq_true rfl) (rnX4_fail) ?_
        refine j_iload_n g (i := 1) (by decide +kernel) rfl ?_
        refine hr.1 _ _ _ _ (by decide +kernel) ⟨_, rfl, by first | rfl | exact b2i_nar | decide +kernel⟩ ?_ ?_
        · unfold r_X4_readNumber; first | (simp only [if_neg (show ¬ (0 ≤ (M.1 500 5)) from c6), if_neg (show ¬ (¬ (M.1 500 2) = (2 : Int32)) from c14), if_neg (show ¬ (((M.1 500 4) - (M.1 500 3)) ≤ (3 : Int32)) from c27)]; done) | (simp only [if_neg (show ¬ (0 ≤ (M.1 500 5)) from c6), if_neg (show ¬ (¬ (M.1 500 2) = (2 : Int32)) from c14), if_neg (show ¬ (((M.1 500 4) - (M.1 500 3)) ≤ (3 : Int32)) from c27)]; rfl) | rfl
        · unfold w_X4_readNumber; first | (simp only [if_neg (show ¬ (0 ≤ (M.1 500 5)) from c6), if_neg (show ¬ (¬ (M.1 500 2) = (2 : Int32)) from c14), if_neg (show ¬ (((M.1 500 4) - (M.1 500 3)) ≤ (3 : Int32)) from c27)]; done) | (simp only [if_neg (show ¬ (0 ≤ (M.1 500 5)) from c6), if_neg (show ¬ (¬ (M.1 500 2) = (2 : Int32)) from c14), if_neg (show ¬ (((M.1 500 4) - (M.1 500 3)) ≤ (3 : Int32)) from c27)]; rfl) | rfl
noncomputable def w_X4_readLaw (M : Mm) (a2 : Int32) : Mm := if 0 ≤ ((w_X4_readNumber M (om_least (Int32.toNatClampNeg a2)) (om_most (Int32.toNatClampNeg a2))).1 500 5) then (w_X4_readNumber M (om_least (Int32.toNatClampNeg a2)) (om_most (Int32.toNatClampNeg a2))) else (wi (w_X4_readNumber M (om_least (Int32.toNatClampNeg a2)) (om_most (Int32.toNatClampNeg a2))) 304 (Int32.toNatClampNeg a2) (r_X4_readNumber M (om_least (Int32.toNatClampNeg a2)) (om_most (Int32.toNatClampNeg a2))))
def p_X4_readLaw (M : Mm) (a2 : Int32) : Prop := (vp_in a2 4) ∧ (vp_in a2 4) ∧ (p_X4_readNumber M (om_least (Int32.toNatClampNeg a2)) (om_most (Int32.toNatClampNeg a2))) ∧ (if 0 ≤ ((w_X4_readNumber M (om_least (Int32.toNatClampNeg a2)) (om_most (Int32.toNatClampNeg a2))).1 500 5) then True else (vp_in a2 4) ∧ True)
set_option maxRecDepth 20000 in
theorem rnX4_readLaw {d : Nat} {M : Mm} {a2 : Int32}  (hp : p_X4_readLaw M a2) : Rn (d + 3) mX4_readLaw [.ref 500, .ref 300, .int a2] M none (w_X4_readLaw M a2) := by
  refine Rn.of [some (.ref 500), some (.ref 300), some (.int a2), none] (by decide +kernel) rfl (Nat.le_of_ble_eq_true rfl) rfl (fun J g hr => ?_)
  unfold p_X4_readLaw at hp
  refine j_aload_n g (i := 0) (by decide +kernel) rfl ?_
  refine j_stL4 g (by decide +kernel) ?_
  refine j_iload_n g (i := 2) (by decide +kernel) rfl ?_
  obtain ⟨h0, hp⟩ := hp
  refine j_tiL g (by decide +kernel) h0 ?_
  refine j_stM4 g (by decide +kernel) ?_
  refine j_iload_n g (i := 2) (by decide +kernel) rfl ?_
  obtain ⟨h0, hp⟩ := hp
  refine j_tiM g (by decide +kernel) h0 ?_
  obtain ⟨h0, hp⟩ := hp
  refine j_cV2r g v4_109 ⟨rfl, by decide⟩ (by decide +kernel) (by decide +kernel) (Nat.le_of_ble_eq_true rfl) (rnX4_readNumber h0) ?_
  refine j_istore_n g (i := 3) (by decide +kernel) (by decide) ?_
  dsimp only [stL, clL, hdL]
  refine j_aload_n g (i := 0) (by decide +kernel) rfl ?_
  refine j_gI g f4_28 (by decide +kernel) (by decide +kernel) (by decide +kernel) ?_
  refine j_if_ge g (off := 10) (tgt := 29) (by decide +kernel) (by decide) (fun c19 => ?_) (fun c19 => ?_)
  · rw [if_pos (show 0 ≤ ((w_X4_readNumber M (om_least (Int32.toNatClampNeg a2)) (om_most (Int32.toNatClampNeg a2))).1 500 5) from c19)] at hp
    refine hr.2.2.2 _ _ _ (by decide +kernel) rfl rfl ?_
    · unfold w_X4_readLaw; first | (simp only [if_pos (show 0 ≤ ((w_X4_readNumber M (om_least (Int32.toNatClampNeg a2)) (om_most (Int32.toNatClampNeg a2))).1 500 5) from c19)]; done) | (simp only [if_pos (show 0 ≤ ((w_X4_readNumber M (om_least (Int32.toNatClampNeg a2)) (om_most (Int32.toNatClampNeg a2))).1 500 5) from c19)]; rfl) | rfl
  · rw [if_neg (show ¬ (0 ≤ ((w_X4_readNumber M (om_least (Int32.toNatClampNeg a2)) (om_most (Int32.toNatClampNeg a2))).1 500 5)) from c19)] at hp
    refine j_aload_n g (i := 1) (by decide +kernel) rfl ?_
    refine j_gA g (b := 304) f4_113 (by decide +kernel) (by decide +kernel) (by decide +kernel) (by decide +kernel) ?_
    refine j_iload_n g (i := 2) (by decide +kernel) rfl ?_
    refine j_iload_n g (i := 3) (by decide +kernel) rfl ?_
    obtain ⟨h0, hp⟩ := hp
    refine j_is g 4 (by decide +kernel) (by decide +kernel) (by decide +kernel) h0 ?_
    refine hr.2.2.2 _ _ _ (by decide +kernel) rfl rfl ?_
    · unfold w_X4_readLaw; first | (simp only [if_neg (show ¬ (0 ≤ ((w_X4_readNumber M (om_least (Int32.toNatClampNeg a2)) (om_most (Int32.toNatClampNeg a2))).1 500 5)) from c19)]; done) | (simp only [if_neg (show ¬ (0 ≤ ((w_X4_readNumber M (om_least (Int32.toNatClampNeg a2)) (om_most (Int32.toNatClampNeg a2))).1 500 5)) from c19)]; rfl) | rfl
noncomputable def w_X4_readMover (M : Mm)  : Mm := if (M.1 300 0) < (3 : Int32) then (if 0 ≤ ((w_X4_readNumber (w_X4_readNumber (w_X4_advance M) (0 : Int32) (9 : Int32)) (1 : Int32) (5 : Int32)).1 500 5) then (w_X4_readNumber (w_X4_readNumber (w_X4_advance M) (0 : Int32) (9 : Int32)) (1 : Int32) (5 : Int32)) else (w_X5_addMover_300 (w_X4_readNumber (w_X4_readNumber (w_X4_advance M) (0 : Int32) (9 : Int32)) (1 : Int32) (5 : Int32)) (r_X4_readNumber (w_X4_advance M) (0 : Int32) (9 : Int32)) (r_X4_readNumber (w_X4_readNumber (w_X4_advance M) (0 : Int32) (9 : Int32)) (1 : Int32) (5 : Int32)))) else (w_X4_fail M)
def p_X4_readMover (M : Mm)  : Prop := (if (M.1 300 0) < (3 : Int32) then (p_X4_advance M ) ∧ (p_X4_readNumber (w_X4_advance M) (0 : Int32) (9 : Int32)) ∧ (p_X4_readNumber (w_X4_readNumber (w_X4_advance M) (0 : Int32) (9 : Int32)) (1 : Int32) (5 : Int32)) ∧ (if 0 ≤ ((w_X4_readNumber (w_X4_readNumber (w_X4_advance M) (0 : Int32) (9 : Int32)) (1 : Int32) (5 : Int32)).1 500 5) then True else (p_X5_addMover_300 (w_X4_readNumber (w_X4_readNumber (w_X4_advance M) (0 : Int32) (9 : Int32)) (1 : Int32) (5 : Int32)) (r_X4_readNumber (w_X4_advance M) (0 : Int32) (9 : Int32)) (r_X4_readNumber (w_X4_readNumber (w_X4_advance M) (0 : Int32) (9 : Int32)) (1 : Int32) (5 : Int32))) ∧ True) else True)
set_option maxRecDepth 20000 in
theorem rnX4_readMover {d : Nat} {M : Mm}   (hp : p_X4_readMover M ) : Rn (d + 3) mX4_readMover [.ref 500, .ref 300] M none (w_X4_readMover M ) := by
  refine Rn.of [some (.ref 500), some (.ref 300), none, none] (by decide +kernel) rfl (Nat.le_of_ble_eq_true rfl) rfl (fun J g hr => ?_)
  unfold p_X4_readMover at hp
  refine j_aload_n g (i := 1) (by decide +kernel) rfl ?_
  refine j_gI g f4_118 (by decide +kernel) (by decide +kernel) (by decide +kernel) ?_
  refine j_iconst g (n := 3) (3) (by decide +kernel) rfl ?_
  refine j_icmp_lt g (off := 8) (tgt := 13) (by decide +kernel) (by decide) (fun c5 => ?_) (fun c5 => ?_)
  · rw [if_pos (show (M.1 300 0) < (3 : Int32) from c5)] at hp
    refine j_aload_n g (i := 0) (by decide +kernel) rfl ?_
    obtain ⟨h0, hp⟩ := hp
    refine j_cV0v g v4_31 ⟨rfl, by decide⟩ (by decide +kernel) (by decide +kernel) (Nat.le_of_ble_eq_true rfl) (rnX4_advance h0) ?_
    refine j_aload_n g (i := 0) (by decide +kernel) rfl ?_
    refine j_iconst g (n := 0) (0) (by decide +kernel) rfl ?_
    refine j_bipush g (n := 9) (9) (by decide +kernel) (by decide +kernel) ?_
    obtain ⟨h0, hp⟩ := hp
    refine j_cV2r g v4_109 ⟨rfl, by decide⟩ (by decide +kernel) (by decide +kernel) (Nat.le_of_ble_eq_true rfl) (rnX4_readNumber h0) ?_
    refine j_istore_n g (i := 2) (by decide +kernel) (by decide) ?_
    dsimp only [stL, clL, hdL]
    refine j_aload_n g (i := 0) (by decide +kernel) rfl ?_
    refine j_iconst g (n := 1) (1) (by decide +kernel) rfl ?_
    refine j_iconst g (n := 5) (5) (by decide +kernel) rfl ?_
    obtain ⟨h0, hp⟩ := hp
    refine j_cV2r g v4_109 ⟨rfl, by decide⟩ (by decide +kernel) (by decide +kernel) (Nat.le_of_ble_eq_true rfl) (rnX4_readNumber h0) ?_
    refine j_istore_n g (i := 3) (by decide +kernel) (by decide) ?_
    dsimp only [stL, clL, hdL]
    refine j_aload_n g (i := 0) (by decide +kernel) rfl ?_
    refine j_gI g f4_28 (by decide +kernel) (by decide +kernel) (by decide +kernel) ?_
    refine j_if_ge g (off := 10) (tgt := 46) (by decide +kernel) (by decide) (fun c36 => ?_) (fun c36 => ?_)
    · rw [if_pos (show 0 ≤ ((w_X4_readNumber (w_X4_readNumber (w_X4_advance M) (0 : Int32) (9 : Int32)) (1 : Int32) (5 : Int32)).1 500 5) from c36)] at hp
      refine hr.2.2.2 _ _ _ (by decide +kernel) rfl rfl ?_
      · unfold w_X4_readMover; first | (simp only [if_pos (show (M.1 300 0) < (3 : Int32) from c5), if_pos (show 0 ≤ ((w_X4_readNumber (w_X4_readNumber (w_X4_advance M) (0 : Int32) (9 : Int32)) (1 : Int32) (5 : Int32)).1 500 5) from c36)]; done) | (simp only [if_pos (show (M.1 300 0) < (3 : Int32) from c5), if_pos (show 0 ≤ ((w_X4_readNumber (w_X4_readNumber (w_X4_advance M) (0 : Int32) (9 : Int32)) (1 : Int32) (5 : Int32)).1 500 5) from c36)]; rfl) | rfl
    · rw [if_neg (show ¬ (0 ≤ ((w_X4_readNumber (w_X4_readNumber (w_X4_advance M) (0 : Int32) (9 : Int32)) (1 : Int32) (5 : Int32)).1 500 5)) from c36)] at hp
      refine j_aload_n g (i := 1) (by decide +kernel) rfl ?_
      refine j_iload_n g (i := 2) (by decide +kernel) rfl ?_
      refine j_iload_n g (i := 3) (by decide +kernel) rfl ?_
      obtain ⟨h0, hp⟩ := hp
      refine j_cV2r g v4_121 ⟨rfl, by decide⟩ (by decide +kernel) (by decide +kernel) (Nat.le_of_ble_eq_true rfl) (rnX5_addMover_300 h0) ?_
      refine j_pop g (by decide +kernel) rfl ?_
      refine hr.2.2.2 _ _ _ (by decide +kernel) rfl rfl ?_
      · unfold w_X4_readMover; first | (simp only [if_pos (show (M.1 300 0) < (3 : Int32) from c5), if_neg (show ¬ (0 ≤ ((w_X4_readNumber (w_X4_readNumber (w_X4_advance M) (0 : Int32) (9 : Int32)) (1 : Int32) (5 : Int32)).1 500 5)) from c36)]; done) | (simp only [if_pos (show (M.1 300 0) < (3 : Int32) from c5), if_neg (show ¬ (0 ≤ ((w_X4_readNumber (w_X4_readNumber (w_X4_advance M) (0 : Int32) (9 : Int32)) (1 : Int32) (5 : Int32)).1 500 5)) from c36)]; rfl) | rfl
  · rw [if_neg (show ¬ ((M.1 300 0) < (3 : Int32)) from c5)] at hp
    refine j_aload_n g (i := 0) (by decide +kernel) rfl ?_
    refine j_cV0v g v4_55 ⟨rfl, by decide⟩ (by decide +kernel) (by decide +kernel) (Nat.le_of_ble_eq_true rfl) (rnX4_fail) ?_
    refine hr.2.2.2 _ _ _ (by decide +kernel) rfl rfl ?_
    · unfold w_X4_readMover; first | (simp only [if_neg (show ¬ ((M.1 300 0) < (3 : Int32)) from c5)]; done) | (simp only [if_neg (show ¬ ((M.1 300 0) < (3 : Int32)) from c5)]; rfl) | rfl
noncomputable def w_X4_readThing (M : Mm)  : Mm := if (M.1 300 1) < (6 : Int32) then (if 0 ≤ ((w_X4_readNumber (w_X4_readNumber (w_X4_advance M) (0 : Int32) (9 : Int32)) (1 : Int32) (9 : Int32)).1 500 5) then (w_X4_readNumber (w_X4_readNumber (w_X4_advance M) (0 : Int32) (9 : Int32)) (1 : Int32) (9 : Int32)) else (w_X5_addThing_300 (w_X4_readNumber (w_X4_readNumber (w_X4_advance M) (0 : Int32) (9 : Int32)) (1 : Int32) (9 : Int32)) (r_X4_readNumber (w_X4_advance M) (0 : Int32) (9 : Int32)) (r_X4_readNumber (w_X4_readNumber (w_X4_advance M) (0 : Int32) (9 : Int32)) (1 : Int32) (9 : Int32)))) else (w_X4_fail M)
def p_X4_readThing (M : Mm)  : Prop := (if (M.1 300 1) < (6 : Int32) then (p_X4_advance M ) ∧ (p_X4_readNumber (w_X4_advance M) (0 : Int32) (9 : Int32)) ∧ (p_X4_readNumber (w_X4_readNumber (w_X4_advance M) (0 : Int32) (9 : Int32)) (1 : Int32) (9 : Int32)) ∧ (if 0 ≤ ((w_X4_readNumber (w_X4_readNumber (w_X4_advance M) (0 : Int32) (9 : Int32)) (1 : Int32) (9 : Int32)).1 500 5) then True else (p_X5_addThing_300 (w_X4_readNumber (w_X4_readNumber (w_X4_advance M) (0 : Int32) (9 : Int32)) (1 : Int32) (9 : Int32)) (r_X4_readNumber (w_X4_advance M) (0 : Int32) (9 : Int32)) (r_X4_readNumber (w_X4_readNumber (w_X4_advance M) (0 : Int32) (9 : Int32)) (1 : Int32) (9 : Int32))) ∧ True) else True)
set_option maxRecDepth 20000 in
theorem rnX4_readThing {d : Nat} {M : Mm}   (hp : p_X4_readThing M ) : Rn (d + 3) mX4_readThing [.ref 500, .ref 300] M none (w_X4_readThing M ) := by
  refine Rn.of [some (.ref 500), some (.ref 300), none, none] (by decide +kernel) rfl (Nat.le_of_ble_eq_true rfl) rfl (fun J g hr => ?_)
  unfold p_X4_readThing at hp
  refine j_aload_n g (i := 1) (by decide +kernel) rfl ?_
  refine j_gI g f4_124 (by decide +kernel) (by decide +kernel) (by decide +kernel) ?_
  refine j_bipush g (n := 6) (6) (by decide +kernel) (by decide +kernel) ?_
  refine j_icmp_lt g (off := 8) (tgt := 14) (by decide +kernel) (by decide) (fun c6 => ?_) (fun c6 => ?_)
  · rw [if_pos (show (M.1 300 1) < (6 : Int32) from c6)] at hp
    refine j_aload_n g (i := 0) (by decide +kernel) rfl ?_
    obtain ⟨h0, hp⟩ := hp
    refine j_cV0v g v4_31 ⟨rfl, by decide⟩ (by decide +kernel) (by decide +kernel) (Nat.le_of_ble_eq_true rfl) (rnX4_advance h0) ?_
    refine j_aload_n g (i := 0) (by decide +kernel) rfl ?_
    refine j_iconst g (n := 0) (0) (by decide +kernel) rfl ?_
    refine j_bipush g (n := 9) (9) (by decide +kernel) (by decide +kernel) ?_
    obtain ⟨h0, hp⟩ := hp
    refine j_cV2r g v4_109 ⟨rfl, by decide⟩ (by decide +kernel) (by decide +kernel) (Nat.le_of_ble_eq_true rfl) (rnX4_readNumber h0) ?_
    refine j_istore_n g (i := 2) (by decide +kernel) (by decide) ?_
    dsimp only [stL, clL, hdL]
    refine j_aload_n g (i := 0) (by decide +kernel) rfl ?_
    refine j_iconst g (n := 1) (1) (by decide +kernel) rfl ?_
    refine j_bipush g (n := 9) (9) (by decide +kernel) (by decide +kernel) ?_
    obtain ⟨h0, hp⟩ := hp
    refine j_cV2r g v4_109 ⟨rfl, by decide⟩ (by decide +kernel) (by decide +kernel) (Nat.le_of_ble_eq_true rfl) (rnX4_readNumber h0) ?_
    refine j_istore_n g (i := 3) (by decide +kernel) (by decide) ?_
    dsimp only [stL, clL, hdL]
    refine j_aload_n g (i := 0) (by decide +kernel) rfl ?_
    refine j_gI g f4_28 (by decide +kernel) (by decide +kernel) (by decide +kernel) ?_
    refine j_if_ge g (off := 10) (tgt := 48) (by decide +kernel) (by decide) (fun c38 => ?_) (fun c38 => ?_)
    · rw [if_pos (show 0 ≤ ((w_X4_readNumber (w_X4_readNumber (w_X4_advance M) (0 : Int32) (9 : Int32)) (1 : Int32) (9 : Int32)).1 500 5) from c38)] at hp
      refine hr.2.2.2 _ _ _ (by decide +kernel) rfl rfl ?_
      · unfold w_X4_readThing; first | (simp only [if_pos (show (M.1 300 1) < (6 : Int32) from c6), if_pos (show 0 ≤ ((w_X4_readNumber (w_X4_readNumber (w_X4_advance M) (0 : Int32) (9 : Int32)) (1 : Int32) (9 : Int32)).1 500 5) from c38)]; done) | (simp only [if_pos (show (M.1 300 1) < (6 : Int32) from c6), if_pos (show 0 ≤ ((w_X4_readNumber (w_X4_readNumber (w_X4_advance M) (0 : Int32) (9 : Int32)) (1 : Int32) (9 : Int32)).1 500 5) from c38)]; rfl) | rfl
    · rw [if_neg (show ¬ (0 ≤ ((w_X4_readNumber (w_X4_readNumber (w_X4_advance M) (0 : Int32) (9 : Int32)) (1 : Int32) (9 : Int32)).1 500 5)) from c38)] at hp
      refine j_aload_n g (i := 1) (by decide +kernel) rfl ?_
      refine j_iload_n g (i := 2) (by decide +kernel) rfl ?_
      refine j_iload_n g (i := 3) (by decide +kernel) rfl ?_
      obtain ⟨h0, hp⟩ := hp
      refine j_cV2r g v4_127 ⟨rfl, by decide⟩ (by decide +kernel) (by decide +kernel) (Nat.le_of_ble_eq_true rfl) (rnX5_addThing_300 h0) ?_
      refine j_pop g (by decide +kernel) rfl ?_
      refine hr.2.2.2 _ _ _ (by decide +kernel) rfl rfl ?_
      · unfold w_X4_readThing; first | (simp only [if_pos (show (M.1 300 1) < (6 : Int32) from c6), if_neg (show ¬ (0 ≤ ((w_X4_readNumber (w_X4_readNumber (w_X4_advance M) (0 : Int32) (9 : Int32)) (1 : Int32) (9 : Int32)).1 500 5)) from c38)]; done) | (simp only [if_pos (show (M.1 300 1) < (6 : Int32) from c6), if_neg (show ¬ (0 ≤ ((w_X4_readNumber (w_X4_readNumber (w_X4_advance M) (0 : Int32) (9 : Int32)) (1 : Int32) (9 : Int32)).1 500 5)) from c38)]; rfl) | rfl
  · rw [if_neg (show ¬ ((M.1 300 1) < (6 : Int32)) from c6)] at hp
    refine j_aload_n g (i := 0) (by decide +kernel) rfl ?_
    refine j_cV0v g v4_55 ⟨rfl, by decide⟩ (by decide +kernel) (by decide +kernel) (Nat.le_of_ble_eq_true rfl) (rnX4_fail) ?_
    refine hr.2.2.2 _ _ _ (by decide +kernel) rfl rfl ?_
    · unfold w_X4_readThing; first | (simp only [if_neg (show ¬ ((M.1 300 1) < (6 : Int32)) from c6)]; done) | (simp only [if_neg (show ¬ ((M.1 300 1) < (6 : Int32)) from c6)]; rfl) | rfl
