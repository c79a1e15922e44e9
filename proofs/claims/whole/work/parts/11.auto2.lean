def r_X8_kindHere (M : Mm)  : Int32 := if (b2i (M.1 600 16 = 1 ∧ M.2 600 19 = 464141)) = 0 then (if (b2i (M.1 600 16 = 1 ∧ M.2 600 19 = 4351291)) = 0 then (if (b2i (M.1 600 16 = 1 ∧ M.2 600 19 = 60284)) = 0 then (if (b2i (M.1 600 16 = 1 ∧ M.2 600 19 = 383153)) = 0 then (if (b2i (M.1 600 16 = 1 ∧ M.2 600 19 = 9454493)) = 0 then (if (b2i (M.1 600 16 = 1 ∧ M.2 600 19 = 11570)) = 0 then (-1) else 5) else 4) else 3) else 2) else 1) else 0
theorem rnX8_kindHere {d : Nat} {M : Mm}   : Rn (d + 1) mX8_kindHere [.ref 600] M (some (.int (r_X8_kindHere M ))) M := by
  refine Rn.of [some (.ref 600)] (by decide +kernel) rfl (Nat.le_of_ble_eq_true rfl) rfl (fun J g hr => ?_)
  refine j_aload_n g (i := 0) (by decide +kernel) rfl ?_
  refine j_ldc2 g (n := 141) (464141) (by decide +kernel) k8_141 ?_
  refine j_cV1r g v8_143 ⟨rfl, by decide⟩ (by decide +kernel) (by decide +kernel) (Nat.le_of_ble_eq_true rfl) (rnX8_isWord) ?_
  refine j_if_eq g (off := 7) (tgt := 14) (by decide +kernel) (by decide) (fun c7 => ?_) (fun c7 => ?_)
  · skip
    refine j_aload_n g (i := 0) (by decide +kernel) rfl ?_
    refine j_ldc2 g (n := 147) (4351291) (by decide +kernel) k8_147 ?_
    refine j_cV1r g v8_143 ⟨rfl, by decide⟩ (by decide +kernel) (by decide +kernel) (Nat.le_of_ble_eq_true rfl) (rnX8_isWord) ?_
    refine j_if_eq g (off := 7) (tgt := 28) (by decide +kernel) (by decide) (fun c21 => ?_) (fun c21 => ?_)
    · skip
      refine j_aload_n g (i := 0) (by decide +kernel) rfl ?_
      refine j_ldc2 g (n := 149) (60284) (by decide +kernel) k8_149 ?_
      refine j_cV1r g v8_143 ⟨rfl, by decide⟩ (by decide +kernel) (by decide +kernel) (Nat.le_of_ble_eq_true rfl) (rnX8_isWord) ?_
      refine j_if_eq g (off := 7) (tgt := 42) (by decide +kernel) (by decide) (fun c35 => ?_) (fun c35 => ?_)
      · skip
        refine j_aload_n g (i := 0) (by decide +kernel) rfl ?_
        refine j_ldc2 g (n := 151) (383153) (by decide +kernel) k8_151 ?_
        refine j_cV1r g v8_143 ⟨rfl, by decide⟩ (by decide +kernel) (by decide +kernel) (Nat.le_of_ble_eq_true rfl) (rnX8_isWord) ?_
        refine j_if_eq g (off := 7) (tgt := 56) (by decide +kernel) (by decide) (fun c49 => ?_) (fun c49 => ?_)
        · skip
          refine j_aload_n g (i := 0) (by decide +kernel) rfl ?_
          refine j_ldc2 g (n := 153) (9454493) (by decide +kernel) k8_153 ?_
          refine j_cV1r g v8_143 ⟨rfl, by decide⟩ (by decide +kernel) (by decide +kernel) (Nat.le_of_ble_eq_true rfl) (rnX8_isWord) ?_
          refine j_if_eq g (off := 7) (tgt := 70) (by decide +kernel) (by decide) (fun c63 => ?_) (fun c63 => ?_)
          · skip
            refine j_aload_n g (i := 0) (by decide +kernel) rfl ?_
            refine j_ldc2 g (n := 155) (11570) (by decide +kernel) k8_155 ?_
            refine j_cV1r g v8_143 ⟨rfl, by decide⟩ (by decide +kernel) (by decide +kernel) (Nat.le_of_ble_eq_true rfl) (rnX8_isWord) ?_
            refine j_if_eq g (off := 7) (tgt := 84) (by decide +kernel) (by decide) (fun c77 => ?_) (fun c77 => ?_)
            · skip
              refine j_iconst g (n := -1) (-1) (by decide +kernel) rfl ?_
              refine hr.1 _ _ _ _ (by decide +kernel) ⟨_, rfl, by first | rfl | exact b2i_nar | rfl⟩ ?_ ?_
              · unfold r_X8_kindHere; first | rfl | (simp only [if_pos (show (b2i (M.1 600 16 = 1 ∧ M.2 600 19 = 464141)) = 0 from c7), if_pos (show (b2i (M.1 600 16 = 1 ∧ M.2 600 19 = 4351291)) = 0 from c21), if_pos (show (b2i (M.1 600 16 = 1 ∧ M.2 600 19 = 60284)) = 0 from c35), if_pos (show (b2i (M.1 600 16 = 1 ∧ M.2 600 19 = 383153)) = 0 from c49), if_pos (show (b2i (M.1 600 16 = 1 ∧ M.2 600 19 = 9454493)) = 0 from c63), if_pos (show (b2i (M.1 600 16 = 1 ∧ M.2 600 19 = 11570)) = 0 from c77)]; done) | (simp only [if_pos (show (b2i (M.1 600 16 = 1 ∧ M.2 600 19 = 464141)) = 0 from c7), if_pos (show (b2i (M.1 600 16 = 1 ∧ M.2 600 19 = 4351291)) = 0 from c21), if_pos (show (b2i (M.1 600 16 = 1 ∧ M.2 600 19 = 60284)) = 0 from c35), if_pos (show (b2i (M.1 600 16 = 1 ∧ M.2 600 19 = 383153)) = 0 from c49), if_pos (show (b2i (M.1 600 16 = 1 ∧ M.2 600 19 = 9454493)) = 0 from c63), if_pos (show (b2i (M.1 600 16 = 1 ∧ M.2 600 19 = 11570)) = 0 from c77)]; rfl)
              · rfl
            · skip
              refine j_iconst g (n := 5) (5) (by decide +kernel) rfl ?_
              refine j_goto g (off := 4) (tgt := 85) (by decide +kernel) (by decide) ?_
              refine hr.1 _ _ _ _ (by decide +kernel) ⟨_, rfl, by first | rfl | exact b2i_nar | rfl⟩ ?_ ?_
              · unfold r_X8_kindHere; first | rfl | (simp only [if_pos (show (b2i (M.1 600 16 = 1 ∧ M.2 600 19 = 464141)) = 0 from c7), if_pos (show (b2i (M.1 600 16 = 1 ∧ M.2 600 19 = 4351291)) = 0 from c21), if_pos (show (b2i (M.1 600 16 = 1 ∧ M.2 600 19 = 60284)) = 0 from c35), if_pos (show (b2i (M.1 600 16 = 1 ∧ M.2 600 19 = 383153)) = 0 from c49), if_pos (show (b2i (M.1 600 16 = 1 ∧ M.2 600 19 = 9454493)) = 0 from c63), if_neg (show ¬ ((b2i (M.1 600 16 = 1 ∧ M.2 600 19 = 11570)) = 0) from c77)]; done) | (simp only [if_pos (show (b2i (M.1 600 16 = 1 ∧ M.2 600 19 = 464141)) = 0 from c7), if_pos (show (b2i (M.1 600 16 = 1 ∧ M.2 600 19 = 4351291)) = 0 from c21), if_pos (show (b2i (M.1 600 16 = 1 ∧ M.2 600 19 = 60284)) = 0 from c35), if_pos (show (b2i (M.1 600 16 = 1 ∧ M.2 600 19 = 383153)) = 0 from c49), if_pos (show (b2i (M.1 600 16 = 1 ∧ M.2 600 19 = 9454493)) = 0 from c63), if_neg (show ¬ ((b2i (M.1 600 16 = 1 ∧ M.2 600 19 = 11570)) = 0) from c77)]; rfl)
              · rfl
          · skip
            refine j_iconst g (n := 4) (4) (by decide +kernel) rfl ?_
            refine j_goto g (off := 18) (tgt := 85) (by decide +kernel) (by decide) ?_
            refine hr.1 _ _ _ _ (by decide +kernel) ⟨_, rfl, by first | rfl | exact b2i_nar | rfl⟩ ?_ ?_
            · unfold r_X8_kindHere; first | rfl | (simp only [if_pos (show (b2i (M.1 600 16 = 1 ∧ M.2 600 19 = 464141)) = 0 from c7), if_pos (show (b2i (M.1 600 16 = 1 ∧ M.2 600 19 = 4351291)) = 0 from c21), if_pos (show (b2i (M.1 600 16 = 1 ∧ M.2 600 19 = 60284)) = 0 from c35), if_pos (show (b2i (M.1 600 16 = 1 ∧ M.2 600 19 = 383153)) = 0 from c49), if_neg (show ¬ ((b2i (M.1 600 16 = 1 ∧ M.2 600 19 = 9454493)) = 0) from c63)]; done) | (simp only [if_pos (show (b2i (M.1 600 16 = 1 ∧ M.2 600 19 = 464141)) = 0 from c7), if_pos (show (b2i (M.1 600 16 = 1 ∧ M.2 600 19 = 4351291)) = 0 from c21), if_pos (show (b2i (M.1 600 16 = 1 ∧ M.2 600 19 = 60284)) = 0 from c35), if_pos (show (b2i (M.1 600 16 = 1 ∧ M.2 600 19 = 383153)) = 0 from c49), if_neg (show ¬ ((b2i (M.1 600 16 = 1 ∧ M.2 600 19 = 9454493)) = 0) from c63)]; rfl)
            · rfl
        · skip
          refine j_iconst g (n := 3) (3) (by decide +kernel) rfl ?_
          refine j_goto g (off := 32) (tgt := 85) (by decide +kernel) (by decide) ?_
          refine hr.1 _ _ _ _ (by decide +kernel) ⟨_, rfl, by first | rfl | exact b2i_nar | rfl⟩ ?_ ?_
          · unfold r_X8_kindHere; first | rfl | (simp only [if_pos (show (b2i (M.1 600 16 = 1 ∧ M.2 600 19 = 464141)) = 0 from c7), if_pos (show (b2i (M.1 600 16 = 1 ∧ M.2 600 19 = 4351291)) = 0 from c21), if_pos (show (b2i (M.1 600 16 = 1 ∧ M.2 600 19 = 60284)) = 0 from c35), if_neg (show ¬ ((b2i (M.1 600 16 = 1 ∧ M.2 600 19 = 383153)) = 0) from c49)]; done) | (simp only [if_pos (show (b2i (M.1 600 16 = 1 ∧ M.2 600 19 = 464141)) = 0 from c7), if_pos (show (b2i (M.1 600 16 = 1 ∧ M.2 600 19 = 4351291)) = 0 from c21), if_pos (show (b2i (M.1 600 16 = 1 ∧ M.2 600 19 = 60284)) = 0 from c35), if_neg (show ¬ ((b2i (M.1 600 16 = 1 ∧ M.2 600 19 = 383153)) = 0) from c49)]; rfl)
          · rfl
      · skip
        refine j_iconst g (n := 2) (2) (by decide +kernel) rfl ?_
        refine j_goto g (off := 46) (tgt := 85) (by decide +kernel) (by decide) ?_
        refine hr.1 _ _ _ _ (by decide +kernel) ⟨_, rfl, by first | rfl | exact b2i_nar | rfl⟩ ?_ ?_
        · unfold r_X8_kindHere; first | rfl | (simp only [if_pos (show (b2i (M.1 600 16 = 1 ∧ M.2 600 19 = 464141)) = 0 from c7), if_pos (show (b2i (M.1 600 16 = 1 ∧ M.2 600 19 = 4351291)) = 0 from c21), if_neg (show ¬ ((b2i (M.1 600 16 = 1 ∧ M.2 600 19 = 60284)) = 0) from c35)]; done) | (simp only [if_pos (show (b2i (M.1 600 16 = 1 ∧ M.2 600 19 = 464141)) = 0 from c7), if_pos (show (b2i (M.1 600 16 = 1 ∧ M.2 600 19 = 4351291)) = 0 from c21), if_neg (show ¬ ((b2i (M.1 600 16 = 1 ∧ M.2 600 19 = 60284)) = 0) from c35)]; rfl)
        · rfl
    · skip
      refine j_iconst g (n := 1) (1) (by decide +kernel) rfl ?_
      refine j_goto g (off := 60) (tgt := 85) (by decide +kernel) (by decide) ?_
      refine hr.1 _ _ _ _ (by decide +kernel) ⟨_, rfl, by first | rfl | exact b2i_nar | rfl⟩ ?_ ?_
      · unfold r_X8_kindHere; first | rfl | (simp only [if_pos (show (b2i (M.1 600 16 = 1 ∧ M.2 600 19 = 464141)) = 0 from c7), if_neg (show ¬ ((b2i (M.1 600 16 = 1 ∧ M.2 600 19 = 4351291)) = 0) from c21)]; done) | (simp only [if_pos (show (b2i (M.1 600 16 = 1 ∧ M.2 600 19 = 464141)) = 0 from c7), if_neg (show ¬ ((b2i (M.1 600 16 = 1 ∧ M.2 600 19 = 4351291)) = 0) from c21)]; rfl)
      · rfl
  · skip
    refine j_iconst g (n := 0) (0) (by decide +kernel) rfl ?_
    refine j_goto g (off := 74) (tgt := 85) (by decide +kernel) (by decide) ?_
    refine hr.1 _ _ _ _ (by decide +kernel) ⟨_, rfl, by first | rfl | exact b2i_nar | rfl⟩ ?_ ?_
    · unfold r_X8_kindHere; first | rfl | (simp only [if_neg (show ¬ ((b2i (M.1 600 16 = 1 ∧ M.2 600 19 = 464141)) = 0) from c7)]; done) | (simp only [if_neg (show ¬ ((b2i (M.1 600 16 = 1 ∧ M.2 600 19 = 464141)) = 0) from c7)]; rfl)
    · rfl
def r_X8_mover (M : Mm) (a1 : Int32) (a2 : Int32) : Int32 := if (b2i (0 ≤ a1 ∧ a1 ≤ 9)) = 0 then (-1) else if ¬ (b2i (1 ≤ a2 ∧ a2 ≤ 5)) = 0 then (if ¬ (M.1 600 0) = 3 then ((M.1 600 0) + 1) - 1 else (-2)) else (-1)
def w_X8_mover (M : Mm) (a1 : Int32) (a2 : Int32) : Mm := if (b2i (0 ≤ a1 ∧ a1 ≤ 9)) = 0 then M else if ¬ (b2i (1 ≤ a2 ∧ a2 ≤ 5)) = 0 then (if ¬ (M.1 600 0) = 3 then (wi (wi (wi M 607 (Int32.toNatClampNeg (0 + (M.1 600 0))) a1) 601 (Int32.toNatClampNeg (M.1 600 0)) a2) 600 0 ((M.1 600 0) + 1)) else M) else M
def p_X8_mover (M : Mm) (a1 : Int32) (a2 : Int32) : Prop := (if (b2i (0 ≤ a1 ∧ a1 ≤ 9)) = 0 then True else (if ¬ (b2i (1 ≤ a2 ∧ a2 ≤ 5)) = 0 then (if ¬ (M.1 600 0) = 3 then (vp_in (0 + (M.1 600 0)) 44) ∧ (vp_in (M.1 600 0) 3) ∧ True else True) else True))
theorem rnX8_mover {d : Nat} {M : Mm} {a1 : Int32} {a2 : Int32}  (hp : p_X8_mover M a1 a2) : Rn (d + 2) mX8_mover [.ref 600, .int a1, .int a2] M (some (.int (r_X8_mover M a1 a2))) (w_X8_mover M a1 a2) := by
  refine Rn.of [some (.ref 600), some (.int a1), some (.int a2)] (by decide +kernel) rfl (Nat.le_of_ble_eq_true rfl) rfl (fun J g hr => ?_)
  unfold p_X8_mover at hp
  refine j_iload_n g (i := 1) (by decide +kernel) rfl ?_
  refine j_cS1r g s8_237 (by decide +kernel) (Nat.le_of_ble_eq_true rfl) (rnX8_isPlace) ?_
  refine j_if_eq g (off := 12) (tgt := 16) (by decide +kernel) (by decide) (fun c4 => ?_) (fun c4 => ?_)
  · rw [if_pos (show (b2i (0 ≤ a1 ∧ a1 ≤ 9)) = 0 from c4)] at hp
    refine j_iconst g (n := -1) (-1) (by decide +kernel) rfl ?_
    refine hr.1 _ _ _ _ (by decide +kernel) ⟨_, rfl, by first | rfl | exact b2i_nar | rfl⟩ ?_ ?_
    · unfold r_X8_mover; first | rfl | (simp only [if_pos (show (b2i (0 ≤ a1 ∧ a1 ≤ 9)) = 0 from c4)]; done) | (simp only [if_pos (show (b2i (0 ≤ a1 ∧ a1 ≤ 9)) = 0 from c4)]; rfl)
    · unfold w_X8_mover; first | rfl | (simp only [if_pos (show (b2i (0 ≤ a1 ∧ a1 ≤ 9)) = 0 from c4)]; done) | (simp only [if_pos (show (b2i (0 ≤ a1 ∧ a1 ≤ 9)) = 0 from c4)]; rfl)
  · rw [if_neg (show ¬ ((b2i (0 ≤ a1 ∧ a1 ≤ 9)) = 0) from c4)] at hp
    refine j_iload_n g (i := 2) (by decide +kernel) rfl ?_
    refine j_iconst g (n := 1) (1) (by decide +kernel) rfl ?_
    refine j_iconst g (n := 5) (5) (by decide +kernel) rfl ?_
    refine j_cS3r g s8_95 (by decide +kernel) (Nat.le_of_ble_eq_true rfl) (rnX8_in) ?_
    refine j_if_ne g (off := 5) (tgt := 18) (by decide +kernel) (by decide) (fun c13 => ?_) (fun c13 => ?_)
    · rw [if_pos (show ¬ (b2i (1 ≤ a2 ∧ a2 ≤ 5)) = 0 from c13)] at hp
      refine j_aload_n g (i := 0) (by decide +kernel) rfl ?_
      refine j_gI g f8_225 (by decide +kernel) (by decide +kernel) (by decide +kernel) ?_
      refine j_iconst g (n := 3) (3) (by decide +kernel) rfl ?_
      refine j_icmp_ne g (off := 6) (tgt := 29) (by decide +kernel) (by decide) (fun c23 => ?_) (fun c23 => ?_)
      · rw [if_pos (show ¬ (M.1 600 0) = 3 from c23)] at hp
        refine j_aload_n g (i := 0) (by decide +kernel) rfl ?_
        refine j_gA g (b := 607) f8_28 (by decide +kernel) (by decide +kernel) (by decide +kernel) (by decide +kernel) ?_
        refine j_iconst g (n := 0) (0) (by decide +kernel) rfl ?_
        refine j_aload_n g (i := 0) (by decide +kernel) rfl ?_
        refine j_gI g f8_225 (by decide +kernel) (by decide +kernel) (by decide +kernel) ?_
        refine j_iadd g (by decide +kernel) ?_
        refine j_iload_n g (i := 1) (by decide +kernel) rfl ?_
        obtain ⟨h0, hp⟩ := hp
        refine j_is g 44 (by decide +kernel) (by decide +kernel) (by decide +kernel) h0 ?_
        refine j_aload_n g (i := 0) (by decide +kernel) rfl ?_
        refine j_gA g (b := 601) f8_7 (by decide +kernel) (by decide +kernel) (by decide +kernel) (by decide +kernel) ?_
        refine j_aload_n g (i := 0) (by decide +kernel) rfl ?_
        refine j_gI g f8_225 (by decide +kernel) (by decide +kernel) (by decide +kernel) ?_
        refine j_iload_n g (i := 2) (by decide +kernel) rfl ?_
        obtain ⟨h0, hp⟩ := hp
        refine j_is g 3 (by decide +kernel) (by decide +kernel) (by decide +kernel) h0 ?_
        refine j_aload_n g (i := 0) (by decide +kernel) rfl ?_
        refine j_dup g (by decide +kernel) rfl ?_
        refine j_gI g f8_225 (by decide +kernel) (by decide +kernel) (by decide +kernel) ?_
        refine j_iconst g (n := 1) (1) (by decide +kernel) rfl ?_
        refine j_iadd g (by decide +kernel) ?_
        refine j_pI g f8_225 (fun q h => by cases h; rfl) (by decide +kernel) (by decide +kernel) (by decide +kernel) ?_
        refine j_aload_n g (i := 0) (by decide +kernel) rfl ?_
        refine j_gI g f8_225 (by decide +kernel) (by decide +kernel) (by decide +kernel) ?_
        refine j_iconst g (n := 1) (1) (by decide +kernel) rfl ?_
        refine j_isub g (by decide +kernel) ?_
        refine hr.1 _ _ _ _ (by decide +kernel) ⟨_, rfl, by first | rfl | exact b2i_nar | rfl⟩ ?_ ?_
        · unfold r_X8_mover; first | rfl | (simp only [if_neg (show ¬ ((b2i (0 ≤ a1 ∧ a1 ≤ 9)) = 0) from c4), if_pos (show ¬ (b2i (1 ≤ a2 ∧ a2 ≤ 5)) = 0 from c13), if_pos (show ¬ (M.1 600 0) = 3 from c23)]; done) | (simp only [if_neg (show ¬ ((b2i (0 ≤ a1 ∧ a1 ≤ 9)) = 0) from c4), if_pos (show ¬ (b2i (1 ≤ a2 ∧ a2 ≤ 5)) = 0 from c13), if_pos (show ¬ (M.1 600 0) = 3 from c23)]; rfl)
        · unfold w_X8_mover; first | rfl | (simp only [if_neg (show ¬ ((b2i (0 ≤ a1 ∧ a1 ≤ 9)) = 0) from c4), if_pos (show ¬ (b2i (1 ≤ a2 ∧ a2 ≤ 5)) = 0 from c13), if_pos (show ¬ (M.1 600 0) = 3 from c23)]; done) | (simp only [if_neg (show ¬ ((b2i (0 ≤ a1 ∧ a1 ≤ 9)) = 0) from c4), if_pos (show ¬ (b2i (1 ≤ a2 ∧ a2 ≤ 5)) = 0 from c13), if_pos (show ¬ (M.1 600 0) = 3 from c23)]; rfl)
      · rw [if_neg (show ¬ (¬ (M.1 600 0) = 3) from c23)] at hp
        refine j_bipush g (n := -2) (-2) (by decide +kernel) (by decide +kernel) ?_
        refine hr.1 _ _ _ _ (by decide +kernel) ⟨_, rfl, by first | rfl | exact b2i_nar | rfl⟩ ?_ ?_
        · unfold r_X8_mover; first | rfl | (simp only [if_neg (show ¬ ((b2i (0 ≤ a1 ∧ a1 ≤ 9)) = 0) from c4), if_pos (show ¬ (b2i (1 ≤ a2 ∧ a2 ≤ 5)) = 0 from c13), if_neg (show ¬ (¬ (M.1 600 0) = 3) from c23)]; done) | (simp only [if_neg (show ¬ ((b2i (0 ≤ a1 ∧ a1 ≤ 9)) = 0) from c4), if_pos (show ¬ (b2i (1 ≤ a2 ∧ a2 ≤ 5)) = 0 from c13), if_neg (show ¬ (¬ (M.1 600 0) = 3) from c23)]; rfl)
        · unfold w_X8_mover; first | rfl | (simp only [if_neg (show ¬ ((b2i (0 ≤ a1 ∧ a1 ≤ 9)) = 0) from c4), if_pos (show ¬ (b2i (1 ≤ a2 ∧ a2 ≤ 5)) = 0 from c13), if_neg (show ¬ (¬ (M.1 600 0) = 3) from c23)]; done) | (simp only [if_neg (show ¬ ((b2i (0 ≤ a1 ∧ a1 ≤ 9)) = 0) from c4), if_pos (show ¬ (b2i (1 ≤ a2 ∧ a2 ≤ 5)) = 0 from c13), if_neg (show ¬ (¬ (M.1 600 0) = 3) from c23)]; rfl)
    · rw [if_neg (show ¬ (¬ (b2i (1 ≤ a2 ∧ a2 ≤ 5)) = 0) from c13)] at hp
      refine j_iconst g (n := -1) (-1) (by decide +kernel) rfl ?_
      refine hr.1 _ _ _ _ (by decide +kernel) ⟨_, rfl, by first | rfl | exact b2i_nar | rfl⟩ ?_ ?_
      · unfold r_X8_mover; first | rfl | (simp only [if_neg (show ¬ ((b2i (0 ≤ a1 ∧ a1 ≤ 9)) = 0) from c4), if_neg (show ¬ (¬ (b2i (1 ≤ a2 ∧ a2 ≤ 5)) = 0) from c13)]; done) | (simp only [if_neg (show ¬ ((b2i (0 ≤ a1 ∧ a1 ≤ 9)) = 0) from c4), if_neg (show ¬ (¬ (b2i (1 ≤ a2 ∧ a2 ≤ 5)) = 0) from c13)]; rfl)
      · unfold w_X8_mover; first | rfl | (simp only [if_neg (show ¬ ((b2i (0 ≤ a1 ∧ a1 ≤ 9)) = 0) from c4), if_neg (show ¬ (¬ (b2i (1 ≤ a2 ∧ a2 ≤ 5)) = 0) from c13)]; done) | (simp only [if_neg (show ¬ ((b2i (0 ≤ a1 ∧ a1 ≤ 9)) = 0) from c4), if_neg (show ¬ (¬ (b2i (1 ≤ a2 ∧ a2 ≤ 5)) = 0) from c13)]; rfl)
def r_X8_thing (M : Mm) (a1 : Int32) (a2 : Int32) : Int32 := if (b2i (0 ≤ a1 ∧ a1 ≤ 9)) = 0 then (-1) else if ¬ (b2i (1 ≤ a2 ∧ a2 ≤ 9)) = 0 then (if ¬ (M.1 600 1) = 6 then ((M.1 600 1) + 1) - 1 else (-2)) else (-1)
def w_X8_thing (M : Mm) (a1 : Int32) (a2 : Int32) : Mm := if (b2i (0 ≤ a1 ∧ a1 ≤ 9)) = 0 then M else if ¬ (b2i (1 ≤ a2 ∧ a2 ≤ 9)) = 0 then (if ¬ (M.1 600 1) = 6 then (wi (wi (wi M 607 (Int32.toNatClampNeg (3 + (M.1 600 1))) a1) 602 (Int32.toNatClampNeg (M.1 600 1)) a2) 600 1 ((M.1 600 1) + 1)) else M) else M
def p_X8_thing (M : Mm) (a1 : Int32) (a2 : Int32) : Prop := (if (b2i (0 ≤ a1 ∧ a1 ≤ 9)) = 0 then True else (if ¬ (b2i (1 ≤ a2 ∧ a2 ≤ 9)) = 0 then (if ¬ (M.1 600 1) = 6 then (vp_in (3 + (M.1 600 1)) 44) ∧ (vp_in (M.1 600 1) 6) ∧ True else True) else True))
theorem rnX8_thing {d : Nat} {M : Mm} {a1 : Int32} {a2 : Int32}  (hp : p_X8_thing M a1 a2) : Rn (d + 2) mX8_thing [.ref 600, .int a1, .int a2] M (some (.int (r_X8_thing M a1 a2))) (w_X8_thing M a1 a2) := by
  refine Rn.of [some (.ref 600), some (.int a1), some (.int a2)] (by decide +kernel) rfl (Nat.le_of_ble_eq_true rfl) rfl (fun J g hr => ?_)
  unfold p_X8_thing at hp
  refine j_iload_n g (i := 1) (by decide +kernel) rfl ?_
  refine j_cS1r g s8_237 (by decide +kernel) (Nat.le_of_ble_eq_true rfl) (rnX8_isPlace) ?_
  refine j_if_eq g (off := 13) (tgt := 17) (by decide +kernel) (by decide) (fun c4 => ?_) (fun c4 => ?_)
  · rw [if_pos (show (b2i (0 ≤ a1 ∧ a1 ≤ 9)) = 0 from c4)] at hp
    refine j_iconst g (n := -1) (-1) (by decide +kernel) rfl ?_
    refine hr.1 _ _ _ _ (by decide +kernel) ⟨_, rfl, by first | rfl | exact b2i_nar | rfl⟩ ?_ ?_
    · unfold r_X8_thing; first | rfl | (simp only [if_pos (show (b2i (0 ≤ a1 ∧ a1 ≤ 9)) = 0 from c4)]; done) | (simp only [if_pos (show (b2i (0 ≤ a1 ∧ a1 ≤ 9)) = 0 from c4)]; rfl)
    · unfold w_X8_thing; first | rfl | (simp only [if_pos (show (b2i (0 ≤ a1 ∧ a1 ≤ 9)) = 0 from c4)]; done) | (simp only [if_pos (show (b2i (0 ≤ a1 ∧ a1 ≤ 9)) = 0 from c4)]; rfl)
  · rw [if_neg (show ¬ ((b2i (0 ≤ a1 ∧ a1 ≤ 9)) = 0) from c4)] at hp
    refine j_iload_n g (i := 2) (by decide +kernel) rfl ?_
    refine j_iconst g (n := 1) (1) (by decide +kernel) rfl ?_
    refine j_bipush g (n := 9) (9) (by decide +kernel) (by decide +kernel) ?_
    refine j_cS3r g s8_95 (by decide +kernel) (Nat.le_of_ble_eq_true rfl) (rnX8_in) ?_
    refine j_if_ne g (off := 5) (tgt := 19) (by decide +kernel) (by decide) (fun c14 => ?_) (fun c14 => ?_)
    · rw [if_pos (show ¬ (b2i (1 ≤ a2 ∧ a2 ≤ 9)) = 0 from c14)] at hp
      refine j_aload_n g (i := 0) (by decide +kernel) rfl ?_
      refine j_gI g f8_228 (by decide +kernel) (by decide +kernel) (by decide +kernel) ?_
      refine j_bipush g (n := 6) (6) (by decide +kernel) (by decide +kernel) ?_
      refine j_icmp_ne g (off := 6) (tgt := 31) (by decide +kernel) (by decide) (fun c25 => ?_) (fun c25 => ?_)
      · rw [if_pos (show ¬ (M.1 600 1) = 6 from c25)] at hp
        refine j_aload_n g (i := 0) (by decide +kernel) rfl ?_
        refine j_gA g (b := 607) f8_28 (by decide +kernel) (by decide +kernel) (by decide +kernel) (by decide +kernel) ?_
        refine j_iconst g (n := 3) (3) (by decide +kernel) rfl ?_
        refine j_aload_n g (i := 0) (by decide +kernel) rfl ?_
        refine j_gI g f8_228 (by decide +kernel) (by decide +kernel) (by decide +kernel) ?_
        refine j_iadd g (by decide +kernel) ?_
        refine j_iload_n g (i := 1) (by decide +kernel) rfl ?_
        obtain ⟨h0, hp⟩ := hp
        refine j_is g 44 (by decide +kernel) (by decide +kernel) (by decide +kernel) h0 ?_
        refine j_aload_n g (i := 0) (by decide +kernel) rfl ?_
        refine j_gA g (b := 602) f8_13 (by decide +kernel) (by decide +kernel) (by decide +kernel) (by decide +kernel) ?_
        refine j_aload_n g (i := 0) (by decide +kernel) rfl ?_
        refine j_gI g f8_228 (by decide +kernel) (by decide +kernel) (by decide +kernel) ?_
        refine j_iload_n g (i := 2) (by decide +kernel) rfl ?_
        obtain ⟨h0, hp⟩ := hp
        refine j_is g 6 (by decide +kernel) (by decide +kernel) (by decide +kernel) h0 ?_
        refine j_aload_n g (i := 0) (by decide +kernel) rfl ?_
        refine j_dup g (by decide +kernel) rfl ?_
        refine j_gI g f8_228 (by decide +kernel) (by decide +kernel) (by decide +kernel) ?_
        refine j_iconst g (n := 1) (1) (by decide +kernel) rfl ?_
        refine j_iadd g (by decide +kernel) ?_
        refine j_pI g f8_228 (fun q h => by cases h; rfl) (by decide +kernel) (by decide +kernel) (by decide +kernel) ?_
        refine j_aload_n g (i := 0) (by decide +kernel) rfl ?_
        refine j_gI g f8_228 (by decide +kernel) (by decide +kernel) (by decide +kernel) ?_
        refine j_iconst g (n := 1) (1) (by decide +kernel) rfl ?_
        refine j_isub g (by decide +kernel) ?_
        refine hr.1 _ _ _ _ (by decide +kernel) ⟨_, rfl, by first | rfl | exact b2i_nar | rfl⟩ ?_ ?_
        · unfold r_X8_thing; first | rfl | (simp only [if_neg (show ¬ ((b2i (0 ≤ a1 ∧ a1 ≤ 9)) = 0) from c4), if_pos (show ¬ (b2i (1 ≤ a2 ∧ a2 ≤ 9)) = 0 from c14), if_pos (show ¬ (M.1 600 1) = 6 from c25)]; done) | (simp only [if_neg (show ¬ ((b2i (0 ≤ a1 ∧ a1 ≤ 9)) = 0) from c4), if_pos (show ¬ (b2i (1 ≤ a2 ∧ a2 ≤ 9)) = 0 from c14), if_pos (show ¬ (M.1 600 1) = 6 from c25)]; rfl)
        · unfold w_X8_thing; first | rfl | (simp only [if_neg (show ¬ ((b2i (0 ≤ a1 ∧ a1 ≤ 9)) = 0) from c4), if_pos (show ¬ (b2i (1 ≤ a2 ∧ a2 ≤ 9)) = 0 from c14), if_pos (show ¬ (M.1 600 1) = 6 from c25)]; done) | (simp only [if_neg (show ¬ ((b2i (0 ≤ a1 ∧ a1 ≤ 9)) = 0) from c4), if_pos (show ¬ (b2i (1 ≤ a2 ∧ a2 ≤ 9)) = 0 from c14), if_pos (show ¬ (M.1 600 1) = 6 from c25)]; rfl)
      · rw [if_neg (show ¬ (¬ (M.1 600 1) = 6) from c25)] at hp
        refine j_bipush g (n := -2) (-2) (by decide +kernel) (by decide +kernel) ?_
        refine hr.1 _ _ _ _ (by decide +kernel) ⟨_, rfl, by first | rfl | exact b2i_nar | rfl⟩ ?_ ?_
        · unfold r_X8_thing; first | rfl | (simp only [if_neg (show ¬ ((b2i (0 ≤ a1 ∧ a1 ≤ 9)) = 0) from c4), if_pos (show ¬ (b2i (1 ≤ a2 ∧ a2 ≤ 9)) = 0 from c14), if_neg (show ¬ (¬ (M.1 600 1) = 6) from c25)]; done) | (simp only [if_neg (show ¬ ((b2i (0 ≤ a1 ∧ a1 ≤ 9)) = 0) from c4), if_pos (show ¬ (b2i (1 ≤ a2 ∧ a2 ≤ 9)) = 0 from c14), if_neg (show ¬ (¬ (M.1 600 1) = 6) from c25)]; rfl)
        · unfold w_X8_thing; first | rfl | (simp only [if_neg (show ¬ ((b2i (0 ≤ a1 ∧ a1 ≤ 9)) = 0) from c4), if_pos (show ¬ (b2i (1 ≤ a2 ∧ a2 ≤ 9)) = 0 from c14), if_neg (show ¬ (¬ (M.1 600 1) = 6) from c25)]; done) | (simp only [if_neg (show ¬ ((b2i (0 ≤ a1 ∧ a1 ≤ 9)) = 0) from c4), if_pos (show ¬ (b2i (1 ≤ a2 ∧ a2 ≤ 9)) = 0 from c14), if_neg (show ¬ (¬ (M.1 600 1) = 6) from c25)]; rfl)
    · rw [if_neg (show ¬ (¬ (b2i (1 ≤ a2 ∧ a2 ≤ 9)) = 0) from c14)] at hp
      refine j_iconst g (n := -1) (-1) (by decide +kernel) rfl ?_
      refine hr.1 _ _ _ _ (by decide +kernel) ⟨_, rfl, by first | rfl | exact b2i_nar | rfl⟩ ?_ ?_
      · unfold r_X8_thing; first | rfl | (simp only [if_neg (show ¬ ((b2i (0 ≤ a1 ∧ a1 ≤ 9)) = 0) from c4), if_neg (show ¬ (¬ (b2i (1 ≤ a2 ∧ a2 ≤ 9)) = 0) from c14)]; done) | (simp only [if_neg (show ¬ ((b2i (0 ≤ a1 ∧ a1 ≤ 9)) = 0) from c4), if_neg (show ¬ (¬ (b2i (1 ≤ a2 ∧ a2 ≤ 9)) = 0) from c14)]; rfl)
      · unfold w_X8_thing; first | rfl | (simp only [if_neg (show ¬ ((b2i (0 ≤ a1 ∧ a1 ≤ 9)) = 0) from c4), if_neg (show ¬ (¬ (b2i (1 ≤ a2 ∧ a2 ≤ 9)) = 0) from c14)]; done) | (simp only [if_neg (show ¬ ((b2i (0 ≤ a1 ∧ a1 ≤ 9)) = 0) from c4), if_neg (show ¬ (¬ (b2i (1 ≤ a2 ∧ a2 ≤ 9)) = 0) from c14)]; rfl)
def r_X8_work (M : Mm) (a1 : Int32) (a2 : Int32) (a3 : Int32) (a4 : Int32) (a5 : Int32) (a6 : Int32) : Int32 := if (b2i (0 ≤ a1 ∧ a1 ≤ 5)) = 0 then (-1) else if (b2i (0 ≤ a2 ∧ a2 ≤ ((M.1 600 0) - 1))) = 0 then (-1) else if (b2i (0 ≤ a3 ∧ a3 ≤ ((M.1 600 1) - 1))) = 0 then (-1) else if (b2i (0 ≤ a4 ∧ a4 ≤ 9)) = 0 then (-1) else if (b2i (0 ≤ a5 ∧ a5 ≤ 999)) = 0 then (-1) else if ¬ (b2i (0 ≤ a6 ∧ a6 ≤ 99)) = 0 then (if ¬ (M.1 600 2) = 6 then ((M.1 600 2) + 1) - 1 else (-2)) else (-1)
def w_X8_work (M : Mm) (a1 : Int32) (a2 : Int32) (a3 : Int32) (a4 : Int32) (a5 : Int32) (a6 : Int32) : Mm := if (b2i (0 ≤ a1 ∧ a1 ≤ 5)) = 0 then M else if (b2i (0 ≤ a2 ∧ a2 ≤ ((M.1 600 0) - 1))) = 0 then M else if (b2i (0 ≤ a3 ∧ a3 ≤ ((M.1 600 1) - 1))) = 0 then M else if (b2i (0 ≤ a4 ∧ a4 ≤ 9)) = 0 then M else if (b2i (0 ≤ a5 ∧ a5 ≤ 999)) = 0 then M else if ¬ (b2i (0 ≤ a6 ∧ a6 ≤ 99)) = 0 then (if ¬ (M.1 600 2) = 6 then (wi (wi (wi (wi (wi (wi (wi (wi (wi (wi (wi M 603 (Int32.toNatClampNeg (8 * (M.1 600 2))) a1) 603 (Int32.toNatClampNeg ((8 * (M.1 600 2)) + 1)) a2) 603 (Int32.toNatClampNeg ((8 * (M.1 600 2)) + 2)) a3) 603 (Int32.toNatClampNeg ((8 * (M.1 600 2)) + 3)) a4) 603 (Int32.toNatClampNeg ((8 * (M.1 600 2)) + 4)) a5) 603 (Int32.toNatClampNeg ((8 * (M.1 600 2)) + 5)) a6) 603 (Int32.toNatClampNeg ((8 * (M.1 600 2)) + 6)) (-1)) 603 (Int32.toNatClampNeg ((8 * (M.1 600 2)) + 7)) 0) 607 (Int32.toNatClampNeg (9 + (M.1 600 2))) 0) 607 (Int32.toNatClampNeg (15 + (M.1 600 2))) 0) 600 2 ((M.1 600 2) + 1)) else M) else M
def p_X8_work (M : Mm) (a1 : Int32) (a2 : Int32) (a3 : Int32) (a4 : Int32) (a5 : Int32) (a6 : Int32) : Prop := (if (b2i (0 ≤ a1 ∧ a1 ≤ 5)) = 0 then True else (if (b2i (0 ≤ a2 ∧ a2 ≤ ((M.1 600 0) - 1))) = 0 then True else (if (b2i (0 ≤ a3 ∧ a3 ≤ ((M.1 600 1) - 1))) = 0 then True else (if (b2i (0 ≤ a4 ∧ a4 ≤ 9)) = 0 then True else (if (b2i (0 ≤ a5 ∧ a5 ≤ 999)) = 0 then True else (if ¬ (b2i (0 ≤ a6 ∧ a6 ≤ 99)) = 0 then (if ¬ (M.1 600 2) = 6 then (vp_in (8 * (M.1 600 2)) 48) ∧ (vp_in ((8 * (M.1 600 2)) + 1) 48) ∧ (vp_in ((8 * (M.1 600 2)) + 2) 48) ∧ (vp_in ((8 * (M.1 600 2)) + 3) 48) ∧ (vp_in ((8 * (M.1 600 2)) + 4) 48) ∧ (vp_in ((8 * (M.1 600 2)) + 5) 48) ∧ (vp_in ((8 * (M.1 600 2)) + 6) 48) ∧ (vp_in ((8 * (M.1 600 2)) + 7) 48) ∧ (vp_in (9 + (M.1 600 2)) 44) ∧ (vp_in (15 + (M.1 600 2)) 44) ∧ True else True) else True))))))
theorem rnX8_work {d : Nat} {M : Mm} {a1 : Int32} {a2 : Int32} {a3 : Int32} {a4 : Int32} {a5 : Int32} {a6 : Int32}  (hp : p_X8_work M a1 a2 a3 a4 a5 a6) : Rn (d + 2) mX8_work [.ref 600, .int a1, .int a2, .int a3, .int a4, .int a5, .int a6] M (some (.int (r_X8_work M a1 a2 a3 a4 a5 a6))) (w_X8_work M a1 a2 a3 a4 a5 a6) := by
  refine Rn.of [some (.ref 600), some (.int a1), some (.int a2), some (.int a3), some (.int a4), some (.int a5), some (.int a6), none] (by decide +kernel) rfl (Nat.le_of_ble_eq_true rfl) rfl (fun J g hr => ?_)
  unfold p_X8_work at hp
  refine j_iload_n g (i := 1) (by decide +kernel) rfl ?_
  refine j_iconst g (n := 0) (0) (by decide +kernel) rfl ?_
  refine j_iconst g (n := 5) (5) (by decide +kernel) rfl ?_
  refine j_cS3r g s8_95 (by decide +kernel) (Nat.le_of_ble_eq_true rfl) (rnX8_in) ?_
  refine j_if_eq g (off := 62) (tgt := 68) (by decide +kernel) (by decide) (fun c6 => ?_) (fun c6 => ?_)
  · rw [if_pos (show (b2i (0 ≤ a1 ∧ a1 ≤ 5)) = 0 from c6)] at hp
    refine j_iconst g (n := -1) (-1) (by decide +kernel) rfl ?_
    refine hr.1 _ _ _ _ (by decide +kernel) ⟨_, rfl, by first | rfl | exact b2i_nar | rfl⟩ ?_ ?_
    · unfold r_X8_work; first | rfl | (simp only [if_pos (show (b2i (0 ≤ a1 ∧ a1 ≤ 5)) = 0 from c6)]; done) | (simp only [if_pos (show (b2i (0 ≤ a1 ∧ a1 ≤ 5)) = 0 from c6)]; rfl)
    · unfold w_X8_work; first | rfl | (simp only [if_pos (show (b2i (0 ≤ a1 ∧ a1 ≤ 5)) = 0 from c6)]; done) | (simp only [if_pos (show (b2i (0 ≤ a1 ∧ a1 ≤ 5)) = 0 from c6)]; rfl)
  · rw [if_neg (show ¬ ((b2i (0 ≤ a1 ∧ a1 ≤ 5)) = 0) from c6)] at hp
    refine j_iload_n g (i := 2) (by decide +kernel) rfl ?_
    refine j_iconst g (n := 0) (0) (by decide +kernel) rfl ?_
    refine j_aload_n g (i := 0) (by decide +kernel) rfl ?_
    refine j_gI g f8_225 (by decide +kernel) (by decide +kernel) (by decide +kernel) ?_
    refine j_iconst g (n := 1) (1) (by decide +kernel) rfl ?_
    refine j_isub g (by decide +kernel) ?_
    refine j_cS3r g s8_95 (by decide +kernel) (Nat.le_of_ble_eq_true rfl) (rnX8_in) ?_
    refine j_if_eq g (off := 48) (tgt := 68) (by decide +kernel) (by decide) (fun c20 => ?_) (fun c20 => ?_)
    · rw [if_pos (show (b2i (0 ≤ a2 ∧ a2 ≤ ((M.1 600 0) - 1))) = 0 from c20)] at hp
      refine j_iconst g (n := -1) (-1) (by decide +kernel) rfl ?_
      refine hr.1 _ _ _ _ (by decide +kernel) ⟨_, rfl, by first | rfl | exact b2i_nar | rfl⟩ ?_ ?_
      · unfold r_X8_work; first | rfl | (simp only [if_neg (show ¬ ((b2i (0 ≤ a1 ∧ a1 ≤ 5)) = 0) from c6), if_pos (show (b2i (0 ≤ a2 ∧ a2 ≤ ((M.1 600 0) - 1))) = 0 from c20)]; done) | (simp only [if_neg (show ¬ ((b2i (0 ≤ a1 ∧ a1 ≤ 5)) = 0) from c6), if_pos (show (b2i (0 ≤ a2 ∧ a2 ≤ ((M.1 600 0) - 1))) = 0 from c20)]; rfl)
      · unfold w_X8_work; first | rfl | (simp only [if_neg (show ¬ ((b2i (0 ≤ a1 ∧ a1 ≤ 5)) = 0) from c6), if_pos (show (b2i (0 ≤ a2 ∧ a2 ≤ ((M.1 600 0) - 1))) = 0 from c20)]; done) | (simp only [if_neg (show ¬ ((b2i (0 ≤ a1 ∧ a1 ≤ 5)) = 0) from c6), if_pos (show (b2i (0 ≤ a2 ∧ a2 ≤ ((M.1 600 0) - 1))) = 0 from c20)]; rfl)
    · rw [if_neg (show ¬ ((b2i (0 ≤ a2 ∧ a2 ≤ ((M.1 600 0) - 1))) = 0) from c20)] at hp
      refine j_iload_n g (i := 3) (by decide +kernel) rfl ?_
      refine j_iconst g (n := 0) (0) (by decide +kernel) rfl ?_
      refine j_aload_n g (i := 0) (by decide +kernel) rfl ?_
      refine j_gI g f8_228 (by decide +kernel) (by decide +kernel) (by decide +kernel) ?_
      refine j_iconst g (n := 1) (1) (by decide +kernel) rfl ?_
      refine j_isub g (by decide +kernel) ?_
      refine j_cS3r g s8_95 (by decide +kernel) (Nat.le_of_ble_eq_true rfl) (rnX8_in) ?_
      refine j_if_eq g (off := 34) (tgt := 68) (by decide +kernel) (by decide) (fun c34 => ?_) (fun c34 => ?_)
      · rw [if_pos (show (b2i (0 ≤ a3 ∧ a3 ≤ ((M.1 600 1) - 1))) = 0 from c34)] at hp
        refine j_iconst g (n := -1) (-1) (by decide +kernel) rfl ?_
        refine hr.1 _ _ _ _ (by decide +kernel) ⟨_, rfl, by first | rfl | exact b2i_nar | rfl⟩ ?_ ?_
        · unfold r_X8_work; first | rfl | (simp only [if_neg (show ¬ ((b2i (0 ≤ a1 ∧ a1 ≤ 5)) = 0) from c6), if_neg (show ¬ ((b2i (0 ≤ a2 ∧ a2 ≤ ((M.1 600 0) - 1))) = 0) from c20), if_pos (show (b2i (0 ≤ a3 ∧ a3 ≤ ((M.1 600 1) - 1))) = 0 from c34)]; done) | (simp only [if_neg (show ¬ ((b2i (0 ≤ a1 ∧ a1 ≤ 5)) = 0) from c6), if_neg (show ¬ ((b2i (0 ≤ a2 ∧ a2 ≤ ((M.1 600 0) - 1))) = 0) from c20), if_pos (show (b2i (0 ≤ a3 ∧ a3 ≤ ((M.1 600 1) - 1))) = 0 from c34)]; rfl)
        · unfold w_X8_work; first | rfl | (simp only [if_neg (show ¬ ((b2i (0 ≤ a1 ∧ a1 ≤ 5)) = 0) from c6), if_neg (show ¬ ((b2i (0 ≤ a2 ∧ a2 ≤ ((M.1 600 0) - 1))) = 0) from c20), if_pos (show (b2i (0 ≤ a3 ∧ a3 ≤ ((M.1 600 1) - 1))) = 0 from c34)]; done) | (simp only [if_neg (show ¬ ((b2i (0 ≤ a1 ∧ a1 ≤ 5)) = 0) from c6), if_neg (show ¬ ((b2i (0 ≤ a2 ∧ a2 ≤ ((M.1 600 0) - 1))) = 0) from c20), if_pos (show (b2i (0 ≤ a3 ∧ a3 ≤ ((M.1 600 1) - 1))) = 0 from c34)]; rfl)
      · rw [if_neg (show ¬ ((b2i (0 ≤ a3 ∧ a3 ≤ ((M.1 600 1) - 1))) = 0) from c34)] at hp
        refine j_iload g (i := 4) (by decide +kernel) rfl ?_
        refine j_cS1r g s8_237 (by decide +kernel) (Nat.le_of_ble_eq_true rfl) (rnX8_isPlace) ?_
        refine j_if_eq g (off := 26) (tgt := 68) (by decide +kernel) (by decide) (fun c42 => ?_) (fun c42 => ?_)
        · rw [if_pos (show (b2i (0 ≤ a4 ∧ a4 ≤ 9)) = 0 from c42)] at hp
          refine j_iconst g (n := -1) (-1) (by decide +kernel) rfl ?_
          refine hr.1 _ _ _ _ (by decide +kernel) ⟨_, rfl, by first | rfl | exact b2i_nar | rfl⟩ ?_ ?_
          · unfold r_X8_work; first | rfl | (simp only [if_neg (show ¬ ((b2i (0 ≤ a1 ∧ a1 ≤ 5)) = 0) from c6), if_neg (show ¬ ((b2i (0 ≤ a2 ∧ a2 ≤ ((M.1 600 0) - 1))) = 0) from c20), if_neg (show ¬ ((b2i (0 ≤ a3 ∧ a3 ≤ ((M.1 600 1) - 1))) = 0) from c34), if_pos (show (b2i (0 ≤ a4 ∧ a4 ≤ 9)) = 0 from c42)]; done) | (simp only [if_neg (show ¬ ((b2i (0 ≤ a1 ∧ a1 ≤ 5)) = 0) from c6), if_neg (show ¬ ((b2i (0 ≤ a2 ∧ a2 ≤ ((M.1 600 0) - 1))) = 0) from c20), if_neg (show ¬ ((b2i (0 ≤ a3 ∧ a3 ≤ ((M.1 600 1) - 1))) = 0) from c34), if_pos (show (b2i (0 ≤ a4 ∧ a4 ≤ 9)) = 0 from c42)]; rfl)
          · unfold w_X8_work; first | rfl | (simp only [if_neg (show ¬ ((b2i (0 ≤ a1 ∧ a1 ≤ 5)) = 0) from c6), if_neg (show ¬ ((b2i (0 ≤ a2 ∧ a2 ≤ ((M.1 600 0) - 1))) = 0) from c20), if_neg (show ¬ ((b2i (0 ≤ a3 ∧ a3 ≤ ((M.1 600 1) - 1))) = 0) from c34), if_pos (show (b2i (0 ≤ a4 ∧ a4 ≤ 9)) = 0 from c42)]; done) | (simp only [if_neg (show ¬ ((b2i (0 ≤ a1 ∧ a1 ≤ 5)) = 0) from c6), if_neg (show ¬ ((b2i (0 ≤ a2 ∧ a2 ≤ ((M.1 600 0) - 1))) = 0) from c20), if_neg (show ¬ ((b2i (0 ≤ a3 ∧ a3 ≤ ((M.1 600 1) - 1))) = 0) from c34), if_pos (show (b2i (0 ≤ a4 ∧ a4 ≤ 9)) = 0 from c42)]; rfl)
        · rw [if_neg (show ¬ ((b2i (0 ≤ a4 ∧ a4 ≤ 9)) = 0) from c42)] at hp
          refine j_iload g (i := 5) (by decide +kernel) rfl ?_
          refine j_iconst g (n := 0) (0) (by decide +kernel) rfl ?_
          refine j_sipush g (n := 999) (999) (by decide +kernel) (by decide +kernel) ?_
          refine j_cS3r g s8_95 (by decide +kernel) (Nat.le_of_ble_eq_true rfl) (rnX8_in) ?_
          refine j_if_eq g (off := 14) (tgt := 68) (by decide +kernel) (by decide) (fun c54 => ?_) (fun c54 => ?_)
          · rw [if_pos (show (b2i (0 ≤ a5 ∧ a5 ≤ 999)) = 0 from c54)] at hp
            refine j_iconst g (n := -1) (-1) (by decide +kernel) rfl ?_
            refine hr.1 _ _ _ _ (by decide +kernel) ⟨_, rfl, by first | rfl | exact b2i_nar | rfl⟩ ?_ ?_
            · unfold r_X8_work; first | rfl | (simp only [if_neg (show ¬ ((b2i (0 ≤ a1 ∧ a1 ≤ 5)) = 0) from c6), if_neg (show ¬ ((b2i (0 ≤ a2 ∧ a2 ≤ ((M.1 600 0) - 1))) = 0) from c20), if_neg (show ¬ ((b2i (0 ≤ a3 ∧ a3 ≤ ((M.1 600 1) - 1))) = 0) from c34), if_neg (show ¬ ((b2i (0 ≤ a4 ∧ a4 ≤ 9)) = 0) from c42), if_pos (show (b2i (0 ≤ a5 ∧ a5 ≤ 999)) = 0 from c54)]; done) | (simp only [if_neg (show ¬ ((b2i (0 ≤ a1 ∧ a1 ≤ 5)) = 0) from c6), if_neg (show ¬ ((b2i (0 ≤ a2 ∧ a2 ≤ ((M.1 600 0) - 1))) = 0) from c20), if_neg (show ¬ ((b2i (0 ≤ a3 ∧ a3 ≤ ((M.1 600 1) - 1))) = 0) from c34), if_neg (show ¬ ((b2i (0 ≤ a4 ∧ a4 ≤ 9)) = 0) from c42), if_pos (show (b2i (0 ≤ a5 ∧ a5 ≤ 999)) = 0 from c54)]; rfl)
            · unfold w_X8_work; first | rfl | (simp only [if_neg (show ¬ ((b2i (0 ≤ a1 ∧ a1 ≤ 5)) = 0) from c6), if_neg (show ¬ ((b2i (0 ≤ a2 ∧ a2 ≤ ((M.1 600 0) - 1))) = 0) from c20), if_neg (show ¬ ((b2i (0 ≤ a3 ∧ a3 ≤ ((M.1 600 1) - 1))) = 0) from c34), if_neg (show ¬ ((b2i (0 ≤ a4 ∧ a4 ≤ 9)) = 0) from c42), if_pos (show (b2i (0 ≤ a5 ∧ a5 ≤ 999)) = 0 from c54)]; done) | (simp only [if_neg (show ¬ ((b2i (0 ≤ a1 ∧ a1 ≤ 5)) = 0) from c6), if_neg (show ¬ ((b2i (0 ≤ a2 ∧ a2 ≤ ((M.1 600 0) - 1))) = 0) from c20), if_neg (show ¬ ((b2i (0 ≤ a3 ∧ a3 ≤ ((M.1 600 1) - 1))) = 0) from c34), if_neg (show ¬ ((b2i (0 ≤ a4 ∧ a4 ≤ 9)) = 0) from c42), if_pos (show (b2i (0 ≤ a5 ∧ a5 ≤ 999)) = 0 from c54)]; rfl)
          · rw [if_neg (show ¬ ((b2i (0 ≤ a5 ∧ a5 ≤ 999)) = 0) from c54)] at hp
            refine j_iload g (i := 6) (by decide +kernel) rfl ?_
            refine j_iconst g (n := 0) (0) (by decide +kernel) rfl ?_
            refine j_bipush g (n := 99) (99) (by decide +kernel) (by decide +kernel) ?_
            refine j_cS3r g s8_95 (by decide +kernel) (Nat.le_of_ble_eq_true rfl) (rnX8_in) ?_
            refine j_if_ne g (off := 5) (tgt := 70) (by decide +kernel) (by decide) (fun c65 => ?_) (fun c65 => ?_)
            · rw [if_pos (show ¬ (b2i (0 ≤ a6 ∧ a6 ≤ 99)) = 0 from c65)] at hp
              refine j_aload_n g (i := 0) (by decide +kernel) rfl ?_
              refine j_gI g f8_99 (by decide +kernel) (by decide +kernel) (by decide +kernel) ?_
              refine j_bipush g (n := 6) (6) (by decide +kernel) (by decide +kernel) ?_
              refine j_icmp_ne g (off := 6) (tgt := 82) (by decide +kernel) (by decide) (fun c76 => ?_) (fun c76 => ?_)
              · rw [if_pos (show ¬ (M.1 600 2) = 6 from c76)] at hp
                refine j_bipush g (n := 8) (8) (by decide +kernel) (by decide +kernel) ?_
                refine j_aload_n g (i := 0) (by decide +kernel) rfl ?_
                refine j_gI g f8_99 (by decide +kernel) (by decide +kernel) (by decide +kernel) ?_
                refine j_imul g (by decide +kernel) ?_
                refine j_istore g (i := 7) (by decide +kernel) (by decide) ?_
                dsimp only [stL, clL, hdL]
                refine j_aload_n g (i := 0) (by decide +kernel) rfl ?_
                refine j_gA g (b := 603) f8_16 (by decide +kernel) (by decide +kernel) (by decide +kernel) (by decide +kernel) ?_
                refine j_iload g (i := 7) (by decide +kernel) rfl ?_
                refine j_iload_n g (i := 1) (by decide +kernel) rfl ?_
                obtain ⟨h0, hp⟩ := hp
                refine j_is g 48 (by decide +kernel) (by decide +kernel) (by decide +kernel) h0 ?_
                refine j_aload_n g (i := 0) (by decide +kernel) rfl ?_
                refine j_gA g (b := 603) f8_16 (by decide +kernel) (by decide +kernel) (by decide +kernel) (by decide +kernel) ?_
                refine j_iload g (i := 7) (by decide +kernel) rfl ?_
                refine j_iconst g (n := 1) (1) (by decide +kernel) rfl ?_
                refine j_iadd g (by decide +kernel) ?_
                refine j_iload_n g (i := 2) (by decide +kernel) rfl ?_
                obtain ⟨h0, hp⟩ := hp
                refine j_is g 48 (by decide +kernel) (by decide +kernel) (by decide +kernel) h0 ?_
                refine j_aload_n g (i := 0) (by decide +kernel) rfl ?_
                refine j_gA g (b := 603) f8_16 (by decide +kernel) (by decide +kernel) (by decide +kernel) (by decide +kernel) ?_
                refine j_iload g (i := 7) (by decide +kernel) rfl ?_
                refine j_iconst g (n := 2) (2) (by decide +kernel) rfl ?_
                refine j_iadd g (by decide +kernel) ?_
                refine j_iload_n g (i := 3) (by decide +kernel) rfl ?_
                obtain ⟨h0, hp⟩ := hp
                refine j_is g 48 (by decide +kernel) (by decide +kernel) (by decide +kernel) h0 ?_
                refine j_aload_n g (i := 0) (by decide +kernel) rfl ?_
                refine j_gA g (b := 603) f8_16 (by decide +kernel) (by decide +kernel) (by decide +kernel) (by decide +kernel) ?_
                refine j_iload g (i := 7) (by decide +kernel) rfl ?_
                refine j_iconst g (n := 3) (3) (by decide +kernel) rfl ?_
                refine j_iadd g (by decide +kernel) ?_
                refine j_iload g (i := 4) (by decide +kernel) rfl ?_
                obtain ⟨h0, hp⟩ := hp
                refine j_is g 48 (by decide +kernel) (by decide +kernel) (by decide +kernel) h0 ?_
                refine j_aload_n g (i := 0) (by decide +kernel) rfl ?_
                refine j_gA g (b := 603) f8_16 (by decide +kernel) (by decide +kernel) (by decide +kernel) (by decide +kernel) ?_
                refine j_iload g (i := 7) (by decide +kernel) rfl ?_
                refine j_iconst g (n := 4) (4) (by decide +kernel) rfl ?_
                refine j_iadd g (by decide +kernel) ?_
                refine j_iload g (i := 5) (by decide +kernel) rfl ?_
                obtain ⟨h0, hp⟩ := hp
                refine j_is g 48 (by decide +kernel) (by decide +kernel) (by decide +kernel) h0 ?_
                refine j_aload_n g (i := 0) (by decide +kernel) rfl ?_
                refine j_gA g (b := 603) f8_16 (by decide +kernel) (by decide +kernel) (by decide +kernel) (by decide +kernel) ?_
                refine j_iload g (i := 7) (by decide +kernel) rfl ?_
                refine j_iconst g (n := 5) (5) (by decide +kernel) rfl ?_
                refine j_iadd g (by decide +kernel) ?_
                refine j_iload g (i := 6) (by decide +kernel) rfl ?_
                obtain ⟨h0, hp⟩ := hp
                refine j_is g 48 (by decide +kernel) (by decide +kernel) (by decide +kernel) h0 ?_
                refine j_aload_n g (i := 0) (by decide +kernel) rfl ?_
                refine j_gA g (b := 603) f8_16 (by decide +kernel) (by decide +kernel) (by decide +kernel) (by decide +kernel) ?_
                refine j_iload g (i := 7) (by decide +kernel) rfl ?_
                refine j_bipush g (n := 6) (6) (by decide +kernel) (by decide +kernel) ?_
                refine j_iadd g (by decide +kernel) ?_
                refine j_iconst g (n := -1) (-1) (by decide +kernel) rfl ?_
                obtain ⟨h0, hp⟩ := hp
                refine j_is g 48 (by decide +kernel) (by decide +kernel) (by decide +kernel) h0 ?_
                refine j_aload_n g (i := 0) (by decide +kernel) rfl ?_
                refine j_gA g (b := 603) f8_16 (by decide +kernel) (by decide +kernel) (by decide +kernel) (by decide +kernel) ?_
                refine j_iload g (i := 7) (by decide +kernel) rfl ?_
                refine j_bipush g (n := 7) (7) (by decide +kernel) (by decide +kernel) ?_
                refine j_iadd g (by decide +kernel) ?_
                refine j_iconst g (n := 0) (0) (by decide +kernel) rfl ?_
                obtain ⟨h0, hp⟩ := hp
                refine j_is g 48 (by decide +kernel) (by decide +kernel) (by decide +kernel) h0 ?_
                refine j_aload_n g (i := 0) (by decide +kernel) rfl ?_
                refine j_gA g (b := 607) f8_28 (by decide +kernel) (by decide +kernel) (by decide +kernel) (by decide +kernel) ?_
                refine j_bipush g (n := 9) (9) (by decide +kernel) (by decide +kernel) ?_
                refine j_aload_n g (i := 0) (by decide +kernel) rfl ?_
                refine j_gI g f8_99 (by decide +kernel) (by decide +kernel) (by decide +kernel) ?_
                refine j_iadd g (by decide +kernel) ?_
                refine j_iconst g (n := 0) (0) (by decide +kernel) rfl ?_
                obtain ⟨h0, hp⟩ := hp
                refine j_is g 44 (by decide +kernel) (by decide +kernel) (by decide +kernel) h0 ?_
                refine j_aload_n g (i := 0) (by decide +kernel) rfl ?_
                refine j_gA g (b := 607) f8_28 (by decide +kernel) (by decide +kernel) (by decide +kernel) (by decide +kernel) ?_
                refine j_bipush g (n := 15) (15) (by decide +kernel) (by decide +kernel) ?_
                refine j_aload_n g (i := 0) (by decide +kernel) rfl ?_
                refine j_gI g f8_99 (by decide +kernel) (by decide +kernel) (by decide +kernel) ?_
                refine j_iadd g (by decide +kernel) ?_
                refine j_iconst g (n := 0) (0) (by decide +kernel) rfl ?_
                obtain ⟨h0, hp⟩ := hp
                refine j_is g 44 (by decide +kernel) (by decide +kernel) (by decide +kernel) h0 ?_
                refine j_aload_n g (i := 0) (by decide +kernel) rfl ?_
                refine j_dup g (by decide +kernel) rfl ?_
                refine j_gI g f8_99 (by decide +kernel) (by decide +kernel) (by decide +kernel) ?_
                refine j_iconst g (n := 1) (1) (by decide +kernel) rfl ?_
                refine j_iadd g (by decide +kernel) ?_
                refine j_pI g f8_99 (fun q h => by cases h; rfl) (by decide +kernel) (by decide +kernel) (by decide +kernel) ?_
                refine j_aload_n g (i := 0) (by decide +kernel) rfl ?_
                refine j_gI g f8_99 (by decide +kernel) (by decide +kernel) (by decide +kernel) ?_
                refine j_iconst g (n := 1) (1) (by decide +kernel) rfl ?_
                refine j_isub g (by decide +kernel) ?_
                refine hr.1 _ _ _ _ (by decide +kernel) ⟨_, rfl, by first | rfl | exact b2i_nar | rfl⟩ ?_ ?_
                · unfold r_X8_work; first | rfl | (simp only [if_neg (show ¬ ((b2i (0 ≤ a1 ∧ a1 ≤ 5)) = 0) from c6), if_neg (show ¬ ((b2i (0 ≤ a2 ∧ a2 ≤ ((M.1 600 0) - 1))) = 0) from c20), if_neg (show ¬ ((b2i (0 ≤ a3 ∧ a3 ≤ ((M.1 600 1) - 1))) = 0) from c34), if_neg (show ¬ ((b2i (0 ≤ a4 ∧ a4 ≤ 9)) = 0) from c42), if_neg (show ¬ ((b2i (0 ≤ a5 ∧ a5 ≤ 999)) = 0) from c54), if_pos (show ¬ (b2i (0 ≤ a6 ∧ a6 ≤ 99)) = 0 from c65), if_pos (show ¬ (M.1 600 2) = 6 from c76)]; done) | (simp only [if_neg (show ¬ ((b2i (0 ≤ a1 ∧ a1 ≤ 5)) = 0) from c6), if_neg (show ¬ ((b2i (0 ≤ a2 ∧ a2 ≤ ((M.1 600 0) - 1))) = 0) from c20), if_neg (show ¬ ((b2i (0 ≤ a3 ∧ a3 ≤ ((M.1 600 1) - 1))) = 0) from c34), if_neg (show ¬ ((b2i (0 ≤ a4 ∧ a4 ≤ 9)) = 0) from c42), if_neg (show ¬ ((b2i (0 ≤ a5 ∧ a5 ≤ 999)) = 0) from c54), if_pos (show ¬ (b2i (0 ≤ a6 ∧ a6 ≤ 99)) = 0 from c65), if_pos (show ¬ (M.1 600 2) = 6 from c76)]; rfl)
                · unfold w_X8_work; first | rfl | (simp only [if_neg (show ¬ ((b2i (0 ≤ a1 ∧ a1 ≤ 5)) = 0) from c6), if_neg (show ¬ ((b2i (0 ≤ a2 ∧ a2 ≤ ((M.1 600 0) - 1))) = 0) from c20), if_neg (show ¬ ((b2i (0 ≤ a3 ∧ a3 ≤ ((M.1 600 1) - 1))) = 0) from c34), if_neg (show ¬ ((b2i (0 ≤ a4 ∧ a4 ≤ 9)) = 0) from c42), if_neg (show ¬ ((b2i (0 ≤ a5 ∧ a5 ≤ 999)) = 0) from c54), if_pos (show ¬ (b2i (0 ≤ a6 ∧ a6 ≤ 99)) = 0 from c65), if_pos (show ¬ (M.1 600 2) = 6 from c76)]; done) | (simp only [if_neg (show ¬ ((b2i (0 ≤ a1 ∧ a1 ≤ 5)) = 0) from c6), if_neg (show ¬ ((b2i (0 ≤ a2 ∧ a2 ≤ ((M.1 600 0) - 1))) = 0) from c20), if_neg (show ¬ ((b2i (0 ≤ a3 ∧ a3 ≤ ((M.1 600 1) - 1))) = 0) from c34), if_neg (show ¬ ((b2i (0 ≤ a4 ∧ a4 ≤ 9)) = 0) from c42), if_neg (show ¬ ((b2i (0 ≤ a5 ∧ a5 ≤ 999)) = 0) from c54), if_pos (show ¬ (b2i (0 ≤ a6 ∧ a6 ≤ 99)) = 0 from c65), if_pos (show ¬ (M.1 600 2) = 6 from c76)]; rfl)
              · rw [if_neg (show ¬ (¬ (M.1 600 2) = 6) from c76)] at hp
                refine j_bipush g (n := -2) (-2) (by decide +kernel) (by decide +kernel) ?_
                refine hr.1 _ _ _ _ (by decide +kernel) ⟨_, rfl, by first | rfl | exact b2i_nar | rfl⟩ ?_ ?_
                · unfold r_X8_work; first | rfl | (simp only [if_neg (show ¬ ((b2i (0 ≤ a1 ∧ a1 ≤ 5)) = 0) from c6), if_neg (show ¬ ((b2i (0 ≤ a2 ∧ a2 ≤ ((M.1 600 0) - 1))) = 0) from c20), if_neg (show ¬ ((b2i (0 ≤ a3 ∧ a3 ≤ ((M.1 600 1) - 1))) = 0) from c34), if_neg (show ¬ ((b2i (0 ≤ a4 ∧ a4 ≤ 9)) = 0) from c42), if_neg (show ¬ ((b2i (0 ≤ a5 ∧ a5 ≤ 999)) = 0) from c54), if_pos (show ¬ (b2i (0 ≤ a6 ∧ a6 ≤ 99)) = 0 from c65), if_neg (show ¬ (¬ (M.1 600 2) = 6) from c76)]; done) | (simp only [if_neg (show ¬ ((b2i (0 ≤ a1 ∧ a1 ≤ 5)) = 0) from c6), if_neg (show ¬ ((b2i (0 ≤ a2 ∧ a2 ≤ ((M.1 600 0) - 1))) = 0) from c20), if_neg (show ¬ ((b2i (0 ≤ a3 ∧ a3 ≤ ((M.1 600 1) - 1))) = 0) from c34), if_neg (show ¬ ((b2i (0 ≤ a4 ∧ a4 ≤ 9)) = 0) from c42), if_neg (show ¬ ((b2i (0 ≤ a5 ∧ a5 ≤ 999)) = 0) from c54), if_pos (show ¬ (b2i (0 ≤ a6 ∧ a6 ≤ 99)) = 0 from c65), if_neg (show ¬ (¬ (M.1 600 2) = 6) from c76)]; rfl)
                · unfold w_X8_work; first | rfl | (simp only [if_neg (show ¬ ((b2i (0 ≤ a1 ∧ a1 ≤ 5)) = 0) from c6), if_neg (show ¬ ((b2i (0 ≤ a2 ∧ a2 ≤ ((M.1 600 0) - 1))) = 0) from c20), if_neg (show ¬ ((b2i (0 ≤ a3 ∧ a3 ≤ ((M.1 600 1) - 1))) = 0) from c34), if_neg (show ¬ ((b2i (0 ≤ a4 ∧ a4 ≤ 9)) = 0) from c42), if_neg (show ¬ ((b2i (0 ≤ a5 ∧ a5 ≤ 999)) = 0) from c54), if_pos (show ¬ (b2i (0 ≤ a6 ∧ a6 ≤ 99)) = 0 from c65), if_neg (show ¬ (¬ (M.1 600 2) = 6) from c76)]; done) | (simp only [if_neg (show ¬ ((b2i (0 ≤ a1 ∧ a1 ≤ 5)) = 0) from c6), if_neg (show ¬ ((b2i (0 ≤ a2 ∧ a2 ≤ ((M.1 600 0) - 1))) = 0) from c20), if_neg (show ¬ ((b2i (0 ≤ a3 ∧ a3 ≤ ((M.1 600 1) - 1))) = 0) from c34), if_neg (show ¬ ((b2i (0 ≤ a4 ∧ a4 ≤ 9)) = 0) from c42), if_neg (show ¬ ((b2i (0 ≤ a5 ∧ a5 ≤ 999)) = 0) from c54), if_pos (show ¬ (b2i (0 ≤ a6 ∧ a6 ≤ 99)) = 0 from c65), if_neg (show ¬ (¬ (M.1 600 2) = 6) from c76)]; rfl)
            · rw [if_neg (show ¬ (¬ (b2i (0 ≤ a6 ∧ a6 ≤ 99)) = 0) from c65)] at hp
              refine j_iconst g (n := -1) (-1) (by decide +kernel) rfl ?_
              refine hr.1 _ _ _ _ (by decide +kernel) ⟨_, rfl, by first | rfl | exact b2i_nar | rfl⟩ ?_ ?_
              · unfold r_X8_work; first | rfl | (simp only [if_neg (show ¬ ((b2i (0 ≤ a1 ∧ a1 ≤ 5)) = 0) from c6), if_neg (show ¬ ((b2i (0 ≤ a2 ∧ a2 ≤ ((M.1 600 0) - 1))) = 0) from c20), if_neg (show ¬ ((b2i (0 ≤ a3 ∧ a3 ≤ ((M.1 600 1) - 1))) = 0) from c34), if_neg (show ¬ ((b2i (0 ≤ a4 ∧ a4 ≤ 9)) = 0) from c42), if_neg (show ¬ ((b2i (0 ≤ a5 ∧ a5 ≤ 999)) = 0) from c54), if_neg (show ¬ (¬ (b2i (0 ≤ a6 ∧ a6 ≤ 99)) = 0) from c65)]; done) | (simp only [if_neg (show ¬ ((b2i (0 ≤ a1 ∧ a1 ≤ 5)) = 0) from c6), if_neg (show ¬ ((b2i (0 ≤ a2 ∧ a2 ≤ ((M.1 600 0) - 1))) = 0) from c20), if_neg (show ¬ ((b2i (0 ≤ a3 ∧ a3 ≤ ((M.1 600 1) - 1))) = 0) from c34), if_neg (show ¬ ((b2i (0 ≤ a4 ∧ a4 ≤ 9)) = 0) from c42), if_neg (show ¬ ((b2i (0 ≤ a5 ∧ a5 ≤ 999)) = 0) from c54), if_neg (show ¬ (¬ (b2i (0 ≤ a6 ∧ a6 ≤ 99)) = 0) from c65)]; rfl)
              · unfold w_X8_work; first | rfl | (simp only [if_neg (show ¬ ((b2i (0 ≤ a1 ∧ a1 ≤ 5)) = 0) from c6), if_neg (show ¬ ((b2i (0 ≤ a2 ∧ a2 ≤ ((M.1 600 0) - 1))) = 0) from c20), if_neg (show ¬ ((b2i (0 ≤ a3 ∧ a3 ≤ ((M.1 600 1) - 1))) = 0) from c34), if_neg (show ¬ ((b2i (0 ≤ a4 ∧ a4 ≤ 9)) = 0) from c42), if_neg (show ¬ ((b2i (0 ≤ a5 ∧ a5 ≤ 999)) = 0) from c54), if_neg (show ¬ (¬ (b2i (0 ≤ a6 ∧ a6 ≤ 99)) = 0) from c65)]; done) | (simp only [if_neg (show ¬ ((b2i (0 ≤ a1 ∧ a1 ≤ 5)) = 0) from c6), if_neg (show ¬ ((b2i (0 ≤ a2 ∧ a2 ≤ ((M.1 600 0) - 1))) = 0) from c20), if_neg (show ¬ ((b2i (0 ≤ a3 ∧ a3 ≤ ((M.1 600 1) - 1))) = 0) from c34), if_neg (show ¬ ((b2i (0 ≤ a4 ∧ a4 ≤ 9)) = 0) from c42), if_neg (show ¬ ((b2i (0 ≤ a5 ∧ a5 ≤ 999)) = 0) from c54), if_neg (show ¬ (¬ (b2i (0 ≤ a6 ∧ a6 ≤ 99)) = 0) from c65)]; rfl)
def r_X8_behind (M : Mm) (a1 : Int32) (a2 : Int32) (a3 : Int32) : Int32 := if (b2i (0 ≤ a1 ∧ a1 ≤ M.1 600 2 - 1)) = 0 then (-1) else if (b2i ((-1) ≤ a2 ∧ a2 ≤ (a1 - 1))) = 0 then (-1) else if ¬ (b2i (0 ≤ a3 ∧ a3 ≤ 99)) = 0 then (if ¬ (b2i (M.1 607 (Int32.toNatClampNeg (M.1 600 10 + 9 + a1)) = 0)) = 0 then (if 0 ≤ (M.1 603 (Int32.toNatClampNeg (8 * a1 + 6))) then M.1 603 (Int32.toNatClampNeg (8 * a1 + 6)) else (-9)) else (-4)) else (-1)
def w_X8_behind (M : Mm) (a1 : Int32) (a2 : Int32) (a3 : Int32) : Mm := if (b2i (0 ≤ a1 ∧ a1 ≤ M.1 600 2 - 1)) = 0 then M else if (b2i ((-1) ≤ a2 ∧ a2 ≤ (a1 - 1))) = 0 then M else if ¬ (b2i (0 ≤ a3 ∧ a3 ≤ 99)) = 0 then (if ¬ (b2i (M.1 607 (Int32.toNatClampNeg (M.1 600 10 + 9 + a1)) = 0)) = 0 then (wi (wi M 603 (Int32.toNatClampNeg ((8 * a1) + 6)) a2) 603 (Int32.toNatClampNeg ((8 * a1) + 7)) a3) else M) else M
def p_X8_behind (M : Mm) (a1 : Int32) (a2 : Int32) (a3 : Int32) : Prop := (if (b2i (0 ≤ a1 ∧ a1 ≤ M.1 600 2 - 1)) = 0 then True else (if (b2i ((-1) ≤ a2 ∧ a2 ≤ (a1 - 1))) = 0 then True else (if ¬ (b2i (0 ≤ a3 ∧ a3 ≤ 99)) = 0 then (vp_in (M.1 600 10 + 9 + a1) 44) ∧ (if ¬ (b2i (M.1 607 (Int32.toNatClampNeg (M.1 600 10 + 9 + a1)) = 0)) = 0 then (vp_in (8 * a1 + 6) 48) ∧ (vp_in ((8 * a1) + 6) 48) ∧ (vp_in ((8 * a1) + 7) 48) ∧ (if 0 ≤ (M.1 603 (Int32.toNatClampNeg (8 * a1 + 6))) then True else True) else True) else True)))
theorem rnX8_behind {d : Nat} {M : Mm} {a1 : Int32} {a2 : Int32} {a3 : Int32}  (hp : p_X8_behind M a1 a2 a3) : Rn (d + 2) mX8_behind [.ref 600, .int a1, .int a2, .int a3] M (some (.int (r_X8_behind M a1 a2 a3))) (w_X8_behind M a1 a2 a3) := by
  refine Rn.of [some (.ref 600), some (.int a1), some (.int a2), some (.int a3), none] (by decide +kernel) rfl (Nat.le_of_ble_eq_true rfl) rfl (fun J g hr => ?_)
  unfold p_X8_behind at hp
  refine j_aload_n g (i := 0) (by decide +kernel) rfl ?_
  refine j_iload_n g (i := 1) (by decide +kernel) rfl ?_
  refine j_cV1r g v8_243 ⟨rfl, by decide⟩ (by decide +kernel) (by decide +kernel) (Nat.le_of_ble_eq_true rfl) (rnX8_isWork) ?_
  refine j_if_eq g (off := 24) (tgt := 29) (by decide +kernel) (by decide) (fun c5 => ?_) (fun c5 => ?_)
  · rw [if_pos (show (b2i (0 ≤ a1 ∧ a1 ≤ M.1 600 2 - 1)) = 0 from c5)] at hp
    refine j_iconst g (n := -1) (-1) (by decide +kernel) rfl ?_
    refine hr.1 _ _ _ _ (by decide +kernel) ⟨_, rfl, by first | rfl | exact b2i_nar | rfl⟩ ?_ ?_
    · unfold r_X8_behind; first | rfl | (simp only [if_pos (show (b2i (0 ≤ a1 ∧ a1 ≤ M.1 600 2 - 1)) = 0 from c5)]; done) | (simp only [if_pos (show (b2i (0 ≤ a1 ∧ a1 ≤ M.1 600 2 - 1)) = 0 from c5)]; rfl)
    · unfold w_X8_behind; first | rfl | (simp only [if_pos (show (b2i (0 ≤ a1 ∧ a1 ≤ M.1 600 2 - 1)) = 0 from c5)]; done) | (simp only [if_pos (show (b2i (0 ≤ a1 ∧ a1 ≤ M.1 600 2 - 1)) = 0 from c5)]; rfl)
  · rw [if_neg (show ¬ ((b2i (0 ≤ a1 ∧ a1 ≤ M.1 600 2 - 1)) = 0) from c5)] at hp
    refine j_iload_n g (i := 2) (by decide +kernel) rfl ?_
    refine j_iconst g (n := -1) (-1) (by decide +kernel) rfl ?_
    refine j_iload_n g (i := 1) (by decide +kernel) rfl ?_
    refine j_iconst g (n := 1) (1) (by decide +kernel) rfl ?_
    refine j_isub g (by decide +kernel) ?_
    refine j_cS3r g s8_95 (by decide +kernel) (Nat.le_of_ble_eq_true rfl) (rnX8_in) ?_
    refine j_if_eq g (off := 13) (tgt := 29) (by decide +kernel) (by decide) (fun c16 => ?_) (fun c16 => ?_)
    · rw [if_pos (show (b2i ((-1) ≤ a2 ∧ a2 ≤ (a1 - 1))) = 0 from c16)] at hp
      refine j_iconst g (n := -1) (-1) (by decide +kernel) rfl ?_
      refine hr.1 _ _ _ _ (by decide +kernel) ⟨_, rfl, by first | rfl | exact b2i_nar | rfl⟩ ?_ ?_
      · unfold r_X8_behind; first | rfl | (simp only [if_neg (show ¬ ((b2i (0 ≤ a1 ∧ a1 ≤ M.1 600 2 - 1)) = 0) from c5), if_pos (show (b2i ((-1) ≤ a2 ∧ a2 ≤ (a1 - 1))) = 0 from c16)]; done) | (simp only [if_neg (show ¬ ((b2i (0 ≤ a1 ∧ a1 ≤ M.1 600 2 - 1)) = 0) from c5), if_pos (show (b2i ((-1) ≤ a2 ∧ a2 ≤ (a1 - 1))) = 0 from c16)]; rfl)
      · unfold w_X8_behind; first | rfl | (simp only [if_neg (show ¬ ((b2i (0 ≤ a1 ∧ a1 ≤ M.1 600 2 - 1)) = 0) from c5), if_pos (show (b2i ((-1) ≤ a2 ∧ a2 ≤ (a1 - 1))) = 0 from c16)]; done) | (simp only [if_neg (show ¬ ((b2i (0 ≤ a1 ∧ a1 ≤ M.1 600 2 - 1)) = 0) from c5), if_pos (show (b2i ((-1) ≤ a2 ∧ a2 ≤ (a1 - 1))) = 0 from c16)]; rfl)
    · rw [if_neg (show ¬ ((b2i ((-1) ≤ a2 ∧ a2 ≤ (a1 - 1))) = 0) from c16)] at hp
      refine j_iload_n g (i := 3) (by decide +kernel) rfl ?_
      refine j_iconst g (n := 0) (0) (by decide +kernel) rfl ?_
      refine j_bipush g (n := 99) (99) (by decide +kernel) (by decide +kernel) ?_
      refine j_cS3r g s8_95 (by decide +kernel) (Nat.le_of_ble_eq_true rfl) (rnX8_in) ?_
      refine j_if_ne g (off := 5) (tgt := 31) (by decide +kernel) (by decide) (fun c26 => ?_) (fun c26 => ?_)
      · rw [if_pos (show ¬ (b2i (0 ≤ a3 ∧ a3 ≤ 99)) = 0 from c26)] at hp
        refine j_aload_n g (i := 0) (by decide +kernel) rfl ?_
        refine j_iload_n g (i := 1) (by decide +kernel) rfl ?_
        obtain ⟨h0, hp⟩ := hp
        refine j_cV1r g v8_246 ⟨rfl, by decide⟩ (by decide +kernel) (by decide +kernel) (Nat.le_of_ble_eq_true rfl) (rnX8_isOpen h0) ?_
        refine j_if_ne g (off := 6) (tgt := 42) (by decide +kernel) (by decide) (fun c36 => ?_) (fun c36 => ?_)
        · rw [if_pos (show ¬ (b2i (M.1 607 (Int32.toNatClampNeg (M.1 600 10 + 9 + a1)) = 0)) = 0 from c36)] at hp
          refine j_aload_n g (i := 0) (by decide +kernel) rfl ?_
          refine j_iload_n g (i := 1) (by decide +kernel) rfl ?_
          refine j_bipush g (n := 6) (6) (by decide +kernel) (by decide +kernel) ?_
          obtain ⟨h0, hp⟩ := hp
          refine j_cV2r g v8_249 ⟨rfl, by decide⟩ (by decide +kernel) (by decide +kernel) (Nat.le_of_ble_eq_true rfl) (rnX8_its h0) ?_
          refine j_istore g (i := 4) (by decide +kernel) (by decide) ?_
          dsimp only [stL, clL, hdL]
          refine j_aload_n g (i := 0) (by decide +kernel) rfl ?_
          refine j_gA g (b := 603) f8_16 (by decide +kernel) (by decide +kernel) (by decide +kernel) (by decide +kernel) ?_
          refine j_bipush g (n := 8) (8) (by decide +kernel) (by decide +kernel) ?_
          refine j_iload_n g (i := 1) (by decide +kernel) rfl ?_
          refine j_imul g (by decide +kernel) ?_
          refine j_bipush g (n := 6) (6) (by decide +kernel) (by decide +kernel) ?_
          refine j_iadd g (by decide +kernel) ?_
          refine j_iload_n g (i := 2) (by decide +kernel) rfl ?_
          obtain ⟨h0, hp⟩ := hp
          refine j_is g 48 (by decide +kernel) (by decide +kernel) (by decide +kernel) h0 ?_
          refine j_aload_n g (i := 0) (by decide +kernel) rfl ?_
          refine j_gA g (b := 603) f8_16 (by decide +kernel) (by decide +kernel) (by decide +kernel) (by decide +kernel) ?_
          refine j_bipush g (n := 8) (8) (by decide +kernel) (by decide +kernel) ?_
          refine j_iload_n g (i := 1) (by decide +kernel) rfl ?_
          refine j_imul g (by decide +kernel) ?_
          refine j_bipush g (n := 7) (7) (by decide +kernel) (by decide +kernel) ?_
          refine j_iadd g (by decide +kernel) ?_
          refine j_iload_n g (i := 3) (by decide +kernel) rfl ?_
          obtain ⟨h0, hp⟩ := hp
          refine j_is g 48 (by decide +kernel) (by decide +kernel) (by decide +kernel) h0 ?_
          refine j_iload g (i := 4) (by decide +kernel) rfl ?_
          refine j_if_ge g (off := 8) (tgt := 87) (by decide +kernel) (by decide) (fun c79 => ?_) (fun c79 => ?_)
          · rw [if_pos (show 0 ≤ (M.1 603 (Int32.toNatClampNeg (8 * a1 + 6))) from c79)] at hp
            refine j_iload g (i := 4) (by decide +kernel) rfl ?_
            refine hr.1 _ _ _ _ (by decide +kernel) ⟨_, rfl, by first | rfl | exact b2i_nar | rfl⟩ ?_ ?_
            · unfold r_X8_behind; first | rfl | (simp only [if_neg (show ¬ ((b2i (0 ≤ a1 ∧ a1 ≤ M.1 600 2 - 1)) = 0) from c5), if_neg (show ¬ ((b2i ((-1) ≤ a2 ∧ a2 ≤ (a1 - 1))) = 0) from c16), if_pos (show ¬ (b2i (0 ≤ a3 ∧ a3 ≤ 99)) = 0 from c26), if_pos (show ¬ (b2i (M.1 607 (Int32.toNatClampNeg (M.1 600 10 + 9 + a1)) = 0)) = 0 from c36), if_pos (show 0 ≤ (M.1 603 (Int32.toNatClampNeg (8 * a1 + 6))) from c79)]; done) | (simp only [if_neg (show ¬ ((b2i (0 ≤ a1 ∧ a1 ≤ M.1 600 2 - 1)) = 0) from c5), if_neg (show ¬ ((b2i ((-1) ≤ a2 ∧ a2 ≤ (a1 - 1))) = 0) from c16), if_pos (show ¬ (b2i (0 ≤ a3 ∧ a3 ≤ 99)) = 0 from c26), if_pos (show ¬ (b2i (M.1 607 (Int32.toNatClampNeg (M.1 600 10 + 9 + a1)) = 0)) = 0 from c36), if_pos (show 0 ≤ (M.1 603 (Int32.toNatClampNeg (8 * a1 + 6))) from c79)]; rfl)
            · unfold w_X8_behind; first | rfl | (simp only [if_neg (show ¬ ((b2i (0 ≤ a1 ∧ a1 ≤ M.1 600 2 - 1)) = 0) from c5), if_neg (show ¬ ((b2i ((-1) ≤ a2 ∧ a2 ≤ (a1 - 1))) = 0) from c16), if_pos (show ¬ (b2i (0 ≤ a3 ∧ a3 ≤ 99)) = 0 from c26), if_pos (show ¬ (b2i (M.1 607 (Int32.toNatClampNeg (M.1 600 10 + 9 + a1)) = 0)) = 0 from c36), if_pos (show 0 ≤ (M.1 603 (Int32.toNatClampNeg (8 * a1 + 6))) from c79)]; done) | (simp only [if_neg (show ¬ ((b2i (0 ≤ a1 ∧ a1 ≤ M.1 600 2 - 1)) = 0) from c5), if_neg (show ¬ ((b2i ((-1) ≤ a2 ∧ a2 ≤ (a1 - 1))) = 0) from c16), if_pos (show ¬ (b2i (0 ≤ a3 ∧ a3 ≤ 99)) = 0 from c26), if_pos (show ¬ (b2i (M.1 607 (Int32.toNatClampNeg (M.1 600 10 + 9 + a1)) = 0)) = 0 from c36), if_pos (show 0 ≤ (M.1 603 (Int32.toNatClampNeg (8 * a1 + 6))) from c79)]; rfl)
          · rw [if_neg (show ¬ (0 ≤ (M.1 603 (Int32.toNatClampNeg (8 * a1 + 6)))) from c79)] at hp
            refine j_bipush g (n := -9) (-9) (by decide +kernel) (by decide +kernel) ?_
            refine j_goto g (off := 5) (tgt := 89) (by decide +kernel) (by decide) ?_
            refine hr.1 _ _ _ _ (by decide +kernel) ⟨_, rfl, by first | rfl | exact b2i_nar | rfl⟩ ?_ ?_
            · unfold r_X8_behind; first | rfl | (simp only [if_neg (show ¬ ((b2i (0 ≤ a1 ∧ a1 ≤ M.1 600 2 - 1)) = 0) from c5), if_neg (show ¬ ((b2i ((-1) ≤ a2 ∧ a2 ≤ (a1 - 1))) = 0) from c16), if_pos (show ¬ (b2i (0 ≤ a3 ∧ a3 ≤ 99)) = 0 from c26), if_pos (show ¬ (b2i (M.1 607 (Int32.toNatClampNeg (M.1 600 10 + 9 + a1)) = 0)) = 0 from c36), if_neg (show ¬ (0 ≤ (M.1 603 (Int32.toNatClampNeg (8 * a1 + 6)))) from c79)]; done) | (simp only [if_neg (show ¬ ((b2i (0 ≤ a1 ∧ a1 ≤ M.1 600 2 - 1)) = 0) from c5), if_neg (show ¬ ((b2i ((-1) ≤ a2 ∧ a2 ≤ (a1 - 1))) = 0) from c16), if_pos (show ¬ (b2i (0 ≤ a3 ∧ a3 ≤ 99)) = 0 from c26), if_pos (show ¬ (b2i (M.1 607 (Int32.toNatClampNeg (M.1 600 10 + 9 + a1)) = 0)) = 0 from c36), if_neg (show ¬ (0 ≤ (M.1 603 (Int32.toNatClampNeg (8 * a1 + 6)))) from c79)]; rfl)
            · unfold w_X8_behind; first | rfl | (simp only [if_neg (show ¬ ((b2i (0 ≤ a1 ∧ a1 ≤ M.1 600 2 - 1)) = 0) from c5), if_neg (show ¬ ((b2i ((-1) ≤ a2 ∧ a2 ≤ (a1 - 1))) = 0) from c16), if_pos (show ¬ (b2i (0 ≤ a3 ∧ a3 ≤ 99)) = 0 from c26), if_pos (show ¬ (b2i (M.1 607 (Int32.toNatClampNeg (M.1 600 10 + 9 + a1)) = 0)) = 0 from c36), if_neg (show ¬ (0 ≤ (M.1 603 (Int32.toNatClampNeg (8 * a1 + 6)))) from c79)]; done) | (simp only [if_neg (show ¬ ((b2i (0 ≤ a1 ∧ a1 ≤ M.1 600 2 - 1)) = 0) from c5), if_neg (show ¬ ((b2i ((-1) ≤ a2 ∧ a2 ≤ (a1 - 1))) = 0) from c16), if_pos (show ¬ (b2i (0 ≤ a3 ∧ a3 ≤ 99)) = 0 from c26), if_pos (show ¬ (b2i (M.1 607 (Int32.toNatClampNeg (M.1 600 10 + 9 + a1)) = 0)) = 0 from c36), if_neg (show ¬ (0 ≤ (M.1 603 (Int32.toNatClampNeg (8 * a1 + 6)))) from c79)]; rfl)
        · rw [if_neg (show ¬ (¬ (b2i (M.1 607 (Int32.toNatClampNeg (M.1 600 10 + 9 + a1)) = 0)) = 0) from c36)] at hp
          refine j_bipush g (n := -4) (-4) (by decide +kernel) (by decide +kernel) ?_
          refine hr.1 _ _ _ _ (by decide +kernel) ⟨_, rfl, by first | rfl | exact b2i_nar | rfl⟩ ?_ ?_
          · unfold r_X8_behind; first | rfl | (simp only [if_neg (show ¬ ((b2i (0 ≤ a1 ∧ a1 ≤ M.1 600 2 - 1)) = 0) from c5), if_neg (show ¬ ((b2i ((-1) ≤ a2 ∧ a2 ≤ (a1 - 1))) = 0) from c16), if_pos (show ¬ (b2i (0 ≤ a3 ∧ a3 ≤ 99)) = 0 from c26), if_neg (show ¬ (¬ (b2i (M.1 607 (Int32.toNatClampNeg (M.1 600 10 + 9 + a1)) = 0)) = 0) from c36)]; done) | (simp only [if_neg (show ¬ ((b2i (0 ≤ a1 ∧ a1 ≤ M.1 600 2 - 1)) = 0) from c5), if_neg (show ¬ ((b2i ((-1) ≤ a2 ∧ a2 ≤ (a1 - 1))) = 0) from c16), if_pos (show ¬ (b2i (0 ≤ a3 ∧ a3 ≤ 99)) = 0 from c26), if_neg (show ¬ (¬ (b2i (M.1 607 (Int32.toNatClampNeg (M.1 600 10 + 9 + a1)) = 0)) = 0) from c36)]; rfl)
          · unfold w_X8_behind; first | rfl | (simp only [if_neg (show ¬ ((b2i (0 ≤ a1 ∧ a1 ≤ M.1 600 2 - 1)) = 0) from c5), if_neg (show ¬ ((b2i ((-1) ≤ a2 ∧ a2 ≤ (a1 - 1))) = 0) from c16), if_pos (show ¬ (b2i (0 ≤ a3 ∧ a3 ≤ 99)) = 0 from c26), if_neg (show ¬ (¬ (b2i (M.1 607 (Int32.toNatClampNeg (M.1 600 10 + 9 + a1)) = 0)) = 0) from c36)]; done) | (simp only [if_neg (show ¬ ((b2i (0 ≤ a1 ∧ a1 ≤ M.1 600 2 - 1)) = 0) from c5), if_neg (show ¬ ((b2i ((-1) ≤ a2 ∧ a2 ≤ (a1 - 1))) = 0) from c16), if_pos (show ¬ (b2i (0 ≤ a3 ∧ a3 ≤ 99)) = 0 from c26), if_neg (show ¬ (¬ (b2i (M.1 607 (Int32.toNatClampNeg (M.1 600 10 + 9 + a1)) = 0)) = 0) from c36)]; rfl)
      · rw [if_neg (show ¬ (¬ (b2i (0 ≤ a3 ∧ a3 ≤ 99)) = 0) from c26)] at hp
        refine j_iconst g (n := -1) (-1) (by decide +kernel) rfl ?_
        refine hr.1 _ _ _ _ (by decide +kernel) ⟨_, rfl, by first | rfl | exact b2i_nar | rfl⟩ ?_ ?_
        · unfold r_X8_behind; first | rfl | (simp only [if_neg (show ¬ ((b2i (0 ≤ a1 ∧ a1 ≤ M.1 600 2 - 1)) = 0) from c5), if_neg (show ¬ ((b2i ((-1) ≤ a2 ∧ a2 ≤ (a1 - 1))) = 0) from c16), if_neg (show ¬ (¬ (b2i (0 ≤ a3 ∧ a3 ≤ 99)) = 0) from c26)]; done) | (simp only [if_neg (show ¬ ((b2i (0 ≤ a1 ∧ a1 ≤ M.1 600 2 - 1)) = 0) from c5), if_neg (show ¬ ((b2i ((-1) ≤ a2 ∧ a2 ≤ (a1 - 1))) = 0) from c16), if_neg (show ¬ (¬ (b2i (0 ≤ a3 ∧ a3 ≤ 99)) = 0) from c26)]; rfl)
        · unfold w_X8_behind; first | rfl | (simp only [if_neg (show ¬ ((b2i (0 ≤ a1 ∧ a1 ≤ M.1 600 2 - 1)) = 0) from c5), if_neg (show ¬ ((b2i ((-1) ≤ a2 ∧ a2 ≤ (a1 - 1))) = 0) from c16), if_neg (show ¬ (¬ (b2i (0 ≤ a3 ∧ a3 ≤ 99)) = 0) from c26)]; done) | (simp only [if_neg (show ¬ ((b2i (0 ≤ a1 ∧ a1 ≤ M.1 600 2 - 1)) = 0) from c5), if_neg (show ¬ ((b2i ((-1) ≤ a2 ∧ a2 ≤ (a1 - 1))) = 0) from c16), if_neg (show ¬ (¬ (b2i (0 ≤ a3 ∧ a3 ≤ 99)) = 0) from c26)]; rfl)
def r_X8_workOf (M : Mm) (a1 : Int32) (a2 : Int32) : Int32 := if (b2i (0 ≤ a1 ∧ a1 ≤ M.1 600 2 - 1)) = 0 then (-1) else if ¬ (b2i (0 ≤ a2 ∧ a2 ≤ 9)) = 0 then (if ¬ a2 = 6 then (if ¬ a2 = 9 then (if ¬ a2 = 8 then M.1 603 (Int32.toNatClampNeg (8 * a1 + a2)) else M.1 607 (Int32.toNatClampNeg (9 + a1))) else if ¬ (M.1 607 (Int32.toNatClampNeg (9 + a1))) = 1 then (-9) else M.1 607 (Int32.toNatClampNeg (15 + a1))) else if 0 ≤ (M.1 603 (Int32.toNatClampNeg (8 * a1 + 6))) then M.1 603 (Int32.toNatClampNeg (8 * a1 + 6)) else (-9)) else (-1)
def p_X8_workOf (M : Mm) (a1 : Int32) (a2 : Int32) : Prop := (if (b2i (0 ≤ a1 ∧ a1 ≤ M.1 600 2 - 1)) = 0 then True else (if ¬ (b2i (0 ≤ a2 ∧ a2 ≤ 9)) = 0 then (if ¬ a2 = 6 then (if ¬ a2 = 9 then (if ¬ a2 = 8 then (vp_in (8 * a1 + a2) 48) ∧ True else (vp_in (9 + a1) 44) ∧ True) else (vp_in (9 + a1) 44) ∧ (if ¬ (M.1 607 (Int32.toNatClampNeg (9 + a1))) = 1 then True else (vp_in (15 + a1) 44) ∧ True)) else (vp_in (8 * a1 + 6) 48) ∧ (if 0 ≤ (M.1 603 (Int32.toNatClampNeg (8 * a1 + 6))) then (vp_in (8 * a1 + 6) 48) ∧ True else True)) else True))
theorem rnX8_workOf {d : Nat} {M : Mm} {a1 : Int32} {a2 : Int32}  (hp : p_X8_workOf M a1 a2) : Rn (d + 2) mX8_workOf [.ref 600, .int a1, .int a2] M (some (.int (r_X8_workOf M a1 a2))) M := by
  refine Rn.of [some (.ref 600), some (.int a1), some (.int a2)] (by decide +kernel) rfl (Nat.le_of_ble_eq_true rfl) rfl (fun J g hr => ?_)
  unfold p_X8_workOf at hp
  refine j_aload_n g (i := 0) (by decide +kernel) rfl ?_
  refine j_iload_n g (i := 1) (by decide +kernel) rfl ?_
  refine j_cV1r g v8_243 ⟨rfl, by decide⟩ (by decide +kernel) (by decide +kernel) (Nat.le_of_ble_eq_true rfl) (rnX8_isWork) ?_
  refine j_if_eq g (off := 13) (tgt := 18) (by decide +kernel) (by decide) (fun c5 => ?_) (fun c5 => ?_)
  · rw [if_pos (show (b2i (0 ≤ a1 ∧ a1 ≤ M.1 600 2 - 1)) = 0 from c5)] at hp
    refine j_iconst g (n := -1) (-1) (by decide +kernel) rfl ?_
    refine hr.1 _ _ _ _ (by decide +kernel) ⟨_, rfl, by first | rfl | exact b2i_nar | rfl⟩ ?_ ?_
    · unfold r_X8_workOf; first | rfl | (simp only [if_pos (show (b2i (0 ≤ a1 ∧ a1 ≤ M.1 600 2 - 1)) = 0 from c5)]; done) | (simp only [if_pos (show (b2i (0 ≤ a1 ∧ a1 ≤ M.1 600 2 - 1)) = 0 from c5)]; rfl)
    · rfl
  · rw [if_neg (show ¬ ((b2i (0 ≤ a1 ∧ a1 ≤ M.1 600 2 - 1)) = 0) from c5)] at hp
    refine j_iload_n g (i := 2) (by decide +kernel) rfl ?_
    refine j_iconst g (n := 0) (0) (by decide +kernel) rfl ?_
    refine j_bipush g (n := 9) (9) (by decide +kernel) (by decide +kernel) ?_
    refine j_cS3r g s8_95 (by decide +kernel) (Nat.le_of_ble_eq_true rfl) (rnX8_in) ?_
    refine j_if_ne g (off := 5) (tgt := 20) (by decide +kernel) (by decide) (fun c15 => ?_) (fun c15 => ?_)
    · rw [if_pos (show ¬ (b2i (0 ≤ a2 ∧ a2 ≤ 9)) = 0 from c15)] at hp
      refine j_iload_n g (i := 2) (by decide +kernel) rfl ?_
      refine j_bipush g (n := 6) (6) (by decide +kernel) (by decide +kernel) ?_
      refine j_icmp_ne g (off := 26) (tgt := 49) (by decide +kernel) (by decide) (fun c23 => ?_) (fun c23 => ?_)
      · rw [if_pos (show ¬ a2 = 6 from c23)] at hp
        refine j_iload_n g (i := 2) (by decide +kernel) rfl ?_
        refine j_bipush g (n := 9) (9) (by decide +kernel) (by decide +kernel) ?_
        refine j_icmp_ne g (off := 31) (tgt := 83) (by decide +kernel) (by decide) (fun c52 => ?_) (fun c52 => ?_)
        · rw [if_pos (show ¬ a2 = 9 from c52)] at hp
          refine j_iload_n g (i := 2) (by decide +kernel) rfl ?_
          refine j_bipush g (n := 8) (8) (by decide +kernel) (by decide +kernel) ?_
          refine j_icmp_ne g (off := 15) (tgt := 101) (by decide +kernel) (by decide) (fun c86 => ?_) (fun c86 => ?_)
          · rw [if_pos (show ¬ a2 = 8 from c86)] at hp
            refine j_aload_n g (i := 0) (by decide +kernel) rfl ?_
            refine j_iload_n g (i := 1) (by decide +kernel) rfl ?_
            refine j_iload_n g (i := 2) (by decide +kernel) rfl ?_
            obtain ⟨h0, hp⟩ := hp
            refine j_cV2r g v8_249 ⟨rfl, by decide⟩ (by decide +kernel) (by decide +kernel) (Nat.le_of_ble_eq_true rfl) (rnX8_its h0) ?_
            refine hr.1 _ _ _ _ (by decide +kernel) ⟨_, rfl, by first | rfl | exact b2i_nar | rfl⟩ ?_ ?_
            · unfold r_X8_workOf; first | rfl | (simp only [if_neg (show ¬ ((b2i (0 ≤ a1 ∧ a1 ≤ M.1 600 2 - 1)) = 0) from c5), if_pos (show ¬ (b2i (0 ≤ a2 ∧ a2 ≤ 9)) = 0 from c15), if_pos (show ¬ a2 = 6 from c23), if_pos (show ¬ a2 = 9 from c52), if_pos (show ¬ a2 = 8 from c86)]; done) | (simp only [if_neg (show ¬ ((b2i (0 ≤ a1 ∧ a1 ≤ M.1 600 2 - 1)) = 0) from c5), if_pos (show ¬ (b2i (0 ≤ a2 ∧ a2 ≤ 9)) = 0 from c15), if_pos (show ¬ a2 = 6 from c23), if_pos (show ¬ a2 = 9 from c52), if_pos (show ¬ a2 = 8 from c86)]; rfl)
            · rfl
          · rw [if_neg (show ¬ (¬ a2 = 8) from c86)] at hp
            refine j_aload_n g (i := 0) (by decide +kernel) rfl ?_
            refine j_gA g (b := 607) f8_28 (by decide +kernel) (by decide +kernel) (by decide +kernel) (by decide +kernel) ?_
            refine j_bipush g (n := 9) (9) (by decide +kernel) (by decide +kernel) ?_
            refine j_iload_n g (i := 1) (by decide +kernel) rfl ?_
            refine j_iadd g (by decide +kernel) ?_
            obtain ⟨h0, hp⟩ := hp
            refine j_ia g 44 (by decide +kernel) (by decide +kernel) (by decide +kernel) h0 ?_
            refine j_goto g (off := 9) (tgt := 107) (by decide +kernel) (by decide) ?_
            refine hr.1 _ _ _ _ (by decide +kernel) ⟨_, rfl, by first | rfl | exact b2i_nar | rfl⟩ ?_ ?_
            · unfold r_X8_workOf; first | rfl | (simp only [if_neg (show ¬ ((b2i (0 ≤ a1 ∧ a1 ≤ M.1 600 2 - 1)) = 0) from c5), if_pos (show ¬ (b2i (0 ≤ a2 ∧ a2 ≤ 9)) = 0 from c15), if_pos (show ¬ a2 = 6 from c23), if_pos (show ¬ a2 = 9 from c52), if_neg (show ¬ (¬ a2 = 8) from c86)]; done) | (simp only [if_neg (show ¬ ((b2i (0 ≤ a1 ∧ a1 ≤ M.1 600 2 - 1)) = 0) from c5), if_pos (show ¬ (b2i (0 ≤ a2 ∧ a2 ≤ 9)) = 0 from c15), if_pos (show ¬ a2 = 6 from c23), if_pos (show ¬ a2 = 9 from c52), if_neg (show ¬ (¬ a2 = 8) from c86)]; rfl)
            · rfl
        · rw [if_neg (show ¬ (¬ a2 = 9) from c52)] at hp
          refine j_aload_n g (i := 0) (by decide +kernel) rfl ?_
          refine j_gA g (b := 607) f8_28 (by decide +kernel) (by decide +kernel) (by decide +kernel) (by decide +kernel) ?_
          refine j_bipush g (n := 9) (9) (by decide +kernel) (by decide +kernel) ?_
          refine j_iload_n g (i := 1) (by decide +kernel) rfl ?_
          refine j_iadd g (by decide +kernel) ?_
          obtain ⟨h0, hp⟩ := hp
          refine j_ia g 44 (by decide +kernel) (by decide +kernel) (by decide +kernel) h0 ?_
          refine j_iconst g (n := 1) (1) (by decide +kernel) rfl ?_
          refine j_icmp_ne g (off := 15) (tgt := 80) (by decide +kernel) (by decide) (fun c65 => ?_) (fun c65 => ?_)
          · rw [if_pos (show ¬ (M.1 607 (Int32.toNatClampNeg (9 + a1))) = 1 from c65)] at hp
            refine j_bipush g (n := -9) (-9) (by decide +kernel) (by decide +kernel) ?_
            refine hr.1 _ _ _ _ (by decide +kernel) ⟨_, rfl, by first | rfl | exact b2i_nar | rfl⟩ ?_ ?_
            · unfold r_X8_workOf; first | rfl | (simp only [if_neg (show ¬ ((b2i (0 ≤ a1 ∧ a1 ≤ M.1 600 2 - 1)) = 0) from c5), if_pos (show ¬ (b2i (0 ≤ a2 ∧ a2 ≤ 9)) = 0 from c15), if_pos (show ¬ a2 = 6 from c23), if_neg (show ¬ (¬ a2 = 9) from c52), if_pos (show ¬ (M.1 607 (Int32.toNatClampNeg (9 + a1))) = 1 from c65)]; done) | (simp only [if_neg (show ¬ ((b2i (0 ≤ a1 ∧ a1 ≤ M.1 600 2 - 1)) = 0) from c5), if_pos (show ¬ (b2i (0 ≤ a2 ∧ a2 ≤ 9)) = 0 from c15), if_pos (show ¬ a2 = 6 from c23), if_neg (show ¬ (¬ a2 = 9) from c52), if_pos (show ¬ (M.1 607 (Int32.toNatClampNeg (9 + a1))) = 1 from c65)]; rfl)
            · rfl
          · rw [if_neg (show ¬ (¬ (M.1 607 (Int32.toNatClampNeg (9 + a1))) = 1) from c65)] at hp
            refine j_aload_n g (i := 0) (by decide +kernel) rfl ?_
            refine j_gA g (b := 607) f8_28 (by decide +kernel) (by decide +kernel) (by decide +kernel) (by decide +kernel) ?_
            refine j_bipush g (n := 15) (15) (by decide +kernel) (by decide +kernel) ?_
            refine j_iload_n g (i := 1) (by decide +kernel) rfl ?_
            refine j_iadd g (by decide +kernel) ?_
            obtain ⟨h0, hp⟩ := hp
            refine j_ia g 44 (by decide +kernel) (by decide +kernel) (by decide +kernel) h0 ?_
            refine j_goto g (off := 5) (tgt := 82) (by decide +kernel) (by decide) ?_
            refine hr.1 _ _ _ _ (by decide +kernel) ⟨_, rfl, by first | rfl | exact b2i_nar | rfl⟩ ?_ ?_
            · unfold r_X8_workOf; first | rfl | (simp only [if_neg (show ¬ ((b2i (0 ≤ a1 ∧ a1 ≤ M.1 600 2 - 1)) = 0) from c5), if_pos (show ¬ (b2i (0 ≤ a2 ∧ a2 ≤ 9)) = 0 from c15), if_pos (show ¬ a2 = 6 from c23), if_neg (show ¬ (¬ a2 = 9) from c52), if_neg (show ¬ (¬ (M.1 607 (Int32.toNatClampNeg (9 + a1))) = 1) from c65)]; done) | (simp only [if_neg (show ¬ ((b2i (0 ≤ a1 ∧ a1 ≤ M.1 600 2 - 1)) = 0) from c5), if_pos (show ¬ (b2i (0 ≤ a2 ∧ a2 ≤ 9)) = 0 from c15), if_pos (show ¬ a2 = 6 from c23), if_neg (show ¬ (¬ a2 = 9) from c52), if_neg (show ¬ (¬ (M.1 607 (Int32.toNatClampNeg (9 + a1))) = 1) from c65)]; rfl)
            · rfl
      · rw [if_neg (show ¬ (¬ a2 = 6) from c23)] at hp
        refine j_aload_n g (i := 0) (by decide +kernel) rfl ?_
        refine j_iload_n g (i := 1) (by decide +kernel) rfl ?_
        refine j_bipush g (n := 6) (6) (by decide +kernel) (by decide +kernel) ?_
        obtain ⟨h0, hp⟩ := hp
        refine j_cV2r g v8_249 ⟨rfl, by decide⟩ (by decide +kernel) (by decide +kernel) (Nat.le_of_ble_eq_true rfl) (rnX8_its h0) ?_
        refine j_if_ge g (off := 8) (tgt := 41) (by decide +kernel) (by decide) (fun c33 => ?_) (fun c33 => ?_)
        · rw [if_pos (show 0 ≤ (M.1 603 (Int32.toNatClampNeg (8 * a1 + 6))) from c33)] at hp
          refine j_aload_n g (i := 0) (by decide +kernel) rfl ?_
          refine j_iload_n g (i := 1) (by decide +kernel) rfl ?_
          refine j_bipush g (n := 6) (6) (by decide +kernel) (by decide +kernel) ?_
          obtain ⟨h0, hp⟩ := hp
          refine j_cV2r g v8_249 ⟨rfl, by decide⟩ (by decide +kernel) (by decide +kernel) (Nat.le_of_ble_eq_true rfl) (rnX8_its h0) ?_
          refine hr.1 _ _ _ _ (by decide +kernel) ⟨_, rfl, by first | rfl | exact b2i_nar | rfl⟩ ?_ ?_
          · unfold r_X8_workOf; first | rfl | (simp only [if_neg (show ¬ ((b2i (0 ≤ a1 ∧ a1 ≤ M.1 600 2 - 1)) = 0) from c5), if_pos (show ¬ (b2i (0 ≤ a2 ∧ a2 ≤ 9)) = 0 from c15), if_neg (show ¬ (¬ a2 = 6) from c23), if_pos (show 0 ≤ (M.1 603 (Int32.toNatClampNeg (8 * a1 + 6))) from c33)]; done) | (simp only [if_neg (show ¬ ((b2i (0 ≤ a1 ∧ a1 ≤ M.1 600 2 - 1)) = 0) from c5), if_pos (show ¬ (b2i (0 ≤ a2 ∧ a2 ≤ 9)) = 0 from c15), if_neg (show ¬ (¬ a2 = 6) from c23), if_pos (show 0 ≤ (M.1 603 (Int32.toNatClampNeg (8 * a1 + 6))) from c33)]; rfl)
          · rfl
        · rw [if_neg (show ¬ (0 ≤ (M.1 603 (Int32.toNatClampNeg (8 * a1 + 6)))) from c33)] at hp
          refine j_bipush g (n := -9) (-9) (by decide +kernel) (by decide +kernel) ?_
          refine j_goto g (off := 10) (tgt := 48) (by decide +kernel) (by decide) ?_
          refine hr.1 _ _ _ _ (by decide +kernel) ⟨_, rfl, by first | rfl | exact b2i_nar | rfl⟩ ?_ ?_
          · unfold r_X8_workOf; first | rfl | (simp only [if_neg (show ¬ ((b2i (0 ≤ a1 ∧ a1 ≤ M.1 600 2 - 1)) = 0) from c5), if_pos (show ¬ (b2i (0 ≤ a2 ∧ a2 ≤ 9)) = 0 from c15), if_neg (show ¬ (¬ a2 = 6) from c23), if_neg (show ¬ (0 ≤ (M.1 603 (Int32.toNatClampNeg (8 * a1 + 6)))) from c33)]; done) | (simp only [if_neg (show ¬ ((b2i (0 ≤ a1 ∧ a1 ≤ M.1 600 2 - 1)) = 0) from c5), if_pos (show ¬ (b2i (0 ≤ a2 ∧ a2 ≤ 9)) = 0 from c15), if_neg (show ¬ (¬ a2 = 6) from c23), if_neg (show ¬ (0 ≤ (M.1 603 (Int32.toNatClampNeg (8 * a1 + 6)))) from c33)]; rfl)
          · rfl
    · rw [if_neg (show ¬ (¬ (b2i (0 ≤ a2 ∧ a2 ≤ 9)) = 0) from c15)] at hp
      refine j_iconst g (n := -1) (-1) (by decide +kernel) rfl ?_
      refine hr.1 _ _ _ _ (by decide +kernel) ⟨_, rfl, by first | rfl | exact b2i_nar | rfl⟩ ?_ ?_
      · unfold r_X8_workOf; first | rfl | (simp only [if_neg (show ¬ ((b2i (0 ≤ a1 ∧ a1 ≤ M.1 600 2 - 1)) = 0) from c5), if_neg (show ¬ (¬ (b2i (0 ≤ a2 ∧ a2 ≤ 9)) = 0) from c15)]; done) | (simp only [if_neg (show ¬ ((b2i (0 ≤ a1 ∧ a1 ≤ M.1 600 2 - 1)) = 0) from c5), if_neg (show ¬ (¬ (b2i (0 ≤ a2 ∧ a2 ≤ 9)) = 0) from c15)]; rfl)
      · rfl
def r_X8_at (M : Mm) (a1 : Int32) (a2 : Int32) : Int32 := if (b2i ((a1 = 0 ∧ 0 ≤ a2 ∧ a2 ≤ M.1 600 0 - 1) ∨ (a1 = 1 ∧ 0 ≤ a2 ∧ a2 ≤ M.1 600 1 - 1))) = 0 then (-1) else if ¬ a1 = 0 then M.1 607 (Int32.toNatClampNeg (3 + a2)) else M.1 607 (Int32.toNatClampNeg (0 + a2))
def p_X8_at (M : Mm) (a1 : Int32) (a2 : Int32) : Prop := (if (b2i ((a1 = 0 ∧ 0 ≤ a2 ∧ a2 ≤ M.1 600 0 - 1) ∨ (a1 = 1 ∧ 0 ≤ a2 ∧ a2 ≤ M.1 600 1 - 1))) = 0 then True else (if ¬ a1 = 0 then (vp_in (3 + a2) 44) ∧ True else (vp_in (0 + a2) 44) ∧ True))
theorem rnX8_at {d : Nat} {M : Mm} {a1 : Int32} {a2 : Int32}  (hp : p_X8_at M a1 a2) : Rn (d + 2) mX8_at [.ref 600, .int a1, .int a2] M (some (.int (r_X8_at M a1 a2))) M := by
  refine Rn.of [some (.ref 600), some (.int a1), some (.int a2)] (by decide +kernel) rfl (Nat.le_of_ble_eq_true rfl) rfl (fun J g hr => ?_)
  unfold p_X8_at at hp
  refine j_aload_n g (i := 0) (by decide +kernel) rfl ?_
  refine j_iload_n g (i := 1) (by decide +kernel) rfl ?_
  refine j_iload_n g (i := 2) (by decide +kernel) rfl ?_
  refine j_cV2r g v8_252 ⟨rfl, by decide⟩ (by decide +kernel) (by decide +kernel) (Nat.le_of_ble_eq_true rfl) (rnX8_isMoved) ?_
  refine j_if_eq g (off := 22) (tgt := 28) (by decide +kernel) (by decide) (fun c6 => ?_) (fun c6 => ?_)
  · rw [if_pos (show (b2i ((a1 = 0 ∧ 0 ≤ a2 ∧ a2 ≤ M.1 600 0 - 1) ∨ (a1 = 1 ∧ 0 ≤ a2 ∧ a2 ≤ M.1 600 1 - 1))) = 0 from c6)] at hp
    refine j_iconst g (n := -1) (-1) (by decide +kernel) rfl ?_
    refine hr.1 _ _ _ _ (by decide +kernel) ⟨_, rfl, by first | rfl | exact b2i_nar | rfl⟩ ?_ ?_
    · unfold r_X8_at; first | rfl | (simp only [if_pos (show (b2i ((a1 = 0 ∧ 0 ≤ a2 ∧ a2 ≤ M.1 600 0 - 1) ∨ (a1 = 1 ∧ 0 ≤ a2 ∧ a2 ≤ M.1 600 1 - 1))) = 0 from c6)]; done) | (simp only [if_pos (show (b2i ((a1 = 0 ∧ 0 ≤ a2 ∧ a2 ≤ M.1 600 0 - 1) ∨ (a1 = 1 ∧ 0 ≤ a2 ∧ a2 ≤ M.1 600 1 - 1))) = 0 from c6)]; rfl)
    · rfl
  · rw [if_neg (show ¬ ((b2i ((a1 = 0 ∧ 0 ≤ a2 ∧ a2 ≤ M.1 600 0 - 1) ∨ (a1 = 1 ∧ 0 ≤ a2 ∧ a2 ≤ M.1 600 1 - 1))) = 0) from c6)] at hp
    refine j_aload_n g (i := 0) (by decide +kernel) rfl ?_
    refine j_gA g (b := 607) f8_28 (by decide +kernel) (by decide +kernel) (by decide +kernel) (by decide +kernel) ?_
    refine j_iload_n g (i := 1) (by decide +kernel) rfl ?_
    refine j_if_ne g (off := 7) (tgt := 21) (by decide +kernel) (by decide) (fun c14 => ?_) (fun c14 => ?_)
    · rw [if_pos (show ¬ a1 = 0 from c14)] at hp
      refine j_iconst g (n := 3) (3) (by decide +kernel) rfl ?_
      refine j_iload_n g (i := 2) (by decide +kernel) rfl ?_
      refine j_iadd g (by decide +kernel) ?_
      obtain ⟨h0, hp⟩ := hp
      refine j_ia g 44 (by decide +kernel) (by decide +kernel) (by decide +kernel) h0 ?_
      refine j_goto g (off := 4) (tgt := 29) (by decide +kernel) (by decide) ?_
      refine hr.1 _ _ _ _ (by decide +kernel) ⟨_, rfl, by first | rfl | exact b2i_nar | rfl⟩ ?_ ?_
      · unfold r_X8_at; first | rfl | (simp only [if_neg (show ¬ ((b2i ((a1 = 0 ∧ 0 ≤ a2 ∧ a2 ≤ M.1 600 0 - 1) ∨ (a1 = 1 ∧ 0 ≤ a2 ∧ a2 ≤ M.1 600 1 - 1))) = 0) from c6), if_pos (show ¬ a1 = 0 from c14)]; done) | (simp only [if_neg (show ¬ ((b2i ((a1 = 0 ∧ 0 ≤ a2 ∧ a2 ≤ M.1 600 0 - 1) ∨ (a1 = 1 ∧ 0 ≤ a2 ∧ a2 ≤ M.1 600 1 - 1))) = 0) from c6), if_pos (show ¬ a1 = 0 from c14)]; rfl)
      · rfl
    · rw [if_neg (show ¬ (¬ a1 = 0) from c14)] at hp
      refine j_iconst g (n := 0) (0) (by decide +kernel) rfl ?_
      refine j_goto g (off := 4) (tgt := 22) (by decide +kernel) (by decide) ?_
      refine j_iload_n g (i := 2) (by decide +kernel) rfl ?_
      refine j_iadd g (by decide +kernel) ?_
      obtain ⟨h0, hp⟩ := hp
      refine j_ia g 44 (by decide +kernel) (by decide +kernel) (by decide +kernel) h0 ?_
      refine j_goto g (off := 4) (tgt := 29) (by decide +kernel) (by decide) ?_
      refine hr.1 _ _ _ _ (by decide +kernel) ⟨_, rfl, by first | rfl | exact b2i_nar | rfl⟩ ?_ ?_
      · unfold r_X8_at; first | rfl | (simp only [if_neg (show ¬ ((b2i ((a1 = 0 ∧ 0 ≤ a2 ∧ a2 ≤ M.1 600 0 - 1) ∨ (a1 = 1 ∧ 0 ≤ a2 ∧ a2 ≤ M.1 600 1 - 1))) = 0) from c6), if_neg (show ¬ (¬ a1 = 0) from c14)]; done) | (simp only [if_neg (show ¬ ((b2i ((a1 = 0 ∧ 0 ≤ a2 ∧ a2 ≤ M.1 600 0 - 1) ∨ (a1 = 1 ∧ 0 ≤ a2 ∧ a2 ≤ M.1 600 1 - 1))) = 0) from c6), if_neg (show ¬ (¬ a1 = 0) from c14)]; rfl)
      · rfl
def r_X8_put (M : Mm) (a1 : Int32) (a2 : Int32) (a3 : Int32) : Int32 := if (b2i ((a1 = 0 ∧ 0 ≤ a2 ∧ a2 ≤ M.1 600 0 - 1) ∨ (a1 = 1 ∧ 0 ≤ a2 ∧ a2 ≤ M.1 600 1 - 1))) = 0 then (-1) else if ¬ (b2i (0 ≤ a3 ∧ a3 ≤ 9)) = 0 then (if ¬ a1 = 0 then M.1 607 (Int32.toNatClampNeg (3 + a2)) else M.1 607 (Int32.toNatClampNeg (0 + a2))) else (-1)
def w_X8_put (M : Mm) (a1 : Int32) (a2 : Int32) (a3 : Int32) : Mm := if (b2i ((a1 = 0 ∧ 0 ≤ a2 ∧ a2 ≤ M.1 600 0 - 1) ∨ (a1 = 1 ∧ 0 ≤ a2 ∧ a2 ≤ M.1 600 1 - 1))) = 0 then M else if ¬ (b2i (0 ≤ a3 ∧ a3 ≤ 9)) = 0 then (if ¬ a1 = 0 then (wi M 607 (Int32.toNatClampNeg (3 + a2)) a3) else (wi M 607 (Int32.toNatClampNeg (0 + a2)) a3)) else M
def p_X8_put (M : Mm) (a1 : Int32) (a2 : Int32) (a3 : Int32) : Prop := (if (b2i ((a1 = 0 ∧ 0 ≤ a2 ∧ a2 ≤ M.1 600 0 - 1) ∨ (a1 = 1 ∧ 0 ≤ a2 ∧ a2 ≤ M.1 600 1 - 1))) = 0 then True else (if ¬ (b2i (0 ≤ a3 ∧ a3 ≤ 9)) = 0 then (if ¬ a1 = 0 then (vp_in (3 + a2) 44) ∧ (vp_in (3 + a2) 44) ∧ True else (vp_in (0 + a2) 44) ∧ (vp_in (0 + a2) 44) ∧ True) else True))
theorem rnX8_put {d : Nat} {M : Mm} {a1 : Int32} {a2 : Int32} {a3 : Int32}  (hp : p_X8_put M a1 a2 a3) : Rn (d + 2) mX8_put [.ref 600, .int a1, .int a2, .int a3] M (some (.int (r_X8_put M a1 a2 a3))) (w_X8_put M a1 a2 a3) := by
  refine Rn.of [some (.ref 600), some (.int a1), some (.int a2), some (.int a3), none, none] (by decide +kernel) rfl (Nat.le_of_ble_eq_true rfl) rfl (fun J g hr => ?_)
  unfold p_X8_put at hp
  refine j_aload_n g (i := 0) (by decide +kernel) rfl ?_
  refine j_iload_n g (i := 1) (by decide +kernel) rfl ?_
  refine j_iload_n g (i := 2) (by decide +kernel) rfl ?_
  refine j_cV2r g v8_252 ⟨rfl, by decide⟩ (by decide +kernel) (by decide +kernel) (Nat.le_of_ble_eq_true rfl) (rnX8_isMoved) ?_
  refine j_if_eq g (off := 10) (tgt := 16) (by decide +kernel) (by decide) (fun c6 => ?_) (fun c6 => ?_)
  · rw [if_pos (show (b2i ((a1 = 0 ∧ 0 ≤ a2 ∧ a2 ≤ M.1 600 0 - 1) ∨ (a1 = 1 ∧ 0 ≤ a2 ∧ a2 ≤ M.1 600 1 - 1))) = 0 from c6)] at hp
    refine j_iconst g (n := -1) (-1) (by decide +kernel) rfl ?_
    refine hr.1 _ _ _ _ (by decide +kernel) ⟨_, rfl, by first | rfl | exact b2i_nar | rfl⟩ ?_ ?_
    · unfold r_X8_put; first | rfl | (simp only [if_pos (show (b2i ((a1 = 0 ∧ 0 ≤ a2 ∧ a2 ≤ M.1 600 0 - 1) ∨ (a1 = 1 ∧ 0 ≤ a2 ∧ a2 ≤ M.1 600 1 - 1))) = 0 from c6)]; done) | (simp only [if_pos (show (b2i ((a1 = 0 ∧ 0 ≤ a2 ∧ a2 ≤ M.1 600 0 - 1) ∨ (a1 = 1 ∧ 0 ≤ a2 ∧ a2 ≤ M.1 600 1 - 1))) = 0 from c6)]; rfl)
    · unfold w_X8_put; first | rfl | (simp only [if_pos (show (b2i ((a1 = 0 ∧ 0 ≤ a2 ∧ a2 ≤ M.1 600 0 - 1) ∨ (a1 = 1 ∧ 0 ≤ a2 ∧ a2 ≤ M.1 600 1 - 1))) = 0 from c6)]; done) | (simp only [if_pos (show (b2i ((a1 = 0 ∧ 0 ≤ a2 ∧ a2 ≤ M.1 600 0 - 1) ∨ (a1 = 1 ∧ 0 ≤ a2 ∧ a2 ≤ M.1 600 1 - 1))) = 0 from c6)]; rfl)
  · rw [if_neg (show ¬ ((b2i ((a1 = 0 ∧ 0 ≤ a2 ∧ a2 ≤ M.1 600 0 - 1) ∨ (a1 = 1 ∧ 0 ≤ a2 ∧ a2 ≤ M.1 600 1 - 1))) = 0) from c6)] at hp
    refine j_iload_n g (i := 3) (by decide +kernel) rfl ?_
    refine j_cS1r g s8_237 (by decide +kernel) (Nat.le_of_ble_eq_true rfl) (rnX8_isPlace) ?_
    refine j_if_ne g (off := 5) (tgt := 18) (by decide +kernel) (by decide) (fun c13 => ?_) (fun c13 => ?_)
    · rw [if_pos (show ¬ (b2i (0 ≤ a3 ∧ a3 ≤ 9)) = 0 from c13)] at hp
      refine j_iload_n g (i := 1) (by decide +kernel) rfl ?_
      refine j_if_ne g (off := 7) (tgt := 26) (by decide +kernel) (by decide) (fun c19 => ?_) (fun c19 => ?_)
      · rw [if_pos (show ¬ a1 = 0 from c19)] at hp
        refine j_iconst g (n := 3) (3) (by decide +kernel) rfl ?_
        refine j_iload_n g (i := 2) (by decide +kernel) rfl ?_
        refine j_iadd g (by decide +kernel) ?_
        refine j_istore g (i := 4) (by decide +kernel) (by decide) ?_
        dsimp only [stL, clL, hdL]
        refine j_aload_n g (i := 0) (by decide +kernel) rfl ?_
        refine j_gA g (b := 607) f8_28 (by decide +kernel) (by decide +kernel) (by decide +kernel) (by decide +kernel) ?_
        refine j_iload g (i := 4) (by decide +kernel) rfl ?_
        obtain ⟨h0, hp⟩ := hp
        refine j_ia g 44 (by decide +kernel) (by decide +kernel) (by decide +kernel) h0 ?_
        refine j_istore g (i := 5) (by decide +kernel) (by decide) ?_
        dsimp only [stL, clL, hdL]
        refine j_aload_n g (i := 0) (by decide +kernel) rfl ?_
        refine j_gA g (b := 607) f8_28 (by decide +kernel) (by decide +kernel) (by decide +kernel) (by decide +kernel) ?_
        refine j_iload g (i := 4) (by decide +kernel) rfl ?_
        refine j_iload_n g (i := 3) (by decide +kernel) rfl ?_
        obtain ⟨h0, hp⟩ := hp
        refine j_is g 44 (by decide +kernel) (by decide +kernel) (by decide +kernel) h0 ?_
        refine j_iload g (i := 5) (by decide +kernel) rfl ?_
        refine hr.1 _ _ _ _ (by decide +kernel) ⟨_, rfl, by first | rfl | exact b2i_nar | rfl⟩ ?_ ?_
        · unfold r_X8_put; first | rfl | (simp only [if_neg (show ¬ ((b2i ((a1 = 0 ∧ 0 ≤ a2 ∧ a2 ≤ M.1 600 0 - 1) ∨ (a1 = 1 ∧ 0 ≤ a2 ∧ a2 ≤ M.1 600 1 - 1))) = 0) from c6), if_pos (show ¬ (b2i (0 ≤ a3 ∧ a3 ≤ 9)) = 0 from c13), if_pos (show ¬ a1 = 0 from c19)]; done) | (simp only [if_neg (show ¬ ((b2i ((a1 = 0 ∧ 0 ≤ a2 ∧ a2 ≤ M.1 600 0 - 1) ∨ (a1 = 1 ∧ 0 ≤ a2 ∧ a2 ≤ M.1 600 1 - 1))) = 0) from c6), if_pos (show ¬ (b2i (0 ≤ a3 ∧ a3 ≤ 9)) = 0 from c13), if_pos (show ¬ a1 = 0 from c19)]; rfl)
        · unfold w_X8_put; first | rfl | (simp only [if_neg (show ¬ ((b2i ((a1 = 0 ∧ 0 ≤ a2 ∧ a2 ≤ M.1 600 0 - 1) ∨ (a1 = 1 ∧ 0 ≤ a2 ∧ a2 ≤ M.1 600 1 - 1))) = 0) from c6), if_pos (show ¬ (b2i (0 ≤ a3 ∧ a3 ≤ 9)) = 0 from c13), if_pos (show ¬ a1 = 0 from c19)]; done) | (simp only [if_neg (show ¬ ((b2i ((a1 = 0 ∧ 0 ≤ a2 ∧ a2 ≤ M.1 600 0 - 1) ∨ (a1 = 1 ∧ 0 ≤ a2 ∧ a2 ≤ M.1 600 1 - 1))) = 0) from c6), if_pos (show ¬ (b2i (0 ≤ a3 ∧ a3 ≤ 9)) = 0 from c13), if_pos (show ¬ a1 = 0 from c19)]; rfl)
      · rw [if_neg (show ¬ (¬ a1 = 0) from c19)] at hp
        refine j_iconst g (n := 0) (0) (by decide +kernel) rfl ?_
        refine j_goto g (off := 4) (tgt := 27) (by decide +kernel) (by decide) ?_
        refine j_iload_n g (i := 2) (by decide +kernel) rfl ?_
        refine j_iadd g (by decide +kernel) ?_
        refine j_istore g (i := 4) (by decide +kernel) (by decide) ?_
        dsimp only [stL, clL, hdL]
        refine j_aload_n g (i := 0) (by decide +kernel) rfl ?_
        refine j_gA g (b := 607) f8_28 (by decide +kernel) (by decide +kernel) (by decide +kernel) (by decide +kernel) ?_
        refine j_iload g (i := 4) (by decide +kernel) rfl ?_
        obtain ⟨h0, hp⟩ := hp
        refine j_ia g 44 (by decide +kernel) (by decide +kernel) (by decide +kernel) h0 ?_
        refine j_istore g (i := 5) (by decide +kernel) (by decide) ?_
        dsimp only [stL, clL, hdL]
        refine j_aload_n g (i := 0) (by decide +kernel) rfl ?_
        refine j_gA g (b := 607) f8_28 (by decide +kernel) (by decide +kernel) (by decide +kernel) (by decide +kernel) ?_
        refine j_iload g (i := 4) (by decide +kernel) rfl ?_
        refine j_iload_n g (i := 3) (by decide +kernel) rfl ?_
        obtain ⟨h0, hp⟩ := hp
        refine j_is g 44 (by decide +kernel) (by decide +kernel) (by decide +kernel) h0 ?_
        refine j_iload g (i := 5) (by decide +kernel) rfl ?_
        refine hr.1 _ _ _ _ (by decide +kernel) ⟨_, rfl, by first | rfl | exact b2i_nar | rfl⟩ ?_ ?_
        · unfold r_X8_put; first | rfl | (simp only [if_neg (show ¬ ((b2i ((a1 = 0 ∧ 0 ≤ a2 ∧ a2 ≤ M.1 600 0 - 1) ∨ (a1 = 1 ∧ 0 ≤ a2 ∧ a2 ≤ M.1 600 1 - 1))) = 0) from c6), if_pos (show ¬ (b2i (0 ≤ a3 ∧ a3 ≤ 9)) = 0 from c13), if_neg (show ¬ (¬ a1 = 0) from c19)]; done) | (simp only [if_neg (show ¬ ((b2i ((a1 = 0 ∧ 0 ≤ a2 ∧ a2 ≤ M.1 600 0 - 1) ∨ (a1 = 1 ∧ 0 ≤ a2 ∧ a2 ≤ M.1 600 1 - 1))) = 0) from c6), if_pos (show ¬ (b2i (0 ≤ a3 ∧ a3 ≤ 9)) = 0 from c13), if_neg (show ¬ (¬ a1 = 0) from c19)]; rfl)
        · unfold w_X8_put; first | rfl | (simp only [if_neg (show ¬ ((b2i ((a1 = 0 ∧ 0 ≤ a2 ∧ a2 ≤ M.1 600 0 - 1) ∨ (a1 = 1 ∧ 0 ≤ a2 ∧ a2 ≤ M.1 600 1 - 1))) = 0) from c6), if_pos (show ¬ (b2i (0 ≤ a3 ∧ a3 ≤ 9)) = 0 from c13), if_neg (show ¬ (¬ a1 = 0) from c19)]; done) | (simp only [if_neg (show ¬ ((b2i ((a1 = 0 ∧ 0 ≤ a2 ∧ a2 ≤ M.1 600 0 - 1) ∨ (a1 = 1 ∧ 0 ≤ a2 ∧ a2 ≤ M.1 600 1 - 1))) = 0) from c6), if_pos (show ¬ (b2i (0 ≤ a3 ∧ a3 ≤ 9)) = 0 from c13), if_neg (show ¬ (¬ a1 = 0) from c19)]; rfl)
    · rw [if_neg (show ¬ (¬ (b2i (0 ≤ a3 ∧ a3 ≤ 9)) = 0) from c13)] at hp
      refine j_iconst g (n := -1) (-1) (by decide +kernel) rfl ?_
      refine hr.1 _ _ _ _ (by decide +kernel) ⟨_, rfl, by first | rfl | exact b2i_nar | rfl⟩ ?_ ?_
      · unfold r_X8_put; first | rfl | (simp only [if_neg (show ¬ ((b2i ((a1 = 0 ∧ 0 ≤ a2 ∧ a2 ≤ M.1 600 0 - 1) ∨ (a1 = 1 ∧ 0 ≤ a2 ∧ a2 ≤ M.1 600 1 - 1))) = 0) from c6), if_neg (show ¬ (¬ (b2i (0 ≤ a3 ∧ a3 ≤ 9)) = 0) from c13)]; done) | (simp only [if_neg (show ¬ ((b2i ((a1 = 0 ∧ 0 ≤ a2 ∧ a2 ≤ M.1 600 0 - 1) ∨ (a1 = 1 ∧ 0 ≤ a2 ∧ a2 ≤ M.1 600 1 - 1))) = 0) from c6), if_neg (show ¬ (¬ (b2i (0 ≤ a3 ∧ a3 ≤ 9)) = 0) from c13)]; rfl)
      · unfold w_X8_put; first | rfl | (simp only [if_neg (show ¬ ((b2i ((a1 = 0 ∧ 0 ≤ a2 ∧ a2 ≤ M.1 600 0 - 1) ∨ (a1 = 1 ∧ 0 ≤ a2 ∧ a2 ≤ M.1 600 1 - 1))) = 0) from c6), if_neg (show ¬ (¬ (b2i (0 ≤ a3 ∧ a3 ≤ 9)) = 0) from c13)]; done) | (simp only [if_neg (show ¬ ((b2i ((a1 = 0 ∧ 0 ≤ a2 ∧ a2 ≤ M.1 600 0 - 1) ∨ (a1 = 1 ∧ 0 ≤ a2 ∧ a2 ≤ M.1 600 1 - 1))) = 0) from c6), if_neg (show ¬ (¬ (b2i (0 ≤ a3 ∧ a3 ≤ 9)) = 0) from c13)]; rfl)
def r_X8_set (M : Mm) (a1 : Int32) (a2 : Int32) : Int32 := if (b2i (0 ≤ a1 ∧ a1 ≤ 3)) = 0 then (if ¬ 0 = a1 then (-1) else if ¬ (b2i ((M.1 605 0) ≤ a2 ∧ a2 ≤ (M.1 606 0))) = 0 then M.1 604 (Int32.toNatClampNeg a1) else (-1)) else if ¬ (b2i ((M.1 605 (Int32.toNatClampNeg a1)) ≤ a2 ∧ a2 ≤ (M.1 606 (Int32.toNatClampNeg a1)))) = 0 then M.1 604 (Int32.toNatClampNeg a1) else (-1)
def w_X8_set (M : Mm) (a1 : Int32) (a2 : Int32) : Mm := if (b2i (0 ≤ a1 ∧ a1 ≤ 3)) = 0 then (if ¬ 0 = a1 then M else if ¬ (b2i ((M.1 605 0) ≤ a2 ∧ a2 ≤ (M.1 606 0))) = 0 then (wi M 604 (Int32.toNatClampNeg a1) a2) else M) else if ¬ (b2i ((M.1 605 (Int32.toNatClampNeg a1)) ≤ a2 ∧ a2 ≤ (M.1 606 (Int32.toNatClampNeg a1)))) = 0 then (wi M 604 (Int32.toNatClampNeg a1) a2) else M
def p_X8_set (M : Mm) (a1 : Int32) (a2 : Int32) : Prop := (if (b2i (0 ≤ a1 ∧ a1 ≤ 3)) = 0 then (if ¬ 0 = a1 then True else (if ¬ (b2i ((M.1 605 0) ≤ a2 ∧ a2 ≤ (M.1 606 0))) = 0 then (vp_in a1 4) ∧ (vp_in a1 4) ∧ True else True)) else (vp_in a1 4) ∧ (vp_in a1 4) ∧ (if ¬ (b2i ((M.1 605 (Int32.toNatClampNeg a1)) ≤ a2 ∧ a2 ≤ (M.1 606 (Int32.toNatClampNeg a1)))) = 0 then (vp_in a1 4) ∧ (vp_in a1 4) ∧ True else True))
theorem rnX8_set {d : Nat} {M : Mm} {a1 : Int32} {a2 : Int32}  (hp : p_X8_set M a1 a2) : Rn (d + 1) mX8_set [.ref 600, .int a1, .int a2] M (some (.int (r_X8_set M a1 a2))) (w_X8_set M a1 a2) := by
  refine Rn.of [some (.ref 600), some (.int a1), some (.int a2), none, none] (by decide +kernel) rfl (Nat.le_of_ble_eq_true rfl) rfl (fun J g hr => ?_)
  unfold p_X8_set at hp
  refine j_iload_n g (i := 1) (by decide +kernel) rfl ?_
  refine j_iconst g (n := 0) (0) (by decide +kernel) rfl ?_
  refine j_iconst g (n := 3) (3) (by decide +kernel) rfl ?_
  refine j_cS3r g s8_95 (by decide +kernel) (Nat.le_of_ble_eq_true rfl) (rnX8_in) ?_
  refine j_if_eq g (off := 7) (tgt := 13) (by decide +kernel) (by decide) (fun c6 => ?_) (fun c6 => ?_)
  · rw [if_pos (show (b2i (0 ≤ a1 ∧ a1 ≤ 3)) = 0 from c6)] at hp
    refine j_iconst g (n := 0) (0) (by decide +kernel) rfl ?_
    refine j_istore_n g (i := 3) (by decide +kernel) (by decide) ?_
    dsimp only [stL, clL, hdL]
    refine j_iload_n g (i := 3) (by decide +kernel) rfl ?_
    refine j_iload_n g (i := 1) (by decide +kernel) rfl ?_
    refine j_icmp_ne g (off := 22) (tgt := 39) (by decide +kernel) (by decide) (fun c17 => ?_) (fun c17 => ?_)
    · rw [if_pos (show ¬ 0 = a1 from c17)] at hp
      refine j_iconst g (n := -1) (-1) (by decide +kernel) rfl ?_
      refine hr.1 _ _ _ _ (by decide +kernel) ⟨_, rfl, by first | rfl | exact b2i_nar | rfl⟩ ?_ ?_
      · unfold r_X8_set; first | rfl | (simp only [if_pos (show (b2i (0 ≤ a1 ∧ a1 ≤ 3)) = 0 from c6), if_pos (show ¬ 0 = a1 from c17)]; done) | (simp only [if_pos (show (b2i (0 ≤ a1 ∧ a1 ≤ 3)) = 0 from c6), if_pos (show ¬ 0 = a1 from c17)]; rfl)
      · unfold w_X8_set; first | rfl | (simp only [if_pos (show (b2i (0 ≤ a1 ∧ a1 ≤ 3)) = 0 from c6), if_pos (show ¬ 0 = a1 from c17)]; done) | (simp only [if_pos (show (b2i (0 ≤ a1 ∧ a1 ≤ 3)) = 0 from c6), if_pos (show ¬ 0 = a1 from c17)]; rfl)
    · rw [if_neg (show ¬ (¬ 0 = a1) from c17)] at hp
      refine j_iload_n g (i := 2) (by decide +kernel) rfl ?_
      refine j_aload_n g (i := 0) (by decide +kernel) rfl ?_
      refine j_gA g (b := 605) f8_22 (by decide +kernel) (by decide +kernel) (by decide +kernel) (by decide +kernel) ?_
      refine j_iload_n g (i := 3) (by decide +kernel) rfl ?_
      refine j_ia g 4 (by decide +kernel) (by decide +kernel) (by decide +kernel) (vin_b (by decide +kernel)) ?_
      refine j_aload_n g (i := 0) (by decide +kernel) rfl ?_
      refine j_gA g (b := 606) f8_25 (by decide +kernel) (by decide +kernel) (by decide +kernel) (by decide +kernel) ?_
      refine j_iload_n g (i := 3) (by decide +kernel) rfl ?_
      refine j_ia g 4 (by decide +kernel) (by decide +kernel) (by decide +kernel) (vin_b (by decide +kernel)) ?_
      refine j_cS3r g s8_95 (by decide +kernel) (Nat.le_of_ble_eq_true rfl) (rnX8_in) ?_
      refine j_if_ne g (off := 5) (tgt := 41) (by decide +kernel) (by decide) (fun c36 => ?_) (fun c36 => ?_)
      · rw [if_pos (show ¬ (b2i ((M.1 605 0) ≤ a2 ∧ a2 ≤ (M.1 606 0))) = 0 from c36)] at hp
        refine j_aload_n g (i := 0) (by decide +kernel) rfl ?_
        refine j_gA g (b := 604) f8_19 (by decide +kernel) (by decide +kernel) (by decide +kernel) (by decide +kernel) ?_
        refine j_iload_n g (i := 1) (by decide +kernel) rfl ?_
        obtain ⟨h0, hp⟩ := hp
        refine j_ia g 4 (by decide +kernel) (by decide +kernel) (by decide +kernel) h0 ?_
        refine j_istore g (i := 4) (by decide +kernel) (by decide) ?_
        dsimp only [stL, clL, hdL]
        refine j_aload_n g (i := 0) (by decide +kernel) rfl ?_
        refine j_gA g (b := 604) f8_19 (by decide +kernel) (by decide +kernel) (by decide +kernel) (by decide +kernel) ?_
        refine j_iload_n g (i := 1) (by decide +kernel) rfl ?_
        refine j_iload_n g (i := 2) (by decide +kernel) rfl ?_
        obtain ⟨h0, hp⟩ := hp
        refine j_is g 4 (by decide +kernel) (by decide +kernel) (by decide +kernel) h0 ?_
        refine j_iload g (i := 4) (by decide +kernel) rfl ?_
        refine hr.1 _ _ _ _ (by decide +kernel) ⟨_, rfl, by first | rfl | exact b2i_nar | rfl⟩ ?_ ?_
        · unfold r_X8_set; first | rfl | (simp only [if_pos (show (b2i (0 ≤ a1 ∧ a1 ≤ 3)) = 0 from c6), if_neg (show ¬ (¬ 0 = a1) from c17), if_pos (show ¬ (b2i ((M.1 605 0) ≤ a2 ∧ a2 ≤ (M.1 606 0))) = 0 from c36)]; done) | (simp only [if_pos (show (b2i (0 ≤ a1 ∧ a1 ≤ 3)) = 0 from c6), if_neg (show ¬ (¬ 0 = a1) from c17), if_pos (show ¬ (b2i ((M.1 605 0) ≤ a2 ∧ a2 ≤ (M.1 606 0))) = 0 from c36)]; rfl)
        · unfold w_X8_set; first | rfl | (simp only [if_pos (show (b2i (0 ≤ a1 ∧ a1 ≤ 3)) = 0 from c6), if_neg (show ¬ (¬ 0 = a1) from c17), if_pos (show ¬ (b2i ((M.1 605 0) ≤ a2 ∧ a2 ≤ (M.1 606 0))) = 0 from c36)]; done) | (simp only [if_pos (show (b2i (0 ≤ a1 ∧ a1 ≤ 3)) = 0 from c6), if_neg (show ¬ (¬ 0 = a1) from c17), if_pos (show ¬ (b2i ((M.1 605 0) ≤ a2 ∧ a2 ≤ (M.1 606 0))) = 0 from c36)]; rfl)
      · rw [if_neg (show ¬ (¬ (b2i ((M.1 605 0) ≤ a2 ∧ a2 ≤ (M.1 606 0))) = 0) from c36)] at hp
        refine j_iconst g (n := -1) (-1) (by decide +kernel) rfl ?_
        refine hr.1 _ _ _ _ (by decide +kernel) ⟨_, rfl, by first | rfl | exact b2i_nar | rfl⟩ ?_ ?_
        · unfold r_X8_set; first | rfl | (simp only [if_pos (show (b2i (0 ≤ a1 ∧ a1 ≤ 3)) = 0 from c6), if_neg (show ¬ (¬ 0 = a1) from c17), if_neg (show ¬ (¬ (b2i ((M.1 605 0) ≤ a2 ∧ a2 ≤ (M.1 606 0))) = 0) from c36)]; done) | (simp only [if_pos (show (b2i (0 ≤ a1 ∧ a1 ≤ 3)) = 0 from c6), if_neg (show ¬ (¬ 0 = a1) from c17), if_neg (show ¬ (¬ (b2i ((M.1 605 0) ≤ a2 ∧ a2 ≤ (M.1 606 0))) = 0) from c36)]; rfl)
        · unfold w_X8_set; first | rfl | (simp only [if_pos (show (b2i (0 ≤ a1 ∧ a1 ≤ 3)) = 0 from c6), if_neg (show ¬ (¬ 0 = a1) from c17), if_neg (show ¬ (¬ (b2i ((M.1 605 0) ≤ a2 ∧ a2 ≤ (M.1 606 0))) = 0) from c36)]; done) | (simp only [if_pos (show (b2i (0 ≤ a1 ∧ a1 ≤ 3)) = 0 from c6), if_neg (show ¬ (¬ 0 = a1) from c17), if_neg (show ¬ (¬ (b2i ((M.1 605 0) ≤ a2 ∧ a2 ≤ (M.1 606 0))) = 0) from c36)]; rfl)
  · rw [if_neg (show ¬ ((b2i (0 ≤ a1 ∧ a1 ≤ 3)) = 0) from c6)] at hp
    refine j_iload_n g (i := 1) (by decide +kernel) rfl ?_
    refine j_goto g (off := 4) (tgt := 14) (by decide +kernel) (by decide) ?_
    refine j_istore_n g (i := 3) (by decide +kernel) (by decide) ?_
    dsimp only [stL, clL, hdL]
    refine j_iload_n g (i := 3) (by decide +kernel) rfl ?_
    refine j_iload_n g (i := 1) (by decide +kernel) rfl ?_
    refine j_icmp_ne g (off := 22) (tgt := 39) (by decide +kernel) (by decide) (fun c => absurd c (by first | decide | (intro h; exact h rfl))) (fun _ => ?_)
    refine j_iload_n g (i := 2) (by decide +kernel) rfl ?_
    refine j_aload_n g (i := 0) (by decide +kernel) rfl ?_
    refine j_gA g (b := 605) f8_22 (by decide +kernel) (by decide +kernel) (by decide +kernel) (by decide +kernel) ?_
    refine j_iload_n g (i := 3) (by decide +kernel) rfl ?_
    obtain ⟨h0, hp⟩ := hp
    refine j_ia g 4 (by decide +kernel) (by decide +kernel) (by decide +kernel) h0 ?_
    refine j_aload_n g (i := 0) (by decide +kernel) rfl ?_
    refine j_gA g (b := 606) f8_25 (by decide +kernel) (by decide +kernel) (by decide +kernel) (by decide +kernel) ?_
    refine j_iload_n g (i := 3) (by decide +kernel) rfl ?_
    obtain ⟨h0, hp⟩ := hp
    refine j_ia g 4 (by decide +kernel) (by decide +kernel) (by decide +kernel) h0 ?_
    refine j_cS3r g s8_95 (by decide +kernel) (Nat.le_of_ble_eq_true rfl) (rnX8_in) ?_
    refine j_if_ne g (off := 5) (tgt := 41) (by decide +kernel) (by decide) (fun c36 => ?_) (fun c36 => ?_)
    · rw [if_pos (show ¬ (b2i ((M.1 605 (Int32.toNatClampNeg a1)) ≤ a2 ∧ a2 ≤ (M.1 606 (Int32.toNatClampNeg a1)))) = 0 from c36)] at hp
      refine j_aload_n g (i := 0) (by decide +kernel) rfl ?_
      refine j_gA g (b := 604) f8_19 (by decide +kernel) (by decide +kernel) (by decide +kernel) (by decide +kernel) ?_
      refine j_iload_n g (i := 1) (by decide +kernel) rfl ?_
      obtain ⟨h0, hp⟩ := hp
      refine j_ia g 4 (by decide +kernel) (by decide +kernel) (by decide +kernel) h0 ?_
      refine j_istore g (i := 4) (by decide +kernel) (by decide) ?_
      dsimp only [stL, clL, hdL]
      refine j_aload_n g (i := 0) (by decide +kernel) rfl ?_
      refine j_gA g (b := 604) f8_19 (by decide +kernel) (by decide +kernel) (by decide +kernel) (by decide +kernel) ?_
      refine j_iload_n g (i := 1) (by decide +kernel) rfl ?_
      refine j_iload_n g (i := 2) (by decide +kernel) rfl ?_
      obtain ⟨h0, hp⟩ := hp
      refine j_is g 4 (by decide +kernel) (by decide +kernel) (by decide +kernel) h0 ?_
      refine j_iload g (i := 4) (by decide +kernel) rfl ?_
      refine hr.1 _ _ _ _ (by decide +kernel) ⟨_, rfl, by first | rfl | exact b2i_nar | rfl⟩ ?_ ?_
      · unfold r_X8_set; first | rfl | (simp only [if_neg (show ¬ ((b2i (0 ≤ a1 ∧ a1 ≤ 3)) = 0) from c6), if_pos (show ¬ (b2i ((M.1 605 (Int32.toNatClampNeg a1)) ≤ a2 ∧ a2 ≤ (M.1 606 (Int32.toNatClampNeg a1)))) = 0 from c36)]; done) | (simp only [if_neg (show ¬ ((b2i (0 ≤ a1 ∧ a1 ≤ 3)) = 0) from c6), if_pos (show ¬ (b2i ((M.1 605 (Int32.toNatClampNeg a1)) ≤ a2 ∧ a2 ≤ (M.1 606 (Int32.toNatClampNeg a1)))) = 0 from c36)]; rfl)
      · unfold w_X8_set; first | rfl | (simp only [if_neg (show ¬ ((b2i (0 ≤ a1 ∧ a1 ≤ 3)) = 0) from c6), if_pos (show ¬ (b2i ((M.1 605 (Int32.toNatClampNeg a1)) ≤ a2 ∧ a2 ≤ (M.1 606 (Int32.toNatClampNeg a1)))) = 0 from c36)]; done) | (simp only [if_neg (show ¬ ((b2i (0 ≤ a1 ∧ a1 ≤ 3)) = 0) from c6), if_pos (show ¬ (b2i ((M.1 605 (Int32.toNatClampNeg a1)) ≤ a2 ∧ a2 ≤ (M.1 606 (Int32.toNatClampNeg a1)))) = 0 from c36)]; rfl)
    · rw [if_neg (show ¬ (¬ (b2i ((M.1 605 (Int32.toNatClampNeg a1)) ≤ a2 ∧ a2 ≤ (M.1 606 (Int32.toNatClampNeg a1)))) = 0) from c36)] at hp
      refine j_iconst g (n := -1) (-1) (by decide +kernel) rfl ?_
      refine hr.1 _ _ _ _ (by decide +kernel) ⟨_, rfl, by first | rfl | exact b2i_nar | rfl⟩ ?_ ?_
      · unfold r_X8_set; first | rfl | (simp only [if_neg (show ¬ ((b2i (0 ≤ a1 ∧ a1 ≤ 3)) = 0) from c6), if_neg (show ¬ (¬ (b2i ((M.1 605 (Int32.toNatClampNeg a1)) ≤ a2 ∧ a2 ≤ (M.1 606 (Int32.toNatClampNeg a1)))) = 0) from c36)]; done) | (simp only [if_neg (show ¬ ((b2i (0 ≤ a1 ∧ a1 ≤ 3)) = 0) from c6), if_neg (show ¬ (¬ (b2i ((M.1 605 (Int32.toNatClampNeg a1)) ≤ a2 ∧ a2 ≤ (M.1 606 (Int32.toNatClampNeg a1)))) = 0) from c36)]; rfl)
      · unfold w_X8_set; first | rfl | (simp only [if_neg (show ¬ ((b2i (0 ≤ a1 ∧ a1 ≤ 3)) = 0) from c6), if_neg (show ¬ (¬ (b2i ((M.1 605 (Int32.toNatClampNeg a1)) ≤ a2 ∧ a2 ≤ (M.1 606 (Int32.toNatClampNeg a1)))) = 0) from c36)]; done) | (simp only [if_neg (show ¬ ((b2i (0 ≤ a1 ∧ a1 ≤ 3)) = 0) from c6), if_neg (show ¬ (¬ (b2i ((M.1 605 (Int32.toNatClampNeg a1)) ≤ a2 ∧ a2 ≤ (M.1 606 (Int32.toNatClampNeg a1)))) = 0) from c36)]; rfl)
def r_X8_minute (M : Mm)  : Int32 := M.1 607 21
theorem rnX8_minute {d : Nat} {M : Mm}   : Rn (d) mX8_minute [.ref 600] M (some (.int (r_X8_minute M ))) M := by
  refine Rn.of [some (.ref 600)] (by decide +kernel) rfl (Nat.le_of_ble_eq_true rfl) rfl (fun J g hr => ?_)
  refine j_aload_n g (i := 0) (by decide +kernel) rfl ?_
  refine j_gA g (b := 607) f8_28 (by decide +kernel) (by decide +kernel) (by decide +kernel) (by decide +kernel) ?_
  refine j_bipush g (n := 21) (21) (by decide +kernel) (by decide +kernel) ?_
  refine j_ia g 44 (by decide +kernel) (by decide +kernel) (by decide +kernel) (vin_b (by decide +kernel)) ?_
  refine hr.1 _ _ _ _ (by decide +kernel) ⟨_, rfl, by first | rfl | exact b2i_nar | rfl⟩ ?_ ?_
  · rfl
  · rfl
def r_X8_pass (M : Mm) (a1 : Int32) : Int32 := if ¬ (b2i (0 ≤ a1 ∧ a1 ≤ 999)) = 0 then (M.1 607 21) + a1 else (-1)
def w_X8_pass (M : Mm) (a1 : Int32) : Mm := if ¬ (b2i (0 ≤ a1 ∧ a1 ≤ 999)) = 0 then (wi M 607 21 ((M.1 607 21) + a1)) else M
theorem rnX8_pass {d : Nat} {M : Mm} {a1 : Int32}  : Rn (d + 1) mX8_pass [.ref 600, .int a1] M (some (.int (r_X8_pass M a1))) (w_X8_pass M a1) := by
  refine Rn.of [some (.ref 600), some (.int a1)] (by decide +kernel) rfl (Nat.le_of_ble_eq_true rfl) rfl (fun J g hr => ?_)
  refine j_iload_n g (i := 1) (by decide +kernel) rfl ?_
  refine j_iconst g (n := 0) (0) (by decide +kernel) rfl ?_
  refine j_sipush g (n := 999) (999) (by decide +kernel) (by decide +kernel) ?_
  refine j_cS3r g s8_95 (by decide +kernel) (Nat.le_of_ble_eq_true rfl) (rnX8_in) ?_
  refine j_if_ne g (off := 5) (tgt := 13) (by decide +kernel) (by decide) (fun c8 => ?_) (fun c8 => ?_)
  · skip
    refine j_aload_n g (i := 0) (by decide +kernel) rfl ?_
    refine j_gA g (b := 607) f8_28 (by decide +kernel) (by decide +kernel) (by decide +kernel) (by decide +kernel) ?_
    refine j_bipush g (n := 21) (21) (by decide +kernel) (by decide +kernel) ?_
    refine j_dup2 g (by decide +kernel) rfl rfl ?_
    refine j_ia g 44 (by decide +kernel) (by decide +kernel) (by decide +kernel) (vin_b (by decide +kernel)) ?_
    refine j_iload_n g (i := 1) (by decide +kernel) rfl ?_
    refine j_iadd g (by decide +kernel) ?_
    refine j_is g 44 (by decide +kernel) (by decide +kernel) (by decide +kernel) (vin_b (by decide +kernel)) ?_
    refine j_aload_n g (i := 0) (by decide +kernel) rfl ?_
    refine j_gA g (b := 607) f8_28 (by decide +kernel) (by decide +kernel) (by decide +kernel) (by decide +kernel) ?_
    refine j_bipush g (n := 21) (21) (by decide +kernel) (by decide +kernel) ?_
    refine j_ia g 44 (by decide +kernel) (by decide +kernel) (by decide +kernel) (vin_b (by decide +kernel)) ?_
    refine hr.1 _ _ _ _ (by decide +kernel) ⟨_, rfl, by first | rfl | exact b2i_nar | rfl⟩ ?_ ?_
    · unfold r_X8_pass; first | rfl | (simp only [if_pos (show ¬ (b2i (0 ≤ a1 ∧ a1 ≤ 999)) = 0 from c8)]; done) | (simp only [if_pos (show ¬ (b2i (0 ≤ a1 ∧ a1 ≤ 999)) = 0 from c8)]; rfl)
    · unfold w_X8_pass; first | rfl | (simp only [if_pos (show ¬ (b2i (0 ≤ a1 ∧ a1 ≤ 999)) = 0 from c8)]; done) | (simp only [if_pos (show ¬ (b2i (0 ≤ a1 ∧ a1 ≤ 999)) = 0 from c8)]; rfl)
  · skip
    refine j_iconst g (n := -1) (-1) (by decide +kernel) rfl ?_
    refine hr.1 _ _ _ _ (by decide +kernel) ⟨_, rfl, by first | rfl | exact b2i_nar | rfl⟩ ?_ ?_
    · unfold r_X8_pass; first | rfl | (simp only [if_neg (show ¬ (¬ (b2i (0 ≤ a1 ∧ a1 ≤ 999)) = 0) from c8)]; done) | (simp only [if_neg (show ¬ (¬ (b2i (0 ≤ a1 ∧ a1 ≤ 999)) = 0) from c8)]; rfl)
    · unfold w_X8_pass; first | rfl | (simp only [if_neg (show ¬ (¬ (b2i (0 ≤ a1 ∧ a1 ≤ 999)) = 0) from c8)]; done) | (simp only [if_neg (show ¬ (¬ (b2i (0 ≤ a1 ∧ a1 ≤ 999)) = 0) from c8)]; rfl)
def r_X8_walk (M : Mm) (a1 : Int32) (a2 : Int32) : Int32 := (if (M.1 607 (Int32.toNatClampNeg (((M.1 600 10) + 0) + a1))) < (M.1 607 (Int32.toNatClampNeg (((M.1 600 10) + 3) + (M.1 603 (Int32.toNatClampNeg (8 * a2 + 2)))))) then (M.1 607 (Int32.toNatClampNeg (((M.1 600 10) + 3) + (M.1 603 (Int32.toNatClampNeg (8 * a2 + 2)))))) - (M.1 607 (Int32.toNatClampNeg (((M.1 600 10) + 0) + a1))) else (M.1 607 (Int32.toNatClampNeg (((M.1 600 10) + 0) + a1))) - (M.1 607 (Int32.toNatClampNeg (((M.1 600 10) + 3) + (M.1 603 (Int32.toNatClampNeg (8 * a2 + 2)))))))
def p_X8_walk (M : Mm) (a1 : Int32) (a2 : Int32) : Prop := (vp_in (((M.1 600 10) + 0) + a1) 44) ∧ (vp_in (8 * a2 + 2) 48) ∧ (vp_in (((M.1 600 10) + 3) + (M.1 603 (Int32.toNatClampNeg (8 * a2 + 2)))) 44) ∧ True
theorem rnX8_walk {d : Nat} {M : Mm} {a1 : Int32} {a2 : Int32}  (hp : p_X8_walk M a1 a2) : Rn (d + 1) mX8_walk [.ref 600, .int a1, .int a2] M (some (.int (r_X8_walk M a1 a2))) M := by
  refine Rn.of [some (.ref 600), some (.int a1), some (.int a2)] (by decide +kernel) rfl (Nat.le_of_ble_eq_true rfl) rfl (fun J g hr => ?_)
  unfold p_X8_walk at hp
  refine j_aload_n g (i := 0) (by decide +kernel) rfl ?_
  refine j_gA g (b := 607) f8_28 (by decide +kernel) (by decide +kernel) (by decide +kernel) (by decide +kernel) ?_
  refine j_aload_n g (i := 0) (by decide +kernel) rfl ?_
  refine j_gI g f8_240 (by decide +kernel) (by decide +kernel) (by decide +kernel) ?_
  refine j_iconst g (n := 0) (0) (by decide +kernel) rfl ?_
  refine j_iadd g (by decide +kernel) ?_
  refine j_iload_n g (i := 1) (by decide +kernel) rfl ?_
  refine j_iadd g (by decide +kernel) ?_
  obtain ⟨h0, hp⟩ := hp
  refine j_ia g 44 (by decide +kernel) (by decide +kernel) (by decide +kernel) h0 ?_
  refine j_aload_n g (i := 0) (by decide +kernel) rfl ?_
  refine j_gA g (b := 607) f8_28 (by decide +kernel) (by decide +kernel) (by decide +kernel) (by decide +kernel) ?_
  refine j_aload_n g (i := 0) (by decide +kernel) rfl ?_
  refine j_gI g f8_240 (by decide +kernel) (by decide +kernel) (by decide +kernel) ?_
  refine j_iconst g (n := 3) (3) (by decide +kernel) rfl ?_
  refine j_iadd g (by decide +kernel) ?_
  refine j_aload_n g (i := 0) (by decide +kernel) rfl ?_
  refine j_iload_n g (i := 2) (by decide +kernel) rfl ?_
  refine j_iconst g (n := 2) (2) (by decide +kernel) rfl ?_
  obtain ⟨h0, hp⟩ := hp
  refine j_cV2r g v8_249 ⟨rfl, by decide⟩ (by decide +kernel) (by decide +kernel) (Nat.le_of_ble_eq_true rfl) (rnX8_its h0) ?_
  refine j_iadd g (by decide +kernel) ?_
  obtain ⟨h0, hp⟩ := hp
  refine j_ia g 44 (by decide +kernel) (by decide +kernel) (by decide +kernel) h0 ?_
  refine j_cS2r g s8_256 (by decide +kernel) (Nat.le_of_ble_eq_true rfl) (rnX8_far) ?_
  refine hr.1 _ _ _ _ (by decide +kernel) ⟨_, rfl, by first | rfl | exact b2i_nar | rfl⟩ ?_ ?_
  · rfl
  · rfl
def r_X8_carry (M : Mm) (a1 : Int32) (a2 : Int32) : Int32 := ((((if (M.1 607 (Int32.toNatClampNeg (((M.1 600 10) + 3) + (M.1 603 (Int32.toNatClampNeg (8 * a1 + 2)))))) < (M.1 603 (Int32.toNatClampNeg (8 * a1 + 3))) then (M.1 603 (Int32.toNatClampNeg (8 * a1 + 3))) - (M.1 607 (Int32.toNatClampNeg (((M.1 600 10) + 3) + (M.1 603 (Int32.toNatClampNeg (8 * a1 + 2)))))) else (M.1 607 (Int32.toNatClampNeg (((M.1 600 10) + 3) + (M.1 603 (Int32.toNatClampNeg (8 * a1 + 2)))))) - (M.1 603 (Int32.toNatClampNeg (8 * a1 + 3)))) * (M.1 602 (Int32.toNatClampNeg (M.1 603 (Int32.toNatClampNeg (8 * a1 + 2)))))) + a2 - 1) / a2)
def p_X8_carry (M : Mm) (a1 : Int32) (a2 : Int32) : Prop := (vp_in (8 * a1 + 2) 48) ∧ (vp_in (((M.1 600 10) + 3) + (M.1 603 (Int32.toNatClampNeg (8 * a1 + 2)))) 44) ∧ (vp_in (8 * a1 + 3) 48) ∧ (vp_in (M.1 603 (Int32.toNatClampNeg (8 * a1 + 2))) 6) ∧ (¬ a2 = 0) ∧ True
theorem rnX8_carry {d : Nat} {M : Mm} {a1 : Int32} {a2 : Int32}  (hp : p_X8_carry M a1 a2) : Rn (d + 1) mX8_carry [.ref 600, .int a1, .int a2] M (some (.int (r_X8_carry M a1 a2))) M := by
  refine Rn.of [some (.ref 600), some (.int a1), some (.int a2), none] (by decide +kernel) rfl (Nat.le_of_ble_eq_true rfl) rfl (fun J g hr => ?_)
  unfold p_X8_carry at hp
  refine j_aload_n g (i := 0) (by decide +kernel) rfl ?_
  refine j_iload_n g (i := 1) (by decide +kernel) rfl ?_
  refine j_iconst g (n := 2) (2) (by decide +kernel) rfl ?_
  obtain ⟨h0, hp⟩ := hp
  refine j_cV2r g v8_249 ⟨rfl, by decide⟩ (by decide +kernel) (by decide +kernel) (Nat.le_of_ble_eq_true rfl) (rnX8_its h0) ?_
  refine j_istore_n g (i := 3) (by decide +kernel) (by decide) ?_
  dsimp only [stL, clL, hdL]
  refine j_aload_n g (i := 0) (by decide +kernel) rfl ?_
  refine j_gA g (b := 607) f8_28 (by decide +kernel) (by decide +kernel) (by decide +kernel) (by decide +kernel) ?_
  refine j_aload_n g (i := 0) (by decide +kernel) rfl ?_
  refine j_gI g f8_240 (by decide +kernel) (by decide +kernel) (by decide +kernel) ?_
  refine j_iconst g (n := 3) (3) (by decide +kernel) rfl ?_
  refine j_iadd g (by decide +kernel) ?_
  refine j_iload_n g (i := 3) (by decide +kernel) rfl ?_
  refine j_iadd g (by decide +kernel) ?_
  obtain ⟨h0, hp⟩ := hp
  refine j_ia g 44 (by decide +kernel) (by decide +kernel) (by decide +kernel) h0 ?_
  refine j_aload_n g (i := 0) (by decide +kernel) rfl ?_
  refine j_iload_n g (i := 1) (by decide +kernel) rfl ?_
  refine j_iconst g (n := 3) (3) (by decide +kernel) rfl ?_
  obtain ⟨h0, hp⟩ := hp
  refine j_cV2r g v8_249 ⟨rfl, by decide⟩ (by decide +kernel) (by decide +kernel) (Nat.le_of_ble_eq_true rfl) (rnX8_its h0) ?_
  refine j_cS2r g s8_256 (by decide +kernel) (Nat.le_of_ble_eq_true rfl) (rnX8_far) ?_
  refine j_aload_n g (i := 0) (by decide +kernel) rfl ?_
  refine j_gA g (b := 602) f8_13 (by decide +kernel) (by decide +kernel) (by decide +kernel) (by decide +kernel) ?_
  refine j_iload_n g (i := 3) (by decide +kernel) rfl ?_
  obtain ⟨h0, hp⟩ := hp
  refine j_ia g 6 (by decide +kernel) (by decide +kernel) (by decide +kernel) h0 ?_
  refine j_imul g (by decide +kernel) ?_
  refine j_iload_n g (i := 2) (by decide +kernel) rfl ?_
  obtain ⟨h0, hp⟩ := hp
  refine j_cS2r g s8_259 (by decide +kernel) (Nat.le_of_ble_eq_true rfl) (rnX8_up h0) ?_
  refine hr.1 _ _ _ _ (by decide +kernel) ⟨_, rfl, by first | rfl | exact b2i_nar | rfl⟩ ?_ ?_
  · rfl
  · rfl
def r_X8_plainMinutes (M : Mm) (a1 : Int32) : Int32 := (r_X8_walk M (M.1 603 (Int32.toNatClampNeg (8 * a1 + 1))) a1) + (r_X8_carry M a1 (M.1 601 (Int32.toNatClampNeg (M.1 603 (Int32.toNatClampNeg (8 * a1 + 1))))))
def p_X8_plainMinutes (M : Mm) (a1 : Int32) : Prop := (vp_in (8 * a1 + 1) 48) ∧ (p_X8_walk M (M.1 603 (Int32.toNatClampNeg (8 * a1 + 1))) a1) ∧ (vp_in (8 * a1 + 1) 48) ∧ (vp_in (M.1 603 (Int32.toNatClampNeg (8 * a1 + 1))) 3) ∧ (p_X8_carry M a1 (M.1 601 (Int32.toNatClampNeg (M.1 603 (Int32.toNatClampNeg (8 * a1 + 1)))))) ∧ True
theorem rnX8_plainMinutes {d : Nat} {M : Mm} {a1 : Int32}  (hp : p_X8_plainMinutes M a1) : Rn (d + 2) mX8_plainMinutes [.ref 600, .int a1] M (some (.int (r_X8_plainMinutes M a1))) M := by
  refine Rn.of [some (.ref 600), some (.int a1)] (by decide +kernel) rfl (Nat.le_of_ble_eq_true rfl) rfl (fun J g hr => ?_)
  unfold p_X8_plainMinutes at hp
  refine j_aload_n g (i := 0) (by decide +kernel) rfl ?_
  refine j_aload_n g (i := 0) (by decide +kernel) rfl ?_
  refine j_iload_n g (i := 1) (by decide +kernel) rfl ?_
  refine j_iconst g (n := 1) (1) (by decide +kernel) rfl ?_
  obtain ⟨h0, hp⟩ := hp
  refine j_cV2r g v8_249 ⟨rfl, by decide⟩ (by decide +kernel) (by decide +kernel) (Nat.le_of_ble_eq_true rfl) (rnX8_its h0) ?_
  refine j_iload_n g (i := 1) (by decide +kernel) rfl ?_
  obtain ⟨h0, hp⟩ := hp
  refine j_cV2r g v8_262 ⟨rfl, by decide⟩ (by decide +kernel) (by decide +kernel) (Nat.le_of_ble_eq_true rfl) (rnX8_walk h0) ?_
  refine j_aload_n g (i := 0) (by decide +kernel) rfl ?_
  refine j_iload_n g (i := 1) (by decide +kernel) rfl ?_
  refine j_aload_n g (i := 0) (by decide +kernel) rfl ?_
  refine j_gA g (b := 601) f8_7 (by decide +kernel) (by decide +kernel) (by decide +kernel) (by decide +kernel) ?_
  refine j_aload_n g (i := 0) (by decide +kernel) rfl ?_
  refine j_iload_n g (i := 1) (by decide +kernel) rfl ?_
  refine j_iconst g (n := 1) (1) (by decide +kernel) rfl ?_
  obtain ⟨h0, hp⟩ := hp
  refine j_cV2r g v8_249 ⟨rfl, by decide⟩ (by decide +kernel) (by decide +kernel) (Nat.le_of_ble_eq_true rfl) (rnX8_its h0) ?_
  obtain ⟨h0, hp⟩ := hp
  refine j_ia g 3 (by decide +kernel) (by decide +kernel) (by decide +kernel) h0 ?_
  obtain ⟨h0, hp⟩ := hp
  refine j_cV2r g v8_265 ⟨rfl, by decide⟩ (by decide +kernel) (by decide +kernel) (Nat.le_of_ble_eq_true rfl) (rnX8_carry h0) ?_
  refine j_iadd g (by decide +kernel) ?_
  refine hr.1 _ _ _ _ (by decide +kernel) ⟨_, rfl, by first | rfl | exact b2i_nar | rfl⟩ ?_ ?_
  · rfl
  · rfl
def r_X8_nextMover (M : Mm) (a1 : Int32) : Int32 := ((M.1 603 (Int32.toNatClampNeg (8 * a1 + 1))) + 1) - ((M.1 603 (Int32.toNatClampNeg (8 * a1 + 1))) + 1) / (M.1 600 0) * (M.1 600 0)
def p_X8_nextMover (M : Mm) (a1 : Int32) : Prop := (vp_in (8 * a1 + 1) 48) ∧ (¬ (M.1 600 0) = 0) ∧ True
theorem rnX8_nextMover {d : Nat} {M : Mm} {a1 : Int32}  (hp : p_X8_nextMover M a1) : Rn (d + 1) mX8_nextMover [.ref 600, .int a1] M (some (.int (r_X8_nextMover M a1))) M := by
  refine Rn.of [some (.ref 600), some (.int a1)] (by decide +kernel) rfl (Nat.le_of_ble_eq_true rfl) rfl (fun J g hr => ?_)
  unfold p_X8_nextMover at hp
  refine j_aload_n g (i := 0) (by decide +kernel) rfl ?_
  refine j_iload_n g (i := 1) (by decide +kernel) rfl ?_
  refine j_iconst g (n := 1) (1) (by decide +kernel) rfl ?_
  obtain ⟨h0, hp⟩ := hp
  refine j_cV2r g v8_249 ⟨rfl, by decide⟩ (by decide +kernel) (by decide +kernel) (Nat.le_of_ble_eq_true rfl) (rnX8_its h0) ?_
  refine j_iconst g (n := 1) (1) (by decide +kernel) rfl ?_
  refine j_iadd g (by decide +kernel) ?_
  refine j_aload_n g (i := 0) (by decide +kernel) rfl ?_
  refine j_gI g f8_225 (by decide +kernel) (by decide +kernel) (by decide +kernel) ?_
  obtain ⟨h0, hp⟩ := hp
  refine j_irem g (by decide +kernel) h0 ?_
  refine hr.1 _ _ _ _ (by decide +kernel) ⟨_, rfl, by first | rfl | exact b2i_nar | rfl⟩ ?_ ?_
  · rfl
  · rfl
def r_X8_heavyMinutes (M : Mm) (a1 : Int32) : Int32 := (r_X8_plainMinutes M a1) + (r_X8_walk M (r_X8_nextMover M a1) a1)
def p_X8_heavyMinutes (M : Mm) (a1 : Int32) : Prop := (p_X8_plainMinutes M a1) ∧ (p_X8_nextMover M a1) ∧ (p_X8_walk M (r_X8_nextMover M a1) a1) ∧ True
theorem rnX8_heavyMinutes {d : Nat} {M : Mm} {a1 : Int32}  (hp : p_X8_heavyMinutes M a1) : Rn (d + 3) mX8_heavyMinutes [.ref 600, .int a1] M (some (.int (r_X8_heavyMinutes M a1))) M := by
  refine Rn.of [some (.ref 600), some (.int a1)] (by decide +kernel) rfl (Nat.le_of_ble_eq_true rfl) rfl (fun J g hr => ?_)
  unfold p_X8_heavyMinutes at hp
  refine j_aload_n g (i := 0) (by decide +kernel) rfl ?_
  refine j_iload_n g (i := 1) (by decide +kernel) rfl ?_
  obtain ⟨h0, hp⟩ := hp
  refine j_cV1r g v8_268 ⟨rfl, by decide⟩ (by decide +kernel) (by decide +kernel) (Nat.le_of_ble_eq_true rfl) (rnX8_plainMinutes h0) ?_
  refine j_aload_n g (i := 0) (by decide +kernel) rfl ?_
  refine j_aload_n g (i := 0) (by decide +kernel) rfl ?_
  refine j_iload_n g (i := 1) (by decide +kernel) rfl ?_
  obtain ⟨h0, hp⟩ := hp
  refine j_cV1r g v8_271 ⟨rfl, by decide⟩ (by decide +kernel) (by decide +kernel) (Nat.le_of_ble_eq_true rfl) (rnX8_nextMover h0) ?_
  refine j_iload_n g (i := 1) (by decide +kernel) rfl ?_
  obtain ⟨h0, hp⟩ := hp
  refine j_cV2r g v8_262 ⟨rfl, by decide⟩ (by decide +kernel) (by decide +kernel) (Nat.le_of_ble_eq_true rfl) (rnX8_walk h0) ?_
  refine j_iadd g (by decide +kernel) ?_
  refine hr.1 _ _ _ _ (by decide +kernel) ⟨_, rfl, by first | rfl | exact b2i_nar | rfl⟩ ?_ ?_
  · rfl
  · rfl
def r_X8_isSpoilt (M : Mm) (a1 : Int32) : Int32 := if 0 ≤ (M.1 603 (Int32.toNatClampNeg (8 * a1 + 6))) then (if ¬ (M.1 607 (Int32.toNatClampNeg (((M.1 600 10) + 9) + (M.1 603 (Int32.toNatClampNeg (8 * a1 + 6)))))) = 2 then (if ¬ (M.1 607 (Int32.toNatClampNeg (((M.1 600 10) + 9) + (M.1 603 (Int32.toNatClampNeg (8 * a1 + 6)))))) = 1 then 0 else if (M.1 603 (Int32.toNatClampNeg (8 * a1 + 7))) ≤ 0 then 0 else if ((M.1 607 (Int32.toNatClampNeg ((M.1 600 10) + 21))) - (M.1 607 (Int32.toNatClampNeg (((M.1 600 10) + 15) + (M.1 603 (Int32.toNatClampNeg (8 * a1 + 6))))))) ≤ (M.1 603 (Int32.toNatClampNeg (8 * a1 + 7))) then 0 else 1) else 1) else 0
def p_X8_isSpoilt (M : Mm) (a1 : Int32) : Prop := (vp_in (8 * a1 + 6) 48) ∧ (if 0 ≤ (M.1 603 (Int32.toNatClampNeg (8 * a1 + 6))) then (vp_in (((M.1 600 10) + 9) + (M.1 603 (Int32.toNatClampNeg (8 * a1 + 6)))) 44) ∧ (if ¬ (M.1 607 (Int32.toNatClampNeg (((M.1 600 10) + 9) + (M.1 603 (Int32.toNatClampNeg (8 * a1 + 6)))))) = 2 then (vp_in (((M.1 600 10) + 9) + (M.1 603 (Int32.toNatClampNeg (8 * a1 + 6)))) 44) ∧ (if ¬ (M.1 607 (Int32.toNatClampNeg (((M.1 600 10) + 9) + (M.1 603 (Int32.toNatClampNeg (8 * a1 + 6)))))) = 1 then True else (vp_in (8 * a1 + 7) 48) ∧ (if (M.1 603 (Int32.toNatClampNeg (8 * a1 + 7))) ≤ 0 then True else (vp_in ((M.1 600 10) + 21) 44) ∧ (vp_in (((M.1 600 10) + 15) + (M.1 603 (Int32.toNatClampNeg (8 * a1 + 6)))) 44) ∧ (vp_in (8 * a1 + 7) 48) ∧ (if ((M.1 607 (Int32.toNatClampNeg ((M.1 600 10) + 21))) - (M.1 607 (Int32.toNatClampNeg (((M.1 600 10) + 15) + (M.1 603 (Int32.toNatClampNeg (8 * a1 + 6))))))) ≤ (M.1 603 (Int32.toNatClampNeg (8 * a1 + 7))) then True else True))) else True) else True)
theorem rnX8_isSpoilt {d : Nat} {M : Mm} {a1 : Int32}  (hp : p_X8_isSpoilt M a1) : Rn (d + 1) mX8_isSpoilt [.ref 600, .int a1] M (some (.int (r_X8_isSpoilt M a1))) M := by
  refine Rn.of [some (.ref 600), some (.int a1), none] (by decide +kernel) rfl (Nat.le_of_ble_eq_true rfl) rfl (fun J g hr => ?_)
  unfold p_X8_isSpoilt at hp
  refine j_aload_n g (i := 0) (by decide +kernel) rfl ?_
  refine j_iload_n g (i := 1) (by decide +kernel) rfl ?_
  refine j_bipush g (n := 6) (6) (by decide +kernel) (by decide +kernel) ?_
  obtain ⟨h0, hp⟩ := hp
  refine j_cV2r g v8_249 ⟨rfl, by decide⟩ (by decide +kernel) (by decide +kernel) (Nat.le_of_ble_eq_true rfl) (rnX8_its h0) ?_
  refine j_istore_n g (i := 2) (by decide +kernel) (by decide) ?_
  dsimp only [stL, clL, hdL]
  refine j_iload_n g (i := 2) (by decide +kernel) rfl ?_
  refine j_if_ge g (off := 5) (tgt := 14) (by decide +kernel) (by decide) (fun c9 => ?_) (fun c9 => ?_)
  · rw [if_pos (show 0 ≤ (M.1 603 (Int32.toNatClampNeg (8 * a1 + 6))) from c9)] at hp
    refine j_aload_n g (i := 0) (by decide +kernel) rfl ?_
    refine j_gA g (b := 607) f8_28 (by decide +kernel) (by decide +kernel) (by decide +kernel) (by decide +kernel) ?_
    refine j_aload_n g (i := 0) (by decide +kernel) rfl ?_
    refine j_gI g f8_240 (by decide +kernel) (by decide +kernel) (by decide +kernel) ?_
    refine j_bipush g (n := 9) (9) (by decide +kernel) (by decide +kernel) ?_
    refine j_iadd g (by decide +kernel) ?_
    refine j_iload_n g (i := 2) (by decide +kernel) rfl ?_
    refine j_iadd g (by decide +kernel) ?_
    obtain ⟨h0, hp⟩ := hp
    refine j_ia g 44 (by decide +kernel) (by decide +kernel) (by decide +kernel) h0 ?_
    refine j_iconst g (n := 2) (2) (by decide +kernel) rfl ?_
    refine j_icmp_ne g (off := 5) (tgt := 34) (by decide +kernel) (by decide) (fun c29 => ?_) (fun c29 => ?_)
    · rw [if_pos (show ¬ (M.1 607 (Int32.toNatClampNeg (((M.1 600 10) + 9) + (M.1 603 (Int32.toNatClampNeg (8 * a1 + 6)))))) = 2 from c29)] at hp
      refine j_aload_n g (i := 0) (by decide +kernel) rfl ?_
      refine j_gA g (b := 607) f8_28 (by decide +kernel) (by decide +kernel) (by decide +kernel) (by decide +kernel) ?_
      refine j_aload_n g (i := 0) (by decide +kernel) rfl ?_
      refine j_gI g f8_240 (by decide +kernel) (by decide +kernel) (by decide +kernel) ?_
      refine j_bipush g (n := 9) (9) (by decide +kernel) (by decide +kernel) ?_
      refine j_iadd g (by decide +kernel) ?_
      refine j_iload_n g (i := 2) (by decide +kernel) rfl ?_
      refine j_iadd g (by decide +kernel) ?_
      obtain ⟨h0, hp⟩ := hp
      refine j_ia g 44 (by decide +kernel) (by decide +kernel) (by decide +kernel) h0 ?_
      refine j_iconst g (n := 1) (1) (by decide +kernel) rfl ?_
      refine j_icmp_ne g (off := 54) (tgt := 103) (by decide +kernel) (by decide) (fun c49 => ?_) (fun c49 => ?_)
      · rw [if_pos (show ¬ (M.1 607 (Int32.toNatClampNeg (((M.1 600 10) + 9) + (M.1 603 (Int32.toNatClampNeg (8 * a1 + 6)))))) = 1 from c49)] at hp
        refine j_iconst g (n := 0) (0) (by decide +kernel) rfl ?_
        refine hr.1 _ _ _ _ (by decide +kernel) ⟨_, rfl, by first | rfl | exact b2i_nar | decide +kernel⟩ ?_ ?_
        · unfold r_X8_isSpoilt; first | rfl | (simp only [if_pos (show 0 ≤ (M.1 603 (Int32.toNatClampNeg (8 * a1 + 6))) from c9), if_pos (show ¬ (M.1 607 (Int32.toNatClampNeg (((M.1 600 10) + 9) + (M.1 603 (Int32.toNatClampNeg (8 * a1 + 6)))))) = 2 from c29), if_pos (show ¬ (M.1 607 (Int32.toNatClampNeg (((M.1 600 10) + 9) + (M.1 603 (Int32.toNatClampNeg (8 * a1 + 6)))))) = 1 from c49)]; done) | (simp only [if_pos (show 0 ≤ (M.1 603 (Int32.toNatClampNeg (8 * a1 + 6))) from c9), if_pos (show ¬ (M.1 607 (Int32.toNatClampNeg (((M.1 600 10) + 9) + (M.1 603 (Int32.toNatClampNeg (8 * a1 + 6)))))) = 2 from c29), if_pos (show ¬ (M.1 607 (Int32.toNatClampNeg (((M.1 600 10) + 9) + (M.1 603 (Int32.toNatClampNeg (8 * a1 + 6)))))) = 1 from c49)]; rfl)
        · rfl
      · rw [if_neg (show ¬ (¬ (M.1 607 (Int32.toNatClampNeg (((M.1 600 10) + 9) + (M.1 603 (Int32.toNatClampNeg (8 * a1 + 6)))))) = 1) from c49)] at hp
        refine j_aload_n g (i := 0) (by decide +kernel) rfl ?_
        refine j_iload_n g (i := 1) (by decide +kernel) rfl ?_
        refine j_bipush g (n := 7) (7) (by decide +kernel) (by decide +kernel) ?_
        obtain ⟨h0, hp⟩ := hp
        refine j_cV2r g v8_249 ⟨rfl, by decide⟩ (by decide +kernel) (by decide +kernel) (Nat.le_of_ble_eq_true rfl) (rnX8_its h0) ?_
        refine j_if_le g (off := 44) (tgt := 103) (by decide +kernel) (by decide) (fun c59 => ?_) (fun c59 => ?_)
        · rw [if_pos (show (M.1 603 (Int32.toNatClampNeg (8 * a1 + 7))) ≤ 0 from c59)] at hp
          refine j_iconst g (n := 0) (0) (by decide +kernel) rfl ?_
          refine hr.1 _ _ _ _ (by decide +kernel) ⟨_, rfl, by first | rfl | exact b2i_nar | decide +kernel⟩ ?_ ?_
          · unfold r_X8_isSpoilt; first | rfl | (simp only [if_pos (show 0 ≤ (M.1 603 (Int32.toNatClampNeg (8 * a1 + 6))) from c9), if_pos (show ¬ (M.1 607 (Int32.toNatClampNeg (((M.1 600 10) + 9) + (M.1 603 (Int32.toNatClampNeg (8 * a1 + 6)))))) = 2 from c29), if_neg (show ¬ (¬ (M.1 607 (Int32.toNatClampNeg (((M.1 600 10) + 9) + (M.1 603 (Int32.toNatClampNeg (8 * a1 + 6)))))) = 1) from c49), if_pos (show (M.1 603 (Int32.toNatClampNeg (8 * a1 + 7))) ≤ 0 from c59)]; done) | (simp only [if_pos (show 0 ≤ (M.1 603 (Int32.toNatClampNeg (8 * a1 + 6))) from c9), if_pos (show ¬ (M.1 607 (Int32.toNatClampNeg (((M.1 600 10) + 9) + (M.1 603 (Int32.toNatClampNeg (8 * a1 + 6)))))) = 2 from c29), if_neg (show ¬ (¬ (M.1 607 (Int32.toNatClampNeg (((M.1 600 10) + 9) + (M.1 603 (Int32.toNatClampNeg (8 * a1 + 6)))))) = 1) from c49), if_pos (show (M.1 603 (Int32.toNatClampNeg (8 * a1 + 7))) ≤ 0 from c59)]; rfl)
          · rfl
        · rw [if_neg (show ¬ ((M.1 603 (Int32.toNatClampNeg (8 * a1 + 7))) ≤ 0) from c59)] at hp
          refine j_aload_n g (i := 0) (by decide +kernel) rfl ?_
          refine j_gA g (b := 607) f8_28 (by decide +kernel) (by decide +kernel) (by decide +kernel) (by decide +kernel) ?_
          refine j_aload_n g (i := 0) (by decide +kernel) rfl ?_
          refine j_gI g f8_240 (by decide +kernel) (by decide +kernel) (by decide +kernel) ?_
          refine j_bipush g (n := 21) (21) (by decide +kernel) (by decide +kernel) ?_
          refine j_iadd g (by decide +kernel) ?_
          obtain ⟨h0, hp⟩ := hp
          refine j_ia g 44 (by decide +kernel) (by decide +kernel) (by decide +kernel) h0 ?_
          refine j_aload_n g (i := 0) (by decide +kernel) rfl ?_
          refine j_gA g (b := 607) f8_28 (by decide +kernel) (by decide +kernel) (by decide +kernel) (by decide +kernel) ?_
          refine j_aload_n g (i := 0) (by decide +kernel) rfl ?_
          refine j_gI g f8_240 (by decide +kernel) (by decide +kernel) (by decide +kernel) ?_
          refine j_bipush g (n := 15) (15) (by decide +kernel) (by decide +kernel) ?_
          refine j_iadd g (by decide +kernel) ?_
          refine j_iload_n g (i := 2) (by decide +kernel) rfl ?_
          refine j_iadd g (by decide +kernel) ?_
          obtain ⟨h0, hp⟩ := hp
          refine j_ia g 44 (by decide +kernel) (by decide +kernel) (by decide +kernel) h0 ?_
          refine j_isub g (by decide +kernel) ?_
          refine j_aload_n g (i := 0) (by decide +kernel) rfl ?_
          refine j_iload_n g (i := 1) (by decide +kernel) rfl ?_
          refine j_bipush g (n := 7) (7) (by decide +kernel) (by decide +kernel) ?_
          obtain ⟨h0, hp⟩ := hp
          refine j_cV2r g v8_249 ⟨rfl, by decide⟩ (by decide +kernel) (by decide +kernel) (Nat.le_of_ble_eq_true rfl) (rnX8_its h0) ?_
          refine j_icmp_le g (off := 7) (tgt := 103) (by decide +kernel) (by decide) (fun c96 => ?_) (fun c96 => ?_)
          · rw [if_pos (show ((M.1 607 (Int32.toNatClampNeg ((M.1 600 10) + 21))) - (M.1 607 (Int32.toNatClampNeg (((M.1 600 10) + 15) + (M.1 603 (Int32.toNatClampNeg (8 * a1 + 6))))))) ≤ (M.1 603 (Int32.toNatClampNeg (8 * a1 + 7))) from c96)] at hp
            refine j_iconst g (n := 0) (0) (by decide +kernel) rfl ?_
            refine hr.1 _ _ _ _ (by decide +kernel) ⟨_, rfl, by first | rfl | exact b2i_nar | decide +kernel⟩ ?_ ?_
            · unfold r_X8_isSpoilt; first | rfl | (simp only [if_pos (show 0 ≤ (M.1 603 (Int32.toNatClampNeg (8 * a1 + 6))) from c9), if_pos (show ¬ (M.1 607 (Int32.toNatClampNeg (((M.1 600 10) + 9) + (M.1 603 (Int32.toNatClampNeg (8 * a1 + 6)))))) = 2 from c29), if_neg (show ¬ (¬ (M.1 607 (Int32.toNatClampNeg (((M.1 600 10) + 9) + (M.1 603 (Int32.toNatClampNeg (8 * a1 + 6)))))) = 1) from c49), if_neg (show ¬ ((M.1 603 (Int32.toNatClampNeg (8 * a1 + 7))) ≤ 0) from c59), if_pos (show ((M.1 607 (Int32.toNatClampNeg ((M.1 600 10) + 21))) - (M.1 607 (Int32.toNatClampNeg (((M.1 600 10) + 15) + (M.1 603 (Int32.toNatClampNeg (8 * a1 + 6))))))) ≤ (M.1 603 (Int32.toNatClampNeg (8 * a1 + 7))) from c96)]; done) | (simp only [if_pos (show 0 ≤ (M.1 603 (Int32.toNatClampNeg (8 * a1 + 6))) from c9), if_pos (show ¬ (M.1 607 (Int32.toNatClampNeg (((M.1 600 10) + 9) + (M.1 603 (Int32.toNatClampNeg (8 * a1 + 6)))))) = 2 from c29), if_neg (show ¬ (¬ (M.1 607 (Int32.toNatClampNeg (((M.1 600 10) + 9) + (M.1 603 (Int32.toNatClampNeg (8 * a1 + 6)))))) = 1) from c49), if_neg (show ¬ ((M.1 603 (Int32.toNatClampNeg (8 * a1 + 7))) ≤ 0) from c59), if_pos (show ((M.1 607 (Int32.toNatClampNeg ((M.1 600 10) + 21))) - (M.1 607 (Int32.toNatClampNeg (((M.1 600 10) + 15) + (M.1 603 (Int32.toNatClampNeg (8 * a1 + 6))))))) ≤ (M.1 603 (Int32.toNatClampNeg (8 * a1 + 7))) from c96)]; rfl)
            · rfl
          · rw [if_neg (show ¬ (((M.1 607 (Int32.toNatClampNeg ((M.1 600 10) + 21))) - (M.1 607 (Int32.toNatClampNeg (((M.1 600 10) + 15) + (M.1 603 (Int32.toNatClampNeg (8 * a1 + 6))))))) ≤ (M.1 603 (Int32.toNatClampNeg (8 * a1 + 7)))) from c96)] at hp
            refine j_iconst g (n := 1) (1) (by decide +kernel) rfl ?_
            refine j_goto g (off := 4) (tgt := 104) (by decide +kernel) (by decide) ?_
            refine hr.1 _ _ _ _ (by decide +kernel) ⟨_, rfl, by first | rfl | exact b2i_nar | decide +kernel⟩ ?_ ?_
            · unfold r_X8_isSpoilt; first | rfl | (simp only [if_pos (show 0 ≤ (M.1 603 (Int32.toNatClampNeg (8 * a1 + 6))) from c9), if_pos (show ¬ (M.1 607 (Int32.toNatClampNeg (((M.1 600 10) + 9) + (M.1 603 (Int32.toNatClampNeg (8 * a1 + 6)))))) = 2 from c29), if_neg (show ¬ (¬ (M.1 607 (Int32.toNatClampNeg (((M.1 600 10) + 9) + (M.1 603 (Int32.toNatClampNeg (8 * a1 + 6)))))) = 1) from c49), if_neg (show ¬ ((M.1 603 (Int32.toNatClampNeg (8 * a1 + 7))) ≤ 0) from c59), if_neg (show ¬ (((M.1 607 (Int32.toNatClampNeg ((M.1 600 10) + 21))) - (M.1 607 (Int32.toNatClampNeg (((M.1 600 10) + 15) + (M.1 603 (Int32.toNatClampNeg (8 * a1 + 6))))))) ≤ (M.1 603 (Int32.toNatClampNeg (8 * a1 + 7)))) from c96)]; done) | (simp only [if_pos (show 0 ≤ (M.1 603 (Int32.toNatClampNeg (8 * a1 + 6))) from c9), if_pos (show ¬ (M.1 607 (Int32.toNatClampNeg (((M.1 600 10) + 9) + (M.1 603 (Int32.toNatClampNeg (8 * a1 + 6)))))) = 2 from c29), if_neg (show ¬ (¬ (M.1 607 (Int32.toNatClampNeg (((M.1 600 10) + 9) + (M.1 603 (Int32.toNatClampNeg (8 * a1 + 6)))))) = 1) from c49), if_neg (show ¬ ((M.1 603 (Int32.toNatClampNeg (8 * a1 + 7))) ≤ 0) from c59), if_neg (show ¬ (((M.1 607 (Int32.toNatClampNeg ((M.1 600 10) + 21))) - (M.1 607 (Int32.toNatClampNeg (((M.1 600 10) + 15) + (M.1 603 (Int32.toNatClampNeg (8 * a1 + 6))))))) ≤ (M.1 603 (Int32.toNatClampNeg (8 * a1 + 7)))) from c96)]; rfl)
            · rfl
    · rw [if_neg (show ¬ (¬ (M.1 607 (Int32.toNatClampNeg (((M.1 600 10) + 9) + (M.1 603 (Int32.toNatClampNeg (8 * a1 + 6)))))) = 2) from c29)] at hp
      refine j_iconst g (n := 1) (1) (by decide +kernel) rfl ?_
      refine hr.1 _ _ _ _ (by decide +kernel) ⟨_, rfl, by first | rfl | exact b2i_nar | decide +kernel⟩ ?_ ?_
      · unfold r_X8_isSpoilt; first | rfl | (simp only [if_pos (show 0 ≤ (M.1 603 (Int32.toNatClampNeg (8 * a1 + 6))) from c9), if_neg (show ¬ (¬ (M.1 607 (Int32.toNatClampNeg (((M.1 600 10) + 9) + (M.1 603 (Int32.toNatClampNeg (8 * a1 + 6)))))) = 2) from c29)]; done) | (simp only [if_pos (show 0 ≤ (M.1 603 (Int32.toNatClampNeg (8 * a1 + 6))) from c9), if_neg (show ¬ (¬ (M.1 607 (Int32.toNatClampNeg (((M.1 600 10) + 9) + (M.1 603 (Int32.toNatClampNeg (8 * a1 + 6)))))) = 2) from c29)]; rfl)
      · rfl
  · rw [if_neg (show ¬ (0 ≤ (M.1 603 (Int32.toNatClampNeg (8 * a1 + 6)))) from c9)] at hp
    refine j_iconst g (n := 0) (0) (by decide +kernel) rfl ?_
    refine hr.1 _ _ _ _ (by decide +kernel) ⟨_, rfl, by first | rfl | exact b2i_nar | decide +kernel⟩ ?_ ?_
    · unfold r_X8_isSpoilt; first | rfl | (simp only [if_neg (show ¬ (0 ≤ (M.1 603 (Int32.toNatClampNeg (8 * a1 + 6)))) from c9)]; done) | (simp only [if_neg (show ¬ (0 ≤ (M.1 603 (Int32.toNatClampNeg (8 * a1 + 6)))) from c9)]; rfl)
    · rfl
def r_X8_worthBy (M : Mm) (a1 : Int32) (a2 : Int32) : Int32 := if (a2 - (M.1 603 (Int32.toNatClampNeg (8 * a1 + 4)))) ≤ 0 then (if (M.1 603 (Int32.toNatClampNeg (8 * a1 + 5))) ≤ 0 then 0 else M.1 603 (Int32.toNatClampNeg (8 * a1 + 5))) else if ((M.1 603 (Int32.toNatClampNeg (8 * a1 + 5))) - (a2 - (M.1 603 (Int32.toNatClampNeg (8 * a1 + 4))))) ≤ 0 then 0 else (M.1 603 (Int32.toNatClampNeg (8 * a1 + 5))) - (a2 - (M.1 603 (Int32.toNatClampNeg (8 * a1 + 4))))
def p_X8_worthBy (M : Mm) (a1 : Int32) (a2 : Int32) : Prop := (vp_in (8 * a1 + 4) 48) ∧ (if (a2 - (M.1 603 (Int32.toNatClampNeg (8 * a1 + 4)))) ≤ 0 then (vp_in (8 * a1 + 5) 48) ∧ (if (M.1 603 (Int32.toNatClampNeg (8 * a1 + 5))) ≤ 0 then True else True) else (vp_in (8 * a1 + 5) 48) ∧ (if ((M.1 603 (Int32.toNatClampNeg (8 * a1 + 5))) - (a2 - (M.1 603 (Int32.toNatClampNeg (8 * a1 + 4))))) ≤ 0 then True else True))
theorem rnX8_worthBy {d : Nat} {M : Mm} {a1 : Int32} {a2 : Int32}  (hp : p_X8_worthBy M a1 a2) : Rn (d + 1) mX8_worthBy [.ref 600, .int a1, .int a2] M (some (.int (r_X8_worthBy M a1 a2))) M := by
  refine Rn.of [some (.ref 600), some (.int a1), some (.int a2), none, none] (by decide +kernel) rfl (Nat.le_of_ble_eq_true rfl) rfl (fun J g hr => ?_)
  unfold p_X8_worthBy at hp
  refine j_iload_n g (i := 2) (by decide +kernel) rfl ?_
  refine j_aload_n g (i := 0) (by decide +kernel) rfl ?_
  refine j_iload_n g (i := 1) (by decide +kernel) rfl ?_
  refine j_iconst g (n := 4) (4) (by decide +kernel) rfl ?_
  obtain ⟨h0, hp⟩ := hp
  refine j_cV2r g v8_249 ⟨rfl, by decide⟩ (by decide +kernel) (by decide +kernel) (Nat.le_of_ble_eq_true rfl) (rnX8_its h0) ?_
  refine j_isub g (by decide +kernel) ?_
  refine j_istore_n g (i := 3) (by decide +kernel) (by decide) ?_
  dsimp only [stL, clL, hdL]
  refine j_iload_n g (i := 3) (by decide +kernel) rfl ?_
  refine j_if_le g (off := 14) (tgt := 24) (by decide +kernel) (by decide) (fun c10 => ?_) (fun c10 => ?_)
  · rw [if_pos (show (a2 - (M.1 603 (Int32.toNatClampNeg (8 * a1 + 4)))) ≤ 0 from c10)] at hp
    refine j_aload_n g (i := 0) (by decide +kernel) rfl ?_
    refine j_iload_n g (i := 1) (by decide +kernel) rfl ?_
    refine j_iconst g (n := 5) (5) (by decide +kernel) rfl ?_
    obtain ⟨h0, hp⟩ := hp
    refine j_cV2r g v8_249 ⟨rfl, by decide⟩ (by decide +kernel) (by decide +kernel) (Nat.le_of_ble_eq_true rfl) (rnX8_its h0) ?_
    refine j_istore g (i := 4) (by decide +kernel) (by decide) ?_
    dsimp only [stL, clL, hdL]
    refine j_iload g (i := 4) (by decide +kernel) rfl ?_
    refine j_if_le g (off := 8) (tgt := 42) (by decide +kernel) (by decide) (fun c34 => ?_) (fun c34 => ?_)
    · rw [if_pos (show (M.1 603 (Int32.toNatClampNeg (8 * a1 + 5))) ≤ 0 from c34)] at hp
      refine j_iconst g (n := 0) (0) (by decide +kernel) rfl ?_
      refine hr.1 _ _ _ _ (by decide +kernel) ⟨_, rfl, by first | rfl | exact b2i_nar | rfl⟩ ?_ ?_
      · unfold r_X8_worthBy; first | rfl | (simp only [if_pos (show (a2 - (M.1 603 (Int32.toNatClampNeg (8 * a1 + 4)))) ≤ 0 from c10), if_pos (show (M.1 603 (Int32.toNatClampNeg (8 * a1 + 5))) ≤ 0 from c34)]; done) | (simp only [if_pos (show (a2 - (M.1 603 (Int32.toNatClampNeg (8 * a1 + 4)))) ≤ 0 from c10), if_pos (show (M.1 603 (Int32.toNatClampNeg (8 * a1 + 5))) ≤ 0 from c34)]; rfl)
      · rfl
    · rw [if_neg (show ¬ ((M.1 603 (Int32.toNatClampNeg (8 * a1 + 5))) ≤ 0) from c34)] at hp
      refine j_iload g (i := 4) (by decide +kernel) rfl ?_
      refine j_goto g (off := 4) (tgt := 43) (by decide +kernel) (by decide) ?_
      refine hr.1 _ _ _ _ (by decide +kernel) ⟨_, rfl, by first | rfl | exact b2i_nar | rfl⟩ ?_ ?_
      · unfold r_X8_worthBy; first | rfl | (simp only [if_pos (show (a2 - (M.1 603 (Int32.toNatClampNeg (8 * a1 + 4)))) ≤ 0 from c10), if_neg (show ¬ ((M.1 603 (Int32.toNatClampNeg (8 * a1 + 5))) ≤ 0) from c34)]; done) | (simp only [if_pos (show (a2 - (M.1 603 (Int32.toNatClampNeg (8 * a1 + 4)))) ≤ 0 from c10), if_neg (show ¬ ((M.1 603 (Int32.toNatClampNeg (8 * a1 + 5))) ≤ 0) from c34)]; rfl)
      · rfl
  · rw [if_neg (show ¬ ((a2 - (M.1 603 (Int32.toNatClampNeg (8 * a1 + 4)))) ≤ 0) from c10)] at hp
    refine j_aload_n g (i := 0) (by decide +kernel) rfl ?_
    refine j_iload_n g (i := 1) (by decide +kernel) rfl ?_
    refine j_iconst g (n := 5) (5) (by decide +kernel) rfl ?_
    obtain ⟨h0, hp⟩ := hp
    refine j_cV2r g v8_249 ⟨rfl, by decide⟩ (by decide +kernel) (by decide +kernel) (Nat.le_of_ble_eq_true rfl) (rnX8_its h0) ?_
    refine j_iload_n g (i := 3) (by decide +kernel) rfl ?_
    refine j_isub g (by decide +kernel) ?_
    refine j_goto g (off := 9) (tgt := 30) (by decide +kernel) (by decide) ?_
    refine j_istore g (i := 4) (by decide +kernel) (by decide) ?_
    dsimp only [stL, clL, hdL]
    refine j_iload g (i := 4) (by decide +kernel) rfl ?_
    refine j_if_le g (off := 8) (tgt := 42) (by decide +kernel) (by decide) (fun c34 => ?_) (fun c34 => ?_)
    · rw [if_pos (show ((M.1 603 (Int32.toNatClampNeg (8 * a1 + 5))) - (a2 - (M.1 603 (Int32.toNatClampNeg (8 * a1 + 4))))) ≤ 0 from c34)] at hp
      refine j_iconst g (n := 0) (0) (by decide +kernel) rfl ?_
      refine hr.1 _ _ _ _ (by decide +kernel) ⟨_, rfl, by first | rfl | exact b2i_nar | rfl⟩ ?_ ?_
      · unfold r_X8_worthBy; first | rfl | (simp only [if_neg (show ¬ ((a2 - (M.1 603 (Int32.toNatClampNeg (8 * a1 + 4)))) ≤ 0) from c10), if_pos (show ((M.1 603 (Int32.toNatClampNeg (8 * a1 + 5))) - (a2 - (M.1 603 (Int32.toNatClampNeg (8 * a1 + 4))))) ≤ 0 from c34)]; done) | (simp only [if_neg (show ¬ ((a2 - (M.1 603 (Int32.toNatClampNeg (8 * a1 + 4)))) ≤ 0) from c10), if_pos (show ((M.1 603 (Int32.toNatClampNeg (8 * a1 + 5))) - (a2 - (M.1 603 (Int32.toNatClampNeg (8 * a1 + 4))))) ≤ 0 from c34)]; rfl)
      · rfl
    · rw [if_neg (show ¬ (((M.1 603 (Int32.toNatClampNeg (8 * a1 + 5))) - (a2 - (M.1 603 (Int32.toNatClampNeg (8 * a1 + 4))))) ≤ 0) from c34)] at hp
      refine j_iload g (i := 4) (by decide +kernel) rfl ?_
      refine j_goto g (off := 4) (tgt := 43) (by decide +kernel) (by decide) ?_
      refine hr.1 _ _ _ _ (by decide +kernel) ⟨_, rfl, by first | rfl | exact b2i_nar | rfl⟩ ?_ ?_
      · unfold r_X8_worthBy; first | rfl | (simp only [if_neg (show ¬ ((a2 - (M.1 603 (Int32.toNatClampNeg (8 * a1 + 4)))) ≤ 0) from c10), if_neg (show ¬ (((M.1 603 (Int32.toNatClampNeg (8 * a1 + 5))) - (a2 - (M.1 603 (Int32.toNatClampNeg (8 * a1 + 4))))) ≤ 0) from c34)]; done) | (simp only [if_neg (show ¬ ((a2 - (M.1 603 (Int32.toNatClampNeg (8 * a1 + 4)))) ≤ 0) from c10), if_neg (show ¬ (((M.1 603 (Int32.toNatClampNeg (8 * a1 + 5))) - (a2 - (M.1 603 (Int32.toNatClampNeg (8 * a1 + 4))))) ≤ 0) from c34)]; rfl)
      · rfl
def r_X8_isFree (M : Mm) (a1 : Int32) : Int32 := if (b2i (M.1 607 (Int32.toNatClampNeg (M.1 600 10 + 9 + a1)) = 0)) = 0 then 0 else if (M.1 603 (Int32.toNatClampNeg (8 * a1 + 6))) < 0 then 1 else if 0 ≤ (M.1 603 (Int32.toNatClampNeg (8 * a1 + 6))) then (if ¬ (b2i (M.1 607 (Int32.toNatClampNeg (M.1 600 10 + 9 + (M.1 603 (Int32.toNatClampNeg (8 * a1 + 6))))) = 0)) = 0 then 0 else 1) else if ¬ (b2i (M.1 607 (Int32.toNatClampNeg (M.1 600 10 + 9 + 0)) = 0)) = 0 then 0 else 1
def p_X8_isFree (M : Mm) (a1 : Int32) : Prop := (vp_in (M.1 600 10 + 9 + a1) 44) ∧ (if (b2i (M.1 607 (Int32.toNatClampNeg (M.1 600 10 + 9 + a1)) = 0)) = 0 then True else (vp_in (8 * a1 + 6) 48) ∧ (if (M.1 603 (Int32.toNatClampNeg (8 * a1 + 6))) < 0 then True else (vp_in (8 * a1 + 6) 48) ∧ (if 0 ≤ (M.1 603 (Int32.toNatClampNeg (8 * a1 + 6))) then (vp_in (8 * a1 + 6) 48) ∧ (vp_in (M.1 600 10 + 9 + (M.1 603 (Int32.toNatClampNeg (8 * a1 + 6)))) 44) ∧ (if ¬ (b2i (M.1 607 (Int32.toNatClampNeg (M.1 600 10 + 9 + (M.1 603 (Int32.toNatClampNeg (8 * a1 + 6))))) = 0)) = 0 then True else True) else (vp_in (M.1 600 10 + 9 + 0) 44) ∧ (if ¬ (b2i (M.1 607 (Int32.toNatClampNeg (M.1 600 10 + 9 + 0)) = 0)) = 0 then True else True))))
theorem rnX8_isFree {d : Nat} {M : Mm} {a1 : Int32}  (hp : p_X8_isFree M a1) : Rn (d + 1) mX8_isFree [.ref 600, .int a1] M (some (.int (r_X8_isFree M a1))) M := by
  refine Rn.of [some (.ref 600), some (.int a1)] (by decide +kernel) rfl (Nat.le_of_ble_eq_true rfl) rfl (fun J g hr => ?_)
  unfold p_X8_isFree at hp
  refine j_aload_n g (i := 0) (by decide +kernel) rfl ?_
  refine j_iload_n g (i := 1) (by decide +kernel) rfl ?_
  obtain ⟨h0, hp⟩ := hp
  refine j_cV1r g v8_246 ⟨rfl, by decide⟩ (by decide +kernel) (by decide +kernel) (Nat.le_of_ble_eq_true rfl) (rnX8_isOpen h0) ?_
  refine j_if_eq g (off := 45) (tgt := 50) (by decide +kernel) (by decide) (fun c5 => ?_) (fun c5 => ?_)
  · rw [if_pos (show (b2i (M.1 607 (Int32.toNatClampNeg (M.1 600 10 + 9 + a1)) = 0)) = 0 from c5)] at hp
    refine j_iconst g (n := 0) (0) (by decide +kernel) rfl ?_
    refine hr.1 _ _ _ _ (by decide +kernel) ⟨_, rfl, by first | rfl | exact b2i_nar | decide +kernel⟩ ?_ ?_
    · unfold r_X8_isFree; first | rfl | (simp only [if_pos (show (b2i (M.1 607 (Int32.toNatClampNeg (M.1 600 10 + 9 + a1)) = 0)) = 0 from c5)]; done) | (simp only [if_pos (show (b2i (M.1 607 (Int32.toNatClampNeg (M.1 600 10 + 9 + a1)) = 0)) = 0 from c5)]; rfl)
    · rfl
  · rw [if_neg (show ¬ ((b2i (M.1 607 (Int32.toNatClampNeg (M.1 600 10 + 9 + a1)) = 0)) = 0) from c5)] at hp
    refine j_aload_n g (i := 0) (by decide +kernel) rfl ?_
    refine j_iload_n g (i := 1) (by decide +kernel) rfl ?_
    refine j_bipush g (n := 6) (6) (by decide +kernel) (by decide +kernel) ?_
    obtain ⟨h0, hp⟩ := hp
    refine j_cV2r g v8_249 ⟨rfl, by decide⟩ (by decide +kernel) (by decide +kernel) (Nat.le_of_ble_eq_true rfl) (rnX8_its h0) ?_
    refine j_if_lt g (off := 31) (tgt := 46) (by decide +kernel) (by decide) (fun c15 => ?_) (fun c15 => ?_)
    · rw [if_pos (show (M.1 603 (Int32.toNatClampNeg (8 * a1 + 6))) < 0 from c15)] at hp
      refine j_iconst g (n := 1) (1) (by decide +kernel) rfl ?_
      refine j_goto g (off := 4) (tgt := 51) (by decide +kernel) (by decide) ?_
      refine hr.1 _ _ _ _ (by decide +kernel) ⟨_, rfl, by first | rfl | exact b2i_nar | decide +kernel⟩ ?_ ?_
      · unfold r_X8_isFree; first | rfl | (simp only [if_neg (show ¬ ((b2i (M.1 607 (Int32.toNatClampNeg (M.1 600 10 + 9 + a1)) = 0)) = 0) from c5), if_pos (show (M.1 603 (Int32.toNatClampNeg (8 * a1 + 6))) < 0 from c15)]; done) | (simp only [if_neg (show ¬ ((b2i (M.1 607 (Int32.toNatClampNeg (M.1 600 10 + 9 + a1)) = 0)) = 0) from c5), if_pos (show (M.1 603 (Int32.toNatClampNeg (8 * a1 + 6))) < 0 from c15)]; rfl)
      · rfl
    · rw [if_neg (show ¬ ((M.1 603 (Int32.toNatClampNeg (8 * a1 + 6))) < 0) from c15)] at hp
      refine j_aload_n g (i := 0) (by decide +kernel) rfl ?_
      refine j_aload_n g (i := 0) (by decide +kernel) rfl ?_
      refine j_iload_n g (i := 1) (by decide +kernel) rfl ?_
      refine j_bipush g (n := 6) (6) (by decide +kernel) (by decide +kernel) ?_
      obtain ⟨h0, hp⟩ := hp
      refine j_cV2r g v8_249 ⟨rfl, by decide⟩ (by decide +kernel) (by decide +kernel) (Nat.le_of_ble_eq_true rfl) (rnX8_its h0) ?_
      refine j_if_ge g (off := 7) (tgt := 33) (by decide +kernel) (by decide) (fun c26 => ?_) (fun c26 => ?_)
      · rw [if_pos (show 0 ≤ (M.1 603 (Int32.toNatClampNeg (8 * a1 + 6))) from c26)] at hp
        refine j_aload_n g (i := 0) (by decide +kernel) rfl ?_
        refine j_iload_n g (i := 1) (by decide +kernel) rfl ?_
        refine j_bipush g (n := 6) (6) (by decide +kernel) (by decide +kernel) ?_
        obtain ⟨h0, hp⟩ := hp
        refine j_cV2r g v8_249 ⟨rfl, by decide⟩ (by decide +kernel) (by decide +kernel) (Nat.le_of_ble_eq_true rfl) (rnX8_its h0) ?_
        obtain ⟨h0, hp⟩ := hp
        refine j_cV1r g v8_246 ⟨rfl, by decide⟩ (by decide +kernel) (by decide +kernel) (Nat.le_of_ble_eq_true rfl) (rnX8_isOpen h0) ?_
        refine j_if_ne g (off := 7) (tgt := 50) (by decide +kernel) (by decide) (fun c43 => ?_) (fun c43 => ?_)
        · rw [if_pos (show ¬ (b2i (M.1 607 (Int32.toNatClampNeg (M.1 600 10 + 9 + (M.1 603 (Int32.toNatClampNeg (8 * a1 + 6))))) = 0)) = 0 from c43)] at hp
          refine j_iconst g (n := 0) (0) (by decide +kernel) rfl ?_
          refine hr.1 _ _ _ _ (by decide +kernel) ⟨_, rfl, by first | rfl | exact b2i_nar | decide +kernel⟩ ?_ ?_
          · unfold r_X8_isFree; first | rfl | (simp only [if_neg (show ¬ ((b2i (M.1 607 (Int32.toNatClampNeg (M.1 600 10 + 9 + a1)) = 0)) = 0) from c5), if_neg (show ¬ ((M.1 603 (Int32.toNatClampNeg (8 * a1 + 6))) < 0) from c15), if_pos (show 0 ≤ (M.1 603 (Int32.toNatClampNeg (8 * a1 + 6))) from c26), if_pos (show ¬ (b2i (M.1 607 (Int32.toNatClampNeg (M.1 600 10 + 9 + (M.1 603 (Int32.toNatClampNeg (8 * a1 + 6))))) = 0)) = 0 from c43)]; done) | (simp only [if_neg (show ¬ ((b2i (M.1 607 (Int32.toNatClampNeg (M.1 600 10 + 9 + a1)) = 0)) = 0) from c5), if_neg (show ¬ ((M.1 603 (Int32.toNatClampNeg (8 * a1 + 6))) < 0) from c15), if_pos (show 0 ≤ (M.1 603 (Int32.toNatClampNeg (8 * a1 + 6))) from c26), if_pos (show ¬ (b2i (M.1 607 (Int32.toNatClampNeg (M.1 600 10 + 9 + (M.1 603 (Int32.toNatClampNeg (8 * a1 + 6))))) = 0)) = 0 from c43)]; rfl)
          · rfl
        · rw [if_neg (show ¬ (¬ (b2i (M.1 607 (Int32.toNatClampNeg (M.1 600 10 + 9 + (M.1 603 (Int32.toNatClampNeg (8 * a1 + 6))))) = 0)) = 0) from c43)] at hp
          refine j_iconst g (n := 1) (1) (by decide +kernel) rfl ?_
          refine j_goto g (off := 4) (tgt := 51) (by decide +kernel) (by decide) ?_
          refine hr.1 _ _ _ _ (by decide +kernel) ⟨_, rfl, by first | rfl | exact b2i_nar | decide +kernel⟩ ?_ ?_
          · unfold r_X8_isFree; first | rfl | (simp only [if_neg (show ¬ ((b2i (M.1 607 (Int32.toNatClampNeg (M.1 600 10 + 9 + a1)) = 0)) = 0) from c5), if_neg (show ¬ ((M.1 603 (Int32.toNatClampNeg (8 * a1 + 6))) < 0) from c15), if_pos (show 0 ≤ (M.1 603 (Int32.toNatClampNeg (8 * a1 + 6))) from c26), if_neg (show ¬ (¬ (b2i (M.1 607 (Int32.toNatClampNeg (M.1 600 10 + 9 + (M.1 603 (Int32.toNatClampNeg (8 * a1 + 6))))) = 0)) = 0) from c43)]; done) | (simp only [if_neg (show ¬ ((b2i (M.1 607 (Int32.toNatClampNeg (M.1 600 10 + 9 + a1)) = 0)) = 0) from c5), if_neg (show ¬ ((M.1 603 (Int32.toNatClampNeg (8 * a1 + 6))) < 0) from c15), if_pos (show 0 ≤ (M.1 603 (Int32.toNatClampNeg (8 * a1 + 6))) from c26), if_neg (show ¬ (¬ (b2i (M.1 607 (Int32.toNatClampNeg (M.1 600 10 + 9 + (M.1 603 (Int32.toNatClampNeg (8 * a1 + 6))))) = 0)) = 0) from c43)]; rfl)
          · rfl
      · rw [if_neg (show ¬ (0 ≤ (M.1 603 (Int32.toNatClampNeg (8 * a1 + 6)))) from c26)] at hp
        refine j_iconst g (n := 0) (0) (by decide +kernel) rfl ?_
        refine j_goto g (off := 10) (tgt := 40) (by decide +kernel) (by decide) ?_
        obtain ⟨h0, hp⟩ := hp
        refine j_cV1r g v8_246 ⟨rfl, by decide⟩ (by decide +kernel) (by decide +kernel) (Nat.le_of_ble_eq_true rfl) (rnX8_isOpen h0) ?_
        refine j_if_ne g (off := 7) (tgt := 50) (by decide +kernel) (by decide) (fun c43 => ?_) (fun c43 => ?_)
        · rw [if_pos (show ¬ (b2i (M.1 607 (Int32.toNatClampNeg (M.1 600 10 + 9 + 0)) = 0)) = 0 from c43)] at hp
          refine j_iconst g (n := 0) (0) (by decide +kernel) rfl ?_
          refine hr.1 _ _ _ _ (by decide +kernel) ⟨_, rfl, by first | rfl | exact b2i_nar | decide +kernel⟩ ?_ ?_
          · unfold r_X8_isFree; first | rfl | (simp only [if_neg (show ¬ ((b2i (M.1 607 (Int32.toNatClampNeg (M.1 600 10 + 9 + a1)) = 0)) = 0) from c5), if_neg (show ¬ ((M.1 603 (Int32.toNatClampNeg (8 * a1 + 6))) < 0) from c15), if_neg (show ¬ (0 ≤ (M.1 603 (Int32.toNatClampNeg (8 * a1 + 6)))) from c26), if_pos (show ¬ (b2i (M.1 607 (Int32.toNatClampNeg (M.1 600 10 + 9 + 0)) = 0)) = 0 from c43)]; done) | (simp only [if_neg (show ¬ ((b2i (M.1 607 (Int32.toNatClampNeg (M.1 600 10 + 9 + a1)) = 0)) = 0) from c5), if_neg (show ¬ ((M.1 603 (Int32.toNatClampNeg (8 * a1 + 6))) < 0) from c15), if_neg (show ¬ (0 ≤ (M.1 603 (Int32.toNatClampNeg (8 * a1 + 6)))) from c26), if_pos (show ¬ (b2i (M.1 607 (Int32.toNatClampNeg (M.1 600 10 + 9 + 0)) = 0)) = 0 from c43)]; rfl)
          · rfl
        · rw [if_neg (show ¬ (¬ (b2i (M.1 607 (Int32.toNatClampNeg (M.1 600 10 + 9 + 0)) = 0)) = 0) from c43)] at hp
          refine j_iconst g (n := 1) (1) (by decide +kernel) rfl ?_
          refine j_goto g (off := 4) (tgt := 51) (by decide +kernel) (by decide) ?_
          refine hr.1 _ _ _ _ (by decide +kernel) ⟨_, rfl, by first | rfl | exact b2i_nar | decide +kernel⟩ ?_ ?_
          · unfold r_X8_isFree; first | rfl | (simp only [if_neg (show ¬ ((b2i (M.1 607 (Int32.toNatClampNeg (M.1 600 10 + 9 + a1)) = 0)) = 0) from c5), if_neg (show ¬ ((M.1 603 (Int32.toNatClampNeg (8 * a1 + 6))) < 0) from c15), if_neg (show ¬ (0 ≤ (M.1 603 (Int32.toNatClampNeg (8 * a1 + 6)))) from c26), if_neg (show ¬ (¬ (b2i (M.1 607 (Int32.toNatClampNeg (M.1 600 10 + 9 + 0)) = 0)) = 0) from c43)]; done) | (simp only [if_neg (show ¬ ((b2i (M.1 607 (Int32.toNatClampNeg (M.1 600 10 + 9 + a1)) = 0)) = 0) from c5), if_neg (show ¬ ((M.1 603 (Int32.toNatClampNeg (8 * a1 + 6))) < 0) from c15), if_neg (show ¬ (0 ≤ (M.1 603 (Int32.toNatClampNeg (8 * a1 + 6)))) from c26), if_neg (show ¬ (¬ (b2i (M.1 607 (Int32.toNatClampNeg (M.1 600 10 + 9 + 0)) = 0)) = 0) from c43)]; rfl)
          · rfl
def r_X8_had (M : Mm)  : Int32 := M.1 600 11
theorem rnX8_had {d : Nat} {M : Mm}   : Rn (d) mX8_had [.ref 600] M (some (.int (r_X8_had M ))) M := by
  refine Rn.of [some (.ref 600)] (by decide +kernel) rfl (Nat.le_of_ble_eq_true rfl) rfl (fun J g hr => ?_)
  refine j_aload_n g (i := 0) (by decide +kernel) rfl ?_
  refine j_gI g f8_231 (by decide +kernel) (by decide +kernel) (by decide +kernel) ?_
  refine hr.1 _ _ _ _ (by decide +kernel) ⟨_, rfl, by first | rfl | exact b2i_nar | rfl⟩ ?_ ?_
  · rfl
  · rfl
def w_X8_swaps (M : Mm) (a1 : Int32) (a2 : Int32) : Mm := (wi (wi M 614 (Int32.toNatClampNeg a1) (M.1 614 (Int32.toNatClampNeg a2))) 614 (Int32.toNatClampNeg a2) (M.1 614 (Int32.toNatClampNeg a1)))
def p_X8_swaps (M : Mm) (a1 : Int32) (a2 : Int32) : Prop := (vp_in a1 6) ∧ (vp_in a2 6) ∧ (vp_in a1 6) ∧ (vp_in a2 6) ∧ True
theorem rnX8_swaps {d : Nat} {M : Mm} {a1 : Int32} {a2 : Int32}  (hp : p_X8_swaps M a1 a2) : Rn (d) mX8_swaps [.ref 600, .int a1, .int a2] M none (w_X8_swaps M a1 a2) := by
  refine Rn.of [some (.ref 600), some (.int a1), some (.int a2), none] (by decide +kernel) rfl (Nat.le_of_ble_eq_true rfl) rfl (fun J g hr => ?_)
  unfold p_X8_swaps at hp
  refine j_aload_n g (i := 0) (by decide +kernel) rfl ?_
  refine j_gA g (b := 614) f8_49 (by decide +kernel) (by decide +kernel) (by decide +kernel) (by decide +kernel) ?_
  refine j_iload_n g (i := 1) (by decide +kernel) rfl ?_
  obtain ⟨h0, hp⟩ := hp
  refine j_ia g 6 (by decide +kernel) (by decide +kernel) (by decide +kernel) h0 ?_
  refine j_istore_n g (i := 3) (by decide +kernel) (by decide) ?_
  dsimp only [stL, clL, hdL]
  refine j_aload_n g (i := 0) (by decide +kernel) rfl ?_
  refine j_gA g (b := 614) f8_49 (by decide +kernel) (by decide +kernel) (by decide +kernel) (by decide +kernel) ?_
  refine j_iload_n g (i := 1) (by decide +kernel) rfl ?_
  refine j_aload_n g (i := 0) (by decide +kernel) rfl ?_
  refine j_gA g (b := 614) f8_49 (by decide +kernel) (by decide +kernel) (by decide +kernel) (by decide +kernel) ?_
  refine j_iload_n g (i := 2) (by decide +kernel) rfl ?_
  obtain ⟨h0, hp⟩ := hp
  refine j_ia g 6 (by decide +kernel) (by decide +kernel) (by decide +kernel) h0 ?_
  obtain ⟨h0, hp⟩ := hp
  refine j_is g 6 (by decide +kernel) (by decide +kernel) (by decide +kernel) h0 ?_
  refine j_aload_n g (i := 0) (by decide +kernel) rfl ?_
  refine j_gA g (b := 614) f8_49 (by decide +kernel) (by decide +kernel) (by decide +kernel) (by decide +kernel) ?_
  refine j_iload_n g (i := 2) (by decide +kernel) rfl ?_
  refine j_iload_n g (i := 3) (by decide +kernel) rfl ?_
  obtain ⟨h0, hp⟩ := hp
  refine j_is g 6 (by decide +kernel) (by decide +kernel) (by decide +kernel) h0 ?_
  refine hr.2.2.2 _ _ _ (by decide +kernel) rfl rfl ?_
  · rfl
def r_X8_rule (M : Mm) (a1 : Int32) (a2 : Int32) : Int32 := if (b2i (1 ≤ a1 ∧ a1 ≤ 5)) = 0 then (-1) else if ¬ (b2i (0 ≤ a2 ∧ a2 ≤ 9)) = 0 then (if ¬ (M.1 600 12) = 4 then ((M.1 600 12) + 1) - 1 else (-2)) else (-1)
def w_X8_rule (M : Mm) (a1 : Int32) (a2 : Int32) : Mm := if (b2i (1 ≤ a1 ∧ a1 ≤ 5)) = 0 then M else if ¬ (b2i (0 ≤ a2 ∧ a2 ≤ 9)) = 0 then (if ¬ (M.1 600 12) = 4 then (wi (wi (wi M 608 (Int32.toNatClampNeg (2 * (M.1 600 12))) a1) 608 (Int32.toNatClampNeg ((2 * (M.1 600 12)) + 1)) a2) 600 12 ((M.1 600 12) + 1)) else M) else M
def p_X8_rule (M : Mm) (a1 : Int32) (a2 : Int32) : Prop := (if (b2i (1 ≤ a1 ∧ a1 ≤ 5)) = 0 then True else (if ¬ (b2i (0 ≤ a2 ∧ a2 ≤ 9)) = 0 then (if ¬ (M.1 600 12) = 4 then (vp_in (2 * (M.1 600 12)) 8) ∧ (vp_in ((2 * (M.1 600 12)) + 1) 8) ∧ True else True) else True))
theorem rnX8_rule {d : Nat} {M : Mm} {a1 : Int32} {a2 : Int32}  (hp : p_X8_rule M a1 a2) : Rn (d + 1) mX8_rule [.ref 600, .int a1, .int a2] M (some (.int (r_X8_rule M a1 a2))) (w_X8_rule M a1 a2) := by
  refine Rn.of [some (.ref 600), some (.int a1), some (.int a2)] (by decide +kernel) rfl (Nat.le_of_ble_eq_true rfl) rfl (fun J g hr => ?_)
  unfold p_X8_rule at hp
  refine j_iload_n g (i := 1) (by decide +kernel) rfl ?_
  refine j_iconst g (n := 1) (1) (by decide +kernel) rfl ?_
  refine j_iconst g (n := 5) (5) (by decide +kernel) rfl ?_
  refine j_cS3r g s8_95 (by decide +kernel) (Nat.le_of_ble_eq_true rfl) (rnX8_in) ?_
  refine j_if_eq g (off := 13) (tgt := 19) (by decide +kernel) (by decide) (fun c6 => ?_) (fun c6 => ?_)
  · rw [if_pos (show (b2i (1 ≤ a1 ∧ a1 ≤ 5)) = 0 from c6)] at hp
    refine j_iconst g (n := -1) (-1) (by decide +kernel) rfl ?_
    refine hr.1 _ _ _ _ (by decide +kernel) ⟨_, rfl, by first | rfl | exact b2i_nar | rfl⟩ ?_ ?_
    · unfold r_X8_rule; first | rfl | (simp only [if_pos (show (b2i (1 ≤ a1 ∧ a1 ≤ 5)) = 0 from c6)]; done) | (simp only [if_pos (show (b2i (1 ≤ a1 ∧ a1 ≤ 5)) = 0 from c6)]; rfl)
    · unfold w_X8_rule; first | rfl | (simp only [if_pos (show (b2i (1 ≤ a1 ∧ a1 ≤ 5)) = 0 from c6)]; done) | (simp only [if_pos (show (b2i (1 ≤ a1 ∧ a1 ≤ 5)) = 0 from c6)]; rfl)
  · rw [if_neg (show ¬ ((b2i (1 ≤ a1 ∧ a1 ≤ 5)) = 0) from c6)] at hp
    refine j_iload_n g (i := 2) (by decide +kernel) rfl ?_
    refine j_iconst g (n := 0) (0) (by decide +kernel) rfl ?_
    refine j_bipush g (n := 9) (9) (by decide +kernel) (by decide +kernel) ?_
    refine j_cS3r g s8_95 (by decide +kernel) (Nat.le_of_ble_eq_true rfl) (rnX8_in) ?_
    refine j_if_ne g (off := 5) (tgt := 21) (by decide +kernel) (by decide) (fun c16 => ?_) (fun c16 => ?_)
    · rw [if_pos (show ¬ (b2i (0 ≤ a2 ∧ a2 ≤ 9)) = 0 from c16)] at hp
      refine j_aload_n g (i := 0) (by decide +kernel) rfl ?_
      refine j_gI g f8_368 (by decide +kernel) (by decide +kernel) (by decide +kernel) ?_
      refine j_iconst g (n := 4) (4) (by decide +kernel) rfl ?_
      refine j_icmp_ne g (off := 6) (tgt := 32) (by decide +kernel) (by decide) (fun c26 => ?_) (fun c26 => ?_)
      · rw [if_pos (show ¬ (M.1 600 12) = 4 from c26)] at hp
        refine j_aload_n g (i := 0) (by decide +kernel) rfl ?_
        refine j_gA g (b := 608) f8_31 (by decide +kernel) (by decide +kernel) (by decide +kernel) (by decide +kernel) ?_
        refine j_iconst g (n := 2) (2) (by decide +kernel) rfl ?_
        refine j_aload_n g (i := 0) (by decide +kernel) rfl ?_
        refine j_gI g f8_368 (by decide +kernel) (by decide +kernel) (by decide +kernel) ?_
        refine j_imul g (by decide +kernel) ?_
        refine j_iload_n g (i := 1) (by decide +kernel) rfl ?_
        obtain ⟨h0, hp⟩ := hp
        refine j_is g 8 (by decide +kernel) (by decide +kernel) (by decide +kernel) h0 ?_
        refine j_aload_n g (i := 0) (by decide +kernel) rfl ?_
        refine j_gA g (b := 608) f8_31 (by decide +kernel) (by decide +kernel) (by decide +kernel) (by decide +kernel) ?_
        refine j_iconst g (n := 2) (2) (by decide +kernel) rfl ?_
        refine j_aload_n g (i := 0) (by decide +kernel) rfl ?_
        refine j_gI g f8_368 (by decide +kernel) (by decide +kernel) (by decide +kernel) ?_
        refine j_imul g (by decide +kernel) ?_
        refine j_iconst g (n := 1) (1) (by decide +kernel) rfl ?_
        refine j_iadd g (by decide +kernel) ?_
        refine j_iload_n g (i := 2) (by decide +kernel) rfl ?_
        obtain ⟨h0, hp⟩ := hp
        refine j_is g 8 (by decide +kernel) (by decide +kernel) (by decide +kernel) h0 ?_
        refine j_aload_n g (i := 0) (by decide +kernel) rfl ?_
        refine j_dup g (by decide +kernel) rfl ?_
        refine j_gI g f8_368 (by decide +kernel) (by decide +kernel) (by decide +kernel) ?_
        refine j_iconst g (n := 1) (1) (by decide +kernel) rfl ?_
        refine j_iadd g (by decide +kernel) ?_
        refine j_pI g f8_368 (fun q h => by cases h; rfl) (by decide +kernel) (by decide +kernel) (by decide +kernel) ?_
        refine j_aload_n g (i := 0) (by decide +kernel) rfl ?_
        refine j_gI g f8_368 (by decide +kernel) (by decide +kernel) (by decide +kernel) ?_
        refine j_iconst g (n := 1) (1) (by decide +kernel) rfl ?_
        refine j_isub g (by decide +kernel) ?_
        refine hr.1 _ _ _ _ (by decide +kernel) ⟨_, rfl, by first | rfl | exact b2i_nar | rfl⟩ ?_ ?_
        · unfold r_X8_rule; first | rfl | (simp only [if_neg (show ¬ ((b2i (1 ≤ a1 ∧ a1 ≤ 5)) = 0) from c6), if_pos (show ¬ (b2i (0 ≤ a2 ∧ a2 ≤ 9)) = 0 from c16), if_pos (show ¬ (M.1 600 12) = 4 from c26)]; done) | (simp only [if_neg (show ¬ ((b2i (1 ≤ a1 ∧ a1 ≤ 5)) = 0) from c6), if_pos (show ¬ (b2i (0 ≤ a2 ∧ a2 ≤ 9)) = 0 from c16), if_pos (show ¬ (M.1 600 12) = 4 from c26)]; rfl)
        · unfold w_X8_rule; first | rfl | (simp only [if_neg (show ¬ ((b2i (1 ≤ a1 ∧ a1 ≤ 5)) = 0) from c6), if_pos (show ¬ (b2i (0 ≤ a2 ∧ a2 ≤ 9)) = 0 from c16), if_pos (show ¬ (M.1 600 12) = 4 from c26)]; done) | (simp only [if_neg (show ¬ ((b2i (1 ≤ a1 ∧ a1 ≤ 5)) = 0) from c6), if_pos (show ¬ (b2i (0 ≤ a2 ∧ a2 ≤ 9)) = 0 from c16), if_pos (show ¬ (M.1 600 12) = 4 from c26)]; rfl)
      · rw [if_neg (show ¬ (¬ (M.1 600 12) = 4) from c26)] at hp
        refine j_bipush g (n := -2) (-2) (by decide +kernel) (by decide +kernel) ?_
        refine hr.1 _ _ _ _ (by decide +kernel) ⟨_, rfl, by first | rfl | exact b2i_nar | rfl⟩ ?_ ?_
        · unfold r_X8_rule; first | rfl | (simp only [if_neg (show ¬ ((b2i (1 ≤ a1 ∧ a1 ≤ 5)) = 0) from c6), if_pos (show ¬ (b2i (0 ≤ a2 ∧ a2 ≤ 9)) = 0 from c16), if_neg (show ¬ (¬ (M.1 600 12) = 4) from c26)]; done) | (simp only [if_neg (show ¬ ((b2i (1 ≤ a1 ∧ a1 ≤ 5)) = 0) from c6), if_pos (show ¬ (b2i (0 ≤ a2 ∧ a2 ≤ 9)) = 0 from c16), if_neg (show ¬ (¬ (M.1 600 12) = 4) from c26)]; rfl)
        · unfold w_X8_rule; first | rfl | (simp only [if_neg (show ¬ ((b2i (1 ≤ a1 ∧ a1 ≤ 5)) = 0) from c6), if_pos (show ¬ (b2i (0 ≤ a2 ∧ a2 ≤ 9)) = 0 from c16), if_neg (show ¬ (¬ (M.1 600 12) = 4) from c26)]; done) | (simp only [if_neg (show ¬ ((b2i (1 ≤ a1 ∧ a1 ≤ 5)) = 0) from c6), if_pos (show ¬ (b2i (0 ≤ a2 ∧ a2 ≤ 9)) = 0 from c16), if_neg (show ¬ (¬ (M.1 600 12) = 4) from c26)]; rfl)
    · rw [if_neg (show ¬ (¬ (b2i (0 ≤ a2 ∧ a2 ≤ 9)) = 0) from c16)] at hp
      refine j_iconst g (n := -1) (-1) (by decide +kernel) rfl ?_
      refine hr.1 _ _ _ _ (by decide +kernel) ⟨_, rfl, by first | rfl | exact b2i_nar | rfl⟩ ?_ ?_
      · unfold r_X8_rule; first | rfl | (simp only [if_neg (show ¬ ((b2i (1 ≤ a1 ∧ a1 ≤ 5)) = 0) from c6), if_neg (show ¬ (¬ (b2i (0 ≤ a2 ∧ a2 ≤ 9)) = 0) from c16)]; done) | (simp only [if_neg (show ¬ ((b2i (1 ≤ a1 ∧ a1 ≤ 5)) = 0) from c6), if_neg (show ¬ (¬ (b2i (0 ≤ a2 ∧ a2 ≤ 9)) = 0) from c16)]; rfl)
      · unfold w_X8_rule; first | rfl | (simp only [if_neg (show ¬ ((b2i (1 ≤ a1 ∧ a1 ≤ 5)) = 0) from c6), if_neg (show ¬ (¬ (b2i (0 ≤ a2 ∧ a2 ≤ 9)) = 0) from c16)]; done) | (simp only [if_neg (show ¬ ((b2i (1 ≤ a1 ∧ a1 ≤ 5)) = 0) from c6), if_neg (show ¬ (¬ (b2i (0 ≤ a2 ∧ a2 ≤ 9)) = 0) from c16)]; rfl)
def r_X8_ruleOf (M : Mm) (a1 : Int32) (a2 : Int32) : Int32 := if (b2i (0 ≤ a1 ∧ a1 ≤ M.1 600 12 - 1)) = 0 then (-1) else if (b2i (0 ≤ a2 ∧ a2 ≤ 1)) = 0 then (-1) else M.1 608 (Int32.toNatClampNeg ((2 * a1) + a2))
def p_X8_ruleOf (M : Mm) (a1 : Int32) (a2 : Int32) : Prop := (if (b2i (0 ≤ a1 ∧ a1 ≤ M.1 600 12 - 1)) = 0 then True else (if (b2i (0 ≤ a2 ∧ a2 ≤ 1)) = 0 then True else (vp_in ((2 * a1) + a2) 8) ∧ True))
theorem rnX8_ruleOf {d : Nat} {M : Mm} {a1 : Int32} {a2 : Int32}  (hp : p_X8_ruleOf M a1 a2) : Rn (d + 2) mX8_ruleOf [.ref 600, .int a1, .int a2] M (some (.int (r_X8_ruleOf M a1 a2))) M := by
  refine Rn.of [some (.ref 600), some (.int a1), some (.int a2)] (by decide +kernel) rfl (Nat.le_of_ble_eq_true rfl) rfl (fun J g hr => ?_)
  unfold p_X8_ruleOf at hp
  refine j_aload_n g (i := 0) (by decide +kernel) rfl ?_
  refine j_iload_n g (i := 1) (by decide +kernel) rfl ?_
  refine j_cV1r g v8_371 ⟨rfl, by decide⟩ (by decide +kernel) (by decide +kernel) (Nat.le_of_ble_eq_true rfl) (rnX8_isRule) ?_
  refine j_if_eq g (off := 23) (tgt := 28) (by decide +kernel) (by decide) (fun c5 => ?_) (fun c5 => ?_)
  · rw [if_pos (show (b2i (0 ≤ a1 ∧ a1 ≤ M.1 600 12 - 1)) = 0 from c5)] at hp
    refine j_iconst g (n := -1) (-1) (by decide +kernel) rfl ?_
    refine hr.1 _ _ _ _ (by decide +kernel) ⟨_, rfl, by first | rfl | exact b2i_nar | rfl⟩ ?_ ?_
    · unfold r_X8_ruleOf; first | rfl | (simp only [if_pos (show (b2i (0 ≤ a1 ∧ a1 ≤ M.1 600 12 - 1)) = 0 from c5)]; done) | (simp only [if_pos (show (b2i (0 ≤ a1 ∧ a1 ≤ M.1 600 12 - 1)) = 0 from c5)]; rfl)
    · rfl
  · rw [if_neg (show ¬ ((b2i (0 ≤ a1 ∧ a1 ≤ M.1 600 12 - 1)) = 0) from c5)] at hp
    refine j_iload_n g (i := 2) (by decide +kernel) rfl ?_
    refine j_cS1r g s8_344 (by decide +kernel) (Nat.le_of_ble_eq_true rfl) (rnX8_isSide) ?_
    refine j_if_eq g (off := 16) (tgt := 28) (by decide +kernel) (by decide) (fun c12 => ?_) (fun c12 => ?_)
    · rw [if_pos (show (b2i (0 ≤ a2 ∧ a2 ≤ 1)) = 0 from c12)] at hp
      refine j_iconst g (n := -1) (-1) (by decide +kernel) rfl ?_
      refine hr.1 _ _ _ _ (by decide +kernel) ⟨_, rfl, by first | rfl | exact b2i_nar | rfl⟩ ?_ ?_
      · unfold r_X8_ruleOf; first | rfl | (simp only [if_neg (show ¬ ((b2i (0 ≤ a1 ∧ a1 ≤ M.1 600 12 - 1)) = 0) from c5), if_pos (show (b2i (0 ≤ a2 ∧ a2 ≤ 1)) = 0 from c12)]; done) | (simp only [if_neg (show ¬ ((b2i (0 ≤ a1 ∧ a1 ≤ M.1 600 12 - 1)) = 0) from c5), if_pos (show (b2i (0 ≤ a2 ∧ a2 ≤ 1)) = 0 from c12)]; rfl)
      · rfl
    · rw [if_neg (show ¬ ((b2i (0 ≤ a2 ∧ a2 ≤ 1)) = 0) from c12)] at hp
      refine j_aload_n g (i := 0) (by decide +kernel) rfl ?_
      refine j_gA g (b := 608) f8_31 (by decide +kernel) (by decide +kernel) (by decide +kernel) (by decide +kernel) ?_
      refine j_iconst g (n := 2) (2) (by decide +kernel) rfl ?_
      refine j_iload_n g (i := 1) (by decide +kernel) rfl ?_
      refine j_imul g (by decide +kernel) ?_
      refine j_iload_n g (i := 2) (by decide +kernel) rfl ?_
      refine j_iadd g (by decide +kernel) ?_
      obtain ⟨h0, hp⟩ := hp
      refine j_ia g 8 (by decide +kernel) (by decide +kernel) (by decide +kernel) h0 ?_
      refine j_goto g (off := 4) (tgt := 29) (by decide +kernel) (by decide) ?_
      refine hr.1 _ _ _ _ (by decide +kernel) ⟨_, rfl, by first | rfl | exact b2i_nar | rfl⟩ ?_ ?_
      · unfold r_X8_ruleOf; first | rfl | (simp only [if_neg (show ¬ ((b2i (0 ≤ a1 ∧ a1 ≤ M.1 600 12 - 1)) = 0) from c5), if_neg (show ¬ ((b2i (0 ≤ a2 ∧ a2 ≤ 1)) = 0) from c12)]; done) | (simp only [if_neg (show ¬ ((b2i (0 ≤ a1 ∧ a1 ≤ M.1 600 12 - 1)) = 0) from c5), if_neg (show ¬ ((b2i (0 ≤ a2 ∧ a2 ≤ 1)) = 0) from c12)]; rfl)
      · rfl
def r_X8_row (M : Mm) (a1 : Int32) (a2 : Int32) : Int32 := if (b2i ((0 ≤ a1 ∧ a1 ≤ M.1 600 42 - 1) ∧ (0 ≤ a2 ∧ a2 ≤ 2))) = 0 then (-9) else M.1 619 (Int32.toNatClampNeg ((3 * a1) + a2))
def p_X8_row (M : Mm) (a1 : Int32) (a2 : Int32) : Prop := (if (b2i ((0 ≤ a1 ∧ a1 ≤ M.1 600 42 - 1) ∧ (0 ≤ a2 ∧ a2 ≤ 2))) = 0 then True else (vp_in ((3 * a1) + a2) 18) ∧ True)
theorem rnX8_row {d : Nat} {M : Mm} {a1 : Int32} {a2 : Int32}  (hp : p_X8_row M a1 a2) : Rn (d + 2) mX8_row [.ref 600, .int a1, .int a2] M (some (.int (r_X8_row M a1 a2))) M := by
  refine Rn.of [some (.ref 600), some (.int a1), some (.int a2)] (by decide +kernel) rfl (Nat.le_of_ble_eq_true rfl) rfl (fun J g hr => ?_)
  unfold p_X8_row at hp
  refine j_aload_n g (i := 0) (by decide +kernel) rfl ?_
  refine j_iload_n g (i := 1) (by decide +kernel) rfl ?_
  refine j_iload_n g (i := 2) (by decide +kernel) rfl ?_
  refine j_cV2r g v8_395 ⟨rfl, by decide⟩ (by decide +kernel) (by decide +kernel) (Nat.le_of_ble_eq_true rfl) (rnX8_isRow) ?_
  refine j_if_eq g (off := 16) (tgt := 22) (by decide +kernel) (by decide) (fun c6 => ?_) (fun c6 => ?_)
  · rw [if_pos (show (b2i ((0 ≤ a1 ∧ a1 ≤ M.1 600 42 - 1) ∧ (0 ≤ a2 ∧ a2 ≤ 2))) = 0 from c6)] at hp
    refine j_bipush g (n := -9) (-9) (by decide +kernel) (by decide +kernel) ?_
    refine hr.1 _ _ _ _ (by decide +kernel) ⟨_, rfl, by first | rfl | exact b2i_nar | rfl⟩ ?_ ?_
    · unfold r_X8_row; first | rfl | (simp only [if_pos (show (b2i ((0 ≤ a1 ∧ a1 ≤ M.1 600 42 - 1) ∧ (0 ≤ a2 ∧ a2 ≤ 2))) = 0 from c6)]; done) | (simp only [if_pos (show (b2i ((0 ≤ a1 ∧ a1 ≤ M.1 600 42 - 1) ∧ (0 ≤ a2 ∧ a2 ≤ 2))) = 0 from c6)]; rfl)
    · rfl
  · rw [if_neg (show ¬ ((b2i ((0 ≤ a1 ∧ a1 ≤ M.1 600 42 - 1) ∧ (0 ≤ a2 ∧ a2 ≤ 2))) = 0) from c6)] at hp
    refine j_aload_n g (i := 0) (by decide +kernel) rfl ?_
    refine j_gA g (b := 619) f8_64 (by decide +kernel) (by decide +kernel) (by decide +kernel) (by decide +kernel) ?_
    refine j_iconst g (n := 3) (3) (by decide +kernel) rfl ?_
    refine j_iload_n g (i := 1) (by decide +kernel) rfl ?_
    refine j_imul g (by decide +kernel) ?_
    refine j_iload_n g (i := 2) (by decide +kernel) rfl ?_
    refine j_iadd g (by decide +kernel) ?_
    obtain ⟨h0, hp⟩ := hp
    refine j_ia g 18 (by decide +kernel) (by decide +kernel) (by decide +kernel) h0 ?_
    refine j_goto g (off := 5) (tgt := 24) (by decide +kernel) (by decide) ?_
    refine hr.1 _ _ _ _ (by decide +kernel) ⟨_, rfl, by first | rfl | exact b2i_nar | rfl⟩ ?_ ?_
    · unfold r_X8_row; first | rfl | (simp only [if_neg (show ¬ ((b2i ((0 ≤ a1 ∧ a1 ≤ M.1 600 42 - 1) ∧ (0 ≤ a2 ∧ a2 ≤ 2))) = 0) from c6)]; done) | (simp only [if_neg (show ¬ ((b2i ((0 ≤ a1 ∧ a1 ≤ M.1 600 42 - 1) ∧ (0 ≤ a2 ∧ a2 ≤ 2))) = 0) from c6)]; rfl)
    · rfl
def r_X8_alterRow (M : Mm) (a1 : Int32) (a2 : Int32) (a3 : Int32) : Int32 := if ¬ (b2i ((0 ≤ a1 ∧ a1 ≤ M.1 600 42 - 1) ∧ (0 ≤ a2 ∧ a2 ≤ 2))) = 0 then M.1 619 (Int32.toNatClampNeg ((3 * a1) + a2)) else (-9)
def w_X8_alterRow (M : Mm) (a1 : Int32) (a2 : Int32) (a3 : Int32) : Mm := if ¬ (b2i ((0 ≤ a1 ∧ a1 ≤ M.1 600 42 - 1) ∧ (0 ≤ a2 ∧ a2 ≤ 2))) = 0 then (wi M 619 (Int32.toNatClampNeg ((3 * a1) + a2)) a3) else M
def p_X8_alterRow (M : Mm) (a1 : Int32) (a2 : Int32) (a3 : Int32) : Prop := (if ¬ (b2i ((0 ≤ a1 ∧ a1 ≤ M.1 600 42 - 1) ∧ (0 ≤ a2 ∧ a2 ≤ 2))) = 0 then (vp_in ((3 * a1) + a2) 18) ∧ (vp_in ((3 * a1) + a2) 18) ∧ True else True)
theorem rnX8_alterRow {d : Nat} {M : Mm} {a1 : Int32} {a2 : Int32} {a3 : Int32}  (hp : p_X8_alterRow M a1 a2 a3) : Rn (d + 2) mX8_alterRow [.ref 600, .int a1, .int a2, .int a3] M (some (.int (r_X8_alterRow M a1 a2 a3))) (w_X8_alterRow M a1 a2 a3) := by
  refine Rn.of [some (.ref 600), some (.int a1), some (.int a2), some (.int a3), none] (by decide +kernel) rfl (Nat.le_of_ble_eq_true rfl) rfl (fun J g hr => ?_)
  unfold p_X8_alterRow at hp
  refine j_aload_n g (i := 0) (by decide +kernel) rfl ?_
  refine j_iload_n g (i := 1) (by decide +kernel) rfl ?_
  refine j_iload_n g (i := 2) (by decide +kernel) rfl ?_
  refine j_cV2r g v8_395 ⟨rfl, by decide⟩ (by decide +kernel) (by decide +kernel) (Nat.le_of_ble_eq_true rfl) (rnX8_isRow) ?_
  refine j_if_ne g (off := 6) (tgt := 12) (by decide +kernel) (by decide) (fun c6 => ?_) (fun c6 => ?_)
  · rw [if_pos (show ¬ (b2i ((0 ≤ a1 ∧ a1 ≤ M.1 600 42 - 1) ∧ (0 ≤ a2 ∧ a2 ≤ 2))) = 0 from c6)] at hp
    refine j_aload_n g (i := 0) (by decide +kernel) rfl ?_
    refine j_gA g (b := 619) f8_64 (by decide +kernel) (by decide +kernel) (by decide +kernel) (by decide +kernel) ?_
    refine j_iconst g (n := 3) (3) (by decide +kernel) rfl ?_
    refine j_iload_n g (i := 1) (by decide +kernel) rfl ?_
    refine j_imul g (by decide +kernel) ?_
    refine j_iload_n g (i := 2) (by decide +kernel) rfl ?_
    refine j_iadd g (by decide +kernel) ?_
    obtain ⟨h0, hp⟩ := hp
    refine j_ia g 18 (by decide +kernel) (by decide +kernel) (by decide +kernel) h0 ?_
    refine j_istore g (i := 4) (by decide +kernel) (by decide) ?_
    dsimp only [stL, clL, hdL]
    refine j_aload_n g (i := 0) (by decide +kernel) rfl ?_
    refine j_gA g (b := 619) f8_64 (by decide +kernel) (by decide +kernel) (by decide +kernel) (by decide +kernel) ?_
    refine j_iconst g (n := 3) (3) (by decide +kernel) rfl ?_
    refine j_iload_n g (i := 1) (by decide +kernel) rfl ?_
    refine j_imul g (by decide +kernel) ?_
    refine j_iload_n g (i := 2) (by decide +kernel) rfl ?_
    refine j_iadd g (by decide +kernel) ?_
    refine j_iload_n g (i := 3) (by decide +kernel) rfl ?_
    obtain ⟨h0, hp⟩ := hp
    refine j_is g 18 (by decide +kernel) (by decide +kernel) (by decide +kernel) h0 ?_
    refine j_iload g (i := 4) (by decide +kernel) rfl ?_
    refine hr.1 _ _ _ _ (by decide +kernel) ⟨_, rfl, by first | rfl | exact b2i_nar | rfl⟩ ?_ ?_
    · unfold r_X8_alterRow; first | rfl | (simp only [if_pos (show ¬ (b2i ((0 ≤ a1 ∧ a1 ≤ M.1 600 42 - 1) ∧ (0 ≤ a2 ∧ a2 ≤ 2))) = 0 from c6)]; done) | (simp only [if_pos (show ¬ (b2i ((0 ≤ a1 ∧ a1 ≤ M.1 600 42 - 1) ∧ (0 ≤ a2 ∧ a2 ≤ 2))) = 0 from c6)]; rfl)
    · unfold w_X8_alterRow; first | rfl | (simp only [if_pos (show ¬ (b2i ((0 ≤ a1 ∧ a1 ≤ M.1 600 42 - 1) ∧ (0 ≤ a2 ∧ a2 ≤ 2))) = 0 from c6)]; done) | (simp only [if_pos (show ¬ (b2i ((0 ≤ a1 ∧ a1 ≤ M.1 600 42 - 1) ∧ (0 ≤ a2 ∧ a2 ≤ 2))) = 0 from c6)]; rfl)
  · rw [if_neg (show ¬ (¬ (b2i ((0 ≤ a1 ∧ a1 ≤ M.1 600 42 - 1) ∧ (0 ≤ a2 ∧ a2 ≤ 2))) = 0) from c6)] at hp
    refine j_bipush g (n := -9) (-9) (by decide +kernel) (by decide +kernel) ?_
    refine hr.1 _ _ _ _ (by decide +kernel) ⟨_, rfl, by first | rfl | exact b2i_nar | rfl⟩ ?_ ?_
    · unfold r_X8_alterRow; first | rfl | (simp only [if_neg (show ¬ (¬ (b2i ((0 ≤ a1 ∧ a1 ≤ M.1 600 42 - 1) ∧ (0 ≤ a2 ∧ a2 ≤ 2))) = 0) from c6)]; done) | (simp only [if_neg (show ¬ (¬ (b2i ((0 ≤ a1 ∧ a1 ≤ M.1 600 42 - 1) ∧ (0 ≤ a2 ∧ a2 ≤ 2))) = 0) from c6)]; rfl)
    · unfold w_X8_alterRow; first | rfl | (simp only [if_neg (show ¬ (¬ (b2i ((0 ≤ a1 ∧ a1 ≤ M.1 600 42 - 1) ∧ (0 ≤ a2 ∧ a2 ≤ 2))) = 0) from c6)]; done) | (simp only [if_neg (show ¬ (¬ (b2i ((0 ≤ a1 ∧ a1 ≤ M.1 600 42 - 1) ∧ (0 ≤ a2 ∧ a2 ≤ 2))) = 0) from c6)]; rfl)
def r_X8_write (M : Mm) (a1 : Int32) (a2 : Int32) (a3 : Int32) : Int32 := if ¬ (b2i (0 ≤ a1 ∧ a1 ≤ 3)) = 0 then (if 0 ≤ (M.1 620 (Int32.toNatClampNeg a1)) then (if ¬ (b2i (0 ≤ a2 ∧ a2 ≤ ((M.1 621 (Int32.toNatClampNeg a1)) - 1))) = 0 then 1 else (-12)) else (-11)) else (-1)
def w_X8_write (M : Mm) (a1 : Int32) (a2 : Int32) (a3 : Int32) : Mm := if ¬ (b2i (0 ≤ a1 ∧ a1 ≤ 3)) = 0 then (if 0 ≤ (M.1 620 (Int32.toNatClampNeg a1)) then (if ¬ (b2i (0 ≤ a2 ∧ a2 ≤ ((M.1 621 (Int32.toNatClampNeg a1)) - 1))) = 0 then (if ¬ (M.1 620 (Int32.toNatClampNeg a1)) = 0 then (if ¬ (M.1 620 (Int32.toNatClampNeg a1)) = 1 then (wl M 622 (Int32.toNatClampNeg ((40 * a1) + a2)) (Int32.toInt64 a3)) else (wl M 622 (Int32.toNatClampNeg ((40 * a1) + a2)) (Int32.toInt64 (Int16.toInt32 (Int32.toInt16 a3))))) else (wl M 622 (Int32.toNatClampNeg ((40 * a1) + a2)) (Int32.toInt64 (Int8.toInt32 (Int32.toInt8 a3))))) else M) else M) else M
def p_X8_write (M : Mm) (a1 : Int32) (a2 : Int32) (a3 : Int32) : Prop := (if ¬ (b2i (0 ≤ a1 ∧ a1 ≤ 3)) = 0 then (vp_in a1 4) ∧ (if 0 ≤ (M.1 620 (Int32.toNatClampNeg a1)) then (vp_in a1 4) ∧ (if ¬ (b2i (0 ≤ a2 ∧ a2 ≤ ((M.1 621 (Int32.toNatClampNeg a1)) - 1))) = 0 then (vp_in a1 4) ∧ (if ¬ (M.1 620 (Int32.toNatClampNeg a1)) = 0 then (vp_in a1 4) ∧ (if ¬ (M.1 620 (Int32.toNatClampNeg a1)) = 1 then (vp_in ((40 * a1) + a2) 160) ∧ True else (vp_in ((40 * a1) + a2) 160) ∧ True) else (vp_in ((40 * a1) + a2) 160) ∧ True) else True) else True) else True)
theorem rnX8_write {d : Nat} {M : Mm} {a1 : Int32} {a2 : Int32} {a3 : Int32}  (hp : p_X8_write M a1 a2 a3) : Rn (d + 2) mX8_write [.ref 600, .int a1, .int a2, .int a3] M (some (.int (r_X8_write M a1 a2 a3))) (w_X8_write M a1 a2 a3) := by
  refine Rn.of [some (.ref 600), some (.int a1), some (.int a2), some (.int a3)] (by decide +kernel) rfl (Nat.le_of_ble_eq_true rfl) rfl (fun J g hr => ?_)
  unfold p_X8_write at hp
  refine j_iload_n g (i := 1) (by decide +kernel) rfl ?_
  refine j_cS1r g s8_401 (by decide +kernel) (Nat.le_of_ble_eq_true rfl) (rnX8_isShelf) ?_
  refine j_if_ne g (off := 5) (tgt := 9) (by decide +kernel) (by decide) (fun c4 => ?_) (fun c4 => ?_)
  · rw [if_pos (show ¬ (b2i (0 ≤ a1 ∧ a1 ≤ 3)) = 0 from c4)] at hp
    refine j_aload_n g (i := 0) (by decide +kernel) rfl ?_
    refine j_gA g (b := 620) f8_67 (by decide +kernel) (by decide +kernel) (by decide +kernel) (by decide +kernel) ?_
    refine j_iload_n g (i := 1) (by decide +kernel) rfl ?_
    obtain ⟨h0, hp⟩ := hp
    refine j_ia g 4 (by decide +kernel) (by decide +kernel) (by decide +kernel) h0 ?_
    refine j_if_ge g (off := 6) (tgt := 21) (by decide +kernel) (by decide) (fun c15 => ?_) (fun c15 => ?_)
    · rw [if_pos (show 0 ≤ (M.1 620 (Int32.toNatClampNeg a1)) from c15)] at hp
      refine j_iload_n g (i := 2) (by decide +kernel) rfl ?_
      refine j_iconst g (n := 0) (0) (by decide +kernel) rfl ?_
      refine j_aload_n g (i := 0) (by decide +kernel) rfl ?_
      refine j_gA g (b := 621) f8_70 (by decide +kernel) (by decide +kernel) (by decide +kernel) (by decide +kernel) ?_
      refine j_iload_n g (i := 1) (by decide +kernel) rfl ?_
      obtain ⟨h0, hp⟩ := hp
      refine j_ia g 4 (by decide +kernel) (by decide +kernel) (by decide +kernel) h0 ?_
      refine j_iconst g (n := 1) (1) (by decide +kernel) rfl ?_
      refine j_isub g (by decide +kernel) ?_
      refine j_cS3r g s8_95 (by decide +kernel) (Nat.le_of_ble_eq_true rfl) (rnX8_in) ?_
      refine j_if_ne g (off := 6) (tgt := 40) (by decide +kernel) (by decide) (fun c34 => ?_) (fun c34 => ?_)
      · rw [if_pos (show ¬ (b2i (0 ≤ a2 ∧ a2 ≤ ((M.1 621 (Int32.toNatClampNeg a1)) - 1))) = 0 from c34)] at hp
        refine j_aload_n g (i := 0) (by decide +kernel) rfl ?_
        refine j_gA g (b := 622) f8_73 (by decide +kernel) (by decide +kernel) (by decide +kernel) (by decide +kernel) ?_
        refine j_bipush g (n := 40) (40) (by decide +kernel) (by decide +kernel) ?_
        refine j_iload_n g (i := 1) (by decide +kernel) rfl ?_
        refine j_imul g (by decide +kernel) ?_
        refine j_iload_n g (i := 2) (by decide +kernel) rfl ?_
        refine j_iadd g (by decide +kernel) ?_
        refine j_aload_n g (i := 0) (by decide +kernel) rfl ?_
        refine j_gA g (b := 620) f8_67 (by decide +kernel) (by decide +kernel) (by decide +kernel) (by decide +kernel) ?_
        refine j_iload_n g (i := 1) (by decide +kernel) rfl ?_
        obtain ⟨h0, hp⟩ := hp
        refine j_ia g 4 (by decide +kernel) (by decide +kernel) (by decide +kernel) h0 ?_
        refine j_if_ne g (off := 9) (tgt := 65) (by decide +kernel) (by decide) (fun c56 => ?_) (fun c56 => ?_)
        · rw [if_pos (show ¬ (M.1 620 (Int32.toNatClampNeg a1)) = 0 from c56)] at hp
          refine j_aload_n g (i := 0) (by decide +kernel) rfl ?_
          refine j_gA g (b := 620) f8_67 (by decide +kernel) (by decide +kernel) (by decide +kernel) (by decide +kernel) ?_
          refine j_iload_n g (i := 1) (by decide +kernel) rfl ?_
          obtain ⟨h0, hp⟩ := hp
          refine j_ia g 4 (by decide +kernel) (by decide +kernel) (by decide +kernel) h0 ?_
          refine j_iconst g (n := 1) (1) (by decide +kernel) rfl ?_
          refine j_icmp_ne g (off := 9) (tgt := 81) (by decide +kernel) (by decide) (fun c72 => ?_) (fun c72 => ?_)
          · rw [if_pos (show ¬ (M.1 620 (Int32.toNatClampNeg a1)) = 1 from c72)] at hp
            refine j_iload_n g (i := 3) (by decide +kernel) rfl ?_
            refine j_i2l g (by decide +kernel) ?_
            obtain ⟨h0, hp⟩ := hp
            refine j_ls g 160 (by decide +kernel) (by decide +kernel) (by decide +kernel) h0 ?_
            refine j_iconst g (n := 1) (1) (by decide +kernel) rfl ?_
            refine hr.1 _ _ _ _ (by decide +kernel) ⟨_, rfl, by first | rfl | exact b2i_nar | rfl⟩ ?_ ?_
            · unfold r_X8_write; first | rfl | (simp only [if_pos (show ¬ (b2i (0 ≤ a1 ∧ a1 ≤ 3)) = 0 from c4), if_pos (show 0 ≤ (M.1 620 (Int32.toNatClampNeg a1)) from c15), if_pos (show ¬ (b2i (0 ≤ a2 ∧ a2 ≤ ((M.1 621 (Int32.toNatClampNeg a1)) - 1))) = 0 from c34), if_pos (show ¬ (M.1 620 (Int32.toNatClampNeg a1)) = 0 from c56), if_pos (show ¬ (M.1 620 (Int32.toNatClampNeg a1)) = 1 from c72)]; done) | (simp only [if_pos (show ¬ (b2i (0 ≤ a1 ∧ a1 ≤ 3)) = 0 from c4), if_pos (show 0 ≤ (M.1 620 (Int32.toNatClampNeg a1)) from c15), if_pos (show ¬ (b2i (0 ≤ a2 ∧ a2 ≤ ((M.1 621 (Int32.toNatClampNeg a1)) - 1))) = 0 from c34), if_pos (show ¬ (M.1 620 (Int32.toNatClampNeg a1)) = 0 from c56), if_pos (show ¬ (M.1 620 (Int32.toNatClampNeg a1)) = 1 from c72)]; rfl)
            · unfold w_X8_write; first | rfl | (simp only [if_pos (show ¬ (b2i (0 ≤ a1 ∧ a1 ≤ 3)) = 0 from c4), if_pos (show 0 ≤ (M.1 620 (Int32.toNatClampNeg a1)) from c15), if_pos (show ¬ (b2i (0 ≤ a2 ∧ a2 ≤ ((M.1 621 (Int32.toNatClampNeg a1)) - 1))) = 0 from c34), if_pos (show ¬ (M.1 620 (Int32.toNatClampNeg a1)) = 0 from c56), if_pos (show ¬ (M.1 620 (Int32.toNatClampNeg a1)) = 1 from c72)]; done) | (simp only [if_pos (show ¬ (b2i (0 ≤ a1 ∧ a1 ≤ 3)) = 0 from c4), if_pos (show 0 ≤ (M.1 620 (Int32.toNatClampNeg a1)) from c15), if_pos (show ¬ (b2i (0 ≤ a2 ∧ a2 ≤ ((M.1 621 (Int32.toNatClampNeg a1)) - 1))) = 0 from c34), if_pos (show ¬ (M.1 620 (Int32.toNatClampNeg a1)) = 0 from c56), if_pos (show ¬ (M.1 620 (Int32.toNatClampNeg a1)) = 1 from c72)]; rfl)
          · rw [if_neg (show ¬ (¬ (M.1 620 (Int32.toNatClampNeg a1)) = 1) from c72)] at hp
            refine j_iload_n g (i := 3) (by decide +kernel) rfl ?_
            refine j_i2s g (by decide +kernel) ?_
            refine j_i2l g (by decide +kernel) ?_
            refine j_goto g (off := 5) (tgt := 83) (by decide +kernel) (by decide) ?_
            obtain ⟨h0, hp⟩ := hp
            refine j_ls g 160 (by decide +kernel) (by decide +kernel) (by decide +kernel) h0 ?_
            refine j_iconst g (n := 1) (1) (by decide +kernel) rfl ?_
            refine hr.1 _ _ _ _ (by decide +kernel) ⟨_, rfl, by first | rfl | exact b2i_nar | rfl⟩ ?_ ?_
            · unfold r_X8_write; first | rfl | (simp only [if_pos (show ¬ (b2i (0 ≤ a1 ∧ a1 ≤ 3)) = 0 from c4), if_pos (show 0 ≤ (M.1 620 (Int32.toNatClampNeg a1)) from c15), if_pos (show ¬ (b2i (0 ≤ a2 ∧ a2 ≤ ((M.1 621 (Int32.toNatClampNeg a1)) - 1))) = 0 from c34), if_pos (show ¬ (M.1 620 (Int32.toNatClampNeg a1)) = 0 from c56), if_neg (show ¬ (¬ (M.1 620 (Int32.toNatClampNeg a1)) = 1) from c72)]; done) | (simp only [if_pos (show ¬ (b2i (0 ≤ a1 ∧ a1 ≤ 3)) = 0 from c4), if_pos (show 0 ≤ (M.1 620 (Int32.toNatClampNeg a1)) from c15), if_pos (show ¬ (b2i (0 ≤ a2 ∧ a2 ≤ ((M.1 621 (Int32.toNatClampNeg a1)) - 1))) = 0 from c34), if_pos (show ¬ (M.1 620 (Int32.toNatClampNeg a1)) = 0 from c56), if_neg (show ¬ (¬ (M.1 620 (Int32.toNatClampNeg a1)) = 1) from c72)]; rfl)
            · unfold w_X8_write; first | rfl | (simp only [if_pos (show ¬ (b2i (0 ≤ a1 ∧ a1 ≤ 3)) = 0 from c4), if_pos (show 0 ≤ (M.1 620 (Int32.toNatClampNeg a1)) from c15), if_pos (show ¬ (b2i (0 ≤ a2 ∧ a2 ≤ ((M.1 621 (Int32.toNatClampNeg a1)) - 1))) = 0 from c34), if_pos (show ¬ (M.1 620 (Int32.toNatClampNeg a1)) = 0 from c56), if_neg (show ¬ (¬ (M.1 620 (Int32.toNatClampNeg a1)) = 1) from c72)]; done) | (simp only [if_pos (show ¬ (b2i (0 ≤ a1 ∧ a1 ≤ 3)) = 0 from c4), if_pos (show 0 ≤ (M.1 620 (Int32.toNatClampNeg a1)) from c15), if_pos (show ¬ (b2i (0 ≤ a2 ∧ a2 ≤ ((M.1 621 (Int32.toNatClampNeg a1)) - 1))) = 0 from c34), if_pos (show ¬ (M.1 620 (Int32.toNatClampNeg a1)) = 0 from c56), if_neg (show ¬ (¬ (M.1 620 (Int32.toNatClampNeg a1)) = 1) from c72)]; rfl)
        · rw [if_neg (show ¬ (¬ (M.1 620 (Int32.toNatClampNeg a1)) = 0) from c56)] at hp
          refine j_iload_n g (i := 3) (by decide +kernel) rfl ?_
          refine j_i2b g (by decide +kernel) ?_
          refine j_i2l g (by decide +kernel) ?_
          refine j_goto g (off := 21) (tgt := 83) (by decide +kernel) (by decide) ?_
          obtain ⟨h0, hp⟩ := hp
          refine j_ls g 160 (by decide +kernel) (by decide +kernel) (by decide +kernel) h0 ?_
          refine j_iconst g (n := 1) (1) (by decide +kernel) rfl ?_
          refine hr.1 _ _ _ _ (by decide +kernel) ⟨_, rfl, by first | rfl | exact b2i_nar | rfl⟩ ?_ ?_
          · unfold r_X8_write; first | rfl | (simp only [if_pos (show ¬ (b2i (0 ≤ a1 ∧ a1 ≤ 3)) = 0 from c4), if_pos (show 0 ≤ (M.1 620 (Int32.toNatClampNeg a1)) from c15), if_pos (show ¬ (b2i (0 ≤ a2 ∧ a2 ≤ ((M.1 621 (Int32.toNatClampNeg a1)) - 1))) = 0 from c34), if_neg (show ¬ (¬ (M.1 620 (Int32.toNatClampNeg a1)) = 0) from c56)]; done) | (simp only [if_pos (show ¬ (b2i (0 ≤ a1 ∧ a1 ≤ 3)) = 0 from c4), if_pos (show 0 ≤ (M.1 620 (Int32.toNatClampNeg a1)) from c15), if_pos (show ¬ (b2i (0 ≤ a2 ∧ a2 ≤ ((M.1 621 (Int32.toNatClampNeg a1)) - 1))) = 0 from c34), if_neg (show ¬ (¬ (M.1 620 (Int32.toNatClampNeg a1)) = 0) from c56)]; rfl)
          · unfold w_X8_write; first | rfl | (simp only [if_pos (show ¬ (b2i (0 ≤ a1 ∧ a1 ≤ 3)) = 0 from c4), if_pos (show 0 ≤ (M.1 620 (Int32.toNatClampNeg a1)) from c15), if_pos (show ¬ (b2i (0 ≤ a2 ∧ a2 ≤ ((M.1 621 (Int32.toNatClampNeg a1)) - 1))) = 0 from c34), if_neg (show ¬ (¬ (M.1 620 (Int32.toNatClampNeg a1)) = 0) from c56)]; done) | (simp only [if_pos (show ¬ (b2i (0 ≤ a1 ∧ a1 ≤ 3)) = 0 from c4), if_pos (show 0 ≤ (M.1 620 (Int32.toNatClampNeg a1)) from c15), if_pos (show ¬ (b2i (0 ≤ a2 ∧ a2 ≤ ((M.1 621 (Int32.toNatClampNeg a1)) - 1))) = 0 from c34), if_neg (show ¬ (¬ (M.1 620 (Int32.toNatClampNeg a1)) = 0) from c56)]; rfl)
      · rw [if_neg (show ¬ (¬ (b2i (0 ≤ a2 ∧ a2 ≤ ((M.1 621 (Int32.toNatClampNeg a1)) - 1))) = 0) from c34)] at hp
        refine j_bipush g (n := -12) (-12) (by decide +kernel) (by decide +kernel) ?_
        refine hr.1 _ _ _ _ (by decide +kernel) ⟨_, rfl, by first | rfl | exact b2i_nar | rfl⟩ ?_ ?_
        · unfold r_X8_write; first | rfl | (simp only [if_pos (show ¬ (b2i (0 ≤ a1 ∧ a1 ≤ 3)) = 0 from c4), if_pos (show 0 ≤ (M.1 620 (Int32.toNatClampNeg a1)) from c15), if_neg (show ¬ (¬ (b2i (0 ≤ a2 ∧ a2 ≤ ((M.1 621 (Int32.toNatClampNeg a1)) - 1))) = 0) from c34)]; done) | (simp only [if_pos (show ¬ (b2i (0 ≤ a1 ∧ a1 ≤ 3)) = 0 from c4), if_pos (show 0 ≤ (M.1 620 (Int32.toNatClampNeg a1)) from c15), if_neg (show ¬ (¬ (b2i (0 ≤ a2 ∧ a2 ≤ ((M.1 621 (Int32.toNatClampNeg a1)) - 1))) = 0) from c34)]; rfl)
        · unfold w_X8_write; first | rfl | (simp only [if_pos (show ¬ (b2i (0 ≤ a1 ∧ a1 ≤ 3)) = 0 from c4), if_pos (show 0 ≤ (M.1 620 (Int32.toNatClampNeg a1)) from c15), if_neg (show ¬ (¬ (b2i (0 ≤ a2 ∧ a2 ≤ ((M.1 621 (Int32.toNatClampNeg a1)) - 1))) = 0) from c34)]; done) | (simp only [if_pos (show ¬ (b2i (0 ≤ a1 ∧ a1 ≤ 3)) = 0 from c4), if_pos (show 0 ≤ (M.1 620 (Int32.toNatClampNeg a1)) from c15), if_neg (show ¬ (¬ (b2i (0 ≤ a2 ∧ a2 ≤ ((M.1 621 (Int32.toNatClampNeg a1)) - 1))) = 0) from c34)]; rfl)
    · rw [if_neg (show ¬ (0 ≤ (M.1 620 (Int32.toNatClampNeg a1))) from c15)] at hp
      refine j_bipush g (n := -11) (-11) (by decide +kernel) (by decide +kernel) ?_
      refine hr.1 _ _ _ _ (by decide +kernel) ⟨_, rfl, by first | rfl | exact b2i_nar | rfl⟩ ?_ ?_
      · unfold r_X8_write; first | rfl | (simp only [if_pos (show ¬ (b2i (0 ≤ a1 ∧ a1 ≤ 3)) = 0 from c4), if_neg (show ¬ (0 ≤ (M.1 620 (Int32.toNatClampNeg a1))) from c15)]; done) | (simp only [if_pos (show ¬ (b2i (0 ≤ a1 ∧ a1 ≤ 3)) = 0 from c4), if_neg (show ¬ (0 ≤ (M.1 620 (Int32.toNatClampNeg a1))) from c15)]; rfl)
      · unfold w_X8_write; first | rfl | (simp only [if_pos (show ¬ (b2i (0 ≤ a1 ∧ a1 ≤ 3)) = 0 from c4), if_neg (show ¬ (0 ≤ (M.1 620 (Int32.toNatClampNeg a1))) from c15)]; done) | (simp only [if_pos (show ¬ (b2i (0 ≤ a1 ∧ a1 ≤ 3)) = 0 from c4), if_neg (show ¬ (0 ≤ (M.1 620 (Int32.toNatClampNeg a1))) from c15)]; rfl)
  · rw [if_neg (show ¬ (¬ (b2i (0 ≤ a1 ∧ a1 ≤ 3)) = 0) from c4)] at hp
    refine j_iconst g (n := -1) (-1) (by decide +kernel) rfl ?_
    refine hr.1 _ _ _ _ (by decide +kernel) ⟨_, rfl, by first | rfl | exact b2i_nar | rfl⟩ ?_ ?_
    · unfold r_X8_write; first | rfl | (simp only [if_neg (show ¬ (¬ (b2i (0 ≤ a1 ∧ a1 ≤ 3)) = 0) from c4)]; done) | (simp only [if_neg (show ¬ (¬ (b2i (0 ≤ a1 ∧ a1 ≤ 3)) = 0) from c4)]; rfl)
    · unfold w_X8_write; first | rfl | (simp only [if_neg (show ¬ (¬ (b2i (0 ≤ a1 ∧ a1 ≤ 3)) = 0) from c4)]; done) | (simp only [if_neg (show ¬ (¬ (b2i (0 ≤ a1 ∧ a1 ≤ 3)) = 0) from c4)]; rfl)
def r_X8_lacksSort (M : Mm) (a1 : Int32) (a2 : Int32) : Int32 := if 0 ≤ (M.1 620 (Int32.toNatClampNeg a1)) then (if (M.1 620 (Int32.toNatClampNeg a1)) = a2 then 0 else (-13)) else (-11)
def p_X8_lacksSort (M : Mm) (a1 : Int32) (a2 : Int32) : Prop := (vp_in a1 4) ∧ (if 0 ≤ (M.1 620 (Int32.toNatClampNeg a1)) then (vp_in a1 4) ∧ (if (M.1 620 (Int32.toNatClampNeg a1)) = a2 then True else True) else True)
theorem rnX8_lacksSort {d : Nat} {M : Mm} {a1 : Int32} {a2 : Int32}  (hp : p_X8_lacksSort M a1 a2) : Rn (d) mX8_lacksSort [.ref 600, .int a1, .int a2] M (some (.int (r_X8_lacksSort M a1 a2))) M := by
  refine Rn.of [some (.ref 600), some (.int a1), some (.int a2)] (by decide +kernel) rfl (Nat.le_of_ble_eq_true rfl) rfl (fun J g hr => ?_)
  unfold p_X8_lacksSort at hp
  refine j_aload_n g (i := 0) (by decide +kernel) rfl ?_
  refine j_gA g (b := 620) f8_67 (by decide +kernel) (by decide +kernel) (by decide +kernel) (by decide +kernel) ?_
  refine j_iload_n g (i := 1) (by decide +kernel) rfl ?_
  obtain ⟨h0, hp⟩ := hp
  refine j_ia g 4 (by decide +kernel) (by decide +kernel) (by decide +kernel) h0 ?_
  refine j_if_ge g (off := 8) (tgt := 14) (by decide +kernel) (by decide) (fun c6 => ?_) (fun c6 => ?_)
  · rw [if_pos (show 0 ≤ (M.1 620 (Int32.toNatClampNeg a1)) from c6)] at hp
    refine j_aload_n g (i := 0) (by decide +kernel) rfl ?_
    refine j_gA g (b := 620) f8_67 (by decide +kernel) (by decide +kernel) (by decide +kernel) (by decide +kernel) ?_
    refine j_iload_n g (i := 1) (by decide +kernel) rfl ?_
    obtain ⟨h0, hp⟩ := hp
    refine j_ia g 4 (by decide +kernel) (by decide +kernel) (by decide +kernel) h0 ?_
    refine j_iload_n g (i := 2) (by decide +kernel) rfl ?_
    refine j_icmp_eq g (off := 8) (tgt := 29) (by decide +kernel) (by decide) (fun c21 => ?_) (fun c21 => ?_)
    · rw [if_pos (show (M.1 620 (Int32.toNatClampNeg a1)) = a2 from c21)] at hp
      refine j_iconst g (n := 0) (0) (by decide +kernel) rfl ?_
      refine hr.1 _ _ _ _ (by decide +kernel) ⟨_, rfl, by first | rfl | exact b2i_nar | rfl⟩ ?_ ?_
      · unfold r_X8_lacksSort; first | rfl | (simp only [if_pos (show 0 ≤ (M.1 620 (Int32.toNatClampNeg a1)) from c6), if_pos (show (M.1 620 (Int32.toNatClampNeg a1)) = a2 from c21)]; done) | (simp only [if_pos (show 0 ≤ (M.1 620 (Int32.toNatClampNeg a1)) from c6), if_pos (show (M.1 620 (Int32.toNatClampNeg a1)) = a2 from c21)]; rfl)
      · rfl
    · rw [if_neg (show ¬ ((M.1 620 (Int32.toNatClampNeg a1)) = a2) from c21)] at hp
      refine j_bipush g (n := -13) (-13) (by decide +kernel) (by decide +kernel) ?_
      refine j_goto g (off := 4) (tgt := 30) (by decide +kernel) (by decide) ?_
      refine hr.1 _ _ _ _ (by decide +kernel) ⟨_, rfl, by first | rfl | exact b2i_nar | rfl⟩ ?_ ?_
      · unfold r_X8_lacksSort; first | rfl | (simp only [if_pos (show 0 ≤ (M.1 620 (Int32.toNatClampNeg a1)) from c6), if_neg (show ¬ ((M.1 620 (Int32.toNatClampNeg a1)) = a2) from c21)]; done) | (simp only [if_pos (show 0 ≤ (M.1 620 (Int32.toNatClampNeg a1)) from c6), if_neg (show ¬ ((M.1 620 (Int32.toNatClampNeg a1)) = a2) from c21)]; rfl)
      · rfl
  · rw [if_neg (show ¬ (0 ≤ (M.1 620 (Int32.toNatClampNeg a1))) from c6)] at hp
    refine j_bipush g (n := -11) (-11) (by decide +kernel) (by decide +kernel) ?_
    refine j_goto g (off := 19) (tgt := 30) (by decide +kernel) (by decide) ?_
    refine hr.1 _ _ _ _ (by decide +kernel) ⟨_, rfl, by first | rfl | exact b2i_nar | rfl⟩ ?_ ?_
    · unfold r_X8_lacksSort; first | rfl | (simp only [if_neg (show ¬ (0 ≤ (M.1 620 (Int32.toNatClampNeg a1))) from c6)]; done) | (simp only [if_neg (show ¬ (0 ≤ (M.1 620 (Int32.toNatClampNeg a1))) from c6)]; rfl)
    · rfl
def r_X8_item (M : Mm) (a1 : Int32) (a2 : Int32) (a3 : Int32) : Int32 := if (b2i (0 ≤ a1 ∧ a1 ≤ 3)) = 0 then (-1) else if ¬ (b2i (0 ≤ a2 ∧ a2 ≤ 3)) = 0 then (if (r_X8_lacksSort M a1 a2) = 0 then (if (b2i (0 ≤ a3 ∧ a3 ≤ ((M.1 621 (Int32.toNatClampNeg a1)) - 1))) = 0 then (-12) else Int64.toInt32 (M.2 622 (Int32.toNatClampNeg ((40 * a1) + a3)))) else r_X8_lacksSort M a1 a2) else (-1)
def p_X8_item (M : Mm) (a1 : Int32) (a2 : Int32) (a3 : Int32) : Prop := (if (b2i (0 ≤ a1 ∧ a1 ≤ 3)) = 0 then True else (if ¬ (b2i (0 ≤ a2 ∧ a2 ≤ 3)) = 0 then (p_X8_lacksSort M a1 a2) ∧ (if (r_X8_lacksSort M a1 a2) = 0 then (vp_in a1 4) ∧ (if (b2i (0 ≤ a3 ∧ a3 ≤ ((M.1 621 (Int32.toNatClampNeg a1)) - 1))) = 0 then True else (vp_in ((40 * a1) + a3) 160) ∧ True) else True) else True))
theorem rnX8_item {d : Nat} {M : Mm} {a1 : Int32} {a2 : Int32} {a3 : Int32}  (hp : p_X8_item M a1 a2 a3) : Rn (d + 2) mX8_item [.ref 600, .int a1, .int a2, .int a3] M (some (.int (r_X8_item M a1 a2 a3))) M := by
  refine Rn.of [some (.ref 600), some (.int a1), some (.int a2), some (.int a3), none] (by decide +kernel) rfl (Nat.le_of_ble_eq_true rfl) rfl (fun J g hr => ?_)
  unfold p_X8_item at hp
  refine j_iload_n g (i := 1) (by decide +kernel) rfl ?_
  refine j_cS1r g s8_401 (by decide +kernel) (Nat.le_of_ble_eq_true rfl) (rnX8_isShelf) ?_
  refine j_if_eq g (off := 12) (tgt := 16) (by decide +kernel) (by decide) (fun c4 => ?_) (fun c4 => ?_)
  · rw [if_pos (show (b2i (0 ≤ a1 ∧ a1 ≤ 3)) = 0 from c4)] at hp
    refine j_iconst g (n := -1) (-1) (by decide +kernel) rfl ?_
    refine hr.1 _ _ _ _ (by decide +kernel) ⟨_, rfl, by first | rfl | exact b2i_nar | rfl⟩ ?_ ?_
    · unfold r_X8_item; first | rfl | (simp only [if_pos (show (b2i (0 ≤ a1 ∧ a1 ≤ 3)) = 0 from c4)]; done) | (simp only [if_pos (show (b2i (0 ≤ a1 ∧ a1 ≤ 3)) = 0 from c4)]; rfl)
    · rfl
  · rw [if_neg (show ¬ ((b2i (0 ≤ a1 ∧ a1 ≤ 3)) = 0) from c4)] at hp
    refine j_iload_n g (i := 2) (by decide +kernel) rfl ?_
    refine j_iconst g (n := 0) (0) (by decide +kernel) rfl ?_
    refine j_iconst g (n := 3) (3) (by decide +kernel) rfl ?_
    refine j_cS3r g s8_95 (by decide +kernel) (Nat.le_of_ble_eq_true rfl) (rnX8_in) ?_
    refine j_if_ne g (off := 5) (tgt := 18) (by decide +kernel) (by decide) (fun c13 => ?_) (fun c13 => ?_)
    · rw [if_pos (show ¬ (b2i (0 ≤ a2 ∧ a2 ≤ 3)) = 0 from c13)] at hp
      refine j_aload_n g (i := 0) (by decide +kernel) rfl ?_
      refine j_iload_n g (i := 1) (by decide +kernel) rfl ?_
      refine j_iload_n g (i := 2) (by decide +kernel) rfl ?_
      obtain ⟨h0, hp⟩ := hp
      refine j_cV2r g v8_404 ⟨rfl, by decide⟩ (by decide +kernel) (by decide +kernel) (Nat.le_of_ble_eq_true rfl) (rnX8_lacksSort h0) ?_
      refine j_istore g (i := 4) (by decide +kernel) (by decide) ?_
      dsimp only [stL, clL, hdL]
      refine j_iload g (i := 4) (by decide +kernel) rfl ?_
      refine j_if_eq g (off := 6) (tgt := 34) (by decide +kernel) (by decide) (fun c28 => ?_) (fun c28 => ?_)
      · rw [if_pos (show (r_X8_lacksSort M a1 a2) = 0 from c28)] at hp
        refine j_iload_n g (i := 3) (by decide +kernel) rfl ?_
        refine j_iconst g (n := 0) (0) (by decide +kernel) rfl ?_
        refine j_aload_n g (i := 0) (by decide +kernel) rfl ?_
        refine j_gA g (b := 621) f8_70 (by decide +kernel) (by decide +kernel) (by decide +kernel) (by decide +kernel) ?_
        refine j_iload_n g (i := 1) (by decide +kernel) rfl ?_
        obtain ⟨h0, hp⟩ := hp
        refine j_ia g 4 (by decide +kernel) (by decide +kernel) (by decide +kernel) h0 ?_
        refine j_iconst g (n := 1) (1) (by decide +kernel) rfl ?_
        refine j_isub g (by decide +kernel) ?_
        refine j_cS3r g s8_95 (by decide +kernel) (Nat.le_of_ble_eq_true rfl) (rnX8_in) ?_
        refine j_if_eq g (off := 18) (tgt := 65) (by decide +kernel) (by decide) (fun c47 => ?_) (fun c47 => ?_)
        · rw [if_pos (show (b2i (0 ≤ a3 ∧ a3 ≤ ((M.1 621 (Int32.toNatClampNeg a1)) - 1))) = 0 from c47)] at hp
          refine j_bipush g (n := -12) (-12) (by decide +kernel) (by decide +kernel) ?_
          refine hr.1 _ _ _ _ (by decide +kernel) ⟨_, rfl, by first | rfl | exact b2i_nar | rfl⟩ ?_ ?_
          · unfold r_X8_item; first | rfl | (simp only [if_neg (show ¬ ((b2i (0 ≤ a1 ∧ a1 ≤ 3)) = 0) from c4), if_pos (show ¬ (b2i (0 ≤ a2 ∧ a2 ≤ 3)) = 0 from c13), if_pos (show (r_X8_lacksSort M a1 a2) = 0 from c28), if_pos (show (b2i (0 ≤ a3 ∧ a3 ≤ ((M.1 621 (Int32.toNatClampNeg a1)) - 1))) = 0 from c47)]; done) | (simp only [if_neg (show ¬ ((b2i (0 ≤ a1 ∧ a1 ≤ 3)) = 0) from c4), if_pos (show ¬ (b2i (0 ≤ a2 ∧ a2 ≤ 3)) = 0 from c13), if_pos (show (r_X8_lacksSort M a1 a2) = 0 from c28), if_pos (show (b2i (0 ≤ a3 ∧ a3 ≤ ((M.1 621 (Int32.toNatClampNeg a1)) - 1))) = 0 from c47)]; rfl)
          · rfl
        · rw [if_neg (show ¬ ((b2i (0 ≤ a3 ∧ a3 ≤ ((M.1 621 (Int32.toNatClampNeg a1)) - 1))) = 0) from c47)] at hp
          refine j_aload_n g (i := 0) (by decide +kernel) rfl ?_
          refine j_gA g (b := 622) f8_73 (by decide +kernel) (by decide +kernel) (by decide +kernel) (by decide +kernel) ?_
          refine j_bipush g (n := 40) (40) (by decide +kernel) (by decide +kernel) ?_
          refine j_iload_n g (i := 1) (by decide +kernel) rfl ?_
          refine j_imul g (by decide +kernel) ?_
          refine j_iload_n g (i := 3) (by decide +kernel) rfl ?_
          refine j_iadd g (by decide +kernel) ?_
          obtain ⟨h0, hp⟩ := hp
          refine j_la g 160 (by decide +kernel) (by decide +kernel) (by decide +kernel) h0 ?_
          refine j_l2i g (by decide +kernel) ?_
          refine j_goto g (off := 5) (tgt := 67) (by decide +kernel) (by decide) ?_
          refine hr.1 _ _ _ _ (by decide +kernel) ⟨_, rfl, by first | rfl | exact b2i_nar | rfl⟩ ?_ ?_
          · unfold r_X8_item; first | rfl | (simp only [if_neg (show ¬ ((b2i (0 ≤ a1 ∧ a1 ≤ 3)) = 0) from c4), if_pos (show ¬ (b2i (0 ≤ a2 ∧ a2 ≤ 3)) = 0 from c13), if_pos (show (r_X8_lacksSort M a1 a2) = 0 from c28), if_neg (show ¬ ((b2i (0 ≤ a3 ∧ a3 ≤ ((M.1 621 (Int32.toNatClampNeg a1)) - 1))) = 0) from c47)]; done) | (simp only [if_neg (show ¬ ((b2i (0 ≤ a1 ∧ a1 ≤ 3)) = 0) from c4), if_pos (show ¬ (b2i (0 ≤ a2 ∧ a2 ≤ 3)) = 0 from c13), if_pos (show (r_X8_lacksSort M a1 a2) = 0 from c28), if_neg (show ¬ ((b2i (0 ≤ a3 ∧ a3 ≤ ((M.1 621 (Int32.toNatClampNeg a1)) - 1))) = 0) from c47)]; rfl)
          · rfl
      · rw [if_neg (show ¬ ((r_X8_lacksSort M a1 a2) = 0) from c28)] at hp
        refine j_iload g (i := 4) (by decide +kernel) rfl ?_
        refine hr.1 _ _ _ _ (by decide +kernel) ⟨_, rfl, by first | rfl | exact b2i_nar | rfl⟩ ?_ ?_
        · unfold r_X8_item; first | rfl | (simp only [if_neg (show ¬ ((b2i (0 ≤ a1 ∧ a1 ≤ 3)) = 0) from c4), if_pos (show ¬ (b2i (0 ≤ a2 ∧ a2 ≤ 3)) = 0 from c13), if_neg (show ¬ ((r_X8_lacksSort M a1 a2) = 0) from c28)]; done) | (simp only [if_neg (show ¬ ((b2i (0 ≤ a1 ∧ a1 ≤ 3)) = 0) from c4), if_pos (show ¬ (b2i (0 ≤ a2 ∧ a2 ≤ 3)) = 0 from c13), if_neg (show ¬ ((r_X8_lacksSort M a1 a2) = 0) from c28)]; rfl)
        · rfl
    · rw [if_neg (show ¬ (¬ (b2i (0 ≤ a2 ∧ a2 ≤ 3)) = 0) from c13)] at hp
      refine j_iconst g (n := -1) (-1) (by decide +kernel) rfl ?_
      refine hr.1 _ _ _ _ (by decide +kernel) ⟨_, rfl, by first | rfl | exact b2i_nar | rfl⟩ ?_ ?_
      · unfold r_X8_item; first | rfl | (simp only [if_neg (show ¬ ((b2i (0 ≤ a1 ∧ a1 ≤ 3)) = 0) from c4), if_neg (show ¬ (¬ (b2i (0 ≤ a2 ∧ a2 ≤ 3)) = 0) from c13)]; done) | (simp only [if_neg (show ¬ ((b2i (0 ≤ a1 ∧ a1 ≤ 3)) = 0) from c4), if_neg (show ¬ (¬ (b2i (0 ≤ a2 ∧ a2 ≤ 3)) = 0) from c13)]; rfl)
      · rfl
def r_X8_isHeld (M : Mm) (a1 : Int32) (a2 : Int32) : Int32 := if ¬ a1 = 0 then (if ¬ a1 = 1 then (if ¬ a1 = 2 then 0 else 1) else b2i (0 ≤ a2 ∧ a2 ≤ 3)) else b2i (0 ≤ a2 ∧ a2 ≤ M.1 600 12 - 1)
theorem rnX8_isHeld {d : Nat} {M : Mm} {a1 : Int32} {a2 : Int32}  : Rn (d + 2) mX8_isHeld [.ref 600, .int a1, .int a2] M (some (.int (r_X8_isHeld M a1 a2))) M := by
  refine Rn.of [some (.ref 600), some (.int a1), some (.int a2)] (by decide +kernel) rfl (Nat.le_of_ble_eq_true rfl) rfl (fun J g hr => ?_)
  refine j_iload_n g (i := 1) (by decide +kernel) rfl ?_
  refine j_if_ne g (off := 11) (tgt := 12) (by decide +kernel) (by decide) (fun c1 => ?_) (fun c1 => ?_)
  · skip
    refine j_iload_n g (i := 1) (by decide +kernel) rfl ?_
    refine j_iconst g (n := 1) (1) (by decide +kernel) rfl ?_
    refine j_icmp_ne g (off := 10) (tgt := 24) (by decide +kernel) (by decide) (fun c14 => ?_) (fun c14 => ?_)
    · skip
      refine j_iload_n g (i := 1) (by decide +kernel) rfl ?_
      refine j_iconst g (n := 2) (2) (by decide +kernel) rfl ?_
      refine j_icmp_ne g (off := 7) (tgt := 33) (by decide +kernel) (by decide) (fun c26 => ?_) (fun c26 => ?_)
      · skip
        refine j_iconst g (n := 0) (0) (by decide +kernel) rfl ?_
        refine hr.1 _ _ _ _ (by decide +kernel) ⟨_, rfl, by first | rfl | exact b2i_nar | decide +kernel⟩ ?_ ?_
        · unfold r_X8_isHeld; first | rfl | (simp only [if_pos (show ¬ a1 = 0 from c1), if_pos (show ¬ a1 = 1 from c14), if_pos (show ¬ a1 = 2 from c26)]; done) | (simp only [if_pos (show ¬ a1 = 0 from c1), if_pos (show ¬ a1 = 1 from c14), if_pos (show ¬ a1 = 2 from c26)]; rfl)
        · rfl
      · skip
        refine j_iconst g (n := 1) (1) (by decide +kernel) rfl ?_
        refine j_goto g (off := 4) (tgt := 34) (by decide +kernel) (by decide) ?_
        refine hr.1 _ _ _ _ (by decide +kernel) ⟨_, rfl, by first | rfl | exact b2i_nar | decide +kernel⟩ ?_ ?_
        · unfold r_X8_isHeld; first | rfl | (simp only [if_pos (show ¬ a1 = 0 from c1), if_pos (show ¬ a1 = 1 from c14), if_neg (show ¬ (¬ a1 = 2) from c26)]; done) | (simp only [if_pos (show ¬ a1 = 0 from c1), if_pos (show ¬ a1 = 1 from c14), if_neg (show ¬ (¬ a1 = 2) from c26)]; rfl)
        · rfl
    · skip
      refine j_iload_n g (i := 2) (by decide +kernel) rfl ?_
      refine j_cS1r g s8_401 (by decide +kernel) (Nat.le_of_ble_eq_true rfl) (rnX8_isShelf) ?_
      refine j_goto g (off := 13) (tgt := 34) (by decide +kernel) (by decide) ?_
      refine hr.1 _ _ _ _ (by decide +kernel) ⟨_, rfl, by first | rfl | exact b2i_nar | decide +kernel⟩ ?_ ?_
      · unfold r_X8_isHeld; first | rfl | (simp only [if_pos (show ¬ a1 = 0 from c1), if_neg (show ¬ (¬ a1 = 1) from c14)]; done) | (simp only [if_pos (show ¬ a1 = 0 from c1), if_neg (show ¬ (¬ a1 = 1) from c14)]; rfl)
      · rfl
  · skip
    refine j_aload_n g (i := 0) (by decide +kernel) rfl ?_
    refine j_iload_n g (i := 2) (by decide +kernel) rfl ?_
    refine j_cV1r g v8_371 ⟨rfl, by decide⟩ (by decide +kernel) (by decide +kernel) (Nat.le_of_ble_eq_true rfl) (rnX8_isRule) ?_
    refine j_goto g (off := 25) (tgt := 34) (by decide +kernel) (by decide) ?_
    refine hr.1 _ _ _ _ (by decide +kernel) ⟨_, rfl, by first | rfl | exact b2i_nar | decide +kernel⟩ ?_ ?_
    · unfold r_X8_isHeld; first | rfl | (simp only [if_neg (show ¬ (¬ a1 = 0) from c1)]; done) | (simp only [if_neg (show ¬ (¬ a1 = 0) from c1)]; rfl)
    · rfl
def r_X8_shelf (M : Mm) (a1 : Int32) (a2 : Int32) (a3 : Int32) : Int32 := if (b2i (0 ≤ a1 ∧ a1 ≤ 3)) = 0 then (-1) else if ¬ (r_X8_isHeld M a2 a3) = 0 then 1 else (-1)
def w_X8_shelf (M : Mm) (a1 : Int32) (a2 : Int32) (a3 : Int32) : Mm := if (b2i (0 ≤ a1 ∧ a1 ≤ 3)) = 0 then M else if ¬ (r_X8_isHeld M a2 a3) = 0 then (if a2 = 2 then (if ¬ a2 = 1 then (wi (wi (wi M 623 (Int32.toNatClampNeg a1) (-1)) 624 (Int32.toNatClampNeg a1) a3) 625 (Int32.toNatClampNeg a1) 0) else (wi (wi (wi M 623 (Int32.toNatClampNeg a1) (-1)) 624 (Int32.toNatClampNeg a1) (M.1 620 (Int32.toNatClampNeg a3))) 625 (Int32.toNatClampNeg a1) (M.1 621 (Int32.toNatClampNeg a3)))) else if ¬ a2 = 1 then (wi (wi (wi M 623 (Int32.toNatClampNeg a1) a2) 624 (Int32.toNatClampNeg a1) a3) 625 (Int32.toNatClampNeg a1) 0) else if 0 ≤ (M.1 620 (Int32.toNatClampNeg a3)) then (wi (wi (wi M 623 (Int32.toNatClampNeg a1) a2) 624 (Int32.toNatClampNeg a1) (M.1 620 (Int32.toNatClampNeg a3))) 625 (Int32.toNatClampNeg a1) (M.1 621 (Int32.toNatClampNeg a3))) else (wi (wi (wi M 623 (Int32.toNatClampNeg a1) (-1)) 624 (Int32.toNatClampNeg a1) (M.1 620 (Int32.toNatClampNeg a3))) 625 (Int32.toNatClampNeg a1) (M.1 621 (Int32.toNatClampNeg a3)))) else M
def p_X8_shelf (M : Mm) (a1 : Int32) (a2 : Int32) (a3 : Int32) : Prop := (if (b2i (0 ≤ a1 ∧ a1 ≤ 3)) = 0 then True else (if ¬ (r_X8_isHeld M a2 a3) = 0 then (if a2 = 2 then (vp_in a1 4) ∧ (if ¬ a2 = 1 then (vp_in a1 4) ∧ (vp_in a1 4) ∧ True else (vp_in a3 4) ∧ (vp_in a1 4) ∧ (vp_in a3 4) ∧ (vp_in a1 4) ∧ True) else (if ¬ a2 = 1 then (vp_in a1 4) ∧ (vp_in a1 4) ∧ (vp_in a1 4) ∧ True else (vp_in a3 4) ∧ (if 0 ≤ (M.1 620 (Int32.toNatClampNeg a3)) then (vp_in a1 4) ∧ (vp_in a3 4) ∧ (vp_in a1 4) ∧ (vp_in a3 4) ∧ (vp_in a1 4) ∧ True else (vp_in a1 4) ∧ (vp_in a3 4) ∧ (vp_in a1 4) ∧ (vp_in a3 4) ∧ (vp_in a1 4) ∧ True))) else True))
theorem rnX8_shelf {d : Nat} {M : Mm} {a1 : Int32} {a2 : Int32} {a3 : Int32}  (hp : p_X8_shelf M a1 a2 a3) : Rn (d + 3) mX8_shelf [.ref 600, .int a1, .int a2, .int a3] M (some (.int (r_X8_shelf M a1 a2 a3))) (w_X8_shelf M a1 a2 a3) := by
  refine Rn.of [some (.ref 600), some (.int a1), some (.int a2), some (.int a3)] (by decide +kernel) rfl (Nat.le_of_ble_eq_true rfl) rfl (fun J g hr => ?_)
  unfold p_X8_shelf at hp
  refine j_iload_n g (i := 1) (by decide +kernel) rfl ?_
  refine j_cS1r g s8_401 (by decide +kernel) (Nat.le_of_ble_eq_true rfl) (rnX8_isShelf) ?_
  refine j_if_eq g (off := 12) (tgt := 16) (by decide +kernel) (by decide) (fun c4 => ?_) (fun c4 => ?_)
  · rw [if_pos (show (b2i (0 ≤ a1 ∧ a1 ≤ 3)) = 0 from c4)] at hp
    refine j_iconst g (n := -1) (-1) (by decide +kernel) rfl ?_
    refine hr.1 _ _ _ _ (by decide +kernel) ⟨_, rfl, by first | rfl | exact b2i_nar | rfl⟩ ?_ ?_
    · unfold r_X8_shelf; first | rfl | (simp only [if_pos (show (b2i (0 ≤ a1 ∧ a1 ≤ 3)) = 0 from c4)]; done) | (simp only [if_pos (show (b2i (0 ≤ a1 ∧ a1 ≤ 3)) = 0 from c4)]; rfl)
    · unfold w_X8_shelf; first | rfl | (simp only [if_pos (show (b2i (0 ≤ a1 ∧ a1 ≤ 3)) = 0 from c4)]; done) | (simp only [if_pos (show (b2i (0 ≤ a1 ∧ a1 ≤ 3)) = 0 from c4)]; rfl)
  · rw [if_neg (show ¬ ((b2i (0 ≤ a1 ∧ a1 ≤ 3)) = 0) from c4)] at hp
    refine j_aload_n g (i := 0) (by decide +kernel) rfl ?_
    refine j_iload_n g (i := 2) (by decide +kernel) rfl ?_
    refine j_iload_n g (i := 3) (by decide +kernel) rfl ?_
    refine j_cV2r g v8_409 ⟨rfl, by decide⟩ (by decide +kernel) (by decide +kernel) (Nat.le_of_ble_eq_true rfl) (rnX8_isHeld) ?_
    refine j_if_ne g (off := 5) (tgt := 18) (by decide +kernel) (by decide) (fun c13 => ?_) (fun c13 => ?_)
    · rw [if_pos (show ¬ (r_X8_isHeld M a2 a3) = 0 from c13)] at hp
      refine j_aload_n g (i := 0) (by decide +kernel) rfl ?_
      refine j_gA g (b := 623) f8_77 (by decide +kernel) (by decide +kernel) (by decide +kernel) (by decide +kernel) ?_
      refine j_iload_n g (i := 1) (by decide +kernel) rfl ?_
      refine j_iload_n g (i := 2) (by decide +kernel) rfl ?_
      refine j_iconst g (n := 2) (2) (by decide +kernel) rfl ?_
      refine j_icmp_eq g (off := 17) (tgt := 42) (by decide +kernel) (by decide) (fun c25 => ?_) (fun c25 => ?_)
      · rw [if_pos (show a2 = 2 from c25)] at hp
        refine j_iconst g (n := -1) (-1) (by decide +kernel) rfl ?_
        refine j_goto g (off := 4) (tgt := 47) (by decide +kernel) (by decide) ?_
        obtain ⟨h0, hp⟩ := hp
        refine j_is g 4 (by decide +kernel) (by decide +kernel) (by decide +kernel) h0 ?_
        refine j_aload_n g (i := 0) (by decide +kernel) rfl ?_
        refine j_gA g (b := 624) f8_80 (by decide +kernel) (by decide +kernel) (by decide +kernel) (by decide +kernel) ?_
        refine j_iload_n g (i := 1) (by decide +kernel) rfl ?_
        refine j_iload_n g (i := 2) (by decide +kernel) rfl ?_
        refine j_iconst g (n := 1) (1) (by decide +kernel) rfl ?_
        refine j_icmp_ne g (off := 12) (tgt := 67) (by decide +kernel) (by decide) (fun c55 => ?_) (fun c55 => ?_)
        · rw [if_pos (show ¬ a2 = 1 from c55)] at hp
          refine j_iload_n g (i := 3) (by decide +kernel) rfl ?_
          obtain ⟨h0, hp⟩ := hp
          refine j_is g 4 (by decide +kernel) (by decide +kernel) (by decide +kernel) h0 ?_
          refine j_aload_n g (i := 0) (by decide +kernel) rfl ?_
          refine j_gA g (b := 625) f8_83 (by decide +kernel) (by decide +kernel) (by decide +kernel) (by decide +kernel) ?_
          refine j_iload_n g (i := 1) (by decide +kernel) rfl ?_
          refine j_iload_n g (i := 2) (by decide +kernel) rfl ?_
          refine j_iconst g (n := 1) (1) (by decide +kernel) rfl ?_
          refine j_icmp_ne g (off := 12) (tgt := 88) (by decide +kernel) (by decide) (fun c76 => ?_) (fun c76 => by exfalso; revert c76; simpa using c55)
          refine j_iconst g (n := 0) (0) (by decide +kernel) rfl ?_
          obtain ⟨h0, hp⟩ := hp
          refine j_is g 4 (by decide +kernel) (by decide +kernel) (by decide +kernel) h0 ?_
          refine j_iconst g (n := 1) (1) (by decide +kernel) rfl ?_
          refine hr.1 _ _ _ _ (by decide +kernel) ⟨_, rfl, by first | rfl | exact b2i_nar | rfl⟩ ?_ ?_
          · unfold r_X8_shelf; first | rfl | (simp only [if_neg (show ¬ ((b2i (0 ≤ a1 ∧ a1 ≤ 3)) = 0) from c4), if_pos (show ¬ (r_X8_isHeld M a2 a3) = 0 from c13), if_pos (show a2 = 2 from c25), if_pos (show ¬ a2 = 1 from c55)]; done) | (simp only [if_neg (show ¬ ((b2i (0 ≤ a1 ∧ a1 ≤ 3)) = 0) from c4), if_pos (show ¬ (r_X8_isHeld M a2 a3) = 0 from c13), if_pos (show a2 = 2 from c25), if_pos (show ¬ a2 = 1 from c55)]; rfl)
          · unfold w_X8_shelf; first | rfl | (simp only [if_neg (show ¬ ((b2i (0 ≤ a1 ∧ a1 ≤ 3)) = 0) from c4), if_pos (show ¬ (r_X8_isHeld M a2 a3) = 0 from c13), if_pos (show a2 = 2 from c25), if_pos (show ¬ a2 = 1 from c55)]; done) | (simp only [if_neg (show ¬ ((b2i (0 ≤ a1 ∧ a1 ≤ 3)) = 0) from c4), if_pos (show ¬ (r_X8_isHeld M a2 a3) = 0 from c13), if_pos (show a2 = 2 from c25), if_pos (show ¬ a2 = 1 from c55)]; rfl)
        · rw [if_neg (show ¬ (¬ a2 = 1) from c55)] at hp
          refine j_aload_n g (i := 0) (by decide +kernel) rfl ?_
          refine j_gA g (b := 620) f8_67 (by decide +kernel) (by decide +kernel) (by decide +kernel) (by decide +kernel) ?_
          refine j_iload_n g (i := 3) (by decide +kernel) rfl ?_
          obtain ⟨h0, hp⟩ := hp
          refine j_ia g 4 (by decide +kernel) (by decide +kernel) (by decide +kernel) h0 ?_
          refine j_goto g (off := 4) (tgt := 68) (by decide +kernel) (by decide) ?_
          obtain ⟨h0, hp⟩ := hp
          refine j_is g 4 (by decide +kernel) (by decide +kernel) (by decide +kernel) h0 ?_
          refine j_aload_n g (i := 0) (by decide +kernel) rfl ?_
          refine j_gA g (b := 625) f8_83 (by decide +kernel) (by decide +kernel) (by decide +kernel) (by decide +kernel) ?_
          refine j_iload_n g (i := 1) (by decide +kernel) rfl ?_
          refine j_iload_n g (i := 2) (by decide +kernel) rfl ?_
          refine j_iconst g (n := 1) (1) (by decide +kernel) rfl ?_
          refine j_icmp_ne g (off := 12) (tgt := 88) (by decide +kernel) (by decide) (fun c76 => by exfalso; revert c76; simpa using c55) (fun c76 => ?_)
          refine j_aload_n g (i := 0) (by decide +kernel) rfl ?_
          refine j_gA g (b := 621) f8_70 (by decide +kernel) (by decide +kernel) (by decide +kernel) (by decide +kernel) ?_
          refine j_iload_n g (i := 3) (by decide +kernel) rfl ?_
          obtain ⟨h0, hp⟩ := hp
          refine j_ia g 4 (by decide +kernel) (by decide +kernel) (by decide +kernel) h0 ?_
          refine j_goto g (off := 4) (tgt := 89) (by decide +kernel) (by decide) ?_
          obtain ⟨h0, hp⟩ := hp
          refine j_is g 4 (by decide +kernel) (by decide +kernel) (by decide +kernel) h0 ?_
          refine j_iconst g (n := 1) (1) (by decide +kernel) rfl ?_
          refine hr.1 _ _ _ _ (by decide +kernel) ⟨_, rfl, by first | rfl | exact b2i_nar | rfl⟩ ?_ ?_
          · unfold r_X8_shelf; first | rfl | (simp only [if_neg (show ¬ ((b2i (0 ≤ a1 ∧ a1 ≤ 3)) = 0) from c4), if_pos (show ¬ (r_X8_isHeld M a2 a3) = 0 from c13), if_pos (show a2 = 2 from c25), if_neg (show ¬ (¬ a2 = 1) from c55)]; done) | (simp only [if_neg (show ¬ ((b2i (0 ≤ a1 ∧ a1 ≤ 3)) = 0) from c4), if_pos (show ¬ (r_X8_isHeld M a2 a3) = 0 from c13), if_pos (show a2 = 2 from c25), if_neg (show ¬ (¬ a2 = 1) from c55)]; rfl)
          · unfold w_X8_shelf; first | rfl | (simp only [if_neg (show ¬ ((b2i (0 ≤ a1 ∧ a1 ≤ 3)) = 0) from c4), if_pos (show ¬ (r_X8_isHeld M a2 a3) = 0 from c13), if_pos (show a2 = 2 from c25), if_neg (show ¬ (¬ a2 = 1) from c55)]; done) | (simp only [if_neg (show ¬ ((b2i (0 ≤ a1 ∧ a1 ≤ 3)) = 0) from c4), if_pos (show ¬ (r_X8_isHeld M a2 a3) = 0 from c13), if_pos (show a2 = 2 from c25), if_neg (show ¬ (¬ a2 = 1) from c55)]; rfl)
      · rw [if_neg (show ¬ (a2 = 2) from c25)] at hp
        refine j_iload_n g (i := 2) (by decide +kernel) rfl ?_
        refine j_iconst g (n := 1) (1) (by decide +kernel) rfl ?_
        refine j_icmp_ne g (off := 16) (tgt := 46) (by decide +kernel) (by decide) (fun c30 => ?_) (fun c30 => ?_)
        · rw [if_pos (show ¬ a2 = 1 from c30)] at hp
          refine j_iload_n g (i := 2) (by decide +kernel) rfl ?_
          obtain ⟨h0, hp⟩ := hp
          refine j_is g 4 (by decide +kernel) (by decide +kernel) (by decide +kernel) h0 ?_
          refine j_aload_n g (i := 0) (by decide +kernel) rfl ?_
          refine j_gA g (b := 624) f8_80 (by decide +kernel) (by decide +kernel) (by decide +kernel) (by decide +kernel) ?_
          refine j_iload_n g (i := 1) (by decide +kernel) rfl ?_
          refine j_iload_n g (i := 2) (by decide +kernel) rfl ?_
          refine j_iconst g (n := 1) (1) (by decide +kernel) rfl ?_
          refine j_icmp_ne g (off := 12) (tgt := 67) (by decide +kernel) (by decide) (fun c55 => ?_) (fun c55 => by exfalso; revert c55; simpa using c30)
          refine j_iload_n g (i := 3) (by decide +kernel) rfl ?_
          obtain ⟨h0, hp⟩ := hp
          refine j_is g 4 (by decide +kernel) (by decide +kernel) (by decide +kernel) h0 ?_
          refine j_aload_n g (i := 0) (by decide +kernel) rfl ?_
          refine j_gA g (b := 625) f8_83 (by decide +kernel) (by decide +kernel) (by decide +kernel) (by decide +kernel) ?_
          refine j_iload_n g (i := 1) (by decide +kernel) rfl ?_
          refine j_iload_n g (i := 2) (by decide +kernel) rfl ?_
          refine j_iconst g (n := 1) (1) (by decide +kernel) rfl ?_
          refine j_icmp_ne g (off := 12) (tgt := 88) (by decide +kernel) (by decide) (fun c76 => ?_) (fun c76 => by exfalso; revert c76; simpa using c30)
          refine j_iconst g (n := 0) (0) (by decide +kernel) rfl ?_
          obtain ⟨h0, hp⟩ := hp
          refine j_is g 4 (by decide +kernel) (by decide +kernel) (by decide +kernel) h0 ?_
          refine j_iconst g (n := 1) (1) (by decide +kernel) rfl ?_
          refine hr.1 _ _ _ _ (by decide +kernel) ⟨_, rfl, by first | rfl | exact b2i_nar | rfl⟩ ?_ ?_
          · unfold r_X8_shelf; first | rfl | (simp only [if_neg (show ¬ ((b2i (0 ≤ a1 ∧ a1 ≤ 3)) = 0) from c4), if_pos (show ¬ (r_X8_isHeld M a2 a3) = 0 from c13), if_neg (show ¬ (a2 = 2) from c25), if_pos (show ¬ a2 = 1 from c30)]; done) | (simp only [if_neg (show ¬ ((b2i (0 ≤ a1 ∧ a1 ≤ 3)) = 0) from c4), if_pos (show ¬ (r_X8_isHeld M a2 a3) = 0 from c13), if_neg (show ¬ (a2 = 2) from c25), if_pos (show ¬ a2 = 1 from c30)]; rfl)
          · unfold w_X8_shelf; first | rfl | (simp only [if_neg (show ¬ ((b2i (0 ≤ a1 ∧ a1 ≤ 3)) = 0) from c4), if_pos (show ¬ (r_X8_isHeld M a2 a3) = 0 from c13), if_neg (show ¬ (a2 = 2) from c25), if_pos (show ¬ a2 = 1 from c30)]; done) | (simp only [if_neg (show ¬ ((b2i (0 ≤ a1 ∧ a1 ≤ 3)) = 0) from c4), if_pos (show ¬ (r_X8_isHeld M a2 a3) = 0 from c13), if_neg (show ¬ (a2 = 2) from c25), if_pos (show ¬ a2 = 1 from c30)]; rfl)
        · rw [if_neg (show ¬ (¬ a2 = 1) from c30)] at hp
          refine j_aload_n g (i := 0) (by decide +kernel) rfl ?_
          refine j_gA g (b := 620) f8_67 (by decide +kernel) (by decide +kernel) (by decide +kernel) (by decide +kernel) ?_
          refine j_iload_n g (i := 3) (by decide +kernel) rfl ?_
          obtain ⟨h0, hp⟩ := hp
          refine j_ia g 4 (by decide +kernel) (by decide +kernel) (by decide +kernel) h0 ?_
          refine j_if_ge g (off := 7) (tgt := 46) (by decide +kernel) (by decide) (fun c39 => ?_) (fun c39 => ?_)
          · rw [if_pos (show 0 ≤ (M.1 620 (Int32.toNatClampNeg a3)) from c39)] at hp
            refine j_iload_n g (i := 2) (by decide +kernel) rfl ?_
            obtain ⟨h0, hp⟩ := hp
            refine j_is g 4 (by decide +kernel) (by decide +kernel) (by decide +kernel) h0 ?_
            refine j_aload_n g (i := 0) (by decide +kernel) rfl ?_
            refine j_gA g (b := 624) f8_80 (by decide +kernel) (by decide +kernel) (by decide +kernel) (by decide +kernel) ?_
            refine j_iload_n g (i := 1) (by decide +kernel) rfl ?_
            refine j_iload_n g (i := 2) (by decide +kernel) rfl ?_
            refine j_iconst g (n := 1) (1) (by decide +kernel) rfl ?_
            refine j_icmp_ne g (off := 12) (tgt := 67) (by decide +kernel) (by decide) (fun c55 => by exfalso; revert c55; simpa using c30) (fun c55 => ?_)
            refine j_aload_n g (i := 0) (by decide +kernel) rfl ?_
            refine j_gA g (b := 620) f8_67 (by decide +kernel) (by decide +kernel) (by decide +kernel) (by decide +kernel) ?_
            refine j_iload_n g (i := 3) (by decide +kernel) rfl ?_
            obtain ⟨h0, hp⟩ := hp
            refine j_ia g 4 (by decide +kernel) (by decide +kernel) (by decide +kernel) h0 ?_
            refine j_goto g (off := 4) (tgt := 68) (by decide +kernel) (by decide) ?_
            obtain ⟨h0, hp⟩ := hp
            refine j_is g 4 (by decide +kernel) (by decide +kernel) (by decide +kernel) h0 ?_
            refine j_aload_n g (i := 0) (by decide +kernel) rfl ?_
            refine j_gA g (b := 625) f8_83 (by decide +kernel) (by decide +kernel) (by decide +kernel) (by decide +kernel) ?_
            refine j_iload_n g (i := 1) (by decide +kernel) rfl ?_
            refine j_iload_n g (i := 2) (by decide +kernel) rfl ?_
            refine j_iconst g (n := 1) (1) (by decide +kernel) rfl ?_
            refine j_icmp_ne g (off := 12) (tgt := 88) (by decide +kernel) (by decide) (fun c76 => by exfalso; revert c76; simpa using c30) (fun c76 => ?_)
            refine j_aload_n g (i := 0) (by decide +kernel) rfl ?_
            refine j_gA g (b := 621) f8_70 (by decide +kernel) (by decide +kernel) (by decide +kernel) (by decide +kernel) ?_
            refine j_iload_n g (i := 3) (by decide +kernel) rfl ?_
            obtain ⟨h0, hp⟩ := hp
            refine j_ia g 4 (by decide +kernel) (by decide +kernel) (by decide +kernel) h0 ?_
            refine j_goto g (off := 4) (tgt := 89) (by decide +kernel) (by decide) ?_
            obtain ⟨h0, hp⟩ := hp
            refine j_is g 4 (by decide +kernel) (by decide +kernel) (by decide +kernel) h0 ?_
            refine j_iconst g (n := 1) (1) (by decide +kernel) rfl ?_
            refine hr.1 _ _ _ _ (by decide +kernel) ⟨_, rfl, by first | rfl | exact b2i_nar | rfl⟩ ?_ ?_
            · unfold r_X8_shelf; first | rfl | (simp only [if_neg (show ¬ ((b2i (0 ≤ a1 ∧ a1 ≤ 3)) = 0) from c4), if_pos (show ¬ (r_X8_isHeld M a2 a3) = 0 from c13), if_neg (show ¬ (a2 = 2) from c25), if_neg (show ¬ (¬ a2 = 1) from c30), if_pos (show 0 ≤ (M.1 620 (Int32.toNatClampNeg a3)) from c39)]; done) | (simp only [if_neg (show ¬ ((b2i (0 ≤ a1 ∧ a1 ≤ 3)) = 0) from c4), if_pos (show ¬ (r_X8_isHeld M a2 a3) = 0 from c13), if_neg (show ¬ (a2 = 2) from c25), if_neg (show ¬ (¬ a2 = 1) from c30), if_pos (show 0 ≤ (M.1 620 (Int32.toNatClampNeg a3)) from c39)]; rfl)
            · unfold w_X8_shelf; first | rfl | (simp only [if_neg (show ¬ ((b2i (0 ≤ a1 ∧ a1 ≤ 3)) = 0) from c4), if_pos (show ¬ (r_X8_isHeld M a2 a3) = 0 from c13), if_neg (show ¬ (a2 = 2) from c25), if_neg (show ¬ (¬ a2 = 1) from c30), if_pos (show 0 ≤ (M.1 620 (Int32.toNatClampNeg a3)) from c39)]; done) | (simp only [if_neg (show ¬ ((b2i (0 ≤ a1 ∧ a1 ≤ 3)) = 0) from c4), if_pos (show ¬ (r_X8_isHeld M a2 a3) = 0 from c13), if_neg (show ¬ (a2 = 2) from c25), if_neg (show ¬ (¬ a2 = 1) from c30), if_pos (show 0 ≤ (M.1 620 (Int32.toNatClampNeg a3)) from c39)]; rfl)
          · rw [if_neg (show ¬ (0 ≤ (M.1 620 (Int32.toNatClampNeg a3))) from c39)] at hp
            refine j_iconst g (n := -1) (-1) (by decide +kernel) rfl ?_
            refine j_goto g (off := 4) (tgt := 47) (by decide +kernel) (by decide) ?_
            obtain ⟨h0, hp⟩ := hp
            refine j_is g 4 (by decide +kernel) (by decide +kernel) (by decide +kernel) h0 ?_
            refine j_aload_n g (i := 0) (by decide +kernel) rfl ?_
            refine j_gA g (b := 624) f8_80 (by decide +kernel) (by decide +kernel) (by decide +kernel) (by decide +kernel) ?_
            refine j_iload_n g (i := 1) (by decide +kernel) rfl ?_
            refine j_iload_n g (i := 2) (by decide +kernel) rfl ?_
            refine j_iconst g (n := 1) (1) (by decide +kernel) rfl ?_
            refine j_icmp_ne g (off := 12) (tgt := 67) (by decide +kernel) (by decide) (fun c55 => by exfalso; revert c55; simpa using c30) (fun c55 => ?_)
            refine j_aload_n g (i := 0) (by decide +kernel) rfl ?_
            refine j_gA g (b := 620) f8_67 (by decide +kernel) (by decide +kernel) (by decide +kernel) (by decide +kernel) ?_
            refine j_iload_n g (i := 3) (by decide +kernel) rfl ?_
            obtain ⟨h0, hp⟩ := hp
            refine j_ia g 4 (by decide +kernel) (by decide +kernel) (by decide +kernel) h0 ?_
            refine j_goto g (off := 4) (tgt := 68) (by decide +kernel) (by decide) ?_
            obtain ⟨h0, hp⟩ := hp
            refine j_is g 4 (by decide +kernel) (by decide +kernel) (by decide +kernel) h0 ?_
            refine j_aload_n g (i := 0) (by decide +kernel) rfl ?_
            refine j_gA g (b := 625) f8_83 (by decide +kernel) (by decide +kernel) (by decide +kernel) (by decide +kernel) ?_
            refine j_iload_n g (i := 1) (by decide +kernel) rfl ?_
            refine j_iload_n g (i := 2) (by decide +kernel) rfl ?_
            refine j_iconst g (n := 1) (1) (by decide +kernel) rfl ?_
            refine j_icmp_ne g (off := 12) (tgt := 88) (by decide +kernel) (by decide) (fun c76 => by exfalso; revert c76; simpa using c30) (fun c76 => ?_)
            refine j_aload_n g (i := 0) (by decide +kernel) rfl ?_
            refine j_gA g (b := 621) f8_70 (by decide +kernel) (by decide +kernel) (by decide +kernel) (by decide +kernel) ?_
            refine j_iload_n g (i := 3) (by decide +kernel) rfl ?_
            obtain ⟨h0, hp⟩ := hp
            refine j_ia g 4 (by decide +kernel) (by decide +kernel) (by decide +kernel) h0 ?_
            refine j_goto g (off := 4) (tgt := 89) (by decide +kernel) (by decide) ?_
            obtain ⟨h0, hp⟩ := hp
            refine j_is g 4 (by decide +kernel) (by decide +kernel) (by decide +kernel) h0 ?_
            refine j_iconst g (n := 1) (1) (by decide +kernel) rfl ?_
            refine hr.1 _ _ _ _ (by decide +kernel) ⟨_, rfl, by first | rfl | exact b2i_nar | rfl⟩ ?_ ?_
            · unfold r_X8_shelf; first | rfl | (simp only [if_neg (show ¬ ((b2i (0 ≤ a1 ∧ a1 ≤ 3)) = 0) from c4), if_pos (show ¬ (r_X8_isHeld M a2 a3) = 0 from c13), if_neg (show ¬ (a2 = 2) from c25), if_neg (show ¬ (¬ a2 = 1) from c30), if_neg (show ¬ (0 ≤ (M.1 620 (Int32.toNatClampNeg a3))) from c39)]; done) | (simp only [if_neg (show ¬ ((b2i (0 ≤ a1 ∧ a1 ≤ 3)) = 0) from c4), if_pos (show ¬ (r_X8_isHeld M a2 a3) = 0 from c13), if_neg (show ¬ (a2 = 2) from c25), if_neg (show ¬ (¬ a2 = 1) from c30), if_neg (show ¬ (0 ≤ (M.1 620 (Int32.toNatClampNeg a3))) from c39)]; rfl)
            · unfold w_X8_shelf; first | rfl | (simp only [if_neg (show ¬ ((b2i (0 ≤ a1 ∧ a1 ≤ 3)) = 0) from c4), if_pos (show ¬ (r_X8_isHeld M a2 a3) = 0 from c13), if_neg (show ¬ (a2 = 2) from c25), if_neg (show ¬ (¬ a2 = 1) from c30), if_neg (show ¬ (0 ≤ (M.1 620 (Int32.toNatClampNeg a3))) from c39)]; done) | (simp only [if_neg (show ¬ ((b2i (0 ≤ a1 ∧ a1 ≤ 3)) = 0) from c4), if_pos (show ¬ (r_X8_isHeld M a2 a3) = 0 from c13), if_neg (show ¬ (a2 = 2) from c25), if_neg (show ¬ (¬ a2 = 1) from c30), if_neg (show ¬ (0 ≤ (M.1 620 (Int32.toNatClampNeg a3))) from c39)]; rfl)
    · rw [if_neg (show ¬ (¬ (r_X8_isHeld M a2 a3) = 0) from c13)] at hp
      refine j_iconst g (n := -1) (-1) (by decide +kernel) rfl ?_
      refine hr.1 _ _ _ _ (by decide +kernel) ⟨_, rfl, by first | rfl | exact b2i_nar | rfl⟩ ?_ ?_
      · unfold r_X8_shelf; first | rfl | (simp only [if_neg (show ¬ ((b2i (0 ≤ a1 ∧ a1 ≤ 3)) = 0) from c4), if_neg (show ¬ (¬ (r_X8_isHeld M a2 a3) = 0) from c13)]; done) | (simp only [if_neg (show ¬ ((b2i (0 ≤ a1 ∧ a1 ≤ 3)) = 0) from c4), if_neg (show ¬ (¬ (r_X8_isHeld M a2 a3) = 0) from c13)]; rfl)
      · unfold w_X8_shelf; first | rfl | (simp only [if_neg (show ¬ ((b2i (0 ≤ a1 ∧ a1 ≤ 3)) = 0) from c4), if_neg (show ¬ (¬ (r_X8_isHeld M a2 a3) = 0) from c13)]; done) | (simp only [if_neg (show ¬ ((b2i (0 ≤ a1 ∧ a1 ≤ 3)) = 0) from c4), if_neg (show ¬ (¬ (r_X8_isHeld M a2 a3) = 0) from c13)]; rfl)
def r_X8_kindOn (M : Mm) (a1 : Int32) : Int32 := if (M.1 623 (Int32.toNatClampNeg a1)) = 0 then (if (b2i (0 ≤ (M.1 624 (Int32.toNatClampNeg a1)) ∧ (M.1 624 (Int32.toNatClampNeg a1)) ≤ M.1 600 12 - 1)) = 0 then (-1) else M.1 608 (Int32.toNatClampNeg (2 * (M.1 624 (Int32.toNatClampNeg a1))))) else if 0 ≤ (M.1 623 (Int32.toNatClampNeg a1)) then 9 else (-1)
def p_X8_kindOn (M : Mm) (a1 : Int32) : Prop := (vp_in a1 4) ∧ (if (M.1 623 (Int32.toNatClampNeg a1)) = 0 then (vp_in a1 4) ∧ (if (b2i (0 ≤ (M.1 624 (Int32.toNatClampNeg a1)) ∧ (M.1 624 (Int32.toNatClampNeg a1)) ≤ M.1 600 12 - 1)) = 0 then True else (vp_in a1 4) ∧ (vp_in (2 * (M.1 624 (Int32.toNatClampNeg a1))) 8) ∧ True) else (vp_in a1 4) ∧ (if 0 ≤ (M.1 623 (Int32.toNatClampNeg a1)) then True else True))
theorem rnX8_kindOn {d : Nat} {M : Mm} {a1 : Int32}  (hp : p_X8_kindOn M a1) : Rn (d + 2) mX8_kindOn [.ref 600, .int a1] M (some (.int (r_X8_kindOn M a1))) M := by
  refine Rn.of [some (.ref 600), some (.int a1)] (by decide +kernel) rfl (Nat.le_of_ble_eq_true rfl) rfl (fun J g hr => ?_)
  unfold p_X8_kindOn at hp
  refine j_aload_n g (i := 0) (by decide +kernel) rfl ?_
  refine j_gA g (b := 623) f8_77 (by decide +kernel) (by decide +kernel) (by decide +kernel) (by decide +kernel) ?_
  refine j_iload_n g (i := 1) (by decide +kernel) rfl ?_
  obtain ⟨h0, hp⟩ := hp
  refine j_ia g 4 (by decide +kernel) (by decide +kernel) (by decide +kernel) h0 ?_
  refine j_if_eq g (off := 19) (tgt := 25) (by decide +kernel) (by decide) (fun c6 => ?_) (fun c6 => ?_)
  · rw [if_pos (show (M.1 623 (Int32.toNatClampNeg a1)) = 0 from c6)] at hp
    refine j_aload_n g (i := 0) (by decide +kernel) rfl ?_
    refine j_aload_n g (i := 0) (by decide +kernel) rfl ?_
    refine j_gA g (b := 624) f8_80 (by decide +kernel) (by decide +kernel) (by decide +kernel) (by decide +kernel) ?_
    refine j_iload_n g (i := 1) (by decide +kernel) rfl ?_
    obtain ⟨h0, hp⟩ := hp
    refine j_ia g 4 (by decide +kernel) (by decide +kernel) (by decide +kernel) h0 ?_
    refine j_cV1r g v8_371 ⟨rfl, by decide⟩ (by decide +kernel) (by decide +kernel) (Nat.le_of_ble_eq_true rfl) (rnX8_isRule) ?_
    refine j_if_eq g (off := 19) (tgt := 54) (by decide +kernel) (by decide) (fun c35 => ?_) (fun c35 => ?_)
    · rw [if_pos (show (b2i (0 ≤ (M.1 624 (Int32.toNatClampNeg a1)) ∧ (M.1 624 (Int32.toNatClampNeg a1)) ≤ M.1 600 12 - 1)) = 0 from c35)] at hp
      refine j_iconst g (n := -1) (-1) (by decide +kernel) rfl ?_
      refine hr.1 _ _ _ _ (by decide +kernel) ⟨_, rfl, by first | rfl | exact b2i_nar | rfl⟩ ?_ ?_
      · unfold r_X8_kindOn; first | rfl | (simp only [if_pos (show (M.1 623 (Int32.toNatClampNeg a1)) = 0 from c6), if_pos (show (b2i (0 ≤ (M.1 624 (Int32.toNatClampNeg a1)) ∧ (M.1 624 (Int32.toNatClampNeg a1)) ≤ M.1 600 12 - 1)) = 0 from c35)]; done) | (simp only [if_pos (show (M.1 623 (Int32.toNatClampNeg a1)) = 0 from c6), if_pos (show (b2i (0 ≤ (M.1 624 (Int32.toNatClampNeg a1)) ∧ (M.1 624 (Int32.toNatClampNeg a1)) ≤ M.1 600 12 - 1)) = 0 from c35)]; rfl)
      · rfl
    · rw [if_neg (show ¬ ((b2i (0 ≤ (M.1 624 (Int32.toNatClampNeg a1)) ∧ (M.1 624 (Int32.toNatClampNeg a1)) ≤ M.1 600 12 - 1)) = 0) from c35)] at hp
      refine j_aload_n g (i := 0) (by decide +kernel) rfl ?_
      refine j_gA g (b := 608) f8_31 (by decide +kernel) (by decide +kernel) (by decide +kernel) (by decide +kernel) ?_
      refine j_iconst g (n := 2) (2) (by decide +kernel) rfl ?_
      refine j_aload_n g (i := 0) (by decide +kernel) rfl ?_
      refine j_gA g (b := 624) f8_80 (by decide +kernel) (by decide +kernel) (by decide +kernel) (by decide +kernel) ?_
      refine j_iload_n g (i := 1) (by decide +kernel) rfl ?_
      obtain ⟨h0, hp⟩ := hp
      refine j_ia g 4 (by decide +kernel) (by decide +kernel) (by decide +kernel) h0 ?_
      refine j_imul g (by decide +kernel) ?_
      obtain ⟨h0, hp⟩ := hp
      refine j_ia g 8 (by decide +kernel) (by decide +kernel) (by decide +kernel) h0 ?_
      refine j_goto g (off := 4) (tgt := 55) (by decide +kernel) (by decide) ?_
      refine hr.1 _ _ _ _ (by decide +kernel) ⟨_, rfl, by first | rfl | exact b2i_nar | rfl⟩ ?_ ?_
      · unfold r_X8_kindOn; first | rfl | (simp only [if_pos (show (M.1 623 (Int32.toNatClampNeg a1)) = 0 from c6), if_neg (show ¬ ((b2i (0 ≤ (M.1 624 (Int32.toNatClampNeg a1)) ∧ (M.1 624 (Int32.toNatClampNeg a1)) ≤ M.1 600 12 - 1)) = 0) from c35)]; done) | (simp only [if_pos (show (M.1 623 (Int32.toNatClampNeg a1)) = 0 from c6), if_neg (show ¬ ((b2i (0 ≤ (M.1 624 (Int32.toNatClampNeg a1)) ∧ (M.1 624 (Int32.toNatClampNeg a1)) ≤ M.1 600 12 - 1)) = 0) from c35)]; rfl)
      · rfl
  · rw [if_neg (show ¬ ((M.1 623 (Int32.toNatClampNeg a1)) = 0) from c6)] at hp
    refine j_aload_n g (i := 0) (by decide +kernel) rfl ?_
    refine j_gA g (b := 623) f8_77 (by decide +kernel) (by decide +kernel) (by decide +kernel) (by decide +kernel) ?_
    refine j_iload_n g (i := 1) (by decide +kernel) rfl ?_
    obtain ⟨h0, hp⟩ := hp
    refine j_ia g 4 (by decide +kernel) (by decide +kernel) (by decide +kernel) h0 ?_
    refine j_if_ge g (off := 7) (tgt := 22) (by decide +kernel) (by decide) (fun c15 => ?_) (fun c15 => ?_)
    · rw [if_pos (show 0 ≤ (M.1 623 (Int32.toNatClampNeg a1)) from c15)] at hp
      refine j_bipush g (n := 9) (9) (by decide +kernel) (by decide +kernel) ?_
      refine hr.1 _ _ _ _ (by decide +kernel) ⟨_, rfl, by first | rfl | exact b2i_nar | rfl⟩ ?_ ?_
      · unfold r_X8_kindOn; first | rfl | (simp only [if_neg (show ¬ ((M.1 623 (Int32.toNatClampNeg a1)) = 0) from c6), if_pos (show 0 ≤ (M.1 623 (Int32.toNatClampNeg a1)) from c15)]; done) | (simp only [if_neg (show ¬ ((M.1 623 (Int32.toNatClampNeg a1)) = 0) from c6), if_pos (show 0 ≤ (M.1 623 (Int32.toNatClampNeg a1)) from c15)]; rfl)
      · rfl
    · rw [if_neg (show ¬ (0 ≤ (M.1 623 (Int32.toNatClampNeg a1))) from c15)] at hp
      refine j_iconst g (n := -1) (-1) (by decide +kernel) rfl ?_
      refine j_goto g (off := 5) (tgt := 24) (by decide +kernel) (by decide) ?_
      refine hr.1 _ _ _ _ (by decide +kernel) ⟨_, rfl, by first | rfl | exact b2i_nar | rfl⟩ ?_ ?_
      · unfold r_X8_kindOn; first | rfl | (simp only [if_neg (show ¬ ((M.1 623 (Int32.toNatClampNeg a1)) = 0) from c6), if_neg (show ¬ (0 ≤ (M.1 623 (Int32.toNatClampNeg a1))) from c15)]; done) | (simp only [if_neg (show ¬ ((M.1 623 (Int32.toNatClampNeg a1)) = 0) from c6), if_neg (show ¬ (0 ≤ (M.1 623 (Int32.toNatClampNeg a1))) from c15)]; rfl)
      · rfl
def r_X8_taken (M : Mm) (a1 : Int32) (a2 : Int32) : Int32 := if (b2i (0 ≤ a1 ∧ a1 ≤ 3)) = 0 then (-1) else if ¬ (b2i (0 ≤ a2 ∧ a2 ≤ 5)) = 0 then (if 0 ≤ (r_X8_kindOn M a1) then (if ¬ (r_X8_kindOn M a1) = 9 then (if 10 ≤ a2 then (-13) else if (b2i (a2 = 0 ∨ a2 = (r_X8_kindOn M a1) ∨ (a2 = 2 ∧ (r_X8_kindOn M a1) = 3) ∨ (a2 = 1 ∧ (r_X8_kindOn M a1) = 4))) = 0 then (-13) else M.1 624 (Int32.toNatClampNeg a1)) else if ¬ a2 = (10 + (M.1 624 (Int32.toNatClampNeg a1))) then (-13) else M.1 625 (Int32.toNatClampNeg a1)) else (-11)) else if ¬ (b2i (10 ≤ a2 ∧ a2 ≤ 13)) = 0 then (if 0 ≤ (r_X8_kindOn M a1) then (if ¬ (r_X8_kindOn M a1) = 9 then (if 10 ≤ a2 then (-13) else if (b2i (a2 = 0 ∨ a2 = (r_X8_kindOn M a1) ∨ (a2 = 2 ∧ (r_X8_kindOn M a1) = 3) ∨ (a2 = 1 ∧ (r_X8_kindOn M a1) = 4))) = 0 then (-13) else M.1 624 (Int32.toNatClampNeg a1)) else if ¬ a2 = (10 + (M.1 624 (Int32.toNatClampNeg a1))) then (-13) else M.1 625 (Int32.toNatClampNeg a1)) else (-11)) else (-1)
def p_X8_taken (M : Mm) (a1 : Int32) (a2 : Int32) : Prop := (if (b2i (0 ≤ a1 ∧ a1 ≤ 3)) = 0 then True else (if ¬ (b2i (0 ≤ a2 ∧ a2 ≤ 5)) = 0 then (p_X8_kindOn M a1) ∧ (if 0 ≤ (r_X8_kindOn M a1) then (if ¬ (r_X8_kindOn M a1) = 9 then (if 10 ≤ a2 then True else (if (b2i (a2 = 0 ∨ a2 = (r_X8_kindOn M a1) ∨ (a2 = 2 ∧ (r_X8_kindOn M a1) = 3) ∨ (a2 = 1 ∧ (r_X8_kindOn M a1) = 4))) = 0 then True else (vp_in a1 4) ∧ True)) else (vp_in a1 4) ∧ (if ¬ a2 = (10 + (M.1 624 (Int32.toNatClampNeg a1))) then True else (vp_in a1 4) ∧ True)) else True) else (if ¬ (b2i (10 ≤ a2 ∧ a2 ≤ 13)) = 0 then (p_X8_kindOn M a1) ∧ (if 0 ≤ (r_X8_kindOn M a1) then (if ¬ (r_X8_kindOn M a1) = 9 then (if 10 ≤ a2 then True else (if (b2i (a2 = 0 ∨ a2 = (r_X8_kindOn M a1) ∨ (a2 = 2 ∧ (r_X8_kindOn M a1) = 3) ∨ (a2 = 1 ∧ (r_X8_kindOn M a1) = 4))) = 0 then True else (vp_in a1 4) ∧ True)) else (vp_in a1 4) ∧ (if ¬ a2 = (10 + (M.1 624 (Int32.toNatClampNeg a1))) then True else (vp_in a1 4) ∧ True)) else True) else True)))
theorem rnX8_taken {d : Nat} {M : Mm} {a1 : Int32} {a2 : Int32}  (hp : p_X8_taken M a1 a2) : Rn (d + 3) mX8_taken [.ref 600, .int a1, .int a2] M (some (.int (r_X8_taken M a1 a2))) M := by
  refine Rn.of [some (.ref 600), some (.int a1), some (.int a2), none] (by decide +kernel) rfl (Nat.le_of_ble_eq_true rfl) rfl (fun J g hr => ?_)
  unfold p_X8_taken at hp
  refine j_iload_n g (i := 1) (by decide +kernel) rfl ?_
  refine j_cS1r g s8_401 (by decide +kernel) (Nat.le_of_ble_eq_true rfl) (rnX8_isShelf) ?_
  refine j_if_eq g (off := 23) (tgt := 27) (by decide +kernel) (by decide) (fun c4 => ?_) (fun c4 => ?_)
  · rw [if_pos (show (b2i (0 ≤ a1 ∧ a1 ≤ 3)) = 0 from c4)] at hp
    refine j_iconst g (n := -1) (-1) (by decide +kernel) rfl ?_
    refine hr.1 _ _ _ _ (by decide +kernel) ⟨_, rfl, by first | rfl | exact b2i_nar | rfl⟩ ?_ ?_
    · unfold r_X8_taken; first | rfl | (simp only [if_pos (show (b2i (0 ≤ a1 ∧ a1 ≤ 3)) = 0 from c4)]; done) | (simp only [if_pos (show (b2i (0 ≤ a1 ∧ a1 ≤ 3)) = 0 from c4)]; rfl)
    · rfl
  · rw [if_neg (show ¬ ((b2i (0 ≤ a1 ∧ a1 ≤ 3)) = 0) from c4)] at hp
    refine j_iload_n g (i := 2) (by decide +kernel) rfl ?_
    refine j_iconst g (n := 0) (0) (by decide +kernel) rfl ?_
    refine j_iconst g (n := 5) (5) (by decide +kernel) rfl ?_
    refine j_cS3r g s8_95 (by decide +kernel) (Nat.le_of_ble_eq_true rfl) (rnX8_in) ?_
    refine j_if_ne g (off := 16) (tgt := 29) (by decide +kernel) (by decide) (fun c13 => ?_) (fun c13 => ?_)
    · rw [if_pos (show ¬ (b2i (0 ≤ a2 ∧ a2 ≤ 5)) = 0 from c13)] at hp
      refine j_aload_n g (i := 0) (by decide +kernel) rfl ?_
      refine j_iload_n g (i := 1) (by decide +kernel) rfl ?_
      obtain ⟨h0, hp⟩ := hp
      refine j_cV1r g v8_412 ⟨rfl, by decide⟩ (by decide +kernel) (by decide +kernel) (Nat.le_of_ble_eq_true rfl) (rnX8_kindOn h0) ?_
      refine j_istore_n g (i := 3) (by decide +kernel) (by decide) ?_
      dsimp only [stL, clL, hdL]
      refine j_iload_n g (i := 3) (by decide +kernel) rfl ?_
      refine j_if_ge g (off := 6) (tgt := 42) (by decide +kernel) (by decide) (fun c36 => ?_) (fun c36 => ?_)
      · rw [if_pos (show 0 ≤ (r_X8_kindOn M a1) from c36)] at hp
        refine j_iload_n g (i := 3) (by decide +kernel) rfl ?_
        refine j_bipush g (n := 9) (9) (by decide +kernel) (by decide +kernel) ?_
        refine j_icmp_ne g (off := 28) (tgt := 73) (by decide +kernel) (by decide) (fun c45 => ?_) (fun c45 => ?_)
        · rw [if_pos (show ¬ (r_X8_kindOn M a1) = 9 from c45)] at hp
          refine j_iload_n g (i := 2) (by decide +kernel) rfl ?_
          refine j_bipush g (n := 10) (10) (by decide +kernel) (by decide +kernel) ?_
          refine j_icmp_ge g (off := 20) (tgt := 96) (by decide +kernel) (by decide) (fun c76 => ?_) (fun c76 => ?_)
          · rw [if_pos (show 10 ≤ a2 from c76)] at hp
            refine j_bipush g (n := -13) (-13) (by decide +kernel) (by decide +kernel) ?_
            refine hr.1 _ _ _ _ (by decide +kernel) ⟨_, rfl, by first | rfl | exact b2i_nar | rfl⟩ ?_ ?_
            · unfold r_X8_taken; first | rfl | (simp only [if_neg (show ¬ ((b2i (0 ≤ a1 ∧ a1 ≤ 3)) = 0) from c4), if_pos (show ¬ (b2i (0 ≤ a2 ∧ a2 ≤ 5)) = 0 from c13), if_pos (show 0 ≤ (r_X8_kindOn M a1) from c36), if_pos (show ¬ (r_X8_kindOn M a1) = 9 from c45), if_pos (show 10 ≤ a2 from c76)]; done) | (simp only [if_neg (show ¬ ((b2i (0 ≤ a1 ∧ a1 ≤ 3)) = 0) from c4), if_pos (show ¬ (b2i (0 ≤ a2 ∧ a2 ≤ 5)) = 0 from c13), if_pos (show 0 ≤ (r_X8_kindOn M a1) from c36), if_pos (show ¬ (r_X8_kindOn M a1) = 9 from c45), if_pos (show 10 ≤ a2 from c76)]; rfl)
            · rfl
          · rw [if_neg (show ¬ (10 ≤ a2) from c76)] at hp
            refine j_iload_n g (i := 3) (by decide +kernel) rfl ?_
            refine j_iload_n g (i := 2) (by decide +kernel) rfl ?_
            refine j_cS2r g s8_415 (by decide +kernel) (Nat.le_of_ble_eq_true rfl) (rnX8_isUnder) ?_
            refine j_if_eq g (off := 12) (tgt := 96) (by decide +kernel) (by decide) (fun c84 => ?_) (fun c84 => ?_)
            · rw [if_pos (show (b2i (a2 = 0 ∨ a2 = (r_X8_kindOn M a1) ∨ (a2 = 2 ∧ (r_X8_kindOn M a1) = 3) ∨ (a2 = 1 ∧ (r_X8_kindOn M a1) = 4))) = 0 from c84)] at hp
              refine j_bipush g (n := -13) (-13) (by decide +kernel) (by decide +kernel) ?_
              refine hr.1 _ _ _ _ (by decide +kernel) ⟨_, rfl, by first | rfl | exact b2i_nar | rfl⟩ ?_ ?_
              · unfold r_X8_taken; first | rfl | (simp only [if_neg (show ¬ ((b2i (0 ≤ a1 ∧ a1 ≤ 3)) = 0) from c4), if_pos (show ¬ (b2i (0 ≤ a2 ∧ a2 ≤ 5)) = 0 from c13), if_pos (show 0 ≤ (r_X8_kindOn M a1) from c36), if_pos (show ¬ (r_X8_kindOn M a1) = 9 from c45), if_neg (show ¬ (10 ≤ a2) from c76), if_pos (show (b2i (a2 = 0 ∨ a2 = (r_X8_kindOn M a1) ∨ (a2 = 2 ∧ (r_X8_kindOn M a1) = 3) ∨ (a2 = 1 ∧ (r_X8_kindOn M a1) = 4))) = 0 from c84)]; done) | (simp only [if_neg (show ¬ ((b2i (0 ≤ a1 ∧ a1 ≤ 3)) = 0) from c4), if_pos (show ¬ (b2i (0 ≤ a2 ∧ a2 ≤ 5)) = 0 from c13), if_pos (show 0 ≤ (r_X8_kindOn M a1) from c36), if_pos (show ¬ (r_X8_kindOn M a1) = 9 from c45), if_neg (show ¬ (10 ≤ a2) from c76), if_pos (show (b2i (a2 = 0 ∨ a2 = (r_X8_kindOn M a1) ∨ (a2 = 2 ∧ (r_X8_kindOn M a1) = 3) ∨ (a2 = 1 ∧ (r_X8_kindOn M a1) = 4))) = 0 from c84)]; rfl)
              · rfl
            · rw [if_neg (show ¬ ((b2i (a2 = 0 ∨ a2 = (r_X8_kindOn M a1) ∨ (a2 = 2 ∧ (r_X8_kindOn M a1) = 3) ∨ (a2 = 1 ∧ (r_X8_kindOn M a1) = 4))) = 0) from c84)] at hp
              refine j_aload_n g (i := 0) (by decide +kernel) rfl ?_
              refine j_gA g (b := 624) f8_80 (by decide +kernel) (by decide +kernel) (by decide +kernel) (by decide +kernel) ?_
              refine j_iload_n g (i := 1) (by decide +kernel) rfl ?_
              obtain ⟨h0, hp⟩ := hp
              refine j_ia g 4 (by decide +kernel) (by decide +kernel) (by decide +kernel) h0 ?_
              refine j_goto g (off := 5) (tgt := 98) (by decide +kernel) (by decide) ?_
              refine hr.1 _ _ _ _ (by decide +kernel) ⟨_, rfl, by first | rfl | exact b2i_nar | rfl⟩ ?_ ?_
              · unfold r_X8_taken; first | rfl | (simp only [if_neg (show ¬ ((b2i (0 ≤ a1 ∧ a1 ≤ 3)) = 0) from c4), if_pos (show ¬ (b2i (0 ≤ a2 ∧ a2 ≤ 5)) = 0 from c13), if_pos (show 0 ≤ (r_X8_kindOn M a1) from c36), if_pos (show ¬ (r_X8_kindOn M a1) = 9 from c45), if_neg (show ¬ (10 ≤ a2) from c76), if_neg (show ¬ ((b2i (a2 = 0 ∨ a2 = (r_X8_kindOn M a1) ∨ (a2 = 2 ∧ (r_X8_kindOn M a1) = 3) ∨ (a2 = 1 ∧ (r_X8_kindOn M a1) = 4))) = 0) from c84)]; done) | (simp only [if_neg (show ¬ ((b2i (0 ≤ a1 ∧ a1 ≤ 3)) = 0) from c4), if_pos (show ¬ (b2i (0 ≤ a2 ∧ a2 ≤ 5)) = 0 from c13), if_pos (show 0 ≤ (r_X8_kindOn M a1) from c36), if_pos (show ¬ (r_X8_kindOn M a1) = 9 from c45), if_neg (show ¬ (10 ≤ a2) from c76), if_neg (show ¬ ((b2i (a2 = 0 ∨ a2 = (r_X8_kindOn M a1) ∨ (a2 = 2 ∧ (r_X8_kindOn M a1) = 3) ∨ (a2 = 1 ∧ (r_X8_kindOn M a1) = 4))) = 0) from c84)]; rfl)
              · rfl
        · rw [if_neg (show ¬ (¬ (r_X8_kindOn M a1) = 9) from c45)] at hp
          refine j_iload_n g (i := 2) (by decide +kernel) rfl ?_
          refine j_bipush g (n := 10) (10) (by decide +kernel) (by decide +kernel) ?_
          refine j_aload_n g (i := 0) (by decide +kernel) rfl ?_
          refine j_gA g (b := 624) f8_80 (by decide +kernel) (by decide +kernel) (by decide +kernel) (by decide +kernel) ?_
          refine j_iload_n g (i := 1) (by decide +kernel) rfl ?_
          obtain ⟨h0, hp⟩ := hp
          refine j_ia g 4 (by decide +kernel) (by decide +kernel) (by decide +kernel) h0 ?_
          refine j_iadd g (by decide +kernel) ?_
          refine j_icmp_ne g (off := 12) (tgt := 70) (by decide +kernel) (by decide) (fun c58 => ?_) (fun c58 => ?_)
          · rw [if_pos (show ¬ a2 = (10 + (M.1 624 (Int32.toNatClampNeg a1))) from c58)] at hp
            refine j_bipush g (n := -13) (-13) (by decide +kernel) (by decide +kernel) ?_
            refine hr.1 _ _ _ _ (by decide +kernel) ⟨_, rfl, by first | rfl | exact b2i_nar | rfl⟩ ?_ ?_
            · unfold r_X8_taken; first | rfl | (simp only [if_neg (show ¬ ((b2i (0 ≤ a1 ∧ a1 ≤ 3)) = 0) from c4), if_pos (show ¬ (b2i (0 ≤ a2 ∧ a2 ≤ 5)) = 0 from c13), if_pos (show 0 ≤ (r_X8_kindOn M a1) from c36), if_neg (show ¬ (¬ (r_X8_kindOn M a1) = 9) from c45), if_pos (show ¬ a2 = (10 + (M.1 624 (Int32.toNatClampNeg a1))) from c58)]; done) | (simp only [if_neg (show ¬ ((b2i (0 ≤ a1 ∧ a1 ≤ 3)) = 0) from c4), if_pos (show ¬ (b2i (0 ≤ a2 ∧ a2 ≤ 5)) = 0 from c13), if_pos (show 0 ≤ (r_X8_kindOn M a1) from c36), if_neg (show ¬ (¬ (r_X8_kindOn M a1) = 9) from c45), if_pos (show ¬ a2 = (10 + (M.1 624 (Int32.toNatClampNeg a1))) from c58)]; rfl)
            · rfl
          · rw [if_neg (show ¬ (¬ a2 = (10 + (M.1 624 (Int32.toNatClampNeg a1)))) from c58)] at hp
            refine j_aload_n g (i := 0) (by decide +kernel) rfl ?_
            refine j_gA g (b := 625) f8_83 (by decide +kernel) (by decide +kernel) (by decide +kernel) (by decide +kernel) ?_
            refine j_iload_n g (i := 1) (by decide +kernel) rfl ?_
            obtain ⟨h0, hp⟩ := hp
            refine j_ia g 4 (by decide +kernel) (by decide +kernel) (by decide +kernel) h0 ?_
            refine j_goto g (off := 5) (tgt := 72) (by decide +kernel) (by decide) ?_
            refine hr.1 _ _ _ _ (by decide +kernel) ⟨_, rfl, by first | rfl | exact b2i_nar | rfl⟩ ?_ ?_
            · unfold r_X8_taken; first | rfl | (simp only [if_neg (show ¬ ((b2i (0 ≤ a1 ∧ a1 ≤ 3)) = 0) from c4), if_pos (show ¬ (b2i (0 ≤ a2 ∧ a2 ≤ 5)) = 0 from c13), if_pos (show 0 ≤ (r_X8_kindOn M a1) from c36), if_neg (show ¬ (¬ (r_X8_kindOn M a1) = 9) from c45), if_neg (show ¬ (¬ a2 = (10 + (M.1 624 (Int32.toNatClampNeg a1)))) from c58)]; done) | (simp only [if_neg (show ¬ ((b2i (0 ≤ a1 ∧ a1 ≤ 3)) = 0) from c4), if_pos (show ¬ (b2i (0 ≤ a2 ∧ a2 ≤ 5)) = 0 from c13), if_pos (show 0 ≤ (r_X8_kindOn M a1) from c36), if_neg (show ¬ (¬ (r_X8_kindOn M a1) = 9) from c45), if_neg (show ¬ (¬ a2 = (10 + (M.1 624 (Int32.toNatClampNeg a1)))) from c58)]; rfl)
            · rfl
      · rw [if_neg (show ¬ (0 ≤ (r_X8_kindOn M a1)) from c36)] at hp
        refine j_bipush g (n := -11) (-11) (by decide +kernel) (by decide +kernel) ?_
        refine hr.1 _ _ _ _ (by decide +kernel) ⟨_, rfl, by first | rfl | exact b2i_nar | rfl⟩ ?_ ?_
        · unfold r_X8_taken; first | rfl | (simp only [if_neg (show ¬ ((b2i (0 ≤ a1 ∧ a1 ≤ 3)) = 0) from c4), if_pos (show ¬ (b2i (0 ≤ a2 ∧ a2 ≤ 5)) = 0 from c13), if_neg (show ¬ (0 ≤ (r_X8_kindOn M a1)) from c36)]; done) | (simp only [if_neg (show ¬ ((b2i (0 ≤ a1 ∧ a1 ≤ 3)) = 0) from c4), if_pos (show ¬ (b2i (0 ≤ a2 ∧ a2 ≤ 5)) = 0 from c13), if_neg (show ¬ (0 ≤ (r_X8_kindOn M a1)) from c36)]; rfl)
        · rfl
    · rw [if_neg (show ¬ (¬ (b2i (0 ≤ a2 ∧ a2 ≤ 5)) = 0) from c13)] at hp
      refine j_iload_n g (i := 2) (by decide +kernel) rfl ?_
      refine j_bipush g (n := 10) (10) (by decide +kernel) (by decide +kernel) ?_
      refine j_bipush g (n := 13) (13) (by decide +kernel) (by decide +kernel) ?_
      refine j_cS3r g s8_95 (by decide +kernel) (Nat.le_of_ble_eq_true rfl) (rnX8_in) ?_
      refine j_if_ne g (off := 5) (tgt := 29) (by decide +kernel) (by decide) (fun c24 => ?_) (fun c24 => ?_)
      · rw [if_pos (show ¬ (b2i (10 ≤ a2 ∧ a2 ≤ 13)) = 0 from c24)] at hp
        refine j_aload_n g (i := 0) (by decide +kernel) rfl ?_
        refine j_iload_n g (i := 1) (by decide +kernel) rfl ?_
        obtain ⟨h0, hp⟩ := hp
        refine j_cV1r g v8_412 ⟨rfl, by decide⟩ (by decide +kernel) (by decide +kernel) (Nat.le_of_ble_eq_true rfl) (rnX8_kindOn h0) ?_
        refine j_istore_n g (i := 3) (by decide +kernel) (by decide) ?_
        dsimp only [stL, clL, hdL]
        refine j_iload_n g (i := 3) (by decide +kernel) rfl ?_
        refine j_if_ge g (off := 6) (tgt := 42) (by decide +kernel) (by decide) (fun c36 => ?_) (fun c36 => ?_)
        · rw [if_pos (show 0 ≤ (r_X8_kindOn M a1) from c36)] at hp
          refine j_iload_n g (i := 3) (by decide +kernel) rfl ?_
          refine j_bipush g (n := 9) (9) (by decide +kernel) (by decide +kernel) ?_
          refine j_icmp_ne g (off := 28) (tgt := 73) (by decide +kernel) (by decide) (fun c45 => ?_) (fun c45 => ?_)
          · rw [if_pos (show ¬ (r_X8_kindOn M a1) = 9 from c45)] at hp
            refine j_iload_n g (i := 2) (by decide +kernel) rfl ?_
            refine j_bipush g (n := 10) (10) (by decide +kernel) (by decide +kernel) ?_
            refine j_icmp_ge g (off := 20) (tgt := 96) (by decide +kernel) (by decide) (fun c76 => ?_) (fun c76 => ?_)
            · rw [if_pos (show 10 ≤ a2 from c76)] at hp
              refine j_bipush g (n := -13) (-13) (by decide +kernel) (by decide +kernel) ?_
              refine hr.1 _ _ _ _ (by decide +kernel) ⟨_, rfl, by first | rfl | exact b2i_nar | rfl⟩ ?_ ?_
              · unfold r_X8_taken; first | rfl | (simp only [if_neg (show ¬ ((b2i (0 ≤ a1 ∧ a1 ≤ 3)) = 0) from c4), if_neg (show ¬ (¬ (b2i (0 ≤ a2 ∧ a2 ≤ 5)) = 0) from c13), if_pos (show ¬ (b2i (10 ≤ a2 ∧ a2 ≤ 13)) = 0 from c24), if_pos (show 0 ≤ (r_X8_kindOn M a1) from c36), if_pos (show ¬ (r_X8_kindOn M a1) = 9 from c45), if_pos (show 10 ≤ a2 from c76)]; done) | (simp only [if_neg (show ¬ ((b2i (0 ≤ a1 ∧ a1 ≤ 3)) = 0) from c4), if_neg (show ¬ (¬ (b2i (0 ≤ a2 ∧ a2 ≤ 5)) = 0) from c13), if_pos (show ¬ (b2i (10 ≤ a2 ∧ a2 ≤ 13)) = 0 from c24), if_pos (show 0 ≤ (r_X8_kindOn M a1) from c36), if_pos (show ¬ (r_X8_kindOn M a1) = 9 from c45), if_pos (show 10 ≤ a2 from c76)]; rfl)
              · rfl
            · rw [if_neg (show ¬ (10 ≤ a2) from c76)] at hp
              refine j_iload_n g (i := 3) (by decide +kernel) rfl ?_
              refine j_iload_n g (i := 2) (by decide +kernel) rfl ?_
              refine j_cS2r g s8_415 (by decide +kernel) (Nat.le_of_ble_eq_true rfl) (rnX8_isUnder) ?_
              refine j_if_eq g (off := 12) (tgt := 96) (by decide +kernel) (by decide) (fun c84 => ?_) (fun c84 => ?_)
              · rw [if_pos (show (b2i (a2 = 0 ∨ a2 = (r_X8_kindOn M a1) ∨ (a2 = 2 ∧ (r_X8_kindOn M a1) = 3) ∨ (a2 = 1 ∧ (r_X8_kindOn M a1) = 4))) = 0 from c84)] at hp
                refine j_bipush g (n := -13) (-13) (by decide +kernel) (by decide +kernel) ?_
                refine hr.1 _ _ _ _ (by decide +kernel) ⟨_, rfl, by first | rfl | exact b2i_nar | rfl⟩ ?_ ?_
                · unfold r_X8_taken; first | rfl | (simp only [if_neg (show ¬ ((b2i (0 ≤ a1 ∧ a1 ≤ 3)) = 0) from c4), if_neg (show ¬ (¬ (b2i (0 ≤ a2 ∧ a2 ≤ 5)) = 0) from c13), if_pos (show ¬ (b2i (10 ≤ a2 ∧ a2 ≤ 13)) = 0 from c24), if_pos (show 0 ≤ (r_X8_kindOn M a1) from c36), if_pos (show ¬ (r_X8_kindOn M a1) = 9 from c45), if_neg (show ¬ (10 ≤ a2) from c76), if_pos (show (b2i (a2 = 0 ∨ a2 = (r_X8_kindOn M a1) ∨ (a2 = 2 ∧ (r_X8_kindOn M a1) = 3) ∨ (a2 = 1 ∧ (r_X8_kindOn M a1) = 4))) = 0 from c84)]; done) | (simp only [if_neg (show ¬ ((b2i (0 ≤ a1 ∧ a1 ≤ 3)) = 0) from c4), if_neg (show ¬ (¬ (b2i (0 ≤ a2 ∧ a2 ≤ 5)) = 0) from c13), if_pos (show ¬ (b2i (10 ≤ a2 ∧ a2 ≤ 13)) = 0 from c24), if_pos (show 0 ≤ (r_X8_kindOn M a1) from c36), if_pos (show ¬ (r_X8_kindOn M a1) = 9 from c45), if_neg (show ¬ (10 ≤ a2) from c76), if_pos (show (b2i (a2 = 0 ∨ a2 = (r_X8_kindOn M a1) ∨ (a2 = 2 ∧ (r_X8_kindOn M a1) = 3) ∨ (a2 = 1 ∧ (r_X8_kindOn M a1) = 4))) = 0 from c84)]; rfl)
                · rfl
              · rw [if_neg (show ¬ ((b2i (a2 = 0 ∨ a2 = (r_X8_kindOn M a1) ∨ (a2 = 2 ∧ (r_X8_kindOn M a1) = 3) ∨ (a2 = 1 ∧ (r_X8_kindOn M a1) = 4))) = 0) from c84)] at hp
                refine j_aload_n g (i := 0) (by decide +kernel) rfl ?_
                refine j_gA g (b := 624) f8_80 (by decide +kernel) (by decide +kernel) (by decide +kernel) (by decide +kernel) ?_
                refine j_iload_n g (i := 1) (by decide +kernel) rfl ?_
                obtain ⟨h0, hp⟩ := hp
                refine j_ia g 4 (by decide +kernel) (by decide +kernel) (by decide +kernel) h0 ?_
                refine j_goto g (off := 5) (tgt := 98) (by decide +kernel) (by decide) ?_
                refine hr.1 _ _ _ _ (by decide +kernel) ⟨_, rfl, by first | rfl | exact b2i_nar | rfl⟩ ?_ ?_
                · unfold r_X8_taken; first | rfl | (simp only [if_neg (show ¬ ((b2i (0 ≤ a1 ∧ a1 ≤ 3)) = 0) from c4), if_neg (show ¬ (¬ (b2i (0 ≤ a2 ∧ a2 ≤ 5)) = 0) from c13), if_pos (show ¬ (b2i (10 ≤ a2 ∧ a2 ≤ 13)) = 0 from c24), if_pos (show 0 ≤ (r_X8_kindOn M a1) from c36), if_pos (show ¬ (r_X8_kindOn M a1) = 9 from c45), if_neg (show ¬ (10 ≤ a2) from c76), if_neg (show ¬ ((b2i (a2 = 0 ∨ a2 = (r_X8_kindOn M a1) ∨ (a2 = 2 ∧ (r_X8_kindOn M a1) = 3) ∨ (a2 = 1 ∧ (r_X8_kindOn M a1) = 4))) = 0) from c84)]; done) | (simp only [if_neg (show ¬ ((b2i (0 ≤ a1 ∧ a1 ≤ 3)) = 0) from c4), if_neg (show ¬ (¬ (b2i (0 ≤ a2 ∧ a2 ≤ 5)) = 0) from c13), if_pos (show ¬ (b2i (10 ≤ a2 ∧ a2 ≤ 13)) = 0 from c24), if_pos (show 0 ≤ (r_X8_kindOn M a1) from c36), if_pos (show ¬ (r_X8_kindOn M a1) = 9 from c45), if_neg (show ¬ (10 ≤ a2) from c76), if_neg (show ¬ ((b2i (a2 = 0 ∨ a2 = (r_X8_kindOn M a1) ∨ (a2 = 2 ∧ (r_X8_kindOn M a1) = 3) ∨ (a2 = 1 ∧ (r_X8_kindOn M a1) = 4))) = 0) from c84)]; rfl)
                · rfl
          · rw [if_neg (show ¬ (¬ (r_X8_kindOn M a1) = 9) from c45)] at hp
            refine j_iload_n g (i := 2) (by decide +kernel) rfl ?_
            refine j_bipush g (n := 10) (10) (by decide +kernel) (by decide +kernel) ?_
            refine j_aload_n g (i := 0) (by decide +kernel) rfl ?_
            refine j_gA g (b := 624) f8_80 (by decide +kernel) (by decide +kernel) (by decide +kernel) (by decide +kernel) ?_
            refine j_iload_n g (i := 1) (by decide +kernel) rfl ?_
            obtain ⟨h0, hp⟩ := hp
            refine j_ia g 4 (by decide +kernel) (by decide +kernel) (by decide +kernel) h0 ?_
            refine j_iadd g (by decide +kernel) ?_
            refine j_icmp_ne g (off := 12) (tgt := 70) (by decide +kernel) (by decide) (fun c58 => ?_) (fun c58 => ?_)
            · rw [if_pos (show ¬ a2 = (10 + (M.1 624 (Int32.toNatClampNeg a1))) from c58)] at hp
              refine j_bipush g (n := -13) (-13) (by decide +kernel) (by decide +kernel) ?_
              refine hr.1 _ _ _ _ (by decide +kernel) ⟨_, rfl, by first | rfl | exact b2i_nar | rfl⟩ ?_ ?_
              · unfold r_X8_taken; first | rfl | (simp only [if_neg (show ¬ ((b2i (0 ≤ a1 ∧ a1 ≤ 3)) = 0) from c4), if_neg (show ¬ (¬ (b2i (0 ≤ a2 ∧ a2 ≤ 5)) = 0) from c13), if_pos (show ¬ (b2i (10 ≤ a2 ∧ a2 ≤ 13)) = 0 from c24), if_pos (show 0 ≤ (r_X8_kindOn M a1) from c36), if_neg (show ¬ (¬ (r_X8_kindOn M a1) = 9) from c45), if_pos (show ¬ a2 = (10 + (M.1 624 (Int32.toNatClampNeg a1))) from c58)]; done) | (simp only [if_neg (show ¬ ((b2i (0 ≤ a1 ∧ a1 ≤ 3)) = 0) from c4), if_neg (show ¬ (¬ (b2i (0 ≤ a2 ∧ a2 ≤ 5)) = 0) from c13), if_pos (show ¬ (b2i (10 ≤ a2 ∧ a2 ≤ 13)) = 0 from c24), if_pos (show 0 ≤ (r_X8_kindOn M a1) from c36), if_neg (show ¬ (¬ (r_X8_kindOn M a1) = 9) from c45), if_pos (show ¬ a2 = (10 + (M.1 624 (Int32.toNatClampNeg a1))) from c58)]; rfl)
              · rfl
            · rw [if_neg (show ¬ (¬ a2 = (10 + (M.1 624 (Int32.toNatClampNeg a1)))) from c58)] at hp
              refine j_aload_n g (i := 0) (by decide +kernel) rfl ?_
              refine j_gA g (b := 625) f8_83 (by decide +kernel) (by decide +kernel) (by decide +kernel) (by decide +kernel) ?_
              refine j_iload_n g (i := 1) (by decide +kernel) rfl ?_
              obtain ⟨h0, hp⟩ := hp
              refine j_ia g 4 (by decide +kernel) (by decide +kernel) (by decide +kernel) h0 ?_
              refine j_goto g (off := 5) (tgt := 72) (by decide +kernel) (by decide) ?_
              refine hr.1 _ _ _ _ (by decide +kernel) ⟨_, rfl, by first | rfl | exact b2i_nar | rfl⟩ ?_ ?_
              · unfold r_X8_taken; first | rfl | (simp only [if_neg (show ¬ ((b2i (0 ≤ a1 ∧ a1 ≤ 3)) = 0) from c4), if_neg (show ¬ (¬ (b2i (0 ≤ a2 ∧ a2 ≤ 5)) = 0) from c13), if_pos (show ¬ (b2i (10 ≤ a2 ∧ a2 ≤ 13)) = 0 from c24), if_pos (show 0 ≤ (r_X8_kindOn M a1) from c36), if_neg (show ¬ (¬ (r_X8_kindOn M a1) = 9) from c45), if_neg (show ¬ (¬ a2 = (10 + (M.1 624 (Int32.toNatClampNeg a1)))) from c58)]; done) | (simp only [if_neg (show ¬ ((b2i (0 ≤ a1 ∧ a1 ≤ 3)) = 0) from c4), if_neg (show ¬ (¬ (b2i (0 ≤ a2 ∧ a2 ≤ 5)) = 0) from c13), if_pos (show ¬ (b2i (10 ≤ a2 ∧ a2 ≤ 13)) = 0 from c24), if_pos (show 0 ≤ (r_X8_kindOn M a1) from c36), if_neg (show ¬ (¬ (r_X8_kindOn M a1) = 9) from c45), if_neg (show ¬ (¬ a2 = (10 + (M.1 624 (Int32.toNatClampNeg a1)))) from c58)]; rfl)
              · rfl
        · rw [if_neg (show ¬ (0 ≤ (r_X8_kindOn M a1)) from c36)] at hp
          refine j_bipush g (n := -11) (-11) (by decide +kernel) (by decide +kernel) ?_
          refine hr.1 _ _ _ _ (by decide +kernel) ⟨_, rfl, by first | rfl | exact b2i_nar | rfl⟩ ?_ ?_
          · unfold r_X8_taken; first | rfl | (simp only [if_neg (show ¬ ((b2i (0 ≤ a1 ∧ a1 ≤ 3)) = 0) from c4), if_neg (show ¬ (¬ (b2i (0 ≤ a2 ∧ a2 ≤ 5)) = 0) from c13), if_pos (show ¬ (b2i (10 ≤ a2 ∧ a2 ≤ 13)) = 0 from c24), if_neg (show ¬ (0 ≤ (r_X8_kindOn M a1)) from c36)]; done) | (simp only [if_neg (show ¬ ((b2i (0 ≤ a1 ∧ a1 ≤ 3)) = 0) from c4), if_neg (show ¬ (¬ (b2i (0 ≤ a2 ∧ a2 ≤ 5)) = 0) from c13), if_pos (show ¬ (b2i (10 ≤ a2 ∧ a2 ≤ 13)) = 0 from c24), if_neg (show ¬ (0 ≤ (r_X8_kindOn M a1)) from c36)]; rfl)
          · rfl
      · rw [if_neg (show ¬ (¬ (b2i (10 ≤ a2 ∧ a2 ≤ 13)) = 0) from c24)] at hp
        refine j_iconst g (n := -1) (-1) (by decide +kernel) rfl ?_
        refine hr.1 _ _ _ _ (by decide +kernel) ⟨_, rfl, by first | rfl | exact b2i_nar | rfl⟩ ?_ ?_
        · unfold r_X8_taken; first | rfl | (simp only [if_neg (show ¬ ((b2i (0 ≤ a1 ∧ a1 ≤ 3)) = 0) from c4), if_neg (show ¬ (¬ (b2i (0 ≤ a2 ∧ a2 ≤ 5)) = 0) from c13), if_neg (show ¬ (¬ (b2i (10 ≤ a2 ∧ a2 ≤ 13)) = 0) from c24)]; done) | (simp only [if_neg (show ¬ ((b2i (0 ≤ a1 ∧ a1 ≤ 3)) = 0) from c4), if_neg (show ¬ (¬ (b2i (0 ≤ a2 ∧ a2 ≤ 5)) = 0) from c13), if_neg (show ¬ (¬ (b2i (10 ≤ a2 ∧ a2 ≤ 13)) = 0) from c24)]; rfl)
        · rfl
def w_X8_ran (M : Mm) (a1 : Int32) : Mm := if 30 ≤ (M.1 600 53) then M else (wi (wi M 626 (Int32.toNatClampNeg (M.1 600 53)) a1) 600 53 ((M.1 600 53) + 1))
def p_X8_ran (M : Mm) (a1 : Int32) : Prop := (if 30 ≤ (M.1 600 53) then True else (vp_in (M.1 600 53) 30) ∧ True)
theorem rnX8_ran {d : Nat} {M : Mm} {a1 : Int32}  (hp : p_X8_ran M a1) : Rn (d) mX8_ran [.ref 600, .int a1] M none (w_X8_ran M a1) := by
  refine Rn.of [some (.ref 600), some (.int a1)] (by decide +kernel) rfl (Nat.le_of_ble_eq_true rfl) rfl (fun J g hr => ?_)
  unfold p_X8_ran at hp
  refine j_aload_n g (i := 0) (by decide +kernel) rfl ?_
  refine j_gI g f8_418 (by decide +kernel) (by decide +kernel) (by decide +kernel) ?_
  refine j_bipush g (n := 30) (30) (by decide +kernel) (by decide +kernel) ?_
  refine j_icmp_ge g (off := 23) (tgt := 29) (by decide +kernel) (by decide) (fun c6 => ?_) (fun c6 => ?_)
  · rw [if_pos (show 30 ≤ (M.1 600 53) from c6)] at hp
    refine hr.2.2.2 _ _ _ (by decide +kernel) rfl rfl ?_
    · unfold w_X8_ran; first | rfl | (simp only [if_pos (show 30 ≤ (M.1 600 53) from c6)]; done) | (simp only [if_pos (show 30 ≤ (M.1 600 53) from c6)]; rfl)
  · rw [if_neg (show ¬ (30 ≤ (M.1 600 53)) from c6)] at hp
    refine j_aload_n g (i := 0) (by decide +kernel) rfl ?_
    refine j_gA g (b := 626) f8_86 (by decide +kernel) (by decide +kernel) (by decide +kernel) (by decide +kernel) ?_
    refine j_aload_n g (i := 0) (by decide +kernel) rfl ?_
    refine j_gI g f8_418 (by decide +kernel) (by decide +kernel) (by decide +kernel) ?_
    refine j_iload_n g (i := 1) (by decide +kernel) rfl ?_
    obtain ⟨h0, hp⟩ := hp
    refine j_is g 30 (by decide +kernel) (by decide +kernel) (by decide +kernel) h0 ?_
    refine j_aload_n g (i := 0) (by decide +kernel) rfl ?_
    refine j_dup g (by decide +kernel) rfl ?_
    refine j_gI g f8_418 (by decide +kernel) (by decide +kernel) (by decide +kernel) ?_
    refine j_iconst g (n := 1) (1) (by decide +kernel) rfl ?_
    refine j_iadd g (by decide +kernel) ?_
    refine j_pI g f8_418 (fun q h => by cases h; rfl) (by decide +kernel) (by decide +kernel) (by decide +kernel) ?_
    refine hr.2.2.2 _ _ _ (by decide +kernel) rfl rfl ?_
    · unfold w_X8_ran; first | rfl | (simp only [if_neg (show ¬ (30 ≤ (M.1 600 53)) from c6)]; done) | (simp only [if_neg (show ¬ (30 ≤ (M.1 600 53)) from c6)]; rfl)
def r_X8_plainMoves (M : Mm) (a1 : Int32) : Int32 := a1 + ((w_X8_ran M 10).1 600 50)
def w_X8_plainMoves (M : Mm) (a1 : Int32) : Mm := (w_X8_ran M 10)
def p_X8_plainMoves (M : Mm) (a1 : Int32) : Prop := (p_X8_ran M 10) ∧ True
theorem rnX8_plainMoves {d : Nat} {M : Mm} {a1 : Int32}  (hp : p_X8_plainMoves M a1) : Rn (d + 1) mX8_plainMoves [.ref 600, .int a1] M (some (.int (r_X8_plainMoves M a1))) (w_X8_plainMoves M a1) := by
  refine Rn.of [some (.ref 600), some (.int a1)] (by decide +kernel) rfl (Nat.le_of_ble_eq_true rfl) rfl (fun J g hr => ?_)
  unfold p_X8_plainMoves at hp
  refine j_aload_n g (i := 0) (by decide +kernel) rfl ?_
  refine j_bipush g (n := 10) (10) (by decide +kernel) (by decide +kernel) ?_
  obtain ⟨h0, hp⟩ := hp
  refine j_cV1v g v8_421 ⟨rfl, by decide⟩ (by decide +kernel) (by decide +kernel) (Nat.le_of_ble_eq_true rfl) (rnX8_ran h0) ?_
  refine j_iload_n g (i := 1) (by decide +kernel) rfl ?_
  refine j_aload_n g (i := 0) (by decide +kernel) rfl ?_
  refine j_gI g f8_424 (by decide +kernel) (by decide +kernel) (by decide +kernel) ?_
  refine j_iadd g (by decide +kernel) ?_
  refine hr.1 _ _ _ _ (by decide +kernel) ⟨_, rfl, by first | rfl | exact b2i_nar | rfl⟩ ?_ ?_
  · rfl
  · rfl
def r_X8_soonMoves (M : Mm) (a1 : Int32) : Int32 := (r_X8_plainMoves (w_X8_ran M 30) a1) * 3
def w_X8_soonMoves (M : Mm) (a1 : Int32) : Mm := (w_X8_plainMoves (w_X8_ran M 30) a1)
def p_X8_soonMoves (M : Mm) (a1 : Int32) : Prop := (p_X8_ran M 30) ∧ (p_X8_plainMoves (w_X8_ran M 30) a1) ∧ True
theorem rnX8_soonMoves {d : Nat} {M : Mm} {a1 : Int32}  (hp : p_X8_soonMoves M a1) : Rn (d + 2) mX8_soonMoves [.ref 600, .int a1] M (some (.int (r_X8_soonMoves M a1))) (w_X8_soonMoves M a1) := by
  refine Rn.of [some (.ref 600), some (.int a1)] (by decide +kernel) rfl (Nat.le_of_ble_eq_true rfl) rfl (fun J g hr => ?_)
  unfold p_X8_soonMoves at hp
  refine j_aload_n g (i := 0) (by decide +kernel) rfl ?_
  refine j_bipush g (n := 30) (30) (by decide +kernel) (by decide +kernel) ?_
  obtain ⟨h0, hp⟩ := hp
  refine j_cV1v g v8_421 ⟨rfl, by decide⟩ (by decide +kernel) (by decide +kernel) (Nat.le_of_ble_eq_true rfl) (rnX8_ran h0) ?_
  refine j_aload_n g (i := 0) (by decide +kernel) rfl ?_
  refine j_iload_n g (i := 1) (by decide +kernel) rfl ?_
  obtain ⟨h0, hp⟩ := hp
  refine j_cV1r g v8_427 ⟨rfl, by decide⟩ (by decide +kernel) (by decide +kernel) (Nat.le_of_ble_eq_true rfl) (rnX8_plainMoves h0) ?_
  refine j_iconst g (n := 3) (3) (by decide +kernel) rfl ?_
  refine j_imul g (by decide +kernel) ?_
  refine hr.1 _ _ _ _ (by decide +kernel) ⟨_, rfl, by first | rfl | exact b2i_nar | rfl⟩ ?_ ?_
  · rfl
  · rfl
def r_X8_movesIt (M : Mm) (a1 : Int32) : Int32 := if (M.1 600 49) = 2 then r_X8_soonMoves M a1 else if (M.1 600 49) = 3 then 0 - (r_X8_soonMoves (w_X8_ran M 40) a1) else if (M.1 600 49) = 4 then (r_X8_plainMoves (w_X8_ran M 51) a1) - ((w_X8_plainMoves (w_X8_ran M 51) a1).1 600 50) else r_X8_plainMoves M a1
def w_X8_movesIt (M : Mm) (a1 : Int32) : Mm := if (M.1 600 49) = 2 then (w_X8_soonMoves M a1) else if (M.1 600 49) = 3 then (w_X8_soonMoves (w_X8_ran M 40) a1) else if (M.1 600 49) = 4 then (w_X8_plainMoves (w_X8_ran M 51) a1) else (w_X8_plainMoves M a1)
def p_X8_movesIt (M : Mm) (a1 : Int32) : Prop := (if (M.1 600 49) = 2 then (p_X8_soonMoves M a1) ∧ True else if (M.1 600 49) = 3 then (p_X8_ran M 40) ∧ (p_X8_soonMoves (w_X8_ran M 40) a1) ∧ True else if (M.1 600 49) = 4 then (p_X8_ran M 51) ∧ (p_X8_plainMoves (w_X8_ran M 51) a1) ∧ True else (p_X8_plainMoves M a1) ∧ True)
theorem rnX8_movesIt {d : Nat} {M : Mm} {a1 : Int32}  (hp : p_X8_movesIt M a1) : Rn (d + 3) mX8_movesIt [.ref 600, .int a1] M (some (.int (r_X8_movesIt M a1))) (w_X8_movesIt M a1) := by
  refine Rn.of [some (.ref 600), some (.int a1)] (by decide +kernel) rfl (Nat.le_of_ble_eq_true rfl) rfl (fun J g hr => ?_)
  unfold p_X8_movesIt at hp
  refine j_aload_n g (i := 0) (by decide +kernel) rfl ?_
  refine j_gI g f8_430 (by decide +kernel) (by decide +kernel) (by decide +kernel) ?_
  have dsw4 : decode cX8_movesIt 4 = .ok (.tableswitch 65 2 4 #[28, 34, 48], 28) := by decide +kernel
  by_cases e4_0 : (M.1 600 49) = 2
  · refine j_tableIn g (off := 28) (tgt := 32) dsw4 (by rw [e4_0]; decide) (by rw [e4_0]; decide) (by rw [e4_0]; decide) (by decide) ?_
    rw [if_pos e4_0] at hp
    refine j_aload_n g (i := 0) (by decide +kernel) rfl ?_
    refine j_iload_n g (i := 1) (by decide +kernel) rfl ?_
    obtain ⟨h0, hp⟩ := hp
    refine j_cV1r g v8_433 ⟨rfl, by decide⟩ (by decide +kernel) (by decide +kernel) (Nat.le_of_ble_eq_true rfl) (rnX8_soonMoves h0) ?_
    refine hr.1 _ _ _ _ (by decide +kernel) ⟨_, rfl, by first | rfl | exact b2i_nar | rfl⟩ ?_ ?_
    · unfold r_X8_movesIt; first | rfl | (simp only [if_pos e4_0]; done) | (simp only [if_pos e4_0]; rfl)
    · unfold w_X8_movesIt; first | rfl | (simp only [if_pos e4_0]; done) | (simp only [if_pos e4_0]; rfl)
  by_cases e4_1 : (M.1 600 49) = 3
  · refine j_tableIn g (off := 34) (tgt := 38) dsw4 (by rw [e4_1]; decide) (by rw [e4_1]; decide) (by rw [e4_1]; decide) (by decide) ?_
    rw [if_neg e4_0, if_pos e4_1] at hp
    refine j_aload_n g (i := 0) (by decide +kernel) rfl ?_
    refine j_bipush g (n := 40) (40) (by decide +kernel) (by decide +kernel) ?_
    obtain ⟨h0, hp⟩ := hp
    refine j_cV1v g v8_421 ⟨rfl, by decide⟩ (by decide +kernel) (by decide +kernel) (Nat.le_of_ble_eq_true rfl) (rnX8_ran h0) ?_
    refine j_iconst g (n := 0) (0) (by decide +kernel) rfl ?_
    refine j_aload_n g (i := 0) (by decide +kernel) rfl ?_
    refine j_iload_n g (i := 1) (by decide +kernel) rfl ?_
    obtain ⟨h0, hp⟩ := hp
    refine j_cV1r g v8_433 ⟨rfl, by decide⟩ (by decide +kernel) (by decide +kernel) (Nat.le_of_ble_eq_true rfl) (rnX8_soonMoves h0) ?_
    refine j_isub g (by decide +kernel) ?_
    refine hr.1 _ _ _ _ (by decide +kernel) ⟨_, rfl, by first | rfl | exact b2i_nar | rfl⟩ ?_ ?_
    · unfold r_X8_movesIt; first | rfl | (simp only [if_neg e4_0, if_pos e4_1]; done) | (simp only [if_neg e4_0, if_pos e4_1]; rfl)
    · unfold w_X8_movesIt; first | rfl | (simp only [if_neg e4_0, if_pos e4_1]; done) | (simp only [if_neg e4_0, if_pos e4_1]; rfl)
  by_cases e4_2 : (M.1 600 49) = 4
  · refine j_tableIn g (off := 48) (tgt := 52) dsw4 (by rw [e4_2]; decide) (by rw [e4_2]; decide) (by rw [e4_2]; decide) (by decide) ?_
    rw [if_neg e4_0, if_neg e4_1, if_pos e4_2] at hp
    refine j_aload_n g (i := 0) (by decide +kernel) rfl ?_
    refine j_bipush g (n := 51) (51) (by decide +kernel) (by decide +kernel) ?_
    obtain ⟨h0, hp⟩ := hp
    refine j_cV1v g v8_421 ⟨rfl, by decide⟩ (by decide +kernel) (by decide +kernel) (Nat.le_of_ble_eq_true rfl) (rnX8_ran h0) ?_
    refine j_aload_n g (i := 0) (by decide +kernel) rfl ?_
    refine j_iload_n g (i := 1) (by decide +kernel) rfl ?_
    obtain ⟨h0, hp⟩ := hp
    refine j_cV1r g v8_427 ⟨rfl, by decide⟩ (by decide +kernel) (by decide +kernel) (Nat.le_of_ble_eq_true rfl) (rnX8_plainMoves h0) ?_
    refine j_aload_n g (i := 0) (by decide +kernel) rfl ?_
    refine j_gI g f8_424 (by decide +kernel) (by decide +kernel) (by decide +kernel) ?_
    refine j_isub g (by decide +kernel) ?_
    refine hr.1 _ _ _ _ (by decide +kernel) ⟨_, rfl, by first | rfl | exact b2i_nar | rfl⟩ ?_ ?_
    · unfold r_X8_movesIt; first | rfl | (simp only [if_neg e4_0, if_neg e4_1, if_pos e4_2]; done) | (simp only [if_neg e4_0, if_neg e4_1, if_pos e4_2]; rfl)
    · unfold w_X8_movesIt; first | rfl | (simp only [if_neg e4_0, if_neg e4_1, if_pos e4_2]; done) | (simp only [if_neg e4_0, if_neg e4_1, if_pos e4_2]; rfl)
  rw [if_neg e4_0, if_neg e4_1, if_neg e4_2] at hp
  refine j_tableOut g (tgt := 69) dsw4 (by simp only [← Int32.toInt_inj, Int32.reduceToInt, im1, im2, im3] at e4_0 e4_1 e4_2; omega) (by decide) ?_
  refine j_aload_n g (i := 0) (by decide +kernel) rfl ?_
  refine j_iload_n g (i := 1) (by decide +kernel) rfl ?_
  obtain ⟨h0, hp⟩ := hp
  refine j_cV1r g v8_427 ⟨rfl, by decide⟩ (by decide +kernel) (by decide +kernel) (Nat.le_of_ble_eq_true rfl) (rnX8_plainMoves h0) ?_
  refine hr.1 _ _ _ _ (by decide +kernel) ⟨_, rfl, by first | rfl | exact b2i_nar | rfl⟩ ?_ ?_
  · unfold r_X8_movesIt; first | rfl | (simp only [if_neg e4_0, if_neg e4_1, if_neg e4_2]; done) | (simp only [if_neg e4_0, if_neg e4_1, if_neg e4_2]; rfl)
  · unfold w_X8_movesIt; first | rfl | (simp only [if_neg e4_0, if_neg e4_1, if_neg e4_2]; done) | (simp only [if_neg e4_0, if_neg e4_1, if_neg e4_2]; rfl)
def r_X8_plainCalls (M : Mm) (a1 : Int32) : Int32 := (r_X8_movesIt (w_X8_ran M 11) a1) * 2
def w_X8_plainCalls (M : Mm) (a1 : Int32) : Mm := (w_X8_movesIt (w_X8_ran M 11) a1)
def p_X8_plainCalls (M : Mm) (a1 : Int32) : Prop := (p_X8_ran M 11) ∧ (p_X8_movesIt (w_X8_ran M 11) a1) ∧ True
theorem rnX8_plainCalls {d : Nat} {M : Mm} {a1 : Int32}  (hp : p_X8_plainCalls M a1) : Rn (d + 4) mX8_plainCalls [.ref 600, .int a1] M (some (.int (r_X8_plainCalls M a1))) (w_X8_plainCalls M a1) := by
  refine Rn.of [some (.ref 600), some (.int a1)] (by decide +kernel) rfl (Nat.le_of_ble_eq_true rfl) rfl (fun J g hr => ?_)
  unfold p_X8_plainCalls at hp
  refine j_aload_n g (i := 0) (by decide +kernel) rfl ?_
  refine j_bipush g (n := 11) (11) (by decide +kernel) (by decide +kernel) ?_
  obtain ⟨h0, hp⟩ := hp
  refine j_cV1v g v8_421 ⟨rfl, by decide⟩ (by decide +kernel) (by decide +kernel) (Nat.le_of_ble_eq_true rfl) (rnX8_ran h0) ?_
  refine j_aload_n g (i := 0) (by decide +kernel) rfl ?_
  refine j_iload_n g (i := 1) (by decide +kernel) rfl ?_
  obtain ⟨h0, hp⟩ := hp
  refine j_cV1r g v8_436 ⟨rfl, by decide⟩ (by decide +kernel) (by decide +kernel) (Nat.le_of_ble_eq_true rfl) (rnX8_movesIt h0) ?_
  refine j_iconst g (n := 2) (2) (by decide +kernel) rfl ?_
  refine j_imul g (by decide +kernel) ?_
  refine hr.1 _ _ _ _ (by decide +kernel) ⟨_, rfl, by first | rfl | exact b2i_nar | rfl⟩ ?_ ?_
  · rfl
  · rfl
def r_X8_callsIt (M : Mm) (a1 : Int32) : Int32 := if (M.1 600 49) = 1 then (r_X8_plainCalls (w_X8_ran M 20) a1) - ((w_X8_plainCalls (w_X8_ran M 20) a1).1 600 51) else if ¬ (M.1 600 49) = 4 then (if ¬ (M.1 600 49) = 3 then r_X8_plainCalls M a1 else (r_X8_plainCalls (w_X8_ran M 41) a1) + (r_X8_movesIt (w_X8_plainCalls (w_X8_ran M 41) a1) ((w_X8_plainCalls (w_X8_ran M 41) a1).1 600 50))) else (r_X8_plainCalls (w_X8_ran M 20) a1) - ((w_X8_plainCalls (w_X8_ran M 20) a1).1 600 51)
def w_X8_callsIt (M : Mm) (a1 : Int32) : Mm := if (M.1 600 49) = 1 then (w_X8_plainCalls (w_X8_ran M 20) a1) else if ¬ (M.1 600 49) = 4 then (if ¬ (M.1 600 49) = 3 then (w_X8_plainCalls M a1) else (w_X8_movesIt (w_X8_plainCalls (w_X8_ran M 41) a1) ((w_X8_plainCalls (w_X8_ran M 41) a1).1 600 50))) else (w_X8_plainCalls (w_X8_ran M 20) a1)
def p_X8_callsIt (M : Mm) (a1 : Int32) : Prop := (if (M.1 600 49) = 1 then (p_X8_ran M 20) ∧ (p_X8_plainCalls (w_X8_ran M 20) a1) ∧ True else (if ¬ (M.1 600 49) = 4 then (if ¬ (M.1 600 49) = 3 then (p_X8_plainCalls M a1) ∧ True else (p_X8_ran M 41) ∧ (p_X8_plainCalls (w_X8_ran M 41) a1) ∧ (p_X8_movesIt (w_X8_plainCalls (w_X8_ran M 41) a1) ((w_X8_plainCalls (w_X8_ran M 41) a1).1 600 50)) ∧ True) else (p_X8_ran M 20) ∧ (p_X8_plainCalls (w_X8_ran M 20) a1) ∧ True))
theorem rnX8_callsIt {d : Nat} {M : Mm} {a1 : Int32}  (hp : p_X8_callsIt M a1) : Rn (d + 5) mX8_callsIt [.ref 600, .int a1] M (some (.int (r_X8_callsIt M a1))) (w_X8_callsIt M a1) := by
  refine Rn.of [some (.ref 600), some (.int a1), none] (by decide +kernel) rfl (Nat.le_of_ble_eq_true rfl) rfl (fun J g hr => ?_)
  unfold p_X8_callsIt at hp
  refine j_aload_n g (i := 0) (by decide +kernel) rfl ?_
  refine j_gI g f8_430 (by decide +kernel) (by decide +kernel) (by decide +kernel) ?_
  refine j_iconst g (n := 1) (1) (by decide +kernel) rfl ?_
  refine j_icmp_eq g (off := 11) (tgt := 16) (by decide +kernel) (by decide) (fun c5 => ?_) (fun c5 => ?_)
  · rw [if_pos (show (M.1 600 49) = 1 from c5)] at hp
    refine j_aload_n g (i := 0) (by decide +kernel) rfl ?_
    refine j_bipush g (n := 20) (20) (by decide +kernel) (by decide +kernel) ?_
    obtain ⟨h0, hp⟩ := hp
    refine j_cV1v g v8_421 ⟨rfl, by decide⟩ (by decide +kernel) (by decide +kernel) (Nat.le_of_ble_eq_true rfl) (rnX8_ran h0) ?_
    refine j_aload_n g (i := 0) (by decide +kernel) rfl ?_
    refine j_iload_n g (i := 1) (by decide +kernel) rfl ?_
    obtain ⟨h0, hp⟩ := hp
    refine j_cV1r g v8_439 ⟨rfl, by decide⟩ (by decide +kernel) (by decide +kernel) (Nat.le_of_ble_eq_true rfl) (rnX8_plainCalls h0) ?_
    refine j_aload_n g (i := 0) (by decide +kernel) rfl ?_
    refine j_gI g f8_442 (by decide +kernel) (by decide +kernel) (by decide +kernel) ?_
    refine j_isub g (by decide +kernel) ?_
    refine hr.1 _ _ _ _ (by decide +kernel) ⟨_, rfl, by first | rfl | exact b2i_nar | rfl⟩ ?_ ?_
    · unfold r_X8_callsIt; first | rfl | (simp only [if_pos (show (M.1 600 49) = 1 from c5)]; done) | (simp only [if_pos (show (M.1 600 49) = 1 from c5)]; rfl)
    · unfold w_X8_callsIt; first | rfl | (simp only [if_pos (show (M.1 600 49) = 1 from c5)]; done) | (simp only [if_pos (show (M.1 600 49) = 1 from c5)]; rfl)
  · rw [if_neg (show ¬ ((M.1 600 49) = 1) from c5)] at hp
    refine j_aload_n g (i := 0) (by decide +kernel) rfl ?_
    refine j_gI g f8_430 (by decide +kernel) (by decide +kernel) (by decide +kernel) ?_
    refine j_iconst g (n := 4) (4) (by decide +kernel) rfl ?_
    refine j_icmp_ne g (off := 20) (tgt := 33) (by decide +kernel) (by decide) (fun c13 => ?_) (fun c13 => ?_)
    · rw [if_pos (show ¬ (M.1 600 49) = 4 from c13)] at hp
      refine j_aload_n g (i := 0) (by decide +kernel) rfl ?_
      refine j_gI g f8_430 (by decide +kernel) (by decide +kernel) (by decide +kernel) ?_
      refine j_iconst g (n := 3) (3) (by decide +kernel) rfl ?_
      refine j_icmp_ne g (off := 26) (tgt := 64) (by decide +kernel) (by decide) (fun c38 => ?_) (fun c38 => ?_)
      · rw [if_pos (show ¬ (M.1 600 49) = 3 from c38)] at hp
        refine j_aload_n g (i := 0) (by decide +kernel) rfl ?_
        refine j_iload_n g (i := 1) (by decide +kernel) rfl ?_
        obtain ⟨h0, hp⟩ := hp
        refine j_cV1r g v8_439 ⟨rfl, by decide⟩ (by decide +kernel) (by decide +kernel) (Nat.le_of_ble_eq_true rfl) (rnX8_plainCalls h0) ?_
        refine hr.1 _ _ _ _ (by decide +kernel) ⟨_, rfl, by first | rfl | exact b2i_nar | rfl⟩ ?_ ?_
        · unfold r_X8_callsIt; first | rfl | (simp only [if_neg (show ¬ ((M.1 600 49) = 1) from c5), if_pos (show ¬ (M.1 600 49) = 4 from c13), if_pos (show ¬ (M.1 600 49) = 3 from c38)]; done) | (simp only [if_neg (show ¬ ((M.1 600 49) = 1) from c5), if_pos (show ¬ (M.1 600 49) = 4 from c13), if_pos (show ¬ (M.1 600 49) = 3 from c38)]; rfl)
        · unfold w_X8_callsIt; first | rfl | (simp only [if_neg (show ¬ ((M.1 600 49) = 1) from c5), if_pos (show ¬ (M.1 600 49) = 4 from c13), if_pos (show ¬ (M.1 600 49) = 3 from c38)]; done) | (simp only [if_neg (show ¬ ((M.1 600 49) = 1) from c5), if_pos (show ¬ (M.1 600 49) = 4 from c13), if_pos (show ¬ (M.1 600 49) = 3 from c38)]; rfl)
      · rw [if_neg (show ¬ (¬ (M.1 600 49) = 3) from c38)] at hp
        refine j_aload_n g (i := 0) (by decide +kernel) rfl ?_
        refine j_bipush g (n := 41) (41) (by decide +kernel) (by decide +kernel) ?_
        obtain ⟨h0, hp⟩ := hp
        refine j_cV1v g v8_421 ⟨rfl, by decide⟩ (by decide +kernel) (by decide +kernel) (Nat.le_of_ble_eq_true rfl) (rnX8_ran h0) ?_
        refine j_aload_n g (i := 0) (by decide +kernel) rfl ?_
        refine j_iload_n g (i := 1) (by decide +kernel) rfl ?_
        obtain ⟨h0, hp⟩ := hp
        refine j_cV1r g v8_439 ⟨rfl, by decide⟩ (by decide +kernel) (by decide +kernel) (Nat.le_of_ble_eq_true rfl) (rnX8_plainCalls h0) ?_
        refine j_istore_n g (i := 2) (by decide +kernel) (by decide) ?_
        dsimp only [stL, clL, hdL]
        refine j_iload_n g (i := 2) (by decide +kernel) rfl ?_
        refine j_aload_n g (i := 0) (by decide +kernel) rfl ?_
        refine j_aload_n g (i := 0) (by decide +kernel) rfl ?_
        refine j_gI g f8_424 (by decide +kernel) (by decide +kernel) (by decide +kernel) ?_
        obtain ⟨h0, hp⟩ := hp
        refine j_cV1r g v8_436 ⟨rfl, by decide⟩ (by decide +kernel) (by decide +kernel) (Nat.le_of_ble_eq_true rfl) (rnX8_movesIt h0) ?_
        refine j_iadd g (by decide +kernel) ?_
        refine hr.1 _ _ _ _ (by decide +kernel) ⟨_, rfl, by first | rfl | exact b2i_nar | rfl⟩ ?_ ?_
        · unfold r_X8_callsIt; first | rfl | (simp only [if_neg (show ¬ ((M.1 600 49) = 1) from c5), if_pos (show ¬ (M.1 600 49) = 4 from c13), if_neg (show ¬ (¬ (M.1 600 49) = 3) from c38)]; done) | (simp only [if_neg (show ¬ ((M.1 600 49) = 1) from c5), if_pos (show ¬ (M.1 600 49) = 4 from c13), if_neg (show ¬ (¬ (M.1 600 49) = 3) from c38)]; rfl)
        · unfold w_X8_callsIt; first | rfl | (simp only [if_neg (show ¬ ((M.1 600 49) = 1) from c5), if_pos (show ¬ (M.1 600 49) = 4 from c13), if_neg (show ¬ (¬ (M.1 600 49) = 3) from c38)]; done) | (simp only [if_neg (show ¬ ((M.1 600 49) = 1) from c5), if_pos (show ¬ (M.1 600 49) = 4 from c13), if_neg (show ¬ (¬ (M.1 600 49) = 3) from c38)]; rfl)
    · rw [if_neg (show ¬ (¬ (M.1 600 49) = 4) from c13)] at hp
      refine j_aload_n g (i := 0) (by decide +kernel) rfl ?_
      refine j_bipush g (n := 20) (20) (by decide +kernel) (by decide +kernel) ?_
      obtain ⟨h0, hp⟩ := hp
      refine j_cV1v g v8_421 ⟨rfl, by decide⟩ (by decide +kernel) (by decide +kernel) (Nat.le_of_ble_eq_true rfl) (rnX8_ran h0) ?_
      refine j_aload_n g (i := 0) (by decide +kernel) rfl ?_
      refine j_iload_n g (i := 1) (by decide +kernel) rfl ?_
      obtain ⟨h0, hp⟩ := hp
      refine j_cV1r g v8_439 ⟨rfl, by decide⟩ (by decide +kernel) (by decide +kernel) (Nat.le_of_ble_eq_true rfl) (rnX8_plainCalls h0) ?_
      refine j_aload_n g (i := 0) (by decide +kernel) rfl ?_
      refine j_gI g f8_442 (by decide +kernel) (by decide +kernel) (by decide +kernel) ?_
      refine j_isub g (by decide +kernel) ?_
      refine hr.1 _ _ _ _ (by decide +kernel) ⟨_, rfl, by first | rfl | exact b2i_nar | rfl⟩ ?_ ?_
      · unfold r_X8_callsIt; first | rfl | (simp only [if_neg (show ¬ ((M.1 600 49) = 1) from c5), if_neg (show ¬ (¬ (M.1 600 49) = 4) from c13)]; done) | (simp only [if_neg (show ¬ ((M.1 600 49) = 1) from c5), if_neg (show ¬ (¬ (M.1 600 49) = 4) from c13)]; rfl)
      · unfold w_X8_callsIt; first | rfl | (simp only [if_neg (show ¬ ((M.1 600 49) = 1) from c5), if_neg (show ¬ (¬ (M.1 600 49) = 4) from c13)]; done) | (simp only [if_neg (show ¬ ((M.1 600 49) = 1) from c5), if_neg (show ¬ (¬ (M.1 600 49) = 4) from c13)]; rfl)
def r_X8_plainShares (M : Mm) (a1 : Int32) : Int32 := if ¬ ((w_X8_ran M 12).1 600 51) = ((w_X8_ran M 12).1 600 50) then a1 / (((w_X8_ran M 12).1 600 51) - ((w_X8_ran M 12).1 600 50)) else 0
def w_X8_plainShares (M : Mm) (a1 : Int32) : Mm := if ¬ ((w_X8_ran M 12).1 600 51) = ((w_X8_ran M 12).1 600 50) then (w_X8_ran M 12) else (wi (w_X8_ran M 12) 600 54 1)
def p_X8_plainShares (M : Mm) (a1 : Int32) : Prop := (p_X8_ran M 12) ∧ (if ¬ ((w_X8_ran M 12).1 600 51) = ((w_X8_ran M 12).1 600 50) then (¬ (((w_X8_ran M 12).1 600 51) - ((w_X8_ran M 12).1 600 50)) = 0) ∧ True else True)
theorem rnX8_plainShares {d : Nat} {M : Mm} {a1 : Int32}  (hp : p_X8_plainShares M a1) : Rn (d + 1) mX8_plainShares [.ref 600, .int a1] M (some (.int (r_X8_plainShares M a1))) (w_X8_plainShares M a1) := by
  refine Rn.of [some (.ref 600), some (.int a1)] (by decide +kernel) rfl (Nat.le_of_ble_eq_true rfl) rfl (fun J g hr => ?_)
  unfold p_X8_plainShares at hp
  refine j_aload_n g (i := 0) (by decide +kernel) rfl ?_
  refine j_bipush g (n := 12) (12) (by decide +kernel) (by decide +kernel) ?_
  obtain ⟨h0, hp⟩ := hp
  refine j_cV1v g v8_421 ⟨rfl, by decide⟩ (by decide +kernel) (by decide +kernel) (Nat.le_of_ble_eq_true rfl) (rnX8_ran h0) ?_
  refine j_aload_n g (i := 0) (by decide +kernel) rfl ?_
  refine j_gI g f8_442 (by decide +kernel) (by decide +kernel) (by decide +kernel) ?_
  refine j_aload_n g (i := 0) (by decide +kernel) rfl ?_
  refine j_gI g f8_424 (by decide +kernel) (by decide +kernel) (by decide +kernel) ?_
  refine j_icmp_ne g (off := 10) (tgt := 24) (by decide +kernel) (by decide) (fun c14 => ?_) (fun c14 => ?_)
  · rw [if_pos (show ¬ ((w_X8_ran M 12).1 600 51) = ((w_X8_ran M 12).1 600 50) from c14)] at hp
    refine j_iload_n g (i := 1) (by decide +kernel) rfl ?_
    refine j_aload_n g (i := 0) (by decide +kernel) rfl ?_
    refine j_gI g f8_442 (by decide +kernel) (by decide +kernel) (by decide +kernel) ?_
    refine j_aload_n g (i := 0) (by decide +kernel) rfl ?_
    refine j_gI g f8_424 (by decide +kernel) (by decide +kernel) (by decide +kernel) ?_
    refine j_isub g (by decide +kernel) ?_
    obtain ⟨h0, hp⟩ := hp
    refine j_idiv g (by decide +kernel) h0 ?_
    refine hr.1 _ _ _ _ (by decide +kernel) ⟨_, rfl, by first | rfl | exact b2i_nar | rfl⟩ ?_ ?_
    · unfold r_X8_plainShares; first | rfl | (simp only [if_pos (show ¬ ((w_X8_ran M 12).1 600 51) = ((w_X8_ran M 12).1 600 50) from c14)]; done) | (simp only [if_pos (show ¬ ((w_X8_ran M 12).1 600 51) = ((w_X8_ran M 12).1 600 50) from c14)]; rfl)
    · unfold w_X8_plainShares; first | rfl | (simp only [if_pos (show ¬ ((w_X8_ran M 12).1 600 51) = ((w_X8_ran M 12).1 600 50) from c14)]; done) | (simp only [if_pos (show ¬ ((w_X8_ran M 12).1 600 51) = ((w_X8_ran M 12).1 600 50) from c14)]; rfl)
  · rw [if_neg (show ¬ (¬ ((w_X8_ran M 12).1 600 51) = ((w_X8_ran M 12).1 600 50)) from c14)] at hp
    refine j_aload_n g (i := 0) (by decide +kernel) rfl ?_
    refine j_iconst g (n := 1) (1) (by decide +kernel) rfl ?_
    refine j_pZ g f8_445 (fun q h => by cases h; rfl) (by decide +kernel) (by decide +kernel) (by decide +kernel) (by decide) ?_
    refine j_iconst g (n := 0) (0) (by decide +kernel) rfl ?_
    refine hr.1 _ _ _ _ (by decide +kernel) ⟨_, rfl, by first | rfl | exact b2i_nar | rfl⟩ ?_ ?_
    · unfold r_X8_plainShares; first | rfl | (simp only [if_neg (show ¬ (¬ ((w_X8_ran M 12).1 600 51) = ((w_X8_ran M 12).1 600 50)) from c14)]; done) | (simp only [if_neg (show ¬ (¬ ((w_X8_ran M 12).1 600 51) = ((w_X8_ran M 12).1 600 50)) from c14)]; rfl)
    · unfold w_X8_plainShares; first | rfl | (simp only [if_neg (show ¬ (¬ ((w_X8_ran M 12).1 600 51) = ((w_X8_ran M 12).1 600 50)) from c14)]; done) | (simp only [if_neg (show ¬ (¬ ((w_X8_ran M 12).1 600 51) = ((w_X8_ran M 12).1 600 50)) from c14)]; rfl)
def r_X8_sharesIt (M : Mm) (a1 : Int32) : Int32 := if ¬ (M.1 600 49) = 4 then (if ¬ (M.1 600 49) = 5 then r_X8_plainShares M a1 else if ((w_X8_plainShares (w_X8_ran M 61) a1).1 600 54) = 0 then (r_X8_plainShares (w_X8_ran M 61) a1) + (r_X8_movesIt (w_X8_plainShares (w_X8_ran M 61) a1) ((w_X8_plainShares (w_X8_ran M 61) a1).1 600 51)) else 0) else (r_X8_plainShares (w_X8_ran M 50) (a1 + 2)) ^^^ 1
def w_X8_sharesIt (M : Mm) (a1 : Int32) : Mm := if ¬ (M.1 600 49) = 4 then (if ¬ (M.1 600 49) = 5 then (w_X8_plainShares M a1) else if ((w_X8_plainShares (w_X8_ran M 61) a1).1 600 54) = 0 then (w_X8_movesIt (w_X8_plainShares (w_X8_ran M 61) a1) ((w_X8_plainShares (w_X8_ran M 61) a1).1 600 51)) else (w_X8_plainShares (w_X8_ran M 61) a1)) else (w_X8_plainShares (w_X8_ran M 50) (a1 + 2))
def p_X8_sharesIt (M : Mm) (a1 : Int32) : Prop := (if ¬ (M.1 600 49) = 4 then (if ¬ (M.1 600 49) = 5 then (p_X8_plainShares M a1) ∧ True else (p_X8_ran M 61) ∧ (p_X8_plainShares (w_X8_ran M 61) a1) ∧ (if ((w_X8_plainShares (w_X8_ran M 61) a1).1 600 54) = 0 then (p_X8_movesIt (w_X8_plainShares (w_X8_ran M 61) a1) ((w_X8_plainShares (w_X8_ran M 61) a1).1 600 51)) ∧ True else True)) else (p_X8_ran M 50) ∧ (p_X8_plainShares (w_X8_ran M 50) (a1 + 2)) ∧ True)
theorem rnX8_sharesIt {d : Nat} {M : Mm} {a1 : Int32}  (hp : p_X8_sharesIt M a1) : Rn (d + 4) mX8_sharesIt [.ref 600, .int a1] M (some (.int (r_X8_sharesIt M a1))) (w_X8_sharesIt M a1) := by
  refine Rn.of [some (.ref 600), some (.int a1), none] (by decide +kernel) rfl (Nat.le_of_ble_eq_true rfl) rfl (fun J g hr => ?_)
  unfold p_X8_sharesIt at hp
  refine j_aload_n g (i := 0) (by decide +kernel) rfl ?_
  refine j_gI g f8_430 (by decide +kernel) (by decide +kernel) (by decide +kernel) ?_
  refine j_iconst g (n := 4) (4) (by decide +kernel) rfl ?_
  refine j_icmp_ne g (off := 19) (tgt := 24) (by decide +kernel) (by decide) (fun c5 => ?_) (fun c5 => ?_)
  · rw [if_pos (show ¬ (M.1 600 49) = 4 from c5)] at hp
    refine j_aload_n g (i := 0) (by decide +kernel) rfl ?_
    refine j_gI g f8_430 (by decide +kernel) (by decide +kernel) (by decide +kernel) ?_
    refine j_iconst g (n := 5) (5) (by decide +kernel) rfl ?_
    refine j_icmp_ne g (off := 37) (tgt := 66) (by decide +kernel) (by decide) (fun c29 => ?_) (fun c29 => ?_)
    · rw [if_pos (show ¬ (M.1 600 49) = 5 from c29)] at hp
      refine j_aload_n g (i := 0) (by decide +kernel) rfl ?_
      refine j_iload_n g (i := 1) (by decide +kernel) rfl ?_
      obtain ⟨h0, hp⟩ := hp
      refine j_cV1r g v8_448 ⟨rfl, by decide⟩ (by decide +kernel) (by decide +kernel) (Nat.le_of_ble_eq_true rfl) (rnX8_plainShares h0) ?_
      refine hr.1 _ _ _ _ (by decide +kernel) ⟨_, rfl, by first | rfl | exact b2i_nar | rfl⟩ ?_ ?_
      · unfold r_X8_sharesIt; first | rfl | (simp only [if_pos (show ¬ (M.1 600 49) = 4 from c5), if_pos (show ¬ (M.1 600 49) = 5 from c29)]; done) | (simp only [if_pos (show ¬ (M.1 600 49) = 4 from c5), if_pos (show ¬ (M.1 600 49) = 5 from c29)]; rfl)
      · unfold w_X8_sharesIt; first | rfl | (simp only [if_pos (show ¬ (M.1 600 49) = 4 from c5), if_pos (show ¬ (M.1 600 49) = 5 from c29)]; done) | (simp only [if_pos (show ¬ (M.1 600 49) = 4 from c5), if_pos (show ¬ (M.1 600 49) = 5 from c29)]; rfl)
    · rw [if_neg (show ¬ (¬ (M.1 600 49) = 5) from c29)] at hp
      refine j_aload_n g (i := 0) (by decide +kernel) rfl ?_
      refine j_bipush g (n := 61) (61) (by decide +kernel) (by decide +kernel) ?_
      obtain ⟨h0, hp⟩ := hp
      refine j_cV1v g v8_421 ⟨rfl, by decide⟩ (by decide +kernel) (by decide +kernel) (Nat.le_of_ble_eq_true rfl) (rnX8_ran h0) ?_
      refine j_aload_n g (i := 0) (by decide +kernel) rfl ?_
      refine j_iload_n g (i := 1) (by decide +kernel) rfl ?_
      obtain ⟨h0, hp⟩ := hp
      refine j_cV1r g v8_448 ⟨rfl, by decide⟩ (by decide +kernel) (by decide +kernel) (Nat.le_of_ble_eq_true rfl) (rnX8_plainShares h0) ?_
      refine j_istore_n g (i := 2) (by decide +kernel) (by decide) ?_
      dsimp only [stL, clL, hdL]
      refine j_aload_n g (i := 0) (by decide +kernel) rfl ?_
      refine j_gI g f8_445 (by decide +kernel) (by decide +kernel) (by decide +kernel) ?_
      refine j_if_eq g (off := 7) (tgt := 55) (by decide +kernel) (by decide) (fun c48 => ?_) (fun c48 => ?_)
      · rw [if_pos (show ((w_X8_plainShares (w_X8_ran M 61) a1).1 600 54) = 0 from c48)] at hp
        refine j_iload_n g (i := 2) (by decide +kernel) rfl ?_
        refine j_aload_n g (i := 0) (by decide +kernel) rfl ?_
        refine j_aload_n g (i := 0) (by decide +kernel) rfl ?_
        refine j_gI g f8_442 (by decide +kernel) (by decide +kernel) (by decide +kernel) ?_
        obtain ⟨h0, hp⟩ := hp
        refine j_cV1r g v8_436 ⟨rfl, by decide⟩ (by decide +kernel) (by decide +kernel) (Nat.le_of_ble_eq_true rfl) (rnX8_movesIt h0) ?_
        refine j_iadd g (by decide +kernel) ?_
        refine hr.1 _ _ _ _ (by decide +kernel) ⟨_, rfl, by first | rfl | exact b2i_nar | rfl⟩ ?_ ?_
        · unfold r_X8_sharesIt; first | rfl | (simp only [if_pos (show ¬ (M.1 600 49) = 4 from c5), if_neg (show ¬ (¬ (M.1 600 49) = 5) from c29), if_pos (show ((w_X8_plainShares (w_X8_ran M 61) a1).1 600 54) = 0 from c48)]; done) | (simp only [if_pos (show ¬ (M.1 600 49) = 4 from c5), if_neg (show ¬ (¬ (M.1 600 49) = 5) from c29), if_pos (show ((w_X8_plainShares (w_X8_ran M 61) a1).1 600 54) = 0 from c48)]; rfl)
        · unfold w_X8_sharesIt; first | rfl | (simp only [if_pos (show ¬ (M.1 600 49) = 4 from c5), if_neg (show ¬ (¬ (M.1 600 49) = 5) from c29), if_pos (show ((w_X8_plainShares (w_X8_ran M 61) a1).1 600 54) = 0 from c48)]; done) | (simp only [if_pos (show ¬ (M.1 600 49) = 4 from c5), if_neg (show ¬ (¬ (M.1 600 49) = 5) from c29), if_pos (show ((w_X8_plainShares (w_X8_ran M 61) a1).1 600 54) = 0 from c48)]; rfl)
      · rw [if_neg (show ¬ (((w_X8_plainShares (w_X8_ran M 61) a1).1 600 54) = 0) from c48)] at hp
        refine j_iconst g (n := 0) (0) (by decide +kernel) rfl ?_
        refine j_goto g (off := 13) (tgt := 65) (by decide +kernel) (by decide) ?_
        refine hr.1 _ _ _ _ (by decide +kernel) ⟨_, rfl, by first | rfl | exact b2i_nar | rfl⟩ ?_ ?_
        · unfold r_X8_sharesIt; first | rfl | (simp only [if_pos (show ¬ (M.1 600 49) = 4 from c5), if_neg (show ¬ (¬ (M.1 600 49) = 5) from c29), if_neg (show ¬ (((w_X8_plainShares (w_X8_ran M 61) a1).1 600 54) = 0) from c48)]; done) | (simp only [if_pos (show ¬ (M.1 600 49) = 4 from c5), if_neg (show ¬ (¬ (M.1 600 49) = 5) from c29), if_neg (show ¬ (((w_X8_plainShares (w_X8_ran M 61) a1).1 600 54) = 0) from c48)]; rfl)
        · unfold w_X8_sharesIt; first | rfl | (simp only [if_pos (show ¬ (M.1 600 49) = 4 from c5), if_neg (show ¬ (¬ (M.1 600 49) = 5) from c29), if_neg (show ¬ (((w_X8_plainShares (w_X8_ran M 61) a1).1 600 54) = 0) from c48)]; done) | (simp only [if_pos (show ¬ (M.1 600 49) = 4 from c5), if_neg (show ¬ (¬ (M.1 600 49) = 5) from c29), if_neg (show ¬ (((w_X8_plainShares (w_X8_ran M 61) a1).1 600 54) = 0) from c48)]; rfl)
  · rw [if_neg (show ¬ (¬ (M.1 600 49) = 4) from c5)] at hp
    refine j_aload_n g (i := 0) (by decide +kernel) rfl ?_
    refine j_bipush g (n := 50) (50) (by decide +kernel) (by decide +kernel) ?_
    obtain ⟨h0, hp⟩ := hp
    refine j_cV1v g v8_421 ⟨rfl, by decide⟩ (by decide +kernel) (by decide +kernel) (Nat.le_of_ble_eq_true rfl) (rnX8_ran h0) ?_
    refine j_aload_n g (i := 0) (by decide +kernel) rfl ?_
    refine j_iload_n g (i := 1) (by decide +kernel) rfl ?_
    refine j_iconst g (n := 2) (2) (by decide +kernel) rfl ?_
    refine j_iadd g (by decide +kernel) ?_
    obtain ⟨h0, hp⟩ := hp
    refine j_cV1r g v8_448 ⟨rfl, by decide⟩ (by decide +kernel) (by decide +kernel) (Nat.le_of_ble_eq_true rfl) (rnX8_plainShares h0) ?_
    refine j_iconst g (n := 1) (1) (by decide +kernel) rfl ?_
    refine j_ixor g (by decide +kernel) ?_
    refine hr.1 _ _ _ _ (by decide +kernel) ⟨_, rfl, by first | rfl | exact b2i_nar | rfl⟩ ?_ ?_
    · unfold r_X8_sharesIt; first | rfl | (simp only [if_neg (show ¬ (¬ (M.1 600 49) = 4) from c5)]; done) | (simp only [if_neg (show ¬ (¬ (M.1 600 49) = 4) from c5)]; rfl)
    · unfold w_X8_sharesIt; first | rfl | (simp only [if_neg (show ¬ (¬ (M.1 600 49) = 4) from c5)]; done) | (simp only [if_neg (show ¬ (¬ (M.1 600 49) = 4) from c5)]; rfl)
def r_X8_plainTells (M : Mm) (a1 : Int32) : Int32 := (r_X8_callsIt (w_X8_ran M 13) a1) ^^^ ((w_X8_callsIt (w_X8_ran M 13) a1).1 600 51)
def w_X8_plainTells (M : Mm) (a1 : Int32) : Mm := (w_X8_callsIt (w_X8_ran M 13) a1)
def p_X8_plainTells (M : Mm) (a1 : Int32) : Prop := (p_X8_ran M 13) ∧ (p_X8_callsIt (w_X8_ran M 13) a1) ∧ True
theorem rnX8_plainTells {d : Nat} {M : Mm} {a1 : Int32}  (hp : p_X8_plainTells M a1) : Rn (d + 6) mX8_plainTells [.ref 600, .int a1] M (some (.int (r_X8_plainTells M a1))) (w_X8_plainTells M a1) := by
  refine Rn.of [some (.ref 600), some (.int a1)] (by decide +kernel) rfl (Nat.le_of_ble_eq_true rfl) rfl (fun J g hr => ?_)
  unfold p_X8_plainTells at hp
  refine j_aload_n g (i := 0) (by decide +kernel) rfl ?_
  refine j_bipush g (n := 13) (13) (by decide +kernel) (by decide +kernel) ?_
  obtain ⟨h0, hp⟩ := hp
  refine j_cV1v g v8_421 ⟨rfl, by decide⟩ (by decide +kernel) (by decide +kernel) (Nat.le_of_ble_eq_true rfl) (rnX8_ran h0) ?_
  refine j_aload_n g (i := 0) (by decide +kernel) rfl ?_
  refine j_iload_n g (i := 1) (by decide +kernel) rfl ?_
  obtain ⟨h0, hp⟩ := hp
  refine j_cV1r g v8_451 ⟨rfl, by decide⟩ (by decide +kernel) (by decide +kernel) (Nat.le_of_ble_eq_true rfl) (rnX8_callsIt h0) ?_
  refine j_aload_n g (i := 0) (by decide +kernel) rfl ?_
  refine j_gI g f8_442 (by decide +kernel) (by decide +kernel) (by decide +kernel) ?_
  refine j_ixor g (by decide +kernel) ?_
  refine hr.1 _ _ _ _ (by decide +kernel) ⟨_, rfl, by first | rfl | exact b2i_nar | rfl⟩ ?_ ?_
  · rfl
  · rfl
def r_X8_tellsIt (M : Mm) (a1 : Int32) : Int32 := if (M.1 600 49) = 2 then (r_X8_plainTells (w_X8_ran M 31) a1) + (r_X8_sharesIt (w_X8_plainTells (w_X8_ran M 31) a1) ((w_X8_plainTells (w_X8_ran M 31) a1).1 600 50)) else if ¬ (M.1 600 49) = 3 then (if ¬ (M.1 600 49) = 5 then r_X8_plainTells M a1 else (r_X8_plainTells (w_X8_ran M 60) a1) * 2) else (r_X8_plainTells (w_X8_ran M 31) a1) + (r_X8_sharesIt (w_X8_plainTells (w_X8_ran M 31) a1) ((w_X8_plainTells (w_X8_ran M 31) a1).1 600 50))
def w_X8_tellsIt (M : Mm) (a1 : Int32) : Mm := if (M.1 600 49) = 2 then (w_X8_sharesIt (w_X8_plainTells (w_X8_ran M 31) a1) ((w_X8_plainTells (w_X8_ran M 31) a1).1 600 50)) else if ¬ (M.1 600 49) = 3 then (if ¬ (M.1 600 49) = 5 then (w_X8_plainTells M a1) else (w_X8_plainTells (w_X8_ran M 60) a1)) else (w_X8_sharesIt (w_X8_plainTells (w_X8_ran M 31) a1) ((w_X8_plainTells (w_X8_ran M 31) a1).1 600 50))
def p_X8_tellsIt (M : Mm) (a1 : Int32) : Prop := (if (M.1 600 49) = 2 then (p_X8_ran M 31) ∧ (p_X8_plainTells (w_X8_ran M 31) a1) ∧ (p_X8_sharesIt (w_X8_plainTells (w_X8_ran M 31) a1) ((w_X8_plainTells (w_X8_ran M 31) a1).1 600 50)) ∧ True else (if ¬ (M.1 600 49) = 3 then (if ¬ (M.1 600 49) = 5 then (p_X8_plainTells M a1) ∧ True else (p_X8_ran M 60) ∧ (p_X8_plainTells (w_X8_ran M 60) a1) ∧ True) else (p_X8_ran M 31) ∧ (p_X8_plainTells (w_X8_ran M 31) a1) ∧ (p_X8_sharesIt (w_X8_plainTells (w_X8_ran M 31) a1) ((w_X8_plainTells (w_X8_ran M 31) a1).1 600 50)) ∧ True))
theorem rnX8_tellsIt {d : Nat} {M : Mm} {a1 : Int32}  (hp : p_X8_tellsIt M a1) : Rn (d + 7) mX8_tellsIt [.ref 600, .int a1] M (some (.int (r_X8_tellsIt M a1))) (w_X8_tellsIt M a1) := by
  refine Rn.of [some (.ref 600), some (.int a1), none] (by decide +kernel) rfl (Nat.le_of_ble_eq_true rfl) rfl (fun J g hr => ?_)
  unfold p_X8_tellsIt at hp
  refine j_aload_n g (i := 0) (by decide +kernel) rfl ?_
  refine j_gI g f8_430 (by decide +kernel) (by decide +kernel) (by decide +kernel) ?_
  refine j_iconst g (n := 2) (2) (by decide +kernel) rfl ?_
  refine j_icmp_eq g (off := 11) (tgt := 16) (by decide +kernel) (by decide) (fun c5 => ?_) (fun c5 => ?_)
  · rw [if_pos (show (M.1 600 49) = 2 from c5)] at hp
    refine j_aload_n g (i := 0) (by decide +kernel) rfl ?_
    refine j_bipush g (n := 31) (31) (by decide +kernel) (by decide +kernel) ?_
    obtain ⟨h0, hp⟩ := hp
    refine j_cV1v g v8_421 ⟨rfl, by decide⟩ (by decide +kernel) (by decide +kernel) (Nat.le_of_ble_eq_true rfl) (rnX8_ran h0) ?_
    refine j_aload_n g (i := 0) (by decide +kernel) rfl ?_
    refine j_iload_n g (i := 1) (by decide +kernel) rfl ?_
    obtain ⟨h0, hp⟩ := hp
    refine j_cV1r g v8_454 ⟨rfl, by decide⟩ (by decide +kernel) (by decide +kernel) (Nat.le_of_ble_eq_true rfl) (rnX8_plainTells h0) ?_
    refine j_istore_n g (i := 2) (by decide +kernel) (by decide) ?_
    dsimp only [stL, clL, hdL]
    refine j_iload_n g (i := 2) (by decide +kernel) rfl ?_
    refine j_aload_n g (i := 0) (by decide +kernel) rfl ?_
    refine j_aload_n g (i := 0) (by decide +kernel) rfl ?_
    refine j_gI g f8_424 (by decide +kernel) (by decide +kernel) (by decide +kernel) ?_
    obtain ⟨h0, hp⟩ := hp
    refine j_cV1r g v8_457 ⟨rfl, by decide⟩ (by decide +kernel) (by decide +kernel) (Nat.le_of_ble_eq_true rfl) (rnX8_sharesIt h0) ?_
    refine j_iadd g (by decide +kernel) ?_
    refine hr.1 _ _ _ _ (by decide +kernel) ⟨_, rfl, by first | rfl | exact b2i_nar | rfl⟩ ?_ ?_
    · unfold r_X8_tellsIt; first | rfl | (simp only [if_pos (show (M.1 600 49) = 2 from c5)]; done) | (simp only [if_pos (show (M.1 600 49) = 2 from c5)]; rfl)
    · unfold w_X8_tellsIt; first | rfl | (simp only [if_pos (show (M.1 600 49) = 2 from c5)]; done) | (simp only [if_pos (show (M.1 600 49) = 2 from c5)]; rfl)
  · rw [if_neg (show ¬ ((M.1 600 49) = 2) from c5)] at hp
    refine j_aload_n g (i := 0) (by decide +kernel) rfl ?_
    refine j_gI g f8_430 (by decide +kernel) (by decide +kernel) (by decide +kernel) ?_
    refine j_iconst g (n := 3) (3) (by decide +kernel) rfl ?_
    refine j_icmp_ne g (off := 26) (tgt := 39) (by decide +kernel) (by decide) (fun c13 => ?_) (fun c13 => ?_)
    · rw [if_pos (show ¬ (M.1 600 49) = 3 from c13)] at hp
      refine j_aload_n g (i := 0) (by decide +kernel) rfl ?_
      refine j_gI g f8_430 (by decide +kernel) (by decide +kernel) (by decide +kernel) ?_
      refine j_iconst g (n := 5) (5) (by decide +kernel) rfl ?_
      refine j_icmp_ne g (off := 17) (tgt := 61) (by decide +kernel) (by decide) (fun c44 => ?_) (fun c44 => ?_)
      · rw [if_pos (show ¬ (M.1 600 49) = 5 from c44)] at hp
        refine j_aload_n g (i := 0) (by decide +kernel) rfl ?_
        refine j_iload_n g (i := 1) (by decide +kernel) rfl ?_
        obtain ⟨h0, hp⟩ := hp
        refine j_cV1r g v8_454 ⟨rfl, by decide⟩ (by decide +kernel) (by decide +kernel) (Nat.le_of_ble_eq_true rfl) (rnX8_plainTells h0) ?_
        refine hr.1 _ _ _ _ (by decide +kernel) ⟨_, rfl, by first | rfl | exact b2i_nar | rfl⟩ ?_ ?_
        · unfold r_X8_tellsIt; first | rfl | (simp only [if_neg (show ¬ ((M.1 600 49) = 2) from c5), if_pos (show ¬ (M.1 600 49) = 3 from c13), if_pos (show ¬ (M.1 600 49) = 5 from c44)]; done) | (simp only [if_neg (show ¬ ((M.1 600 49) = 2) from c5), if_pos (show ¬ (M.1 600 49) = 3 from c13), if_pos (show ¬ (M.1 600 49) = 5 from c44)]; rfl)
        · unfold w_X8_tellsIt; first | rfl | (simp only [if_neg (show ¬ ((M.1 600 49) = 2) from c5), if_pos (show ¬ (M.1 600 49) = 3 from c13), if_pos (show ¬ (M.1 600 49) = 5 from c44)]; done) | (simp only [if_neg (show ¬ ((M.1 600 49) = 2) from c5), if_pos (show ¬ (M.1 600 49) = 3 from c13), if_pos (show ¬ (M.1 600 49) = 5 from c44)]; rfl)
      · rw [if_neg (show ¬ (¬ (M.1 600 49) = 5) from c44)] at hp
        refine j_aload_n g (i := 0) (by decide +kernel) rfl ?_
        refine j_bipush g (n := 60) (60) (by decide +kernel) (by decide +kernel) ?_
        obtain ⟨h0, hp⟩ := hp
        refine j_cV1v g v8_421 ⟨rfl, by decide⟩ (by decide +kernel) (by decide +kernel) (Nat.le_of_ble_eq_true rfl) (rnX8_ran h0) ?_
        refine j_aload_n g (i := 0) (by decide +kernel) rfl ?_
        refine j_iload_n g (i := 1) (by decide +kernel) rfl ?_
        obtain ⟨h0, hp⟩ := hp
        refine j_cV1r g v8_454 ⟨rfl, by decide⟩ (by decide +kernel) (by decide +kernel) (Nat.le_of_ble_eq_true rfl) (rnX8_plainTells h0) ?_
        refine j_iconst g (n := 2) (2) (by decide +kernel) rfl ?_
        refine j_imul g (by decide +kernel) ?_
        refine hr.1 _ _ _ _ (by decide +kernel) ⟨_, rfl, by first | rfl | exact b2i_nar | rfl⟩ ?_ ?_
        · unfold r_X8_tellsIt; first | rfl | (simp only [if_neg (show ¬ ((M.1 600 49) = 2) from c5), if_pos (show ¬ (M.1 600 49) = 3 from c13), if_neg (show ¬ (¬ (M.1 600 49) = 5) from c44)]; done) | (simp only [if_neg (show ¬ ((M.1 600 49) = 2) from c5), if_pos (show ¬ (M.1 600 49) = 3 from c13), if_neg (show ¬ (¬ (M.1 600 49) = 5) from c44)]; rfl)
        · unfold w_X8_tellsIt; first | rfl | (simp only [if_neg (show ¬ ((M.1 600 49) = 2) from c5), if_pos (show ¬ (M.1 600 49) = 3 from c13), if_neg (show ¬ (¬ (M.1 600 49) = 5) from c44)]; done) | (simp only [if_neg (show ¬ ((M.1 600 49) = 2) from c5), if_pos (show ¬ (M.1 600 49) = 3 from c13), if_neg (show ¬ (¬ (M.1 600 49) = 5) from c44)]; rfl)
    · rw [if_neg (show ¬ (¬ (M.1 600 49) = 3) from c13)] at hp
      refine j_aload_n g (i := 0) (by decide +kernel) rfl ?_
      refine j_bipush g (n := 31) (31) (by decide +kernel) (by decide +kernel) ?_
      obtain ⟨h0, hp⟩ := hp
      refine j_cV1v g v8_421 ⟨rfl, by decide⟩ (by decide +kernel) (by decide +kernel) (Nat.le_of_ble_eq_true rfl) (rnX8_ran h0) ?_
      refine j_aload_n g (i := 0) (by decide +kernel) rfl ?_
      refine j_iload_n g (i := 1) (by decide +kernel) rfl ?_
      obtain ⟨h0, hp⟩ := hp
      refine j_cV1r g v8_454 ⟨rfl, by decide⟩ (by decide +kernel) (by decide +kernel) (Nat.le_of_ble_eq_true rfl) (rnX8_plainTells h0) ?_
      refine j_istore_n g (i := 2) (by decide +kernel) (by decide) ?_
      dsimp only [stL, clL, hdL]
      refine j_iload_n g (i := 2) (by decide +kernel) rfl ?_
      refine j_aload_n g (i := 0) (by decide +kernel) rfl ?_
      refine j_aload_n g (i := 0) (by decide +kernel) rfl ?_
      refine j_gI g f8_424 (by decide +kernel) (by decide +kernel) (by decide +kernel) ?_
      obtain ⟨h0, hp⟩ := hp
      refine j_cV1r g v8_457 ⟨rfl, by decide⟩ (by decide +kernel) (by decide +kernel) (Nat.le_of_ble_eq_true rfl) (rnX8_sharesIt h0) ?_
      refine j_iadd g (by decide +kernel) ?_
      refine hr.1 _ _ _ _ (by decide +kernel) ⟨_, rfl, by first | rfl | exact b2i_nar | rfl⟩ ?_ ?_
      · unfold r_X8_tellsIt; first | rfl | (simp only [if_neg (show ¬ ((M.1 600 49) = 2) from c5), if_neg (show ¬ (¬ (M.1 600 49) = 3) from c13)]; done) | (simp only [if_neg (show ¬ ((M.1 600 49) = 2) from c5), if_neg (show ¬ (¬ (M.1 600 49) = 3) from c13)]; rfl)
      · unfold w_X8_tellsIt; first | rfl | (simp only [if_neg (show ¬ ((M.1 600 49) = 2) from c5), if_neg (show ¬ (¬ (M.1 600 49) = 3) from c13)]; done) | (simp only [if_neg (show ¬ ((M.1 600 49) = 2) from c5), if_neg (show ¬ (¬ (M.1 600 49) = 3) from c13)]; rfl)
def r_X8_trace (M : Mm) (a1 : Int32) : Int32 := if (b2i (0 ≤ a1 ∧ a1 ≤ ((M.1 600 53) - 1))) = 0 then (-3) else M.1 626 (Int32.toNatClampNeg a1)
def p_X8_trace (M : Mm) (a1 : Int32) : Prop := (if (b2i (0 ≤ a1 ∧ a1 ≤ ((M.1 600 53) - 1))) = 0 then True else (vp_in a1 30) ∧ True)
theorem rnX8_trace {d : Nat} {M : Mm} {a1 : Int32}  (hp : p_X8_trace M a1) : Rn (d + 1) mX8_trace [.ref 600, .int a1] M (some (.int (r_X8_trace M a1))) M := by
  refine Rn.of [some (.ref 600), some (.int a1)] (by decide +kernel) rfl (Nat.le_of_ble_eq_true rfl) rfl (fun J g hr => ?_)
  unfold p_X8_trace at hp
  refine j_iload_n g (i := 1) (by decide +kernel) rfl ?_
  refine j_iconst g (n := 0) (0) (by decide +kernel) rfl ?_
  refine j_aload_n g (i := 0) (by decide +kernel) rfl ?_
  refine j_gI g f8_418 (by decide +kernel) (by decide +kernel) (by decide +kernel) ?_
  refine j_iconst g (n := 1) (1) (by decide +kernel) rfl ?_
  refine j_isub g (by decide +kernel) ?_
  refine j_cS3r g s8_95 (by decide +kernel) (Nat.le_of_ble_eq_true rfl) (rnX8_in) ?_
  refine j_if_eq g (off := 12) (tgt := 23) (by decide +kernel) (by decide) (fun c11 => ?_) (fun c11 => ?_)
  · rw [if_pos (show (b2i (0 ≤ a1 ∧ a1 ≤ ((M.1 600 53) - 1))) = 0 from c11)] at hp
    refine j_bipush g (n := -3) (-3) (by decide +kernel) (by decide +kernel) ?_
    refine hr.1 _ _ _ _ (by decide +kernel) ⟨_, rfl, by first | rfl | exact b2i_nar | rfl⟩ ?_ ?_
    · unfold r_X8_trace; first | rfl | (simp only [if_pos (show (b2i (0 ≤ a1 ∧ a1 ≤ ((M.1 600 53) - 1))) = 0 from c11)]; done) | (simp only [if_pos (show (b2i (0 ≤ a1 ∧ a1 ≤ ((M.1 600 53) - 1))) = 0 from c11)]; rfl)
    · rfl
  · rw [if_neg (show ¬ ((b2i (0 ≤ a1 ∧ a1 ≤ ((M.1 600 53) - 1))) = 0) from c11)] at hp
    refine j_aload_n g (i := 0) (by decide +kernel) rfl ?_
    refine j_gA g (b := 626) f8_86 (by decide +kernel) (by decide +kernel) (by decide +kernel) (by decide +kernel) ?_
    refine j_iload_n g (i := 1) (by decide +kernel) rfl ?_
    obtain ⟨h0, hp⟩ := hp
    refine j_ia g 30 (by decide +kernel) (by decide +kernel) (by decide +kernel) h0 ?_
    refine j_goto g (off := 5) (tgt := 25) (by decide +kernel) (by decide) ?_
    refine hr.1 _ _ _ _ (by decide +kernel) ⟨_, rfl, by first | rfl | exact b2i_nar | rfl⟩ ?_ ?_
    · unfold r_X8_trace; first | rfl | (simp only [if_neg (show ¬ ((b2i (0 ≤ a1 ∧ a1 ≤ ((M.1 600 53) - 1))) = 0) from c11)]; done) | (simp only [if_neg (show ¬ ((b2i (0 ≤ a1 ∧ a1 ≤ ((M.1 600 53) - 1))) = 0) from c11)]; rfl)
    · rfl
