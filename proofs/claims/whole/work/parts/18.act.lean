noncomputable def r_X8_act_127 (M : Mm) (a1 : Int32) (a2 : Int32) (a3 : Int32) (x4 : Int32) (x5 : Int32) : Int32 := if (M.1 600 54) = 0 then x5 else (-15)
noncomputable def w_X8_act_127 (M : Mm) (a1 : Int32) (a2 : Int32) (a3 : Int32) (x4 : Int32) (x5 : Int32) : Mm := M
theorem jn_X8_act_127 {d : Nat} {J : Nat → Lc → List Value → Mm → Prop} {M : Mm} {a1 : Int32} {a2 : Int32} {a3 : Int32} {x4 : Int32} {x5 : Int32}  (g : Good mX8_act.1 mX8_act.2.2.1 mX8_act.2.2.2.1 (d + 8) J) {rv : Option Value} {M1 : Mm} (hr : Ret mX8_act.2.2.1 mX8_act.2.2.2.2 rv M1 J) (hrv : rv = some (.int (r_X8_act_127 M a1 a2 a3 x4 x5))) (hmm : M1 = w_X8_act_127 M a1 a2 a3 x4 x5) : J 127 [some (.ref 600), some (.int a1), some (.int a2), some (.int a3), some (.int x4), some (.int x5)] [] M := by
  refine j_aload_n g (i := 0) (by decide +kernel) rfl ?_
  refine j_gI g f8_445 (by decide +kernel) (by decide +kernel) (by decide +kernel) ?_
  refine j_if_eq g (off := 8) (tgt := 139) (by decide +kernel) (by decide) (fun c131 => ?_) (fun c131 => ?_)
  · skip
    refine j_iload g (i := 5) (by decide +kernel) rfl ?_
    refine hr.1 _ _ _ _ (by decide +kernel) ⟨_, rfl, by first | rfl | exact b2i_nar | decide +kernel⟩ ?_ ?_
    · rw [hrv]; unfold r_X8_act_127; first | (simp only [if_pos (show (M.1 600 54) = 0 from c131)]; done) | (simp only [if_pos (show (M.1 600 54) = 0 from c131)]; rfl) | rfl
    · rw [hmm]; unfold w_X8_act_127; first | (simp only [if_pos (show (M.1 600 54) = 0 from c131)]; done) | (simp only [if_pos (show (M.1 600 54) = 0 from c131)]; rfl) | rfl
  · skip
    refine j_bipush g (n := -15) (-15) (by decide +kernel) (by decide +kernel) ?_
    refine j_goto g (off := 5) (tgt := 141) (by decide +kernel) (by decide) ?_
    refine hr.1 _ _ _ _ (by decide +kernel) ⟨_, rfl, by first | rfl | exact b2i_nar | decide +kernel⟩ ?_ ?_
    · rw [hrv]; unfold r_X8_act_127; first | (simp only [if_neg (show ¬ ((M.1 600 54) = 0) from c131)]; done) | (simp only [if_neg (show ¬ ((M.1 600 54) = 0) from c131)]; rfl) | rfl
    · rw [hmm]; unfold w_X8_act_127; first | (simp only [if_neg (show ¬ ((M.1 600 54) = 0) from c131)]; done) | (simp only [if_neg (show ¬ ((M.1 600 54) = 0) from c131)]; rfl) | rfl
noncomputable def r_X8_act_82 (M : Mm) (a1 : Int32) (a2 : Int32) (a3 : Int32) (x4 : Int32) : Int32 := if ¬ a2 = 0 then (if ¬ a2 = (1 : Int32) then (if ¬ a2 = (2 : Int32) then r_X8_act_127 (w_X8_tellsIt M a3) a1 a2 a3 x4 (r_X8_tellsIt M a3) else r_X8_act_127 (w_X8_sharesIt M a3) a1 a2 a3 x4 (r_X8_sharesIt M a3)) else r_X8_act_127 (w_X8_callsIt M a3) a1 a2 a3 x4 (r_X8_callsIt M a3)) else r_X8_act_127 (w_X8_movesIt M a3) a1 a2 a3 x4 (r_X8_movesIt M a3)
noncomputable def w_X8_act_82 (M : Mm) (a1 : Int32) (a2 : Int32) (a3 : Int32) (x4 : Int32) : Mm := if ¬ a2 = 0 then (if ¬ a2 = (1 : Int32) then (if ¬ a2 = (2 : Int32) then w_X8_act_127 (w_X8_tellsIt M a3) a1 a2 a3 x4 (r_X8_tellsIt M a3) else w_X8_act_127 (w_X8_sharesIt M a3) a1 a2 a3 x4 (r_X8_sharesIt M a3)) else w_X8_act_127 (w_X8_callsIt M a3) a1 a2 a3 x4 (r_X8_callsIt M a3)) else w_X8_act_127 (w_X8_movesIt M a3) a1 a2 a3 x4 (r_X8_movesIt M a3)
def p_X8_act_82 (M : Mm) (a1 : Int32) (a2 : Int32) (a3 : Int32) (x4 : Int32) : Prop := (if ¬ a2 = 0 then (if ¬ a2 = (1 : Int32) then (if ¬ a2 = (2 : Int32) then (p_X8_tellsIt M a3) ∧ True else (p_X8_sharesIt M a3) ∧ True) else (p_X8_callsIt M a3) ∧ True) else (p_X8_movesIt M a3) ∧ True)
theorem jn_X8_act_82 {d : Nat} {J : Nat → Lc → List Value → Mm → Prop} {M : Mm} {a1 : Int32} {a2 : Int32} {a3 : Int32} {x4 : Int32}  (g : Good mX8_act.1 mX8_act.2.2.1 mX8_act.2.2.2.1 (d + 8) J) {rv : Option Value} {M1 : Mm} (hr : Ret mX8_act.2.2.1 mX8_act.2.2.2.2 rv M1 J) (hp : p_X8_act_82 M a1 a2 a3 x4) (hrv : rv = some (.int (r_X8_act_82 M a1 a2 a3 x4))) (hmm : M1 = w_X8_act_82 M a1 a2 a3 x4) : J 82 [some (.ref 600), some (.int a1), some (.int a2), some (.int a3), some (.int x4), none] [] M := by
  unfold p_X8_act_82 at hp
  refine j_iload_n g (i := 2) (by decide +kernel) rfl ?_
  refine j_if_ne g (off := 11) (tgt := 94) (by decide +kernel) (by decide) (fun c83 => ?_) (fun c83 => ?_)
  · rw [if_pos (show ¬ a2 = 0 from c83)] at hp
    refine j_iload_n g (i := 2) (by decide +kernel) rfl ?_
    refine j_iconst g (n := 1) (1) (by decide +kernel) rfl ?_
    refine j_icmp_ne g (off := 11) (tgt := 107) (by decide +kernel) (by decide) (fun c96 => ?_) (fun c96 => ?_)
    · rw [if_pos (show ¬ a2 = (1 : Int32) from c96)] at hp
      refine j_iload_n g (i := 2) (by decide +kernel) rfl ?_
      refine j_iconst g (n := 2) (2) (by decide +kernel) rfl ?_
      refine j_icmp_ne g (off := 11) (tgt := 120) (by decide +kernel) (by decide) (fun c109 => ?_) (fun c109 => ?_)
      · rw [if_pos (show ¬ a2 = (2 : Int32) from c109)] at hp
        refine j_aload_n g (i := 0) (by decide +kernel) rfl ?_
        refine j_iload_n g (i := 3) (by decide +kernel) rfl ?_
        obtain ⟨h0, hp⟩ := hp
        refine j_cV1r g v8_460 ⟨rfl, by decide⟩ (by decide +kernel) (by decide +kernel) (Nat.le_of_ble_eq_true rfl) (rnX8_tellsIt h0) ?_
        refine j_istore g (i := 5) (by decide +kernel) (by decide) ?_
        dsimp only [stL, clL, hdL]
        refine jn_X8_act_127  g hr  ?_ ?_ 
        · rw [hrv]; unfold r_X8_act_82; first | (simp only [if_pos (show ¬ a2 = 0 from c83), if_pos (show ¬ a2 = (1 : Int32) from c96), if_pos (show ¬ a2 = (2 : Int32) from c109)]; done) | (simp only [if_pos (show ¬ a2 = 0 from c83), if_pos (show ¬ a2 = (1 : Int32) from c96), if_pos (show ¬ a2 = (2 : Int32) from c109)]; rfl) | rfl
        · rw [hmm]; unfold w_X8_act_82; first | (simp only [if_pos (show ¬ a2 = 0 from c83), if_pos (show ¬ a2 = (1 : Int32) from c96), if_pos (show ¬ a2 = (2 : Int32) from c109)]; done) | (simp only [if_pos (show ¬ a2 = 0 from c83), if_pos (show ¬ a2 = (1 : Int32) from c96), if_pos (show ¬ a2 = (2 : Int32) from c109)]; rfl) | rfl
      · rw [if_neg (show ¬ (¬ a2 = (2 : Int32)) from c109)] at hp
        refine j_aload_n g (i := 0) (by decide +kernel) rfl ?_
        refine j_iload_n g (i := 3) (by decide +kernel) rfl ?_
        obtain ⟨h0, hp⟩ := hp
        refine j_cV1r g v8_457 ⟨rfl, by decide⟩ (by decide +kernel) (by decide +kernel) (Nat.le_of_ble_eq_true rfl) (rnX8_sharesIt h0) ?_
        refine j_goto g (off := 8) (tgt := 125) (by decide +kernel) (by decide) ?_
        refine j_istore g (i := 5) (by decide +kernel) (by decide) ?_
        dsimp only [stL, clL, hdL]
        refine jn_X8_act_127  g hr  ?_ ?_ 
        · rw [hrv]; unfold r_X8_act_82; first | (simp only [if_pos (show ¬ a2 = 0 from c83), if_pos (show ¬ a2 = (1 : Int32) from c96), if_neg (show ¬ (¬ a2 = (2 : Int32)) from c109)]; done) | (simp only [if_pos (show ¬ a2 = 0 from c83), if_pos (show ¬ a2 = (1 : Int32) from c96), if_neg (show ¬ (¬ a2 = (2 : Int32)) from c109)]; rfl) | rfl
        · rw [hmm]; unfold w_X8_act_82; first | (simp only [if_pos (show ¬ a2 = 0 from c83), if_pos (show ¬ a2 = (1 : Int32) from c96), if_neg (show ¬ (¬ a2 = (2 : Int32)) from c109)]; done) | (simp only [if_pos (show ¬ a2 = 0 from c83), if_pos (show ¬ a2 = (1 : Int32) from c96), if_neg (show ¬ (¬ a2 = (2 : Int32)) from c109)]; rfl) | rfl
    · rw [if_neg (show ¬ (¬ a2 = (1 : Int32)) from c96)] at hp
      refine j_aload_n g (i := 0) (by decide +kernel) rfl ?_
      refine j_iload_n g (i := 3) (by decide +kernel) rfl ?_
      obtain ⟨h0, hp⟩ := hp
      refine j_cV1r g v8_451 ⟨rfl, by decide⟩ (by decide +kernel) (by decide +kernel) (Nat.le_of_ble_eq_true rfl) (rnX8_callsIt h0) ?_
      refine j_goto g (off := 21) (tgt := 125) (by decide +kernel) (by decide) ?_
      refine j_istore g (i := 5) (by decide +kernel) (by decide) ?_
      dsimp only [stL, clL, hdL]
      refine jn_X8_act_127  g hr  ?_ ?_ 
      · rw [hrv]; unfold r_X8_act_82; first | (simp only [if_pos (show ¬ a2 = 0 from c83), if_neg (show ¬ (¬ a2 = (1 : Int32)) from c96)]; done) | (simp only [if_pos (show ¬ a2 = 0 from c83), if_neg (show ¬ (¬ a2 = (1 : Int32)) from c96)]; rfl) | rfl
      · rw [hmm]; unfold w_X8_act_82; first | (simp only [if_pos (show ¬ a2 = 0 from c83), if_neg (show ¬ (¬ a2 = (1 : Int32)) from c96)]; done) | (simp only [if_pos (show ¬ a2 = 0 from c83), if_neg (show ¬ (¬ a2 = (1 : Int32)) from c96)]; rfl) | rfl
  · rw [if_neg (show ¬ (¬ a2 = 0) from c83)] at hp
    refine j_aload_n g (i := 0) (by decide +kernel) rfl ?_
    refine j_iload_n g (i := 3) (by decide +kernel) rfl ?_
    obtain ⟨h0, hp⟩ := hp
    refine j_cV1r g v8_436 ⟨rfl, by decide⟩ (by decide +kernel) (by decide +kernel) (Nat.le_of_ble_eq_true rfl) (rnX8_movesIt h0) ?_
    refine j_goto g (off := 34) (tgt := 125) (by decide +kernel) (by decide) ?_
    refine j_istore g (i := 5) (by decide +kernel) (by decide) ?_
    dsimp only [stL, clL, hdL]
    refine jn_X8_act_127  g hr  ?_ ?_ 
    · rw [hrv]; unfold r_X8_act_82; first | (simp only [if_neg (show ¬ (¬ a2 = 0) from c83)]; done) | (simp only [if_neg (show ¬ (¬ a2 = 0) from c83)]; rfl) | rfl
    · rw [hmm]; unfold w_X8_act_82; first | (simp only [if_neg (show ¬ (¬ a2 = 0) from c83)]; done) | (simp only [if_neg (show ¬ (¬ a2 = 0) from c83)]; rfl) | rfl
noncomputable def r_X8_act_44 (M : Mm) (a1 : Int32) (a2 : Int32) (a3 : Int32) (x4 : Int32) : Int32 := r_X8_act_82 (wi (wi (wi (wi M 600 49 x4) 600 50 ((wi M 600 49 x4).1 624 (Int32.toNatClampNeg a1))) 600 51 ((wi (wi M 600 49 x4) 600 50 ((wi M 600 49 x4).1 624 (Int32.toNatClampNeg a1))).1 608 (Int32.toNatClampNeg (((2 : Int32) * ((wi (wi M 600 49 x4) 600 50 ((wi M 600 49 x4).1 624 (Int32.toNatClampNeg a1))).1 600 50)) + 1)))) 600 54 0) a1 a2 a3 x4
noncomputable def w_X8_act_44 (M : Mm) (a1 : Int32) (a2 : Int32) (a3 : Int32) (x4 : Int32) : Mm := w_X8_act_82 (wi (wi (wi (wi M 600 49 x4) 600 50 ((wi M 600 49 x4).1 624 (Int32.toNatClampNeg a1))) 600 51 ((wi (wi M 600 49 x4) 600 50 ((wi M 600 49 x4).1 624 (Int32.toNatClampNeg a1))).1 608 (Int32.toNatClampNeg (((2 : Int32) * ((wi (wi M 600 49 x4) 600 50 ((wi M 600 49 x4).1 624 (Int32.toNatClampNeg a1))).1 600 50)) + 1)))) 600 54 0) a1 a2 a3 x4
def p_X8_act_44 (M : Mm) (a1 : Int32) (a2 : Int32) (a3 : Int32) (x4 : Int32) : Prop := (vp_in a1 4) ∧ (vp_in (((2 : Int32) * ((wi (wi M 600 49 x4) 600 50 ((wi M 600 49 x4).1 624 (Int32.toNatClampNeg a1))).1 600 50)) + 1) 8) ∧ p_X8_act_82 (wi (wi (wi (wi M 600 49 x4) 600 50 ((wi M 600 49 x4).1 624 (Int32.toNatClampNeg a1))) 600 51 ((wi (wi M 600 49 x4) 600 50 ((wi M 600 49 x4).1 624 (Int32.toNatClampNeg a1))).1 608 (Int32.toNatClampNeg (((2 : Int32) * ((wi (wi M 600 49 x4) 600 50 ((wi M 600 49 x4).1 624 (Int32.toNatClampNeg a1))).1 600 50)) + 1)))) 600 54 0) a1 a2 a3 x4
theorem jn_X8_act_44 {d : Nat} {J : Nat → Lc → List Value → Mm → Prop} {M : Mm} {a1 : Int32} {a2 : Int32} {a3 : Int32} {x4 : Int32}  (g : Good mX8_act.1 mX8_act.2.2.1 mX8_act.2.2.2.1 (d + 8) J) {rv : Option Value} {M1 : Mm} (hr : Ret mX8_act.2.2.1 mX8_act.2.2.2.2 rv M1 J) (hp : p_X8_act_44 M a1 a2 a3 x4) (hrv : rv = some (.int (r_X8_act_44 M a1 a2 a3 x4))) (hmm : M1 = w_X8_act_44 M a1 a2 a3 x4) : J 44 [some (.ref 600), some (.int a1), some (.int a2), some (.int a3), some (.int x4), none] [] M := by
  unfold p_X8_act_44 at hp
  refine j_aload_n g (i := 0) (by decide +kernel) rfl ?_
  refine j_iload g (i := 4) (by decide +kernel) rfl ?_
  refine j_pI g f8_430 (fun q h => by cases h; rfl) (by decide +kernel) (by decide +kernel) (by decide +kernel) ?_
  refine j_aload_n g (i := 0) (by decide +kernel) rfl ?_
  refine j_aload_n g (i := 0) (by decide +kernel) rfl ?_
  refine j_gA g (b := 624) f8_80 (by decide +kernel) (by decide +kernel) (by decide +kernel) (by decide +kernel) ?_
  refine j_iload_n g (i := 1) (by decide +kernel) rfl ?_
  obtain ⟨h0, hp⟩ := hp
  refine j_ia g 4 (by decide +kernel) (by decide +kernel) (by decide +kernel) h0 ?_
  refine j_pI g f8_424 (fun q h => by cases h; rfl) (by decide +kernel) (by decide +kernel) (by decide +kernel) ?_
  refine j_aload_n g (i := 0) (by decide +kernel) rfl ?_
  refine j_aload_n g (i := 0) (by decide +kernel) rfl ?_
  refine j_gA g (b := 608) f8_31 (by decide +kernel) (by decide +kernel) (by decide +kernel) (by decide +kernel) ?_
  refine j_iconst g (n := 2) (2) (by decide +kernel) rfl ?_
  refine j_aload_n g (i := 0) (by decide +kernel) rfl ?_
  refine j_gI g f8_424 (by decide +kernel) (by decide +kernel) (by decide +kernel) ?_
  refine j_imul g (by decide +kernel) ?_
  refine j_iconst g (n := 1) (1) (by decide +kernel) rfl ?_
  refine j_iadd g (by decide +kernel) ?_
  obtain ⟨h0, hp⟩ := hp
  refine j_ia g 8 (by decide +kernel) (by decide +kernel) (by decide +kernel) h0 ?_
  refine j_pI g f8_442 (fun q h => by cases h; rfl) (by decide +kernel) (by decide +kernel) (by decide +kernel) ?_
  refine j_aload_n g (i := 0) (by decide +kernel) rfl ?_
  refine j_iconst g (n := 0) (0) (by decide +kernel) rfl ?_
  refine j_pZ g f8_445 (fun q h => by cases h; rfl) (by decide +kernel) (by decide +kernel) (by decide +kernel) (by decide) ?_
  refine jn_X8_act_82  g hr hp ?_ ?_ 
  · rw [hrv]; unfold r_X8_act_44; rfl
  · rw [hmm]; unfold w_X8_act_44; rfl
noncomputable def r_X8_act_23 (M : Mm) (a1 : Int32) (a2 : Int32) (a3 : Int32) (x4 : Int32) : Int32 := if (b2i ((0 : Int32) ≤ a2 ∧ a2 ≤ (3 : Int32))) = 0 then 0 else if ¬ (b2i ((1 : Int32) ≤ x4 ∧ x4 ≤ (5 : Int32))) = 0 then r_X8_act_44 M a1 a2 a3 x4 else 0
noncomputable def w_X8_act_23 (M : Mm) (a1 : Int32) (a2 : Int32) (a3 : Int32) (x4 : Int32) : Mm := if (b2i ((0 : Int32) ≤ a2 ∧ a2 ≤ (3 : Int32))) = 0 then M else if ¬ (b2i ((1 : Int32) ≤ x4 ∧ x4 ≤ (5 : Int32))) = 0 then w_X8_act_44 M a1 a2 a3 x4 else M
def p_X8_act_23 (M : Mm) (a1 : Int32) (a2 : Int32) (a3 : Int32) (x4 : Int32) : Prop := (if (b2i ((0 : Int32) ≤ a2 ∧ a2 ≤ (3 : Int32))) = 0 then True else (if ¬ (b2i ((1 : Int32) ≤ x4 ∧ x4 ≤ (5 : Int32))) = 0 then p_X8_act_44 M a1 a2 a3 x4 else True))
theorem jn_X8_act_23 {d : Nat} {J : Nat → Lc → List Value → Mm → Prop} {M : Mm} {a1 : Int32} {a2 : Int32} {a3 : Int32} {x4 : Int32}  (g : Good mX8_act.1 mX8_act.2.2.1 mX8_act.2.2.2.1 (d + 8) J) {rv : Option Value} {M1 : Mm} (hr : Ret mX8_act.2.2.1 mX8_act.2.2.2.2 rv M1 J) (hp : p_X8_act_23 M a1 a2 a3 x4) (hrv : rv = some (.int (r_X8_act_23 M a1 a2 a3 x4))) (hmm : M1 = w_X8_act_23 M a1 a2 a3 x4) : J 23 [some (.ref 600), some (.int a1), some (.int a2), some (.int a3), some (.int x4), none] [] M := by
  unfold p_X8_act_23 at hp
  refine j_iload_n g (i := 2) (by decide +kernel) rfl ?_
  refine j_iconst g (n := 0) (0) (by decide +kernel) rfl ?_
  refine j_iconst g (n := 3) (3) (by decide +kernel) rfl ?_
  refine j_cS3r g s8_95 (by decide +kernel) (Nat.le_of_ble_eq_true rfl) (rnX8_in) ?_
  refine j_if_eq g (off := 13) (tgt := 42) (by decide +kernel) (by decide) (fun c29 => ?_) (fun c29 => ?_)
  · rw [if_pos (show (b2i ((0 : Int32) ≤ a2 ∧ a2 ≤ (3 : Int32))) = 0 from c29)] at hp
    refine j_iconst g (n := 0) (0) (by decide +kernel) rfl ?_
    refine hr.1 _ _ _ _ (by decide +kernel) ⟨_, rfl, by first | rfl | exact b2i_nar | decide +kernel⟩ ?_ ?_
    · rw [hrv]; unfold r_X8_act_23; first | (simp only [if_pos (show (b2i ((0 : Int32) ≤ a2 ∧ a2 ≤ (3 : Int32))) = 0 from c29)]; done) | (simp only [if_pos (show (b2i ((0 : Int32) ≤ a2 ∧ a2 ≤ (3 : Int32))) = 0 from c29)]; rfl) | rfl
    · rw [hmm]; unfold w_X8_act_23; first | (simp only [if_pos (show (b2i ((0 : Int32) ≤ a2 ∧ a2 ≤ (3 : Int32))) = 0 from c29)]; done) | (simp only [if_pos (show (b2i ((0 : Int32) ≤ a2 ∧ a2 ≤ (3 : Int32))) = 0 from c29)]; rfl) | rfl
  · rw [if_neg (show ¬ ((b2i ((0 : Int32) ≤ a2 ∧ a2 ≤ (3 : Int32))) = 0) from c29)] at hp
    refine j_iload g (i := 4) (by decide +kernel) rfl ?_
    refine j_iconst g (n := 1) (1) (by decide +kernel) rfl ?_
    refine j_iconst g (n := 5) (5) (by decide +kernel) rfl ?_
    refine j_cS3r g s8_95 (by decide +kernel) (Nat.le_of_ble_eq_true rfl) (rnX8_in) ?_
    refine j_if_ne g (off := 5) (tgt := 44) (by decide +kernel) (by decide) (fun c39 => ?_) (fun c39 => ?_)
    · rw [if_pos (show ¬ (b2i ((1 : Int32) ≤ x4 ∧ x4 ≤ (5 : Int32))) = 0 from c39)] at hp
      refine jn_X8_act_44  g hr hp ?_ ?_ 
      · rw [hrv]; unfold r_X8_act_23; first | (simp only [if_neg (show ¬ ((b2i ((0 : Int32) ≤ a2 ∧ a2 ≤ (3 : Int32))) = 0) from c29), if_pos (show ¬ (b2i ((1 : Int32) ≤ x4 ∧ x4 ≤ (5 : Int32))) = 0 from c39)]; done) | (simp only [if_neg (show ¬ ((b2i ((0 : Int32) ≤ a2 ∧ a2 ≤ (3 : Int32))) = 0) from c29), if_pos (show ¬ (b2i ((1 : Int32) ≤ x4 ∧ x4 ≤ (5 : Int32))) = 0 from c39)]; rfl) | rfl
      · rw [hmm]; unfold w_X8_act_23; first | (simp only [if_neg (show ¬ ((b2i ((0 : Int32) ≤ a2 ∧ a2 ≤ (3 : Int32))) = 0) from c29), if_pos (show ¬ (b2i ((1 : Int32) ≤ x4 ∧ x4 ≤ (5 : Int32))) = 0 from c39)]; done) | (simp only [if_neg (show ¬ ((b2i ((0 : Int32) ≤ a2 ∧ a2 ≤ (3 : Int32))) = 0) from c29), if_pos (show ¬ (b2i ((1 : Int32) ≤ x4 ∧ x4 ≤ (5 : Int32))) = 0 from c39)]; rfl) | rfl
    · rw [if_neg (show ¬ (¬ (b2i ((1 : Int32) ≤ x4 ∧ x4 ≤ (5 : Int32))) = 0) from c39)] at hp
      refine j_iconst g (n := 0) (0) (by decide +kernel) rfl ?_
      refine hr.1 _ _ _ _ (by decide +kernel) ⟨_, rfl, by first | rfl | exact b2i_nar | decide +kernel⟩ ?_ ?_
      · rw [hrv]; unfold r_X8_act_23; first | (simp only [if_neg (show ¬ ((b2i ((0 : Int32) ≤ a2 ∧ a2 ≤ (3 : Int32))) = 0) from c29), if_neg (show ¬ (¬ (b2i ((1 : Int32) ≤ x4 ∧ x4 ≤ (5 : Int32))) = 0) from c39)]; done) | (simp only [if_neg (show ¬ ((b2i ((0 : Int32) ≤ a2 ∧ a2 ≤ (3 : Int32))) = 0) from c29), if_neg (show ¬ (¬ (b2i ((1 : Int32) ≤ x4 ∧ x4 ≤ (5 : Int32))) = 0) from c39)]; rfl) | rfl
      · rw [hmm]; unfold w_X8_act_23; first | (simp only [if_neg (show ¬ ((b2i ((0 : Int32) ≤ a2 ∧ a2 ≤ (3 : Int32))) = 0) from c29), if_neg (show ¬ (¬ (b2i ((1 : Int32) ≤ x4 ∧ x4 ≤ (5 : Int32))) = 0) from c39)]; done) | (simp only [if_neg (show ¬ ((b2i ((0 : Int32) ≤ a2 ∧ a2 ≤ (3 : Int32))) = 0) from c29), if_neg (show ¬ (¬ (b2i ((1 : Int32) ≤ x4 ∧ x4 ≤ (5 : Int32))) = 0) from c39)]; rfl) | rfl
noncomputable def r_X8_act (M : Mm) (a1 : Int32) (a2 : Int32) (a3 : Int32) : Int32 := if (b2i (0 ≤ a1 ∧ a1 ≤ 3)) = 0 then r_X8_act_23 (wi M 600 53 0) a1 a2 a3 (-1) else r_X8_act_23 (wi M 600 53 0) a1 a2 a3 (r_X8_kindOn (wi M 600 53 0) a1)
noncomputable def w_X8_act (M : Mm) (a1 : Int32) (a2 : Int32) (a3 : Int32) : Mm := if (b2i (0 ≤ a1 ∧ a1 ≤ 3)) = 0 then w_X8_act_23 (wi M 600 53 0) a1 a2 a3 (-1) else w_X8_act_23 (wi M 600 53 0) a1 a2 a3 (r_X8_kindOn (wi M 600 53 0) a1)
def p_X8_act (M : Mm) (a1 : Int32) (a2 : Int32) (a3 : Int32) : Prop := (if (b2i (0 ≤ a1 ∧ a1 ≤ 3)) = 0 then p_X8_act_23 (wi M 600 53 0) a1 a2 a3 (-1) else (p_X8_kindOn (wi M 600 53 0) a1) ∧ p_X8_act_23 (wi M 600 53 0) a1 a2 a3 (r_X8_kindOn (wi M 600 53 0) a1))
set_option maxRecDepth 20000 in
theorem rnX8_act {d : Nat} {M : Mm} {a1 : Int32} {a2 : Int32} {a3 : Int32}  (hp : p_X8_act M a1 a2 a3) : Rn (d + 8) mX8_act [.ref 600, .int a1, .int a2, .int a3] M (some (.int (r_X8_act M a1 a2 a3))) (w_X8_act M a1 a2 a3) := by
  refine Rn.of [some (.ref 600), some (.int a1), some (.int a2), some (.int a3), none, none] (by decide +kernel) rfl (Nat.le_of_ble_eq_true rfl) rfl (fun J g hr => ?_)
  unfold p_X8_act at hp
  refine j_aload_n g (i := 0) (by decide +kernel) rfl ?_
  refine j_iconst g (n := 0) (0) (by decide +kernel) rfl ?_
  refine j_pI g f8_418 (fun q h => by cases h; rfl) (by decide +kernel) (by decide +kernel) (by decide +kernel) ?_
  refine j_iload_n g (i := 1) (by decide +kernel) rfl ?_
  refine j_cS1r g s8_401 (by decide +kernel) (Nat.le_of_ble_eq_true rfl) (rnX8_isShelf) ?_
  refine j_if_eq g (off := 11) (tgt := 20) (by decide +kernel) (by decide) (fun c9 => ?_) (fun c9 => ?_)
  · rw [if_pos (show (b2i (0 ≤ a1 ∧ a1 ≤ 3)) = 0 from c9)] at hp
    refine j_iconst g (n := -1) (-1) (by decide +kernel) rfl ?_
    refine j_istore g (i := 4) (by decide +kernel) (by decide) ?_
    dsimp only [stL, clL, hdL]
    refine jn_X8_act_23  g hr hp ?_ ?_ 
    · unfold r_X8_act; first | (simp only [if_pos (show (b2i (0 ≤ a1 ∧ a1 ≤ 3)) = 0 from c9)]; done) | (simp only [if_pos (show (b2i (0 ≤ a1 ∧ a1 ≤ 3)) = 0 from c9)]; rfl) | rfl
    · unfold w_X8_act; first | (simp only [if_pos (show (b2i (0 ≤ a1 ∧ a1 ≤ 3)) = 0 from c9)]; done) | (simp only [if_pos (show (b2i (0 ≤ a1 ∧ a1 ≤ 3)) = 0 from c9)]; rfl) | rfl
  · rw [if_neg (show ¬ ((b2i (0 ≤ a1 ∧ a1 ≤ 3)) = 0) from c9)] at hp
    refine j_aload_n g (i := 0) (by decide +kernel) rfl ?_
    refine j_iload_n g (i := 1) (by decide +kernel) rfl ?_
    obtain ⟨h0, hp⟩ := hp
    refine j_cV1r g v8_412 ⟨rfl, by decide⟩ (by decide +kernel) (by decide +kernel) (Nat.le_of_ble_eq_true rfl) (rnX8_kindOn h0) ?_
    refine j_goto g (off := 4) (tgt := 21) (by decide +kernel) (by decide) ?_
    refine j_istore g (i := 4) (by decide +kernel) (by decide) ?_
    dsimp only [stL, clL, hdL]
    refine jn_X8_act_23  g hr hp ?_ ?_ 
    · unfold r_X8_act; first | (simp only [if_neg (show ¬ ((b2i (0 ≤ a1 ∧ a1 ≤ 3)) = 0) from c9)]; done) | (simp only [if_neg (show ¬ ((b2i (0 ≤ a1 ∧ a1 ≤ 3)) = 0) from c9)]; rfl) | rfl
    · unfold w_X8_act; first | (simp only [if_neg (show ¬ ((b2i (0 ≤ a1 ∧ a1 ≤ 3)) = 0) from c9)]; done) | (simp only [if_neg (show ¬ ((b2i (0 ≤ a1 ∧ a1 ≤ 3)) = 0) from c9)]; rfl) | rfl
