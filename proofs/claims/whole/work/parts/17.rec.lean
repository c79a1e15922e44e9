noncomputable def r_X0_movesAs_0 (M : Mm) (a2 : Int32) : Int32 := a2 + ((w_X0_begin M (10 : Int32)).1 520 3)
noncomputable def w_X0_movesAs_0 (M : Mm) (a2 : Int32) : Mm := (w_X0_begin M (10 : Int32))
def p_X0_movesAs_0 (M : Mm) (a2 : Int32) : Prop := (p_X0_begin M (10 : Int32)) ∧ True
set_option maxRecDepth 20000 in
theorem rnX0_movesAs_0 {d : Nat} {M : Mm} {a2 : Int32}  (hp : p_X0_movesAs_0 M a2) : Rn (d + 1) mX0_movesAs [.ref 520, .int 0, .int a2] M (some (.int (r_X0_movesAs_0 M a2))) (w_X0_movesAs_0 M a2) := by
  refine Rn.of [some (.ref 520), some (.int 0), some (.int a2)] (by decide +kernel) rfl (Nat.le_of_ble_eq_true rfl) rfl (fun J g hr => ?_)
  unfold p_X0_movesAs_0 at hp
  refine j_iload_n g (i := 1) (by decide +kernel) rfl ?_
  have dsw1 : decode cX0_movesAs 1 = .ok (.tableswitch 75 2 4 #[27, 42, 57], 27) := by decide +kernel
  refine j_tableOut g (tgt := 76) dsw1 (by decide) (by decide) ?_
  refine j_aload_n g (i := 0) (by decide +kernel) rfl ?_
  refine j_bipush g (n := 10) (10) (by decide +kernel) (by decide +kernel) ?_
  obtain ⟨h0, hp⟩ := hp
  refine j_cV1v g v0_48 ⟨rfl, by decide⟩ (by decide +kernel) (by decide +kernel) (Nat.le_of_ble_eq_true rfl) (rnX0_begin h0) ?_
  refine j_iload_n g (i := 2) (by decide +kernel) rfl ?_
  refine j_aload_n g (i := 0) (by decide +kernel) rfl ?_
  refine j_gI g f0_23 (by decide +kernel) (by decide +kernel) (by decide +kernel) ?_
  refine j_iadd g (by decide +kernel) ?_
  refine hr.1 _ _ _ _ (by decide +kernel) ⟨_, rfl, by first | rfl | exact b2i_nar | decide +kernel⟩ ?_ ?_
  · unfold r_X0_movesAs_0; rfl
  · unfold w_X0_movesAs_0; rfl
noncomputable def r_X0_movesAs_2 (M : Mm) (a2 : Int32) : Int32 := (r_X0_movesAs_0 (w_X0_begin M (30 : Int32)) a2) * 3
noncomputable def w_X0_movesAs_2 (M : Mm) (a2 : Int32) : Mm := (w_X0_movesAs_0 (w_X0_begin M (30 : Int32)) a2)
def p_X0_movesAs_2 (M : Mm) (a2 : Int32) : Prop := (p_X0_begin M (30 : Int32)) ∧ (p_X0_movesAs_0 (w_X0_begin M (30 : Int32)) a2) ∧ True
set_option maxRecDepth 20000 in
theorem rnX0_movesAs_2 {d : Nat} {M : Mm} {a2 : Int32}  (hp : p_X0_movesAs_2 M a2) : Rn (d + 2) mX0_movesAs [.ref 520, .int 2, .int a2] M (some (.int (r_X0_movesAs_2 M a2))) (w_X0_movesAs_2 M a2) := by
  refine Rn.of [some (.ref 520), some (.int 2), some (.int a2)] (by decide +kernel) rfl (Nat.le_of_ble_eq_true rfl) rfl (fun J g hr => ?_)
  unfold p_X0_movesAs_2 at hp
  refine j_iload_n g (i := 1) (by decide +kernel) rfl ?_
  have dsw1 : decode cX0_movesAs 1 = .ok (.tableswitch 75 2 4 #[27, 42, 57], 27) := by decide +kernel
  refine j_tableIn g (off := 27) (tgt := 28) dsw1 (by decide) (by decide) (by decide) (by decide) ?_
  refine j_aload_n g (i := 0) (by decide +kernel) rfl ?_
  refine j_bipush g (n := 30) (30) (by decide +kernel) (by decide +kernel) ?_
  obtain ⟨h0, hp⟩ := hp
  refine j_cV1v g v0_48 ⟨rfl, by decide⟩ (by decide +kernel) (by decide +kernel) (Nat.le_of_ble_eq_true rfl) (rnX0_begin h0) ?_
  refine j_aload_n g (i := 0) (by decide +kernel) rfl ?_
  refine j_iconst g (n := 0) (0) (by decide +kernel) rfl ?_
  refine j_iload_n g (i := 2) (by decide +kernel) rfl ?_
  obtain ⟨h0, hp⟩ := hp
  refine j_cV2r g v0_36 ⟨rfl, by decide⟩ (by decide +kernel) (by decide +kernel) (Nat.le_of_ble_eq_true rfl) (rnX0_movesAs_0 h0) ?_
  refine j_iconst g (n := 3) (3) (by decide +kernel) rfl ?_
  refine j_imul g (by decide +kernel) ?_
  refine hr.1 _ _ _ _ (by decide +kernel) ⟨_, rfl, by first | rfl | exact b2i_nar | decide +kernel⟩ ?_ ?_
  · unfold r_X0_movesAs_2; rfl
  · unfold w_X0_movesAs_2; rfl
noncomputable def r_X0_movesAs (M : Mm) (a1 : Int32) (a2 : Int32) : Int32 := if a1 = 2 then (r_X0_movesAs_0 (w_X0_begin M (30 : Int32)) a2) * 3 else if a1 = 3 then (0 : Int32) - (r_X0_movesAs_2 (w_X0_begin M (40 : Int32)) a2) else if a1 = 4 then (r_X0_movesAs_0 (w_X0_begin M (51 : Int32)) a2) - ((w_X0_movesAs_0 (w_X0_begin M (51 : Int32)) a2).1 520 3) else a2 + ((w_X0_begin M (10 : Int32)).1 520 3)
noncomputable def w_X0_movesAs (M : Mm) (a1 : Int32) (a2 : Int32) : Mm := if a1 = 2 then (w_X0_movesAs_0 (w_X0_begin M (30 : Int32)) a2) else if a1 = 3 then (w_X0_movesAs_2 (w_X0_begin M (40 : Int32)) a2) else if a1 = 4 then (w_X0_movesAs_0 (w_X0_begin M (51 : Int32)) a2) else (w_X0_begin M (10 : Int32))
def p_X0_movesAs (M : Mm) (a1 : Int32) (a2 : Int32) : Prop := (if a1 = 2 then (p_X0_begin M (30 : Int32)) ∧ (p_X0_movesAs_0 (w_X0_begin M (30 : Int32)) a2) ∧ True else if a1 = 3 then (p_X0_begin M (40 : Int32)) ∧ (p_X0_movesAs_2 (w_X0_begin M (40 : Int32)) a2) ∧ True else if a1 = 4 then (p_X0_begin M (51 : Int32)) ∧ (p_X0_movesAs_0 (w_X0_begin M (51 : Int32)) a2) ∧ True else (p_X0_begin M (10 : Int32)) ∧ True)
set_option maxRecDepth 20000 in
theorem rnX0_movesAs {d : Nat} {M : Mm} {a1 : Int32} {a2 : Int32}  (hp : p_X0_movesAs M a1 a2) : Rn (d + 3) mX0_movesAs [.ref 520, .int a1, .int a2] M (some (.int (r_X0_movesAs M a1 a2))) (w_X0_movesAs M a1 a2) := by
  refine Rn.of [some (.ref 520), some (.int a1), some (.int a2)] (by decide +kernel) rfl (Nat.le_of_ble_eq_true rfl) rfl (fun J g hr => ?_)
  unfold p_X0_movesAs at hp
  refine j_iload_n g (i := 1) (by decide +kernel) rfl ?_
  have dsw1 : decode cX0_movesAs 1 = .ok (.tableswitch 75 2 4 #[27, 42, 57], 27) := by decide +kernel
  by_cases e1_0 : a1 = 2
  · refine j_tableIn g (off := 27) (tgt := 28) dsw1 (by rw [e1_0]; decide) (by rw [e1_0]; decide) (by rw [e1_0]; decide) (by decide) ?_
    rw [if_pos e1_0] at hp
    refine j_aload_n g (i := 0) (by decide +kernel) rfl ?_
    refine j_bipush g (n := 30) (30) (by decide +kernel) (by decide +kernel) ?_
    obtain ⟨h0, hp⟩ := hp
    refine j_cV1v g v0_48 ⟨rfl, by decide⟩ (by decide +kernel) (by decide +kernel) (Nat.le_of_ble_eq_true rfl) (rnX0_begin h0) ?_
    refine j_aload_n g (i := 0) (by decide +kernel) rfl ?_
    refine j_iconst g (n := 0) (0) (by decide +kernel) rfl ?_
    refine j_iload_n g (i := 2) (by decide +kernel) rfl ?_
    obtain ⟨h0, hp⟩ := hp
    refine j_cV2r g v0_36 ⟨rfl, by decide⟩ (by decide +kernel) (by decide +kernel) (Nat.le_of_ble_eq_true rfl) (rnX0_movesAs_0 h0) ?_
    refine j_iconst g (n := 3) (3) (by decide +kernel) rfl ?_
    refine j_imul g (by decide +kernel) ?_
    refine hr.1 _ _ _ _ (by decide +kernel) ⟨_, rfl, by first | rfl | exact b2i_nar | rfl⟩ ?_ ?_
    · unfold r_X0_movesAs; first | (simp only [if_pos e1_0]; done) | (simp only [if_pos e1_0]; rfl) | rfl
    · unfold w_X0_movesAs; first | (simp only [if_pos e1_0]; done) | (simp only [if_pos e1_0]; rfl) | rfl
  by_cases e1_1 : a1 = 3
  · refine j_tableIn g (off := 42) (tgt := 43) dsw1 (by rw [e1_1]; decide) (by rw [e1_1]; decide) (by rw [e1_1]; decide) (by decide) ?_
    rw [if_neg e1_0, if_pos e1_1] at hp
    refine j_aload_n g (i := 0) (by decide +kernel) rfl ?_
    refine j_bipush g (n := 40) (40) (by decide +kernel) (by decide +kernel) ?_
    obtain ⟨h0, hp⟩ := hp
    refine j_cV1v g v0_48 ⟨rfl, by decide⟩ (by decide +kernel) (by decide +kernel) (Nat.le_of_ble_eq_true rfl) (rnX0_begin h0) ?_
    refine j_iconst g (n := 0) (0) (by decide +kernel) rfl ?_
    refine j_aload_n g (i := 0) (by decide +kernel) rfl ?_
    refine j_iconst g (n := 2) (2) (by decide +kernel) rfl ?_
    refine j_iload_n g (i := 2) (by decide +kernel) rfl ?_
    obtain ⟨h0, hp⟩ := hp
    refine j_cV2r g v0_36 ⟨rfl, by decide⟩ (by decide +kernel) (by decide +kernel) (Nat.le_of_ble_eq_true rfl) (rnX0_movesAs_2 h0) ?_
    refine j_isub g (by decide +kernel) ?_
    refine hr.1 _ _ _ _ (by decide +kernel) ⟨_, rfl, by first | rfl | exact b2i_nar | rfl⟩ ?_ ?_
    · unfold r_X0_movesAs; first | (simp only [if_neg e1_0, if_pos e1_1]; done) | (simp only [if_neg e1_0, if_pos e1_1]; rfl) | rfl
    · unfold w_X0_movesAs; first | (simp only [if_neg e1_0, if_pos e1_1]; done) | (simp only [if_neg e1_0, if_pos e1_1]; rfl) | rfl
  by_cases e1_2 : a1 = 4
  · refine j_tableIn g (off := 57) (tgt := 58) dsw1 (by rw [e1_2]; decide) (by rw [e1_2]; decide) (by rw [e1_2]; decide) (by decide) ?_
    rw [if_neg e1_0, if_neg e1_1, if_pos e1_2] at hp
    refine j_aload_n g (i := 0) (by decide +kernel) rfl ?_
    refine j_bipush g (n := 51) (51) (by decide +kernel) (by decide +kernel) ?_
    obtain ⟨h0, hp⟩ := hp
    refine j_cV1v g v0_48 ⟨rfl, by decide⟩ (by decide +kernel) (by decide +kernel) (Nat.le_of_ble_eq_true rfl) (rnX0_begin h0) ?_
    refine j_aload_n g (i := 0) (by decide +kernel) rfl ?_
    refine j_iconst g (n := 0) (0) (by decide +kernel) rfl ?_
    refine j_iload_n g (i := 2) (by decide +kernel) rfl ?_
    obtain ⟨h0, hp⟩ := hp
    refine j_cV2r g v0_36 ⟨rfl, by decide⟩ (by decide +kernel) (by decide +kernel) (Nat.le_of_ble_eq_true rfl) (rnX0_movesAs_0 h0) ?_
    refine j_aload_n g (i := 0) (by decide +kernel) rfl ?_
    refine j_gI g f0_23 (by decide +kernel) (by decide +kernel) (by decide +kernel) ?_
    refine j_isub g (by decide +kernel) ?_
    refine hr.1 _ _ _ _ (by decide +kernel) ⟨_, rfl, by first | rfl | exact b2i_nar | rfl⟩ ?_ ?_
    · unfold r_X0_movesAs; first | (simp only [if_neg e1_0, if_neg e1_1, if_pos e1_2]; done) | (simp only [if_neg e1_0, if_neg e1_1, if_pos e1_2]; rfl) | rfl
    · unfold w_X0_movesAs; first | (simp only [if_neg e1_0, if_neg e1_1, if_pos e1_2]; done) | (simp only [if_neg e1_0, if_neg e1_1, if_pos e1_2]; rfl) | rfl
  rw [if_neg e1_0, if_neg e1_1, if_neg e1_2] at hp
  refine j_tableOut g (tgt := 76) dsw1 (by simp only [← Int32.toInt_inj, Int32.reduceToInt, im1, im2, im3] at e1_0 e1_1 e1_2; omega) (by decide) ?_
  refine j_aload_n g (i := 0) (by decide +kernel) rfl ?_
  refine j_bipush g (n := 10) (10) (by decide +kernel) (by decide +kernel) ?_
  obtain ⟨h0, hp⟩ := hp
  refine j_cV1v g v0_48 ⟨rfl, by decide⟩ (by decide +kernel) (by decide +kernel) (Nat.le_of_ble_eq_true rfl) (rnX0_begin h0) ?_
  refine j_iload_n g (i := 2) (by decide +kernel) rfl ?_
  refine j_aload_n g (i := 0) (by decide +kernel) rfl ?_
  refine j_gI g f0_23 (by decide +kernel) (by decide +kernel) (by decide +kernel) ?_
  refine j_iadd g (by decide +kernel) ?_
  refine hr.1 _ _ _ _ (by decide +kernel) ⟨_, rfl, by first | rfl | exact b2i_nar | rfl⟩ ?_ ?_
  · unfold r_X0_movesAs; first | (simp only [if_neg e1_0, if_neg e1_1, if_neg e1_2]; done) | (simp only [if_neg e1_0, if_neg e1_1, if_neg e1_2]; rfl) | rfl
  · unfold w_X0_movesAs; first | (simp only [if_neg e1_0, if_neg e1_1, if_neg e1_2]; done) | (simp only [if_neg e1_0, if_neg e1_1, if_neg e1_2]; rfl) | rfl
noncomputable def r_X0_callsAs_0 (M : Mm) (a2 : Int32) : Int32 := (r_X0_movesAs (w_X0_begin M (11 : Int32)) ((w_X0_begin M (11 : Int32)).1 520 4) a2) * 2
noncomputable def w_X0_callsAs_0 (M : Mm) (a2 : Int32) : Mm := (w_X0_movesAs (w_X0_begin M (11 : Int32)) ((w_X0_begin M (11 : Int32)).1 520 4) a2)
def p_X0_callsAs_0 (M : Mm) (a2 : Int32) : Prop := (p_X0_begin M (11 : Int32)) ∧ (p_X0_movesAs (w_X0_begin M (11 : Int32)) ((w_X0_begin M (11 : Int32)).1 520 4) a2) ∧ True
set_option maxRecDepth 20000 in
theorem rnX0_callsAs_0 {d : Nat} {M : Mm} {a2 : Int32}  (hp : p_X0_callsAs_0 M a2) : Rn (d + 4) mX0_callsAs [.ref 520, .int 0, .int a2] M (some (.int (r_X0_callsAs_0 M a2))) (w_X0_callsAs_0 M a2) := by
  refine Rn.of [some (.ref 520), some (.int 0), some (.int a2)] (by decide +kernel) rfl (Nat.le_of_ble_eq_true rfl) rfl (fun J g hr => ?_)
  unfold p_X0_callsAs_0 at hp
  refine j_iload_n g (i := 1) (by decide +kernel) rfl ?_
  have dsw1 : decode cX0_callsAs 1 = .ok (.tableswitch 75 1 4 #[31, 75, 49, 31], 31) := by decide +kernel
  refine j_tableOut g (tgt := 76) dsw1 (by decide) (by decide) ?_
  refine j_aload_n g (i := 0) (by decide +kernel) rfl ?_
  refine j_bipush g (n := 11) (11) (by decide +kernel) (by decide +kernel) ?_
  obtain ⟨h0, hp⟩ := hp
  refine j_cV1v g v0_48 ⟨rfl, by decide⟩ (by decide +kernel) (by decide +kernel) (Nat.le_of_ble_eq_true rfl) (rnX0_begin h0) ?_
  refine j_aload_n g (i := 0) (by decide +kernel) rfl ?_
  refine j_aload_n g (i := 0) (by decide +kernel) rfl ?_
  refine j_gI g f0_26 (by decide +kernel) (by decide +kernel) (by decide +kernel) ?_
  refine j_iload_n g (i := 2) (by decide +kernel) rfl ?_
  obtain ⟨h0, hp⟩ := hp
  refine j_cV2r g v0_36 ⟨rfl, by decide⟩ (by decide +kernel) (by decide +kernel) (Nat.le_of_ble_eq_true rfl) (rnX0_movesAs h0) ?_
  refine j_iconst g (n := 2) (2) (by decide +kernel) rfl ?_
  refine j_imul g (by decide +kernel) ?_
  refine hr.1 _ _ _ _ (by decide +kernel) ⟨_, rfl, by first | rfl | exact b2i_nar | decide +kernel⟩ ?_ ?_
  · unfold r_X0_callsAs_0; rfl
  · unfold w_X0_callsAs_0; rfl
noncomputable def r_X0_callsAs (M : Mm) (a1 : Int32) (a2 : Int32) : Int32 := if a1 = 1 then (r_X0_callsAs_0 (w_X0_begin M (20 : Int32)) a2) - ((w_X0_callsAs_0 (w_X0_begin M (20 : Int32)) a2).1 520 5) else if a1 = 2 then (r_X0_movesAs (w_X0_begin M (11 : Int32)) ((w_X0_begin M (11 : Int32)).1 520 4) a2) * 2 else if a1 = 3 then (r_X0_callsAs_0 (w_X0_begin M (41 : Int32)) a2) + (r_X0_movesAs (w_X0_callsAs_0 (w_X0_begin M (41 : Int32)) a2) ((w_X0_callsAs_0 (w_X0_begin M (41 : Int32)) a2).1 520 4) ((w_X0_callsAs_0 (w_X0_begin M (41 : Int32)) a2).1 520 3)) else if a1 = 4 then (r_X0_callsAs_0 (w_X0_begin M (20 : Int32)) a2) - ((w_X0_callsAs_0 (w_X0_begin M (20 : Int32)) a2).1 520 5) else (r_X0_movesAs (w_X0_begin M (11 : Int32)) ((w_X0_begin M (11 : Int32)).1 520 4) a2) * 2
noncomputable def w_X0_callsAs (M : Mm) (a1 : Int32) (a2 : Int32) : Mm := if a1 = 1 then (w_X0_callsAs_0 (w_X0_begin M (20 : Int32)) a2) else if a1 = 2 then (w_X0_movesAs (w_X0_begin M (11 : Int32)) ((w_X0_begin M (11 : Int32)).1 520 4) a2) else if a1 = 3 then (w_X0_movesAs (w_X0_callsAs_0 (w_X0_begin M (41 : Int32)) a2) ((w_X0_callsAs_0 (w_X0_begin M (41 : Int32)) a2).1 520 4) ((w_X0_callsAs_0 (w_X0_begin M (41 : Int32)) a2).1 520 3)) else if a1 = 4 then (w_X0_callsAs_0 (w_X0_begin M (20 : Int32)) a2) else (w_X0_movesAs (w_X0_begin M (11 : Int32)) ((w_X0_begin M (11 : Int32)).1 520 4) a2)
def p_X0_callsAs (M : Mm) (a1 : Int32) (a2 : Int32) : Prop := (if a1 = 1 then (p_X0_begin M (20 : Int32)) ∧ (p_X0_callsAs_0 (w_X0_begin M (20 : Int32)) a2) ∧ True else if a1 = 2 then (p_X0_begin M (11 : Int32)) ∧ (p_X0_movesAs (w_X0_begin M (11 : Int32)) ((w_X0_begin M (11 : Int32)).1 520 4) a2) ∧ True else if a1 = 3 then (p_X0_begin M (41 : Int32)) ∧ (p_X0_callsAs_0 (w_X0_begin M (41 : Int32)) a2) ∧ (p_X0_movesAs (w_X0_callsAs_0 (w_X0_begin M (41 : Int32)) a2) ((w_X0_callsAs_0 (w_X0_begin M (41 : Int32)) a2).1 520 4) ((w_X0_callsAs_0 (w_X0_begin M (41 : Int32)) a2).1 520 3)) ∧ True else if a1 = 4 then (p_X0_begin M (20 : Int32)) ∧ (p_X0_callsAs_0 (w_X0_begin M (20 : Int32)) a2) ∧ True else (p_X0_begin M (11 : Int32)) ∧ (p_X0_movesAs (w_X0_begin M (11 : Int32)) ((w_X0_begin M (11 : Int32)).1 520 4) a2) ∧ True)
set_option maxRecDepth 20000 in
theorem rnX0_callsAs {d : Nat} {M : Mm} {a1 : Int32} {a2 : Int32}  (hp : p_X0_callsAs M a1 a2) : Rn (d + 5) mX0_callsAs [.ref 520, .int a1, .int a2] M (some (.int (r_X0_callsAs M a1 a2))) (w_X0_callsAs M a1 a2) := by
  refine Rn.of [some (.ref 520), some (.int a1), some (.int a2)] (by decide +kernel) rfl (Nat.le_of_ble_eq_true rfl) rfl (fun J g hr => ?_)
  unfold p_X0_callsAs at hp
  refine j_iload_n g (i := 1) (by decide +kernel) rfl ?_
  have dsw1 : decode cX0_callsAs 1 = .ok (.tableswitch 75 1 4 #[31, 75, 49, 31], 31) := by decide +kernel
  by_cases e1_0 : a1 = 1
  · refine j_tableIn g (off := 31) (tgt := 32) dsw1 (by rw [e1_0]; decide) (by rw [e1_0]; decide) (by rw [e1_0]; decide) (by decide) ?_
    rw [if_pos e1_0] at hp
    refine j_aload_n g (i := 0) (by decide +kernel) rfl ?_
    refine j_bipush g (n := 20) (20) (by decide +kernel) (by decide +kernel) ?_
    obtain ⟨h0, hp⟩ := hp
    refine j_cV1v g v0_48 ⟨rfl, by decide⟩ (by decide +kernel) (by decide +kernel) (Nat.le_of_ble_eq_true rfl) (rnX0_begin h0) ?_
    refine j_aload_n g (i := 0) (by decide +kernel) rfl ?_
    refine j_iconst g (n := 0) (0) (by decide +kernel) rfl ?_
    refine j_iload_n g (i := 2) (by decide +kernel) rfl ?_
    obtain ⟨h0, hp⟩ := hp
    refine j_cV2r g v0_39 ⟨rfl, by decide⟩ (by decide +kernel) (by decide +kernel) (Nat.le_of_ble_eq_true rfl) (rnX0_callsAs_0 h0) ?_
    refine j_aload_n g (i := 0) (by decide +kernel) rfl ?_
    refine j_gI g f0_29 (by decide +kernel) (by decide +kernel) (by decide +kernel) ?_
    refine j_isub g (by decide +kernel) ?_
    refine hr.1 _ _ _ _ (by decide +kernel) ⟨_, rfl, by first | rfl | exact b2i_nar | rfl⟩ ?_ ?_
    · unfold r_X0_callsAs; first | (simp only [if_pos e1_0]; done) | (simp only [if_pos e1_0]; rfl) | rfl
    · unfold w_X0_callsAs; first | (simp only [if_pos e1_0]; done) | (simp only [if_pos e1_0]; rfl) | rfl
  by_cases e1_1 : a1 = 2
  · refine j_tableIn g (off := 75) (tgt := 76) dsw1 (by rw [e1_1]; decide) (by rw [e1_1]; decide) (by rw [e1_1]; decide) (by decide) ?_
    rw [if_neg e1_0, if_pos e1_1] at hp
    refine j_aload_n g (i := 0) (by decide +kernel) rfl ?_
    refine j_bipush g (n := 11) (11) (by decide +kernel) (by decide +kernel) ?_
    obtain ⟨h0, hp⟩ := hp
    refine j_cV1v g v0_48 ⟨rfl, by decide⟩ (by decide +kernel) (by decide +kernel) (Nat.le_of_ble_eq_true rfl) (rnX0_begin h0) ?_
    refine j_aload_n g (i := 0) (by decide +kernel) rfl ?_
    refine j_aload_n g (i := 0) (by decide +kernel) rfl ?_
    refine j_gI g f0_26 (by decide +kernel) (by decide +kernel) (by decide +kernel) ?_
    refine j_iload_n g (i := 2) (by decide +kernel) rfl ?_
    obtain ⟨h0, hp⟩ := hp
    refine j_cV2r g v0_36 ⟨rfl, by decide⟩ (by decide +kernel) (by decide +kernel) (Nat.le_of_ble_eq_true rfl) (rnX0_movesAs h0) ?_
    refine j_iconst g (n := 2) (2) (by decide +kernel) rfl ?_
    refine j_imul g (by decide +kernel) ?_
    refine hr.1 _ _ _ _ (by decide +kernel) ⟨_, rfl, by first | rfl | exact b2i_nar | rfl⟩ ?_ ?_
    · unfold r_X0_callsAs; first | (simp only [if_neg e1_0, if_pos e1_1]; done) | (simp only [if_neg e1_0, if_pos e1_1]; rfl) | rfl
    · unfold w_X0_callsAs; first | (simp only [if_neg e1_0, if_pos e1_1]; done) | (simp only [if_neg e1_0, if_pos e1_1]; rfl) | rfl
  by_cases e1_2 : a1 = 3
  · refine j_tableIn g (off := 49) (tgt := 50) dsw1 (by rw [e1_2]; decide) (by rw [e1_2]; decide) (by rw [e1_2]; decide) (by decide) ?_
    rw [if_neg e1_0, if_neg e1_1, if_pos e1_2] at hp
    refine j_aload_n g (i := 0) (by decide +kernel) rfl ?_
    refine j_bipush g (n := 41) (41) (by decide +kernel) (by decide +kernel) ?_
    obtain ⟨h0, hp⟩ := hp
    refine j_cV1v g v0_48 ⟨rfl, by decide⟩ (by decide +kernel) (by decide +kernel) (Nat.le_of_ble_eq_true rfl) (rnX0_begin h0) ?_
    refine j_aload_n g (i := 0) (by decide +kernel) rfl ?_
    refine j_iconst g (n := 0) (0) (by decide +kernel) rfl ?_
    refine j_iload_n g (i := 2) (by decide +kernel) rfl ?_
    obtain ⟨h0, hp⟩ := hp
    refine j_cV2r g v0_39 ⟨rfl, by decide⟩ (by decide +kernel) (by decide +kernel) (Nat.le_of_ble_eq_true rfl) (rnX0_callsAs_0 h0) ?_
    refine j_aload_n g (i := 0) (by decide +kernel) rfl ?_
    refine j_aload_n g (i := 0) (by decide +kernel) rfl ?_
    refine j_gI g f0_26 (by decide +kernel) (by decide +kernel) (by decide +kernel) ?_
    refine j_aload_n g (i := 0) (by decide +kernel) rfl ?_
    refine j_gI g f0_23 (by decide +kernel) (by decide +kernel) (by decide +kernel) ?_
    obtain ⟨h0, hp⟩ := hp
    refine j_cV2r g v0_36 ⟨rfl, by decide⟩ (by decide +kernel) (by decide +kernel) (Nat.le_of_ble_eq_true rfl) (rnX0_movesAs h0) ?_
    refine j_iadd g (by decide +kernel) ?_
    refine hr.1 _ _ _ _ (by decide +kernel) ⟨_, rfl, by first | rfl | exact b2i_nar | rfl⟩ ?_ ?_
    · unfold r_X0_callsAs; first | (simp only [if_neg e1_0, if_neg e1_1, if_pos e1_2]; done) | (simp only [if_neg e1_0, if_neg e1_1, if_pos e1_2]; rfl) | rfl
    · unfold w_X0_callsAs; first | (simp only [if_neg e1_0, if_neg e1_1, if_pos e1_2]; done) | (simp only [if_neg e1_0, if_neg e1_1, if_pos e1_2]; rfl) | rfl
  by_cases e1_3 : a1 = 4
  · refine j_tableIn g (off := 31) (tgt := 32) dsw1 (by rw [e1_3]; decide) (by rw [e1_3]; decide) (by rw [e1_3]; decide) (by decide) ?_
    rw [if_neg e1_0, if_neg e1_1, if_neg e1_2, if_pos e1_3] at hp
    refine j_aload_n g (i := 0) (by decide +kernel) rfl ?_
    refine j_bipush g (n := 20) (20) (by decide +kernel) (by decide +kernel) ?_
    obtain ⟨h0, hp⟩ := hp
    refine j_cV1v g v0_48 ⟨rfl, by decide⟩ (by decide +kernel) (by decide +kernel) (Nat.le_of_ble_eq_true rfl) (rnX0_begin h0) ?_
    refine j_aload_n g (i := 0) (by decide +kernel) rfl ?_
    refine j_iconst g (n := 0) (0) (by decide +kernel) rfl ?_
    refine j_iload_n g (i := 2) (by decide +kernel) rfl ?_
    obtain ⟨h0, hp⟩ := hp
    refine j_cV2r g v0_39 ⟨rfl, by decide⟩ (by decide +kernel) (by decide +kernel) (Nat.le_of_ble_eq_true rfl) (rnX0_callsAs_0 h0) ?_
    refine j_aload_n g (i := 0) (by decide +kernel) rfl ?_
    refine j_gI g f0_29 (by decide +kernel) (by decide +kernel) (by decide +kernel) ?_
    refine j_isub g (by decide +kernel) ?_
    refine hr.1 _ _ _ _ (by decide +kernel) ⟨_, rfl, by first | rfl | exact b2i_nar | rfl⟩ ?_ ?_
    · unfold r_X0_callsAs; first | (simp only [if_neg e1_0, if_neg e1_1, if_neg e1_2, if_pos e1_3]; done) | (simp only [if_neg e1_0, if_neg e1_1, if_neg e1_2, if_pos e1_3]; rfl) | rfl
    · unfold w_X0_callsAs; first | (simp only [if_neg e1_0, if_neg e1_1, if_neg e1_2, if_pos e1_3]; done) | (simp only [if_neg e1_0, if_neg e1_1, if_neg e1_2, if_pos e1_3]; rfl) | rfl
  rw [if_neg e1_0, if_neg e1_1, if_neg e1_2, if_neg e1_3] at hp
  refine j_tableOut g (tgt := 76) dsw1 (by simp only [← Int32.toInt_inj, Int32.reduceToInt, im1, im2, im3] at e1_0 e1_1 e1_2 e1_3; omega) (by decide) ?_
  refine j_aload_n g (i := 0) (by decide +kernel) rfl ?_
  refine j_bipush g (n := 11) (11) (by decide +kernel) (by decide +kernel) ?_
  obtain ⟨h0, hp⟩ := hp
  refine j_cV1v g v0_48 ⟨rfl, by decide⟩ (by decide +kernel) (by decide +kernel) (Nat.le_of_ble_eq_true rfl) (rnX0_begin h0) ?_
  refine j_aload_n g (i := 0) (by decide +kernel) rfl ?_
  refine j_aload_n g (i := 0) (by decide +kernel) rfl ?_
  refine j_gI g f0_26 (by decide +kernel) (by decide +kernel) (by decide +kernel) ?_
  refine j_iload_n g (i := 2) (by decide +kernel) rfl ?_
  obtain ⟨h0, hp⟩ := hp
  refine j_cV2r g v0_36 ⟨rfl, by decide⟩ (by decide +kernel) (by decide +kernel) (Nat.le_of_ble_eq_true rfl) (rnX0_movesAs h0) ?_
  refine j_iconst g (n := 2) (2) (by decide +kernel) rfl ?_
  refine j_imul g (by decide +kernel) ?_
  refine hr.1 _ _ _ _ (by decide +kernel) ⟨_, rfl, by first | rfl | exact b2i_nar | rfl⟩ ?_ ?_
  · unfold r_X0_callsAs; first | (simp only [if_neg e1_0, if_neg e1_1, if_neg e1_2, if_neg e1_3]; done) | (simp only [if_neg e1_0, if_neg e1_1, if_neg e1_2, if_neg e1_3]; rfl) | rfl
  · unfold w_X0_callsAs; first | (simp only [if_neg e1_0, if_neg e1_1, if_neg e1_2, if_neg e1_3]; done) | (simp only [if_neg e1_0, if_neg e1_1, if_neg e1_2, if_neg e1_3]; rfl) | rfl
noncomputable def r_X0_sharesAs_0 (M : Mm) (a2 : Int32) : Int32 := r_X0_part (w_X0_begin M (12 : Int32)) a2 (((w_X0_begin M (12 : Int32)).1 520 5) - ((w_X0_begin M (12 : Int32)).1 520 3))
noncomputable def w_X0_sharesAs_0 (M : Mm) (a2 : Int32) : Mm := (w_X0_part (w_X0_begin M (12 : Int32)) a2 (((w_X0_begin M (12 : Int32)).1 520 5) - ((w_X0_begin M (12 : Int32)).1 520 3)))
def p_X0_sharesAs_0 (M : Mm) (a2 : Int32) : Prop := (p_X0_begin M (12 : Int32)) ∧ (p_X0_part (w_X0_begin M (12 : Int32)) a2 (((w_X0_begin M (12 : Int32)).1 520 5) - ((w_X0_begin M (12 : Int32)).1 520 3))) ∧ True
set_option maxRecDepth 20000 in
theorem rnX0_sharesAs_0 {d : Nat} {M : Mm} {a2 : Int32}  (hp : p_X0_sharesAs_0 M a2) : Rn (d + 1) mX0_sharesAs [.ref 520, .int 0, .int a2] M (some (.int (r_X0_sharesAs_0 M a2))) (w_X0_sharesAs_0 M a2) := by
  refine Rn.of [some (.ref 520), some (.int 0), some (.int a2)] (by decide +kernel) rfl (Nat.le_of_ble_eq_true rfl) rfl (fun J g hr => ?_)
  unfold p_X0_sharesAs_0 at hp
  refine j_iload_n g (i := 1) (by decide +kernel) rfl ?_
  have dsw1 : decode cX0_sharesAs 1 = .ok (.lookupswitch 70 #[(4, 27), (5, 44)], 27) := by decide +kernel
  refine j_lookup g (off := 70) (tgt := 71) dsw1 (by decide) (by decide) (by decide) ?_
  refine j_aload_n g (i := 0) (by decide +kernel) rfl ?_
  refine j_bipush g (n := 12) (12) (by decide +kernel) (by decide +kernel) ?_
  obtain ⟨h0, hp⟩ := hp
  refine j_cV1v g v0_48 ⟨rfl, by decide⟩ (by decide +kernel) (by decide +kernel) (Nat.le_of_ble_eq_true rfl) (rnX0_begin h0) ?_
  refine j_aload_n g (i := 0) (by decide +kernel) rfl ?_
  refine j_iload_n g (i := 2) (by decide +kernel) rfl ?_
  refine j_aload_n g (i := 0) (by decide +kernel) rfl ?_
  refine j_gI g f0_29 (by decide +kernel) (by decide +kernel) (by decide +kernel) ?_
  refine j_aload_n g (i := 0) (by decide +kernel) rfl ?_
  refine j_gI g f0_23 (by decide +kernel) (by decide +kernel) (by decide +kernel) ?_
  refine j_isub g (by decide +kernel) ?_
  obtain ⟨h0, hp⟩ := hp
  refine j_cV2r g v0_52 ⟨rfl, by decide⟩ (by decide +kernel) (by decide +kernel) (Nat.le_of_ble_eq_true rfl) (rnX0_part h0) ?_
  refine hr.1 _ _ _ _ (by decide +kernel) ⟨_, rfl, by first | rfl | exact b2i_nar | decide +kernel⟩ ?_ ?_
  · unfold r_X0_sharesAs_0; rfl
  · unfold w_X0_sharesAs_0; rfl
noncomputable def r_X0_sharesAs (M : Mm) (a1 : Int32) (a2 : Int32) : Int32 := if a1 = 4 then (r_X0_sharesAs_0 (w_X0_begin M (50 : Int32)) (a2 + 2)) ^^^ 1 else if a1 = 5 then (r_X0_sharesAs_0 (w_X0_begin M (61 : Int32)) a2) + (r_X0_movesAs (w_X0_sharesAs_0 (w_X0_begin M (61 : Int32)) a2) ((w_X0_sharesAs_0 (w_X0_begin M (61 : Int32)) a2).1 520 4) ((w_X0_sharesAs_0 (w_X0_begin M (61 : Int32)) a2).1 520 5)) else r_X0_part (w_X0_begin M (12 : Int32)) a2 (((w_X0_begin M (12 : Int32)).1 520 5) - ((w_X0_begin M (12 : Int32)).1 520 3))
noncomputable def w_X0_sharesAs (M : Mm) (a1 : Int32) (a2 : Int32) : Mm := if a1 = 4 then (w_X0_sharesAs_0 (w_X0_begin M (50 : Int32)) (a2 + 2)) else if a1 = 5 then (w_X0_movesAs (w_X0_sharesAs_0 (w_X0_begin M (61 : Int32)) a2) ((w_X0_sharesAs_0 (w_X0_begin M (61 : Int32)) a2).1 520 4) ((w_X0_sharesAs_0 (w_X0_begin M (61 : Int32)) a2).1 520 5)) else (w_X0_part (w_X0_begin M (12 : Int32)) a2 (((w_X0_begin M (12 : Int32)).1 520 5) - ((w_X0_begin M (12 : Int32)).1 520 3)))
def p_X0_sharesAs (M : Mm) (a1 : Int32) (a2 : Int32) : Prop := (if a1 = 4 then (p_X0_begin M (50 : Int32)) ∧ (p_X0_sharesAs_0 (w_X0_begin M (50 : Int32)) (a2 + 2)) ∧ True else if a1 = 5 then (p_X0_begin M (61 : Int32)) ∧ (p_X0_sharesAs_0 (w_X0_begin M (61 : Int32)) a2) ∧ (p_X0_movesAs (w_X0_sharesAs_0 (w_X0_begin M (61 : Int32)) a2) ((w_X0_sharesAs_0 (w_X0_begin M (61 : Int32)) a2).1 520 4) ((w_X0_sharesAs_0 (w_X0_begin M (61 : Int32)) a2).1 520 5)) ∧ True else (p_X0_begin M (12 : Int32)) ∧ (p_X0_part (w_X0_begin M (12 : Int32)) a2 (((w_X0_begin M (12 : Int32)).1 520 5) - ((w_X0_begin M (12 : Int32)).1 520 3))) ∧ True)
set_option maxRecDepth 20000 in
theorem rnX0_sharesAs {d : Nat} {M : Mm} {a1 : Int32} {a2 : Int32}  (hp : p_X0_sharesAs M a1 a2) : Rn (d + 4) mX0_sharesAs [.ref 520, .int a1, .int a2] M (some (.int (r_X0_sharesAs M a1 a2))) (w_X0_sharesAs M a1 a2) := by
  refine Rn.of [some (.ref 520), some (.int a1), some (.int a2)] (by decide +kernel) rfl (Nat.le_of_ble_eq_true rfl) rfl (fun J g hr => ?_)
  unfold p_X0_sharesAs at hp
  refine j_iload_n g (i := 1) (by decide +kernel) rfl ?_
  have dsw1 : decode cX0_sharesAs 1 = .ok (.lookupswitch 70 #[(4, 27), (5, 44)], 27) := by decide +kernel
  by_cases e1_0 : a1 = 4
  · refine j_lookup g (off := 27) (tgt := 28) dsw1 (by decide) (by rw [e1_0]; decide) (by decide) ?_
    rw [if_pos e1_0] at hp
    refine j_aload_n g (i := 0) (by decide +kernel) rfl ?_
    refine j_bipush g (n := 50) (50) (by decide +kernel) (by decide +kernel) ?_
    obtain ⟨h0, hp⟩ := hp
    refine j_cV1v g v0_48 ⟨rfl, by decide⟩ (by decide +kernel) (by decide +kernel) (Nat.le_of_ble_eq_true rfl) (rnX0_begin h0) ?_
    refine j_aload_n g (i := 0) (by decide +kernel) rfl ?_
    refine j_iconst g (n := 0) (0) (by decide +kernel) rfl ?_
    refine j_iload_n g (i := 2) (by decide +kernel) rfl ?_
    refine j_iconst g (n := 2) (2) (by decide +kernel) rfl ?_
    refine j_iadd g (by decide +kernel) ?_
    obtain ⟨h0, hp⟩ := hp
    refine j_cV2r g v0_42 ⟨rfl, by decide⟩ (by decide +kernel) (by decide +kernel) (Nat.le_of_ble_eq_true rfl) (rnX0_sharesAs_0 h0) ?_
    refine j_iconst g (n := 1) (1) (by decide +kernel) rfl ?_
    refine j_ixor g (by decide +kernel) ?_
    refine hr.1 _ _ _ _ (by decide +kernel) ⟨_, rfl, by first | rfl | exact b2i_nar | rfl⟩ ?_ ?_
    · unfold r_X0_sharesAs; first | (simp only [if_pos e1_0]; done) | (simp only [if_pos e1_0]; rfl) | rfl
    · unfold w_X0_sharesAs; first | (simp only [if_pos e1_0]; done) | (simp only [if_pos e1_0]; rfl) | rfl
  by_cases e1_1 : a1 = 5
  · refine j_lookup g (off := 44) (tgt := 45) dsw1 (by decide) (by rw [e1_1]; decide) (by decide) ?_
    rw [if_neg e1_0, if_pos e1_1] at hp
    refine j_aload_n g (i := 0) (by decide +kernel) rfl ?_
    refine j_bipush g (n := 61) (61) (by decide +kernel) (by decide +kernel) ?_
    obtain ⟨h0, hp⟩ := hp
    refine j_cV1v g v0_48 ⟨rfl, by decide⟩ (by decide +kernel) (by decide +kernel) (Nat.le_of_ble_eq_true rfl) (rnX0_begin h0) ?_
    refine j_aload_n g (i := 0) (by decide +kernel) rfl ?_
    refine j_iconst g (n := 0) (0) (by decide +kernel) rfl ?_
    refine j_iload_n g (i := 2) (by decide +kernel) rfl ?_
    obtain ⟨h0, hp⟩ := hp
    refine j_cV2r g v0_42 ⟨rfl, by decide⟩ (by decide +kernel) (by decide +kernel) (Nat.le_of_ble_eq_true rfl) (rnX0_sharesAs_0 h0) ?_
    refine j_aload_n g (i := 0) (by decide +kernel) rfl ?_
    refine j_aload_n g (i := 0) (by decide +kernel) rfl ?_
    refine j_gI g f0_26 (by decide +kernel) (by decide +kernel) (by decide +kernel) ?_
    refine j_aload_n g (i := 0) (by decide +kernel) rfl ?_
    refine j_gI g f0_29 (by decide +kernel) (by decide +kernel) (by decide +kernel) ?_
    obtain ⟨h0, hp⟩ := hp
    refine j_cV2r g v0_36 ⟨rfl, by decide⟩ (by decide +kernel) (by decide +kernel) (Nat.le_of_ble_eq_true rfl) (rnX0_movesAs h0) ?_
    refine j_iadd g (by decide +kernel) ?_
    refine hr.1 _ _ _ _ (by decide +kernel) ⟨_, rfl, by first | rfl | exact b2i_nar | rfl⟩ ?_ ?_
    · unfold r_X0_sharesAs; first | (simp only [if_neg e1_0, if_pos e1_1]; done) | (simp only [if_neg e1_0, if_pos e1_1]; rfl) | rfl
    · unfold w_X0_sharesAs; first | (simp only [if_neg e1_0, if_pos e1_1]; done) | (simp only [if_neg e1_0, if_pos e1_1]; rfl) | rfl
  rw [if_neg e1_0, if_neg e1_1] at hp
  refine j_lookup g (off := 70) (tgt := 71) dsw1 (by decide) (by simp only [← Int32.toInt_inj, Int32.reduceToInt, im1, im2, im3] at e1_0 e1_1; simp [Op.lookupswitch.offset, Ne.symm e1_0, Ne.symm e1_1]) (by decide) ?_
  refine j_aload_n g (i := 0) (by decide +kernel) rfl ?_
  refine j_bipush g (n := 12) (12) (by decide +kernel) (by decide +kernel) ?_
  obtain ⟨h0, hp⟩ := hp
  refine j_cV1v g v0_48 ⟨rfl, by decide⟩ (by decide +kernel) (by decide +kernel) (Nat.le_of_ble_eq_true rfl) (rnX0_begin h0) ?_
  refine j_aload_n g (i := 0) (by decide +kernel) rfl ?_
  refine j_iload_n g (i := 2) (by decide +kernel) rfl ?_
  refine j_aload_n g (i := 0) (by decide +kernel) rfl ?_
  refine j_gI g f0_29 (by decide +kernel) (by decide +kernel) (by decide +kernel) ?_
  refine j_aload_n g (i := 0) (by decide +kernel) rfl ?_
  refine j_gI g f0_23 (by decide +kernel) (by decide +kernel) (by decide +kernel) ?_
  refine j_isub g (by decide +kernel) ?_
  obtain ⟨h0, hp⟩ := hp
  refine j_cV2r g v0_52 ⟨rfl, by decide⟩ (by decide +kernel) (by decide +kernel) (Nat.le_of_ble_eq_true rfl) (rnX0_part h0) ?_
  refine hr.1 _ _ _ _ (by decide +kernel) ⟨_, rfl, by first | rfl | exact b2i_nar | rfl⟩ ?_ ?_
  · unfold r_X0_sharesAs; first | (simp only [if_neg e1_0, if_neg e1_1]; done) | (simp only [if_neg e1_0, if_neg e1_1]; rfl) | rfl
  · unfold w_X0_sharesAs; first | (simp only [if_neg e1_0, if_neg e1_1]; done) | (simp only [if_neg e1_0, if_neg e1_1]; rfl) | rfl
noncomputable def r_X0_tellsAs_0 (M : Mm) (a2 : Int32) : Int32 := (r_X0_callsAs (w_X0_begin M (13 : Int32)) ((w_X0_begin M (13 : Int32)).1 520 4) a2) ^^^ ((w_X0_callsAs (w_X0_begin M (13 : Int32)) ((w_X0_begin M (13 : Int32)).1 520 4) a2).1 520 5)
noncomputable def w_X0_tellsAs_0 (M : Mm) (a2 : Int32) : Mm := (w_X0_callsAs (w_X0_begin M (13 : Int32)) ((w_X0_begin M (13 : Int32)).1 520 4) a2)
def p_X0_tellsAs_0 (M : Mm) (a2 : Int32) : Prop := (p_X0_begin M (13 : Int32)) ∧ (p_X0_callsAs (w_X0_begin M (13 : Int32)) ((w_X0_begin M (13 : Int32)).1 520 4) a2) ∧ True
set_option maxRecDepth 20000 in
theorem rnX0_tellsAs_0 {d : Nat} {M : Mm} {a2 : Int32}  (hp : p_X0_tellsAs_0 M a2) : Rn (d + 6) mX0_tellsAs [.ref 520, .int 0, .int a2] M (some (.int (r_X0_tellsAs_0 M a2))) (w_X0_tellsAs_0 M a2) := by
  refine Rn.of [some (.ref 520), some (.int 0), some (.int a2)] (by decide +kernel) rfl (Nat.le_of_ble_eq_true rfl) rfl (fun J g hr => ?_)
  unfold p_X0_tellsAs_0 at hp
  refine j_iload_n g (i := 1) (by decide +kernel) rfl ?_
  have dsw1 : decode cX0_tellsAs 1 = .ok (.tableswitch 72 2 5 #[31, 31, 72, 57], 31) := by decide +kernel
  refine j_tableOut g (tgt := 73) dsw1 (by decide) (by decide) ?_
  refine j_aload_n g (i := 0) (by decide +kernel) rfl ?_
  refine j_bipush g (n := 13) (13) (by decide +kernel) (by decide +kernel) ?_
  obtain ⟨h0, hp⟩ := hp
  refine j_cV1v g v0_48 ⟨rfl, by decide⟩ (by decide +kernel) (by decide +kernel) (Nat.le_of_ble_eq_true rfl) (rnX0_begin h0) ?_
  refine j_aload_n g (i := 0) (by decide +kernel) rfl ?_
  refine j_aload_n g (i := 0) (by decide +kernel) rfl ?_
  refine j_gI g f0_26 (by decide +kernel) (by decide +kernel) (by decide +kernel) ?_
  refine j_iload_n g (i := 2) (by decide +kernel) rfl ?_
  obtain ⟨h0, hp⟩ := hp
  refine j_cV2r g v0_39 ⟨rfl, by decide⟩ (by decide +kernel) (by decide +kernel) (Nat.le_of_ble_eq_true rfl) (rnX0_callsAs h0) ?_
  refine j_aload_n g (i := 0) (by decide +kernel) rfl ?_
  refine j_gI g f0_29 (by decide +kernel) (by decide +kernel) (by decide +kernel) ?_
  refine j_ixor g (by decide +kernel) ?_
  refine hr.1 _ _ _ _ (by decide +kernel) ⟨_, rfl, by first | rfl | exact b2i_nar | decide +kernel⟩ ?_ ?_
  · unfold r_X0_tellsAs_0; rfl
  · unfold w_X0_tellsAs_0; rfl
noncomputable def r_X0_tellsAs (M : Mm) (a1 : Int32) (a2 : Int32) : Int32 := if a1 = 2 then (r_X0_tellsAs_0 (w_X0_begin M (31 : Int32)) a2) + (r_X0_sharesAs (w_X0_tellsAs_0 (w_X0_begin M (31 : Int32)) a2) ((w_X0_tellsAs_0 (w_X0_begin M (31 : Int32)) a2).1 520 4) ((w_X0_tellsAs_0 (w_X0_begin M (31 : Int32)) a2).1 520 3)) else if a1 = 3 then (r_X0_tellsAs_0 (w_X0_begin M (31 : Int32)) a2) + (r_X0_sharesAs (w_X0_tellsAs_0 (w_X0_begin M (31 : Int32)) a2) ((w_X0_tellsAs_0 (w_X0_begin M (31 : Int32)) a2).1 520 4) ((w_X0_tellsAs_0 (w_X0_begin M (31 : Int32)) a2).1 520 3)) else if a1 = 4 then (r_X0_callsAs (w_X0_begin M (13 : Int32)) ((w_X0_begin M (13 : Int32)).1 520 4) a2) ^^^ ((w_X0_callsAs (w_X0_begin M (13 : Int32)) ((w_X0_begin M (13 : Int32)).1 520 4) a2).1 520 5) else if a1 = 5 then (r_X0_tellsAs_0 (w_X0_begin M (60 : Int32)) a2) * 2 else (r_X0_callsAs (w_X0_begin M (13 : Int32)) ((w_X0_begin M (13 : Int32)).1 520 4) a2) ^^^ ((w_X0_callsAs (w_X0_begin M (13 : Int32)) ((w_X0_begin M (13 : Int32)).1 520 4) a2).1 520 5)
noncomputable def w_X0_tellsAs (M : Mm) (a1 : Int32) (a2 : Int32) : Mm := if a1 = 2 then (w_X0_sharesAs (w_X0_tellsAs_0 (w_X0_begin M (31 : Int32)) a2) ((w_X0_tellsAs_0 (w_X0_begin M (31 : Int32)) a2).1 520 4) ((w_X0_tellsAs_0 (w_X0_begin M (31 : Int32)) a2).1 520 3)) else if a1 = 3 then (w_X0_sharesAs (w_X0_tellsAs_0 (w_X0_begin M (31 : Int32)) a2) ((w_X0_tellsAs_0 (w_X0_begin M (31 : Int32)) a2).1 520 4) ((w_X0_tellsAs_0 (w_X0_begin M (31 : Int32)) a2).1 520 3)) else if a1 = 4 then (w_X0_callsAs (w_X0_begin M (13 : Int32)) ((w_X0_begin M (13 : Int32)).1 520 4) a2) else if a1 = 5 then (w_X0_tellsAs_0 (w_X0_begin M (60 : Int32)) a2) else (w_X0_callsAs (w_X0_begin M (13 : Int32)) ((w_X0_begin M (13 : Int32)).1 520 4) a2)
def p_X0_tellsAs (M : Mm) (a1 : Int32) (a2 : Int32) : Prop := (if a1 = 2 then (p_X0_begin M (31 : Int32)) ∧ (p_X0_tellsAs_0 (w_X0_begin M (31 : Int32)) a2) ∧ (p_X0_sharesAs (w_X0_tellsAs_0 (w_X0_begin M (31 : Int32)) a2) ((w_X0_tellsAs_0 (w_X0_begin M (31 : Int32)) a2).1 520 4) ((w_X0_tellsAs_0 (w_X0_begin M (31 : Int32)) a2).1 520 3)) ∧ True else if a1 = 3 then (p_X0_begin M (31 : Int32)) ∧ (p_X0_tellsAs_0 (w_X0_begin M (31 : Int32)) a2) ∧ (p_X0_sharesAs (w_X0_tellsAs_0 (w_X0_begin M (31 : Int32)) a2) ((w_X0_tellsAs_0 (w_X0_begin M (31 : Int32)) a2).1 520 4) ((w_X0_tellsAs_0 (w_X0_begin M (31 : Int32)) a2).1 520 3)) ∧ True else if a1 = 4 then (p_X0_begin M (13 : Int32)) ∧ (p_X0_callsAs (w_X0_begin M (13 : Int32)) ((w_X0_begin M (13 : Int32)).1 520 4) a2) ∧ True else if a1 = 5 then (p_X0_begin M (60 : Int32)) ∧ (p_X0_tellsAs_0 (w_X0_begin M (60 : Int32)) a2) ∧ True else (p_X0_begin M (13 : Int32)) ∧ (p_X0_callsAs (w_X0_begin M (13 : Int32)) ((w_X0_begin M (13 : Int32)).1 520 4) a2) ∧ True)
set_option maxRecDepth 20000 in
theorem rnX0_tellsAs {d : Nat} {M : Mm} {a1 : Int32} {a2 : Int32}  (hp : p_X0_tellsAs M a1 a2) : Rn (d + 7) mX0_tellsAs [.ref 520, .int a1, .int a2] M (some (.int (r_X0_tellsAs M a1 a2))) (w_X0_tellsAs M a1 a2) := by
  refine Rn.of [some (.ref 520), some (.int a1), some (.int a2)] (by decide +kernel) rfl (Nat.le_of_ble_eq_true rfl) rfl (fun J g hr => ?_)
  unfold p_X0_tellsAs at hp
  refine j_iload_n g (i := 1) (by decide +kernel) rfl ?_
  have dsw1 : decode cX0_tellsAs 1 = .ok (.tableswitch 72 2 5 #[31, 31, 72, 57], 31) := by decide +kernel
  by_cases e1_0 : a1 = 2
  · refine j_tableIn g (off := 31) (tgt := 32) dsw1 (by rw [e1_0]; decide) (by rw [e1_0]; decide) (by rw [e1_0]; decide) (by decide) ?_
    rw [if_pos e1_0] at hp
    refine j_aload_n g (i := 0) (by decide +kernel) rfl ?_
    refine j_bipush g (n := 31) (31) (by decide +kernel) (by decide +kernel) ?_
    obtain ⟨h0, hp⟩ := hp
    refine j_cV1v g v0_48 ⟨rfl, by decide⟩ (by decide +kernel) (by decide +kernel) (Nat.le_of_ble_eq_true rfl) (rnX0_begin h0) ?_
    refine j_aload_n g (i := 0) (by decide +kernel) rfl ?_
    refine j_iconst g (n := 0) (0) (by decide +kernel) rfl ?_
    refine j_iload_n g (i := 2) (by decide +kernel) rfl ?_
    obtain ⟨h0, hp⟩ := hp
    refine j_cV2r g v0_45 ⟨rfl, by decide⟩ (by decide +kernel) (by decide +kernel) (Nat.le_of_ble_eq_true rfl) (rnX0_tellsAs_0 h0) ?_
    refine j_aload_n g (i := 0) (by decide +kernel) rfl ?_
    refine j_aload_n g (i := 0) (by decide +kernel) rfl ?_
    refine j_gI g f0_26 (by decide +kernel) (by decide +kernel) (by decide +kernel) ?_
    refine j_aload_n g (i := 0) (by decide +kernel) rfl ?_
    refine j_gI g f0_23 (by decide +kernel) (by decide +kernel) (by decide +kernel) ?_
    obtain ⟨h0, hp⟩ := hp
    refine j_cV2r g v0_42 ⟨rfl, by decide⟩ (by decide +kernel) (by decide +kernel) (Nat.le_of_ble_eq_true rfl) (rnX0_sharesAs h0) ?_
    refine j_iadd g (by decide +kernel) ?_
    refine hr.1 _ _ _ _ (by decide +kernel) ⟨_, rfl, by first | rfl | exact b2i_nar | rfl⟩ ?_ ?_
    · unfold r_X0_tellsAs; first | (simp only [if_pos e1_0]; done) | (simp only [if_pos e1_0]; rfl) | rfl
    · unfold w_X0_tellsAs; first | (simp only [if_pos e1_0]; done) | (simp only [if_pos e1_0]; rfl) | rfl
  by_cases e1_1 : a1 = 3
  · refine j_tableIn g (off := 31) (tgt := 32) dsw1 (by rw [e1_1]; decide) (by rw [e1_1]; decide) (by rw [e1_1]; decide) (by decide) ?_
    rw [if_neg e1_0, if_pos e1_1] at hp
    refine j_aload_n g (i := 0) (by decide +kernel) rfl ?_
    refine j_bipush g (n := 31) (31) (by decide +kernel) (by decide +kernel) ?_
    obtain ⟨h0, hp⟩ := hp
    refine j_cV1v g v0_48 ⟨rfl, by decide⟩ (by decide +kernel) (by decide +kernel) (Nat.le_of_ble_eq_true rfl) (rnX0_begin h0) ?_
    refine j_aload_n g (i := 0) (by decide +kernel) rfl ?_
    refine j_iconst g (n := 0) (0) (by decide +kernel) rfl ?_
    refine j_iload_n g (i := 2) (by decide +kernel) rfl ?_
    obtain ⟨h0, hp⟩ := hp
    refine j_cV2r g v0_45 ⟨rfl, by decide⟩ (by decide +kernel) (by decide +kernel) (Nat.le_of_ble_eq_true rfl) (rnX0_tellsAs_0 h0) ?_
    refine j_aload_n g (i := 0) (by decide +kernel) rfl ?_
    refine j_aload_n g (i := 0) (by decide +kernel) rfl ?_
    refine j_gI g f0_26 (by decide +kernel) (by decide +kernel) (by decide +kernel) ?_
    refine j_aload_n g (i := 0) (by decide +kernel) rfl ?_
    refine j_gI g f0_23 (by decide +kernel) (by decide +kernel) (by decide +kernel) ?_
    obtain ⟨h0, hp⟩ := hp
    refine j_cV2r g v0_42 ⟨rfl, by decide⟩ (by decide +kernel) (by decide +kernel) (Nat.le_of_ble_eq_true rfl) (rnX0_sharesAs h0) ?_
    refine j_iadd g (by decide +kernel) ?_
    refine hr.1 _ _ _ _ (by decide +kernel) ⟨_, rfl, by first | rfl | exact b2i_nar | rfl⟩ ?_ ?_
    · unfold r_X0_tellsAs; first | (simp only [if_neg e1_0, if_pos e1_1]; done) | (simp only [if_neg e1_0, if_pos e1_1]; rfl) | rfl
    · unfold w_X0_tellsAs; first | (simp only [if_neg e1_0, if_pos e1_1]; done) | (simp only [if_neg e1_0, if_pos e1_1]; rfl) | rfl
  by_cases e1_2 : a1 = 4
  · refine j_tableIn g (off := 72) (tgt := 73) dsw1 (by rw [e1_2]; decide) (by rw [e1_2]; decide) (by rw [e1_2]; decide) (by decide) ?_
    rw [if_neg e1_0, if_neg e1_1, if_pos e1_2] at hp
    refine j_aload_n g (i := 0) (by decide +kernel) rfl ?_
    refine j_bipush g (n := 13) (13) (by decide +kernel) (by decide +kernel) ?_
    obtain ⟨h0, hp⟩ := hp
    refine j_cV1v g v0_48 ⟨rfl, by decide⟩ (by decide +kernel) (by decide +kernel) (Nat.le_of_ble_eq_true rfl) (rnX0_begin h0) ?_
    refine j_aload_n g (i := 0) (by decide +kernel) rfl ?_
    refine j_aload_n g (i := 0) (by decide +kernel) rfl ?_
    refine j_gI g f0_26 (by decide +kernel) (by decide +kernel) (by decide +kernel) ?_
    refine j_iload_n g (i := 2) (by decide +kernel) rfl ?_
    obtain ⟨h0, hp⟩ := hp
    refine j_cV2r g v0_39 ⟨rfl, by decide⟩ (by decide +kernel) (by decide +kernel) (Nat.le_of_ble_eq_true rfl) (rnX0_callsAs h0) ?_
    refine j_aload_n g (i := 0) (by decide +kernel) rfl ?_
    refine j_gI g f0_29 (by decide +kernel) (by decide +kernel) (by decide +kernel) ?_
    refine j_ixor g (by decide +kernel) ?_
    refine hr.1 _ _ _ _ (by decide +kernel) ⟨_, rfl, by first | rfl | exact b2i_nar | rfl⟩ ?_ ?_
    · unfold r_X0_tellsAs; first | (simp only [if_neg e1_0, if_neg e1_1, if_pos e1_2]; done) | (simp only [if_neg e1_0, if_neg e1_1, if_pos e1_2]; rfl) | rfl
    · unfold w_X0_tellsAs; first | (simp only [if_neg e1_0, if_neg e1_1, if_pos e1_2]; done) | (simp only [if_neg e1_0, if_neg e1_1, if_pos e1_2]; rfl) | rfl
  by_cases e1_3 : a1 = 5
  · refine j_tableIn g (off := 57) (tgt := 58) dsw1 (by rw [e1_3]; decide) (by rw [e1_3]; decide) (by rw [e1_3]; decide) (by decide) ?_
    rw [if_neg e1_0, if_neg e1_1, if_neg e1_2, if_pos e1_3] at hp
    refine j_aload_n g (i := 0) (by decide +kernel) rfl ?_
    refine j_bipush g (n := 60) (60) (by decide +kernel) (by decide +kernel) ?_
    obtain ⟨h0, hp⟩ := hp
    refine j_cV1v g v0_48 ⟨rfl, by decide⟩ (by decide +kernel) (by decide +kernel) (Nat.le_of_ble_eq_true rfl) (rnX0_begin h0) ?_
    refine j_aload_n g (i := 0) (by decide +kernel) rfl ?_
    refine j_iconst g (n := 0) (0) (by decide +kernel) rfl ?_
    refine j_iload_n g (i := 2) (by decide +kernel) rfl ?_
    obtain ⟨h0, hp⟩ := hp
    refine j_cV2r g v0_45 ⟨rfl, by decide⟩ (by decide +kernel) (by decide +kernel) (Nat.le_of_ble_eq_true rfl) (rnX0_tellsAs_0 h0) ?_
    refine j_iconst g (n := 2) (2) (by decide +kernel) rfl ?_
    refine j_imul g (by decide +kernel) ?_
    refine hr.1 _ _ _ _ (by decide +kernel) ⟨_, rfl, by first | rfl | exact b2i_nar | rfl⟩ ?_ ?_
    · unfold r_X0_tellsAs; first | (simp only [if_neg e1_0, if_neg e1_1, if_neg e1_2, if_pos e1_3]; done) | (simp only [if_neg e1_0, if_neg e1_1, if_neg e1_2, if_pos e1_3]; rfl) | rfl
    · unfold w_X0_tellsAs; first | (simp only [if_neg e1_0, if_neg e1_1, if_neg e1_2, if_pos e1_3]; done) | (simp only [if_neg e1_0, if_neg e1_1, if_neg e1_2, if_pos e1_3]; rfl) | rfl
  rw [if_neg e1_0, if_neg e1_1, if_neg e1_2, if_neg e1_3] at hp
  refine j_tableOut g (tgt := 73) dsw1 (by simp only [← Int32.toInt_inj, Int32.reduceToInt, im1, im2, im3] at e1_0 e1_1 e1_2 e1_3; omega) (by decide) ?_
  refine j_aload_n g (i := 0) (by decide +kernel) rfl ?_
  refine j_bipush g (n := 13) (13) (by decide +kernel) (by decide +kernel) ?_
  obtain ⟨h0, hp⟩ := hp
  refine j_cV1v g v0_48 ⟨rfl, by decide⟩ (by decide +kernel) (by decide +kernel) (Nat.le_of_ble_eq_true rfl) (rnX0_begin h0) ?_
  refine j_aload_n g (i := 0) (by decide +kernel) rfl ?_
  refine j_aload_n g (i := 0) (by decide +kernel) rfl ?_
  refine j_gI g f0_26 (by decide +kernel) (by decide +kernel) (by decide +kernel) ?_
  refine j_iload_n g (i := 2) (by decide +kernel) rfl ?_
  obtain ⟨h0, hp⟩ := hp
  refine j_cV2r g v0_39 ⟨rfl, by decide⟩ (by decide +kernel) (by decide +kernel) (Nat.le_of_ble_eq_true rfl) (rnX0_callsAs h0) ?_
  refine j_aload_n g (i := 0) (by decide +kernel) rfl ?_
  refine j_gI g f0_29 (by decide +kernel) (by decide +kernel) (by decide +kernel) ?_
  refine j_ixor g (by decide +kernel) ?_
  refine hr.1 _ _ _ _ (by decide +kernel) ⟨_, rfl, by first | rfl | exact b2i_nar | rfl⟩ ?_ ?_
  · unfold r_X0_tellsAs; first | (simp only [if_neg e1_0, if_neg e1_1, if_neg e1_2, if_neg e1_3]; done) | (simp only [if_neg e1_0, if_neg e1_1, if_neg e1_2, if_neg e1_3]; rfl) | rfl
  · unfold w_X0_tellsAs; first | (simp only [if_neg e1_0, if_neg e1_1, if_neg e1_2, if_neg e1_3]; done) | (simp only [if_neg e1_0, if_neg e1_1, if_neg e1_2, if_neg e1_3]; rfl) | rfl
noncomputable def r_X0_bodyOf (M : Mm) (a1 : Int32) (a2 : Int32) : Int32 := if a1 = 0 then r_X0_movesAs M (M.1 520 4) a2 else if a1 = 1 then r_X0_callsAs M (M.1 520 4) a2 else if a1 = 2 then r_X0_sharesAs M (M.1 520 4) a2 else r_X0_tellsAs M (M.1 520 4) a2
noncomputable def w_X0_bodyOf (M : Mm) (a1 : Int32) (a2 : Int32) : Mm := if a1 = 0 then (w_X0_movesAs M (M.1 520 4) a2) else if a1 = 1 then (w_X0_callsAs M (M.1 520 4) a2) else if a1 = 2 then (w_X0_sharesAs M (M.1 520 4) a2) else (w_X0_tellsAs M (M.1 520 4) a2)
def p_X0_bodyOf (M : Mm) (a1 : Int32) (a2 : Int32) : Prop := (if a1 = 0 then (p_X0_movesAs M (M.1 520 4) a2) ∧ True else if a1 = 1 then (p_X0_callsAs M (M.1 520 4) a2) ∧ True else if a1 = 2 then (p_X0_sharesAs M (M.1 520 4) a2) ∧ True else (p_X0_tellsAs M (M.1 520 4) a2) ∧ True)
set_option maxRecDepth 20000 in
theorem rnX0_bodyOf {d : Nat} {M : Mm} {a1 : Int32} {a2 : Int32}  (hp : p_X0_bodyOf M a1 a2) : Rn (d + 8) mX0_bodyOf [.ref 520, .int a1, .int a2] M (some (.int (r_X0_bodyOf M a1 a2))) (w_X0_bodyOf M a1 a2) := by
  refine Rn.of [some (.ref 520), some (.int a1), some (.int a2)] (by decide +kernel) rfl (Nat.le_of_ble_eq_true rfl) rfl (fun J g hr => ?_)
  unfold p_X0_bodyOf at hp
  refine j_iload_n g (i := 1) (by decide +kernel) rfl ?_
  have dsw1 : decode cX0_bodyOf 1 = .ok (.tableswitch 57 0 2 #[27, 37, 47], 27) := by decide +kernel
  by_cases e1_0 : a1 = 0
  · refine j_tableIn g (off := 27) (tgt := 28) dsw1 (by rw [e1_0]; decide) (by rw [e1_0]; decide) (by rw [e1_0]; decide) (by decide) ?_
    rw [if_pos e1_0] at hp
    refine j_aload_n g (i := 0) (by decide +kernel) rfl ?_
    refine j_aload_n g (i := 0) (by decide +kernel) rfl ?_
    refine j_gI g f0_26 (by decide +kernel) (by decide +kernel) (by decide +kernel) ?_
    refine j_iload_n g (i := 2) (by decide +kernel) rfl ?_
    obtain ⟨h0, hp⟩ := hp
    refine j_cV2r g v0_36 ⟨rfl, by decide⟩ (by decide +kernel) (by decide +kernel) (Nat.le_of_ble_eq_true rfl) (rnX0_movesAs h0) ?_
    refine hr.1 _ _ _ _ (by decide +kernel) ⟨_, rfl, by first | rfl | exact b2i_nar | rfl⟩ ?_ ?_
    · unfold r_X0_bodyOf; first | (simp only [if_pos e1_0]; done) | (simp only [if_pos e1_0]; rfl) | rfl
    · unfold w_X0_bodyOf; first | (simp only [if_pos e1_0]; done) | (simp only [if_pos e1_0]; rfl) | rfl
  by_cases e1_1 : a1 = 1
  · refine j_tableIn g (off := 37) (tgt := 38) dsw1 (by rw [e1_1]; decide) (by rw [e1_1]; decide) (by rw [e1_1]; decide) (by decide) ?_
    rw [if_neg e1_0, if_pos e1_1] at hp
    refine j_aload_n g (i := 0) (by decide +kernel) rfl ?_
    refine j_aload_n g (i := 0) (by decide +kernel) rfl ?_
    refine j_gI g f0_26 (by decide +kernel) (by decide +kernel) (by decide +kernel) ?_
    refine j_iload_n g (i := 2) (by decide +kernel) rfl ?_
    obtain ⟨h0, hp⟩ := hp
    refine j_cV2r g v0_39 ⟨rfl, by decide⟩ (by decide +kernel) (by decide +kernel) (Nat.le_of_ble_eq_true rfl) (rnX0_callsAs h0) ?_
    refine hr.1 _ _ _ _ (by decide +kernel) ⟨_, rfl, by first | rfl | exact b2i_nar | rfl⟩ ?_ ?_
    · unfold r_X0_bodyOf; first | (simp only [if_neg e1_0, if_pos e1_1]; done) | (simp only [if_neg e1_0, if_pos e1_1]; rfl) | rfl
    · unfold w_X0_bodyOf; first | (simp only [if_neg e1_0, if_pos e1_1]; done) | (simp only [if_neg e1_0, if_pos e1_1]; rfl) | rfl
  by_cases e1_2 : a1 = 2
  · refine j_tableIn g (off := 47) (tgt := 48) dsw1 (by rw [e1_2]; decide) (by rw [e1_2]; decide) (by rw [e1_2]; decide) (by decide) ?_
    rw [if_neg e1_0, if_neg e1_1, if_pos e1_2] at hp
    refine j_aload_n g (i := 0) (by decide +kernel) rfl ?_
    refine j_aload_n g (i := 0) (by decide +kernel) rfl ?_
    refine j_gI g f0_26 (by decide +kernel) (by decide +kernel) (by decide +kernel) ?_
    refine j_iload_n g (i := 2) (by decide +kernel) rfl ?_
    obtain ⟨h0, hp⟩ := hp
    refine j_cV2r g v0_42 ⟨rfl, by decide⟩ (by decide +kernel) (by decide +kernel) (Nat.le_of_ble_eq_true rfl) (rnX0_sharesAs h0) ?_
    refine hr.1 _ _ _ _ (by decide +kernel) ⟨_, rfl, by first | rfl | exact b2i_nar | rfl⟩ ?_ ?_
    · unfold r_X0_bodyOf; first | (simp only [if_neg e1_0, if_neg e1_1, if_pos e1_2]; done) | (simp only [if_neg e1_0, if_neg e1_1, if_pos e1_2]; rfl) | rfl
    · unfold w_X0_bodyOf; first | (simp only [if_neg e1_0, if_neg e1_1, if_pos e1_2]; done) | (simp only [if_neg e1_0, if_neg e1_1, if_pos e1_2]; rfl) | rfl
  rw [if_neg e1_0, if_neg e1_1, if_neg e1_2] at hp
  refine j_tableOut g (tgt := 58) dsw1 (by simp only [← Int32.toInt_inj, Int32.reduceToInt, im1, im2, im3] at e1_0 e1_1 e1_2; omega) (by decide) ?_
  refine j_aload_n g (i := 0) (by decide +kernel) rfl ?_
  refine j_aload_n g (i := 0) (by decide +kernel) rfl ?_
  refine j_gI g f0_26 (by decide +kernel) (by decide +kernel) (by decide +kernel) ?_
  refine j_iload_n g (i := 2) (by decide +kernel) rfl ?_
  obtain ⟨h0, hp⟩ := hp
  refine j_cV2r g v0_45 ⟨rfl, by decide⟩ (by decide +kernel) (by decide +kernel) (Nat.le_of_ble_eq_true rfl) (rnX0_tellsAs h0) ?_
  refine hr.1 _ _ _ _ (by decide +kernel) ⟨_, rfl, by first | rfl | exact b2i_nar | rfl⟩ ?_ ?_
  · unfold r_X0_bodyOf; first | (simp only [if_neg e1_0, if_neg e1_1, if_neg e1_2]; done) | (simp only [if_neg e1_0, if_neg e1_1, if_neg e1_2]; rfl) | rfl
  · unfold w_X0_bodyOf; first | (simp only [if_neg e1_0, if_neg e1_1, if_neg e1_2]; done) | (simp only [if_neg e1_0, if_neg e1_1, if_neg e1_2]; rfl) | rfl
noncomputable def r_X0_perform (M : Mm) (a1 : Int32) (a2 : Int32) (a3 : Int32) (a4 : Int32) (a5 : Int32) : Int32 := if ((w_X0_bodyOf (wi (wi (wi (wi M 520 2 0) 520 3 a1) 520 4 a2) 520 5 a3) a4 a5).1 520 2) = 0 then r_X0_bodyOf (wi (wi (wi (wi M 520 2 0) 520 3 a1) 520 4 a2) 520 5 a3) a4 a5 else (-15)
noncomputable def w_X0_perform (M : Mm) (a1 : Int32) (a2 : Int32) (a3 : Int32) (a4 : Int32) (a5 : Int32) : Mm := (w_X0_bodyOf (wi (wi (wi (wi M 520 2 0) 520 3 a1) 520 4 a2) 520 5 a3) a4 a5)
def p_X0_perform (M : Mm) (a1 : Int32) (a2 : Int32) (a3 : Int32) (a4 : Int32) (a5 : Int32) : Prop := (p_X0_bodyOf (wi (wi (wi (wi M 520 2 0) 520 3 a1) 520 4 a2) 520 5 a3) a4 a5) ∧ (if ((w_X0_bodyOf (wi (wi (wi (wi M 520 2 0) 520 3 a1) 520 4 a2) 520 5 a3) a4 a5).1 520 2) = 0 then True else True)
set_option maxRecDepth 20000 in
theorem rnX0_perform {d : Nat} {M : Mm} {a1 : Int32} {a2 : Int32} {a3 : Int32} {a4 : Int32} {a5 : Int32}  (hp : p_X0_perform M a1 a2 a3 a4 a5) : Rn (d + 9) mX0_perform [.ref 520, .int a1, .int a2, .int a3, .int a4, .int a5] M (some (.int (r_X0_perform M a1 a2 a3 a4 a5))) (w_X0_perform M a1 a2 a3 a4 a5) := by
  refine Rn.of [some (.ref 520), some (.int a1), some (.int a2), some (.int a3), some (.int a4), some (.int a5), none] (by decide +kernel) rfl (Nat.le_of_ble_eq_true rfl) rfl (fun J g hr => ?_)
  unfold p_X0_perform at hp
  refine j_aload_n g (i := 0) (by decide +kernel) rfl ?_
  refine j_iconst g (n := 0) (0) (by decide +kernel) rfl ?_
  refine j_pZ g f0_19 (fun q h => by cases h; rfl) (by decide +kernel) (by decide +kernel) (by decide +kernel) (by decide) ?_
  refine j_aload_n g (i := 0) (by decide +kernel) rfl ?_
  refine j_iload_n g (i := 1) (by decide +kernel) rfl ?_
  refine j_pI g f0_23 (fun q h => by cases h; rfl) (by decide +kernel) (by decide +kernel) (by decide +kernel) ?_
  refine j_aload_n g (i := 0) (by decide +kernel) rfl ?_
  refine j_iload_n g (i := 2) (by decide +kernel) rfl ?_
  refine j_pI g f0_26 (fun q h => by cases h; rfl) (by decide +kernel) (by decide +kernel) (by decide +kernel) ?_
  refine j_aload_n g (i := 0) (by decide +kernel) rfl ?_
  refine j_iload_n g (i := 3) (by decide +kernel) rfl ?_
  refine j_pI g f0_29 (fun q h => by cases h; rfl) (by decide +kernel) (by decide +kernel) (by decide +kernel) ?_
  refine j_aload_n g (i := 0) (by decide +kernel) rfl ?_
  refine j_iload g (i := 4) (by decide +kernel) rfl ?_
  refine j_iload g (i := 5) (by decide +kernel) rfl ?_
  obtain ⟨h0, hp⟩ := hp
  refine j_cV2r g v0_32 ⟨rfl, by decide⟩ (by decide +kernel) (by decide +kernel) (Nat.le_of_ble_eq_true rfl) (rnX0_bodyOf h0) ?_
  refine j_istore g (i := 6) (by decide +kernel) (by decide) ?_
  dsimp only [stL, clL, hdL]
  refine j_aload_n g (i := 0) (by decide +kernel) rfl ?_
  refine j_gI g f0_19 (by decide +kernel) (by decide +kernel) (by decide +kernel) ?_
  refine j_if_eq g (off := 8) (tgt := 42) (by decide +kernel) (by decide) (fun c34 => ?_) (fun c34 => ?_)
  · rw [if_pos (show ((w_X0_bodyOf (wi (wi (wi (wi M 520 2 0) 520 3 a1) 520 4 a2) 520 5 a3) a4 a5).1 520 2) = 0 from c34)] at hp
    refine j_iload g (i := 6) (by decide +kernel) rfl ?_
    refine hr.1 _ _ _ _ (by decide +kernel) ⟨_, rfl, by first | rfl | exact b2i_nar | decide +kernel⟩ ?_ ?_
    · unfold r_X0_perform; first | (simp only [if_pos (show ((w_X0_bodyOf (wi (wi (wi (wi M 520 2 0) 520 3 a1) 520 4 a2) 520 5 a3) a4 a5).1 520 2) = 0 from c34)]; done) | (simp only [if_pos (show ((w_X0_bodyOf (wi (wi (wi (wi M 520 2 0) 520 3 a1) 520 4 a2) 520 5 a3) a4 a5).1 520 2) = 0 from c34)]; rfl) | rfl
    · unfold w_X0_perform; first | (simp only [if_pos (show ((w_X0_bodyOf (wi (wi (wi (wi M 520 2 0) 520 3 a1) 520 4 a2) 520 5 a3) a4 a5).1 520 2) = 0 from c34)]; done) | (simp only [if_pos (show ((w_X0_bodyOf (wi (wi (wi (wi M 520 2 0) 520 3 a1) 520 4 a2) 520 5 a3) a4 a5).1 520 2) = 0 from c34)]; rfl) | rfl
  · rw [if_neg (show ¬ (((w_X0_bodyOf (wi (wi (wi (wi M 520 2 0) 520 3 a1) 520 4 a2) 520 5 a3) a4 a5).1 520 2) = 0) from c34)] at hp
    refine j_bipush g (n := -15) (-15) (by decide +kernel) (by decide +kernel) ?_
    refine j_goto g (off := 5) (tgt := 44) (by decide +kernel) (by decide) ?_
    refine hr.1 _ _ _ _ (by decide +kernel) ⟨_, rfl, by first | rfl | exact b2i_nar | decide +kernel⟩ ?_ ?_
    · unfold r_X0_perform; first | (simp only [if_neg (show ¬ (((w_X0_bodyOf (wi (wi (wi (wi M 520 2 0) 520 3 a1) 520 4 a2) 520 5 a3) a4 a5).1 520 2) = 0) from c34)]; done) | (simp only [if_neg (show ¬ (((w_X0_bodyOf (wi (wi (wi (wi M 520 2 0) 520 3 a1) 520 4 a2) 520 5 a3) a4 a5).1 520 2) = 0) from c34)]; rfl) | rfl
    · unfold w_X0_perform; first | (simp only [if_neg (show ¬ (((w_X0_bodyOf (wi (wi (wi (wi M 520 2 0) 520 3 a1) 520 4 a2) 520 5 a3) a4 a5).1 520 2) = 0) from c34)]; done) | (simp only [if_neg (show ¬ (((w_X0_bodyOf (wi (wi (wi (wi M 520 2 0) 520 3 a1) 520 4 a2) 520 5 a3) a4 a5).1 520 2) = 0) from c34)]; rfl) | rfl
noncomputable def r_X7_act (M : Mm) (a1 : Int32) (a2 : Int32) (a3 : Int32) : Int32 := if (b2i (0 ≤ a1 ∧ a1 < 4)) = 0 then 0 else if (b2i ((0 : Int32) ≤ a2 ∧ a2 ≤ (3 : Int32))) = 0 then 0 else if (r_X7_holdsNow (wi M 520 1 0) a1) = 0 then r_X0_perform (wi M 520 1 0) ((wi M 520 1 0).1 539 (Int32.toNatClampNeg a1)) ((wi M 520 1 0).1 105 (Int32.toNatClampNeg ((wi M 520 1 0).1 539 (Int32.toNatClampNeg a1)))) ((wi M 520 1 0).1 106 (Int32.toNatClampNeg ((wi M 520 1 0).1 539 (Int32.toNatClampNeg a1)))) a2 a3 else 0
noncomputable def w_X7_act (M : Mm) (a1 : Int32) (a2 : Int32) (a3 : Int32) : Mm := if (b2i (0 ≤ a1 ∧ a1 < 4)) = 0 then (wi M 520 1 0) else if (b2i ((0 : Int32) ≤ a2 ∧ a2 ≤ (3 : Int32))) = 0 then (wi M 520 1 0) else if (r_X7_holdsNow (wi M 520 1 0) a1) = 0 then (w_X0_perform (wi M 520 1 0) ((wi M 520 1 0).1 539 (Int32.toNatClampNeg a1)) ((wi M 520 1 0).1 105 (Int32.toNatClampNeg ((wi M 520 1 0).1 539 (Int32.toNatClampNeg a1)))) ((wi M 520 1 0).1 106 (Int32.toNatClampNeg ((wi M 520 1 0).1 539 (Int32.toNatClampNeg a1)))) a2 a3) else (wi M 520 1 0)
def p_X7_act (M : Mm) (a1 : Int32) (a2 : Int32) (a3 : Int32) : Prop := (if (b2i (0 ≤ a1 ∧ a1 < 4)) = 0 then True else (if (b2i ((0 : Int32) ≤ a2 ∧ a2 ≤ (3 : Int32))) = 0 then True else (p_X7_holdsNow (wi M 520 1 0) a1) ∧ (if (r_X7_holdsNow (wi M 520 1 0) a1) = 0 then (vp_in a1 4) ∧ (vp_in ((wi M 520 1 0).1 539 (Int32.toNatClampNeg a1)) 4) ∧ (vp_in ((wi M 520 1 0).1 539 (Int32.toNatClampNeg a1)) 4) ∧ (p_X0_perform (wi M 520 1 0) ((wi M 520 1 0).1 539 (Int32.toNatClampNeg a1)) ((wi M 520 1 0).1 105 (Int32.toNatClampNeg ((wi M 520 1 0).1 539 (Int32.toNatClampNeg a1)))) ((wi M 520 1 0).1 106 (Int32.toNatClampNeg ((wi M 520 1 0).1 539 (Int32.toNatClampNeg a1)))) a2 a3) ∧ True else True)))
set_option maxRecDepth 20000 in
theorem rnX7_act {d : Nat} {M : Mm} {a1 : Int32} {a2 : Int32} {a3 : Int32}  (hp : p_X7_act M a1 a2 a3) : Rn (d + 10) mX7_act [.ref 1, .int a1, .int a2, .int a3] M (some (.int (r_X7_act M a1 a2 a3))) (w_X7_act M a1 a2 a3) := by
  refine Rn.of [some (.ref 1), some (.int a1), some (.int a2), some (.int a3), none] (by decide +kernel) rfl (Nat.le_of_ble_eq_true rfl) rfl (fun J g hr => ?_)
  unfold p_X7_act at hp
  refine j_aload_n g (i := 0) (by decide +kernel) rfl ?_
  refine j_gA g (b := 520) f7_40 (by decide +kernel) (by decide +kernel) (by decide +kernel) (by decide +kernel) ?_
  refine j_iconst g (n := 0) (0) (by decide +kernel) rfl ?_
  refine j_pI g f7_307 (fun q h => by cases h; rfl) (by decide +kernel) (by decide +kernel) (by decide +kernel) ?_
  refine j_iload_n g (i := 1) (by decide +kernel) rfl ?_
  refine j_cS1r g s7_278 (by decide +kernel) (Nat.le_of_ble_eq_true rfl) (rnX1_isNumber) ?_
  refine j_if_eq g (off := 20) (tgt := 32) (by decide +kernel) (by decide) (fun c12 => ?_) (fun c12 => ?_)
  · rw [if_pos (show (b2i (0 ≤ a1 ∧ a1 < 4)) = 0 from c12)] at hp
    refine j_iconst g (n := 0) (0) (by decide +kernel) rfl ?_
    refine hr.1 _ _ _ _ (by decide +kernel) ⟨_, rfl, by first | rfl | exact b2i_nar | decide +kernel⟩ ?_ ?_
    · unfold r_X7_act; first | (simp only [if_pos (show (b2i (0 ≤ a1 ∧ a1 < 4)) = 0 from c12)]; done) | (simp only [if_pos (show (b2i (0 ≤ a1 ∧ a1 < 4)) = 0 from c12)]; rfl) | rfl
    · unfold w_X7_act; first | (simp only [if_pos (show (b2i (0 ≤ a1 ∧ a1 < 4)) = 0 from c12)]; done) | (simp only [if_pos (show (b2i (0 ≤ a1 ∧ a1 < 4)) = 0 from c12)]; rfl) | rfl
  · rw [if_neg (show ¬ ((b2i (0 ≤ a1 ∧ a1 < 4)) = 0) from c12)] at hp
    refine j_iload_n g (i := 2) (by decide +kernel) rfl ?_
    refine j_iconst g (n := 0) (0) (by decide +kernel) rfl ?_
    refine j_iconst g (n := 3) (3) (by decide +kernel) rfl ?_
    refine j_cS3r g s7_87 (by decide +kernel) (Nat.le_of_ble_eq_true rfl) (rnX7_isWithin) ?_
    refine j_if_eq g (off := 11) (tgt := 32) (by decide +kernel) (by decide) (fun c21 => ?_) (fun c21 => ?_)
    · rw [if_pos (show (b2i ((0 : Int32) ≤ a2 ∧ a2 ≤ (3 : Int32))) = 0 from c21)] at hp
      refine j_iconst g (n := 0) (0) (by decide +kernel) rfl ?_
      refine hr.1 _ _ _ _ (by decide +kernel) ⟨_, rfl, by first | rfl | exact b2i_nar | decide +kernel⟩ ?_ ?_
      · unfold r_X7_act; first | (simp only [if_neg (show ¬ ((b2i (0 ≤ a1 ∧ a1 < 4)) = 0) from c12), if_pos (show (b2i ((0 : Int32) ≤ a2 ∧ a2 ≤ (3 : Int32))) = 0 from c21)]; done) | (simp only [if_neg (show ¬ ((b2i (0 ≤ a1 ∧ a1 < 4)) = 0) from c12), if_pos (show (b2i ((0 : Int32) ≤ a2 ∧ a2 ≤ (3 : Int32))) = 0 from c21)]; rfl) | rfl
      · unfold w_X7_act; first | (simp only [if_neg (show ¬ ((b2i (0 ≤ a1 ∧ a1 < 4)) = 0) from c12), if_pos (show (b2i ((0 : Int32) ≤ a2 ∧ a2 ≤ (3 : Int32))) = 0 from c21)]; done) | (simp only [if_neg (show ¬ ((b2i (0 ≤ a1 ∧ a1 < 4)) = 0) from c12), if_pos (show (b2i ((0 : Int32) ≤ a2 ∧ a2 ≤ (3 : Int32))) = 0 from c21)]; rfl) | rfl
    · rw [if_neg (show ¬ ((b2i ((0 : Int32) ≤ a2 ∧ a2 ≤ (3 : Int32))) = 0) from c21)] at hp
      refine j_aload_n g (i := 0) (by decide +kernel) rfl ?_
      refine j_iload_n g (i := 1) (by decide +kernel) rfl ?_
      obtain ⟨h0, hp⟩ := hp
      refine j_cV1r g v7_295 ⟨rfl, by decide⟩ (by decide +kernel) (by decide +kernel) (Nat.le_of_ble_eq_true rfl) (rnX7_holdsNow h0) ?_
      refine j_if_eq g (off := 5) (tgt := 34) (by decide +kernel) (by decide) (fun c29 => ?_) (fun c29 => ?_)
      · rw [if_pos (show (r_X7_holdsNow (wi M 520 1 0) a1) = 0 from c29)] at hp
        refine j_aload_n g (i := 0) (by decide +kernel) rfl ?_
        refine j_gA g (b := 530) f7_47 (by decide +kernel) (by decide +kernel) (by decide +kernel) (by decide +kernel) ?_
        refine j_gA g (b := 539) f7_298 (by decide +kernel) (by decide +kernel) (by decide +kernel) (by decide +kernel) ?_
        refine j_iload_n g (i := 1) (by decide +kernel) rfl ?_
        obtain ⟨h0, hp⟩ := hp
        refine j_ia g 4 (by decide +kernel) (by decide +kernel) (by decide +kernel) h0 ?_
        refine j_istore g (i := 4) (by decide +kernel) (by decide) ?_
        dsimp only [stL, clL, hdL]
        refine j_aload_n g (i := 0) (by decide +kernel) rfl ?_
        refine j_gA g (b := 520) f7_40 (by decide +kernel) (by decide +kernel) (by decide +kernel) (by decide +kernel) ?_
        refine j_iload g (i := 4) (by decide +kernel) rfl ?_
        refine j_aload_n g (i := 0) (by decide +kernel) rfl ?_
        refine j_gA g (b := 100) f7_20 (by decide +kernel) (by decide +kernel) (by decide +kernel) (by decide +kernel) ?_
        refine j_gA g (b := 105) f7_237 (by decide +kernel) (by decide +kernel) (by decide +kernel) (by decide +kernel) ?_
        refine j_iload g (i := 4) (by decide +kernel) rfl ?_
        obtain ⟨h0, hp⟩ := hp
        refine j_ia g 4 (by decide +kernel) (by decide +kernel) (by decide +kernel) h0 ?_
        refine j_aload_n g (i := 0) (by decide +kernel) rfl ?_
        refine j_gA g (b := 100) f7_20 (by decide +kernel) (by decide +kernel) (by decide +kernel) (by decide +kernel) ?_
        refine j_gA g (b := 106) f7_240 (by decide +kernel) (by decide +kernel) (by decide +kernel) (by decide +kernel) ?_
        refine j_iload g (i := 4) (by decide +kernel) rfl ?_
        obtain ⟨h0, hp⟩ := hp
        refine j_ia g 4 (by decide +kernel) (by decide +kernel) (by decide +kernel) h0 ?_
        refine j_iload_n g (i := 2) (by decide +kernel) rfl ?_
        refine j_iload_n g (i := 3) (by decide +kernel) rfl ?_
        obtain ⟨h0, hp⟩ := hp
        refine j_cV5r g v7_308 ⟨rfl, by decide⟩ (by decide +kernel) (by decide +kernel) (Nat.le_of_ble_eq_true rfl) (rnX0_perform h0) ?_
        refine hr.1 _ _ _ _ (by decide +kernel) ⟨_, rfl, by first | rfl | exact b2i_nar | decide +kernel⟩ ?_ ?_
        · unfold r_X7_act; first | (simp only [if_neg (show ¬ ((b2i (0 ≤ a1 ∧ a1 < 4)) = 0) from c12), if_neg (show ¬ ((b2i ((0 : Int32) ≤ a2 ∧ a2 ≤ (3 : Int32))) = 0) from c21), if_pos (show (r_X7_holdsNow (wi M 520 1 0) a1) = 0 from c29)]; done) | (simp only [if_neg (show ¬ ((b2i (0 ≤ a1 ∧ a1 < 4)) = 0) from c12), if_neg (show ¬ ((b2i ((0 : Int32) ≤ a2 ∧ a2 ≤ (3 : Int32))) = 0) from c21), if_pos (show (r_X7_holdsNow (wi M 520 1 0) a1) = 0 from c29)]; rfl) | rfl
        · unfold w_X7_act; first | (simp only [if_neg (show ¬ ((b2i (0 ≤ a1 ∧ a1 < 4)) = 0) from c12), if_neg (show ¬ ((b2i ((0 : Int32) ≤ a2 ∧ a2 ≤ (3 : Int32))) = 0) from c21), if_pos (show (r_X7_holdsNow (wi M 520 1 0) a1) = 0 from c29)]; done) | (simp only [if_neg (show ¬ ((b2i (0 ≤ a1 ∧ a1 < 4)) = 0) from c12), if_neg (show ¬ ((b2i ((0 : Int32) ≤ a2 ∧ a2 ≤ (3 : Int32))) = 0) from c21), if_pos (show (r_X7_holdsNow (wi M 520 1 0) a1) = 0 from c29)]; rfl) | rfl
      · rw [if_neg (show ¬ ((r_X7_holdsNow (wi M 520 1 0) a1) = 0) from c29)] at hp
        refine j_iconst g (n := 0) (0) (by decide +kernel) rfl ?_
        refine hr.1 _ _ _ _ (by decide +kernel) ⟨_, rfl, by first | rfl | exact b2i_nar | decide +kernel⟩ ?_ ?_
        · unfold r_X7_act; first | (simp only [if_neg (show ¬ ((b2i (0 ≤ a1 ∧ a1 < 4)) = 0) from c12), if_neg (show ¬ ((b2i ((0 : Int32) ≤ a2 ∧ a2 ≤ (3 : Int32))) = 0) from c21), if_neg (show ¬ ((r_X7_holdsNow (wi M 520 1 0) a1) = 0) from c29)]; done) | (simp only [if_neg (show ¬ ((b2i (0 ≤ a1 ∧ a1 < 4)) = 0) from c12), if_neg (show ¬ ((b2i ((0 : Int32) ≤ a2 ∧ a2 ≤ (3 : Int32))) = 0) from c21), if_neg (show ¬ ((r_X7_holdsNow (wi M 520 1 0) a1) = 0) from c29)]; rfl) | rfl
        · unfold w_X7_act; first | (simp only [if_neg (show ¬ ((b2i (0 ≤ a1 ∧ a1 < 4)) = 0) from c12), if_neg (show ¬ ((b2i ((0 : Int32) ≤ a2 ∧ a2 ≤ (3 : Int32))) = 0) from c21), if_neg (show ¬ ((r_X7_holdsNow (wi M 520 1 0) a1) = 0) from c29)]; done) | (simp only [if_neg (show ¬ ((b2i (0 ≤ a1 ∧ a1 < 4)) = 0) from c12), if_neg (show ¬ ((b2i ((0 : Int32) ≤ a2 ∧ a2 ≤ (3 : Int32))) = 0) from c21), if_neg (show ¬ ((r_X7_holdsNow (wi M 520 1 0) a1) = 0) from c29)]; rfl) | rfl
noncomputable def w_X2_searchFrom_6 (M : Mm)  : Mm := (w_X2_compare M 1090 (6 : Int32))
def p_X2_searchFrom_6 (M : Mm)  : Prop := (p_X5_freeOnes M 1090) ∧ (if (r_X5_freeOnes M 1090) = 0 then (p_X2_compare M 1090 (6 : Int32)) ∧ True else (p_X2_compare M 1090 (6 : Int32)) ∧ True)
set_option maxRecDepth 20000 in
theorem rnX2_searchFrom_6 {d : Nat} {M : Mm}   (hp : p_X2_searchFrom_6 M ) : Rn (d + 4) mX2_searchFrom [.ref 510, .int 6] M none (w_X2_searchFrom_6 M ) := by
  refine Rn.of [some (.ref 510), some (.int 6), none, none, none] (by decide +kernel) rfl (Nat.le_of_ble_eq_true rfl) rfl (fun J g hr => ?_)
  unfold p_X2_searchFrom_6 at hp
  refine j_aload_n g (i := 0) (by decide +kernel) rfl ?_
  refine j_gA g (b := 511) f2_20 (by decide +kernel) (by decide +kernel) (by decide +kernel) (by decide +kernel) ?_
  refine j_iload_n g (i := 1) (by decide +kernel) rfl ?_
  refine j_aS g (b := 1090) 7 (by decide +kernel) (by decide +kernel) (by decide +kernel) (vin_b (by decide +kernel)) (by decide +kernel) ?_
  refine j_astore_n g (i := 2) (by decide +kernel) (by decide) ?_
  dsimp only [stL, clL, hdL]
  refine j_aload_n g (i := 0) (by decide +kernel) rfl ?_
  refine j_gA g (b := 100) f2_12 (by decide +kernel) (by decide +kernel) (by decide +kernel) (by decide +kernel) ?_
  refine j_aload_n g (i := 2) (by decide +kernel) rfl ?_
  obtain ⟨h0, hp⟩ := hp
  refine j_cV1r g v2_122 ⟨rfl, by decide⟩ (by decide +kernel) (by decide +kernel) (Nat.le_of_ble_eq_true rfl) (rnX5_freeOnes (by simp [isS]) h0) ?_
  refine j_istore_n g (i := 3) (by decide +kernel) (by decide) ?_
  dsimp only [stL, clL, hdL]
  refine j_iload_n g (i := 3) (by decide +kernel) rfl ?_
  refine j_if_eq g (off := 9) (tgt := 26) (by decide +kernel) (by decide) (fun c17 => ?_) (fun c17 => ?_)
  · rw [if_pos (show (r_X5_freeOnes M 1090) = 0 from c17)] at hp
    refine j_aload_n g (i := 0) (by decide +kernel) rfl ?_
    refine j_aload_n g (i := 2) (by decide +kernel) rfl ?_
    refine j_iload_n g (i := 1) (by decide +kernel) rfl ?_
    obtain ⟨h0, hp⟩ := hp
    refine j_cV2v g v2_125 ⟨rfl, by decide⟩ (by decide +kernel) (by decide +kernel) (Nat.le_of_ble_eq_true rfl) (rnX2_compare (by simp [isS]) h0) ?_
    refine hr.2.2.2 _ _ _ (by decide +kernel) rfl rfl ?_
    · unfold w_X2_searchFrom_6; first | (simp only [if_pos (show (r_X5_freeOnes M 1090) = 0 from c17)]; done) | (simp only [if_pos (show (r_X5_freeOnes M 1090) = 0 from c17)]; rfl) | rfl
  · rw [if_neg (show ¬ ((r_X5_freeOnes M 1090) = 0) from c17)] at hp
    refine j_iload_n g (i := 1) (by decide +kernel) rfl ?_
    refine j_bipush g (n := 6) (6) (by decide +kernel) (by decide +kernel) ?_
    refine j_icmp_lt g (off := 10) (tgt := 33) (by decide +kernel) (by decide) (fun c => absurd c (by first | decide | (intro h; exact h rfl))) (fun _ => ?_)
    refine j_aload_n g (i := 0) (by decide +kernel) rfl ?_
    refine j_aload_n g (i := 2) (by decide +kernel) rfl ?_
    refine j_iload_n g (i := 1) (by decide +kernel) rfl ?_
    obtain ⟨h0, hp⟩ := hp
    refine j_cV2v g v2_125 ⟨rfl, by decide⟩ (by decide +kernel) (by decide +kernel) (Nat.le_of_ble_eq_true rfl) (rnX2_compare (by simp [isS]) h0) ?_
    refine hr.2.2.2 _ _ _ (by decide +kernel) rfl rfl ?_
    · unfold w_X2_searchFrom_6; first | (simp only [if_neg (show ¬ ((r_X5_freeOnes M 1090) = 0) from c17)]; done) | (simp only [if_neg (show ¬ ((r_X5_freeOnes M 1090) = 0) from c17)]; rfl) | rfl
def c_X2_searchFrom_5_36 (x3 : Int32) (σ : Mm × Int32) : Prop := if (σ.1.1 100 2) ≤ σ.2 then False else True
theorem ci_X2_searchFrom_5_36  {x3 : Int32} {σ : Mm × Int32} : c_X2_searchFrom_5_36 x3 σ ↔ (if (σ.1.1 100 2) ≤ σ.2 then False else True) := Iff.rfl
noncomputable def s_X2_searchFrom_5_36 (x3 : Int32) (σ : Mm × Int32) : Mm × Int32 := if (σ.1.1 100 2) ≤ σ.2 then σ else if (b2i (¬ (x3 >>> (σ.2 &&& 31)) &&& 1 = 0)) = 0 then (σ.1, σ.2 + 1) else ((w_X2_searchFrom_6 (w_X5_carryOut (w_X3_take (wi σ.1 512 5 σ.2) 1090 1080) 1090 σ.2)), σ.2 + 1)
def q_X2_searchFrom_5_36 (x3 : Int32) (σ : Mm × Int32) : Prop := (if (σ.1.1 100 2) ≤ σ.2 then True else (if (b2i (¬ (x3 >>> (σ.2 &&& 31)) &&& 1 = 0)) = 0 then True else (p_X5_carryOut (w_X3_take (wi σ.1 512 5 σ.2) 1090 1080) 1090 σ.2) ∧ (p_X2_searchFrom_6 (w_X5_carryOut (w_X3_take (wi σ.1 512 5 σ.2) 1090 1080) 1090 σ.2) ) ∧ True))
noncomputable def l_X2_searchFrom_5_36 (x3 : Int32) (σ0 : Mm × Int32) : Nat → Mm × Int32 := itN (fun _ σ => s_X2_searchFrom_5_36 x3 σ) σ0
theorem ps_X2_searchFrom_5_36 {d : Nat} {J : Nat → Lc → List Value → Mm → Prop}  {x3 : Int32} {σ : Mm × Int32}  (g : Good mX2_searchFrom.1 mX2_searchFrom.2.2.1 mX2_searchFrom.2.2.2.1 (d + 5) J) (hc : c_X2_searchFrom_5_36 x3 σ) (hp : q_X2_searchFrom_5_36 x3 σ) (k : J 36 [some (.ref 510), some (.int 5), some (.ref 1080), some (.int x3), some (.int ((s_X2_searchFrom_5_36 x3 σ).2))] [] ((s_X2_searchFrom_5_36 x3 σ).1)) : J 36 [some (.ref 510), some (.int 5), some (.ref 1080), some (.int x3), some (.int σ.2)] [] σ.1 := by
  unfold c_X2_searchFrom_5_36 at hc
  unfold q_X2_searchFrom_5_36 at hp
  unfold s_X2_searchFrom_5_36 at k
  refine j_iload g (i := 4) (by decide +kernel) rfl ?_
  refine j_aload_n g (i := 0) (by decide +kernel) rfl ?_
  refine j_gA g (b := 100) f2_12 (by decide +kernel) (by decide +kernel) (by decide +kernel) (by decide +kernel) ?_
  refine j_gI g f2_129 (by decide +kernel) (by decide +kernel) (by decide +kernel) ?_
  refine j_icmp_ge g (off := 63) (tgt := 108) (by decide +kernel) (by decide) (fun c45 => ?_) (fun c45 => ?_)
  · (try rw [if_pos (show (σ.1.1 100 2) ≤ σ.2 from c45)] at hc); (rw [if_pos (show (σ.1.1 100 2) ≤ σ.2 from c45)] at hp); (try simp only [if_pos (show (σ.1.1 100 2) ≤ σ.2 from c45)] at k)
    exact hc.elim
  · (try rw [if_neg (show ¬ ((σ.1.1 100 2) ≤ σ.2) from c45)] at hc); (rw [if_neg (show ¬ ((σ.1.1 100 2) ≤ σ.2) from c45)] at hp); (try simp only [if_neg (show ¬ ((σ.1.1 100 2) ≤ σ.2) from c45)] at k)
    refine j_iload_n g (i := 3) (by decide +kernel) rfl ?_
    refine j_iload g (i := 4) (by decide +kernel) rfl ?_
    refine j_cS2r g s2_71 (by decide +kernel) (Nat.le_of_ble_eq_true rfl) (rnX2_isIn) ?_
    refine j_if_eq g (off := 48) (tgt := 102) (by decide +kernel) (by decide) (fun c54 => ?_) (fun c54 => ?_)
    · (try rw [if_pos (show (b2i (¬ (x3 >>> (σ.2 &&& 31)) &&& 1 = 0)) = 0 from c54)] at hc); (rw [if_pos (show (b2i (¬ (x3 >>> (σ.2 &&& 31)) &&& 1 = 0)) = 0 from c54)] at hp); (try simp only [if_pos (show (b2i (¬ (x3 >>> (σ.2 &&& 31)) &&& 1 = 0)) = 0 from c54)] at k)
      refine j_iinc g (i := 4) (n := 1) (1) (by decide +kernel) rfl (by decide) rfl ?_
      dsimp only [stL, clL, hdL]
      refine j_goto g (off := -69) (tgt := 36) (by decide +kernel) (by decide) ?_
      exact k 
    · (try rw [if_neg (show ¬ ((b2i (¬ (x3 >>> (σ.2 &&& 31)) &&& 1 = 0)) = 0) from c54)] at hc); (rw [if_neg (show ¬ ((b2i (¬ (x3 >>> (σ.2 &&& 31)) &&& 1 = 0)) = 0) from c54)] at hp); (try simp only [if_neg (show ¬ ((b2i (¬ (x3 >>> (σ.2 &&& 31)) &&& 1 = 0)) = 0) from c54)] at k)
      refine j_aload_n g (i := 0) (by decide +kernel) rfl ?_
      refine j_gA g (b := 512) f2_24 (by decide +kernel) (by decide +kernel) (by decide +kernel) (by decide +kernel) ?_
      refine j_iload_n g (i := 1) (by decide +kernel) rfl ?_
      refine j_iload g (i := 4) (by decide +kernel) rfl ?_
      refine j_isc g 6 5 (by decide +kernel) (by decide +kernel) (by decide +kernel) (vin_b (by decide +kernel)) (by decide) ?_
      refine j_aload_n g (i := 0) (by decide +kernel) rfl ?_
      refine j_gA g (b := 511) f2_20 (by decide +kernel) (by decide +kernel) (by decide +kernel) (by decide +kernel) ?_
      refine j_iload_n g (i := 1) (by decide +kernel) rfl ?_
      refine j_iconst g (n := 1) (1) (by decide +kernel) rfl ?_
      refine j_iadd g (by decide +kernel) ?_
      rw [show (5 : Int32) + 1 = 6 from by decide]
      refine j_aS g (b := 1090) 7 (by decide +kernel) (by decide +kernel) (by decide +kernel) (vin_b (by decide +kernel)) (by decide +kernel) ?_
      refine j_aload_n g (i := 2) (by decide +kernel) rfl ?_
      refine j_cV1v g v2_132 ⟨rfl, by decide⟩ (by decide +kernel) (by decide +kernel) (Nat.le_of_ble_eq_true rfl) (rnX3_take (by simp [isS]) (by simp [isS])) ?_
      refine j_aload_n g (i := 0) (by decide +kernel) rfl ?_
      refine j_gA g (b := 100) f2_12 (by decide +kernel) (by decide +kernel) (by decide +kernel) (by decide +kernel) ?_
      refine j_aload_n g (i := 0) (by decide +kernel) rfl ?_
      refine j_gA g (b := 511) f2_20 (by decide +kernel) (by decide +kernel) (by decide +kernel) (by decide +kernel) ?_
      refine j_iload_n g (i := 1) (by decide +kernel) rfl ?_
      refine j_iconst g (n := 1) (1) (by decide +kernel) rfl ?_
      refine j_iadd g (by decide +kernel) ?_
      rw [show (5 : Int32) + 1 = 6 from by decide]
      refine j_aS g (b := 1090) 7 (by decide +kernel) (by decide +kernel) (by decide +kernel) (vin_b (by decide +kernel)) (by decide +kernel) ?_
      refine j_iload g (i := 4) (by decide +kernel) rfl ?_
      obtain ⟨h0, hp⟩ := hp
      refine j_cV2r g v2_98 ⟨rfl, by decide⟩ (by decide +kernel) (by decide +kernel) (Nat.le_of_ble_eq_true rfl) (rnX5_carryOut (by simp [isS]) h0) ?_
      refine j_pop g (by decide +kernel) rfl ?_
      refine j_aload_n g (i := 0) (by decide +kernel) rfl ?_
      refine j_iload_n g (i := 1) (by decide +kernel) rfl ?_
      refine j_iconst g (n := 1) (1) (by decide +kernel) rfl ?_
      refine j_iadd g (by decide +kernel) ?_
      rw [show (5 : Int32) + 1 = 6 from by decide]
      obtain ⟨h0, hp⟩ := hp
      refine j_cV1v g v2_118 ⟨rfl, by decide⟩ (by decide +kernel) (by decide +kernel) (Nat.le_of_ble_eq_true rfl) (rnX2_searchFrom_6 h0) ?_
      refine j_iinc g (i := 4) (n := 1) (1) (by decide +kernel) rfl (by decide) rfl ?_
      dsimp only [stL, clL, hdL]
      refine j_goto g (off := -69) (tgt := 36) (by decide +kernel) (by decide) ?_
      exact k 
theorem sh_X2_searchFrom_5_36 {d : Nat} {J : Nat → Lc → List Value → Mm → Prop}  {x3 : Int32} {σ0 : Mm × Int32}  (g : Good mX2_searchFrom.1 mX2_searchFrom.2.2.1 mX2_searchFrom.2.2.2.1 (d + 5) J) : ∀ (N : Nat), (∀ k, k < N → c_X2_searchFrom_5_36 x3 (l_X2_searchFrom_5_36 x3 σ0 k)) → (∀ k, k < N → q_X2_searchFrom_5_36 x3 (l_X2_searchFrom_5_36 x3 σ0 k)) → (J 36 [some (.ref 510), some (.int 5), some (.ref 1080), some (.int x3), some (.int ((l_X2_searchFrom_5_36 x3 σ0 N).2))] [] ((l_X2_searchFrom_5_36 x3 σ0 N).1)) → J 36 [some (.ref 510), some (.int 5), some (.ref 1080), some (.int x3), some (.int σ0.2)] [] σ0.1
  | 0, _, _, k => k
  | N + 1, hc, hp, k => sh_X2_searchFrom_5_36  g N (fun i hi => hc i (Nat.lt_succ_of_lt hi)) (fun i hi => hp i (Nat.lt_succ_of_lt hi)) (ps_X2_searchFrom_5_36  g (hc N (Nat.lt_succ_self N)) (hp N (Nat.lt_succ_self N)) k)
noncomputable def w_X2_searchFrom_5 (M : Mm)  : Mm := if (r_X5_freeOnes M 1080) = 0 then (w_X2_compare M 1080 (5 : Int32)) else if ((l_X2_searchFrom_5_36 (r_X5_freeOnes M 1080) (M, 0) (Int32.toNatClampNeg (M.1 100 2))).1.1 100 2) ≤ ((l_X2_searchFrom_5_36 (r_X5_freeOnes M 1080) (M, 0) (Int32.toNatClampNeg (M.1 100 2))).2) then (l_X2_searchFrom_5_36 (r_X5_freeOnes M 1080) (M, 0) (Int32.toNatClampNeg (M.1 100 2))).1 else M
def p_X2_searchFrom_5 (M : Mm)  : Prop := (p_X5_freeOnes M 1080) ∧ (if (r_X5_freeOnes M 1080) = 0 then (p_X2_compare M 1080 (5 : Int32)) ∧ True else (∀ k, k < (Int32.toNatClampNeg (M.1 100 2)) → c_X2_searchFrom_5_36 (r_X5_freeOnes M 1080) (l_X2_searchFrom_5_36 (r_X5_freeOnes M 1080) (M, 0) k)) ∧ (∀ k, k < (Int32.toNatClampNeg (M.1 100 2)) → q_X2_searchFrom_5_36 (r_X5_freeOnes M 1080) (l_X2_searchFrom_5_36 (r_X5_freeOnes M 1080) (M, 0) k)) ∧ (¬ c_X2_searchFrom_5_36 (r_X5_freeOnes M 1080) (l_X2_searchFrom_5_36 (r_X5_freeOnes M 1080) (M, 0) (Int32.toNatClampNeg (M.1 100 2)))) ∧ (if ((l_X2_searchFrom_5_36 (r_X5_freeOnes M 1080) (M, 0) (Int32.toNatClampNeg (M.1 100 2))).1.1 100 2) ≤ ((l_X2_searchFrom_5_36 (r_X5_freeOnes M 1080) (M, 0) (Int32.toNatClampNeg (M.1 100 2))).2) then True else True))
set_option maxRecDepth 20000 in
theorem rnX2_searchFrom_5 {d : Nat} {M : Mm}   (hp : p_X2_searchFrom_5 M ) : Rn (d + 5) mX2_searchFrom [.ref 510, .int 5] M none (w_X2_searchFrom_5 M ) := by
  refine Rn.of [some (.ref 510), some (.int 5), none, none, none] (by decide +kernel) rfl (Nat.le_of_ble_eq_true rfl) rfl (fun J g hr => ?_)
  unfold p_X2_searchFrom_5 at hp
  refine j_aload_n g (i := 0) (by decide +kernel) rfl ?_
  refine j_gA g (b := 511) f2_20 (by decide +kernel) (by decide +kernel) (by decide +kernel) (by decide +kernel) ?_
  refine j_iload_n g (i := 1) (by decide +kernel) rfl ?_
  refine j_aS g (b := 1080) 7 (by decide +kernel) (by decide +kernel) (by decide +kernel) (vin_b (by decide +kernel)) (by decide +kernel) ?_
  refine j_astore_n g (i := 2) (by decide +kernel) (by decide) ?_
  dsimp only [stL, clL, hdL]
  refine j_aload_n g (i := 0) (by decide +kernel) rfl ?_
  refine j_gA g (b := 100) f2_12 (by decide +kernel) (by decide +kernel) (by decide +kernel) (by decide +kernel) ?_
  refine j_aload_n g (i := 2) (by decide +kernel) rfl ?_
  obtain ⟨h0, hp⟩ := hp
  refine j_cV1r g v2_122 ⟨rfl, by decide⟩ (by decide +kernel) (by decide +kernel) (Nat.le_of_ble_eq_true rfl) (rnX5_freeOnes (by simp [isS]) h0) ?_
  refine j_istore_n g (i := 3) (by decide +kernel) (by decide) ?_
  dsimp only [stL, clL, hdL]
  refine j_iload_n g (i := 3) (by decide +kernel) rfl ?_
  refine j_if_eq g (off := 9) (tgt := 26) (by decide +kernel) (by decide) (fun c17 => ?_) (fun c17 => ?_)
  · rw [if_pos (show (r_X5_freeOnes M 1080) = 0 from c17)] at hp
    refine j_aload_n g (i := 0) (by decide +kernel) rfl ?_
    refine j_aload_n g (i := 2) (by decide +kernel) rfl ?_
    refine j_iload_n g (i := 1) (by decide +kernel) rfl ?_
    obtain ⟨h0, hp⟩ := hp
    refine j_cV2v g v2_125 ⟨rfl, by decide⟩ (by decide +kernel) (by decide +kernel) (Nat.le_of_ble_eq_true rfl) (rnX2_compare (by simp [isS]) h0) ?_
    refine hr.2.2.2 _ _ _ (by decide +kernel) rfl rfl ?_
    · unfold w_X2_searchFrom_5; first | (simp only [if_pos (show (r_X5_freeOnes M 1080) = 0 from c17)]; done) | (simp only [if_pos (show (r_X5_freeOnes M 1080) = 0 from c17)]; rfl) | rfl
  · rw [if_neg (show ¬ ((r_X5_freeOnes M 1080) = 0) from c17)] at hp
    refine j_iload_n g (i := 1) (by decide +kernel) rfl ?_
    refine j_bipush g (n := 6) (6) (by decide +kernel) (by decide +kernel) ?_
    refine j_icmp_lt g (off := 10) (tgt := 33) (by decide +kernel) (by decide) (fun _ => ?_) (fun c => absurd (by first | decide | rfl | exact Int32.le_refl _) c)
    refine j_iconst g (n := 0) (0) (by decide +kernel) rfl ?_
    refine j_istore g (i := 4) (by decide +kernel) (by decide) ?_
    dsimp only [stL, clL, hdL]
    obtain ⟨h0, hp⟩ := hp
    have hc_36_1 := h0
    obtain ⟨h0, hp⟩ := hp
    have hq_36_1 := h0
    obtain ⟨h0, hp⟩ := hp
    have hx_36_1 := h0
    refine sh_X2_searchFrom_5_36 (x3 := (r_X5_freeOnes M 1080))  g (σ0 := (M, 0)) (Int32.toNatClampNeg (M.1 100 2)) hc_36_1 hq_36_1 ?_ 
    refine j_iload g (i := 4) (by decide +kernel) rfl ?_
    refine j_aload_n g (i := 0) (by decide +kernel) rfl ?_
    refine j_gA g (b := 100) f2_12 (by decide +kernel) (by decide +kernel) (by decide +kernel) (by decide +kernel) ?_
    refine j_gI g f2_129 (by decide +kernel) (by decide +kernel) (by decide +kernel) ?_
    refine j_icmp_ge g (off := 63) (tgt := 108) (by decide +kernel) (by decide) (fun c45 => ?_) (fun c45 => ?_)
    · rw [if_pos (show ((l_X2_searchFrom_5_36 (r_X5_freeOnes M 1080) (M, 0) (Int32.toNatClampNeg (M.1 100 2))).1.1 100 2) ≤ ((l_X2_searchFrom_5_36 (r_X5_freeOnes M 1080) (M, 0) (Int32.toNatClampNeg (M.1 100 2))).2) from c45)] at hp
      refine hr.2.2.2 _ _ _ (by decide +kernel) rfl rfl ?_
      · unfold w_X2_searchFrom_5; first | (simp only [if_neg (show ¬ ((r_X5_freeOnes M 1080) = 0) from c17), if_pos (show ((l_X2_searchFrom_5_36 (r_X5_freeOnes M 1080) (M, 0) (Int32.toNatClampNeg (M.1 100 2))).1.1 100 2) ≤ ((l_X2_searchFrom_5_36 (r_X5_freeOnes M 1080) (M, 0) (Int32.toNatClampNeg (M.1 100 2))).2) from c45)]; done) | (simp only [if_neg (show ¬ ((r_X5_freeOnes M 1080) = 0) from c17), if_pos (show ((l_X2_searchFrom_5_36 (r_X5_freeOnes M 1080) (M, 0) (Int32.toNatClampNeg (M.1 100 2))).1.1 100 2) ≤ ((l_X2_searchFrom_5_36 (r_X5_freeOnes M 1080) (M, 0) (Int32.toNatClampNeg (M.1 100 2))).2) from c45)]; rfl) | rfl
    · rw [if_neg (show ¬ (((l_X2_searchFrom_5_36 (r_X5_freeOnes M 1080) (M, 0) (Int32.toNatClampNeg (M.1 100 2))).1.1 100 2) ≤ ((l_X2_searchFrom_5_36 (r_X5_freeOnes M 1080) (M, 0) (Int32.toNatClampNeg (M.1 100 2))).2)) from c45)] at hp
      refine absurd (ci_X2_searchFrom_5_36.mpr ?_) hx_36_1
      simp only [if_neg (show ¬ ((r_X5_freeOnes M 1080) = 0) from c17), if_neg (show ¬ (((l_X2_searchFrom_5_36 (r_X5_freeOnes M 1080) (M, 0) (Int32.toNatClampNeg (M.1 100 2))).1.1 100 2) ≤ ((l_X2_searchFrom_5_36 (r_X5_freeOnes M 1080) (M, 0) (Int32.toNatClampNeg (M.1 100 2))).2)) from c45)]
def c_X2_searchFrom_4_36 (x3 : Int32) (σ : Mm × Int32) : Prop := if (σ.1.1 100 2) ≤ σ.2 then False else True
theorem ci_X2_searchFrom_4_36  {x3 : Int32} {σ : Mm × Int32} : c_X2_searchFrom_4_36 x3 σ ↔ (if (σ.1.1 100 2) ≤ σ.2 then False else True) := Iff.rfl
noncomputable def s_X2_searchFrom_4_36 (x3 : Int32) (σ : Mm × Int32) : Mm × Int32 := if (σ.1.1 100 2) ≤ σ.2 then σ else if (b2i (¬ (x3 >>> (σ.2 &&& 31)) &&& 1 = 0)) = 0 then (σ.1, σ.2 + 1) else ((w_X2_searchFrom_5 (w_X5_carryOut (w_X3_take (wi σ.1 512 4 σ.2) 1080 1070) 1080 σ.2)), σ.2 + 1)
def q_X2_searchFrom_4_36 (x3 : Int32) (σ : Mm × Int32) : Prop := (if (σ.1.1 100 2) ≤ σ.2 then True else (if (b2i (¬ (x3 >>> (σ.2 &&& 31)) &&& 1 = 0)) = 0 then True else (p_X5_carryOut (w_X3_take (wi σ.1 512 4 σ.2) 1080 1070) 1080 σ.2) ∧ (p_X2_searchFrom_5 (w_X5_carryOut (w_X3_take (wi σ.1 512 4 σ.2) 1080 1070) 1080 σ.2) ) ∧ True))
noncomputable def l_X2_searchFrom_4_36 (x3 : Int32) (σ0 : Mm × Int32) : Nat → Mm × Int32 := itN (fun _ σ => s_X2_searchFrom_4_36 x3 σ) σ0
theorem ps_X2_searchFrom_4_36 {d : Nat} {J : Nat → Lc → List Value → Mm → Prop}  {x3 : Int32} {σ : Mm × Int32}  (g : Good mX2_searchFrom.1 mX2_searchFrom.2.2.1 mX2_searchFrom.2.2.2.1 (d + 6) J) (hc : c_X2_searchFrom_4_36 x3 σ) (hp : q_X2_searchFrom_4_36 x3 σ) (k : J 36 [some (.ref 510), some (.int 4), some (.ref 1070), some (.int x3), some (.int ((s_X2_searchFrom_4_36 x3 σ).2))] [] ((s_X2_searchFrom_4_36 x3 σ).1)) : J 36 [some (.ref 510), some (.int 4), some (.ref 1070), some (.int x3), some (.int σ.2)] [] σ.1 := by
  unfold c_X2_searchFrom_4_36 at hc
  unfold q_X2_searchFrom_4_36 at hp
  unfold s_X2_searchFrom_4_36 at k
  refine j_iload g (i := 4) (by decide +kernel) rfl ?_
  refine j_aload_n g (i := 0) (by decide +kernel) rfl ?_
  refine j_gA g (b := 100) f2_12 (by decide +kernel) (by decide +kernel) (by decide +kernel) (by decide +kernel) ?_
  refine j_gI g f2_129 (by decide +kernel) (by decide +kernel) (by decide +kernel) ?_
  refine j_icmp_ge g (off := 63) (tgt := 108) (by decide +kernel) (by decide) (fun c45 => ?_) (fun c45 => ?_)
  · (try rw [if_pos (show (σ.1.1 100 2) ≤ σ.2 from c45)] at hc); (rw [if_pos (show (σ.1.1 100 2) ≤ σ.2 from c45)] at hp); (try simp only [if_pos (show (σ.1.1 100 2) ≤ σ.2 from c45)] at k)
    exact hc.elim
  · (try rw [if_neg (show ¬ ((σ.1.1 100 2) ≤ σ.2) from c45)] at hc); (rw [if_neg (show ¬ ((σ.1.1 100 2) ≤ σ.2) from c45)] at hp); (try simp only [if_neg (show ¬ ((σ.1.1 100 2) ≤ σ.2) from c45)] at k)
    refine j_iload_n g (i := 3) (by decide +kernel) rfl ?_
    refine j_iload g (i := 4) (by decide +kernel) rfl ?_
    refine j_cS2r g s2_71 (by decide +kernel) (Nat.le_of_ble_eq_true rfl) (rnX2_isIn) ?_
    refine j_if_eq g (off := 48) (tgt := 102) (by decide +kernel) (by decide) (fun c54 => ?_) (fun c54 => ?_)
    · (try rw [if_pos (show (b2i (¬ (x3 >>> (σ.2 &&& 31)) &&& 1 = 0)) = 0 from c54)] at hc); (rw [if_pos (show (b2i (¬ (x3 >>> (σ.2 &&& 31)) &&& 1 = 0)) = 0 from c54)] at hp); (try simp only [if_pos (show (b2i (¬ (x3 >>> (σ.2 &&& 31)) &&& 1 = 0)) = 0 from c54)] at k)
      refine j_iinc g (i := 4) (n := 1) (1) (by decide +kernel) rfl (by decide) rfl ?_
      dsimp only [stL, clL, hdL]
      refine j_goto g (off := -69) (tgt := 36) (by decide +kernel) (by decide) ?_
      exact k 
    · (try rw [if_neg (show ¬ ((b2i (¬ (x3 >>> (σ.2 &&& 31)) &&& 1 = 0)) = 0) from c54)] at hc); (rw [if_neg (show ¬ ((b2i (¬ (x3 >>> (σ.2 &&& 31)) &&& 1 = 0)) = 0) from c54)] at hp); (try simp only [if_neg (show ¬ ((b2i (¬ (x3 >>> (σ.2 &&& 31)) &&& 1 = 0)) = 0) from c54)] at k)
      refine j_aload_n g (i := 0) (by decide +kernel) rfl ?_
      refine j_gA g (b := 512) f2_24 (by decide +kernel) (by decide +kernel) (by decide +kernel) (by decide +kernel) ?_
      refine j_iload_n g (i := 1) (by decide +kernel) rfl ?_
      refine j_iload g (i := 4) (by decide +kernel) rfl ?_
      refine j_isc g 6 4 (by decide +kernel) (by decide +kernel) (by decide +kernel) (vin_b (by decide +kernel)) (by decide) ?_
      refine j_aload_n g (i := 0) (by decide +kernel) rfl ?_
      refine j_gA g (b := 511) f2_20 (by decide +kernel) (by decide +kernel) (by decide +kernel) (by decide +kernel) ?_
      refine j_iload_n g (i := 1) (by decide +kernel) rfl ?_
      refine j_iconst g (n := 1) (1) (by decide +kernel) rfl ?_
      refine j_iadd g (by decide +kernel) ?_
      rw [show (4 : Int32) + 1 = 5 from by decide]
      refine j_aS g (b := 1080) 7 (by decide +kernel) (by decide +kernel) (by decide +kernel) (vin_b (by decide +kernel)) (by decide +kernel) ?_
      refine j_aload_n g (i := 2) (by decide +kernel) rfl ?_
      refine j_cV1v g v2_132 ⟨rfl, by decide⟩ (by decide +kernel) (by decide +kernel) (Nat.le_of_ble_eq_true rfl) (rnX3_take (by simp [isS]) (by simp [isS])) ?_
      refine j_aload_n g (i := 0) (by decide +kernel) rfl ?_
      refine j_gA g (b := 100) f2_12 (by decide +kernel) (by decide +kernel) (by decide +kernel) (by decide +kernel) ?_
      refine j_aload_n g (i := 0) (by decide +kernel) rfl ?_
      refine j_gA g (b := 511) f2_20 (by decide +kernel) (by decide +kernel) (by decide +kernel) (by decide +kernel) ?_
      refine j_iload_n g (i := 1) (by decide +kernel) rfl ?_
      refine j_iconst g (n := 1) (1) (by decide +kernel) rfl ?_
      refine j_iadd g (by decide +kernel) ?_
      rw [show (4 : Int32) + 1 = 5 from by decide]
      refine j_aS g (b := 1080) 7 (by decide +kernel) (by decide +kernel) (by decide +kernel) (vin_b (by decide +kernel)) (by decide +kernel) ?_
      refine j_iload g (i := 4) (by decide +kernel) rfl ?_
      obtain ⟨h0, hp⟩ := hp
      refine j_cV2r g v2_98 ⟨rfl, by decide⟩ (by decide +kernel) (by decide +kernel) (Nat.le_of_ble_eq_true rfl) (rnX5_carryOut (by simp [isS]) h0) ?_
      refine j_pop g (by decide +kernel) rfl ?_
      refine j_aload_n g (i := 0) (by decide +kernel) rfl ?_
      refine j_iload_n g (i := 1) (by decide +kernel) rfl ?_
      refine j_iconst g (n := 1) (1) (by decide +kernel) rfl ?_
      refine j_iadd g (by decide +kernel) ?_
      rw [show (4 : Int32) + 1 = 5 from by decide]
      obtain ⟨h0, hp⟩ := hp
      refine j_cV1v g v2_118 ⟨rfl, by decide⟩ (by decide +kernel) (by decide +kernel) (Nat.le_of_ble_eq_true rfl) (rnX2_searchFrom_5 h0) ?_
      refine j_iinc g (i := 4) (n := 1) (1) (by decide +kernel) rfl (by decide) rfl ?_
      dsimp only [stL, clL, hdL]
      refine j_goto g (off := -69) (tgt := 36) (by decide +kernel) (by decide) ?_
      exact k 
theorem sh_X2_searchFrom_4_36 {d : Nat} {J : Nat → Lc → List Value → Mm → Prop}  {x3 : Int32} {σ0 : Mm × Int32}  (g : Good mX2_searchFrom.1 mX2_searchFrom.2.2.1 mX2_searchFrom.2.2.2.1 (d + 6) J) : ∀ (N : Nat), (∀ k, k < N → c_X2_searchFrom_4_36 x3 (l_X2_searchFrom_4_36 x3 σ0 k)) → (∀ k, k < N → q_X2_searchFrom_4_36 x3 (l_X2_searchFrom_4_36 x3 σ0 k)) → (J 36 [some (.ref 510), some (.int 4), some (.ref 1070), some (.int x3), some (.int ((l_X2_searchFrom_4_36 x3 σ0 N).2))] [] ((l_X2_searchFrom_4_36 x3 σ0 N).1)) → J 36 [some (.ref 510), some (.int 4), some (.ref 1070), some (.int x3), some (.int σ0.2)] [] σ0.1
  | 0, _, _, k => k
  | N + 1, hc, hp, k => sh_X2_searchFrom_4_36  g N (fun i hi => hc i (Nat.lt_succ_of_lt hi)) (fun i hi => hp i (Nat.lt_succ_of_lt hi)) (ps_X2_searchFrom_4_36  g (hc N (Nat.lt_succ_self N)) (hp N (Nat.lt_succ_self N)) k)
noncomputable def w_X2_searchFrom_4 (M : Mm)  : Mm := if (r_X5_freeOnes M 1070) = 0 then (w_X2_compare M 1070 (4 : Int32)) else if ((l_X2_searchFrom_4_36 (r_X5_freeOnes M 1070) (M, 0) (Int32.toNatClampNeg (M.1 100 2))).1.1 100 2) ≤ ((l_X2_searchFrom_4_36 (r_X5_freeOnes M 1070) (M, 0) (Int32.toNatClampNeg (M.1 100 2))).2) then (l_X2_searchFrom_4_36 (r_X5_freeOnes M 1070) (M, 0) (Int32.toNatClampNeg (M.1 100 2))).1 else M
def p_X2_searchFrom_4 (M : Mm)  : Prop := (p_X5_freeOnes M 1070) ∧ (if (r_X5_freeOnes M 1070) = 0 then (p_X2_compare M 1070 (4 : Int32)) ∧ True else (∀ k, k < (Int32.toNatClampNeg (M.1 100 2)) → c_X2_searchFrom_4_36 (r_X5_freeOnes M 1070) (l_X2_searchFrom_4_36 (r_X5_freeOnes M 1070) (M, 0) k)) ∧ (∀ k, k < (Int32.toNatClampNeg (M.1 100 2)) → q_X2_searchFrom_4_36 (r_X5_freeOnes M 1070) (l_X2_searchFrom_4_36 (r_X5_freeOnes M 1070) (M, 0) k)) ∧ (¬ c_X2_searchFrom_4_36 (r_X5_freeOnes M 1070) (l_X2_searchFrom_4_36 (r_X5_freeOnes M 1070) (M, 0) (Int32.toNatClampNeg (M.1 100 2)))) ∧ (if ((l_X2_searchFrom_4_36 (r_X5_freeOnes M 1070) (M, 0) (Int32.toNatClampNeg (M.1 100 2))).1.1 100 2) ≤ ((l_X2_searchFrom_4_36 (r_X5_freeOnes M 1070) (M, 0) (Int32.toNatClampNeg (M.1 100 2))).2) then True else True))
set_option maxRecDepth 20000 in
theorem rnX2_searchFrom_4 {d : Nat} {M : Mm}   (hp : p_X2_searchFrom_4 M ) : Rn (d + 6) mX2_searchFrom [.ref 510, .int 4] M none (w_X2_searchFrom_4 M ) := by
  refine Rn.of [some (.ref 510), some (.int 4), none, none, none] (by decide +kernel) rfl (Nat.le_of_ble_eq_true rfl) rfl (fun J g hr => ?_)
  unfold p_X2_searchFrom_4 at hp
  refine j_aload_n g (i := 0) (by decide +kernel) rfl ?_
  refine j_gA g (b := 511) f2_20 (by decide +kernel) (by decide +kernel) (by decide +kernel) (by decide +kernel) ?_
  refine j_iload_n g (i := 1) (by decide +kernel) rfl ?_
  refine j_aS g (b := 1070) 7 (by decide +kernel) (by decide +kernel) (by decide +kernel) (vin_b (by decide +kernel)) (by decide +kernel) ?_
  refine j_astore_n g (i := 2) (by decide +kernel) (by decide) ?_
  dsimp only [stL, clL, hdL]
  refine j_aload_n g (i := 0) (by decide +kernel) rfl ?_
  refine j_gA g (b := 100) f2_12 (by decide +kernel) (by decide +kernel) (by decide +kernel) (by decide +kernel) ?_
  refine j_aload_n g (i := 2) (by decide +kernel) rfl ?_
  obtain ⟨h0, hp⟩ := hp
  refine j_cV1r g v2_122 ⟨rfl, by decide⟩ (by decide +kernel) (by decide +kernel) (Nat.le_of_ble_eq_true rfl) (rnX5_freeOnes (by simp [isS]) h0) ?_
  refine j_istore_n g (i := 3) (by decide +kernel) (by decide) ?_
  dsimp only [stL, clL, hdL]
  refine j_iload_n g (i := 3) (by decide +kernel) rfl ?_
  refine j_if_eq g (off := 9) (tgt := 26) (by decide +kernel) (by decide) (fun c17 => ?_) (fun c17 => ?_)
  · rw [if_pos (show (r_X5_freeOnes M 1070) = 0 from c17)] at hp
    refine j_aload_n g (i := 0) (by decide +kernel) rfl ?_
    refine j_aload_n g (i := 2) (by decide +kernel) rfl ?_
    refine j_iload_n g (i := 1) (by decide +kernel) rfl ?_
    obtain ⟨h0, hp⟩ := hp
    refine j_cV2v g v2_125 ⟨rfl, by decide⟩ (by decide +kernel) (by decide +kernel) (Nat.le_of_ble_eq_true rfl) (rnX2_compare (by simp [isS]) h0) ?_
    refine hr.2.2.2 _ _ _ (by decide +kernel) rfl rfl ?_
    · unfold w_X2_searchFrom_4; first | (simp only [if_pos (show (r_X5_freeOnes M 1070) = 0 from c17)]; done) | (simp only [if_pos (show (r_X5_freeOnes M 1070) = 0 from c17)]; rfl) | rfl
  · rw [if_neg (show ¬ ((r_X5_freeOnes M 1070) = 0) from c17)] at hp
    refine j_iload_n g (i := 1) (by decide +kernel) rfl ?_
    refine j_bipush g (n := 6) (6) (by decide +kernel) (by decide +kernel) ?_
    refine j_icmp_lt g (off := 10) (tgt := 33) (by decide +kernel) (by decide) (fun _ => ?_) (fun c => absurd (by first | decide | rfl | exact Int32.le_refl _) c)
    refine j_iconst g (n := 0) (0) (by decide +kernel) rfl ?_
    refine j_istore g (i := 4) (by decide +kernel) (by decide) ?_
    dsimp only [stL, clL, hdL]
    obtain ⟨h0, hp⟩ := hp
    have hc_36_1 := h0
    obtain ⟨h0, hp⟩ := hp
    have hq_36_1 := h0
    obtain ⟨h0, hp⟩ := hp
    have hx_36_1 := h0
    refine sh_X2_searchFrom_4_36 (x3 := (r_X5_freeOnes M 1070))  g (σ0 := (M, 0)) (Int32.toNatClampNeg (M.1 100 2)) hc_36_1 hq_36_1 ?_ 
    refine j_iload g (i := 4) (by decide +kernel) rfl ?_
    refine j_aload_n g (i := 0) (by decide +kernel) rfl ?_
    refine j_gA g (b := 100) f2_12 (by decide +kernel) (by decide +kernel) (by decide +kernel) (by decide +kernel) ?_
    refine j_gI g f2_129 (by decide +kernel) (by decide +kernel) (by decide +kernel) ?_
    refine j_icmp_ge g (off := 63) (tgt := 108) (by decide +kernel) (by decide) (fun c45 => ?_) (fun c45 => ?_)
    · rw [if_pos (show ((l_X2_searchFrom_4_36 (r_X5_freeOnes M 1070) (M, 0) (Int32.toNatClampNeg (M.1 100 2))).1.1 100 2) ≤ ((l_X2_searchFrom_4_36 (r_X5_freeOnes M 1070) (M, 0) (Int32.toNatClampNeg (M.1 100 2))).2) from c45)] at hp
      refine hr.2.2.2 _ _ _ (by decide +kernel) rfl rfl ?_
      · unfold w_X2_searchFrom_4; first | (simp only [if_neg (show ¬ ((r_X5_freeOnes M 1070) = 0) from c17), if_pos (show ((l_X2_searchFrom_4_36 (r_X5_freeOnes M 1070) (M, 0) (Int32.toNatClampNeg (M.1 100 2))).1.1 100 2) ≤ ((l_X2_searchFrom_4_36 (r_X5_freeOnes M 1070) (M, 0) (Int32.toNatClampNeg (M.1 100 2))).2) from c45)]; done) | (simp only [if_neg (show ¬ ((r_X5_freeOnes M 1070) = 0) from c17), if_pos (show ((l_X2_searchFrom_4_36 (r_X5_freeOnes M 1070) (M, 0) (Int32.toNatClampNeg (M.1 100 2))).1.1 100 2) ≤ ((l_X2_searchFrom_4_36 (r_X5_freeOnes M 1070) (M, 0) (Int32.toNatClampNeg (M.1 100 2))).2) from c45)]; rfl) | rfl
    · rw [if_neg (show ¬ (((l_X2_searchFrom_4_36 (r_X5_freeOnes M 1070) (M, 0) (Int32.toNatClampNeg (M.1 100 2))).1.1 100 2) ≤ ((l_X2_searchFrom_4_36 (r_X5_freeOnes M 1070) (M, 0) (Int32.toNatClampNeg (M.1 100 2))).2)) from c45)] at hp
      refine absurd (ci_X2_searchFrom_4_36.mpr ?_) hx_36_1
      simp only [if_neg (show ¬ ((r_X5_freeOnes M 1070) = 0) from c17), if_neg (show ¬ (((l_X2_searchFrom_4_36 (r_X5_freeOnes M 1070) (M, 0) (Int32.toNatClampNeg (M.1 100 2))).1.1 100 2) ≤ ((l_X2_searchFrom_4_36 (r_X5_freeOnes M 1070) (M, 0) (Int32.toNatClampNeg (M.1 100 2))).2)) from c45)]
def c_X2_searchFrom_3_36 (x3 : Int32) (σ : Mm × Int32) : Prop := if (σ.1.1 100 2) ≤ σ.2 then False else True
theorem ci_X2_searchFrom_3_36  {x3 : Int32} {σ : Mm × Int32} : c_X2_searchFrom_3_36 x3 σ ↔ (if (σ.1.1 100 2) ≤ σ.2 then False else True) := Iff.rfl
noncomputable def s_X2_searchFrom_3_36 (x3 : Int32) (σ : Mm × Int32) : Mm × Int32 := if (σ.1.1 100 2) ≤ σ.2 then σ else if (b2i (¬ (x3 >>> (σ.2 &&& 31)) &&& 1 = 0)) = 0 then (σ.1, σ.2 + 1) else ((w_X2_searchFrom_4 (w_X5_carryOut (w_X3_take (wi σ.1 512 3 σ.2) 1070 1060) 1070 σ.2)), σ.2 + 1)
def q_X2_searchFrom_3_36 (x3 : Int32) (σ : Mm × Int32) : Prop := (if (σ.1.1 100 2) ≤ σ.2 then True else (if (b2i (¬ (x3 >>> (σ.2 &&& 31)) &&& 1 = 0)) = 0 then True else (p_X5_carryOut (w_X3_take (wi σ.1 512 3 σ.2) 1070 1060) 1070 σ.2) ∧ (p_X2_searchFrom_4 (w_X5_carryOut (w_X3_take (wi σ.1 512 3 σ.2) 1070 1060) 1070 σ.2) ) ∧ True))
noncomputable def l_X2_searchFrom_3_36 (x3 : Int32) (σ0 : Mm × Int32) : Nat → Mm × Int32 := itN (fun _ σ => s_X2_searchFrom_3_36 x3 σ) σ0
theorem ps_X2_searchFrom_3_36 {d : Nat} {J : Nat → Lc → List Value → Mm → Prop}  {x3 : Int32} {σ : Mm × Int32}  (g : Good mX2_searchFrom.1 mX2_searchFrom.2.2.1 mX2_searchFrom.2.2.2.1 (d + 7) J) (hc : c_X2_searchFrom_3_36 x3 σ) (hp : q_X2_searchFrom_3_36 x3 σ) (k : J 36 [some (.ref 510), some (.int 3), some (.ref 1060), some (.int x3), some (.int ((s_X2_searchFrom_3_36 x3 σ).2))] [] ((s_X2_searchFrom_3_36 x3 σ).1)) : J 36 [some (.ref 510), some (.int 3), some (.ref 1060), some (.int x3), some (.int σ.2)] [] σ.1 := by
  unfold c_X2_searchFrom_3_36 at hc
  unfold q_X2_searchFrom_3_36 at hp
  unfold s_X2_searchFrom_3_36 at k
  refine j_iload g (i := 4) (by decide +kernel) rfl ?_
  refine j_aload_n g (i := 0) (by decide +kernel) rfl ?_
  refine j_gA g (b := 100) f2_12 (by decide +kernel) (by decide +kernel) (by decide +kernel) (by decide +kernel) ?_
  refine j_gI g f2_129 (by decide +kernel) (by decide +kernel) (by decide +kernel) ?_
  refine j_icmp_ge g (off := 63) (tgt := 108) (by decide +kernel) (by decide) (fun c45 => ?_) (fun c45 => ?_)
  · (try rw [if_pos (show (σ.1.1 100 2) ≤ σ.2 from c45)] at hc); (rw [if_pos (show (σ.1.1 100 2) ≤ σ.2 from c45)] at hp); (try simp only [if_pos (show (σ.1.1 100 2) ≤ σ.2 from c45)] at k)
    exact hc.elim
  · (try rw [if_neg (show ¬ ((σ.1.1 100 2) ≤ σ.2) from c45)] at hc); (rw [if_neg (show ¬ ((σ.1.1 100 2) ≤ σ.2) from c45)] at hp); (try simp only [if_neg (show ¬ ((σ.1.1 100 2) ≤ σ.2) from c45)] at k)
    refine j_iload_n g (i := 3) (by decide +kernel) rfl ?_
    refine j_iload g (i := 4) (by decide +kernel) rfl ?_
    refine j_cS2r g s2_71 (by decide +kernel) (Nat.le_of_ble_eq_true rfl) (rnX2_isIn) ?_
    refine j_if_eq g (off := 48) (tgt := 102) (by decide +kernel) (by decide) (fun c54 => ?_) (fun c54 => ?_)
    · (try rw [if_pos (show (b2i (¬ (x3 >>> (σ.2 &&& 31)) &&& 1 = 0)) = 0 from c54)] at hc); (rw [if_pos (show (b2i (¬ (x3 >>> (σ.2 &&& 31)) &&& 1 = 0)) = 0 from c54)] at hp); (try simp only [if_pos (show (b2i (¬ (x3 >>> (σ.2 &&& 31)) &&& 1 = 0)) = 0 from c54)] at k)
      refine j_iinc g (i := 4) (n := 1) (1) (by decide +kernel) rfl (by decide) rfl ?_
      dsimp only [stL, clL, hdL]
      refine j_goto g (off := -69) (tgt := 36) (by decide +kernel) (by decide) ?_
      exact k 
    · (try rw [if_neg (show ¬ ((b2i (¬ (x3 >>> (σ.2 &&& 31)) &&& 1 = 0)) = 0) from c54)] at hc); (rw [if_neg (show ¬ ((b2i (¬ (x3 >>> (σ.2 &&& 31)) &&& 1 = 0)) = 0) from c54)] at hp); (try simp only [if_neg (show ¬ ((b2i (¬ (x3 >>> (σ.2 &&& 31)) &&& 1 = 0)) = 0) from c54)] at k)
      refine j_aload_n g (i := 0) (by decide +kernel) rfl ?_
      refine j_gA g (b := 512) f2_24 (by decide +kernel) (by decide +kernel) (by decide +kernel) (by decide +kernel) ?_
      refine j_iload_n g (i := 1) (by decide +kernel) rfl ?_
      refine j_iload g (i := 4) (by decide +kernel) rfl ?_
      refine j_isc g 6 3 (by decide +kernel) (by decide +kernel) (by decide +kernel) (vin_b (by decide +kernel)) (by decide) ?_
      refine j_aload_n g (i := 0) (by decide +kernel) rfl ?_
      refine j_gA g (b := 511) f2_20 (by decide +kernel) (by decide +kernel) (by decide +kernel) (by decide +kernel) ?_
      refine j_iload_n g (i := 1) (by decide +kernel) rfl ?_
      refine j_iconst g (n := 1) (1) (by decide +kernel) rfl ?_
      refine j_iadd g (by decide +kernel) ?_
      rw [show (3 : Int32) + 1 = 4 from by decide]
      refine j_aS g (b := 1070) 7 (by decide +kernel) (by decide +kernel) (by decide +kernel) (vin_b (by decide +kernel)) (by decide +kernel) ?_
      refine j_aload_n g (i := 2) (by decide +kernel) rfl ?_
      refine j_cV1v g v2_132 ⟨rfl, by decide⟩ (by decide +kernel) (by decide +kernel) (Nat.le_of_ble_eq_true rfl) (rnX3_take (by simp [isS]) (by simp [isS])) ?_
      refine j_aload_n g (i := 0) (by decide +kernel) rfl ?_
      refine j_gA g (b := 100) f2_12 (by decide +kernel) (by decide +kernel) (by decide +kernel) (by decide +kernel) ?_
      refine j_aload_n g (i := 0) (by decide +kernel) rfl ?_
      refine j_gA g (b := 511) f2_20 (by decide +kernel) (by decide +kernel) (by decide +kernel) (by decide +kernel) ?_
      refine j_iload_n g (i := 1) (by decide +kernel) rfl ?_
      refine j_iconst g (n := 1) (1) (by decide +kernel) rfl ?_
      refine j_iadd g (by decide +kernel) ?_
      rw [show (3 : Int32) + 1 = 4 from by decide]
      refine j_aS g (b := 1070) 7 (by decide +kernel) (by decide +kernel) (by decide +kernel) (vin_b (by decide +kernel)) (by decide +kernel) ?_
      refine j_iload g (i := 4) (by decide +kernel) rfl ?_
      obtain ⟨h0, hp⟩ := hp
      refine j_cV2r g v2_98 ⟨rfl, by decide⟩ (by decide +kernel) (by decide +kernel) (Nat.le_of_ble_eq_true rfl) (rnX5_carryOut (by simp [isS]) h0) ?_
      refine j_pop g (by decide +kernel) rfl ?_
      refine j_aload_n g (i := 0) (by decide +kernel) rfl ?_
      refine j_iload_n g (i := 1) (by decide +kernel) rfl ?_
      refine j_iconst g (n := 1) (1) (by decide +kernel) rfl ?_
      refine j_iadd g (by decide +kernel) ?_
      rw [show (3 : Int32) + 1 = 4 from by decide]
      obtain ⟨h0, hp⟩ := hp
      refine j_cV1v g v2_118 ⟨rfl, by decide⟩ (by decide +kernel) (by decide +kernel) (Nat.le_of_ble_eq_true rfl) (rnX2_searchFrom_4 h0) ?_
      refine j_iinc g (i := 4) (n := 1) (1) (by decide +kernel) rfl (by decide) rfl ?_
      dsimp only [stL, clL, hdL]
      refine j_goto g (off := -69) (tgt := 36) (by decide +kernel) (by decide) ?_
      exact k 
theorem sh_X2_searchFrom_3_36 {d : Nat} {J : Nat → Lc → List Value → Mm → Prop}  {x3 : Int32} {σ0 : Mm × Int32}  (g : Good mX2_searchFrom.1 mX2_searchFrom.2.2.1 mX2_searchFrom.2.2.2.1 (d + 7) J) : ∀ (N : Nat), (∀ k, k < N → c_X2_searchFrom_3_36 x3 (l_X2_searchFrom_3_36 x3 σ0 k)) → (∀ k, k < N → q_X2_searchFrom_3_36 x3 (l_X2_searchFrom_3_36 x3 σ0 k)) → (J 36 [some (.ref 510), some (.int 3), some (.ref 1060), some (.int x3), some (.int ((l_X2_searchFrom_3_36 x3 σ0 N).2))] [] ((l_X2_searchFrom_3_36 x3 σ0 N).1)) → J 36 [some (.ref 510), some (.int 3), some (.ref 1060), some (.int x3), some (.int σ0.2)] [] σ0.1
  | 0, _, _, k => k
  | N + 1, hc, hp, k => sh_X2_searchFrom_3_36  g N (fun i hi => hc i (Nat.lt_succ_of_lt hi)) (fun i hi => hp i (Nat.lt_succ_of_lt hi)) (ps_X2_searchFrom_3_36  g (hc N (Nat.lt_succ_self N)) (hp N (Nat.lt_succ_self N)) k)
noncomputable def w_X2_searchFrom_3 (M : Mm)  : Mm := if (r_X5_freeOnes M 1060) = 0 then (w_X2_compare M 1060 (3 : Int32)) else if ((l_X2_searchFrom_3_36 (r_X5_freeOnes M 1060) (M, 0) (Int32.toNatClampNeg (M.1 100 2))).1.1 100 2) ≤ ((l_X2_searchFrom_3_36 (r_X5_freeOnes M 1060) (M, 0) (Int32.toNatClampNeg (M.1 100 2))).2) then (l_X2_searchFrom_3_36 (r_X5_freeOnes M 1060) (M, 0) (Int32.toNatClampNeg (M.1 100 2))).1 else M
def p_X2_searchFrom_3 (M : Mm)  : Prop := (p_X5_freeOnes M 1060) ∧ (if (r_X5_freeOnes M 1060) = 0 then (p_X2_compare M 1060 (3 : Int32)) ∧ True else (∀ k, k < (Int32.toNatClampNeg (M.1 100 2)) → c_X2_searchFrom_3_36 (r_X5_freeOnes M 1060) (l_X2_searchFrom_3_36 (r_X5_freeOnes M 1060) (M, 0) k)) ∧ (∀ k, k < (Int32.toNatClampNeg (M.1 100 2)) → q_X2_searchFrom_3_36 (r_X5_freeOnes M 1060) (l_X2_searchFrom_3_36 (r_X5_freeOnes M 1060) (M, 0) k)) ∧ (¬ c_X2_searchFrom_3_36 (r_X5_freeOnes M 1060) (l_X2_searchFrom_3_36 (r_X5_freeOnes M 1060) (M, 0) (Int32.toNatClampNeg (M.1 100 2)))) ∧ (if ((l_X2_searchFrom_3_36 (r_X5_freeOnes M 1060) (M, 0) (Int32.toNatClampNeg (M.1 100 2))).1.1 100 2) ≤ ((l_X2_searchFrom_3_36 (r_X5_freeOnes M 1060) (M, 0) (Int32.toNatClampNeg (M.1 100 2))).2) then True else True))
set_option maxRecDepth 20000 in
theorem rnX2_searchFrom_3 {d : Nat} {M : Mm}   (hp : p_X2_searchFrom_3 M ) : Rn (d + 7) mX2_searchFrom [.ref 510, .int 3] M none (w_X2_searchFrom_3 M ) := by
  refine Rn.of [some (.ref 510), some (.int 3), none, none, none] (by decide +kernel) rfl (Nat.le_of_ble_eq_true rfl) rfl (fun J g hr => ?_)
  unfold p_X2_searchFrom_3 at hp
  refine j_aload_n g (i := 0) (by decide +kernel) rfl ?_
  refine j_gA g (b := 511) f2_20 (by decide +kernel) (by decide +kernel) (by decide +kernel) (by decide +kernel) ?_
  refine j_iload_n g (i := 1) (by decide +kernel) rfl ?_
  refine j_aS g (b := 1060) 7 (by decide +kernel) (by decide +kernel) (by decide +kernel) (vin_b (by decide +kernel)) (by decide +kernel) ?_
  refine j_astore_n g (i := 2) (by decide +kernel) (by decide) ?_
  dsimp only [stL, clL, hdL]
  refine j_aload_n g (i := 0) (by decide +kernel) rfl ?_
  refine j_gA g (b := 100) f2_12 (by decide +kernel) (by decide +kernel) (by decide +kernel) (by decide +kernel) ?_
  refine j_aload_n g (i := 2) (by decide +kernel) rfl ?_
  obtain ⟨h0, hp⟩ := hp
  refine j_cV1r g v2_122 ⟨rfl, by decide⟩ (by decide +kernel) (by decide +kernel) (Nat.le_of_ble_eq_true rfl) (rnX5_freeOnes (by simp [isS]) h0) ?_
  refine j_istore_n g (i := 3) (by decide +kernel) (by decide) ?_
  dsimp only [stL, clL, hdL]
  refine j_iload_n g (i := 3) (by decide +kernel) rfl ?_
  refine j_if_eq g (off := 9) (tgt := 26) (by decide +kernel) (by decide) (fun c17 => ?_) (fun c17 => ?_)
  · rw [if_pos (show (r_X5_freeOnes M 1060) = 0 from c17)] at hp
    refine j_aload_n g (i := 0) (by decide +kernel) rfl ?_
    refine j_aload_n g (i := 2) (by decide +kernel) rfl ?_
    refine j_iload_n g (i := 1) (by decide +kernel) rfl ?_
    obtain ⟨h0, hp⟩ := hp
    refine j_cV2v g v2_125 ⟨rfl, by decide⟩ (by decide +kernel) (by decide +kernel) (Nat.le_of_ble_eq_true rfl) (rnX2_compare (by simp [isS]) h0) ?_
    refine hr.2.2.2 _ _ _ (by decide +kernel) rfl rfl ?_
    · unfold w_X2_searchFrom_3; first | (simp only [if_pos (show (r_X5_freeOnes M 1060) = 0 from c17)]; done) | (simp only [if_pos (show (r_X5_freeOnes M 1060) = 0 from c17)]; rfl) | rfl
  · rw [if_neg (show ¬ ((r_X5_freeOnes M 1060) = 0) from c17)] at hp
    refine j_iload_n g (i := 1) (by decide +kernel) rfl ?_
    refine j_bipush g (n := 6) (6) (by decide +kernel) (by decide +kernel) ?_
    refine j_icmp_lt g (off := 10) (tgt := 33) (by decide +kernel) (by decide) (fun _ => ?_) (fun c => absurd (by first | decide | rfl | exact Int32.le_refl _) c)
    refine j_iconst g (n := 0) (0) (by decide +kernel) rfl ?_
    refine j_istore g (i := 4) (by decide +kernel) (by decide) ?_
    dsimp only [stL, clL, hdL]
    obtain ⟨h0, hp⟩ := hp
    have hc_36_1 := h0
    obtain ⟨h0, hp⟩ := hp
    have hq_36_1 := h0
    obtain ⟨h0, hp⟩ := hp
    have hx_36_1 := h0
    refine sh_X2_searchFrom_3_36 (x3 := (r_X5_freeOnes M 1060))  g (σ0 := (M, 0)) (Int32.toNatClampNeg (M.1 100 2)) hc_36_1 hq_36_1 ?_ 
    refine j_iload g (i := 4) (by decide +kernel) rfl ?_
    refine j_aload_n g (i := 0) (by decide +kernel) rfl ?_
    refine j_gA g (b := 100) f2_12 (by decide +kernel) (by decide +kernel) (by decide +kernel) (by decide +kernel) ?_
    refine j_gI g f2_129 (by decide +kernel) (by decide +kernel) (by decide +kernel) ?_
    refine j_icmp_ge g (off := 63) (tgt := 108) (by decide +kernel) (by decide) (fun c45 => ?_) (fun c45 => ?_)
    · rw [if_pos (show ((l_X2_searchFrom_3_36 (r_X5_freeOnes M 1060) (M, 0) (Int32.toNatClampNeg (M.1 100 2))).1.1 100 2) ≤ ((l_X2_searchFrom_3_36 (r_X5_freeOnes M 1060) (M, 0) (Int32.toNatClampNeg (M.1 100 2))).2) from c45)] at hp
      refine hr.2.2.2 _ _ _ (by decide +kernel) rfl rfl ?_
      · unfold w_X2_searchFrom_3; first | (simp only [if_neg (show ¬ ((r_X5_freeOnes M 1060) = 0) from c17), if_pos (show ((l_X2_searchFrom_3_36 (r_X5_freeOnes M 1060) (M, 0) (Int32.toNatClampNeg (M.1 100 2))).1.1 100 2) ≤ ((l_X2_searchFrom_3_36 (r_X5_freeOnes M 1060) (M, 0) (Int32.toNatClampNeg (M.1 100 2))).2) from c45)]; done) | (simp only [if_neg (show ¬ ((r_X5_freeOnes M 1060) = 0) from c17), if_pos (show ((l_X2_searchFrom_3_36 (r_X5_freeOnes M 1060) (M, 0) (Int32.toNatClampNeg (M.1 100 2))).1.1 100 2) ≤ ((l_X2_searchFrom_3_36 (r_X5_freeOnes M 1060) (M, 0) (Int32.toNatClampNeg (M.1 100 2))).2) from c45)]; rfl) | rfl
    · rw [if_neg (show ¬ (((l_X2_searchFrom_3_36 (r_X5_freeOnes M 1060) (M, 0) (Int32.toNatClampNeg (M.1 100 2))).1.1 100 2) ≤ ((l_X2_searchFrom_3_36 (r_X5_freeOnes M 1060) (M, 0) (Int32.toNatClampNeg (M.1 100 2))).2)) from c45)] at hp
      refine absurd (ci_X2_searchFrom_3_36.mpr ?_) hx_36_1
      simp only [if_neg (show ¬ ((r_X5_freeOnes M 1060) = 0) from c17), if_neg (show ¬ (((l_X2_searchFrom_3_36 (r_X5_freeOnes M 1060) (M, 0) (Int32.toNatClampNeg (M.1 100 2))).1.1 100 2) ≤ ((l_X2_searchFrom_3_36 (r_X5_freeOnes M 1060) (M, 0) (Int32.toNatClampNeg (M.1 100 2))).2)) from c45)]
def c_X2_searchFrom_2_36 (x3 : Int32) (σ : Mm × Int32) : Prop := if (σ.1.1 100 2) ≤ σ.2 then False else True
theorem ci_X2_searchFrom_2_36  {x3 : Int32} {σ : Mm × Int32} : c_X2_searchFrom_2_36 x3 σ ↔ (if (σ.1.1 100 2) ≤ σ.2 then False else True) := Iff.rfl
noncomputable def s_X2_searchFrom_2_36 (x3 : Int32) (σ : Mm × Int32) : Mm × Int32 := if (σ.1.1 100 2) ≤ σ.2 then σ else if (b2i (¬ (x3 >>> (σ.2 &&& 31)) &&& 1 = 0)) = 0 then (σ.1, σ.2 + 1) else ((w_X2_searchFrom_3 (w_X5_carryOut (w_X3_take (wi σ.1 512 2 σ.2) 1060 1050) 1060 σ.2)), σ.2 + 1)
def q_X2_searchFrom_2_36 (x3 : Int32) (σ : Mm × Int32) : Prop := (if (σ.1.1 100 2) ≤ σ.2 then True else (if (b2i (¬ (x3 >>> (σ.2 &&& 31)) &&& 1 = 0)) = 0 then True else (p_X5_carryOut (w_X3_take (wi σ.1 512 2 σ.2) 1060 1050) 1060 σ.2) ∧ (p_X2_searchFrom_3 (w_X5_carryOut (w_X3_take (wi σ.1 512 2 σ.2) 1060 1050) 1060 σ.2) ) ∧ True))
noncomputable def l_X2_searchFrom_2_36 (x3 : Int32) (σ0 : Mm × Int32) : Nat → Mm × Int32 := itN (fun _ σ => s_X2_searchFrom_2_36 x3 σ) σ0
theorem ps_X2_searchFrom_2_36 {d : Nat} {J : Nat → Lc → List Value → Mm → Prop}  {x3 : Int32} {σ : Mm × Int32}  (g : Good mX2_searchFrom.1 mX2_searchFrom.2.2.1 mX2_searchFrom.2.2.2.1 (d + 8) J) (hc : c_X2_searchFrom_2_36 x3 σ) (hp : q_X2_searchFrom_2_36 x3 σ) (k : J 36 [some (.ref 510), some (.int 2), some (.ref 1050), some (.int x3), some (.int ((s_X2_searchFrom_2_36 x3 σ).2))] [] ((s_X2_searchFrom_2_36 x3 σ).1)) : J 36 [some (.ref 510), some (.int 2), some (.ref 1050), some (.int x3), some (.int σ.2)] [] σ.1 := by
  unfold c_X2_searchFrom_2_36 at hc
  unfold q_X2_searchFrom_2_36 at hp
  unfold s_X2_searchFrom_2_36 at k
  refine j_iload g (i := 4) (by decide +kernel) rfl ?_
  refine j_aload_n g (i := 0) (by decide +kernel) rfl ?_
  refine j_gA g (b := 100) f2_12 (by decide +kernel) (by decide +kernel) (by decide +kernel) (by decide +kernel) ?_
  refine j_gI g f2_129 (by decide +kernel) (by decide +kernel) (by decide +kernel) ?_
  refine j_icmp_ge g (off := 63) (tgt := 108) (by decide +kernel) (by decide) (fun c45 => ?_) (fun c45 => ?_)
  · (try rw [if_pos (show (σ.1.1 100 2) ≤ σ.2 from c45)] at hc); (rw [if_pos (show (σ.1.1 100 2) ≤ σ.2 from c45)] at hp); (try simp only [if_pos (show (σ.1.1 100 2) ≤ σ.2 from c45)] at k)
    exact hc.elim
  · (try rw [if_neg (show ¬ ((σ.1.1 100 2) ≤ σ.2) from c45)] at hc); (rw [if_neg (show ¬ ((σ.1.1 100 2) ≤ σ.2) from c45)] at hp); (try simp only [if_neg (show ¬ ((σ.1.1 100 2) ≤ σ.2) from c45)] at k)
    refine j_iload_n g (i := 3) (by decide +kernel) rfl ?_
    refine j_iload g (i := 4) (by decide +kernel) rfl ?_
    refine j_cS2r g s2_71 (by decide +kernel) (Nat.le_of_ble_eq_true rfl) (rnX2_isIn) ?_
    refine j_if_eq g (off := 48) (tgt := 102) (by decide +kernel) (by decide) (fun c54 => ?_) (fun c54 => ?_)
    · (try rw [if_pos (show (b2i (¬ (x3 >>> (σ.2 &&& 31)) &&& 1 = 0)) = 0 from c54)] at hc); (rw [if_pos (show (b2i (¬ (x3 >>> (σ.2 &&& 31)) &&& 1 = 0)) = 0 from c54)] at hp); (try simp only [if_pos (show (b2i (¬ (x3 >>> (σ.2 &&& 31)) &&& 1 = 0)) = 0 from c54)] at k)
      refine j_iinc g (i := 4) (n := 1) (1) (by decide +kernel) rfl (by decide) rfl ?_
      dsimp only [stL, clL, hdL]
      refine j_goto g (off := -69) (tgt := 36) (by decide +kernel) (by decide) ?_
      exact k 
    · (try rw [if_neg (show ¬ ((b2i (¬ (x3 >>> (σ.2 &&& 31)) &&& 1 = 0)) = 0) from c54)] at hc); (rw [if_neg (show ¬ ((b2i (¬ (x3 >>> (σ.2 &&& 31)) &&& 1 = 0)) = 0) from c54)] at hp); (try simp only [if_neg (show ¬ ((b2i (¬ (x3 >>> (σ.2 &&& 31)) &&& 1 = 0)) = 0) from c54)] at k)
      refine j_aload_n g (i := 0) (by decide +kernel) rfl ?_
      refine j_gA g (b := 512) f2_24 (by decide +kernel) (by decide +kernel) (by decide +kernel) (by decide +kernel) ?_
      refine j_iload_n g (i := 1) (by decide +kernel) rfl ?_
      refine j_iload g (i := 4) (by decide +kernel) rfl ?_
      refine j_isc g 6 2 (by decide +kernel) (by decide +kernel) (by decide +kernel) (vin_b (by decide +kernel)) (by decide) ?_
      refine j_aload_n g (i := 0) (by decide +kernel) rfl ?_
      refine j_gA g (b := 511) f2_20 (by decide +kernel) (by decide +kernel) (by decide +kernel) (by decide +kernel) ?_
      refine j_iload_n g (i := 1) (by decide +kernel) rfl ?_
      refine j_iconst g (n := 1) (1) (by decide +kernel) rfl ?_
      refine j_iadd g (by decide +kernel) ?_
      rw [show (2 : Int32) + 1 = 3 from by decide]
      refine j_aS g (b := 1060) 7 (by decide +kernel) (by decide +kernel) (by decide +kernel) (vin_b (by decide +kernel)) (by decide +kernel) ?_
      refine j_aload_n g (i := 2) (by decide +kernel) rfl ?_
      refine j_cV1v g v2_132 ⟨rfl, by decide⟩ (by decide +kernel) (by decide +kernel) (Nat.le_of_ble_eq_true rfl) (rnX3_take (by simp [isS]) (by simp [isS])) ?_
      refine j_aload_n g (i := 0) (by decide +kernel) rfl ?_
      refine j_gA g (b := 100) f2_12 (by decide +kernel) (by decide +kernel) (by decide +kernel) (by decide +kernel) ?_
      refine j_aload_n g (i := 0) (by decide +kernel) rfl ?_
      refine j_gA g (b := 511) f2_20 (by decide +kernel) (by decide +kernel) (by decide +kernel) (by decide +kernel) ?_
      refine j_iload_n g (i := 1) (by decide +kernel) rfl ?_
      refine j_iconst g (n := 1) (1) (by decide +kernel) rfl ?_
      refine j_iadd g (by decide +kernel) ?_
      rw [show (2 : Int32) + 1 = 3 from by decide]
      refine j_aS g (b := 1060) 7 (by decide +kernel) (by decide +kernel) (by decide +kernel) (vin_b (by decide +kernel)) (by decide +kernel) ?_
      refine j_iload g (i := 4) (by decide +kernel) rfl ?_
      obtain ⟨h0, hp⟩ := hp
      refine j_cV2r g v2_98 ⟨rfl, by decide⟩ (by decide +kernel) (by decide +kernel) (Nat.le_of_ble_eq_true rfl) (rnX5_carryOut (by simp [isS]) h0) ?_
      refine j_pop g (by decide +kernel) rfl ?_
      refine j_aload_n g (i := 0) (by decide +kernel) rfl ?_
      refine j_iload_n g (i := 1) (by decide +kernel) rfl ?_
      refine j_iconst g (n := 1) (1) (by decide +kernel) rfl ?_
      refine j_iadd g (by decide +kernel) ?_
      rw [show (2 : Int32) + 1 = 3 from by decide]
      obtain ⟨h0, hp⟩ := hp
      refine j_cV1v g v2_118 ⟨rfl, by decide⟩ (by decide +kernel) (by decide +kernel) (Nat.le_of_ble_eq_true rfl) (rnX2_searchFrom_3 h0) ?_
      refine j_iinc g (i := 4) (n := 1) (1) (by decide +kernel) rfl (by decide) rfl ?_
      dsimp only [stL, clL, hdL]
      refine j_goto g (off := -69) (tgt := 36) (by decide +kernel) (by decide) ?_
      exact k 
theorem sh_X2_searchFrom_2_36 {d : Nat} {J : Nat → Lc → List Value → Mm → Prop}  {x3 : Int32} {σ0 : Mm × Int32}  (g : Good mX2_searchFrom.1 mX2_searchFrom.2.2.1 mX2_searchFrom.2.2.2.1 (d + 8) J) : ∀ (N : Nat), (∀ k, k < N → c_X2_searchFrom_2_36 x3 (l_X2_searchFrom_2_36 x3 σ0 k)) → (∀ k, k < N → q_X2_searchFrom_2_36 x3 (l_X2_searchFrom_2_36 x3 σ0 k)) → (J 36 [some (.ref 510), some (.int 2), some (.ref 1050), some (.int x3), some (.int ((l_X2_searchFrom_2_36 x3 σ0 N).2))] [] ((l_X2_searchFrom_2_36 x3 σ0 N).1)) → J 36 [some (.ref 510), some (.int 2), some (.ref 1050), some (.int x3), some (.int σ0.2)] [] σ0.1
  | 0, _, _, k => k
  | N + 1, hc, hp, k => sh_X2_searchFrom_2_36  g N (fun i hi => hc i (Nat.lt_succ_of_lt hi)) (fun i hi => hp i (Nat.lt_succ_of_lt hi)) (ps_X2_searchFrom_2_36  g (hc N (Nat.lt_succ_self N)) (hp N (Nat.lt_succ_self N)) k)
noncomputable def w_X2_searchFrom_2 (M : Mm)  : Mm := if (r_X5_freeOnes M 1050) = 0 then (w_X2_compare M 1050 (2 : Int32)) else if ((l_X2_searchFrom_2_36 (r_X5_freeOnes M 1050) (M, 0) (Int32.toNatClampNeg (M.1 100 2))).1.1 100 2) ≤ ((l_X2_searchFrom_2_36 (r_X5_freeOnes M 1050) (M, 0) (Int32.toNatClampNeg (M.1 100 2))).2) then (l_X2_searchFrom_2_36 (r_X5_freeOnes M 1050) (M, 0) (Int32.toNatClampNeg (M.1 100 2))).1 else M
def p_X2_searchFrom_2 (M : Mm)  : Prop := (p_X5_freeOnes M 1050) ∧ (if (r_X5_freeOnes M 1050) = 0 then (p_X2_compare M 1050 (2 : Int32)) ∧ True else (∀ k, k < (Int32.toNatClampNeg (M.1 100 2)) → c_X2_searchFrom_2_36 (r_X5_freeOnes M 1050) (l_X2_searchFrom_2_36 (r_X5_freeOnes M 1050) (M, 0) k)) ∧ (∀ k, k < (Int32.toNatClampNeg (M.1 100 2)) → q_X2_searchFrom_2_36 (r_X5_freeOnes M 1050) (l_X2_searchFrom_2_36 (r_X5_freeOnes M 1050) (M, 0) k)) ∧ (¬ c_X2_searchFrom_2_36 (r_X5_freeOnes M 1050) (l_X2_searchFrom_2_36 (r_X5_freeOnes M 1050) (M, 0) (Int32.toNatClampNeg (M.1 100 2)))) ∧ (if ((l_X2_searchFrom_2_36 (r_X5_freeOnes M 1050) (M, 0) (Int32.toNatClampNeg (M.1 100 2))).1.1 100 2) ≤ ((l_X2_searchFrom_2_36 (r_X5_freeOnes M 1050) (M, 0) (Int32.toNatClampNeg (M.1 100 2))).2) then True else True))
set_option maxRecDepth 20000 in
theorem rnX2_searchFrom_2 {d : Nat} {M : Mm}   (hp : p_X2_searchFrom_2 M ) : Rn (d + 8) mX2_searchFrom [.ref 510, .int 2] M none (w_X2_searchFrom_2 M ) := by
  refine Rn.of [some (.ref 510), some (.int 2), none, none, none] (by decide +kernel) rfl (Nat.le_of_ble_eq_true rfl) rfl (fun J g hr => ?_)
  unfold p_X2_searchFrom_2 at hp
  refine j_aload_n g (i := 0) (by decide +kernel) rfl ?_
  refine j_gA g (b := 511) f2_20 (by decide +kernel) (by decide +kernel) (by decide +kernel) (by decide +kernel) ?_
  refine j_iload_n g (i := 1) (by decide +kernel) rfl ?_
  refine j_aS g (b := 1050) 7 (by decide +kernel) (by decide +kernel) (by decide +kernel) (vin_b (by decide +kernel)) (by decide +kernel) ?_
  refine j_astore_n g (i := 2) (by decide +kernel) (by decide) ?_
  dsimp only [stL, clL, hdL]
  refine j_aload_n g (i := 0) (by decide +kernel) rfl ?_
  refine j_gA g (b := 100) f2_12 (by decide +kernel) (by decide +kernel) (by decide +kernel) (by decide +kernel) ?_
  refine j_aload_n g (i := 2) (by decide +kernel) rfl ?_
  obtain ⟨h0, hp⟩ := hp
  refine j_cV1r g v2_122 ⟨rfl, by decide⟩ (by decide +kernel) (by decide +kernel) (Nat.le_of_ble_eq_true rfl) (rnX5_freeOnes (by simp [isS]) h0) ?_
  refine j_istore_n g (i := 3) (by decide +kernel) (by decide) ?_
  dsimp only [stL, clL, hdL]
  refine j_iload_n g (i := 3) (by decide +kernel) rfl ?_
  refine j_if_eq g (off := 9) (tgt := 26) (by decide +kernel) (by decide) (fun c17 => ?_) (fun c17 => ?_)
  · rw [if_pos (show (r_X5_freeOnes M 1050) = 0 from c17)] at hp
    refine j_aload_n g (i := 0) (by decide +kernel) rfl ?_
    refine j_aload_n g (i := 2) (by decide +kernel) rfl ?_
    refine j_iload_n g (i := 1) (by decide +kernel) rfl ?_
    obtain ⟨h0, hp⟩ := hp
    refine j_cV2v g v2_125 ⟨rfl, by decide⟩ (by decide +kernel) (by decide +kernel) (Nat.le_of_ble_eq_true rfl) (rnX2_compare (by simp [isS]) h0) ?_
    refine hr.2.2.2 _ _ _ (by decide +kernel) rfl rfl ?_
    · unfold w_X2_searchFrom_2; first | (simp only [if_pos (show (r_X5_freeOnes M 1050) = 0 from c17)]; done) | (simp only [if_pos (show (r_X5_freeOnes M 1050) = 0 from c17)]; rfl) | rfl
  · rw [if_neg (show ¬ ((r_X5_freeOnes M 1050) = 0) from c17)] at hp
    refine j_iload_n g (i := 1) (by decide +kernel) rfl ?_
    refine j_bipush g (n := 6) (6) (by decide +kernel) (by decide +kernel) ?_
    refine j_icmp_lt g (off := 10) (tgt := 33) (by decide +kernel) (by decide) (fun _ => ?_) (fun c => absurd (by first | decide | rfl | exact Int32.le_refl _) c)
    refine j_iconst g (n := 0) (0) (by decide +kernel) rfl ?_
    refine j_istore g (i := 4) (by decide +kernel) (by decide) ?_
    dsimp only [stL, clL, hdL]
    obtain ⟨h0, hp⟩ := hp
    have hc_36_1 := h0
    obtain ⟨h0, hp⟩ := hp
    have hq_36_1 := h0
    obtain ⟨h0, hp⟩ := hp
    have hx_36_1 := h0
    refine sh_X2_searchFrom_2_36 (x3 := (r_X5_freeOnes M 1050))  g (σ0 := (M, 0)) (Int32.toNatClampNeg (M.1 100 2)) hc_36_1 hq_36_1 ?_ 
    refine j_iload g (i := 4) (by decide +kernel) rfl ?_
    refine j_aload_n g (i := 0) (by decide +kernel) rfl ?_
    refine j_gA g (b := 100) f2_12 (by decide +kernel) (by decide +kernel) (by decide +kernel) (by decide +kernel) ?_
    refine j_gI g f2_129 (by decide +kernel) (by decide +kernel) (by decide +kernel) ?_
    refine j_icmp_ge g (off := 63) (tgt := 108) (by decide +kernel) (by decide) (fun c45 => ?_) (fun c45 => ?_)
    · rw [if_pos (show ((l_X2_searchFrom_2_36 (r_X5_freeOnes M 1050) (M, 0) (Int32.toNatClampNeg (M.1 100 2))).1.1 100 2) ≤ ((l_X2_searchFrom_2_36 (r_X5_freeOnes M 1050) (M, 0) (Int32.toNatClampNeg (M.1 100 2))).2) from c45)] at hp
      refine hr.2.2.2 _ _ _ (by decide +kernel) rfl rfl ?_
      · unfold w_X2_searchFrom_2; first | (simp only [if_neg (show ¬ ((r_X5_freeOnes M 1050) = 0) from c17), if_pos (show ((l_X2_searchFrom_2_36 (r_X5_freeOnes M 1050) (M, 0) (Int32.toNatClampNeg (M.1 100 2))).1.1 100 2) ≤ ((l_X2_searchFrom_2_36 (r_X5_freeOnes M 1050) (M, 0) (Int32.toNatClampNeg (M.1 100 2))).2) from c45)]; done) | (simp only [if_neg (show ¬ ((r_X5_freeOnes M 1050) = 0) from c17), if_pos (show ((l_X2_searchFrom_2_36 (r_X5_freeOnes M 1050) (M, 0) (Int32.toNatClampNeg (M.1 100 2))).1.1 100 2) ≤ ((l_X2_searchFrom_2_36 (r_X5_freeOnes M 1050) (M, 0) (Int32.toNatClampNeg (M.1 100 2))).2) from c45)]; rfl) | rfl
    · rw [if_neg (show ¬ (((l_X2_searchFrom_2_36 (r_X5_freeOnes M 1050) (M, 0) (Int32.toNatClampNeg (M.1 100 2))).1.1 100 2) ≤ ((l_X2_searchFrom_2_36 (r_X5_freeOnes M 1050) (M, 0) (Int32.toNatClampNeg (M.1 100 2))).2)) from c45)] at hp
      refine absurd (ci_X2_searchFrom_2_36.mpr ?_) hx_36_1
      simp only [if_neg (show ¬ ((r_X5_freeOnes M 1050) = 0) from c17), if_neg (show ¬ (((l_X2_searchFrom_2_36 (r_X5_freeOnes M 1050) (M, 0) (Int32.toNatClampNeg (M.1 100 2))).1.1 100 2) ≤ ((l_X2_searchFrom_2_36 (r_X5_freeOnes M 1050) (M, 0) (Int32.toNatClampNeg (M.1 100 2))).2)) from c45)]
def c_X2_searchFrom_1_36 (x3 : Int32) (σ : Mm × Int32) : Prop := if (σ.1.1 100 2) ≤ σ.2 then False else True
theorem ci_X2_searchFrom_1_36  {x3 : Int32} {σ : Mm × Int32} : c_X2_searchFrom_1_36 x3 σ ↔ (if (σ.1.1 100 2) ≤ σ.2 then False else True) := Iff.rfl
noncomputable def s_X2_searchFrom_1_36 (x3 : Int32) (σ : Mm × Int32) : Mm × Int32 := if (σ.1.1 100 2) ≤ σ.2 then σ else if (b2i (¬ (x3 >>> (σ.2 &&& 31)) &&& 1 = 0)) = 0 then (σ.1, σ.2 + 1) else ((w_X2_searchFrom_2 (w_X5_carryOut (w_X3_take (wi σ.1 512 1 σ.2) 1050 1040) 1050 σ.2)), σ.2 + 1)
def q_X2_searchFrom_1_36 (x3 : Int32) (σ : Mm × Int32) : Prop := (if (σ.1.1 100 2) ≤ σ.2 then True else (if (b2i (¬ (x3 >>> (σ.2 &&& 31)) &&& 1 = 0)) = 0 then True else (p_X5_carryOut (w_X3_take (wi σ.1 512 1 σ.2) 1050 1040) 1050 σ.2) ∧ (p_X2_searchFrom_2 (w_X5_carryOut (w_X3_take (wi σ.1 512 1 σ.2) 1050 1040) 1050 σ.2) ) ∧ True))
noncomputable def l_X2_searchFrom_1_36 (x3 : Int32) (σ0 : Mm × Int32) : Nat → Mm × Int32 := itN (fun _ σ => s_X2_searchFrom_1_36 x3 σ) σ0
theorem ps_X2_searchFrom_1_36 {d : Nat} {J : Nat → Lc → List Value → Mm → Prop}  {x3 : Int32} {σ : Mm × Int32}  (g : Good mX2_searchFrom.1 mX2_searchFrom.2.2.1 mX2_searchFrom.2.2.2.1 (d + 9) J) (hc : c_X2_searchFrom_1_36 x3 σ) (hp : q_X2_searchFrom_1_36 x3 σ) (k : J 36 [some (.ref 510), some (.int 1), some (.ref 1040), some (.int x3), some (.int ((s_X2_searchFrom_1_36 x3 σ).2))] [] ((s_X2_searchFrom_1_36 x3 σ).1)) : J 36 [some (.ref 510), some (.int 1), some (.ref 1040), some (.int x3), some (.int σ.2)] [] σ.1 := by
  unfold c_X2_searchFrom_1_36 at hc
  unfold q_X2_searchFrom_1_36 at hp
  unfold s_X2_searchFrom_1_36 at k
  refine j_iload g (i := 4) (by decide +kernel) rfl ?_
  refine j_aload_n g (i := 0) (by decide +kernel) rfl ?_
  refine j_gA g (b := 100) f2_12 (by decide +kernel) (by decide +kernel) (by decide +kernel) (by decide +kernel) ?_
  refine j_gI g f2_129 (by decide +kernel) (by decide +kernel) (by decide +kernel) ?_
  refine j_icmp_ge g (off := 63) (tgt := 108) (by decide +kernel) (by decide) (fun c45 => ?_) (fun c45 => ?_)
  · (try rw [if_pos (show (σ.1.1 100 2) ≤ σ.2 from c45)] at hc); (rw [if_pos (show (σ.1.1 100 2) ≤ σ.2 from c45)] at hp); (try simp only [if_pos (show (σ.1.1 100 2) ≤ σ.2 from c45)] at k)
    exact hc.elim
  · (try rw [if_neg (show ¬ ((σ.1.1 100 2) ≤ σ.2) from c45)] at hc); (rw [if_neg (show ¬ ((σ.1.1 100 2) ≤ σ.2) from c45)] at hp); (try simp only [if_neg (show ¬ ((σ.1.1 100 2) ≤ σ.2) from c45)] at k)
    refine j_iload_n g (i := 3) (by decide +kernel) rfl ?_
    refine j_iload g (i := 4) (by decide +kernel) rfl ?_
    refine j_cS2r g s2_71 (by decide +kernel) (Nat.le_of_ble_eq_true rfl) (rnX2_isIn) ?_
    refine j_if_eq g (off := 48) (tgt := 102) (by decide +kernel) (by decide) (fun c54 => ?_) (fun c54 => ?_)
    · (try rw [if_pos (show (b2i (¬ (x3 >>> (σ.2 &&& 31)) &&& 1 = 0)) = 0 from c54)] at hc); (rw [if_pos (show (b2i (¬ (x3 >>> (σ.2 &&& 31)) &&& 1 = 0)) = 0 from c54)] at hp); (try simp only [if_pos (show (b2i (¬ (x3 >>> (σ.2 &&& 31)) &&& 1 = 0)) = 0 from c54)] at k)
      refine j_iinc g (i := 4) (n := 1) (1) (by decide +kernel) rfl (by decide) rfl ?_
      dsimp only [stL, clL, hdL]
      refine j_goto g (off := -69) (tgt := 36) (by decide +kernel) (by decide) ?_
      exact k 
    · (try rw [if_neg (show ¬ ((b2i (¬ (x3 >>> (σ.2 &&& 31)) &&& 1 = 0)) = 0) from c54)] at hc); (rw [if_neg (show ¬ ((b2i (¬ (x3 >>> (σ.2 &&& 31)) &&& 1 = 0)) = 0) from c54)] at hp); (try simp only [if_neg (show ¬ ((b2i (¬ (x3 >>> (σ.2 &&& 31)) &&& 1 = 0)) = 0) from c54)] at k)
      refine j_aload_n g (i := 0) (by decide +kernel) rfl ?_
      refine j_gA g (b := 512) f2_24 (by decide +kernel) (by decide +kernel) (by decide +kernel) (by decide +kernel) ?_
      refine j_iload_n g (i := 1) (by decide +kernel) rfl ?_
      refine j_iload g (i := 4) (by decide +kernel) rfl ?_
      refine j_isc g 6 1 (by decide +kernel) (by decide +kernel) (by decide +kernel) (vin_b (by decide +kernel)) (by decide) ?_
      refine j_aload_n g (i := 0) (by decide +kernel) rfl ?_
      refine j_gA g (b := 511) f2_20 (by decide +kernel) (by decide +kernel) (by decide +kernel) (by decide +kernel) ?_
      refine j_iload_n g (i := 1) (by decide +kernel) rfl ?_
      refine j_iconst g (n := 1) (1) (by decide +kernel) rfl ?_
      refine j_iadd g (by decide +kernel) ?_
      rw [show (1 : Int32) + 1 = 2 from by decide]
      refine j_aS g (b := 1050) 7 (by decide +kernel) (by decide +kernel) (by decide +kernel) (vin_b (by decide +kernel)) (by decide +kernel) ?_
      refine j_aload_n g (i := 2) (by decide +kernel) rfl ?_
      refine j_cV1v g v2_132 ⟨rfl, by decide⟩ (by decide +kernel) (by decide +kernel) (Nat.le_of_ble_eq_true rfl) (rnX3_take (by simp [isS]) (by simp [isS])) ?_
      refine j_aload_n g (i := 0) (by decide +kernel) rfl ?_
      refine j_gA g (b := 100) f2_12 (by decide +kernel) (by decide +kernel) (by decide +kernel) (by decide +kernel) ?_
      refine j_aload_n g (i := 0) (by decide +kernel) rfl ?_
      refine j_gA g (b := 511) f2_20 (by decide +kernel) (by decide +kernel) (by decide +kernel) (by decide +kernel) ?_
      refine j_iload_n g (i := 1) (by decide +kernel) rfl ?_
      refine j_iconst g (n := 1) (1) (by decide +kernel) rfl ?_
      refine j_iadd g (by decide +kernel) ?_
      rw [show (1 : Int32) + 1 = 2 from by decide]
      refine j_aS g (b := 1050) 7 (by decide +kernel) (by decide +kernel) (by decide +kernel) (vin_b (by decide +kernel)) (by decide +kernel) ?_
      refine j_iload g (i := 4) (by decide +kernel) rfl ?_
      obtain ⟨h0, hp⟩ := hp
      refine j_cV2r g v2_98 ⟨rfl, by decide⟩ (by decide +kernel) (by decide +kernel) (Nat.le_of_ble_eq_true rfl) (rnX5_carryOut (by simp [isS]) h0) ?_
      refine j_pop g (by decide +kernel) rfl ?_
      refine j_aload_n g (i := 0) (by decide +kernel) rfl ?_
      refine j_iload_n g (i := 1) (by decide +kernel) rfl ?_
      refine j_iconst g (n := 1) (1) (by decide +kernel) rfl ?_
      refine j_iadd g (by decide +kernel) ?_
      rw [show (1 : Int32) + 1 = 2 from by decide]
      obtain ⟨h0, hp⟩ := hp
      refine j_cV1v g v2_118 ⟨rfl, by decide⟩ (by decide +kernel) (by decide +kernel) (Nat.le_of_ble_eq_true rfl) (rnX2_searchFrom_2 h0) ?_
      refine j_iinc g (i := 4) (n := 1) (1) (by decide +kernel) rfl (by decide) rfl ?_
      dsimp only [stL, clL, hdL]
      refine j_goto g (off := -69) (tgt := 36) (by decide +kernel) (by decide) ?_
      exact k 
theorem sh_X2_searchFrom_1_36 {d : Nat} {J : Nat → Lc → List Value → Mm → Prop}  {x3 : Int32} {σ0 : Mm × Int32}  (g : Good mX2_searchFrom.1 mX2_searchFrom.2.2.1 mX2_searchFrom.2.2.2.1 (d + 9) J) : ∀ (N : Nat), (∀ k, k < N → c_X2_searchFrom_1_36 x3 (l_X2_searchFrom_1_36 x3 σ0 k)) → (∀ k, k < N → q_X2_searchFrom_1_36 x3 (l_X2_searchFrom_1_36 x3 σ0 k)) → (J 36 [some (.ref 510), some (.int 1), some (.ref 1040), some (.int x3), some (.int ((l_X2_searchFrom_1_36 x3 σ0 N).2))] [] ((l_X2_searchFrom_1_36 x3 σ0 N).1)) → J 36 [some (.ref 510), some (.int 1), some (.ref 1040), some (.int x3), some (.int σ0.2)] [] σ0.1
  | 0, _, _, k => k
  | N + 1, hc, hp, k => sh_X2_searchFrom_1_36  g N (fun i hi => hc i (Nat.lt_succ_of_lt hi)) (fun i hi => hp i (Nat.lt_succ_of_lt hi)) (ps_X2_searchFrom_1_36  g (hc N (Nat.lt_succ_self N)) (hp N (Nat.lt_succ_self N)) k)
noncomputable def w_X2_searchFrom_1 (M : Mm)  : Mm := if (r_X5_freeOnes M 1040) = 0 then (w_X2_compare M 1040 (1 : Int32)) else if ((l_X2_searchFrom_1_36 (r_X5_freeOnes M 1040) (M, 0) (Int32.toNatClampNeg (M.1 100 2))).1.1 100 2) ≤ ((l_X2_searchFrom_1_36 (r_X5_freeOnes M 1040) (M, 0) (Int32.toNatClampNeg (M.1 100 2))).2) then (l_X2_searchFrom_1_36 (r_X5_freeOnes M 1040) (M, 0) (Int32.toNatClampNeg (M.1 100 2))).1 else M
def p_X2_searchFrom_1 (M : Mm)  : Prop := (p_X5_freeOnes M 1040) ∧ (if (r_X5_freeOnes M 1040) = 0 then (p_X2_compare M 1040 (1 : Int32)) ∧ True else (∀ k, k < (Int32.toNatClampNeg (M.1 100 2)) → c_X2_searchFrom_1_36 (r_X5_freeOnes M 1040) (l_X2_searchFrom_1_36 (r_X5_freeOnes M 1040) (M, 0) k)) ∧ (∀ k, k < (Int32.toNatClampNeg (M.1 100 2)) → q_X2_searchFrom_1_36 (r_X5_freeOnes M 1040) (l_X2_searchFrom_1_36 (r_X5_freeOnes M 1040) (M, 0) k)) ∧ (¬ c_X2_searchFrom_1_36 (r_X5_freeOnes M 1040) (l_X2_searchFrom_1_36 (r_X5_freeOnes M 1040) (M, 0) (Int32.toNatClampNeg (M.1 100 2)))) ∧ (if ((l_X2_searchFrom_1_36 (r_X5_freeOnes M 1040) (M, 0) (Int32.toNatClampNeg (M.1 100 2))).1.1 100 2) ≤ ((l_X2_searchFrom_1_36 (r_X5_freeOnes M 1040) (M, 0) (Int32.toNatClampNeg (M.1 100 2))).2) then True else True))
set_option maxRecDepth 20000 in
theorem rnX2_searchFrom_1 {d : Nat} {M : Mm}   (hp : p_X2_searchFrom_1 M ) : Rn (d + 9) mX2_searchFrom [.ref 510, .int 1] M none (w_X2_searchFrom_1 M ) := by
  refine Rn.of [some (.ref 510), some (.int 1), none, none, none] (by decide +kernel) rfl (Nat.le_of_ble_eq_true rfl) rfl (fun J g hr => ?_)
  unfold p_X2_searchFrom_1 at hp
  refine j_aload_n g (i := 0) (by decide +kernel) rfl ?_
  refine j_gA g (b := 511) f2_20 (by decide +kernel) (by decide +kernel) (by decide +kernel) (by decide +kernel) ?_
  refine j_iload_n g (i := 1) (by decide +kernel) rfl ?_
  refine j_aS g (b := 1040) 7 (by decide +kernel) (by decide +kernel) (by decide +kernel) (vin_b (by decide +kernel)) (by decide +kernel) ?_
  refine j_astore_n g (i := 2) (by decide +kernel) (by decide) ?_
  dsimp only [stL, clL, hdL]
  refine j_aload_n g (i := 0) (by decide +kernel) rfl ?_
  refine j_gA g (b := 100) f2_12 (by decide +kernel) (by decide +kernel) (by decide +kernel) (by decide +kernel) ?_
  refine j_aload_n g (i := 2) (by decide +kernel) rfl ?_
  obtain ⟨h0, hp⟩ := hp
  refine j_cV1r g v2_122 ⟨rfl, by decide⟩ (by decide +kernel) (by decide +kernel) (Nat.le_of_ble_eq_true rfl) (rnX5_freeOnes (by simp [isS]) h0) ?_
  refine j_istore_n g (i := 3) (by decide +kernel) (by decide) ?_
  dsimp only [stL, clL, hdL]
  refine j_iload_n g (i := 3) (by decide +kernel) rfl ?_
  refine j_if_eq g (off := 9) (tgt := 26) (by decide +kernel) (by decide) (fun c17 => ?_) (fun c17 => ?_)
  · rw [if_pos (show (r_X5_freeOnes M 1040) = 0 from c17)] at hp
    refine j_aload_n g (i := 0) (by decide +kernel) rfl ?_
    refine j_aload_n g (i := 2) (by decide +kernel) rfl ?_
    refine j_iload_n g (i := 1) (by decide +kernel) rfl ?_
    obtain ⟨h0, hp⟩ := hp
    refine j_cV2v g v2_125 ⟨rfl, by decide⟩ (by decide +kernel) (by decide +kernel) (Nat.le_of_ble_eq_true rfl) (rnX2_compare (by simp [isS]) h0) ?_
    refine hr.2.2.2 _ _ _ (by decide +kernel) rfl rfl ?_
    · unfold w_X2_searchFrom_1; first | (simp only [if_pos (show (r_X5_freeOnes M 1040) = 0 from c17)]; done) | (simp only [if_pos (show (r_X5_freeOnes M 1040) = 0 from c17)]; rfl) | rfl
  · rw [if_neg (show ¬ ((r_X5_freeOnes M 1040) = 0) from c17)] at hp
    refine j_iload_n g (i := 1) (by decide +kernel) rfl ?_
    refine j_bipush g (n := 6) (6) (by decide +kernel) (by decide +kernel) ?_
    refine j_icmp_lt g (off := 10) (tgt := 33) (by decide +kernel) (by decide) (fun _ => ?_) (fun c => absurd (by first | decide | rfl | exact Int32.le_refl _) c)
    refine j_iconst g (n := 0) (0) (by decide +kernel) rfl ?_
    refine j_istore g (i := 4) (by decide +kernel) (by decide) ?_
    dsimp only [stL, clL, hdL]
    obtain ⟨h0, hp⟩ := hp
    have hc_36_1 := h0
    obtain ⟨h0, hp⟩ := hp
    have hq_36_1 := h0
    obtain ⟨h0, hp⟩ := hp
    have hx_36_1 := h0
    refine sh_X2_searchFrom_1_36 (x3 := (r_X5_freeOnes M 1040))  g (σ0 := (M, 0)) (Int32.toNatClampNeg (M.1 100 2)) hc_36_1 hq_36_1 ?_ 
    refine j_iload g (i := 4) (by decide +kernel) rfl ?_
    refine j_aload_n g (i := 0) (by decide +kernel) rfl ?_
    refine j_gA g (b := 100) f2_12 (by decide +kernel) (by decide +kernel) (by decide +kernel) (by decide +kernel) ?_
    refine j_gI g f2_129 (by decide +kernel) (by decide +kernel) (by decide +kernel) ?_
    refine j_icmp_ge g (off := 63) (tgt := 108) (by decide +kernel) (by decide) (fun c45 => ?_) (fun c45 => ?_)
    · rw [if_pos (show ((l_X2_searchFrom_1_36 (r_X5_freeOnes M 1040) (M, 0) (Int32.toNatClampNeg (M.1 100 2))).1.1 100 2) ≤ ((l_X2_searchFrom_1_36 (r_X5_freeOnes M 1040) (M, 0) (Int32.toNatClampNeg (M.1 100 2))).2) from c45)] at hp
      refine hr.2.2.2 _ _ _ (by decide +kernel) rfl rfl ?_
      · unfold w_X2_searchFrom_1; first | (simp only [if_neg (show ¬ ((r_X5_freeOnes M 1040) = 0) from c17), if_pos (show ((l_X2_searchFrom_1_36 (r_X5_freeOnes M 1040) (M, 0) (Int32.toNatClampNeg (M.1 100 2))).1.1 100 2) ≤ ((l_X2_searchFrom_1_36 (r_X5_freeOnes M 1040) (M, 0) (Int32.toNatClampNeg (M.1 100 2))).2) from c45)]; done) | (simp only [if_neg (show ¬ ((r_X5_freeOnes M 1040) = 0) from c17), if_pos (show ((l_X2_searchFrom_1_36 (r_X5_freeOnes M 1040) (M, 0) (Int32.toNatClampNeg (M.1 100 2))).1.1 100 2) ≤ ((l_X2_searchFrom_1_36 (r_X5_freeOnes M 1040) (M, 0) (Int32.toNatClampNeg (M.1 100 2))).2) from c45)]; rfl) | rfl
    · rw [if_neg (show ¬ (((l_X2_searchFrom_1_36 (r_X5_freeOnes M 1040) (M, 0) (Int32.toNatClampNeg (M.1 100 2))).1.1 100 2) ≤ ((l_X2_searchFrom_1_36 (r_X5_freeOnes M 1040) (M, 0) (Int32.toNatClampNeg (M.1 100 2))).2)) from c45)] at hp
      refine absurd (ci_X2_searchFrom_1_36.mpr ?_) hx_36_1
      simp only [if_neg (show ¬ ((r_X5_freeOnes M 1040) = 0) from c17), if_neg (show ¬ (((l_X2_searchFrom_1_36 (r_X5_freeOnes M 1040) (M, 0) (Int32.toNatClampNeg (M.1 100 2))).1.1 100 2) ≤ ((l_X2_searchFrom_1_36 (r_X5_freeOnes M 1040) (M, 0) (Int32.toNatClampNeg (M.1 100 2))).2)) from c45)]
def c_X2_searchFrom_0_36 (x3 : Int32) (σ : Mm × Int32) : Prop := if (σ.1.1 100 2) ≤ σ.2 then False else True
theorem ci_X2_searchFrom_0_36  {x3 : Int32} {σ : Mm × Int32} : c_X2_searchFrom_0_36 x3 σ ↔ (if (σ.1.1 100 2) ≤ σ.2 then False else True) := Iff.rfl
noncomputable def s_X2_searchFrom_0_36 (x3 : Int32) (σ : Mm × Int32) : Mm × Int32 := if (σ.1.1 100 2) ≤ σ.2 then σ else if (b2i (¬ (x3 >>> (σ.2 &&& 31)) &&& 1 = 0)) = 0 then (σ.1, σ.2 + 1) else ((w_X2_searchFrom_1 (w_X5_carryOut (w_X3_take (wi σ.1 512 0 σ.2) 1040 1030) 1040 σ.2)), σ.2 + 1)
def q_X2_searchFrom_0_36 (x3 : Int32) (σ : Mm × Int32) : Prop := (if (σ.1.1 100 2) ≤ σ.2 then True else (if (b2i (¬ (x3 >>> (σ.2 &&& 31)) &&& 1 = 0)) = 0 then True else (p_X5_carryOut (w_X3_take (wi σ.1 512 0 σ.2) 1040 1030) 1040 σ.2) ∧ (p_X2_searchFrom_1 (w_X5_carryOut (w_X3_take (wi σ.1 512 0 σ.2) 1040 1030) 1040 σ.2) ) ∧ True))
noncomputable def l_X2_searchFrom_0_36 (x3 : Int32) (σ0 : Mm × Int32) : Nat → Mm × Int32 := itN (fun _ σ => s_X2_searchFrom_0_36 x3 σ) σ0
theorem ps_X2_searchFrom_0_36 {d : Nat} {J : Nat → Lc → List Value → Mm → Prop}  {x3 : Int32} {σ : Mm × Int32}  (g : Good mX2_searchFrom.1 mX2_searchFrom.2.2.1 mX2_searchFrom.2.2.2.1 (d + 10) J) (hc : c_X2_searchFrom_0_36 x3 σ) (hp : q_X2_searchFrom_0_36 x3 σ) (k : J 36 [some (.ref 510), some (.int 0), some (.ref 1030), some (.int x3), some (.int ((s_X2_searchFrom_0_36 x3 σ).2))] [] ((s_X2_searchFrom_0_36 x3 σ).1)) : J 36 [some (.ref 510), some (.int 0), some (.ref 1030), some (.int x3), some (.int σ.2)] [] σ.1 := by
  unfold c_X2_searchFrom_0_36 at hc
  unfold q_X2_searchFrom_0_36 at hp
  unfold s_X2_searchFrom_0_36 at k
  refine j_iload g (i := 4) (by decide +kernel) rfl ?_
  refine j_aload_n g (i := 0) (by decide +kernel) rfl ?_
  refine j_gA g (b := 100) f2_12 (by decide +kernel) (by decide +kernel) (by decide +kernel) (by decide +kernel) ?_
  refine j_gI g f2_129 (by decide +kernel) (by decide +kernel) (by decide +kernel) ?_
  refine j_icmp_ge g (off := 63) (tgt := 108) (by decide +kernel) (by decide) (fun c45 => ?_) (fun c45 => ?_)
  · (try rw [if_pos (show (σ.1.1 100 2) ≤ σ.2 from c45)] at hc); (rw [if_pos (show (σ.1.1 100 2) ≤ σ.2 from c45)] at hp); (try simp only [if_pos (show (σ.1.1 100 2) ≤ σ.2 from c45)] at k)
    exact hc.elim
  · (try rw [if_neg (show ¬ ((σ.1.1 100 2) ≤ σ.2) from c45)] at hc); (rw [if_neg (show ¬ ((σ.1.1 100 2) ≤ σ.2) from c45)] at hp); (try simp only [if_neg (show ¬ ((σ.1.1 100 2) ≤ σ.2) from c45)] at k)
    refine j_iload_n g (i := 3) (by decide +kernel) rfl ?_
    refine j_iload g (i := 4) (by decide +kernel) rfl ?_
    refine j_cS2r g s2_71 (by decide +kernel) (Nat.le_of_ble_eq_true rfl) (rnX2_isIn) ?_
    refine j_if_eq g (off := 48) (tgt := 102) (by decide +kernel) (by decide) (fun c54 => ?_) (fun c54 => ?_)
    · (try rw [if_pos (show (b2i (¬ (x3 >>> (σ.2 &&& 31)) &&& 1 = 0)) = 0 from c54)] at hc); (rw [if_pos (show (b2i (¬ (x3 >>> (σ.2 &&& 31)) &&& 1 = 0)) = 0 from c54)] at hp); (try simp only [if_pos (show (b2i (¬ (x3 >>> (σ.2 &&& 31)) &&& 1 = 0)) = 0 from c54)] at k)
      refine j_iinc g (i := 4) (n := 1) (1) (by decide +kernel) rfl (by decide) rfl ?_
      dsimp only [stL, clL, hdL]
      refine j_goto g (off := -69) (tgt := 36) (by decide +kernel) (by decide) ?_
      exact k 
    · (try rw [if_neg (show ¬ ((b2i (¬ (x3 >>> (σ.2 &&& 31)) &&& 1 = 0)) = 0) from c54)] at hc); (rw [if_neg (show ¬ ((b2i (¬ (x3 >>> (σ.2 &&& 31)) &&& 1 = 0)) = 0) from c54)] at hp); (try simp only [if_neg (show ¬ ((b2i (¬ (x3 >>> (σ.2 &&& 31)) &&& 1 = 0)) = 0) from c54)] at k)
      refine j_aload_n g (i := 0) (by decide +kernel) rfl ?_
      refine j_gA g (b := 512) f2_24 (by decide +kernel) (by decide +kernel) (by decide +kernel) (by decide +kernel) ?_
      refine j_iload_n g (i := 1) (by decide +kernel) rfl ?_
      refine j_iload g (i := 4) (by decide +kernel) rfl ?_
      refine j_isc g 6 0 (by decide +kernel) (by decide +kernel) (by decide +kernel) (vin_b (by decide +kernel)) (by decide) ?_
      refine j_aload_n g (i := 0) (by decide +kernel) rfl ?_
      refine j_gA g (b := 511) f2_20 (by decide +kernel) (by decide +kernel) (by decide +kernel) (by decide +kernel) ?_
      refine j_iload_n g (i := 1) (by decide +kernel) rfl ?_
      refine j_iconst g (n := 1) (1) (by decide +kernel) rfl ?_
      refine j_iadd g (by decide +kernel) ?_
      rw [show (0 : Int32) + 1 = 1 from by decide]
      refine j_aS g (b := 1040) 7 (by decide +kernel) (by decide +kernel) (by decide +kernel) (vin_b (by decide +kernel)) (by decide +kernel) ?_
      refine j_aload_n g (i := 2) (by decide +kernel) rfl ?_
      refine j_cV1v g v2_132 ⟨rfl, by decide⟩ (by decide +kernel) (by decide +kernel) (Nat.le_of_ble_eq_true rfl) (rnX3_take (by simp [isS]) (by simp [isS])) ?_
      refine j_aload_n g (i := 0) (by decide +kernel) rfl ?_
      refine j_gA g (b := 100) f2_12 (by decide +kernel) (by decide +kernel) (by decide +kernel) (by decide +kernel) ?_
      refine j_aload_n g (i := 0) (by decide +kernel) rfl ?_
      refine j_gA g (b := 511) f2_20 (by decide +kernel) (by decide +kernel) (by decide +kernel) (by decide +kernel) ?_
      refine j_iload_n g (i := 1) (by decide +kernel) rfl ?_
      refine j_iconst g (n := 1) (1) (by decide +kernel) rfl ?_
      refine j_iadd g (by decide +kernel) ?_
      rw [show (0 : Int32) + 1 = 1 from by decide]
      refine j_aS g (b := 1040) 7 (by decide +kernel) (by decide +kernel) (by decide +kernel) (vin_b (by decide +kernel)) (by decide +kernel) ?_
      refine j_iload g (i := 4) (by decide +kernel) rfl ?_
      obtain ⟨h0, hp⟩ := hp
      refine j_cV2r g v2_98 ⟨rfl, by decide⟩ (by decide +kernel) (by decide +kernel) (Nat.le_of_ble_eq_true rfl) (rnX5_carryOut (by simp [isS]) h0) ?_
      refine j_pop g (by decide +kernel) rfl ?_
      refine j_aload_n g (i := 0) (by decide +kernel) rfl ?_
      refine j_iload_n g (i := 1) (by decide +kernel) rfl ?_
      refine j_iconst g (n := 1) (1) (by decide +kernel) rfl ?_
      refine j_iadd g (by decide +kernel) ?_
      rw [show (0 : Int32) + 1 = 1 from by decide]
      obtain ⟨h0, hp⟩ := hp
      refine j_cV1v g v2_118 ⟨rfl, by decide⟩ (by decide +kernel) (by decide +kernel) (Nat.le_of_ble_eq_true rfl) (rnX2_searchFrom_1 h0) ?_
      refine j_iinc g (i := 4) (n := 1) (1) (by decide +kernel) rfl (by decide) rfl ?_
      dsimp only [stL, clL, hdL]
      refine j_goto g (off := -69) (tgt := 36) (by decide +kernel) (by decide) ?_
      exact k 
theorem sh_X2_searchFrom_0_36 {d : Nat} {J : Nat → Lc → List Value → Mm → Prop}  {x3 : Int32} {σ0 : Mm × Int32}  (g : Good mX2_searchFrom.1 mX2_searchFrom.2.2.1 mX2_searchFrom.2.2.2.1 (d + 10) J) : ∀ (N : Nat), (∀ k, k < N → c_X2_searchFrom_0_36 x3 (l_X2_searchFrom_0_36 x3 σ0 k)) → (∀ k, k < N → q_X2_searchFrom_0_36 x3 (l_X2_searchFrom_0_36 x3 σ0 k)) → (J 36 [some (.ref 510), some (.int 0), some (.ref 1030), some (.int x3), some (.int ((l_X2_searchFrom_0_36 x3 σ0 N).2))] [] ((l_X2_searchFrom_0_36 x3 σ0 N).1)) → J 36 [some (.ref 510), some (.int 0), some (.ref 1030), some (.int x3), some (.int σ0.2)] [] σ0.1
  | 0, _, _, k => k
  | N + 1, hc, hp, k => sh_X2_searchFrom_0_36  g N (fun i hi => hc i (Nat.lt_succ_of_lt hi)) (fun i hi => hp i (Nat.lt_succ_of_lt hi)) (ps_X2_searchFrom_0_36  g (hc N (Nat.lt_succ_self N)) (hp N (Nat.lt_succ_self N)) k)
noncomputable def w_X2_searchFrom_0 (M : Mm)  : Mm := if (r_X5_freeOnes M 1030) = 0 then (w_X2_compare M 1030 (0 : Int32)) else if ((l_X2_searchFrom_0_36 (r_X5_freeOnes M 1030) (M, 0) (Int32.toNatClampNeg (M.1 100 2))).1.1 100 2) ≤ ((l_X2_searchFrom_0_36 (r_X5_freeOnes M 1030) (M, 0) (Int32.toNatClampNeg (M.1 100 2))).2) then (l_X2_searchFrom_0_36 (r_X5_freeOnes M 1030) (M, 0) (Int32.toNatClampNeg (M.1 100 2))).1 else M
def p_X2_searchFrom_0 (M : Mm)  : Prop := (p_X5_freeOnes M 1030) ∧ (if (r_X5_freeOnes M 1030) = 0 then (p_X2_compare M 1030 (0 : Int32)) ∧ True else (∀ k, k < (Int32.toNatClampNeg (M.1 100 2)) → c_X2_searchFrom_0_36 (r_X5_freeOnes M 1030) (l_X2_searchFrom_0_36 (r_X5_freeOnes M 1030) (M, 0) k)) ∧ (∀ k, k < (Int32.toNatClampNeg (M.1 100 2)) → q_X2_searchFrom_0_36 (r_X5_freeOnes M 1030) (l_X2_searchFrom_0_36 (r_X5_freeOnes M 1030) (M, 0) k)) ∧ (¬ c_X2_searchFrom_0_36 (r_X5_freeOnes M 1030) (l_X2_searchFrom_0_36 (r_X5_freeOnes M 1030) (M, 0) (Int32.toNatClampNeg (M.1 100 2)))) ∧ (if ((l_X2_searchFrom_0_36 (r_X5_freeOnes M 1030) (M, 0) (Int32.toNatClampNeg (M.1 100 2))).1.1 100 2) ≤ ((l_X2_searchFrom_0_36 (r_X5_freeOnes M 1030) (M, 0) (Int32.toNatClampNeg (M.1 100 2))).2) then True else True))
set_option maxRecDepth 20000 in
theorem rnX2_searchFrom_0 {d : Nat} {M : Mm}   (hp : p_X2_searchFrom_0 M ) : Rn (d + 10) mX2_searchFrom [.ref 510, .int 0] M none (w_X2_searchFrom_0 M ) := by
  refine Rn.of [some (.ref 510), some (.int 0), none, none, none] (by decide +kernel) rfl (Nat.le_of_ble_eq_true rfl) rfl (fun J g hr => ?_)
  unfold p_X2_searchFrom_0 at hp
  refine j_aload_n g (i := 0) (by decide +kernel) rfl ?_
  refine j_gA g (b := 511) f2_20 (by decide +kernel) (by decide +kernel) (by decide +kernel) (by decide +kernel) ?_
  refine j_iload_n g (i := 1) (by decide +kernel) rfl ?_
  refine j_aS g (b := 1030) 7 (by decide +kernel) (by decide +kernel) (by decide +kernel) (vin_b (by decide +kernel)) (by decide +kernel) ?_
  refine j_astore_n g (i := 2) (by decide +kernel) (by decide) ?_
  dsimp only [stL, clL, hdL]
  refine j_aload_n g (i := 0) (by decide +kernel) rfl ?_
  refine j_gA g (b := 100) f2_12 (by decide +kernel) (by decide +kernel) (by decide +kernel) (by decide +kernel) ?_
  refine j_aload_n g (i := 2) (by decide +kernel) rfl ?_
  obtain ⟨h0, hp⟩ := hp
  refine j_cV1r g v2_122 ⟨rfl, by decide⟩ (by decide +kernel) (by decide +kernel) (Nat.le_of_ble_eq_true rfl) (rnX5_freeOnes (by simp [isS]) h0) ?_
  refine j_istore_n g (i := 3) (by decide +kernel) (by decide) ?_
  dsimp only [stL, clL, hdL]
  refine j_iload_n g (i := 3) (by decide +kernel) rfl ?_
  refine j_if_eq g (off := 9) (tgt := 26) (by decide +kernel) (by decide) (fun c17 => ?_) (fun c17 => ?_)
  · rw [if_pos (show (r_X5_freeOnes M 1030) = 0 from c17)] at hp
    refine j_aload_n g (i := 0) (by decide +kernel) rfl ?_
    refine j_aload_n g (i := 2) (by decide +kernel) rfl ?_
    refine j_iload_n g (i := 1) (by decide +kernel) rfl ?_
    obtain ⟨h0, hp⟩ := hp
    refine j_cV2v g v2_125 ⟨rfl, by decide⟩ (by decide +kernel) (by decide +kernel) (Nat.le_of_ble_eq_true rfl) (rnX2_compare (by simp [isS]) h0) ?_
    refine hr.2.2.2 _ _ _ (by decide +kernel) rfl rfl ?_
    · unfold w_X2_searchFrom_0; first | (simp only [if_pos (show (r_X5_freeOnes M 1030) = 0 from c17)]; done) | (simp only [if_pos (show (r_X5_freeOnes M 1030) = 0 from c17)]; rfl) | rfl
  · rw [if_neg (show ¬ ((r_X5_freeOnes M 1030) = 0) from c17)] at hp
    refine j_iload_n g (i := 1) (by decide +kernel) rfl ?_
    refine j_bipush g (n := 6) (6) (by decide +kernel) (by decide +kernel) ?_
    refine j_icmp_lt g (off := 10) (tgt := 33) (by decide +kernel) (by decide) (fun _ => ?_) (fun c => absurd (by first | decide | rfl | exact Int32.le_refl _) c)
    refine j_iconst g (n := 0) (0) (by decide +kernel) rfl ?_
    refine j_istore g (i := 4) (by decide +kernel) (by decide) ?_
    dsimp only [stL, clL, hdL]
    obtain ⟨h0, hp⟩ := hp
    have hc_36_1 := h0
    obtain ⟨h0, hp⟩ := hp
    have hq_36_1 := h0
    obtain ⟨h0, hp⟩ := hp
    have hx_36_1 := h0
    refine sh_X2_searchFrom_0_36 (x3 := (r_X5_freeOnes M 1030))  g (σ0 := (M, 0)) (Int32.toNatClampNeg (M.1 100 2)) hc_36_1 hq_36_1 ?_ 
    refine j_iload g (i := 4) (by decide +kernel) rfl ?_
    refine j_aload_n g (i := 0) (by decide +kernel) rfl ?_
    refine j_gA g (b := 100) f2_12 (by decide +kernel) (by decide +kernel) (by decide +kernel) (by decide +kernel) ?_
    refine j_gI g f2_129 (by decide +kernel) (by decide +kernel) (by decide +kernel) ?_
    refine j_icmp_ge g (off := 63) (tgt := 108) (by decide +kernel) (by decide) (fun c45 => ?_) (fun c45 => ?_)
    · rw [if_pos (show ((l_X2_searchFrom_0_36 (r_X5_freeOnes M 1030) (M, 0) (Int32.toNatClampNeg (M.1 100 2))).1.1 100 2) ≤ ((l_X2_searchFrom_0_36 (r_X5_freeOnes M 1030) (M, 0) (Int32.toNatClampNeg (M.1 100 2))).2) from c45)] at hp
      refine hr.2.2.2 _ _ _ (by decide +kernel) rfl rfl ?_
      · unfold w_X2_searchFrom_0; first | (simp only [if_neg (show ¬ ((r_X5_freeOnes M 1030) = 0) from c17), if_pos (show ((l_X2_searchFrom_0_36 (r_X5_freeOnes M 1030) (M, 0) (Int32.toNatClampNeg (M.1 100 2))).1.1 100 2) ≤ ((l_X2_searchFrom_0_36 (r_X5_freeOnes M 1030) (M, 0) (Int32.toNatClampNeg (M.1 100 2))).2) from c45)]; done) | (simp only [if_neg (show ¬ ((r_X5_freeOnes M 1030) = 0) from c17), if_pos (show ((l_X2_searchFrom_0_36 (r_X5_freeOnes M 1030) (M, 0) (Int32.toNatClampNeg (M.1 100 2))).1.1 100 2) ≤ ((l_X2_searchFrom_0_36 (r_X5_freeOnes M 1030) (M, 0) (Int32.toNatClampNeg (M.1 100 2))).2) from c45)]; rfl) | rfl
    · rw [if_neg (show ¬ (((l_X2_searchFrom_0_36 (r_X5_freeOnes M 1030) (M, 0) (Int32.toNatClampNeg (M.1 100 2))).1.1 100 2) ≤ ((l_X2_searchFrom_0_36 (r_X5_freeOnes M 1030) (M, 0) (Int32.toNatClampNeg (M.1 100 2))).2)) from c45)] at hp
      refine absurd (ci_X2_searchFrom_0_36.mpr ?_) hx_36_1
      simp only [if_neg (show ¬ ((r_X5_freeOnes M 1030) = 0) from c17), if_neg (show ¬ (((l_X2_searchFrom_0_36 (r_X5_freeOnes M 1030) (M, 0) (Int32.toNatClampNeg (M.1 100 2))).1.1 100 2) ≤ ((l_X2_searchFrom_0_36 (r_X5_freeOnes M 1030) (M, 0) (Int32.toNatClampNeg (M.1 100 2))).2)) from c45)]
noncomputable def w_X2_search (M : Mm)  : Mm := (w_X2_searchFrom_0 (w_X3_beginFrom (wi M 510 5 0) 1030 1000))
def p_X2_search (M : Mm)  : Prop := (p_X2_searchFrom_0 (w_X3_beginFrom (wi M 510 5 0) 1030 1000) ) ∧ True
set_option maxRecDepth 20000 in
theorem rnX2_search {d : Nat} {M : Mm}   (hp : p_X2_search M ) : Rn (d + 11) mX2_search [.ref 510] M none (w_X2_search M ) := by
  refine Rn.of [some (.ref 510)] (by decide +kernel) rfl (Nat.le_of_ble_eq_true rfl) rfl (fun J g hr => ?_)
  unfold p_X2_search at hp
  refine j_aload_n g (i := 0) (by decide +kernel) rfl ?_
  refine j_iconst g (n := 0) (0) (by decide +kernel) rfl ?_
  refine j_pZ g f2_35 (fun q h => by cases h; rfl) (by decide +kernel) (by decide +kernel) (by decide +kernel) (by decide) ?_
  refine j_aload_n g (i := 0) (by decide +kernel) rfl ?_
  refine j_gA g (b := 511) f2_20 (by decide +kernel) (by decide +kernel) (by decide +kernel) (by decide +kernel) ?_
  refine j_iconst g (n := 0) (0) (by decide +kernel) rfl ?_
  refine j_aS g (b := 1030) 7 (by decide +kernel) (by decide +kernel) (by decide +kernel) (vin_b (by decide +kernel)) (by decide +kernel) ?_
  refine j_aload_n g (i := 0) (by decide +kernel) rfl ?_
  refine j_gA g (b := 100) f2_12 (by decide +kernel) (by decide +kernel) (by decide +kernel) (by decide +kernel) ?_
  refine j_gA g (b := 1000) f2_59 (by decide +kernel) (by decide +kernel) (by decide +kernel) (by decide +kernel) ?_
  refine j_cV1v g v2_84 ⟨rfl, by decide⟩ (by decide +kernel) (by decide +kernel) (Nat.le_of_ble_eq_true rfl) (rnX3_beginFrom (by simp [isS]) (by simp [isS])) ?_
  refine j_aload_n g (i := 0) (by decide +kernel) rfl ?_
  refine j_iconst g (n := 0) (0) (by decide +kernel) rfl ?_
  obtain ⟨h0, hp⟩ := hp
  refine j_cV1v g v2_118 ⟨rfl, by decide⟩ (by decide +kernel) (by decide +kernel) (Nat.le_of_ble_eq_true rfl) (rnX2_searchFrom_0 h0) ?_
  refine hr.2.2.2 _ _ _ (by decide +kernel) rfl rfl ?_
  · unfold w_X2_search; rfl
noncomputable def r_X7_best (M : Mm) (a1 : Int32) : Int32 := if ¬ (b2i ((0 : Int32) ≤ a1 ∧ a1 ≤ (1 : Int32))) = 0 then (if ¬ a1 = 0 then (w_X2_search M).1 510 7 else (w_X2_search M).1 510 6) else (-1)
noncomputable def w_X7_best (M : Mm) (a1 : Int32) : Mm := if ¬ (b2i ((0 : Int32) ≤ a1 ∧ a1 ≤ (1 : Int32))) = 0 then (w_X2_search M) else M
def p_X7_best (M : Mm) (a1 : Int32) : Prop := (if ¬ (b2i ((0 : Int32) ≤ a1 ∧ a1 ≤ (1 : Int32))) = 0 then (p_X2_search M ) ∧ (if ¬ a1 = 0 then True else True) else True)
set_option maxRecDepth 20000 in
theorem rnX7_best {d : Nat} {M : Mm} {a1 : Int32}  (hp : p_X7_best M a1) : Rn (d + 12) mX7_best [.ref 1, .int a1] M (some (.int (r_X7_best M a1))) (w_X7_best M a1) := by
  refine Rn.of [some (.ref 1), some (.int a1)] (by decide +kernel) rfl (Nat.le_of_ble_eq_true rfl) rfl (fun J g hr => ?_)
  unfold p_X7_best at hp
  refine j_iload_n g (i := 1) (by decide +kernel) rfl ?_
  refine j_iconst g (n := 0) (0) (by decide +kernel) rfl ?_
  refine j_iconst g (n := 1) (1) (by decide +kernel) rfl ?_
  refine j_cS3r g s7_87 (by decide +kernel) (Nat.le_of_ble_eq_true rfl) (rnX7_isWithin) ?_
  refine j_if_ne g (off := 5) (tgt := 11) (by decide +kernel) (by decide) (fun c6 => ?_) (fun c6 => ?_)
  · rw [if_pos (show ¬ (b2i ((0 : Int32) ≤ a1 ∧ a1 ≤ (1 : Int32))) = 0 from c6)] at hp
    refine j_aload_n g (i := 0) (by decide +kernel) rfl ?_
    refine j_gA g (b := 510) f7_10 (by decide +kernel) (by decide +kernel) (by decide +kernel) (by decide +kernel) ?_
    obtain ⟨h0, hp⟩ := hp
    refine j_cV0v g v7_206 ⟨rfl, by decide⟩ (by decide +kernel) (by decide +kernel) (Nat.le_of_ble_eq_true rfl) (rnX2_search h0) ?_
    refine j_iload_n g (i := 1) (by decide +kernel) rfl ?_
    refine j_if_ne g (off := 13) (tgt := 32) (by decide +kernel) (by decide) (fun c19 => ?_) (fun c19 => ?_)
    · rw [if_pos (show ¬ a1 = 0 from c19)] at hp
      refine j_aload_n g (i := 0) (by decide +kernel) rfl ?_
      refine j_gA g (b := 510) f7_10 (by decide +kernel) (by decide +kernel) (by decide +kernel) (by decide +kernel) ?_
      refine j_gI g f7_212 (by decide +kernel) (by decide +kernel) (by decide +kernel) ?_
      refine hr.1 _ _ _ _ (by decide +kernel) ⟨_, rfl, by first | rfl | exact b2i_nar | decide +kernel⟩ ?_ ?_
      · unfold r_X7_best; first | (simp only [if_pos (show ¬ (b2i ((0 : Int32) ≤ a1 ∧ a1 ≤ (1 : Int32))) = 0 from c6), if_pos (show ¬ a1 = 0 from c19)]; done) | (simp only [if_pos (show ¬ (b2i ((0 : Int32) ≤ a1 ∧ a1 ≤ (1 : Int32))) = 0 from c6), if_pos (show ¬ a1 = 0 from c19)]; rfl) | rfl
      · unfold w_X7_best; first | (simp only [if_pos (show ¬ (b2i ((0 : Int32) ≤ a1 ∧ a1 ≤ (1 : Int32))) = 0 from c6), if_pos (show ¬ a1 = 0 from c19)]; done) | (simp only [if_pos (show ¬ (b2i ((0 : Int32) ≤ a1 ∧ a1 ≤ (1 : Int32))) = 0 from c6), if_pos (show ¬ a1 = 0 from c19)]; rfl) | rfl
    · rw [if_neg (show ¬ (¬ a1 = 0) from c19)] at hp
      refine j_aload_n g (i := 0) (by decide +kernel) rfl ?_
      refine j_gA g (b := 510) f7_10 (by decide +kernel) (by decide +kernel) (by decide +kernel) (by decide +kernel) ?_
      refine j_gI g f7_209 (by decide +kernel) (by decide +kernel) (by decide +kernel) ?_
      refine j_goto g (off := 10) (tgt := 39) (by decide +kernel) (by decide) ?_
      refine hr.1 _ _ _ _ (by decide +kernel) ⟨_, rfl, by first | rfl | exact b2i_nar | decide +kernel⟩ ?_ ?_
      · unfold r_X7_best; first | (simp only [if_pos (show ¬ (b2i ((0 : Int32) ≤ a1 ∧ a1 ≤ (1 : Int32))) = 0 from c6), if_neg (show ¬ (¬ a1 = 0) from c19)]; done) | (simp only [if_pos (show ¬ (b2i ((0 : Int32) ≤ a1 ∧ a1 ≤ (1 : Int32))) = 0 from c6), if_neg (show ¬ (¬ a1 = 0) from c19)]; rfl) | rfl
      · unfold w_X7_best; first | (simp only [if_pos (show ¬ (b2i ((0 : Int32) ≤ a1 ∧ a1 ≤ (1 : Int32))) = 0 from c6), if_neg (show ¬ (¬ a1 = 0) from c19)]; done) | (simp only [if_pos (show ¬ (b2i ((0 : Int32) ≤ a1 ∧ a1 ≤ (1 : Int32))) = 0 from c6), if_neg (show ¬ (¬ a1 = 0) from c19)]; rfl) | rfl
  · rw [if_neg (show ¬ (¬ (b2i ((0 : Int32) ≤ a1 ∧ a1 ≤ (1 : Int32))) = 0) from c6)] at hp
    refine j_iconst g (n := -1) (-1) (by decide +kernel) rfl ?_
    refine hr.1 _ _ _ _ (by decide +kernel) ⟨_, rfl, by first | rfl | exact b2i_nar | decide +kernel⟩ ?_ ?_
    · unfold r_X7_best; first | (simp only [if_neg (show ¬ (¬ (b2i ((0 : Int32) ≤ a1 ∧ a1 ≤ (1 : Int32))) = 0) from c6)]; done) | (simp only [if_neg (show ¬ (¬ (b2i ((0 : Int32) ≤ a1 ∧ a1 ≤ (1 : Int32))) = 0) from c6)]; rfl) | rfl
    · unfold w_X7_best; first | (simp only [if_neg (show ¬ (¬ (b2i ((0 : Int32) ≤ a1 ∧ a1 ≤ (1 : Int32))) = 0) from c6)]; done) | (simp only [if_neg (show ¬ (¬ (b2i ((0 : Int32) ≤ a1 ∧ a1 ≤ (1 : Int32))) = 0) from c6)]; rfl) | rfl
noncomputable def r_X7_fewest (M : Mm)  : Int32 := (w_X2_search M).1 510 8
noncomputable def w_X7_fewest (M : Mm)  : Mm := (w_X2_search M)
def p_X7_fewest (M : Mm)  : Prop := (p_X2_search M ) ∧ True
set_option maxRecDepth 20000 in
theorem rnX7_fewest {d : Nat} {M : Mm}   (hp : p_X7_fewest M ) : Rn (d + 12) mX7_fewest [.ref 1] M (some (.int (r_X7_fewest M ))) (w_X7_fewest M ) := by
  refine Rn.of [some (.ref 1)] (by decide +kernel) rfl (Nat.le_of_ble_eq_true rfl) rfl (fun J g hr => ?_)
  unfold p_X7_fewest at hp
  refine j_aload_n g (i := 0) (by decide +kernel) rfl ?_
  refine j_gA g (b := 510) f7_10 (by decide +kernel) (by decide +kernel) (by decide +kernel) (by decide +kernel) ?_
  obtain ⟨h0, hp⟩ := hp
  refine j_cV0v g v7_206 ⟨rfl, by decide⟩ (by decide +kernel) (by decide +kernel) (Nat.le_of_ble_eq_true rfl) (rnX2_search h0) ?_
  refine j_aload_n g (i := 0) (by decide +kernel) rfl ?_
  refine j_gA g (b := 510) f7_10 (by decide +kernel) (by decide +kernel) (by decide +kernel) (by decide +kernel) ?_
  refine j_gI g f7_215 (by decide +kernel) (by decide +kernel) (by decide +kernel) ?_
  refine hr.1 _ _ _ _ (by decide +kernel) ⟨_, rfl, by first | rfl | exact b2i_nar | decide +kernel⟩ ?_ ?_
  · unfold r_X7_fewest; rfl
  · unfold w_X7_fewest; rfl
noncomputable def r_X7_shortest (M : Mm)  : Int32 := (w_X2_search M).1 510 9
noncomputable def w_X7_shortest (M : Mm)  : Mm := (w_X2_search M)
def p_X7_shortest (M : Mm)  : Prop := (p_X2_search M ) ∧ True
set_option maxRecDepth 20000 in
theorem rnX7_shortest {d : Nat} {M : Mm}   (hp : p_X7_shortest M ) : Rn (d + 12) mX7_shortest [.ref 1] M (some (.int (r_X7_shortest M ))) (w_X7_shortest M ) := by
  refine Rn.of [some (.ref 1)] (by decide +kernel) rfl (Nat.le_of_ble_eq_true rfl) rfl (fun J g hr => ?_)
  unfold p_X7_shortest at hp
  refine j_aload_n g (i := 0) (by decide +kernel) rfl ?_
  refine j_gA g (b := 510) f7_10 (by decide +kernel) (by decide +kernel) (by decide +kernel) (by decide +kernel) ?_
  obtain ⟨h0, hp⟩ := hp
  refine j_cV0v g v7_206 ⟨rfl, by decide⟩ (by decide +kernel) (by decide +kernel) (Nat.le_of_ble_eq_true rfl) (rnX2_search h0) ?_
  refine j_aload_n g (i := 0) (by decide +kernel) rfl ?_
  refine j_gA g (b := 510) f7_10 (by decide +kernel) (by decide +kernel) (by decide +kernel) (by decide +kernel) ?_
  refine j_gI g f7_218 (by decide +kernel) (by decide +kernel) (by decide +kernel) ?_
  refine hr.1 _ _ _ _ (by decide +kernel) ⟨_, rfl, by first | rfl | exact b2i_nar | decide +kernel⟩ ?_ ?_
  · unfold r_X7_shortest; rfl
  · unfold w_X7_shortest; rfl
noncomputable def r_X7_prove_7 (M : Mm)   : Int32 := (wi (w_X2_writeBestRows M) 1 8 (r_X2_writeBestRows M)).1 1 8
noncomputable def w_X7_prove_7 (M : Mm)   : Mm := (wi (w_X2_writeBestRows M) 1 8 (r_X2_writeBestRows M))
def p_X7_prove_7 (M : Mm)   : Prop := (p_X2_writeBestRows M ) ∧ True
theorem jn_X7_prove_7 {d : Nat} {J : Nat → Lc → List Value → Mm → Prop} {M : Mm}    (g : Good mX7_prove.1 mX7_prove.2.2.1 mX7_prove.2.2.2.1 (d + 12) J) {rv : Option Value} {M1 : Mm} (hr : Ret mX7_prove.2.2.1 mX7_prove.2.2.2.2 rv M1 J) (hp : p_X7_prove_7 M  ) (hrv : rv = some (.int (r_X7_prove_7 M  ))) (hmm : M1 = w_X7_prove_7 M  ) : J 7 [some (.ref 1)] [] M := by
  unfold p_X7_prove_7 at hp
  refine j_aload_n g (i := 0) (by decide +kernel) rfl ?_
  refine j_aload_n g (i := 0) (by decide +kernel) rfl ?_
  refine j_gA g (b := 510) f7_10 (by decide +kernel) (by decide +kernel) (by decide +kernel) (by decide +kernel) ?_
  refine j_aload_n g (i := 0) (by decide +kernel) rfl ?_
  refine j_gA g (b := 550) f7_51 (by decide +kernel) (by decide +kernel) (by decide +kernel) (by decide +kernel) ?_
  obtain ⟨h0, hp⟩ := hp
  refine j_cV1r g v7_249 ⟨rfl, by decide⟩ (by decide +kernel) (by decide +kernel) (Nat.le_of_ble_eq_true rfl) (rnX2_writeBestRows h0) ?_
  refine j_pI g f7_55 (fun q h => by cases h; rfl) (by decide +kernel) (by decide +kernel) (by decide +kernel) ?_
  refine j_aload_n g (i := 0) (by decide +kernel) rfl ?_
  refine j_gI g f7_55 (by decide +kernel) (by decide +kernel) (by decide +kernel) ?_
  refine hr.1 _ _ _ _ (by decide +kernel) ⟨_, rfl, by first | rfl | exact b2i_nar | decide +kernel⟩ ?_ ?_
  · rw [hrv]; unfold r_X7_prove_7; rfl
  · rw [hmm]; unfold w_X7_prove_7; rfl
noncomputable def r_X7_prove (M : Mm)  : Int32 := r_X7_prove_7 (w_X2_search M)
noncomputable def w_X7_prove (M : Mm)  : Mm := w_X7_prove_7 (w_X2_search M)
def p_X7_prove (M : Mm)  : Prop := (p_X2_search M ) ∧ p_X7_prove_7 (w_X2_search M)
set_option maxRecDepth 20000 in
theorem rnX7_prove {d : Nat} {M : Mm}   (hp : p_X7_prove M ) : Rn (d + 12) mX7_prove [.ref 1] M (some (.int (r_X7_prove M ))) (w_X7_prove M ) := by
  refine Rn.of [some (.ref 1)] (by decide +kernel) rfl (Nat.le_of_ble_eq_true rfl) rfl (fun J g hr => ?_)
  unfold p_X7_prove at hp
  refine j_aload_n g (i := 0) (by decide +kernel) rfl ?_
  refine j_gA g (b := 510) f7_10 (by decide +kernel) (by decide +kernel) (by decide +kernel) (by decide +kernel) ?_
  obtain ⟨h0, hp⟩ := hp
  refine j_cV0v g v7_206 ⟨rfl, by decide⟩ (by decide +kernel) (by decide +kernel) (Nat.le_of_ble_eq_true rfl) (rnX2_search h0) ?_
  refine jn_X7_prove_7  g hr hp ?_ ?_ 
  · unfold r_X7_prove; rfl
  · unfold w_X7_prove; rfl
