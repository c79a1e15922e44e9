theorem rfW103 {i : Int32} (h : vp_in i 6) : rf 103 i.toNatClampNeg = 110 + i.toNatClampNeg := rfW1 h
theorem gkW103 {i : Int32} (h : vp_in i 6) : gk (110 + i.toNatClampNeg) = 6 := gkW1 h
theorem rfW303 {i : Int32} (h : vp_in i 6) : rf 303 i.toNatClampNeg = 310 + i.toNatClampNeg := by
  have key : ∀ k, k < 6 → rf 303 k = 310 + k := by decide +kernel
  exact key _ (vin_iff.mp h).2
theorem gkW303 {i : Int32} (h : vp_in i 6) : gk (310 + i.toNatClampNeg) = 6 := by
  have key : ∀ k, k < 6 → gk (310 + k) = 6 := by decide +kernel
  exact key _ (vin_iff.mp h).2
theorem rfR {i : Int32} (h : vp_in i 4) : rf 533 i.toNatClampNeg = 534 + i.toNatClampNeg := by
  have key : ∀ k, k < 4 → rf 533 k = 534 + k := by decide +kernel
  exact key _ (vin_iff.mp h).2
theorem gkR {i : Int32} (h : vp_in i 4) : gk (534 + i.toNatClampNeg) = 11 := by
  have key : ∀ k, k < 4 → gk (534 + k) = 11 := by decide +kernel
  exact key _ (vin_iff.mp h).2
theorem glR {i : Int32} (h : vp_in i 4) : gl (534 + i.toNatClampNeg) = 40 := by
  have key : ∀ k, k < 4 → gl (534 + k) = 40 := by decide +kernel
  exact key _ (vin_iff.mp h).2
def w_X0_begin (M : Mm) (a1 : Int32) : Mm := if ¬ (M.1 520 2) = 0 then M else if 30 ≤ (M.1 520 1) then M else (wi (wi M 521 (Int32.toNatClampNeg (M.1 520 1)) a1) 520 1 ((M.1 520 1) + 1))
def p_X0_begin (M : Mm) (a1 : Int32) : Prop := (if ¬ (M.1 520 2) = 0 then True else (if 30 ≤ (M.1 520 1) then True else (vp_in (M.1 520 1) 30) ∧ True))
theorem rnX0_begin {d : Nat} {M : Mm} {a1 : Int32}  (hp : p_X0_begin M a1) : Rn (d) mX0_begin [.ref 520, .int a1] M none (w_X0_begin M a1) := by
  refine Rn.of [some (.ref 520), some (.int a1)] (by decide +kernel) rfl (Nat.le_of_ble_eq_true rfl) rfl (fun J g hr => ?_)
  unfold p_X0_begin at hp
  refine j_aload_n g (i := 0) (by decide +kernel) rfl ?_
  refine j_gI g f0_19 (by decide +kernel) (by decide +kernel) (by decide +kernel) ?_
  refine j_if_ne g (off := 32) (tgt := 36) (by decide +kernel) (by decide) (fun c4 => ?_) (fun c4 => ?_)
  · rw [if_pos (show ¬ (M.1 520 2) = 0 from c4)] at hp
    refine hr.2.2.2 _ _ _ (by decide +kernel) rfl rfl ?_
    · unfold w_X0_begin; first | rfl | (simp only [if_pos (show ¬ (M.1 520 2) = 0 from c4)]; done) | (simp only [if_pos (show ¬ (M.1 520 2) = 0 from c4)]; rfl)
  · rw [if_neg (show ¬ (¬ (M.1 520 2) = 0) from c4)] at hp
    refine j_aload_n g (i := 0) (by decide +kernel) rfl ?_
    refine j_gI g f0_15 (by decide +kernel) (by decide +kernel) (by decide +kernel) ?_
    refine j_bipush g (n := 30) (30) (by decide +kernel) (by decide +kernel) ?_
    refine j_icmp_ge g (off := 23) (tgt := 36) (by decide +kernel) (by decide) (fun c13 => ?_) (fun c13 => ?_)
    · rw [if_pos (show 30 ≤ (M.1 520 1) from c13)] at hp
      refine hr.2.2.2 _ _ _ (by decide +kernel) rfl rfl ?_
      · unfold w_X0_begin; first | rfl | (simp only [if_neg (show ¬ (¬ (M.1 520 2) = 0) from c4), if_pos (show 30 ≤ (M.1 520 1) from c13)]; done) | (simp only [if_neg (show ¬ (¬ (M.1 520 2) = 0) from c4), if_pos (show 30 ≤ (M.1 520 1) from c13)]; rfl)
    · rw [if_neg (show ¬ (30 ≤ (M.1 520 1)) from c13)] at hp
      refine j_aload_n g (i := 0) (by decide +kernel) rfl ?_
      refine j_gA g (b := 521) f0_11 (by decide +kernel) (by decide +kernel) (by decide +kernel) (by decide +kernel) ?_
      refine j_aload_n g (i := 0) (by decide +kernel) rfl ?_
      refine j_gI g f0_15 (by decide +kernel) (by decide +kernel) (by decide +kernel) ?_
      refine j_iload_n g (i := 1) (by decide +kernel) rfl ?_
      obtain ⟨h0, hp⟩ := hp
      refine j_is g 30 (by decide +kernel) (by decide +kernel) (by decide +kernel) h0 ?_
      refine j_aload_n g (i := 0) (by decide +kernel) rfl ?_
      refine j_dup g (by decide +kernel) rfl ?_
      refine j_gI g f0_15 (by decide +kernel) (by decide +kernel) (by decide +kernel) ?_
      refine j_iconst g (n := 1) (1) (by decide +kernel) rfl ?_
      refine j_iadd g (by decide +kernel) ?_
      refine j_pI g f0_15 (fun q h => by cases h; rfl) (by decide +kernel) (by decide +kernel) (by decide +kernel) ?_
      refine hr.2.2.2 _ _ _ (by decide +kernel) rfl rfl ?_
      · unfold w_X0_begin; first | rfl | (simp only [if_neg (show ¬ (¬ (M.1 520 2) = 0) from c4), if_neg (show ¬ (30 ≤ (M.1 520 1)) from c13)]; done) | (simp only [if_neg (show ¬ (¬ (M.1 520 2) = 0) from c4), if_neg (show ¬ (30 ≤ (M.1 520 1)) from c13)]; rfl)
def r_X0_part (M : Mm) (a1 : Int32) (a2 : Int32) : Int32 := if ¬ a2 = 0 then a1 / a2 else 0
def w_X0_part (M : Mm) (a1 : Int32) (a2 : Int32) : Mm := if ¬ a2 = 0 then M else (wi M 520 2 1)
def p_X0_part (M : Mm) (a1 : Int32) (a2 : Int32) : Prop := (if ¬ a2 = 0 then (¬ a2 = 0) ∧ True else True)
theorem rnX0_part {d : Nat} {M : Mm} {a1 : Int32} {a2 : Int32}  (hp : p_X0_part M a1 a2) : Rn (d) mX0_part [.ref 520, .int a1, .int a2] M (some (.int (r_X0_part M a1 a2))) (w_X0_part M a1 a2) := by
  refine Rn.of [some (.ref 520), some (.int a1), some (.int a2)] (by decide +kernel) rfl (Nat.le_of_ble_eq_true rfl) rfl (fun J g hr => ?_)
  unfold p_X0_part at hp
  refine j_iload_n g (i := 2) (by decide +kernel) rfl ?_
  refine j_if_ne g (off := 10) (tgt := 11) (by decide +kernel) (by decide) (fun c1 => ?_) (fun c1 => ?_)
  · rw [if_pos (show ¬ a2 = 0 from c1)] at hp
    refine j_iload_n g (i := 1) (by decide +kernel) rfl ?_
    refine j_iload_n g (i := 2) (by decide +kernel) rfl ?_
    obtain ⟨h0, hp⟩ := hp
    refine j_idiv g (by decide +kernel) h0 ?_
    refine hr.1 _ _ _ _ (by decide +kernel) ⟨_, rfl, by first | rfl | exact b2i_nar | rfl⟩ ?_ ?_
    · unfold r_X0_part; first | rfl | (simp only [if_pos (show ¬ a2 = 0 from c1)]; done) | (simp only [if_pos (show ¬ a2 = 0 from c1)]; rfl)
    · unfold w_X0_part; first | rfl | (simp only [if_pos (show ¬ a2 = 0 from c1)]; done) | (simp only [if_pos (show ¬ a2 = 0 from c1)]; rfl)
  · rw [if_neg (show ¬ (¬ a2 = 0) from c1)] at hp
    refine j_aload_n g (i := 0) (by decide +kernel) rfl ?_
    refine j_iconst g (n := 1) (1) (by decide +kernel) rfl ?_
    refine j_pZ g f0_19 (fun q h => by cases h; rfl) (by decide +kernel) (by decide +kernel) (by decide +kernel) (by decide) ?_
    refine j_iconst g (n := 0) (0) (by decide +kernel) rfl ?_
    refine hr.1 _ _ _ _ (by decide +kernel) ⟨_, rfl, by first | rfl | exact b2i_nar | rfl⟩ ?_ ?_
    · unfold r_X0_part; first | rfl | (simp only [if_neg (show ¬ (¬ a2 = 0) from c1)]; done) | (simp only [if_neg (show ¬ (¬ a2 = 0) from c1)]; rfl)
    · unfold w_X0_part; first | rfl | (simp only [if_neg (show ¬ (¬ a2 = 0) from c1)]; done) | (simp only [if_neg (show ¬ (¬ a2 = 0) from c1)]; rfl)
def r_X1_narrowed (M : Mm) (a1 : Int32) (a2 : Int32) : Int64 := if a1 = 0 then Int32.toInt64 (Int8.toInt32 (Int32.toInt8 a2)) else if a1 = 1 then Int32.toInt64 (Int16.toInt32 (Int32.toInt16 a2)) else Int32.toInt64 a2
def w_X1_narrowed (M : Mm) (a1 : Int32) (a2 : Int32) : Mm := if a1 = 0 then M else if a1 = 1 then M else M
theorem rnX1_narrowed {d : Nat} {M : Mm} {a1 : Int32} {a2 : Int32}  : Rn (d) mX1_narrowed [.int a1, .int a2] M (some (.long (r_X1_narrowed M a1 a2))) (w_X1_narrowed M a1 a2) := by
  refine Rn.of [some (.int a1), some (.int a2)] (by decide +kernel) rfl (Nat.le_of_ble_eq_true rfl) rfl (fun J g hr => ?_)
  refine j_iload_n g (i := 0) (by decide +kernel) rfl ?_
  have dsw1 : decode cX1_narrowed 1 = .ok (.lookupswitch 35 #[(0, 27), (1, 31)], 27) := by decide +kernel
  by_cases e1_0 : a1 = 0
  · refine j_lookup g (off := 27) (tgt := 28) dsw1 (by decide) (by rw [e1_0]; decide) (by decide) ?_
    refine j_iload_n g (i := 1) (by decide +kernel) rfl ?_
    refine j_i2b g (by decide +kernel) ?_
    refine j_i2l g (by decide +kernel) ?_
    refine hr.2.1 _ _ _ _ (by decide +kernel) rfl ?_ ?_
    · unfold r_X1_narrowed; first | rfl | (simp only [if_pos e1_0]; done) | (simp only [if_pos e1_0]; rfl)
    · unfold w_X1_narrowed; first | rfl | (simp only [if_pos e1_0]; done) | (simp only [if_pos e1_0]; rfl)
  by_cases e1_1 : a1 = 1
  · refine j_lookup g (off := 31) (tgt := 32) dsw1 (by decide) (by rw [e1_1]; decide) (by decide) ?_
    refine j_iload_n g (i := 1) (by decide +kernel) rfl ?_
    refine j_i2s g (by decide +kernel) ?_
    refine j_i2l g (by decide +kernel) ?_
    refine hr.2.1 _ _ _ _ (by decide +kernel) rfl ?_ ?_
    · unfold r_X1_narrowed; first | rfl | (simp only [if_neg e1_0, if_pos e1_1]; done) | (simp only [if_neg e1_0, if_pos e1_1]; rfl)
    · unfold w_X1_narrowed; first | rfl | (simp only [if_neg e1_0, if_pos e1_1]; done) | (simp only [if_neg e1_0, if_pos e1_1]; rfl)
  refine j_lookup g (off := 35) (tgt := 36) dsw1 (by decide) (by simp only [← Int32.toInt_inj, Int32.reduceToInt, im1, im2, im3] at e1_0 e1_1; simp [Op.lookupswitch.offset, Ne.symm e1_0, Ne.symm e1_1]) (by decide) ?_
  refine j_iload_n g (i := 1) (by decide +kernel) rfl ?_
  refine j_i2l g (by decide +kernel) ?_
  refine hr.2.1 _ _ _ _ (by decide +kernel) rfl ?_ ?_
  · unfold r_X1_narrowed; first | rfl | (simp only [if_neg e1_0, if_neg e1_1]; done) | (simp only [if_neg e1_0, if_neg e1_1]; rfl)
  · unfold w_X1_narrowed; first | rfl | (simp only [if_neg e1_0, if_neg e1_1]; done) | (simp only [if_neg e1_0, if_neg e1_1]; rfl)
def r_X1_refusalOf (M : Mm) (a1 : Int32) (a2 : Int32) : Int32 := if ¬ (b2i (0 ≤ a1 ∧ a1 < 4)) = 0 then (if ¬ (M.1 531 (Int32.toNatClampNeg a1)) = (-1) then (if ¬ (M.1 531 (Int32.toNatClampNeg a1)) = a2 then (-13) else 0) else (-11)) else (-1)
def p_X1_refusalOf (M : Mm) (a1 : Int32) (a2 : Int32) : Prop := (if ¬ (b2i (0 ≤ a1 ∧ a1 < 4)) = 0 then (vp_in a1 4) ∧ (if ¬ (M.1 531 (Int32.toNatClampNeg a1)) = (-1) then (vp_in a1 4) ∧ (if ¬ (M.1 531 (Int32.toNatClampNeg a1)) = a2 then True else True) else True) else True)
theorem rnX1_refusalOf {d : Nat} {M : Mm} {a1 : Int32} {a2 : Int32}  (hp : p_X1_refusalOf M a1 a2) : Rn (d + 1) mX1_refusalOf [.ref 530, .int a1, .int a2] M (some (.int (r_X1_refusalOf M a1 a2))) M := by
  refine Rn.of [some (.ref 530), some (.int a1), some (.int a2)] (by decide +kernel) rfl (Nat.le_of_ble_eq_true rfl) rfl (fun J g hr => ?_)
  unfold p_X1_refusalOf at hp
  refine j_iload_n g (i := 1) (by decide +kernel) rfl ?_
  refine j_cS1r g s1_32 (by decide +kernel) (Nat.le_of_ble_eq_true rfl) (rnX1_isNumber) ?_
  refine j_if_ne g (off := 5) (tgt := 9) (by decide +kernel) (by decide) (fun c4 => ?_) (fun c4 => ?_)
  · rw [if_pos (show ¬ (b2i (0 ≤ a1 ∧ a1 < 4)) = 0 from c4)] at hp
    refine j_aload_n g (i := 0) (by decide +kernel) rfl ?_
    refine j_gA g (b := 531) f1_11 (by decide +kernel) (by decide +kernel) (by decide +kernel) (by decide +kernel) ?_
    refine j_iload_n g (i := 1) (by decide +kernel) rfl ?_
    obtain ⟨h0, hp⟩ := hp
    refine j_ia g 4 (by decide +kernel) (by decide +kernel) (by decide +kernel) h0 ?_
    refine j_iconst g (n := -1) (-1) (by decide +kernel) rfl ?_
    refine j_icmp_ne g (off := 6) (tgt := 22) (by decide +kernel) (by decide) (fun c16 => ?_) (fun c16 => ?_)
    · rw [if_pos (show ¬ (M.1 531 (Int32.toNatClampNeg a1)) = (-1) from c16)] at hp
      refine j_aload_n g (i := 0) (by decide +kernel) rfl ?_
      refine j_gA g (b := 531) f1_11 (by decide +kernel) (by decide +kernel) (by decide +kernel) (by decide +kernel) ?_
      refine j_iload_n g (i := 1) (by decide +kernel) rfl ?_
      obtain ⟨h0, hp⟩ := hp
      refine j_ia g 4 (by decide +kernel) (by decide +kernel) (by decide +kernel) h0 ?_
      refine j_iload_n g (i := 2) (by decide +kernel) rfl ?_
      refine j_icmp_ne g (off := 7) (tgt := 36) (by decide +kernel) (by decide) (fun c29 => ?_) (fun c29 => ?_)
      · rw [if_pos (show ¬ (M.1 531 (Int32.toNatClampNeg a1)) = a2 from c29)] at hp
        refine j_bipush g (n := -13) (-13) (by decide +kernel) (by decide +kernel) ?_
        refine hr.1 _ _ _ _ (by decide +kernel) ⟨_, rfl, by first | rfl | exact b2i_nar | rfl⟩ ?_ ?_
        · unfold r_X1_refusalOf; first | rfl | (simp only [if_pos (show ¬ (b2i (0 ≤ a1 ∧ a1 < 4)) = 0 from c4), if_pos (show ¬ (M.1 531 (Int32.toNatClampNeg a1)) = (-1) from c16), if_pos (show ¬ (M.1 531 (Int32.toNatClampNeg a1)) = a2 from c29)]; done) | (simp only [if_pos (show ¬ (b2i (0 ≤ a1 ∧ a1 < 4)) = 0 from c4), if_pos (show ¬ (M.1 531 (Int32.toNatClampNeg a1)) = (-1) from c16), if_pos (show ¬ (M.1 531 (Int32.toNatClampNeg a1)) = a2 from c29)]; rfl)
        · rfl
      · rw [if_neg (show ¬ (¬ (M.1 531 (Int32.toNatClampNeg a1)) = a2) from c29)] at hp
        refine j_iconst g (n := 0) (0) (by decide +kernel) rfl ?_
        refine j_goto g (off := 5) (tgt := 38) (by decide +kernel) (by decide) ?_
        refine hr.1 _ _ _ _ (by decide +kernel) ⟨_, rfl, by first | rfl | exact b2i_nar | rfl⟩ ?_ ?_
        · unfold r_X1_refusalOf; first | rfl | (simp only [if_pos (show ¬ (b2i (0 ≤ a1 ∧ a1 < 4)) = 0 from c4), if_pos (show ¬ (M.1 531 (Int32.toNatClampNeg a1)) = (-1) from c16), if_neg (show ¬ (¬ (M.1 531 (Int32.toNatClampNeg a1)) = a2) from c29)]; done) | (simp only [if_pos (show ¬ (b2i (0 ≤ a1 ∧ a1 < 4)) = 0 from c4), if_pos (show ¬ (M.1 531 (Int32.toNatClampNeg a1)) = (-1) from c16), if_neg (show ¬ (¬ (M.1 531 (Int32.toNatClampNeg a1)) = a2) from c29)]; rfl)
        · rfl
    · rw [if_neg (show ¬ (¬ (M.1 531 (Int32.toNatClampNeg a1)) = (-1)) from c16)] at hp
      refine j_bipush g (n := -11) (-11) (by decide +kernel) (by decide +kernel) ?_
      refine hr.1 _ _ _ _ (by decide +kernel) ⟨_, rfl, by first | rfl | exact b2i_nar | rfl⟩ ?_ ?_
      · unfold r_X1_refusalOf; first | rfl | (simp only [if_pos (show ¬ (b2i (0 ≤ a1 ∧ a1 < 4)) = 0 from c4), if_neg (show ¬ (¬ (M.1 531 (Int32.toNatClampNeg a1)) = (-1)) from c16)]; done) | (simp only [if_pos (show ¬ (b2i (0 ≤ a1 ∧ a1 < 4)) = 0 from c4), if_neg (show ¬ (¬ (M.1 531 (Int32.toNatClampNeg a1)) = (-1)) from c16)]; rfl)
      · rfl
  · rw [if_neg (show ¬ (¬ (b2i (0 ≤ a1 ∧ a1 < 4)) = 0) from c4)] at hp
    refine j_iconst g (n := -1) (-1) (by decide +kernel) rfl ?_
    refine hr.1 _ _ _ _ (by decide +kernel) ⟨_, rfl, by first | rfl | exact b2i_nar | rfl⟩ ?_ ?_
    · unfold r_X1_refusalOf; first | rfl | (simp only [if_neg (show ¬ (¬ (b2i (0 ≤ a1 ∧ a1 < 4)) = 0) from c4)]; done) | (simp only [if_neg (show ¬ (¬ (b2i (0 ≤ a1 ∧ a1 < 4)) = 0) from c4)]; rfl)
    · rfl
def w_X3_take (M : Mm) (s : Nat) (s1 : Nat) : Mm := (wi (wi (wi (cpi (cpi (cpi (cpi M (s1 + 1) (s + 1) 0 0 3) (s1 + 2) (s + 2) 0 0 6) (s1 + 3) (s + 3) 0 0 6) (s1 + 4) (s + 4) 0 0 6) s 4 ((cpi (cpi (cpi (cpi M (s1 + 1) (s + 1) 0 0 3) (s1 + 2) (s + 2) 0 0 6) (s1 + 3) (s + 3) 0 0 6) (s1 + 4) (s + 4) 0 0 6).1 s1 4)) s 5 ((wi (cpi (cpi (cpi (cpi M (s1 + 1) (s + 1) 0 0 3) (s1 + 2) (s + 2) 0 0 6) (s1 + 3) (s + 3) 0 0 6) (s1 + 4) (s + 4) 0 0 6) s 4 ((cpi (cpi (cpi (cpi M (s1 + 1) (s + 1) 0 0 3) (s1 + 2) (s + 2) 0 0 6) (s1 + 3) (s + 3) 0 0 6) (s1 + 4) (s + 4) 0 0 6).1 s1 4)).1 s1 5)) s 6 ((wi (wi (cpi (cpi (cpi (cpi M (s1 + 1) (s + 1) 0 0 3) (s1 + 2) (s + 2) 0 0 6) (s1 + 3) (s + 3) 0 0 6) (s1 + 4) (s + 4) 0 0 6) s 4 ((cpi (cpi (cpi (cpi M (s1 + 1) (s + 1) 0 0 3) (s1 + 2) (s + 2) 0 0 6) (s1 + 3) (s + 3) 0 0 6) (s1 + 4) (s + 4) 0 0 6).1 s1 4)) s 5 ((wi (cpi (cpi (cpi (cpi M (s1 + 1) (s + 1) 0 0 3) (s1 + 2) (s + 2) 0 0 6) (s1 + 3) (s + 3) 0 0 6) (s1 + 4) (s + 4) 0 0 6) s 4 ((cpi (cpi (cpi (cpi M (s1 + 1) (s + 1) 0 0 3) (s1 + 2) (s + 2) 0 0 6) (s1 + 3) (s + 3) 0 0 6) (s1 + 4) (s + 4) 0 0 6).1 s1 4)).1 s1 5)).1 s1 6))
theorem rnX3_take {d : Nat} {M : Mm} {s : Nat} {s1 : Nat} (hs : isS s) (hs1 : isS s1) : Rn (d + 1) mX3_take [.ref s, .ref s1] M none (w_X3_take M s s1) := by
  refine Rn.of [some (.ref s), some (.ref s1)] (by decide +kernel) rfl (Nat.le_of_ble_eq_true rfl) rfl (fun J g hr => ?_)
  refine j_aload_n g (i := 1) (by decide +kernel) rfl ?_
  refine j_gA g f3_9 (by decide +kernel) (by decide +kernel) (isS_F hs1).1.1 (isS_F hs1).2.2.1 ?_
  refine j_iconst g (n := 0) (0) (by decide +kernel) rfl ?_
  refine j_aload_n g (i := 0) (by decide +kernel) rfl ?_
  refine j_gA g f3_9 (by decide +kernel) (by decide +kernel) (isS_F hs).1.1 (isS_F hs).2.2.1 ?_
  refine j_iconst g (n := 0) (0) (by decide +kernel) rfl ?_
  refine j_iconst g (n := 3) (3) (by decide +kernel) rfl ?_
  refine j_cp g (3) 3 3 3 t3_34 (by decide +kernel) (by decide) (Nat.le_of_ble_eq_true rfl) (isS_F hs1).1.2.1 (isS_F hs1).2.1.1 (isS_F hs).1.2.1 (isS_F hs).2.1.1 ?_
  refine j_aload_n g (i := 1) (by decide +kernel) rfl ?_
  refine j_gA g f3_15 (by decide +kernel) (by decide +kernel) (isS_F hs1).1.1 (isS_F hs1).2.2.2.1 ?_
  refine j_iconst g (n := 0) (0) (by decide +kernel) rfl ?_
  refine j_aload_n g (i := 0) (by decide +kernel) rfl ?_
  refine j_gA g f3_15 (by decide +kernel) (by decide +kernel) (isS_F hs).1.1 (isS_F hs).2.2.2.1 ?_
  refine j_iconst g (n := 0) (0) (by decide +kernel) rfl ?_
  refine j_bipush g (n := 6) (6) (by decide +kernel) (by decide +kernel) ?_
  refine j_cp g (6) 6 6 6 t3_34 (by decide +kernel) (by decide) (Nat.le_of_ble_eq_true rfl) (isS_F hs1).1.2.2.1 (isS_F hs1).2.1.2.1 (isS_F hs).1.2.2.1 (isS_F hs).2.1.2.1 ?_
  refine j_aload_n g (i := 1) (by decide +kernel) rfl ?_
  refine j_gA g f3_18 (by decide +kernel) (by decide +kernel) (isS_F hs1).1.1 (isS_F hs1).2.2.2.2.1 ?_
  refine j_iconst g (n := 0) (0) (by decide +kernel) rfl ?_
  refine j_aload_n g (i := 0) (by decide +kernel) rfl ?_
  refine j_gA g f3_18 (by decide +kernel) (by decide +kernel) (isS_F hs).1.1 (isS_F hs).2.2.2.2.1 ?_
  refine j_iconst g (n := 0) (0) (by decide +kernel) rfl ?_
  refine j_bipush g (n := 6) (6) (by decide +kernel) (by decide +kernel) ?_
  refine j_cp g (6) 6 6 6 t3_34 (by decide +kernel) (by decide) (Nat.le_of_ble_eq_true rfl) (isS_F hs1).1.2.2.2.1 (isS_F hs1).2.1.2.2.1 (isS_F hs).1.2.2.2.1 (isS_F hs).2.1.2.2.1 ?_
  refine j_aload_n g (i := 1) (by decide +kernel) rfl ?_
  refine j_gA g f3_21 (by decide +kernel) (by decide +kernel) (isS_F hs1).1.1 (isS_F hs1).2.2.2.2.2 ?_
  refine j_iconst g (n := 0) (0) (by decide +kernel) rfl ?_
  refine j_aload_n g (i := 0) (by decide +kernel) rfl ?_
  refine j_gA g f3_21 (by decide +kernel) (by decide +kernel) (isS_F hs).1.1 (isS_F hs).2.2.2.2.2 ?_
  refine j_iconst g (n := 0) (0) (by decide +kernel) rfl ?_
  refine j_bipush g (n := 6) (6) (by decide +kernel) (by decide +kernel) ?_
  refine j_cp g (6) 6 6 6 t3_34 (by decide +kernel) (by decide) (Nat.le_of_ble_eq_true rfl) (isS_F hs1).1.2.2.2.2 (isS_F hs1).2.1.2.2.2 (isS_F hs).1.2.2.2.2 (isS_F hs).2.1.2.2.2 ?_
  refine j_aload_n g (i := 0) (by decide +kernel) rfl ?_
  refine j_aload_n g (i := 1) (by decide +kernel) rfl ?_
  refine j_gI g f3_24 (by decide +kernel) (by decide +kernel) (isS_F hs1).1.1 ?_
  refine j_pI g f3_24 (fun q h => by cases h; rfl) (by decide +kernel) (by decide +kernel) (isS_F hs).1.1 ?_
  refine j_aload_n g (i := 0) (by decide +kernel) rfl ?_
  refine j_aload_n g (i := 1) (by decide +kernel) rfl ?_
  refine j_gI g f3_28 (by decide +kernel) (by decide +kernel) (isS_F hs1).1.1 ?_
  refine j_pI g f3_28 (fun q h => by cases h; rfl) (by decide +kernel) (by decide +kernel) (isS_F hs).1.1 ?_
  refine j_aload_n g (i := 0) (by decide +kernel) rfl ?_
  refine j_aload_n g (i := 1) (by decide +kernel) rfl ?_
  refine j_gI g f3_31 (by decide +kernel) (by decide +kernel) (isS_F hs1).1.1 ?_
  refine j_pI g f3_31 (fun q h => by cases h; rfl) (by decide +kernel) (by decide +kernel) (isS_F hs).1.1 ?_
  refine hr.2.2.2 _ _ _ (by decide +kernel) rfl rfl ?_
  · rfl
def w_X3_beginFrom (M : Mm) (s : Nat) (s1 : Nat) : Mm := (wi (wi (w_X3_take M s s1) s 5 0) s 6 0)
theorem rnX3_beginFrom {d : Nat} {M : Mm} {s : Nat} {s1 : Nat} (hs : isS s) (hs1 : isS s1) : Rn (d + 2) mX3_beginFrom [.ref s, .ref s1] M none (w_X3_beginFrom M s s1) := by
  refine Rn.of [some (.ref s), some (.ref s1)] (by decide +kernel) rfl (Nat.le_of_ble_eq_true rfl) rfl (fun J g hr => ?_)
  refine j_aload_n g (i := 0) (by decide +kernel) rfl ?_
  refine j_aload_n g (i := 1) (by decide +kernel) rfl ?_
  refine j_cV1v g v3_40 ⟨rfl, by decide⟩ (isS_F hs).1.1 (by decide +kernel) (Nat.le_of_ble_eq_true rfl) (rnX3_take (by first | exact hs | (simp [isS]; done)) (by first | exact hs1 | (simp [isS]; done))) ?_
  refine j_aload_n g (i := 0) (by decide +kernel) rfl ?_
  refine j_iconst g (n := 0) (0) (by decide +kernel) rfl ?_
  refine j_pI g f3_28 (fun q h => by cases h; rfl) (by decide +kernel) (by decide +kernel) (isS_F hs).1.1 ?_
  refine j_aload_n g (i := 0) (by decide +kernel) rfl ?_
  refine j_iconst g (n := 0) (0) (by decide +kernel) rfl ?_
  refine j_pI g f3_31 (fun q h => by cases h; rfl) (by decide +kernel) (by decide +kernel) (isS_F hs).1.1 ?_
  refine hr.2.2.2 _ _ _ (by decide +kernel) rfl rfl ?_
  · rfl
def w_X4_fail (M : Mm)  : Mm := if 0 ≤ (M.1 500 5) then M else (wi M 500 5 (M.1 500 3))
theorem rnX4_fail {d : Nat} {M : Mm}   : Rn (d) mX4_fail [.ref 500] M none (w_X4_fail M ) := by
  refine Rn.of [some (.ref 500)] (by decide +kernel) rfl (Nat.le_of_ble_eq_true rfl) rfl (fun J g hr => ?_)
  refine j_aload_n g (i := 0) (by decide +kernel) rfl ?_
  refine j_gI g f4_28 (by decide +kernel) (by decide +kernel) (by decide +kernel) ?_
  refine j_if_ge g (off := 11) (tgt := 15) (by decide +kernel) (by decide) (fun c4 => ?_) (fun c4 => ?_)
  · skip
    refine hr.2.2.2 _ _ _ (by decide +kernel) rfl rfl ?_
    · unfold w_X4_fail; first | rfl | (simp only [if_pos (show 0 ≤ (M.1 500 5) from c4)]; done) | (simp only [if_pos (show 0 ≤ (M.1 500 5) from c4)]; rfl)
  · skip
    refine j_aload_n g (i := 0) (by decide +kernel) rfl ?_
    refine j_aload_n g (i := 0) (by decide +kernel) rfl ?_
    refine j_gI g f4_22 (by decide +kernel) (by decide +kernel) (by decide +kernel) ?_
    refine j_pI g f4_28 (fun q h => by cases h; rfl) (by decide +kernel) (by decide +kernel) (by decide +kernel) ?_
    refine hr.2.2.2 _ _ _ (by decide +kernel) rfl rfl ?_
    · unfold w_X4_fail; first | rfl | (simp only [if_neg (show ¬ (0 ≤ (M.1 500 5)) from c4)]; done) | (simp only [if_neg (show ¬ (0 ≤ (M.1 500 5)) from c4)]; rfl)
def r_X5_addMover (M : Mm) (a1 : Int32) (a2 : Int32) : Int32 := ((M.1 100 0) + 1) - 1
def w_X5_addMover (M : Mm) (a1 : Int32) (a2 : Int32) : Mm := (wi (wi (wi M 1001 (Int32.toNatClampNeg (M.1 100 0)) a1) 101 (Int32.toNatClampNeg (M.1 100 0)) a2) 100 0 ((M.1 100 0) + 1))
def p_X5_addMover (M : Mm) (a1 : Int32) (a2 : Int32) : Prop := (vp_in (M.1 100 0) 3) ∧ (vp_in (M.1 100 0) 3) ∧ True
theorem rnX5_addMover {d : Nat} {M : Mm} {a1 : Int32} {a2 : Int32}  (hp : p_X5_addMover M a1 a2) : Rn (d) mX5_addMover [.ref 100, .int a1, .int a2] M (some (.int (r_X5_addMover M a1 a2))) (w_X5_addMover M a1 a2) := by
  refine Rn.of [some (.ref 100), some (.int a1), some (.int a2)] (by decide +kernel) rfl (Nat.le_of_ble_eq_true rfl) rfl (fun J g hr => ?_)
  unfold p_X5_addMover at hp
  refine j_aload_n g (i := 0) (by decide +kernel) rfl ?_
  refine j_gA g (b := 1000) f5_49 (by decide +kernel) (by decide +kernel) (by decide +kernel) (by decide +kernel) ?_
  refine j_gA g (b := 1001) f5_77 (by decide +kernel) (by decide +kernel) (by decide +kernel) (by decide +kernel) ?_
  refine j_aload_n g (i := 0) (by decide +kernel) rfl ?_
  refine j_gI g f5_9 (by decide +kernel) (by decide +kernel) (by decide +kernel) ?_
  refine j_iload_n g (i := 1) (by decide +kernel) rfl ?_
  obtain ⟨h0, hp⟩ := hp
  refine j_is g 3 (by decide +kernel) (by decide +kernel) (by decide +kernel) h0 ?_
  refine j_aload_n g (i := 0) (by decide +kernel) rfl ?_
  refine j_gA g (b := 101) f5_24 (by decide +kernel) (by decide +kernel) (by decide +kernel) (by decide +kernel) ?_
  refine j_aload_n g (i := 0) (by decide +kernel) rfl ?_
  refine j_gI g f5_9 (by decide +kernel) (by decide +kernel) (by decide +kernel) ?_
  refine j_iload_n g (i := 2) (by decide +kernel) rfl ?_
  obtain ⟨h0, hp⟩ := hp
  refine j_is g 3 (by decide +kernel) (by decide +kernel) (by decide +kernel) h0 ?_
  refine j_aload_n g (i := 0) (by decide +kernel) rfl ?_
  refine j_dup g (by decide +kernel) rfl ?_
  refine j_gI g f5_9 (by decide +kernel) (by decide +kernel) (by decide +kernel) ?_
  refine j_iconst g (n := 1) (1) (by decide +kernel) rfl ?_
  refine j_iadd g (by decide +kernel) ?_
  refine j_pI g f5_9 (fun q h => by cases h; rfl) (by decide +kernel) (by decide +kernel) (by decide +kernel) ?_
  refine j_aload_n g (i := 0) (by decide +kernel) rfl ?_
  refine j_gI g f5_9 (by decide +kernel) (by decide +kernel) (by decide +kernel) ?_
  refine j_iconst g (n := 1) (1) (by decide +kernel) rfl ?_
  refine j_isub g (by decide +kernel) ?_
  refine hr.1 _ _ _ _ (by decide +kernel) ⟨_, rfl, by first | rfl | exact b2i_nar | rfl⟩ ?_ ?_
  · rfl
  · rfl
def r_X5_addThing (M : Mm) (a1 : Int32) (a2 : Int32) : Int32 := ((M.1 100 1) + 1) - 1
def w_X5_addThing (M : Mm) (a1 : Int32) (a2 : Int32) : Mm := (wi (wi (wi M 1002 (Int32.toNatClampNeg (M.1 100 1)) a1) 102 (Int32.toNatClampNeg (M.1 100 1)) a2) 100 1 ((M.1 100 1) + 1))
def p_X5_addThing (M : Mm) (a1 : Int32) (a2 : Int32) : Prop := (vp_in (M.1 100 1) 6) ∧ (vp_in (M.1 100 1) 6) ∧ True
theorem rnX5_addThing {d : Nat} {M : Mm} {a1 : Int32} {a2 : Int32}  (hp : p_X5_addThing M a1 a2) : Rn (d) mX5_addThing [.ref 100, .int a1, .int a2] M (some (.int (r_X5_addThing M a1 a2))) (w_X5_addThing M a1 a2) := by
  refine Rn.of [some (.ref 100), some (.int a1), some (.int a2)] (by decide +kernel) rfl (Nat.le_of_ble_eq_true rfl) rfl (fun J g hr => ?_)
  unfold p_X5_addThing at hp
  refine j_aload_n g (i := 0) (by decide +kernel) rfl ?_
  refine j_gA g (b := 1000) f5_49 (by decide +kernel) (by decide +kernel) (by decide +kernel) (by decide +kernel) ?_
  refine j_gA g (b := 1002) f5_80 (by decide +kernel) (by decide +kernel) (by decide +kernel) (by decide +kernel) ?_
  refine j_aload_n g (i := 0) (by decide +kernel) rfl ?_
  refine j_gI g f5_15 (by decide +kernel) (by decide +kernel) (by decide +kernel) ?_
  refine j_iload_n g (i := 1) (by decide +kernel) rfl ?_
  obtain ⟨h0, hp⟩ := hp
  refine j_is g 6 (by decide +kernel) (by decide +kernel) (by decide +kernel) h0 ?_
  refine j_aload_n g (i := 0) (by decide +kernel) rfl ?_
  refine j_gA g (b := 102) f5_28 (by decide +kernel) (by decide +kernel) (by decide +kernel) (by decide +kernel) ?_
  refine j_aload_n g (i := 0) (by decide +kernel) rfl ?_
  refine j_gI g f5_15 (by decide +kernel) (by decide +kernel) (by decide +kernel) ?_
  refine j_iload_n g (i := 2) (by decide +kernel) rfl ?_
  obtain ⟨h0, hp⟩ := hp
  refine j_is g 6 (by decide +kernel) (by decide +kernel) (by decide +kernel) h0 ?_
  refine j_aload_n g (i := 0) (by decide +kernel) rfl ?_
  refine j_dup g (by decide +kernel) rfl ?_
  refine j_gI g f5_15 (by decide +kernel) (by decide +kernel) (by decide +kernel) ?_
  refine j_iconst g (n := 1) (1) (by decide +kernel) rfl ?_
  refine j_iadd g (by decide +kernel) ?_
  refine j_pI g f5_15 (fun q h => by cases h; rfl) (by decide +kernel) (by decide +kernel) (by decide +kernel) ?_
  refine j_aload_n g (i := 0) (by decide +kernel) rfl ?_
  refine j_gI g f5_15 (by decide +kernel) (by decide +kernel) (by decide +kernel) ?_
  refine j_iconst g (n := 1) (1) (by decide +kernel) rfl ?_
  refine j_isub g (by decide +kernel) ?_
  refine hr.1 _ _ _ _ (by decide +kernel) ⟨_, rfl, by first | rfl | exact b2i_nar | rfl⟩ ?_ ?_
  · rfl
  · rfl
def r_X5_addWork (M : Mm) (a1 : Int32) (a2 : Int32) (a3 : Int32) (a4 : Int32) (a5 : Int32) (a6 : Int32) : Int32 := (((wi (wi (wi (wi (wi (wi (wi (wi M (110 + Int32.toNatClampNeg (M.1 100 2)) 0 a1) (110 + Int32.toNatClampNeg (M.1 100 2)) 1 a2) (110 + Int32.toNatClampNeg (M.1 100 2)) 2 a3) (110 + Int32.toNatClampNeg (M.1 100 2)) 3 a4) (110 + Int32.toNatClampNeg (M.1 100 2)) 4 a5) (110 + Int32.toNatClampNeg (M.1 100 2)) 5 a6) (110 + Int32.toNatClampNeg (M.1 100 2)) 6 (-1)) (110 + Int32.toNatClampNeg (M.1 100 2)) 7 0).1 100 2) + 1) - 1
def w_X5_addWork (M : Mm) (a1 : Int32) (a2 : Int32) (a3 : Int32) (a4 : Int32) (a5 : Int32) (a6 : Int32) : Mm := (wi (wi (wi (wi (wi (wi (wi (wi (wi (wi (wi M (110 + Int32.toNatClampNeg (M.1 100 2)) 0 a1) (110 + Int32.toNatClampNeg (M.1 100 2)) 1 a2) (110 + Int32.toNatClampNeg (M.1 100 2)) 2 a3) (110 + Int32.toNatClampNeg (M.1 100 2)) 3 a4) (110 + Int32.toNatClampNeg (M.1 100 2)) 4 a5) (110 + Int32.toNatClampNeg (M.1 100 2)) 5 a6) (110 + Int32.toNatClampNeg (M.1 100 2)) 6 (-1)) (110 + Int32.toNatClampNeg (M.1 100 2)) 7 0) 1003 (Int32.toNatClampNeg ((wi (wi (wi (wi (wi (wi (wi (wi M (110 + Int32.toNatClampNeg (M.1 100 2)) 0 a1) (110 + Int32.toNatClampNeg (M.1 100 2)) 1 a2) (110 + Int32.toNatClampNeg (M.1 100 2)) 2 a3) (110 + Int32.toNatClampNeg (M.1 100 2)) 3 a4) (110 + Int32.toNatClampNeg (M.1 100 2)) 4 a5) (110 + Int32.toNatClampNeg (M.1 100 2)) 5 a6) (110 + Int32.toNatClampNeg (M.1 100 2)) 6 (-1)) (110 + Int32.toNatClampNeg (M.1 100 2)) 7 0).1 100 2)) 0) 1004 (Int32.toNatClampNeg ((wi (wi (wi (wi (wi (wi (wi (wi M (110 + Int32.toNatClampNeg (M.1 100 2)) 0 a1) (110 + Int32.toNatClampNeg (M.1 100 2)) 1 a2) (110 + Int32.toNatClampNeg (M.1 100 2)) 2 a3) (110 + Int32.toNatClampNeg (M.1 100 2)) 3 a4) (110 + Int32.toNatClampNeg (M.1 100 2)) 4 a5) (110 + Int32.toNatClampNeg (M.1 100 2)) 5 a6) (110 + Int32.toNatClampNeg (M.1 100 2)) 6 (-1)) (110 + Int32.toNatClampNeg (M.1 100 2)) 7 0).1 100 2)) 0) 100 2 (((wi (wi (wi (wi (wi (wi (wi (wi M (110 + Int32.toNatClampNeg (M.1 100 2)) 0 a1) (110 + Int32.toNatClampNeg (M.1 100 2)) 1 a2) (110 + Int32.toNatClampNeg (M.1 100 2)) 2 a3) (110 + Int32.toNatClampNeg (M.1 100 2)) 3 a4) (110 + Int32.toNatClampNeg (M.1 100 2)) 4 a5) (110 + Int32.toNatClampNeg (M.1 100 2)) 5 a6) (110 + Int32.toNatClampNeg (M.1 100 2)) 6 (-1)) (110 + Int32.toNatClampNeg (M.1 100 2)) 7 0).1 100 2) + 1))
def p_X5_addWork (M : Mm) (a1 : Int32) (a2 : Int32) (a3 : Int32) (a4 : Int32) (a5 : Int32) (a6 : Int32) : Prop := (vp_in (M.1 100 2) 6) ∧ (vp_in ((wi (wi (wi (wi (wi (wi (wi (wi M (110 + Int32.toNatClampNeg (M.1 100 2)) 0 a1) (110 + Int32.toNatClampNeg (M.1 100 2)) 1 a2) (110 + Int32.toNatClampNeg (M.1 100 2)) 2 a3) (110 + Int32.toNatClampNeg (M.1 100 2)) 3 a4) (110 + Int32.toNatClampNeg (M.1 100 2)) 4 a5) (110 + Int32.toNatClampNeg (M.1 100 2)) 5 a6) (110 + Int32.toNatClampNeg (M.1 100 2)) 6 (-1)) (110 + Int32.toNatClampNeg (M.1 100 2)) 7 0).1 100 2) 6) ∧ (vp_in ((wi (wi (wi (wi (wi (wi (wi (wi M (110 + Int32.toNatClampNeg (M.1 100 2)) 0 a1) (110 + Int32.toNatClampNeg (M.1 100 2)) 1 a2) (110 + Int32.toNatClampNeg (M.1 100 2)) 2 a3) (110 + Int32.toNatClampNeg (M.1 100 2)) 3 a4) (110 + Int32.toNatClampNeg (M.1 100 2)) 4 a5) (110 + Int32.toNatClampNeg (M.1 100 2)) 5 a6) (110 + Int32.toNatClampNeg (M.1 100 2)) 6 (-1)) (110 + Int32.toNatClampNeg (M.1 100 2)) 7 0).1 100 2) 6) ∧ True
theorem rnX5_addWork {d : Nat} {M : Mm} {a1 : Int32} {a2 : Int32} {a3 : Int32} {a4 : Int32} {a5 : Int32} {a6 : Int32}  (hp : p_X5_addWork M a1 a2 a3 a4 a5 a6) : Rn (d) mX5_addWork [.ref 100, .int a1, .int a2, .int a3, .int a4, .int a5, .int a6] M (some (.int (r_X5_addWork M a1 a2 a3 a4 a5 a6))) (w_X5_addWork M a1 a2 a3 a4 a5 a6) := by
  refine Rn.of [some (.ref 100), some (.int a1), some (.int a2), some (.int a3), some (.int a4), some (.int a5), some (.int a6), none] (by decide +kernel) rfl (Nat.le_of_ble_eq_true rfl) rfl (fun J g hr => ?_)
  unfold p_X5_addWork at hp
  refine j_aload_n g (i := 0) (by decide +kernel) rfl ?_
  refine j_gA g (b := 103) f5_33 (by decide +kernel) (by decide +kernel) (by decide +kernel) (by decide +kernel) ?_
  refine j_aload_n g (i := 0) (by decide +kernel) rfl ?_
  refine j_gI g f5_18 (by decide +kernel) (by decide +kernel) (by decide +kernel) ?_
  obtain ⟨h0, hp⟩ := hp
  refine j_aW g 6 (by decide +kernel) (by decide +kernel) (by decide +kernel) h0 (rfW103 h0) ?_
  have hw8 := h0
  refine j_astore g (i := 7) (by decide +kernel) (by decide) ?_
  dsimp only [stL, clL, hdL]
  refine j_aload g (i := 7) (by decide +kernel) rfl ?_
  refine j_iload_n g (i := 1) (by decide +kernel) rfl ?_
  refine j_pI g f5_83 (fun q h => by cases h; rfl) (by decide +kernel) (by decide +kernel) (gkW103 hw8) ?_
  refine j_aload g (i := 7) (by decide +kernel) rfl ?_
  refine j_iload_n g (i := 2) (by decide +kernel) rfl ?_
  refine j_pI g f5_86 (fun q h => by cases h; rfl) (by decide +kernel) (by decide +kernel) (gkW103 hw8) ?_
  refine j_aload g (i := 7) (by decide +kernel) rfl ?_
  refine j_iload_n g (i := 3) (by decide +kernel) rfl ?_
  refine j_pI g f5_89 (fun q h => by cases h; rfl) (by decide +kernel) (by decide +kernel) (gkW103 hw8) ?_
  refine j_aload g (i := 7) (by decide +kernel) rfl ?_
  refine j_iload g (i := 4) (by decide +kernel) rfl ?_
  refine j_pI g f5_92 (fun q h => by cases h; rfl) (by decide +kernel) (by decide +kernel) (gkW103 hw8) ?_
  refine j_aload g (i := 7) (by decide +kernel) rfl ?_
  refine j_iload g (i := 5) (by decide +kernel) rfl ?_
  refine j_pI g f5_95 (fun q h => by cases h; rfl) (by decide +kernel) (by decide +kernel) (gkW103 hw8) ?_
  refine j_aload g (i := 7) (by decide +kernel) rfl ?_
  refine j_iload g (i := 6) (by decide +kernel) rfl ?_
  refine j_pI g f5_98 (fun q h => by cases h; rfl) (by decide +kernel) (by decide +kernel) (gkW103 hw8) ?_
  refine j_aload g (i := 7) (by decide +kernel) rfl ?_
  refine j_iconst g (n := -1) (-1) (by decide +kernel) rfl ?_
  refine j_pI g f5_101 (fun q h => by cases h; rfl) (by decide +kernel) (by decide +kernel) (gkW103 hw8) ?_
  refine j_aload g (i := 7) (by decide +kernel) rfl ?_
  refine j_iconst g (n := 0) (0) (by decide +kernel) rfl ?_
  refine j_pI g f5_104 (fun q h => by cases h; rfl) (by decide +kernel) (by decide +kernel) (gkW103 hw8) ?_
  refine j_aload_n g (i := 0) (by decide +kernel) rfl ?_
  refine j_gA g (b := 1000) f5_49 (by decide +kernel) (by decide +kernel) (by decide +kernel) (by decide +kernel) ?_
  refine j_gA g (b := 1003) f5_107 (by decide +kernel) (by decide +kernel) (by decide +kernel) (by decide +kernel) ?_
  refine j_aload_n g (i := 0) (by decide +kernel) rfl ?_
  refine j_gI g f5_18 (by decide +kernel) (by decide +kernel) (by decide +kernel) ?_
  refine j_iconst g (n := 0) (0) (by decide +kernel) rfl ?_
  obtain ⟨h0, hp⟩ := hp
  refine j_is g 6 (by decide +kernel) (by decide +kernel) (by decide +kernel) h0 ?_
  refine j_aload_n g (i := 0) (by decide +kernel) rfl ?_
  refine j_gA g (b := 1000) f5_49 (by decide +kernel) (by decide +kernel) (by decide +kernel) (by decide +kernel) ?_
  refine j_gA g (b := 1004) f5_110 (by decide +kernel) (by decide +kernel) (by decide +kernel) (by decide +kernel) ?_
  refine j_aload_n g (i := 0) (by decide +kernel) rfl ?_
  refine j_gI g f5_18 (by decide +kernel) (by decide +kernel) (by decide +kernel) ?_
  refine j_iconst g (n := 0) (0) (by decide +kernel) rfl ?_
  obtain ⟨h0, hp⟩ := hp
  refine j_is g 6 (by decide +kernel) (by decide +kernel) (by decide +kernel) h0 ?_
  refine j_aload_n g (i := 0) (by decide +kernel) rfl ?_
  refine j_dup g (by decide +kernel) rfl ?_
  refine j_gI g f5_18 (by decide +kernel) (by decide +kernel) (by decide +kernel) ?_
  refine j_iconst g (n := 1) (1) (by decide +kernel) rfl ?_
  refine j_iadd g (by decide +kernel) ?_
  refine j_pI g f5_18 (fun q h => by cases h; rfl) (by decide +kernel) (by decide +kernel) (by decide +kernel) ?_
  refine j_aload_n g (i := 0) (by decide +kernel) rfl ?_
  refine j_gI g f5_18 (by decide +kernel) (by decide +kernel) (by decide +kernel) ?_
  refine j_iconst g (n := 1) (1) (by decide +kernel) rfl ?_
  refine j_isub g (by decide +kernel) ?_
  refine hr.1 _ _ _ _ (by decide +kernel) ⟨_, rfl, by first | rfl | exact b2i_nar | rfl⟩ ?_ ?_
  · rfl
  · rfl
def r_X5_addRule (M : Mm) (a1 : Int32) (a2 : Int32) : Int32 := ((M.1 100 3) + 1) - 1
def w_X5_addRule (M : Mm) (a1 : Int32) (a2 : Int32) : Mm := (wi (wi (wi M 105 (Int32.toNatClampNeg (M.1 100 3)) a1) 106 (Int32.toNatClampNeg (M.1 100 3)) a2) 100 3 ((M.1 100 3) + 1))
def p_X5_addRule (M : Mm) (a1 : Int32) (a2 : Int32) : Prop := (vp_in (M.1 100 3) 4) ∧ (vp_in (M.1 100 3) 4) ∧ True
theorem rnX5_addRule {d : Nat} {M : Mm} {a1 : Int32} {a2 : Int32}  (hp : p_X5_addRule M a1 a2) : Rn (d) mX5_addRule [.ref 100, .int a1, .int a2] M (some (.int (r_X5_addRule M a1 a2))) (w_X5_addRule M a1 a2) := by
  refine Rn.of [some (.ref 100), some (.int a1), some (.int a2)] (by decide +kernel) rfl (Nat.le_of_ble_eq_true rfl) rfl (fun J g hr => ?_)
  unfold p_X5_addRule at hp
  refine j_aload_n g (i := 0) (by decide +kernel) rfl ?_
  refine j_gA g (b := 105) f5_40 (by decide +kernel) (by decide +kernel) (by decide +kernel) (by decide +kernel) ?_
  refine j_aload_n g (i := 0) (by decide +kernel) rfl ?_
  refine j_gI g f5_21 (by decide +kernel) (by decide +kernel) (by decide +kernel) ?_
  refine j_iload_n g (i := 1) (by decide +kernel) rfl ?_
  obtain ⟨h0, hp⟩ := hp
  refine j_is g 4 (by decide +kernel) (by decide +kernel) (by decide +kernel) h0 ?_
  refine j_aload_n g (i := 0) (by decide +kernel) rfl ?_
  refine j_gA g (b := 106) f5_43 (by decide +kernel) (by decide +kernel) (by decide +kernel) (by decide +kernel) ?_
  refine j_aload_n g (i := 0) (by decide +kernel) rfl ?_
  refine j_gI g f5_21 (by decide +kernel) (by decide +kernel) (by decide +kernel) ?_
  refine j_iload_n g (i := 2) (by decide +kernel) rfl ?_
  obtain ⟨h0, hp⟩ := hp
  refine j_is g 4 (by decide +kernel) (by decide +kernel) (by decide +kernel) h0 ?_
  refine j_aload_n g (i := 0) (by decide +kernel) rfl ?_
  refine j_dup g (by decide +kernel) rfl ?_
  refine j_gI g f5_21 (by decide +kernel) (by decide +kernel) (by decide +kernel) ?_
  refine j_iconst g (n := 1) (1) (by decide +kernel) rfl ?_
  refine j_iadd g (by decide +kernel) ?_
  refine j_pI g f5_21 (fun q h => by cases h; rfl) (by decide +kernel) (by decide +kernel) (by decide +kernel) ?_
  refine j_aload_n g (i := 0) (by decide +kernel) rfl ?_
  refine j_gI g f5_21 (by decide +kernel) (by decide +kernel) (by decide +kernel) ?_
  refine j_iconst g (n := 1) (1) (by decide +kernel) rfl ?_
  refine j_isub g (by decide +kernel) ?_
  refine hr.1 _ _ _ _ (by decide +kernel) ⟨_, rfl, by first | rfl | exact b2i_nar | rfl⟩ ?_ ?_
  · rfl
  · rfl
def r_X5_isThere (M : Mm) (a1 : Int32) (a2 : Int32) : Int32 := if a2 < 0 then 0 else if ¬ a1 = 0 then (if ¬ a1 = 1 then 0 else if (M.1 100 1) ≤ a2 then 0 else 1) else if a2 < (M.1 100 0) then 1 else if ¬ a1 = 1 then 0 else if (M.1 100 1) ≤ a2 then 0 else 1
theorem rnX5_isThere {d : Nat} {M : Mm} {a1 : Int32} {a2 : Int32}  : Rn (d) mX5_isThere [.ref 100, .int a1, .int a2] M (some (.int (r_X5_isThere M a1 a2))) M := by
  refine Rn.of [some (.ref 100), some (.int a1), some (.int a2)] (by decide +kernel) rfl (Nat.le_of_ble_eq_true rfl) rfl (fun J g hr => ?_)
  refine j_iload_n g (i := 2) (by decide +kernel) rfl ?_
  refine j_if_lt g (off := 32) (tgt := 33) (by decide +kernel) (by decide) (fun c1 => ?_) (fun c1 => ?_)
  · skip
    refine j_iconst g (n := 0) (0) (by decide +kernel) rfl ?_
    refine hr.1 _ _ _ _ (by decide +kernel) ⟨_, rfl, by first | rfl | exact b2i_nar | decide +kernel⟩ ?_ ?_
    · unfold r_X5_isThere; first | rfl | (simp only [if_pos (show a2 < 0 from c1)]; done) | (simp only [if_pos (show a2 < 0 from c1)]; rfl)
    · rfl
  · skip
    refine j_iload_n g (i := 1) (by decide +kernel) rfl ?_
    refine j_if_ne g (off := 11) (tgt := 16) (by decide +kernel) (by decide) (fun c5 => ?_) (fun c5 => ?_)
    · skip
      refine j_iload_n g (i := 1) (by decide +kernel) rfl ?_
      refine j_iconst g (n := 1) (1) (by decide +kernel) rfl ?_
      refine j_icmp_ne g (off := 15) (tgt := 33) (by decide +kernel) (by decide) (fun c18 => ?_) (fun c18 => ?_)
      · skip
        refine j_iconst g (n := 0) (0) (by decide +kernel) rfl ?_
        refine hr.1 _ _ _ _ (by decide +kernel) ⟨_, rfl, by first | rfl | exact b2i_nar | decide +kernel⟩ ?_ ?_
        · unfold r_X5_isThere; first | rfl | (simp only [if_neg (show ¬ (a2 < 0) from c1), if_pos (show ¬ a1 = 0 from c5), if_pos (show ¬ a1 = 1 from c18)]; done) | (simp only [if_neg (show ¬ (a2 < 0) from c1), if_pos (show ¬ a1 = 0 from c5), if_pos (show ¬ a1 = 1 from c18)]; rfl)
        · rfl
      · skip
        refine j_iload_n g (i := 2) (by decide +kernel) rfl ?_
        refine j_aload_n g (i := 0) (by decide +kernel) rfl ?_
        refine j_gI g f5_15 (by decide +kernel) (by decide +kernel) (by decide +kernel) ?_
        refine j_icmp_ge g (off := 7) (tgt := 33) (by decide +kernel) (by decide) (fun c26 => ?_) (fun c26 => ?_)
        · skip
          refine j_iconst g (n := 0) (0) (by decide +kernel) rfl ?_
          refine hr.1 _ _ _ _ (by decide +kernel) ⟨_, rfl, by first | rfl | exact b2i_nar | decide +kernel⟩ ?_ ?_
          · unfold r_X5_isThere; first | rfl | (simp only [if_neg (show ¬ (a2 < 0) from c1), if_pos (show ¬ a1 = 0 from c5), if_neg (show ¬ (¬ a1 = 1) from c18), if_pos (show (M.1 100 1) ≤ a2 from c26)]; done) | (simp only [if_neg (show ¬ (a2 < 0) from c1), if_pos (show ¬ a1 = 0 from c5), if_neg (show ¬ (¬ a1 = 1) from c18), if_pos (show (M.1 100 1) ≤ a2 from c26)]; rfl)
          · rfl
        · skip
          refine j_iconst g (n := 1) (1) (by decide +kernel) rfl ?_
          refine j_goto g (off := 4) (tgt := 34) (by decide +kernel) (by decide) ?_
          refine hr.1 _ _ _ _ (by decide +kernel) ⟨_, rfl, by first | rfl | exact b2i_nar | decide +kernel⟩ ?_ ?_
          · unfold r_X5_isThere; first | rfl | (simp only [if_neg (show ¬ (a2 < 0) from c1), if_pos (show ¬ a1 = 0 from c5), if_neg (show ¬ (¬ a1 = 1) from c18), if_neg (show ¬ ((M.1 100 1) ≤ a2) from c26)]; done) | (simp only [if_neg (show ¬ (a2 < 0) from c1), if_pos (show ¬ a1 = 0 from c5), if_neg (show ¬ (¬ a1 = 1) from c18), if_neg (show ¬ ((M.1 100 1) ≤ a2) from c26)]; rfl)
          · rfl
    · skip
      refine j_iload_n g (i := 2) (by decide +kernel) rfl ?_
      refine j_aload_n g (i := 0) (by decide +kernel) rfl ?_
      refine j_gI g f5_9 (by decide +kernel) (by decide +kernel) (by decide +kernel) ?_
      refine j_icmp_lt g (off := 16) (tgt := 29) (by decide +kernel) (by decide) (fun c13 => ?_) (fun c13 => ?_)
      · skip
        refine j_iconst g (n := 1) (1) (by decide +kernel) rfl ?_
        refine j_goto g (off := 4) (tgt := 34) (by decide +kernel) (by decide) ?_
        refine hr.1 _ _ _ _ (by decide +kernel) ⟨_, rfl, by first | rfl | exact b2i_nar | decide +kernel⟩ ?_ ?_
        · unfold r_X5_isThere; first | rfl | (simp only [if_neg (show ¬ (a2 < 0) from c1), if_neg (show ¬ (¬ a1 = 0) from c5), if_pos (show a2 < (M.1 100 0) from c13)]; done) | (simp only [if_neg (show ¬ (a2 < 0) from c1), if_neg (show ¬ (¬ a1 = 0) from c5), if_pos (show a2 < (M.1 100 0) from c13)]; rfl)
        · rfl
      · skip
        refine j_iload_n g (i := 1) (by decide +kernel) rfl ?_
        refine j_iconst g (n := 1) (1) (by decide +kernel) rfl ?_
        refine j_icmp_ne g (off := 15) (tgt := 33) (by decide +kernel) (by decide) (fun c18 => ?_) (fun c18 => ?_)
        · skip
          refine j_iconst g (n := 0) (0) (by decide +kernel) rfl ?_
          refine hr.1 _ _ _ _ (by decide +kernel) ⟨_, rfl, by first | rfl | exact b2i_nar | decide +kernel⟩ ?_ ?_
          · unfold r_X5_isThere; first | rfl | (simp only [if_neg (show ¬ (a2 < 0) from c1), if_neg (show ¬ (¬ a1 = 0) from c5), if_neg (show ¬ (a2 < (M.1 100 0)) from c13), if_pos (show ¬ a1 = 1 from c18)]; done) | (simp only [if_neg (show ¬ (a2 < 0) from c1), if_neg (show ¬ (¬ a1 = 0) from c5), if_neg (show ¬ (a2 < (M.1 100 0)) from c13), if_pos (show ¬ a1 = 1 from c18)]; rfl)
          · rfl
        · skip
          refine j_iload_n g (i := 2) (by decide +kernel) rfl ?_
          refine j_aload_n g (i := 0) (by decide +kernel) rfl ?_
          refine j_gI g f5_15 (by decide +kernel) (by decide +kernel) (by decide +kernel) ?_
          refine j_icmp_ge g (off := 7) (tgt := 33) (by decide +kernel) (by decide) (fun c26 => ?_) (fun c26 => ?_)
          · skip
            refine j_iconst g (n := 0) (0) (by decide +kernel) rfl ?_
            refine hr.1 _ _ _ _ (by decide +kernel) ⟨_, rfl, by first | rfl | exact b2i_nar | decide +kernel⟩ ?_ ?_
            · unfold r_X5_isThere; first | rfl | (simp only [if_neg (show ¬ (a2 < 0) from c1), if_neg (show ¬ (¬ a1 = 0) from c5), if_neg (show ¬ (a2 < (M.1 100 0)) from c13), if_neg (show ¬ (¬ a1 = 1) from c18), if_pos (show (M.1 100 1) ≤ a2 from c26)]; done) | (simp only [if_neg (show ¬ (a2 < 0) from c1), if_neg (show ¬ (¬ a1 = 0) from c5), if_neg (show ¬ (a2 < (M.1 100 0)) from c13), if_neg (show ¬ (¬ a1 = 1) from c18), if_pos (show (M.1 100 1) ≤ a2 from c26)]; rfl)
            · rfl
          · skip
            refine j_iconst g (n := 1) (1) (by decide +kernel) rfl ?_
            refine j_goto g (off := 4) (tgt := 34) (by decide +kernel) (by decide) ?_
            refine hr.1 _ _ _ _ (by decide +kernel) ⟨_, rfl, by first | rfl | exact b2i_nar | decide +kernel⟩ ?_ ?_
            · unfold r_X5_isThere; first | rfl | (simp only [if_neg (show ¬ (a2 < 0) from c1), if_neg (show ¬ (¬ a1 = 0) from c5), if_neg (show ¬ (a2 < (M.1 100 0)) from c13), if_neg (show ¬ (¬ a1 = 1) from c18), if_neg (show ¬ ((M.1 100 1) ≤ a2) from c26)]; done) | (simp only [if_neg (show ¬ (a2 < 0) from c1), if_neg (show ¬ (¬ a1 = 0) from c5), if_neg (show ¬ (a2 < (M.1 100 0)) from c13), if_neg (show ¬ (¬ a1 = 1) from c18), if_neg (show ¬ ((M.1 100 1) ≤ a2) from c26)]; rfl)
            · rfl
def r_X5_after (M : Mm) (a1 : Int32) (a2 : Int32) : Int32 := if 1 ≤ a2 then ((((a1 - (a1 - a1 / 10 * 10)) + (((((if 0 < ((a1 - a1 / 10 * 10) - (M.1 104 0)) then ((a1 - a1 / 10 * 10) - (M.1 104 0)) else 0) + a2) - 1) / (if 1 < (10 - (M.1 104 0)) then (10 - (M.1 104 0)) else 1)) * 10)) + (M.1 104 0)) + ((if 0 < ((a1 - a1 / 10 * 10) - (M.1 104 0)) then ((a1 - a1 / 10 * 10) - (M.1 104 0)) else 0) + a2)) - (((((if 0 < ((a1 - a1 / 10 * 10) - (M.1 104 0)) then ((a1 - a1 / 10 * 10) - (M.1 104 0)) else 0) + a2) - 1) / (if 1 < (10 - (M.1 104 0)) then (10 - (M.1 104 0)) else 1)) * (if 1 < (10 - (M.1 104 0)) then (10 - (M.1 104 0)) else 1)) else a1
def p_X5_after (M : Mm) (a1 : Int32) (a2 : Int32) : Prop := (if 1 ≤ a2 then (¬ (if 1 < (10 - (M.1 104 0)) then (10 - (M.1 104 0)) else 1) = 0) ∧ True else True)
theorem rnX5_after {d : Nat} {M : Mm} {a1 : Int32} {a2 : Int32}  (hp : p_X5_after M a1 a2) : Rn (d + 1) mX5_after [.ref 100, .int a1, .int a2] M (some (.int (r_X5_after M a1 a2))) M := by
  refine Rn.of [some (.ref 100), some (.int a1), some (.int a2), none, none, none, none] (by decide +kernel) rfl (Nat.le_of_ble_eq_true rfl) rfl (fun J g hr => ?_)
  unfold p_X5_after at hp
  refine j_iload_n g (i := 2) (by decide +kernel) rfl ?_
  refine j_iconst g (n := 1) (1) (by decide +kernel) rfl ?_
  refine j_icmp_ge g (off := 5) (tgt := 7) (by decide +kernel) (by decide) (fun c2 => ?_) (fun c2 => ?_)
  · rw [if_pos (show 1 ≤ a2 from c2)] at hp
    refine j_aload_n g (i := 0) (by decide +kernel) rfl ?_
    refine j_gA g (b := 104) f5_37 (by decide +kernel) (by decide +kernel) (by decide +kernel) (by decide +kernel) ?_
    refine j_iconst g (n := 0) (0) (by decide +kernel) rfl ?_
    refine j_ia g 4 (by decide +kernel) (by decide +kernel) (by decide +kernel) (vin_b (by decide +kernel)) ?_
    refine j_istore_n g (i := 3) (by decide +kernel) (by decide) ?_
    dsimp only [stL, clL, hdL]
    refine j_iconst g (n := 1) (1) (by decide +kernel) rfl ?_
    refine j_bipush g (n := 10) (10) (by decide +kernel) (by decide +kernel) ?_
    refine j_iload_n g (i := 3) (by decide +kernel) rfl ?_
    refine j_isub g (by decide +kernel) ?_
    refine j_mmax g (by omega) (Nat.le_of_ble_eq_true rfl) t5_124 (by decide +kernel) ?_
    refine j_istore g (i := 4) (by decide +kernel) (by decide) ?_
    dsimp only [stL, clL, hdL]
    refine j_iconst g (n := 0) (0) (by decide +kernel) rfl ?_
    refine j_iload_n g (i := 1) (by decide +kernel) rfl ?_
    refine j_bipush g (n := 10) (10) (by decide +kernel) (by decide +kernel) ?_
    refine j_irem g (by decide +kernel) (by decide) ?_
    refine j_iload_n g (i := 3) (by decide +kernel) rfl ?_
    refine j_isub g (by decide +kernel) ?_
    refine j_mmax g (by omega) (Nat.le_of_ble_eq_true rfl) t5_124 (by decide +kernel) ?_
    refine j_iload_n g (i := 2) (by decide +kernel) rfl ?_
    refine j_iadd g (by decide +kernel) ?_
    refine j_istore g (i := 5) (by decide +kernel) (by decide) ?_
    dsimp only [stL, clL, hdL]
    refine j_iload g (i := 5) (by decide +kernel) rfl ?_
    refine j_iconst g (n := 1) (1) (by decide +kernel) rfl ?_
    refine j_isub g (by decide +kernel) ?_
    refine j_iload g (i := 4) (by decide +kernel) rfl ?_
    obtain ⟨h0, hp⟩ := hp
    refine j_idiv g (by decide +kernel) h0 ?_
    refine j_istore g (i := 6) (by decide +kernel) (by decide) ?_
    dsimp only [stL, clL, hdL]
    refine j_iload_n g (i := 1) (by decide +kernel) rfl ?_
    refine j_iload_n g (i := 1) (by decide +kernel) rfl ?_
    refine j_bipush g (n := 10) (10) (by decide +kernel) (by decide +kernel) ?_
    refine j_irem g (by decide +kernel) (by decide) ?_
    refine j_isub g (by decide +kernel) ?_
    refine j_iload g (i := 6) (by decide +kernel) rfl ?_
    refine j_bipush g (n := 10) (10) (by decide +kernel) (by decide +kernel) ?_
    refine j_imul g (by decide +kernel) ?_
    refine j_iadd g (by decide +kernel) ?_
    refine j_iload_n g (i := 3) (by decide +kernel) rfl ?_
    refine j_iadd g (by decide +kernel) ?_
    refine j_iload g (i := 5) (by decide +kernel) rfl ?_
    refine j_iadd g (by decide +kernel) ?_
    refine j_iload g (i := 6) (by decide +kernel) rfl ?_
    refine j_iload g (i := 4) (by decide +kernel) rfl ?_
    refine j_imul g (by decide +kernel) ?_
    refine j_isub g (by decide +kernel) ?_
    refine hr.1 _ _ _ _ (by decide +kernel) ⟨_, rfl, by first | rfl | exact b2i_nar | rfl⟩ ?_ ?_
    · unfold r_X5_after; first | rfl | (simp only [if_pos (show 1 ≤ a2 from c2)]; done) | (simp only [if_pos (show 1 ≤ a2 from c2)]; rfl)
    · rfl
  · rw [if_neg (show ¬ (1 ≤ a2) from c2)] at hp
    refine j_iload_n g (i := 1) (by decide +kernel) rfl ?_
    refine hr.1 _ _ _ _ (by decide +kernel) ⟨_, rfl, by first | rfl | exact b2i_nar | rfl⟩ ?_ ?_
    · unfold r_X5_after; first | rfl | (simp only [if_neg (show ¬ (1 ≤ a2) from c2)]; done) | (simp only [if_neg (show ¬ (1 ≤ a2) from c2)]; rfl)
    · rfl
def r_X5_nextMover (M : Mm) (a1 : Int32) : Int32 := if (M.1 100 0) ≤ (a1 + 1) then 0 else a1 + 1
theorem rnX5_nextMover {d : Nat} {M : Mm} {a1 : Int32}  : Rn (d) mX5_nextMover [.ref 100, .int a1] M (some (.int (r_X5_nextMover M a1))) M := by
  refine Rn.of [some (.ref 100), some (.int a1)] (by decide +kernel) rfl (Nat.le_of_ble_eq_true rfl) rfl (fun J g hr => ?_)
  refine j_iload_n g (i := 1) (by decide +kernel) rfl ?_
  refine j_iconst g (n := 1) (1) (by decide +kernel) rfl ?_
  refine j_iadd g (by decide +kernel) ?_
  refine j_aload_n g (i := 0) (by decide +kernel) rfl ?_
  refine j_gI g f5_9 (by decide +kernel) (by decide +kernel) (by decide +kernel) ?_
  refine j_icmp_ge g (off := 9) (tgt := 16) (by decide +kernel) (by decide) (fun c7 => ?_) (fun c7 => ?_)
  · skip
    refine j_iconst g (n := 0) (0) (by decide +kernel) rfl ?_
    refine hr.1 _ _ _ _ (by decide +kernel) ⟨_, rfl, by first | rfl | exact b2i_nar | rfl⟩ ?_ ?_
    · unfold r_X5_nextMover; first | rfl | (simp only [if_pos (show (M.1 100 0) ≤ (a1 + 1) from c7)]; done) | (simp only [if_pos (show (M.1 100 0) ≤ (a1 + 1) from c7)]; rfl)
    · rfl
  · skip
    refine j_iload_n g (i := 1) (by decide +kernel) rfl ?_
    refine j_iconst g (n := 1) (1) (by decide +kernel) rfl ?_
    refine j_iadd g (by decide +kernel) ?_
    refine j_goto g (off := 4) (tgt := 17) (by decide +kernel) (by decide) ?_
    refine hr.1 _ _ _ _ (by decide +kernel) ⟨_, rfl, by first | rfl | exact b2i_nar | rfl⟩ ?_ ?_
    · unfold r_X5_nextMover; first | rfl | (simp only [if_neg (show ¬ ((M.1 100 0) ≤ (a1 + 1)) from c7)]; done) | (simp only [if_neg (show ¬ ((M.1 100 0) ≤ (a1 + 1)) from c7)]; rfl)
    · rfl
def r_X5_spoils (M : Mm) (s : Nat) (wk : Nat) : Int32 := if ¬ (b2i (cHas M (M.1 wk 6))) = 0 then (if (M.1 wk 7) ≤ 0 then (if (M.1 (s + 3) (Int32.toNatClampNeg (M.1 wk 6))) = 2 then 1 else 0) else if ((M.1 s 4) - (M.1 (s + 4) (Int32.toNatClampNeg (M.1 wk 6)))) ≤ (M.1 wk 7) then (if (M.1 (s + 3) (Int32.toNatClampNeg (M.1 wk 6))) = 2 then 1 else 0) else 1) else 0
def p_X5_spoils (M : Mm) (s : Nat) (wk : Nat) : Prop := (if ¬ (b2i (cHas M (M.1 wk 6))) = 0 then (if (M.1 wk 7) ≤ 0 then (vp_in (M.1 wk 6) 6) ∧ (if (M.1 (s + 3) (Int32.toNatClampNeg (M.1 wk 6))) = 2 then True else True) else (vp_in (M.1 wk 6) 6) ∧ (if ((M.1 s 4) - (M.1 (s + 4) (Int32.toNatClampNeg (M.1 wk 6)))) ≤ (M.1 wk 7) then (vp_in (M.1 wk 6) 6) ∧ (if (M.1 (s + 3) (Int32.toNatClampNeg (M.1 wk 6))) = 2 then True else True) else (vp_in (M.1 wk 6) 6) ∧ (if (M.1 (s + 3) (Int32.toNatClampNeg (M.1 wk 6))) = 2 then True else True))) else True)
theorem rnX5_spoils {d : Nat} {M : Mm} {s : Nat} {wk : Nat} (hs : isS s) (hwk : gk wk = 6) (hp : p_X5_spoils M s wk) : Rn (d + 1) mX5_spoils [.ref 100, .ref s, .ref wk] M (some (.int (r_X5_spoils M s wk))) M := by
  refine Rn.of [some (.ref 100), some (.ref s), some (.ref wk), none] (by decide +kernel) rfl (Nat.le_of_ble_eq_true rfl) rfl (fun J g hr => ?_)
  unfold p_X5_spoils at hp
  refine j_aload_n g (i := 0) (by decide +kernel) rfl ?_
  refine j_aload_n g (i := 2) (by decide +kernel) rfl ?_
  refine j_gI g f5_101 (by decide +kernel) (by decide +kernel) hwk ?_
  refine j_cV1r g v5_113 ⟨rfl, by decide⟩ (by decide +kernel) (by decide +kernel) (Nat.le_of_ble_eq_true rfl) (rnX5_hasWork) ?_
  refine j_if_ne g (off := 5) (tgt := 13) (by decide +kernel) (by decide) (fun c8 => ?_) (fun c8 => ?_)
  · rw [if_pos (show ¬ (b2i (cHas M (M.1 wk 6))) = 0 from c8)] at hp
    refine j_aload_n g (i := 2) (by decide +kernel) rfl ?_
    refine j_gI g f5_104 (by decide +kernel) (by decide +kernel) hwk ?_
    refine j_if_le g (off := 28) (tgt := 45) (by decide +kernel) (by decide) (fun c17 => ?_) (fun c17 => ?_)
    · rw [if_pos (show (M.1 wk 7) ≤ 0 from c17)] at hp
      refine j_iconst g (n := 0) (0) (by decide +kernel) rfl ?_
      refine j_istore_n g (i := 3) (by decide +kernel) (by decide) ?_
      dsimp only [stL, clL, hdL]
      refine j_aload_n g (i := 1) (by decide +kernel) rfl ?_
      refine j_gA g f5_107 (by decide +kernel) (by decide +kernel) (isS_F hs).1.1 (isS_F hs).2.2.2.2.1 ?_
      refine j_aload_n g (i := 2) (by decide +kernel) rfl ?_
      refine j_gI g f5_101 (by decide +kernel) (by decide +kernel) hwk ?_
      obtain ⟨h0, hp⟩ := hp
      refine j_ia g 6 (by decide +kernel) (isS_F hs).1.2.2.2.1 (isS_F hs).2.1.2.2.1 h0 ?_
      refine j_iconst g (n := 2) (2) (by decide +kernel) rfl ?_
      refine j_icmp_eq g (off := 7) (tgt := 64) (by decide +kernel) (by decide) (fun c57 => ?_) (fun c57 => ?_)
      · rw [if_pos (show (M.1 (s + 3) (Int32.toNatClampNeg (M.1 wk 6))) = 2 from c57)] at hp
        refine j_iconst g (n := 1) (1) (by decide +kernel) rfl ?_
        refine j_goto g (off := 4) (tgt := 69) (by decide +kernel) (by decide) ?_
        refine hr.1 _ _ _ _ (by decide +kernel) ⟨_, rfl, by first | rfl | exact b2i_nar | decide +kernel⟩ ?_ ?_
        · unfold r_X5_spoils; first | rfl | (simp only [if_pos (show ¬ (b2i (cHas M (M.1 wk 6))) = 0 from c8), if_pos (show (M.1 wk 7) ≤ 0 from c17), if_pos (show (M.1 (s + 3) (Int32.toNatClampNeg (M.1 wk 6))) = 2 from c57)]; done) | (simp only [if_pos (show ¬ (b2i (cHas M (M.1 wk 6))) = 0 from c8), if_pos (show (M.1 wk 7) ≤ 0 from c17), if_pos (show (M.1 (s + 3) (Int32.toNatClampNeg (M.1 wk 6))) = 2 from c57)]; rfl)
        · rfl
      · rw [if_neg (show ¬ ((M.1 (s + 3) (Int32.toNatClampNeg (M.1 wk 6))) = 2) from c57)] at hp
        refine j_iload_n g (i := 3) (by decide +kernel) rfl ?_
        refine j_if_eq g (off := 7) (tgt := 68) (by decide +kernel) (by decide) (fun _ => ?_) (fun c => absurd (by first | decide | rfl | exact Int32.le_refl _) c)
        refine j_iconst g (n := 0) (0) (by decide +kernel) rfl ?_
        refine hr.1 _ _ _ _ (by decide +kernel) ⟨_, rfl, by first | rfl | exact b2i_nar | decide +kernel⟩ ?_ ?_
        · unfold r_X5_spoils; first | rfl | (simp only [if_pos (show ¬ (b2i (cHas M (M.1 wk 6))) = 0 from c8), if_pos (show (M.1 wk 7) ≤ 0 from c17), if_neg (show ¬ ((M.1 (s + 3) (Int32.toNatClampNeg (M.1 wk 6))) = 2) from c57)]; done) | (simp only [if_pos (show ¬ (b2i (cHas M (M.1 wk 6))) = 0 from c8), if_pos (show (M.1 wk 7) ≤ 0 from c17), if_neg (show ¬ ((M.1 (s + 3) (Int32.toNatClampNeg (M.1 wk 6))) = 2) from c57)]; rfl)
        · rfl
    · rw [if_neg (show ¬ ((M.1 wk 7) ≤ 0) from c17)] at hp
      refine j_aload_n g (i := 1) (by decide +kernel) rfl ?_
      refine j_gI g f5_54 (by decide +kernel) (by decide +kernel) (isS_F hs).1.1 ?_
      refine j_aload_n g (i := 1) (by decide +kernel) rfl ?_
      refine j_gA g f5_110 (by decide +kernel) (by decide +kernel) (isS_F hs).1.1 (isS_F hs).2.2.2.2.2 ?_
      refine j_aload_n g (i := 2) (by decide +kernel) rfl ?_
      refine j_gI g f5_101 (by decide +kernel) (by decide +kernel) hwk ?_
      obtain ⟨h0, hp⟩ := hp
      refine j_ia g 6 (by decide +kernel) (isS_F hs).1.2.2.2.2 (isS_F hs).2.1.2.2.2 h0 ?_
      refine j_isub g (by decide +kernel) ?_
      refine j_aload_n g (i := 2) (by decide +kernel) rfl ?_
      refine j_gI g f5_104 (by decide +kernel) (by decide +kernel) hwk ?_
      refine j_icmp_le g (off := 7) (tgt := 45) (by decide +kernel) (by decide) (fun c38 => ?_) (fun c38 => ?_)
      · rw [if_pos (show ((M.1 s 4) - (M.1 (s + 4) (Int32.toNatClampNeg (M.1 wk 6)))) ≤ (M.1 wk 7) from c38)] at hp
        refine j_iconst g (n := 0) (0) (by decide +kernel) rfl ?_
        refine j_istore_n g (i := 3) (by decide +kernel) (by decide) ?_
        dsimp only [stL, clL, hdL]
        refine j_aload_n g (i := 1) (by decide +kernel) rfl ?_
        refine j_gA g f5_107 (by decide +kernel) (by decide +kernel) (isS_F hs).1.1 (isS_F hs).2.2.2.2.1 ?_
        refine j_aload_n g (i := 2) (by decide +kernel) rfl ?_
        refine j_gI g f5_101 (by decide +kernel) (by decide +kernel) hwk ?_
        obtain ⟨h0, hp⟩ := hp
        refine j_ia g 6 (by decide +kernel) (isS_F hs).1.2.2.2.1 (isS_F hs).2.1.2.2.1 h0 ?_
        refine j_iconst g (n := 2) (2) (by decide +kernel) rfl ?_
        refine j_icmp_eq g (off := 7) (tgt := 64) (by decide +kernel) (by decide) (fun c57 => ?_) (fun c57 => ?_)
        · rw [if_pos (show (M.1 (s + 3) (Int32.toNatClampNeg (M.1 wk 6))) = 2 from c57)] at hp
          refine j_iconst g (n := 1) (1) (by decide +kernel) rfl ?_
          refine j_goto g (off := 4) (tgt := 69) (by decide +kernel) (by decide) ?_
          refine hr.1 _ _ _ _ (by decide +kernel) ⟨_, rfl, by first | rfl | exact b2i_nar | decide +kernel⟩ ?_ ?_
          · unfold r_X5_spoils; first | rfl | (simp only [if_pos (show ¬ (b2i (cHas M (M.1 wk 6))) = 0 from c8), if_neg (show ¬ ((M.1 wk 7) ≤ 0) from c17), if_pos (show ((M.1 s 4) - (M.1 (s + 4) (Int32.toNatClampNeg (M.1 wk 6)))) ≤ (M.1 wk 7) from c38), if_pos (show (M.1 (s + 3) (Int32.toNatClampNeg (M.1 wk 6))) = 2 from c57)]; done) | (simp only [if_pos (show ¬ (b2i (cHas M (M.1 wk 6))) = 0 from c8), if_neg (show ¬ ((M.1 wk 7) ≤ 0) from c17), if_pos (show ((M.1 s 4) - (M.1 (s + 4) (Int32.toNatClampNeg (M.1 wk 6)))) ≤ (M.1 wk 7) from c38), if_pos (show (M.1 (s + 3) (Int32.toNatClampNeg (M.1 wk 6))) = 2 from c57)]; rfl)
          · rfl
        · rw [if_neg (show ¬ ((M.1 (s + 3) (Int32.toNatClampNeg (M.1 wk 6))) = 2) from c57)] at hp
          refine j_iload_n g (i := 3) (by decide +kernel) rfl ?_
          refine j_if_eq g (off := 7) (tgt := 68) (by decide +kernel) (by decide) (fun _ => ?_) (fun c => absurd (by first | decide | rfl | exact Int32.le_refl _) c)
          refine j_iconst g (n := 0) (0) (by decide +kernel) rfl ?_
          refine hr.1 _ _ _ _ (by decide +kernel) ⟨_, rfl, by first | rfl | exact b2i_nar | decide +kernel⟩ ?_ ?_
          · unfold r_X5_spoils; first | rfl | (simp only [if_pos (show ¬ (b2i (cHas M (M.1 wk 6))) = 0 from c8), if_neg (show ¬ ((M.1 wk 7) ≤ 0) from c17), if_pos (show ((M.1 s 4) - (M.1 (s + 4) (Int32.toNatClampNeg (M.1 wk 6)))) ≤ (M.1 wk 7) from c38), if_neg (show ¬ ((M.1 (s + 3) (Int32.toNatClampNeg (M.1 wk 6))) = 2) from c57)]; done) | (simp only [if_pos (show ¬ (b2i (cHas M (M.1 wk 6))) = 0 from c8), if_neg (show ¬ ((M.1 wk 7) ≤ 0) from c17), if_pos (show ((M.1 s 4) - (M.1 (s + 4) (Int32.toNatClampNeg (M.1 wk 6)))) ≤ (M.1 wk 7) from c38), if_neg (show ¬ ((M.1 (s + 3) (Int32.toNatClampNeg (M.1 wk 6))) = 2) from c57)]; rfl)
          · rfl
      · rw [if_neg (show ¬ (((M.1 s 4) - (M.1 (s + 4) (Int32.toNatClampNeg (M.1 wk 6)))) ≤ (M.1 wk 7)) from c38)] at hp
        refine j_iconst g (n := 1) (1) (by decide +kernel) rfl ?_
        refine j_goto g (off := 4) (tgt := 46) (by decide +kernel) (by decide) ?_
        refine j_istore_n g (i := 3) (by decide +kernel) (by decide) ?_
        dsimp only [stL, clL, hdL]
        refine j_aload_n g (i := 1) (by decide +kernel) rfl ?_
        refine j_gA g f5_107 (by decide +kernel) (by decide +kernel) (isS_F hs).1.1 (isS_F hs).2.2.2.2.1 ?_
        refine j_aload_n g (i := 2) (by decide +kernel) rfl ?_
        refine j_gI g f5_101 (by decide +kernel) (by decide +kernel) hwk ?_
        obtain ⟨h0, hp⟩ := hp
        refine j_ia g 6 (by decide +kernel) (isS_F hs).1.2.2.2.1 (isS_F hs).2.1.2.2.1 h0 ?_
        refine j_iconst g (n := 2) (2) (by decide +kernel) rfl ?_
        refine j_icmp_eq g (off := 7) (tgt := 64) (by decide +kernel) (by decide) (fun c57 => ?_) (fun c57 => ?_)
        · rw [if_pos (show (M.1 (s + 3) (Int32.toNatClampNeg (M.1 wk 6))) = 2 from c57)] at hp
          refine j_iconst g (n := 1) (1) (by decide +kernel) rfl ?_
          refine j_goto g (off := 4) (tgt := 69) (by decide +kernel) (by decide) ?_
          refine hr.1 _ _ _ _ (by decide +kernel) ⟨_, rfl, by first | rfl | exact b2i_nar | decide +kernel⟩ ?_ ?_
          · unfold r_X5_spoils; first | rfl | (simp only [if_pos (show ¬ (b2i (cHas M (M.1 wk 6))) = 0 from c8), if_neg (show ¬ ((M.1 wk 7) ≤ 0) from c17), if_neg (show ¬ (((M.1 s 4) - (M.1 (s + 4) (Int32.toNatClampNeg (M.1 wk 6)))) ≤ (M.1 wk 7)) from c38), if_pos (show (M.1 (s + 3) (Int32.toNatClampNeg (M.1 wk 6))) = 2 from c57)]; done) | (simp only [if_pos (show ¬ (b2i (cHas M (M.1 wk 6))) = 0 from c8), if_neg (show ¬ ((M.1 wk 7) ≤ 0) from c17), if_neg (show ¬ (((M.1 s 4) - (M.1 (s + 4) (Int32.toNatClampNeg (M.1 wk 6)))) ≤ (M.1 wk 7)) from c38), if_pos (show (M.1 (s + 3) (Int32.toNatClampNeg (M.1 wk 6))) = 2 from c57)]; rfl)
          · rfl
        · rw [if_neg (show ¬ ((M.1 (s + 3) (Int32.toNatClampNeg (M.1 wk 6))) = 2) from c57)] at hp
          refine j_iload_n g (i := 3) (by decide +kernel) rfl ?_
          refine j_if_eq g (off := 7) (tgt := 68) (by decide +kernel) (by decide) (fun c => absurd c (by first | decide | (intro h; exact h rfl))) (fun _ => ?_)
          refine j_iconst g (n := 1) (1) (by decide +kernel) rfl ?_
          refine j_goto g (off := 4) (tgt := 69) (by decide +kernel) (by decide) ?_
          refine hr.1 _ _ _ _ (by decide +kernel) ⟨_, rfl, by first | rfl | exact b2i_nar | decide +kernel⟩ ?_ ?_
          · unfold r_X5_spoils; first | rfl | (simp only [if_pos (show ¬ (b2i (cHas M (M.1 wk 6))) = 0 from c8), if_neg (show ¬ ((M.1 wk 7) ≤ 0) from c17), if_neg (show ¬ (((M.1 s 4) - (M.1 (s + 4) (Int32.toNatClampNeg (M.1 wk 6)))) ≤ (M.1 wk 7)) from c38), if_neg (show ¬ ((M.1 (s + 3) (Int32.toNatClampNeg (M.1 wk 6))) = 2) from c57)]; done) | (simp only [if_pos (show ¬ (b2i (cHas M (M.1 wk 6))) = 0 from c8), if_neg (show ¬ ((M.1 wk 7) ≤ 0) from c17), if_neg (show ¬ (((M.1 s 4) - (M.1 (s + 4) (Int32.toNatClampNeg (M.1 wk 6)))) ≤ (M.1 wk 7)) from c38), if_neg (show ¬ ((M.1 (s + 3) (Int32.toNatClampNeg (M.1 wk 6))) = 2) from c57)]; rfl)
          · rfl
  · rw [if_neg (show ¬ (¬ (b2i (cHas M (M.1 wk 6))) = 0) from c8)] at hp
    refine j_iconst g (n := 0) (0) (by decide +kernel) rfl ?_
    refine hr.1 _ _ _ _ (by decide +kernel) ⟨_, rfl, by first | rfl | exact b2i_nar | decide +kernel⟩ ?_ ?_
    · unfold r_X5_spoils; first | rfl | (simp only [if_neg (show ¬ (¬ (b2i (cHas M (M.1 wk 6))) = 0) from c8)]; done) | (simp only [if_neg (show ¬ (¬ (b2i (cHas M (M.1 wk 6))) = 0) from c8)]; rfl)
    · rfl
def r_X6_worthAt (M : Mm) (wk : Nat) (a1 : Int32) : Int32 := (if 0 < ((M.1 wk 5) - (if 0 < (a1 - (M.1 wk 4)) then (a1 - (M.1 wk 4)) else 0)) then ((M.1 wk 5) - (if 0 < (a1 - (M.1 wk 4)) then (a1 - (M.1 wk 4)) else 0)) else 0)
theorem rnX6_worthAt {d : Nat} {M : Mm} {wk : Nat} {a1 : Int32} (hwk : gk wk = 6) : Rn (d + 1) mX6_worthAt [.ref wk, .int a1] M (some (.int (r_X6_worthAt M wk a1))) M := by
  refine Rn.of [some (.ref wk), some (.int a1)] (by decide +kernel) rfl (Nat.le_of_ble_eq_true rfl) rfl (fun J g hr => ?_)
  refine j_iconst g (n := 0) (0) (by decide +kernel) rfl ?_
  refine j_aload_n g (i := 0) (by decide +kernel) rfl ?_
  refine j_gI g f6_25 (by decide +kernel) (by decide +kernel) hwk ?_
  refine j_iconst g (n := 0) (0) (by decide +kernel) rfl ?_
  refine j_iload_n g (i := 1) (by decide +kernel) rfl ?_
  refine j_aload_n g (i := 0) (by decide +kernel) rfl ?_
  refine j_gI g f6_22 (by decide +kernel) (by decide +kernel) hwk ?_
  refine j_isub g (by decide +kernel) ?_
  refine j_mmax g (by omega) (Nat.le_of_ble_eq_true rfl) t6_34 (by decide +kernel) ?_
  refine j_isub g (by decide +kernel) ?_
  refine j_mmax g (by omega) (Nat.le_of_ble_eq_true rfl) t6_34 (by decide +kernel) ?_
  refine hr.1 _ _ _ _ (by decide +kernel) ⟨_, rfl, by first | rfl | exact b2i_nar | rfl⟩ ?_ ?_
  · rfl
  · rfl
def r_X7_mover (M : Mm) (a1 : Int32) (a2 : Int32) : Int32 := if (b2i (0 ≤ a1 ∧ a1 ≤ 9)) = 0 then (-1) else if ¬ (b2i (1 ≤ a2 ∧ a2 ≤ 5)) = 0 then (if 3 ≤ (M.1 100 0) then (-2) else r_X5_addMover M a1 a2) else (-1)
def w_X7_mover (M : Mm) (a1 : Int32) (a2 : Int32) : Mm := if (b2i (0 ≤ a1 ∧ a1 ≤ 9)) = 0 then M else if ¬ (b2i (1 ≤ a2 ∧ a2 ≤ 5)) = 0 then (if 3 ≤ (M.1 100 0) then M else (w_X5_addMover M a1 a2)) else M
def p_X7_mover (M : Mm) (a1 : Int32) (a2 : Int32) : Prop := (if (b2i (0 ≤ a1 ∧ a1 ≤ 9)) = 0 then True else (if ¬ (b2i (1 ≤ a2 ∧ a2 ≤ 5)) = 0 then (if 3 ≤ (M.1 100 0) then True else (p_X5_addMover M a1 a2) ∧ True) else True))
theorem rnX7_mover {d : Nat} {M : Mm} {a1 : Int32} {a2 : Int32}  (hp : p_X7_mover M a1 a2) : Rn (d + 1) mX7_mover [.ref 1, .int a1, .int a2] M (some (.int (r_X7_mover M a1 a2))) (w_X7_mover M a1 a2) := by
  refine Rn.of [some (.ref 1), some (.int a1), some (.int a2)] (by decide +kernel) rfl (Nat.le_of_ble_eq_true rfl) rfl (fun J g hr => ?_)
  unfold p_X7_mover at hp
  refine j_iload_n g (i := 1) (by decide +kernel) rfl ?_
  refine j_iconst g (n := 0) (0) (by decide +kernel) rfl ?_
  refine j_bipush g (n := 9) (9) (by decide +kernel) (by decide +kernel) ?_
  refine j_cS3r g s7_87 (by decide +kernel) (Nat.le_of_ble_eq_true rfl) (rnX7_isWithin) ?_
  refine j_if_eq g (off := 12) (tgt := 19) (by decide +kernel) (by decide) (fun c7 => ?_) (fun c7 => ?_)
  · rw [if_pos (show (b2i (0 ≤ a1 ∧ a1 ≤ 9)) = 0 from c7)] at hp
    refine j_iconst g (n := -1) (-1) (by decide +kernel) rfl ?_
    refine hr.1 _ _ _ _ (by decide +kernel) ⟨_, rfl, by first | rfl | exact b2i_nar | rfl⟩ ?_ ?_
    · unfold r_X7_mover; first | rfl | (simp only [if_pos (show (b2i (0 ≤ a1 ∧ a1 ≤ 9)) = 0 from c7)]; done) | (simp only [if_pos (show (b2i (0 ≤ a1 ∧ a1 ≤ 9)) = 0 from c7)]; rfl)
    · unfold w_X7_mover; first | rfl | (simp only [if_pos (show (b2i (0 ≤ a1 ∧ a1 ≤ 9)) = 0 from c7)]; done) | (simp only [if_pos (show (b2i (0 ≤ a1 ∧ a1 ≤ 9)) = 0 from c7)]; rfl)
  · rw [if_neg (show ¬ ((b2i (0 ≤ a1 ∧ a1 ≤ 9)) = 0) from c7)] at hp
    refine j_iload_n g (i := 2) (by decide +kernel) rfl ?_
    refine j_iconst g (n := 1) (1) (by decide +kernel) rfl ?_
    refine j_iconst g (n := 5) (5) (by decide +kernel) rfl ?_
    refine j_cS3r g s7_87 (by decide +kernel) (Nat.le_of_ble_eq_true rfl) (rnX7_isWithin) ?_
    refine j_if_ne g (off := 5) (tgt := 21) (by decide +kernel) (by decide) (fun c16 => ?_) (fun c16 => ?_)
    · rw [if_pos (show ¬ (b2i (1 ≤ a2 ∧ a2 ≤ 5)) = 0 from c16)] at hp
      refine j_aload_n g (i := 0) (by decide +kernel) rfl ?_
      refine j_gA g (b := 100) f7_20 (by decide +kernel) (by decide +kernel) (by decide +kernel) (by decide +kernel) ?_
      refine j_gI g f7_91 (by decide +kernel) (by decide +kernel) (by decide +kernel) ?_
      refine j_iconst g (n := 3) (3) (by decide +kernel) rfl ?_
      refine j_icmp_ge g (off := 15) (tgt := 44) (by decide +kernel) (by decide) (fun c29 => ?_) (fun c29 => ?_)
      · rw [if_pos (show 3 ≤ (M.1 100 0) from c29)] at hp
        refine j_bipush g (n := -2) (-2) (by decide +kernel) (by decide +kernel) ?_
        refine hr.1 _ _ _ _ (by decide +kernel) ⟨_, rfl, by first | rfl | exact b2i_nar | rfl⟩ ?_ ?_
        · unfold r_X7_mover; first | rfl | (simp only [if_neg (show ¬ ((b2i (0 ≤ a1 ∧ a1 ≤ 9)) = 0) from c7), if_pos (show ¬ (b2i (1 ≤ a2 ∧ a2 ≤ 5)) = 0 from c16), if_pos (show 3 ≤ (M.1 100 0) from c29)]; done) | (simp only [if_neg (show ¬ ((b2i (0 ≤ a1 ∧ a1 ≤ 9)) = 0) from c7), if_pos (show ¬ (b2i (1 ≤ a2 ∧ a2 ≤ 5)) = 0 from c16), if_pos (show 3 ≤ (M.1 100 0) from c29)]; rfl)
        · unfold w_X7_mover; first | rfl | (simp only [if_neg (show ¬ ((b2i (0 ≤ a1 ∧ a1 ≤ 9)) = 0) from c7), if_pos (show ¬ (b2i (1 ≤ a2 ∧ a2 ≤ 5)) = 0 from c16), if_pos (show 3 ≤ (M.1 100 0) from c29)]; done) | (simp only [if_neg (show ¬ ((b2i (0 ≤ a1 ∧ a1 ≤ 9)) = 0) from c7), if_pos (show ¬ (b2i (1 ≤ a2 ∧ a2 ≤ 5)) = 0 from c16), if_pos (show 3 ≤ (M.1 100 0) from c29)]; rfl)
      · rw [if_neg (show ¬ (3 ≤ (M.1 100 0)) from c29)] at hp
        refine j_aload_n g (i := 0) (by decide +kernel) rfl ?_
        refine j_gA g (b := 100) f7_20 (by decide +kernel) (by decide +kernel) (by decide +kernel) (by decide +kernel) ?_
        refine j_iload_n g (i := 1) (by decide +kernel) rfl ?_
        refine j_iload_n g (i := 2) (by decide +kernel) rfl ?_
        obtain ⟨h0, hp⟩ := hp
        refine j_cV2r g v7_94 ⟨rfl, by decide⟩ (by decide +kernel) (by decide +kernel) (Nat.le_of_ble_eq_true rfl) (rnX5_addMover h0) ?_
        refine j_goto g (off := 5) (tgt := 46) (by decide +kernel) (by decide) ?_
        refine hr.1 _ _ _ _ (by decide +kernel) ⟨_, rfl, by first | rfl | exact b2i_nar | rfl⟩ ?_ ?_
        · unfold r_X7_mover; first | rfl | (simp only [if_neg (show ¬ ((b2i (0 ≤ a1 ∧ a1 ≤ 9)) = 0) from c7), if_pos (show ¬ (b2i (1 ≤ a2 ∧ a2 ≤ 5)) = 0 from c16), if_neg (show ¬ (3 ≤ (M.1 100 0)) from c29)]; done) | (simp only [if_neg (show ¬ ((b2i (0 ≤ a1 ∧ a1 ≤ 9)) = 0) from c7), if_pos (show ¬ (b2i (1 ≤ a2 ∧ a2 ≤ 5)) = 0 from c16), if_neg (show ¬ (3 ≤ (M.1 100 0)) from c29)]; rfl)
        · unfold w_X7_mover; first | rfl | (simp only [if_neg (show ¬ ((b2i (0 ≤ a1 ∧ a1 ≤ 9)) = 0) from c7), if_pos (show ¬ (b2i (1 ≤ a2 ∧ a2 ≤ 5)) = 0 from c16), if_neg (show ¬ (3 ≤ (M.1 100 0)) from c29)]; done) | (simp only [if_neg (show ¬ ((b2i (0 ≤ a1 ∧ a1 ≤ 9)) = 0) from c7), if_pos (show ¬ (b2i (1 ≤ a2 ∧ a2 ≤ 5)) = 0 from c16), if_neg (show ¬ (3 ≤ (M.1 100 0)) from c29)]; rfl)
    · rw [if_neg (show ¬ (¬ (b2i (1 ≤ a2 ∧ a2 ≤ 5)) = 0) from c16)] at hp
      refine j_iconst g (n := -1) (-1) (by decide +kernel) rfl ?_
      refine hr.1 _ _ _ _ (by decide +kernel) ⟨_, rfl, by first | rfl | exact b2i_nar | rfl⟩ ?_ ?_
      · unfold r_X7_mover; first | rfl | (simp only [if_neg (show ¬ ((b2i (0 ≤ a1 ∧ a1 ≤ 9)) = 0) from c7), if_neg (show ¬ (¬ (b2i (1 ≤ a2 ∧ a2 ≤ 5)) = 0) from c16)]; done) | (simp only [if_neg (show ¬ ((b2i (0 ≤ a1 ∧ a1 ≤ 9)) = 0) from c7), if_neg (show ¬ (¬ (b2i (1 ≤ a2 ∧ a2 ≤ 5)) = 0) from c16)]; rfl)
      · unfold w_X7_mover; first | rfl | (simp only [if_neg (show ¬ ((b2i (0 ≤ a1 ∧ a1 ≤ 9)) = 0) from c7), if_neg (show ¬ (¬ (b2i (1 ≤ a2 ∧ a2 ≤ 5)) = 0) from c16)]; done) | (simp only [if_neg (show ¬ ((b2i (0 ≤ a1 ∧ a1 ≤ 9)) = 0) from c7), if_neg (show ¬ (¬ (b2i (1 ≤ a2 ∧ a2 ≤ 5)) = 0) from c16)]; rfl)
def r_X7_thing (M : Mm) (a1 : Int32) (a2 : Int32) : Int32 := if (b2i (0 ≤ a1 ∧ a1 ≤ 9)) = 0 then (-1) else if ¬ (b2i (1 ≤ a2 ∧ a2 ≤ 9)) = 0 then (if 6 ≤ (M.1 100 1) then (-2) else r_X5_addThing M a1 a2) else (-1)
def w_X7_thing (M : Mm) (a1 : Int32) (a2 : Int32) : Mm := if (b2i (0 ≤ a1 ∧ a1 ≤ 9)) = 0 then M else if ¬ (b2i (1 ≤ a2 ∧ a2 ≤ 9)) = 0 then (if 6 ≤ (M.1 100 1) then M else (w_X5_addThing M a1 a2)) else M
def p_X7_thing (M : Mm) (a1 : Int32) (a2 : Int32) : Prop := (if (b2i (0 ≤ a1 ∧ a1 ≤ 9)) = 0 then True else (if ¬ (b2i (1 ≤ a2 ∧ a2 ≤ 9)) = 0 then (if 6 ≤ (M.1 100 1) then True else (p_X5_addThing M a1 a2) ∧ True) else True))
theorem rnX7_thing {d : Nat} {M : Mm} {a1 : Int32} {a2 : Int32}  (hp : p_X7_thing M a1 a2) : Rn (d + 1) mX7_thing [.ref 1, .int a1, .int a2] M (some (.int (r_X7_thing M a1 a2))) (w_X7_thing M a1 a2) := by
  refine Rn.of [some (.ref 1), some (.int a1), some (.int a2)] (by decide +kernel) rfl (Nat.le_of_ble_eq_true rfl) rfl (fun J g hr => ?_)
  unfold p_X7_thing at hp
  refine j_iload_n g (i := 1) (by decide +kernel) rfl ?_
  refine j_iconst g (n := 0) (0) (by decide +kernel) rfl ?_
  refine j_bipush g (n := 9) (9) (by decide +kernel) (by decide +kernel) ?_
  refine j_cS3r g s7_87 (by decide +kernel) (Nat.le_of_ble_eq_true rfl) (rnX7_isWithin) ?_
  refine j_if_eq g (off := 13) (tgt := 20) (by decide +kernel) (by decide) (fun c7 => ?_) (fun c7 => ?_)
  · rw [if_pos (show (b2i (0 ≤ a1 ∧ a1 ≤ 9)) = 0 from c7)] at hp
    refine j_iconst g (n := -1) (-1) (by decide +kernel) rfl ?_
    refine hr.1 _ _ _ _ (by decide +kernel) ⟨_, rfl, by first | rfl | exact b2i_nar | rfl⟩ ?_ ?_
    · unfold r_X7_thing; first | rfl | (simp only [if_pos (show (b2i (0 ≤ a1 ∧ a1 ≤ 9)) = 0 from c7)]; done) | (simp only [if_pos (show (b2i (0 ≤ a1 ∧ a1 ≤ 9)) = 0 from c7)]; rfl)
    · unfold w_X7_thing; first | rfl | (simp only [if_pos (show (b2i (0 ≤ a1 ∧ a1 ≤ 9)) = 0 from c7)]; done) | (simp only [if_pos (show (b2i (0 ≤ a1 ∧ a1 ≤ 9)) = 0 from c7)]; rfl)
  · rw [if_neg (show ¬ ((b2i (0 ≤ a1 ∧ a1 ≤ 9)) = 0) from c7)] at hp
    refine j_iload_n g (i := 2) (by decide +kernel) rfl ?_
    refine j_iconst g (n := 1) (1) (by decide +kernel) rfl ?_
    refine j_bipush g (n := 9) (9) (by decide +kernel) (by decide +kernel) ?_
    refine j_cS3r g s7_87 (by decide +kernel) (Nat.le_of_ble_eq_true rfl) (rnX7_isWithin) ?_
    refine j_if_ne g (off := 5) (tgt := 22) (by decide +kernel) (by decide) (fun c17 => ?_) (fun c17 => ?_)
    · rw [if_pos (show ¬ (b2i (1 ≤ a2 ∧ a2 ≤ 9)) = 0 from c17)] at hp
      refine j_aload_n g (i := 0) (by decide +kernel) rfl ?_
      refine j_gA g (b := 100) f7_20 (by decide +kernel) (by decide +kernel) (by decide +kernel) (by decide +kernel) ?_
      refine j_gI g f7_98 (by decide +kernel) (by decide +kernel) (by decide +kernel) ?_
      refine j_bipush g (n := 6) (6) (by decide +kernel) (by decide +kernel) ?_
      refine j_icmp_ge g (off := 15) (tgt := 46) (by decide +kernel) (by decide) (fun c31 => ?_) (fun c31 => ?_)
      · rw [if_pos (show 6 ≤ (M.1 100 1) from c31)] at hp
        refine j_bipush g (n := -2) (-2) (by decide +kernel) (by decide +kernel) ?_
        refine hr.1 _ _ _ _ (by decide +kernel) ⟨_, rfl, by first | rfl | exact b2i_nar | rfl⟩ ?_ ?_
        · unfold r_X7_thing; first | rfl | (simp only [if_neg (show ¬ ((b2i (0 ≤ a1 ∧ a1 ≤ 9)) = 0) from c7), if_pos (show ¬ (b2i (1 ≤ a2 ∧ a2 ≤ 9)) = 0 from c17), if_pos (show 6 ≤ (M.1 100 1) from c31)]; done) | (simp only [if_neg (show ¬ ((b2i (0 ≤ a1 ∧ a1 ≤ 9)) = 0) from c7), if_pos (show ¬ (b2i (1 ≤ a2 ∧ a2 ≤ 9)) = 0 from c17), if_pos (show 6 ≤ (M.1 100 1) from c31)]; rfl)
        · unfold w_X7_thing; first | rfl | (simp only [if_neg (show ¬ ((b2i (0 ≤ a1 ∧ a1 ≤ 9)) = 0) from c7), if_pos (show ¬ (b2i (1 ≤ a2 ∧ a2 ≤ 9)) = 0 from c17), if_pos (show 6 ≤ (M.1 100 1) from c31)]; done) | (simp only [if_neg (show ¬ ((b2i (0 ≤ a1 ∧ a1 ≤ 9)) = 0) from c7), if_pos (show ¬ (b2i (1 ≤ a2 ∧ a2 ≤ 9)) = 0 from c17), if_pos (show 6 ≤ (M.1 100 1) from c31)]; rfl)
      · rw [if_neg (show ¬ (6 ≤ (M.1 100 1)) from c31)] at hp
        refine j_aload_n g (i := 0) (by decide +kernel) rfl ?_
        refine j_gA g (b := 100) f7_20 (by decide +kernel) (by decide +kernel) (by decide +kernel) (by decide +kernel) ?_
        refine j_iload_n g (i := 1) (by decide +kernel) rfl ?_
        refine j_iload_n g (i := 2) (by decide +kernel) rfl ?_
        obtain ⟨h0, hp⟩ := hp
        refine j_cV2r g v7_101 ⟨rfl, by decide⟩ (by decide +kernel) (by decide +kernel) (Nat.le_of_ble_eq_true rfl) (rnX5_addThing h0) ?_
        refine j_goto g (off := 5) (tgt := 48) (by decide +kernel) (by decide) ?_
        refine hr.1 _ _ _ _ (by decide +kernel) ⟨_, rfl, by first | rfl | exact b2i_nar | rfl⟩ ?_ ?_
        · unfold r_X7_thing; first | rfl | (simp only [if_neg (show ¬ ((b2i (0 ≤ a1 ∧ a1 ≤ 9)) = 0) from c7), if_pos (show ¬ (b2i (1 ≤ a2 ∧ a2 ≤ 9)) = 0 from c17), if_neg (show ¬ (6 ≤ (M.1 100 1)) from c31)]; done) | (simp only [if_neg (show ¬ ((b2i (0 ≤ a1 ∧ a1 ≤ 9)) = 0) from c7), if_pos (show ¬ (b2i (1 ≤ a2 ∧ a2 ≤ 9)) = 0 from c17), if_neg (show ¬ (6 ≤ (M.1 100 1)) from c31)]; rfl)
        · unfold w_X7_thing; first | rfl | (simp only [if_neg (show ¬ ((b2i (0 ≤ a1 ∧ a1 ≤ 9)) = 0) from c7), if_pos (show ¬ (b2i (1 ≤ a2 ∧ a2 ≤ 9)) = 0 from c17), if_neg (show ¬ (6 ≤ (M.1 100 1)) from c31)]; done) | (simp only [if_neg (show ¬ ((b2i (0 ≤ a1 ∧ a1 ≤ 9)) = 0) from c7), if_pos (show ¬ (b2i (1 ≤ a2 ∧ a2 ≤ 9)) = 0 from c17), if_neg (show ¬ (6 ≤ (M.1 100 1)) from c31)]; rfl)
    · rw [if_neg (show ¬ (¬ (b2i (1 ≤ a2 ∧ a2 ≤ 9)) = 0) from c17)] at hp
      refine j_iconst g (n := -1) (-1) (by decide +kernel) rfl ?_
      refine hr.1 _ _ _ _ (by decide +kernel) ⟨_, rfl, by first | rfl | exact b2i_nar | rfl⟩ ?_ ?_
      · unfold r_X7_thing; first | rfl | (simp only [if_neg (show ¬ ((b2i (0 ≤ a1 ∧ a1 ≤ 9)) = 0) from c7), if_neg (show ¬ (¬ (b2i (1 ≤ a2 ∧ a2 ≤ 9)) = 0) from c17)]; done) | (simp only [if_neg (show ¬ ((b2i (0 ≤ a1 ∧ a1 ≤ 9)) = 0) from c7), if_neg (show ¬ (¬ (b2i (1 ≤ a2 ∧ a2 ≤ 9)) = 0) from c17)]; rfl)
      · unfold w_X7_thing; first | rfl | (simp only [if_neg (show ¬ ((b2i (0 ≤ a1 ∧ a1 ≤ 9)) = 0) from c7), if_neg (show ¬ (¬ (b2i (1 ≤ a2 ∧ a2 ≤ 9)) = 0) from c17)]; done) | (simp only [if_neg (show ¬ ((b2i (0 ≤ a1 ∧ a1 ≤ 9)) = 0) from c7), if_neg (show ¬ (¬ (b2i (1 ≤ a2 ∧ a2 ≤ 9)) = 0) from c17)]; rfl)
def r_X7_work (M : Mm) (a1 : Int32) (a2 : Int32) (a3 : Int32) (a4 : Int32) (a5 : Int32) (a6 : Int32) : Int32 := if (b2i (0 ≤ a1 ∧ a1 ≤ 5)) = 0 then (-1) else if (b2i (0 ≤ a2 ∧ a2 ≤ ((M.1 100 0) - 1))) = 0 then (-1) else if (b2i (0 ≤ a3 ∧ a3 ≤ ((M.1 100 1) - 1))) = 0 then (-1) else if (b2i (0 ≤ a4 ∧ a4 ≤ 9)) = 0 then (-1) else if (b2i (0 ≤ a5 ∧ a5 ≤ 999)) = 0 then (-1) else if (b2i (0 ≤ a6 ∧ a6 ≤ 99)) = 0 then (-1) else if 6 ≤ (M.1 100 2) then (-2) else r_X5_addWork M a1 a2 a3 a4 a5 a6
def w_X7_work (M : Mm) (a1 : Int32) (a2 : Int32) (a3 : Int32) (a4 : Int32) (a5 : Int32) (a6 : Int32) : Mm := if (b2i (0 ≤ a1 ∧ a1 ≤ 5)) = 0 then M else if (b2i (0 ≤ a2 ∧ a2 ≤ ((M.1 100 0) - 1))) = 0 then M else if (b2i (0 ≤ a3 ∧ a3 ≤ ((M.1 100 1) - 1))) = 0 then M else if (b2i (0 ≤ a4 ∧ a4 ≤ 9)) = 0 then M else if (b2i (0 ≤ a5 ∧ a5 ≤ 999)) = 0 then M else if (b2i (0 ≤ a6 ∧ a6 ≤ 99)) = 0 then M else if 6 ≤ (M.1 100 2) then M else (w_X5_addWork M a1 a2 a3 a4 a5 a6)
def p_X7_work (M : Mm) (a1 : Int32) (a2 : Int32) (a3 : Int32) (a4 : Int32) (a5 : Int32) (a6 : Int32) : Prop := (if (b2i (0 ≤ a1 ∧ a1 ≤ 5)) = 0 then True else (if (b2i (0 ≤ a2 ∧ a2 ≤ ((M.1 100 0) - 1))) = 0 then True else (if (b2i (0 ≤ a3 ∧ a3 ≤ ((M.1 100 1) - 1))) = 0 then True else (if (b2i (0 ≤ a4 ∧ a4 ≤ 9)) = 0 then True else (if (b2i (0 ≤ a5 ∧ a5 ≤ 999)) = 0 then True else (if (b2i (0 ≤ a6 ∧ a6 ≤ 99)) = 0 then True else (if 6 ≤ (M.1 100 2) then True else (p_X5_addWork M a1 a2 a3 a4 a5 a6) ∧ True)))))))
theorem rnX7_work {d : Nat} {M : Mm} {a1 : Int32} {a2 : Int32} {a3 : Int32} {a4 : Int32} {a5 : Int32} {a6 : Int32}  (hp : p_X7_work M a1 a2 a3 a4 a5 a6) : Rn (d + 1) mX7_work [.ref 1, .int a1, .int a2, .int a3, .int a4, .int a5, .int a6] M (some (.int (r_X7_work M a1 a2 a3 a4 a5 a6))) (w_X7_work M a1 a2 a3 a4 a5 a6) := by
  refine Rn.of [some (.ref 1), some (.int a1), some (.int a2), some (.int a3), some (.int a4), some (.int a5), some (.int a6), none] (by decide +kernel) rfl (Nat.le_of_ble_eq_true rfl) rfl (fun J g hr => ?_)
  unfold p_X7_work at hp
  refine j_iload_n g (i := 1) (by decide +kernel) rfl ?_
  refine j_iconst g (n := 0) (0) (by decide +kernel) rfl ?_
  refine j_iconst g (n := 5) (5) (by decide +kernel) rfl ?_
  refine j_cS3r g s7_87 (by decide +kernel) (Nat.le_of_ble_eq_true rfl) (rnX7_isWithin) ?_
  refine j_if_eq g (off := 75) (tgt := 81) (by decide +kernel) (by decide) (fun c6 => ?_) (fun c6 => ?_)
  · rw [if_pos (show (b2i (0 ≤ a1 ∧ a1 ≤ 5)) = 0 from c6)] at hp
    refine j_iconst g (n := 0) (0) (by decide +kernel) rfl ?_
    refine j_istore g (i := 7) (by decide +kernel) (by decide) ?_
    dsimp only [stL, clL, hdL]
    refine j_iload g (i := 7) (by decide +kernel) rfl ?_
    refine j_if_ne g (off := 5) (tgt := 91) (by decide +kernel) (by decide) (fun c => absurd c (by first | decide | (intro h; exact h rfl))) (fun _ => ?_)
    refine j_iconst g (n := -1) (-1) (by decide +kernel) rfl ?_
    refine hr.1 _ _ _ _ (by decide +kernel) ⟨_, rfl, by first | rfl | exact b2i_nar | rfl⟩ ?_ ?_
    · unfold r_X7_work; first | rfl | (simp only [if_pos (show (b2i (0 ≤ a1 ∧ a1 ≤ 5)) = 0 from c6)]; done) | (simp only [if_pos (show (b2i (0 ≤ a1 ∧ a1 ≤ 5)) = 0 from c6)]; rfl)
    · unfold w_X7_work; first | rfl | (simp only [if_pos (show (b2i (0 ≤ a1 ∧ a1 ≤ 5)) = 0 from c6)]; done) | (simp only [if_pos (show (b2i (0 ≤ a1 ∧ a1 ≤ 5)) = 0 from c6)]; rfl)
  · rw [if_neg (show ¬ ((b2i (0 ≤ a1 ∧ a1 ≤ 5)) = 0) from c6)] at hp
    refine j_iload_n g (i := 2) (by decide +kernel) rfl ?_
    refine j_iconst g (n := 0) (0) (by decide +kernel) rfl ?_
    refine j_aload_n g (i := 0) (by decide +kernel) rfl ?_
    refine j_gA g (b := 100) f7_20 (by decide +kernel) (by decide +kernel) (by decide +kernel) (by decide +kernel) ?_
    refine j_gI g f7_91 (by decide +kernel) (by decide +kernel) (by decide +kernel) ?_
    refine j_iconst g (n := 1) (1) (by decide +kernel) rfl ?_
    refine j_isub g (by decide +kernel) ?_
    refine j_cS3r g s7_87 (by decide +kernel) (Nat.le_of_ble_eq_true rfl) (rnX7_isWithin) ?_
    refine j_if_eq g (off := 58) (tgt := 81) (by decide +kernel) (by decide) (fun c23 => ?_) (fun c23 => ?_)
    · rw [if_pos (show (b2i (0 ≤ a2 ∧ a2 ≤ ((M.1 100 0) - 1))) = 0 from c23)] at hp
      refine j_iconst g (n := 0) (0) (by decide +kernel) rfl ?_
      refine j_istore g (i := 7) (by decide +kernel) (by decide) ?_
      dsimp only [stL, clL, hdL]
      refine j_iload g (i := 7) (by decide +kernel) rfl ?_
      refine j_if_ne g (off := 5) (tgt := 91) (by decide +kernel) (by decide) (fun c => absurd c (by first | decide | (intro h; exact h rfl))) (fun _ => ?_)
      refine j_iconst g (n := -1) (-1) (by decide +kernel) rfl ?_
      refine hr.1 _ _ _ _ (by decide +kernel) ⟨_, rfl, by first | rfl | exact b2i_nar | rfl⟩ ?_ ?_
      · unfold r_X7_work; first | rfl | (simp only [if_neg (show ¬ ((b2i (0 ≤ a1 ∧ a1 ≤ 5)) = 0) from c6), if_pos (show (b2i (0 ≤ a2 ∧ a2 ≤ ((M.1 100 0) - 1))) = 0 from c23)]; done) | (simp only [if_neg (show ¬ ((b2i (0 ≤ a1 ∧ a1 ≤ 5)) = 0) from c6), if_pos (show (b2i (0 ≤ a2 ∧ a2 ≤ ((M.1 100 0) - 1))) = 0 from c23)]; rfl)
      · unfold w_X7_work; first | rfl | (simp only [if_neg (show ¬ ((b2i (0 ≤ a1 ∧ a1 ≤ 5)) = 0) from c6), if_pos (show (b2i (0 ≤ a2 ∧ a2 ≤ ((M.1 100 0) - 1))) = 0 from c23)]; done) | (simp only [if_neg (show ¬ ((b2i (0 ≤ a1 ∧ a1 ≤ 5)) = 0) from c6), if_pos (show (b2i (0 ≤ a2 ∧ a2 ≤ ((M.1 100 0) - 1))) = 0 from c23)]; rfl)
    · rw [if_neg (show ¬ ((b2i (0 ≤ a2 ∧ a2 ≤ ((M.1 100 0) - 1))) = 0) from c23)] at hp
      refine j_iload_n g (i := 3) (by decide +kernel) rfl ?_
      refine j_iconst g (n := 0) (0) (by decide +kernel) rfl ?_
      refine j_aload_n g (i := 0) (by decide +kernel) rfl ?_
      refine j_gA g (b := 100) f7_20 (by decide +kernel) (by decide +kernel) (by decide +kernel) (by decide +kernel) ?_
      refine j_gI g f7_98 (by decide +kernel) (by decide +kernel) (by decide +kernel) ?_
      refine j_iconst g (n := 1) (1) (by decide +kernel) rfl ?_
      refine j_isub g (by decide +kernel) ?_
      refine j_cS3r g s7_87 (by decide +kernel) (Nat.le_of_ble_eq_true rfl) (rnX7_isWithin) ?_
      refine j_if_eq g (off := 41) (tgt := 81) (by decide +kernel) (by decide) (fun c40 => ?_) (fun c40 => ?_)
      · rw [if_pos (show (b2i (0 ≤ a3 ∧ a3 ≤ ((M.1 100 1) - 1))) = 0 from c40)] at hp
        refine j_iconst g (n := 0) (0) (by decide +kernel) rfl ?_
        refine j_istore g (i := 7) (by decide +kernel) (by decide) ?_
        dsimp only [stL, clL, hdL]
        refine j_iload g (i := 7) (by decide +kernel) rfl ?_
        refine j_if_ne g (off := 5) (tgt := 91) (by decide +kernel) (by decide) (fun c => absurd c (by first | decide | (intro h; exact h rfl))) (fun _ => ?_)
        refine j_iconst g (n := -1) (-1) (by decide +kernel) rfl ?_
        refine hr.1 _ _ _ _ (by decide +kernel) ⟨_, rfl, by first | rfl | exact b2i_nar | rfl⟩ ?_ ?_
        · unfold r_X7_work; first | rfl | (simp only [if_neg (show ¬ ((b2i (0 ≤ a1 ∧ a1 ≤ 5)) = 0) from c6), if_neg (show ¬ ((b2i (0 ≤ a2 ∧ a2 ≤ ((M.1 100 0) - 1))) = 0) from c23), if_pos (show (b2i (0 ≤ a3 ∧ a3 ≤ ((M.1 100 1) - 1))) = 0 from c40)]; done) | (simp only [if_neg (show ¬ ((b2i (0 ≤ a1 ∧ a1 ≤ 5)) = 0) from c6), if_neg (show ¬ ((b2i (0 ≤ a2 ∧ a2 ≤ ((M.1 100 0) - 1))) = 0) from c23), if_pos (show (b2i (0 ≤ a3 ∧ a3 ≤ ((M.1 100 1) - 1))) = 0 from c40)]; rfl)
        · unfold w_X7_work; first | rfl | (simp only [if_neg (show ¬ ((b2i (0 ≤ a1 ∧ a1 ≤ 5)) = 0) from c6), if_neg (show ¬ ((b2i (0 ≤ a2 ∧ a2 ≤ ((M.1 100 0) - 1))) = 0) from c23), if_pos (show (b2i (0 ≤ a3 ∧ a3 ≤ ((M.1 100 1) - 1))) = 0 from c40)]; done) | (simp only [if_neg (show ¬ ((b2i (0 ≤ a1 ∧ a1 ≤ 5)) = 0) from c6), if_neg (show ¬ ((b2i (0 ≤ a2 ∧ a2 ≤ ((M.1 100 0) - 1))) = 0) from c23), if_pos (show (b2i (0 ≤ a3 ∧ a3 ≤ ((M.1 100 1) - 1))) = 0 from c40)]; rfl)
      · rw [if_neg (show ¬ ((b2i (0 ≤ a3 ∧ a3 ≤ ((M.1 100 1) - 1))) = 0) from c40)] at hp
        refine j_iload g (i := 4) (by decide +kernel) rfl ?_
        refine j_iconst g (n := 0) (0) (by decide +kernel) rfl ?_
        refine j_bipush g (n := 9) (9) (by decide +kernel) (by decide +kernel) ?_
        refine j_cS3r g s7_87 (by decide +kernel) (Nat.le_of_ble_eq_true rfl) (rnX7_isWithin) ?_
        refine j_if_eq g (off := 30) (tgt := 81) (by decide +kernel) (by decide) (fun c51 => ?_) (fun c51 => ?_)
        · rw [if_pos (show (b2i (0 ≤ a4 ∧ a4 ≤ 9)) = 0 from c51)] at hp
          refine j_iconst g (n := 0) (0) (by decide +kernel) rfl ?_
          refine j_istore g (i := 7) (by decide +kernel) (by decide) ?_
          dsimp only [stL, clL, hdL]
          refine j_iload g (i := 7) (by decide +kernel) rfl ?_
          refine j_if_ne g (off := 5) (tgt := 91) (by decide +kernel) (by decide) (fun c => absurd c (by first | decide | (intro h; exact h rfl))) (fun _ => ?_)
          refine j_iconst g (n := -1) (-1) (by decide +kernel) rfl ?_
          refine hr.1 _ _ _ _ (by decide +kernel) ⟨_, rfl, by first | rfl | exact b2i_nar | rfl⟩ ?_ ?_
          · unfold r_X7_work; first | rfl | (simp only [if_neg (show ¬ ((b2i (0 ≤ a1 ∧ a1 ≤ 5)) = 0) from c6), if_neg (show ¬ ((b2i (0 ≤ a2 ∧ a2 ≤ ((M.1 100 0) - 1))) = 0) from c23), if_neg (show ¬ ((b2i (0 ≤ a3 ∧ a3 ≤ ((M.1 100 1) - 1))) = 0) from c40), if_pos (show (b2i (0 ≤ a4 ∧ a4 ≤ 9)) = 0 from c51)]; done) | (simp only [if_neg (show ¬ ((b2i (0 ≤ a1 ∧ a1 ≤ 5)) = 0) from c6), if_neg (show ¬ ((b2i (0 ≤ a2 ∧ a2 ≤ ((M.1 100 0) - 1))) = 0) from c23), if_neg (show ¬ ((b2i (0 ≤ a3 ∧ a3 ≤ ((M.1 100 1) - 1))) = 0) from c40), if_pos (show (b2i (0 ≤ a4 ∧ a4 ≤ 9)) = 0 from c51)]; rfl)
          · unfold w_X7_work; first | rfl | (simp only [if_neg (show ¬ ((b2i (0 ≤ a1 ∧ a1 ≤ 5)) = 0) from c6), if_neg (show ¬ ((b2i (0 ≤ a2 ∧ a2 ≤ ((M.1 100 0) - 1))) = 0) from c23), if_neg (show ¬ ((b2i (0 ≤ a3 ∧ a3 ≤ ((M.1 100 1) - 1))) = 0) from c40), if_pos (show (b2i (0 ≤ a4 ∧ a4 ≤ 9)) = 0 from c51)]; done) | (simp only [if_neg (show ¬ ((b2i (0 ≤ a1 ∧ a1 ≤ 5)) = 0) from c6), if_neg (show ¬ ((b2i (0 ≤ a2 ∧ a2 ≤ ((M.1 100 0) - 1))) = 0) from c23), if_neg (show ¬ ((b2i (0 ≤ a3 ∧ a3 ≤ ((M.1 100 1) - 1))) = 0) from c40), if_pos (show (b2i (0 ≤ a4 ∧ a4 ≤ 9)) = 0 from c51)]; rfl)
        · rw [if_neg (show ¬ ((b2i (0 ≤ a4 ∧ a4 ≤ 9)) = 0) from c51)] at hp
          refine j_iload g (i := 5) (by decide +kernel) rfl ?_
          refine j_iconst g (n := 0) (0) (by decide +kernel) rfl ?_
          refine j_sipush g (n := 999) (999) (by decide +kernel) (by decide +kernel) ?_
          refine j_cS3r g s7_87 (by decide +kernel) (Nat.le_of_ble_eq_true rfl) (rnX7_isWithin) ?_
          refine j_if_eq g (off := 18) (tgt := 81) (by decide +kernel) (by decide) (fun c63 => ?_) (fun c63 => ?_)
          · rw [if_pos (show (b2i (0 ≤ a5 ∧ a5 ≤ 999)) = 0 from c63)] at hp
            refine j_iconst g (n := 0) (0) (by decide +kernel) rfl ?_
            refine j_istore g (i := 7) (by decide +kernel) (by decide) ?_
            dsimp only [stL, clL, hdL]
            refine j_iload g (i := 7) (by decide +kernel) rfl ?_
            refine j_if_ne g (off := 5) (tgt := 91) (by decide +kernel) (by decide) (fun c => absurd c (by first | decide | (intro h; exact h rfl))) (fun _ => ?_)
            refine j_iconst g (n := -1) (-1) (by decide +kernel) rfl ?_
            refine hr.1 _ _ _ _ (by decide +kernel) ⟨_, rfl, by first | rfl | exact b2i_nar | rfl⟩ ?_ ?_
            · unfold r_X7_work; first | rfl | (simp only [if_neg (show ¬ ((b2i (0 ≤ a1 ∧ a1 ≤ 5)) = 0) from c6), if_neg (show ¬ ((b2i (0 ≤ a2 ∧ a2 ≤ ((M.1 100 0) - 1))) = 0) from c23), if_neg (show ¬ ((b2i (0 ≤ a3 ∧ a3 ≤ ((M.1 100 1) - 1))) = 0) from c40), if_neg (show ¬ ((b2i (0 ≤ a4 ∧ a4 ≤ 9)) = 0) from c51), if_pos (show (b2i (0 ≤ a5 ∧ a5 ≤ 999)) = 0 from c63)]; done) | (simp only [if_neg (show ¬ ((b2i (0 ≤ a1 ∧ a1 ≤ 5)) = 0) from c6), if_neg (show ¬ ((b2i (0 ≤ a2 ∧ a2 ≤ ((M.1 100 0) - 1))) = 0) from c23), if_neg (show ¬ ((b2i (0 ≤ a3 ∧ a3 ≤ ((M.1 100 1) - 1))) = 0) from c40), if_neg (show ¬ ((b2i (0 ≤ a4 ∧ a4 ≤ 9)) = 0) from c51), if_pos (show (b2i (0 ≤ a5 ∧ a5 ≤ 999)) = 0 from c63)]; rfl)
            · unfold w_X7_work; first | rfl | (simp only [if_neg (show ¬ ((b2i (0 ≤ a1 ∧ a1 ≤ 5)) = 0) from c6), if_neg (show ¬ ((b2i (0 ≤ a2 ∧ a2 ≤ ((M.1 100 0) - 1))) = 0) from c23), if_neg (show ¬ ((b2i (0 ≤ a3 ∧ a3 ≤ ((M.1 100 1) - 1))) = 0) from c40), if_neg (show ¬ ((b2i (0 ≤ a4 ∧ a4 ≤ 9)) = 0) from c51), if_pos (show (b2i (0 ≤ a5 ∧ a5 ≤ 999)) = 0 from c63)]; done) | (simp only [if_neg (show ¬ ((b2i (0 ≤ a1 ∧ a1 ≤ 5)) = 0) from c6), if_neg (show ¬ ((b2i (0 ≤ a2 ∧ a2 ≤ ((M.1 100 0) - 1))) = 0) from c23), if_neg (show ¬ ((b2i (0 ≤ a3 ∧ a3 ≤ ((M.1 100 1) - 1))) = 0) from c40), if_neg (show ¬ ((b2i (0 ≤ a4 ∧ a4 ≤ 9)) = 0) from c51), if_pos (show (b2i (0 ≤ a5 ∧ a5 ≤ 999)) = 0 from c63)]; rfl)
          · rw [if_neg (show ¬ ((b2i (0 ≤ a5 ∧ a5 ≤ 999)) = 0) from c63)] at hp
            refine j_iload g (i := 6) (by decide +kernel) rfl ?_
            refine j_iconst g (n := 0) (0) (by decide +kernel) rfl ?_
            refine j_bipush g (n := 99) (99) (by decide +kernel) (by decide +kernel) ?_
            refine j_cS3r g s7_87 (by decide +kernel) (Nat.le_of_ble_eq_true rfl) (rnX7_isWithin) ?_
            refine j_if_eq g (off := 7) (tgt := 81) (by decide +kernel) (by decide) (fun c74 => ?_) (fun c74 => ?_)
            · rw [if_pos (show (b2i (0 ≤ a6 ∧ a6 ≤ 99)) = 0 from c74)] at hp
              refine j_iconst g (n := 0) (0) (by decide +kernel) rfl ?_
              refine j_istore g (i := 7) (by decide +kernel) (by decide) ?_
              dsimp only [stL, clL, hdL]
              refine j_iload g (i := 7) (by decide +kernel) rfl ?_
              refine j_if_ne g (off := 5) (tgt := 91) (by decide +kernel) (by decide) (fun c => absurd c (by first | decide | (intro h; exact h rfl))) (fun _ => ?_)
              refine j_iconst g (n := -1) (-1) (by decide +kernel) rfl ?_
              refine hr.1 _ _ _ _ (by decide +kernel) ⟨_, rfl, by first | rfl | exact b2i_nar | rfl⟩ ?_ ?_
              · unfold r_X7_work; first | rfl | (simp only [if_neg (show ¬ ((b2i (0 ≤ a1 ∧ a1 ≤ 5)) = 0) from c6), if_neg (show ¬ ((b2i (0 ≤ a2 ∧ a2 ≤ ((M.1 100 0) - 1))) = 0) from c23), if_neg (show ¬ ((b2i (0 ≤ a3 ∧ a3 ≤ ((M.1 100 1) - 1))) = 0) from c40), if_neg (show ¬ ((b2i (0 ≤ a4 ∧ a4 ≤ 9)) = 0) from c51), if_neg (show ¬ ((b2i (0 ≤ a5 ∧ a5 ≤ 999)) = 0) from c63), if_pos (show (b2i (0 ≤ a6 ∧ a6 ≤ 99)) = 0 from c74)]; done) | (simp only [if_neg (show ¬ ((b2i (0 ≤ a1 ∧ a1 ≤ 5)) = 0) from c6), if_neg (show ¬ ((b2i (0 ≤ a2 ∧ a2 ≤ ((M.1 100 0) - 1))) = 0) from c23), if_neg (show ¬ ((b2i (0 ≤ a3 ∧ a3 ≤ ((M.1 100 1) - 1))) = 0) from c40), if_neg (show ¬ ((b2i (0 ≤ a4 ∧ a4 ≤ 9)) = 0) from c51), if_neg (show ¬ ((b2i (0 ≤ a5 ∧ a5 ≤ 999)) = 0) from c63), if_pos (show (b2i (0 ≤ a6 ∧ a6 ≤ 99)) = 0 from c74)]; rfl)
              · unfold w_X7_work; first | rfl | (simp only [if_neg (show ¬ ((b2i (0 ≤ a1 ∧ a1 ≤ 5)) = 0) from c6), if_neg (show ¬ ((b2i (0 ≤ a2 ∧ a2 ≤ ((M.1 100 0) - 1))) = 0) from c23), if_neg (show ¬ ((b2i (0 ≤ a3 ∧ a3 ≤ ((M.1 100 1) - 1))) = 0) from c40), if_neg (show ¬ ((b2i (0 ≤ a4 ∧ a4 ≤ 9)) = 0) from c51), if_neg (show ¬ ((b2i (0 ≤ a5 ∧ a5 ≤ 999)) = 0) from c63), if_pos (show (b2i (0 ≤ a6 ∧ a6 ≤ 99)) = 0 from c74)]; done) | (simp only [if_neg (show ¬ ((b2i (0 ≤ a1 ∧ a1 ≤ 5)) = 0) from c6), if_neg (show ¬ ((b2i (0 ≤ a2 ∧ a2 ≤ ((M.1 100 0) - 1))) = 0) from c23), if_neg (show ¬ ((b2i (0 ≤ a3 ∧ a3 ≤ ((M.1 100 1) - 1))) = 0) from c40), if_neg (show ¬ ((b2i (0 ≤ a4 ∧ a4 ≤ 9)) = 0) from c51), if_neg (show ¬ ((b2i (0 ≤ a5 ∧ a5 ≤ 999)) = 0) from c63), if_pos (show (b2i (0 ≤ a6 ∧ a6 ≤ 99)) = 0 from c74)]; rfl)
            · rw [if_neg (show ¬ ((b2i (0 ≤ a6 ∧ a6 ≤ 99)) = 0) from c74)] at hp
              refine j_iconst g (n := 1) (1) (by decide +kernel) rfl ?_
              refine j_goto g (off := 4) (tgt := 82) (by decide +kernel) (by decide) ?_
              refine j_istore g (i := 7) (by decide +kernel) (by decide) ?_
              dsimp only [stL, clL, hdL]
              refine j_iload g (i := 7) (by decide +kernel) rfl ?_
              refine j_if_ne g (off := 5) (tgt := 91) (by decide +kernel) (by decide) (fun _ => ?_) (fun c => absurd (by first | decide | rfl | exact Int32.le_refl _) c)
              refine j_aload_n g (i := 0) (by decide +kernel) rfl ?_
              refine j_gA g (b := 100) f7_20 (by decide +kernel) (by decide +kernel) (by decide +kernel) (by decide +kernel) ?_
              refine j_gI g f7_84 (by decide +kernel) (by decide +kernel) (by decide +kernel) ?_
              refine j_bipush g (n := 6) (6) (by decide +kernel) (by decide +kernel) ?_
              refine j_icmp_ge g (off := 22) (tgt := 122) (by decide +kernel) (by decide) (fun c100 => ?_) (fun c100 => ?_)
              · rw [if_pos (show 6 ≤ (M.1 100 2) from c100)] at hp
                refine j_bipush g (n := -2) (-2) (by decide +kernel) (by decide +kernel) ?_
                refine hr.1 _ _ _ _ (by decide +kernel) ⟨_, rfl, by first | rfl | exact b2i_nar | rfl⟩ ?_ ?_
                · unfold r_X7_work; first | rfl | (simp only [if_neg (show ¬ ((b2i (0 ≤ a1 ∧ a1 ≤ 5)) = 0) from c6), if_neg (show ¬ ((b2i (0 ≤ a2 ∧ a2 ≤ ((M.1 100 0) - 1))) = 0) from c23), if_neg (show ¬ ((b2i (0 ≤ a3 ∧ a3 ≤ ((M.1 100 1) - 1))) = 0) from c40), if_neg (show ¬ ((b2i (0 ≤ a4 ∧ a4 ≤ 9)) = 0) from c51), if_neg (show ¬ ((b2i (0 ≤ a5 ∧ a5 ≤ 999)) = 0) from c63), if_neg (show ¬ ((b2i (0 ≤ a6 ∧ a6 ≤ 99)) = 0) from c74), if_pos (show 6 ≤ (M.1 100 2) from c100)]; done) | (simp only [if_neg (show ¬ ((b2i (0 ≤ a1 ∧ a1 ≤ 5)) = 0) from c6), if_neg (show ¬ ((b2i (0 ≤ a2 ∧ a2 ≤ ((M.1 100 0) - 1))) = 0) from c23), if_neg (show ¬ ((b2i (0 ≤ a3 ∧ a3 ≤ ((M.1 100 1) - 1))) = 0) from c40), if_neg (show ¬ ((b2i (0 ≤ a4 ∧ a4 ≤ 9)) = 0) from c51), if_neg (show ¬ ((b2i (0 ≤ a5 ∧ a5 ≤ 999)) = 0) from c63), if_neg (show ¬ ((b2i (0 ≤ a6 ∧ a6 ≤ 99)) = 0) from c74), if_pos (show 6 ≤ (M.1 100 2) from c100)]; rfl)
                · unfold w_X7_work; first | rfl | (simp only [if_neg (show ¬ ((b2i (0 ≤ a1 ∧ a1 ≤ 5)) = 0) from c6), if_neg (show ¬ ((b2i (0 ≤ a2 ∧ a2 ≤ ((M.1 100 0) - 1))) = 0) from c23), if_neg (show ¬ ((b2i (0 ≤ a3 ∧ a3 ≤ ((M.1 100 1) - 1))) = 0) from c40), if_neg (show ¬ ((b2i (0 ≤ a4 ∧ a4 ≤ 9)) = 0) from c51), if_neg (show ¬ ((b2i (0 ≤ a5 ∧ a5 ≤ 999)) = 0) from c63), if_neg (show ¬ ((b2i (0 ≤ a6 ∧ a6 ≤ 99)) = 0) from c74), if_pos (show 6 ≤ (M.1 100 2) from c100)]; done) | (simp only [if_neg (show ¬ ((b2i (0 ≤ a1 ∧ a1 ≤ 5)) = 0) from c6), if_neg (show ¬ ((b2i (0 ≤ a2 ∧ a2 ≤ ((M.1 100 0) - 1))) = 0) from c23), if_neg (show ¬ ((b2i (0 ≤ a3 ∧ a3 ≤ ((M.1 100 1) - 1))) = 0) from c40), if_neg (show ¬ ((b2i (0 ≤ a4 ∧ a4 ≤ 9)) = 0) from c51), if_neg (show ¬ ((b2i (0 ≤ a5 ∧ a5 ≤ 999)) = 0) from c63), if_neg (show ¬ ((b2i (0 ≤ a6 ∧ a6 ≤ 99)) = 0) from c74), if_pos (show 6 ≤ (M.1 100 2) from c100)]; rfl)
              · rw [if_neg (show ¬ (6 ≤ (M.1 100 2)) from c100)] at hp
                refine j_aload_n g (i := 0) (by decide +kernel) rfl ?_
                refine j_gA g (b := 100) f7_20 (by decide +kernel) (by decide +kernel) (by decide +kernel) (by decide +kernel) ?_
                refine j_iload_n g (i := 1) (by decide +kernel) rfl ?_
                refine j_iload_n g (i := 2) (by decide +kernel) rfl ?_
                refine j_iload_n g (i := 3) (by decide +kernel) rfl ?_
                refine j_iload g (i := 4) (by decide +kernel) rfl ?_
                refine j_iload g (i := 5) (by decide +kernel) rfl ?_
                refine j_iload g (i := 6) (by decide +kernel) rfl ?_
                obtain ⟨h0, hp⟩ := hp
                refine j_cV6r g v7_104 ⟨rfl, by decide⟩ (by decide +kernel) (by decide +kernel) (Nat.le_of_ble_eq_true rfl) (rnX5_addWork h0) ?_
                refine j_goto g (off := 5) (tgt := 124) (by decide +kernel) (by decide) ?_
                refine hr.1 _ _ _ _ (by decide +kernel) ⟨_, rfl, by first | rfl | exact b2i_nar | rfl⟩ ?_ ?_
                · unfold r_X7_work; first | rfl | (simp only [if_neg (show ¬ ((b2i (0 ≤ a1 ∧ a1 ≤ 5)) = 0) from c6), if_neg (show ¬ ((b2i (0 ≤ a2 ∧ a2 ≤ ((M.1 100 0) - 1))) = 0) from c23), if_neg (show ¬ ((b2i (0 ≤ a3 ∧ a3 ≤ ((M.1 100 1) - 1))) = 0) from c40), if_neg (show ¬ ((b2i (0 ≤ a4 ∧ a4 ≤ 9)) = 0) from c51), if_neg (show ¬ ((b2i (0 ≤ a5 ∧ a5 ≤ 999)) = 0) from c63), if_neg (show ¬ ((b2i (0 ≤ a6 ∧ a6 ≤ 99)) = 0) from c74), if_neg (show ¬ (6 ≤ (M.1 100 2)) from c100)]; done) | (simp only [if_neg (show ¬ ((b2i (0 ≤ a1 ∧ a1 ≤ 5)) = 0) from c6), if_neg (show ¬ ((b2i (0 ≤ a2 ∧ a2 ≤ ((M.1 100 0) - 1))) = 0) from c23), if_neg (show ¬ ((b2i (0 ≤ a3 ∧ a3 ≤ ((M.1 100 1) - 1))) = 0) from c40), if_neg (show ¬ ((b2i (0 ≤ a4 ∧ a4 ≤ 9)) = 0) from c51), if_neg (show ¬ ((b2i (0 ≤ a5 ∧ a5 ≤ 999)) = 0) from c63), if_neg (show ¬ ((b2i (0 ≤ a6 ∧ a6 ≤ 99)) = 0) from c74), if_neg (show ¬ (6 ≤ (M.1 100 2)) from c100)]; rfl)
                · unfold w_X7_work; first | rfl | (simp only [if_neg (show ¬ ((b2i (0 ≤ a1 ∧ a1 ≤ 5)) = 0) from c6), if_neg (show ¬ ((b2i (0 ≤ a2 ∧ a2 ≤ ((M.1 100 0) - 1))) = 0) from c23), if_neg (show ¬ ((b2i (0 ≤ a3 ∧ a3 ≤ ((M.1 100 1) - 1))) = 0) from c40), if_neg (show ¬ ((b2i (0 ≤ a4 ∧ a4 ≤ 9)) = 0) from c51), if_neg (show ¬ ((b2i (0 ≤ a5 ∧ a5 ≤ 999)) = 0) from c63), if_neg (show ¬ ((b2i (0 ≤ a6 ∧ a6 ≤ 99)) = 0) from c74), if_neg (show ¬ (6 ≤ (M.1 100 2)) from c100)]; done) | (simp only [if_neg (show ¬ ((b2i (0 ≤ a1 ∧ a1 ≤ 5)) = 0) from c6), if_neg (show ¬ ((b2i (0 ≤ a2 ∧ a2 ≤ ((M.1 100 0) - 1))) = 0) from c23), if_neg (show ¬ ((b2i (0 ≤ a3 ∧ a3 ≤ ((M.1 100 1) - 1))) = 0) from c40), if_neg (show ¬ ((b2i (0 ≤ a4 ∧ a4 ≤ 9)) = 0) from c51), if_neg (show ¬ ((b2i (0 ≤ a5 ∧ a5 ≤ 999)) = 0) from c63), if_neg (show ¬ ((b2i (0 ≤ a6 ∧ a6 ≤ 99)) = 0) from c74), if_neg (show ¬ (6 ≤ (M.1 100 2)) from c100)]; rfl)
def r_X7_behind (M : Mm) (a1 : Int32) (a2 : Int32) (a3 : Int32) : Int32 := if (b2i (cHas M a1)) = 0 then (-1) else if (b2i ((-1) ≤ a2 ∧ a2 ≤ (a1 - 1))) = 0 then (-1) else if ¬ (b2i (0 ≤ a3 ∧ a3 ≤ 99)) = 0 then (if (M.1 1003 (Int32.toNatClampNeg a1)) = 0 then (if (M.1 (110 + Int32.toNatClampNeg a1) 6) < 0 then -9 else (M.1 (110 + Int32.toNatClampNeg a1) 6)) else (-4)) else (-1)
def w_X7_behind (M : Mm) (a1 : Int32) (a2 : Int32) (a3 : Int32) : Mm := if (b2i (cHas M a1)) = 0 then M else if (b2i ((-1) ≤ a2 ∧ a2 ≤ (a1 - 1))) = 0 then M else if ¬ (b2i (0 ≤ a3 ∧ a3 ≤ 99)) = 0 then (if (M.1 1003 (Int32.toNatClampNeg a1)) = 0 then (wi (wi M (110 + Int32.toNatClampNeg a1) 6 a2) (110 + Int32.toNatClampNeg a1) 7 a3) else M) else M
def p_X7_behind (M : Mm) (a1 : Int32) (a2 : Int32) (a3 : Int32) : Prop := (if (b2i (cHas M a1)) = 0 then True else (if (b2i ((-1) ≤ a2 ∧ a2 ≤ (a1 - 1))) = 0 then True else (if ¬ (b2i (0 ≤ a3 ∧ a3 ≤ 99)) = 0 then (vp_in a1 6) ∧ (if (M.1 1003 (Int32.toNatClampNeg a1)) = 0 then (vp_in a1 6) ∧ True else True) else True)))
theorem rnX7_behind {d : Nat} {M : Mm} {a1 : Int32} {a2 : Int32} {a3 : Int32}  (hp : p_X7_behind M a1 a2 a3) : Rn (d + 1) mX7_behind [.ref 1, .int a1, .int a2, .int a3] M (some (.int (r_X7_behind M a1 a2 a3))) (w_X7_behind M a1 a2 a3) := by
  refine Rn.of [some (.ref 1), some (.int a1), some (.int a2), some (.int a3), none, none] (by decide +kernel) rfl (Nat.le_of_ble_eq_true rfl) rfl (fun J g hr => ?_)
  unfold p_X7_behind at hp
  refine j_aload_n g (i := 0) (by decide +kernel) rfl ?_
  refine j_gA g (b := 100) f7_20 (by decide +kernel) (by decide +kernel) (by decide +kernel) (by decide +kernel) ?_
  refine j_iload_n g (i := 1) (by decide +kernel) rfl ?_
  refine j_cV1r g v7_108 ⟨rfl, by decide⟩ (by decide +kernel) (by decide +kernel) (Nat.le_of_ble_eq_true rfl) (rnX5_hasWork) ?_
  refine j_if_eq g (off := 24) (tgt := 32) (by decide +kernel) (by decide) (fun c8 => ?_) (fun c8 => ?_)
  · rw [if_pos (show (b2i (cHas M a1)) = 0 from c8)] at hp
    refine j_iconst g (n := -1) (-1) (by decide +kernel) rfl ?_
    refine hr.1 _ _ _ _ (by decide +kernel) ⟨_, rfl, by first | rfl | exact b2i_nar | rfl⟩ ?_ ?_
    · unfold r_X7_behind; first | rfl | (simp only [if_pos (show (b2i (cHas M a1)) = 0 from c8)]; done) | (simp only [if_pos (show (b2i (cHas M a1)) = 0 from c8)]; rfl)
    · unfold w_X7_behind; first | rfl | (simp only [if_pos (show (b2i (cHas M a1)) = 0 from c8)]; done) | (simp only [if_pos (show (b2i (cHas M a1)) = 0 from c8)]; rfl)
  · rw [if_neg (show ¬ ((b2i (cHas M a1)) = 0) from c8)] at hp
    refine j_iload_n g (i := 2) (by decide +kernel) rfl ?_
    refine j_iconst g (n := -1) (-1) (by decide +kernel) rfl ?_
    refine j_iload_n g (i := 1) (by decide +kernel) rfl ?_
    refine j_iconst g (n := 1) (1) (by decide +kernel) rfl ?_
    refine j_isub g (by decide +kernel) ?_
    refine j_cS3r g s7_87 (by decide +kernel) (Nat.le_of_ble_eq_true rfl) (rnX7_isWithin) ?_
    refine j_if_eq g (off := 13) (tgt := 32) (by decide +kernel) (by decide) (fun c19 => ?_) (fun c19 => ?_)
    · rw [if_pos (show (b2i ((-1) ≤ a2 ∧ a2 ≤ (a1 - 1))) = 0 from c19)] at hp
      refine j_iconst g (n := -1) (-1) (by decide +kernel) rfl ?_
      refine hr.1 _ _ _ _ (by decide +kernel) ⟨_, rfl, by first | rfl | exact b2i_nar | rfl⟩ ?_ ?_
      · unfold r_X7_behind; first | rfl | (simp only [if_neg (show ¬ ((b2i (cHas M a1)) = 0) from c8), if_pos (show (b2i ((-1) ≤ a2 ∧ a2 ≤ (a1 - 1))) = 0 from c19)]; done) | (simp only [if_neg (show ¬ ((b2i (cHas M a1)) = 0) from c8), if_pos (show (b2i ((-1) ≤ a2 ∧ a2 ≤ (a1 - 1))) = 0 from c19)]; rfl)
      · unfold w_X7_behind; first | rfl | (simp only [if_neg (show ¬ ((b2i (cHas M a1)) = 0) from c8), if_pos (show (b2i ((-1) ≤ a2 ∧ a2 ≤ (a1 - 1))) = 0 from c19)]; done) | (simp only [if_neg (show ¬ ((b2i (cHas M a1)) = 0) from c8), if_pos (show (b2i ((-1) ≤ a2 ∧ a2 ≤ (a1 - 1))) = 0 from c19)]; rfl)
    · rw [if_neg (show ¬ ((b2i ((-1) ≤ a2 ∧ a2 ≤ (a1 - 1))) = 0) from c19)] at hp
      refine j_iload_n g (i := 3) (by decide +kernel) rfl ?_
      refine j_iconst g (n := 0) (0) (by decide +kernel) rfl ?_
      refine j_bipush g (n := 99) (99) (by decide +kernel) (by decide +kernel) ?_
      refine j_cS3r g s7_87 (by decide +kernel) (Nat.le_of_ble_eq_true rfl) (rnX7_isWithin) ?_
      refine j_if_ne g (off := 5) (tgt := 34) (by decide +kernel) (by decide) (fun c29 => ?_) (fun c29 => ?_)
      · rw [if_pos (show ¬ (b2i (0 ≤ a3 ∧ a3 ≤ 99)) = 0 from c29)] at hp
        refine j_aload_n g (i := 0) (by decide +kernel) rfl ?_
        refine j_gA g (b := 100) f7_20 (by decide +kernel) (by decide +kernel) (by decide +kernel) (by decide +kernel) ?_
        refine j_gA g (b := 1000) f7_112 (by decide +kernel) (by decide +kernel) (by decide +kernel) (by decide +kernel) ?_
        refine j_gA g (b := 1003) f7_116 (by decide +kernel) (by decide +kernel) (by decide +kernel) (by decide +kernel) ?_
        refine j_iload_n g (i := 1) (by decide +kernel) rfl ?_
        obtain ⟨h0, hp⟩ := hp
        refine j_ia g 6 (by decide +kernel) (by decide +kernel) (by decide +kernel) h0 ?_
        refine j_if_eq g (off := 6) (tgt := 52) (by decide +kernel) (by decide) (fun c46 => ?_) (fun c46 => ?_)
        · rw [if_pos (show (M.1 1003 (Int32.toNatClampNeg a1)) = 0 from c46)] at hp
          refine j_aload_n g (i := 0) (by decide +kernel) rfl ?_
          refine j_gA g (b := 100) f7_20 (by decide +kernel) (by decide +kernel) (by decide +kernel) (by decide +kernel) ?_
          refine j_gA g (b := 103) f7_121 (by decide +kernel) (by decide +kernel) (by decide +kernel) (by decide +kernel) ?_
          refine j_iload_n g (i := 1) (by decide +kernel) rfl ?_
          obtain ⟨h0, hp⟩ := hp
          refine j_aW g 6 (by decide +kernel) (by decide +kernel) (by decide +kernel) h0 (rfW103 h0) ?_
          have hw60 := h0
          refine j_astore g (i := 4) (by decide +kernel) (by decide) ?_
          dsimp only [stL, clL, hdL]
          refine j_aload g (i := 4) (by decide +kernel) rfl ?_
          refine j_gI g f7_125 (by decide +kernel) (by decide +kernel) (gkW103 hw60) ?_
          refine j_istore g (i := 5) (by decide +kernel) (by decide) ?_
          dsimp only [stL, clL, hdL]
          refine j_aload g (i := 4) (by decide +kernel) rfl ?_
          refine j_iload_n g (i := 2) (by decide +kernel) rfl ?_
          refine j_pI g f7_125 (fun q h => by cases h; rfl) (by decide +kernel) (by decide +kernel) (gkW103 hw60) ?_
          refine j_aload g (i := 4) (by decide +kernel) rfl ?_
          refine j_iload_n g (i := 3) (by decide +kernel) rfl ?_
          refine j_pI g f7_130 (fun q h => by cases h; rfl) (by decide +kernel) (by decide +kernel) (gkW103 hw60) ?_
          refine j_iload g (i := 5) (by decide +kernel) rfl ?_
          refine j_cS1r g s7_133 (by decide +kernel) (Nat.le_of_ble_eq_true rfl) (rnX7_orNone) ?_
          refine hr.1 _ _ _ _ (by decide +kernel) ⟨_, rfl, by first | rfl | exact b2i_nar | rfl⟩ ?_ ?_
          · unfold r_X7_behind; first | rfl | (simp only [if_neg (show ¬ ((b2i (cHas M a1)) = 0) from c8), if_neg (show ¬ ((b2i ((-1) ≤ a2 ∧ a2 ≤ (a1 - 1))) = 0) from c19), if_pos (show ¬ (b2i (0 ≤ a3 ∧ a3 ≤ 99)) = 0 from c29), if_pos (show (M.1 1003 (Int32.toNatClampNeg a1)) = 0 from c46)]; done) | (simp only [if_neg (show ¬ ((b2i (cHas M a1)) = 0) from c8), if_neg (show ¬ ((b2i ((-1) ≤ a2 ∧ a2 ≤ (a1 - 1))) = 0) from c19), if_pos (show ¬ (b2i (0 ≤ a3 ∧ a3 ≤ 99)) = 0 from c29), if_pos (show (M.1 1003 (Int32.toNatClampNeg a1)) = 0 from c46)]; rfl)
          · unfold w_X7_behind; first | rfl | (simp only [if_neg (show ¬ ((b2i (cHas M a1)) = 0) from c8), if_neg (show ¬ ((b2i ((-1) ≤ a2 ∧ a2 ≤ (a1 - 1))) = 0) from c19), if_pos (show ¬ (b2i (0 ≤ a3 ∧ a3 ≤ 99)) = 0 from c29), if_pos (show (M.1 1003 (Int32.toNatClampNeg a1)) = 0 from c46)]; done) | (simp only [if_neg (show ¬ ((b2i (cHas M a1)) = 0) from c8), if_neg (show ¬ ((b2i ((-1) ≤ a2 ∧ a2 ≤ (a1 - 1))) = 0) from c19), if_pos (show ¬ (b2i (0 ≤ a3 ∧ a3 ≤ 99)) = 0 from c29), if_pos (show (M.1 1003 (Int32.toNatClampNeg a1)) = 0 from c46)]; rfl)
        · rw [if_neg (show ¬ ((M.1 1003 (Int32.toNatClampNeg a1)) = 0) from c46)] at hp
          refine j_bipush g (n := -4) (-4) (by decide +kernel) (by decide +kernel) ?_
          refine hr.1 _ _ _ _ (by decide +kernel) ⟨_, rfl, by first | rfl | exact b2i_nar | rfl⟩ ?_ ?_
          · unfold r_X7_behind; first | rfl | (simp only [if_neg (show ¬ ((b2i (cHas M a1)) = 0) from c8), if_neg (show ¬ ((b2i ((-1) ≤ a2 ∧ a2 ≤ (a1 - 1))) = 0) from c19), if_pos (show ¬ (b2i (0 ≤ a3 ∧ a3 ≤ 99)) = 0 from c29), if_neg (show ¬ ((M.1 1003 (Int32.toNatClampNeg a1)) = 0) from c46)]; done) | (simp only [if_neg (show ¬ ((b2i (cHas M a1)) = 0) from c8), if_neg (show ¬ ((b2i ((-1) ≤ a2 ∧ a2 ≤ (a1 - 1))) = 0) from c19), if_pos (show ¬ (b2i (0 ≤ a3 ∧ a3 ≤ 99)) = 0 from c29), if_neg (show ¬ ((M.1 1003 (Int32.toNatClampNeg a1)) = 0) from c46)]; rfl)
          · unfold w_X7_behind; first | rfl | (simp only [if_neg (show ¬ ((b2i (cHas M a1)) = 0) from c8), if_neg (show ¬ ((b2i ((-1) ≤ a2 ∧ a2 ≤ (a1 - 1))) = 0) from c19), if_pos (show ¬ (b2i (0 ≤ a3 ∧ a3 ≤ 99)) = 0 from c29), if_neg (show ¬ ((M.1 1003 (Int32.toNatClampNeg a1)) = 0) from c46)]; done) | (simp only [if_neg (show ¬ ((b2i (cHas M a1)) = 0) from c8), if_neg (show ¬ ((b2i ((-1) ≤ a2 ∧ a2 ≤ (a1 - 1))) = 0) from c19), if_pos (show ¬ (b2i (0 ≤ a3 ∧ a3 ≤ 99)) = 0 from c29), if_neg (show ¬ ((M.1 1003 (Int32.toNatClampNeg a1)) = 0) from c46)]; rfl)
      · rw [if_neg (show ¬ (¬ (b2i (0 ≤ a3 ∧ a3 ≤ 99)) = 0) from c29)] at hp
        refine j_iconst g (n := -1) (-1) (by decide +kernel) rfl ?_
        refine hr.1 _ _ _ _ (by decide +kernel) ⟨_, rfl, by first | rfl | exact b2i_nar | rfl⟩ ?_ ?_
        · unfold r_X7_behind; first | rfl | (simp only [if_neg (show ¬ ((b2i (cHas M a1)) = 0) from c8), if_neg (show ¬ ((b2i ((-1) ≤ a2 ∧ a2 ≤ (a1 - 1))) = 0) from c19), if_neg (show ¬ (¬ (b2i (0 ≤ a3 ∧ a3 ≤ 99)) = 0) from c29)]; done) | (simp only [if_neg (show ¬ ((b2i (cHas M a1)) = 0) from c8), if_neg (show ¬ ((b2i ((-1) ≤ a2 ∧ a2 ≤ (a1 - 1))) = 0) from c19), if_neg (show ¬ (¬ (b2i (0 ≤ a3 ∧ a3 ≤ 99)) = 0) from c29)]; rfl)
        · unfold w_X7_behind; first | rfl | (simp only [if_neg (show ¬ ((b2i (cHas M a1)) = 0) from c8), if_neg (show ¬ ((b2i ((-1) ≤ a2 ∧ a2 ≤ (a1 - 1))) = 0) from c19), if_neg (show ¬ (¬ (b2i (0 ≤ a3 ∧ a3 ≤ 99)) = 0) from c29)]; done) | (simp only [if_neg (show ¬ ((b2i (cHas M a1)) = 0) from c8), if_neg (show ¬ ((b2i ((-1) ≤ a2 ∧ a2 ≤ (a1 - 1))) = 0) from c19), if_neg (show ¬ (¬ (b2i (0 ≤ a3 ∧ a3 ≤ 99)) = 0) from c29)]; rfl)
def r_X7_workOf (M : Mm) (a1 : Int32) (a2 : Int32) : Int32 := if ¬ (b2i (cHas M a1)) = 0 then (if a2 = 0 then M.1 (110 + Int32.toNatClampNeg a1) 0 else if a2 = 1 then M.1 (110 + Int32.toNatClampNeg a1) 1 else if a2 = 2 then M.1 (110 + Int32.toNatClampNeg a1) 2 else if a2 = 3 then M.1 (110 + Int32.toNatClampNeg a1) 3 else if a2 = 4 then M.1 (110 + Int32.toNatClampNeg a1) 4 else if a2 = 5 then M.1 (110 + Int32.toNatClampNeg a1) 5 else if a2 = 6 then (if (M.1 (110 + Int32.toNatClampNeg a1) 6) < 0 then -9 else (M.1 (110 + Int32.toNatClampNeg a1) 6)) else if a2 = 7 then M.1 (110 + Int32.toNatClampNeg a1) 7 else if a2 = 8 then M.1 1003 (Int32.toNatClampNeg a1) else if a2 = 9 then (if ¬ (M.1 1003 (Int32.toNatClampNeg a1)) = 1 then (-9) else M.1 1004 (Int32.toNatClampNeg a1)) else (-1)) else (-1)
def w_X7_workOf (M : Mm) (a1 : Int32) (a2 : Int32) : Mm := if ¬ (b2i (cHas M a1)) = 0 then (if a2 = 0 then M else if a2 = 1 then M else if a2 = 2 then M else if a2 = 3 then M else if a2 = 4 then M else if a2 = 5 then M else if a2 = 6 then M else if a2 = 7 then M else if a2 = 8 then M else if a2 = 9 then M else M) else M
def p_X7_workOf (M : Mm) (a1 : Int32) (a2 : Int32) : Prop := (if ¬ (b2i (cHas M a1)) = 0 then (vp_in a1 6) ∧ (if a2 = 0 then True else if a2 = 1 then True else if a2 = 2 then True else if a2 = 3 then True else if a2 = 4 then True else if a2 = 5 then True else if a2 = 6 then True else if a2 = 7 then True else if a2 = 8 then (vp_in a1 6) ∧ True else if a2 = 9 then (vp_in a1 6) ∧ (if ¬ (M.1 1003 (Int32.toNatClampNeg a1)) = 1 then True else (vp_in a1 6) ∧ True) else True) else True)
theorem rnX7_workOf {d : Nat} {M : Mm} {a1 : Int32} {a2 : Int32}  (hp : p_X7_workOf M a1 a2) : Rn (d + 1) mX7_workOf [.ref 1, .int a1, .int a2] M (some (.int (r_X7_workOf M a1 a2))) (w_X7_workOf M a1 a2) := by
  refine Rn.of [some (.ref 1), some (.int a1), some (.int a2), none] (by decide +kernel) rfl (Nat.le_of_ble_eq_true rfl) rfl (fun J g hr => ?_)
  unfold p_X7_workOf at hp
  refine j_aload_n g (i := 0) (by decide +kernel) rfl ?_
  refine j_gA g (b := 100) f7_20 (by decide +kernel) (by decide +kernel) (by decide +kernel) (by decide +kernel) ?_
  refine j_iload_n g (i := 1) (by decide +kernel) rfl ?_
  refine j_cV1r g v7_108 ⟨rfl, by decide⟩ (by decide +kernel) (by decide +kernel) (Nat.le_of_ble_eq_true rfl) (rnX5_hasWork) ?_
  refine j_if_ne g (off := 5) (tgt := 13) (by decide +kernel) (by decide) (fun c8 => ?_) (fun c8 => ?_)
  · rw [if_pos (show ¬ (b2i (cHas M a1)) = 0 from c8)] at hp
    refine j_aload_n g (i := 0) (by decide +kernel) rfl ?_
    refine j_gA g (b := 100) f7_20 (by decide +kernel) (by decide +kernel) (by decide +kernel) (by decide +kernel) ?_
    refine j_gA g (b := 103) f7_121 (by decide +kernel) (by decide +kernel) (by decide +kernel) (by decide +kernel) ?_
    refine j_iload_n g (i := 1) (by decide +kernel) rfl ?_
    obtain ⟨h0, hp⟩ := hp
    refine j_aW g 6 (by decide +kernel) (by decide +kernel) (by decide +kernel) h0 (rfW103 h0) ?_
    have hw21 := h0
    refine j_astore_n g (i := 3) (by decide +kernel) (by decide) ?_
    dsimp only [stL, clL, hdL]
    refine j_iload_n g (i := 2) (by decide +kernel) rfl ?_
    have dsw24 : decode cX7_workOf 24 = .ok (.tableswitch 146 0 9 #[56, 61, 66, 71, 76, 81, 86, 94, 99, 112], 56) := by decide +kernel
    by_cases e24_0 : a2 = 0
    · refine j_tableIn g (off := 56) (tgt := 80) dsw24 (by rw [e24_0]; decide) (by rw [e24_0]; decide) (by rw [e24_0]; decide) (by decide) ?_
      rw [if_pos e24_0] at hp
      refine j_aload_n g (i := 3) (by decide +kernel) rfl ?_
      refine j_gI g f7_137 (by decide +kernel) (by decide +kernel) (gkW103 hw21) ?_
      refine hr.1 _ _ _ _ (by decide +kernel) ⟨_, rfl, by first | rfl | exact b2i_nar | rfl⟩ ?_ ?_
      · unfold r_X7_workOf; first | rfl | (simp only [if_pos (show ¬ (b2i (cHas M a1)) = 0 from c8), if_pos e24_0]; done) | (simp only [if_pos (show ¬ (b2i (cHas M a1)) = 0 from c8), if_pos e24_0]; rfl)
      · unfold w_X7_workOf; first | rfl | (simp only [if_pos (show ¬ (b2i (cHas M a1)) = 0 from c8), if_pos e24_0]; done) | (simp only [if_pos (show ¬ (b2i (cHas M a1)) = 0 from c8), if_pos e24_0]; rfl)
    by_cases e24_1 : a2 = 1
    · refine j_tableIn g (off := 61) (tgt := 85) dsw24 (by rw [e24_1]; decide) (by rw [e24_1]; decide) (by rw [e24_1]; decide) (by decide) ?_
      rw [if_neg e24_0, if_pos e24_1] at hp
      refine j_aload_n g (i := 3) (by decide +kernel) rfl ?_
      refine j_gI g f7_140 (by decide +kernel) (by decide +kernel) (gkW103 hw21) ?_
      refine hr.1 _ _ _ _ (by decide +kernel) ⟨_, rfl, by first | rfl | exact b2i_nar | rfl⟩ ?_ ?_
      · unfold r_X7_workOf; first | rfl | (simp only [if_pos (show ¬ (b2i (cHas M a1)) = 0 from c8), if_neg e24_0, if_pos e24_1]; done) | (simp only [if_pos (show ¬ (b2i (cHas M a1)) = 0 from c8), if_neg e24_0, if_pos e24_1]; rfl)
      · unfold w_X7_workOf; first | rfl | (simp only [if_pos (show ¬ (b2i (cHas M a1)) = 0 from c8), if_neg e24_0, if_pos e24_1]; done) | (simp only [if_pos (show ¬ (b2i (cHas M a1)) = 0 from c8), if_neg e24_0, if_pos e24_1]; rfl)
    by_cases e24_2 : a2 = 2
    · refine j_tableIn g (off := 66) (tgt := 90) dsw24 (by rw [e24_2]; decide) (by rw [e24_2]; decide) (by rw [e24_2]; decide) (by decide) ?_
      rw [if_neg e24_0, if_neg e24_1, if_pos e24_2] at hp
      refine j_aload_n g (i := 3) (by decide +kernel) rfl ?_
      refine j_gI g f7_143 (by decide +kernel) (by decide +kernel) (gkW103 hw21) ?_
      refine hr.1 _ _ _ _ (by decide +kernel) ⟨_, rfl, by first | rfl | exact b2i_nar | rfl⟩ ?_ ?_
      · unfold r_X7_workOf; first | rfl | (simp only [if_pos (show ¬ (b2i (cHas M a1)) = 0 from c8), if_neg e24_0, if_neg e24_1, if_pos e24_2]; done) | (simp only [if_pos (show ¬ (b2i (cHas M a1)) = 0 from c8), if_neg e24_0, if_neg e24_1, if_pos e24_2]; rfl)
      · unfold w_X7_workOf; first | rfl | (simp only [if_pos (show ¬ (b2i (cHas M a1)) = 0 from c8), if_neg e24_0, if_neg e24_1, if_pos e24_2]; done) | (simp only [if_pos (show ¬ (b2i (cHas M a1)) = 0 from c8), if_neg e24_0, if_neg e24_1, if_pos e24_2]; rfl)
    by_cases e24_3 : a2 = 3
    · refine j_tableIn g (off := 71) (tgt := 95) dsw24 (by rw [e24_3]; decide) (by rw [e24_3]; decide) (by rw [e24_3]; decide) (by decide) ?_
      rw [if_neg e24_0, if_neg e24_1, if_neg e24_2, if_pos e24_3] at hp
      refine j_aload_n g (i := 3) (by decide +kernel) rfl ?_
      refine j_gI g f7_146 (by decide +kernel) (by decide +kernel) (gkW103 hw21) ?_
      refine hr.1 _ _ _ _ (by decide +kernel) ⟨_, rfl, by first | rfl | exact b2i_nar | rfl⟩ ?_ ?_
      · unfold r_X7_workOf; first | rfl | (simp only [if_pos (show ¬ (b2i (cHas M a1)) = 0 from c8), if_neg e24_0, if_neg e24_1, if_neg e24_2, if_pos e24_3]; done) | (simp only [if_pos (show ¬ (b2i (cHas M a1)) = 0 from c8), if_neg e24_0, if_neg e24_1, if_neg e24_2, if_pos e24_3]; rfl)
      · unfold w_X7_workOf; first | rfl | (simp only [if_pos (show ¬ (b2i (cHas M a1)) = 0 from c8), if_neg e24_0, if_neg e24_1, if_neg e24_2, if_pos e24_3]; done) | (simp only [if_pos (show ¬ (b2i (cHas M a1)) = 0 from c8), if_neg e24_0, if_neg e24_1, if_neg e24_2, if_pos e24_3]; rfl)
    by_cases e24_4 : a2 = 4
    · refine j_tableIn g (off := 76) (tgt := 100) dsw24 (by rw [e24_4]; decide) (by rw [e24_4]; decide) (by rw [e24_4]; decide) (by decide) ?_
      rw [if_neg e24_0, if_neg e24_1, if_neg e24_2, if_neg e24_3, if_pos e24_4] at hp
      refine j_aload_n g (i := 3) (by decide +kernel) rfl ?_
      refine j_gI g f7_149 (by decide +kernel) (by decide +kernel) (gkW103 hw21) ?_
      refine hr.1 _ _ _ _ (by decide +kernel) ⟨_, rfl, by first | rfl | exact b2i_nar | rfl⟩ ?_ ?_
      · unfold r_X7_workOf; first | rfl | (simp only [if_pos (show ¬ (b2i (cHas M a1)) = 0 from c8), if_neg e24_0, if_neg e24_1, if_neg e24_2, if_neg e24_3, if_pos e24_4]; done) | (simp only [if_pos (show ¬ (b2i (cHas M a1)) = 0 from c8), if_neg e24_0, if_neg e24_1, if_neg e24_2, if_neg e24_3, if_pos e24_4]; rfl)
      · unfold w_X7_workOf; first | rfl | (simp only [if_pos (show ¬ (b2i (cHas M a1)) = 0 from c8), if_neg e24_0, if_neg e24_1, if_neg e24_2, if_neg e24_3, if_pos e24_4]; done) | (simp only [if_pos (show ¬ (b2i (cHas M a1)) = 0 from c8), if_neg e24_0, if_neg e24_1, if_neg e24_2, if_neg e24_3, if_pos e24_4]; rfl)
    by_cases e24_5 : a2 = 5
    · refine j_tableIn g (off := 81) (tgt := 105) dsw24 (by rw [e24_5]; decide) (by rw [e24_5]; decide) (by rw [e24_5]; decide) (by decide) ?_
      rw [if_neg e24_0, if_neg e24_1, if_neg e24_2, if_neg e24_3, if_neg e24_4, if_pos e24_5] at hp
      refine j_aload_n g (i := 3) (by decide +kernel) rfl ?_
      refine j_gI g f7_152 (by decide +kernel) (by decide +kernel) (gkW103 hw21) ?_
      refine hr.1 _ _ _ _ (by decide +kernel) ⟨_, rfl, by first | rfl | exact b2i_nar | rfl⟩ ?_ ?_
      · unfold r_X7_workOf; first | rfl | (simp only [if_pos (show ¬ (b2i (cHas M a1)) = 0 from c8), if_neg e24_0, if_neg e24_1, if_neg e24_2, if_neg e24_3, if_neg e24_4, if_pos e24_5]; done) | (simp only [if_pos (show ¬ (b2i (cHas M a1)) = 0 from c8), if_neg e24_0, if_neg e24_1, if_neg e24_2, if_neg e24_3, if_neg e24_4, if_pos e24_5]; rfl)
      · unfold w_X7_workOf; first | rfl | (simp only [if_pos (show ¬ (b2i (cHas M a1)) = 0 from c8), if_neg e24_0, if_neg e24_1, if_neg e24_2, if_neg e24_3, if_neg e24_4, if_pos e24_5]; done) | (simp only [if_pos (show ¬ (b2i (cHas M a1)) = 0 from c8), if_neg e24_0, if_neg e24_1, if_neg e24_2, if_neg e24_3, if_neg e24_4, if_pos e24_5]; rfl)
    by_cases e24_6 : a2 = 6
    · refine j_tableIn g (off := 86) (tgt := 110) dsw24 (by rw [e24_6]; decide) (by rw [e24_6]; decide) (by rw [e24_6]; decide) (by decide) ?_
      rw [if_neg e24_0, if_neg e24_1, if_neg e24_2, if_neg e24_3, if_neg e24_4, if_neg e24_5, if_pos e24_6] at hp
      refine j_aload_n g (i := 3) (by decide +kernel) rfl ?_
      refine j_gI g f7_125 (by decide +kernel) (by decide +kernel) (gkW103 hw21) ?_
      refine j_cS1r g s7_133 (by decide +kernel) (Nat.le_of_ble_eq_true rfl) (rnX7_orNone) ?_
      refine hr.1 _ _ _ _ (by decide +kernel) ⟨_, rfl, by first | rfl | exact b2i_nar | rfl⟩ ?_ ?_
      · unfold r_X7_workOf; first | rfl | (simp only [if_pos (show ¬ (b2i (cHas M a1)) = 0 from c8), if_neg e24_0, if_neg e24_1, if_neg e24_2, if_neg e24_3, if_neg e24_4, if_neg e24_5, if_pos e24_6]; done) | (simp only [if_pos (show ¬ (b2i (cHas M a1)) = 0 from c8), if_neg e24_0, if_neg e24_1, if_neg e24_2, if_neg e24_3, if_neg e24_4, if_neg e24_5, if_pos e24_6]; rfl)
      · unfold w_X7_workOf; first | rfl | (simp only [if_pos (show ¬ (b2i (cHas M a1)) = 0 from c8), if_neg e24_0, if_neg e24_1, if_neg e24_2, if_neg e24_3, if_neg e24_4, if_neg e24_5, if_pos e24_6]; done) | (simp only [if_pos (show ¬ (b2i (cHas M a1)) = 0 from c8), if_neg e24_0, if_neg e24_1, if_neg e24_2, if_neg e24_3, if_neg e24_4, if_neg e24_5, if_pos e24_6]; rfl)
    by_cases e24_7 : a2 = 7
    · refine j_tableIn g (off := 94) (tgt := 118) dsw24 (by rw [e24_7]; decide) (by rw [e24_7]; decide) (by rw [e24_7]; decide) (by decide) ?_
      rw [if_neg e24_0, if_neg e24_1, if_neg e24_2, if_neg e24_3, if_neg e24_4, if_neg e24_5, if_neg e24_6, if_pos e24_7] at hp
      refine j_aload_n g (i := 3) (by decide +kernel) rfl ?_
      refine j_gI g f7_130 (by decide +kernel) (by decide +kernel) (gkW103 hw21) ?_
      refine hr.1 _ _ _ _ (by decide +kernel) ⟨_, rfl, by first | rfl | exact b2i_nar | rfl⟩ ?_ ?_
      · unfold r_X7_workOf; first | rfl | (simp only [if_pos (show ¬ (b2i (cHas M a1)) = 0 from c8), if_neg e24_0, if_neg e24_1, if_neg e24_2, if_neg e24_3, if_neg e24_4, if_neg e24_5, if_neg e24_6, if_pos e24_7]; done) | (simp only [if_pos (show ¬ (b2i (cHas M a1)) = 0 from c8), if_neg e24_0, if_neg e24_1, if_neg e24_2, if_neg e24_3, if_neg e24_4, if_neg e24_5, if_neg e24_6, if_pos e24_7]; rfl)
      · unfold w_X7_workOf; first | rfl | (simp only [if_pos (show ¬ (b2i (cHas M a1)) = 0 from c8), if_neg e24_0, if_neg e24_1, if_neg e24_2, if_neg e24_3, if_neg e24_4, if_neg e24_5, if_neg e24_6, if_pos e24_7]; done) | (simp only [if_pos (show ¬ (b2i (cHas M a1)) = 0 from c8), if_neg e24_0, if_neg e24_1, if_neg e24_2, if_neg e24_3, if_neg e24_4, if_neg e24_5, if_neg e24_6, if_pos e24_7]; rfl)
    by_cases e24_8 : a2 = 8
    · refine j_tableIn g (off := 99) (tgt := 123) dsw24 (by rw [e24_8]; decide) (by rw [e24_8]; decide) (by rw [e24_8]; decide) (by decide) ?_
      rw [if_neg e24_0, if_neg e24_1, if_neg e24_2, if_neg e24_3, if_neg e24_4, if_neg e24_5, if_neg e24_6, if_neg e24_7, if_pos e24_8] at hp
      refine j_aload_n g (i := 0) (by decide +kernel) rfl ?_
      refine j_gA g (b := 100) f7_20 (by decide +kernel) (by decide +kernel) (by decide +kernel) (by decide +kernel) ?_
      refine j_gA g (b := 1000) f7_112 (by decide +kernel) (by decide +kernel) (by decide +kernel) (by decide +kernel) ?_
      refine j_gA g (b := 1003) f7_116 (by decide +kernel) (by decide +kernel) (by decide +kernel) (by decide +kernel) ?_
      refine j_iload_n g (i := 1) (by decide +kernel) rfl ?_
      obtain ⟨h0, hp⟩ := hp
      refine j_ia g 6 (by decide +kernel) (by decide +kernel) (by decide +kernel) h0 ?_
      refine hr.1 _ _ _ _ (by decide +kernel) ⟨_, rfl, by first | rfl | exact b2i_nar | rfl⟩ ?_ ?_
      · unfold r_X7_workOf; first | rfl | (simp only [if_pos (show ¬ (b2i (cHas M a1)) = 0 from c8), if_neg e24_0, if_neg e24_1, if_neg e24_2, if_neg e24_3, if_neg e24_4, if_neg e24_5, if_neg e24_6, if_neg e24_7, if_pos e24_8]; done) | (simp only [if_pos (show ¬ (b2i (cHas M a1)) = 0 from c8), if_neg e24_0, if_neg e24_1, if_neg e24_2, if_neg e24_3, if_neg e24_4, if_neg e24_5, if_neg e24_6, if_neg e24_7, if_pos e24_8]; rfl)
      · unfold w_X7_workOf; first | rfl | (simp only [if_pos (show ¬ (b2i (cHas M a1)) = 0 from c8), if_neg e24_0, if_neg e24_1, if_neg e24_2, if_neg e24_3, if_neg e24_4, if_neg e24_5, if_neg e24_6, if_neg e24_7, if_pos e24_8]; done) | (simp only [if_pos (show ¬ (b2i (cHas M a1)) = 0 from c8), if_neg e24_0, if_neg e24_1, if_neg e24_2, if_neg e24_3, if_neg e24_4, if_neg e24_5, if_neg e24_6, if_neg e24_7, if_pos e24_8]; rfl)
    by_cases e24_9 : a2 = 9
    · refine j_tableIn g (off := 112) (tgt := 136) dsw24 (by rw [e24_9]; decide) (by rw [e24_9]; decide) (by rw [e24_9]; decide) (by decide) ?_
      rw [if_neg e24_0, if_neg e24_1, if_neg e24_2, if_neg e24_3, if_neg e24_4, if_neg e24_5, if_neg e24_6, if_neg e24_7, if_neg e24_8, if_pos e24_9] at hp
      refine j_aload_n g (i := 0) (by decide +kernel) rfl ?_
      refine j_gA g (b := 100) f7_20 (by decide +kernel) (by decide +kernel) (by decide +kernel) (by decide +kernel) ?_
      refine j_gA g (b := 1000) f7_112 (by decide +kernel) (by decide +kernel) (by decide +kernel) (by decide +kernel) ?_
      refine j_gA g (b := 1003) f7_116 (by decide +kernel) (by decide +kernel) (by decide +kernel) (by decide +kernel) ?_
      refine j_iload_n g (i := 1) (by decide +kernel) rfl ?_
      obtain ⟨h0, hp⟩ := hp
      refine j_ia g 6 (by decide +kernel) (by decide +kernel) (by decide +kernel) h0 ?_
      refine j_iconst g (n := 1) (1) (by decide +kernel) rfl ?_
      refine j_icmp_ne g (off := 18) (tgt := 167) (by decide +kernel) (by decide) (fun c149 => ?_) (fun c149 => ?_)
      · rw [if_pos (show ¬ (M.1 1003 (Int32.toNatClampNeg a1)) = 1 from c149)] at hp
        refine j_bipush g (n := -9) (-9) (by decide +kernel) (by decide +kernel) ?_
        refine hr.1 _ _ _ _ (by decide +kernel) ⟨_, rfl, by first | rfl | exact b2i_nar | rfl⟩ ?_ ?_
        · unfold r_X7_workOf; first | rfl | (simp only [if_pos (show ¬ (b2i (cHas M a1)) = 0 from c8), if_neg e24_0, if_neg e24_1, if_neg e24_2, if_neg e24_3, if_neg e24_4, if_neg e24_5, if_neg e24_6, if_neg e24_7, if_neg e24_8, if_pos e24_9, if_pos (show ¬ (M.1 1003 (Int32.toNatClampNeg a1)) = 1 from c149)]; done) | (simp only [if_pos (show ¬ (b2i (cHas M a1)) = 0 from c8), if_neg e24_0, if_neg e24_1, if_neg e24_2, if_neg e24_3, if_neg e24_4, if_neg e24_5, if_neg e24_6, if_neg e24_7, if_neg e24_8, if_pos e24_9, if_pos (show ¬ (M.1 1003 (Int32.toNatClampNeg a1)) = 1 from c149)]; rfl)
        · unfold w_X7_workOf; first | rfl | (simp only [if_pos (show ¬ (b2i (cHas M a1)) = 0 from c8), if_neg e24_0, if_neg e24_1, if_neg e24_2, if_neg e24_3, if_neg e24_4, if_neg e24_5, if_neg e24_6, if_neg e24_7, if_neg e24_8, if_pos e24_9, if_pos (show ¬ (M.1 1003 (Int32.toNatClampNeg a1)) = 1 from c149)]; done) | (simp only [if_pos (show ¬ (b2i (cHas M a1)) = 0 from c8), if_neg e24_0, if_neg e24_1, if_neg e24_2, if_neg e24_3, if_neg e24_4, if_neg e24_5, if_neg e24_6, if_neg e24_7, if_neg e24_8, if_pos e24_9, if_pos (show ¬ (M.1 1003 (Int32.toNatClampNeg a1)) = 1 from c149)]; rfl)
      · rw [if_neg (show ¬ (¬ (M.1 1003 (Int32.toNatClampNeg a1)) = 1) from c149)] at hp
        refine j_aload_n g (i := 0) (by decide +kernel) rfl ?_
        refine j_gA g (b := 100) f7_20 (by decide +kernel) (by decide +kernel) (by decide +kernel) (by decide +kernel) ?_
        refine j_gA g (b := 1000) f7_112 (by decide +kernel) (by decide +kernel) (by decide +kernel) (by decide +kernel) ?_
        refine j_gA g (b := 1004) f7_155 (by decide +kernel) (by decide +kernel) (by decide +kernel) (by decide +kernel) ?_
        refine j_iload_n g (i := 1) (by decide +kernel) rfl ?_
        obtain ⟨h0, hp⟩ := hp
        refine j_ia g 6 (by decide +kernel) (by decide +kernel) (by decide +kernel) h0 ?_
        refine j_goto g (off := 5) (tgt := 169) (by decide +kernel) (by decide) ?_
        refine hr.1 _ _ _ _ (by decide +kernel) ⟨_, rfl, by first | rfl | exact b2i_nar | rfl⟩ ?_ ?_
        · unfold r_X7_workOf; first | rfl | (simp only [if_pos (show ¬ (b2i (cHas M a1)) = 0 from c8), if_neg e24_0, if_neg e24_1, if_neg e24_2, if_neg e24_3, if_neg e24_4, if_neg e24_5, if_neg e24_6, if_neg e24_7, if_neg e24_8, if_pos e24_9, if_neg (show ¬ (¬ (M.1 1003 (Int32.toNatClampNeg a1)) = 1) from c149)]; done) | (simp only [if_pos (show ¬ (b2i (cHas M a1)) = 0 from c8), if_neg e24_0, if_neg e24_1, if_neg e24_2, if_neg e24_3, if_neg e24_4, if_neg e24_5, if_neg e24_6, if_neg e24_7, if_neg e24_8, if_pos e24_9, if_neg (show ¬ (¬ (M.1 1003 (Int32.toNatClampNeg a1)) = 1) from c149)]; rfl)
        · unfold w_X7_workOf; first | rfl | (simp only [if_pos (show ¬ (b2i (cHas M a1)) = 0 from c8), if_neg e24_0, if_neg e24_1, if_neg e24_2, if_neg e24_3, if_neg e24_4, if_neg e24_5, if_neg e24_6, if_neg e24_7, if_neg e24_8, if_pos e24_9, if_neg (show ¬ (¬ (M.1 1003 (Int32.toNatClampNeg a1)) = 1) from c149)]; done) | (simp only [if_pos (show ¬ (b2i (cHas M a1)) = 0 from c8), if_neg e24_0, if_neg e24_1, if_neg e24_2, if_neg e24_3, if_neg e24_4, if_neg e24_5, if_neg e24_6, if_neg e24_7, if_neg e24_8, if_pos e24_9, if_neg (show ¬ (¬ (M.1 1003 (Int32.toNatClampNeg a1)) = 1) from c149)]; rfl)
    rw [if_neg e24_0, if_neg e24_1, if_neg e24_2, if_neg e24_3, if_neg e24_4, if_neg e24_5, if_neg e24_6, if_neg e24_7, if_neg e24_8, if_neg e24_9] at hp
    refine j_tableOut g (tgt := 170) dsw24 (by simp only [← Int32.toInt_inj, Int32.reduceToInt, im1, im2, im3] at e24_0 e24_1 e24_2 e24_3 e24_4 e24_5 e24_6 e24_7 e24_8 e24_9; omega) (by decide) ?_
    refine j_iconst g (n := -1) (-1) (by decide +kernel) rfl ?_
    refine hr.1 _ _ _ _ (by decide +kernel) ⟨_, rfl, by first | rfl | exact b2i_nar | rfl⟩ ?_ ?_
    · unfold r_X7_workOf; first | rfl | (simp only [if_pos (show ¬ (b2i (cHas M a1)) = 0 from c8), if_neg e24_0, if_neg e24_1, if_neg e24_2, if_neg e24_3, if_neg e24_4, if_neg e24_5, if_neg e24_6, if_neg e24_7, if_neg e24_8, if_neg e24_9]; done) | (simp only [if_pos (show ¬ (b2i (cHas M a1)) = 0 from c8), if_neg e24_0, if_neg e24_1, if_neg e24_2, if_neg e24_3, if_neg e24_4, if_neg e24_5, if_neg e24_6, if_neg e24_7, if_neg e24_8, if_neg e24_9]; rfl)
    · unfold w_X7_workOf; first | rfl | (simp only [if_pos (show ¬ (b2i (cHas M a1)) = 0 from c8), if_neg e24_0, if_neg e24_1, if_neg e24_2, if_neg e24_3, if_neg e24_4, if_neg e24_5, if_neg e24_6, if_neg e24_7, if_neg e24_8, if_neg e24_9]; done) | (simp only [if_pos (show ¬ (b2i (cHas M a1)) = 0 from c8), if_neg e24_0, if_neg e24_1, if_neg e24_2, if_neg e24_3, if_neg e24_4, if_neg e24_5, if_neg e24_6, if_neg e24_7, if_neg e24_8, if_neg e24_9]; rfl)
  · rw [if_neg (show ¬ (¬ (b2i (cHas M a1)) = 0) from c8)] at hp
    refine j_iconst g (n := -1) (-1) (by decide +kernel) rfl ?_
    refine hr.1 _ _ _ _ (by decide +kernel) ⟨_, rfl, by first | rfl | exact b2i_nar | rfl⟩ ?_ ?_
    · unfold r_X7_workOf; first | rfl | (simp only [if_neg (show ¬ (¬ (b2i (cHas M a1)) = 0) from c8)]; done) | (simp only [if_neg (show ¬ (¬ (b2i (cHas M a1)) = 0) from c8)]; rfl)
    · unfold w_X7_workOf; first | rfl | (simp only [if_neg (show ¬ (¬ (b2i (cHas M a1)) = 0) from c8)]; done) | (simp only [if_neg (show ¬ (¬ (b2i (cHas M a1)) = 0) from c8)]; rfl)
def r_X7_minute (M : Mm)  : Int32 := M.1 1000 4
theorem rnX7_minute {d : Nat} {M : Mm}   : Rn (d) mX7_minute [.ref 1] M (some (.int (r_X7_minute M ))) M := by
  refine Rn.of [some (.ref 1)] (by decide +kernel) rfl (Nat.le_of_ble_eq_true rfl) rfl (fun J g hr => ?_)
  refine j_aload_n g (i := 0) (by decide +kernel) rfl ?_
  refine j_gA g (b := 100) f7_20 (by decide +kernel) (by decide +kernel) (by decide +kernel) (by decide +kernel) ?_
  refine j_gA g (b := 1000) f7_112 (by decide +kernel) (by decide +kernel) (by decide +kernel) (by decide +kernel) ?_
  refine j_gI g f7_175 (by decide +kernel) (by decide +kernel) (by decide +kernel) ?_
  refine hr.1 _ _ _ _ (by decide +kernel) ⟨_, rfl, by first | rfl | exact b2i_nar | rfl⟩ ?_ ?_
  · rfl
  · rfl
def r_X7_pass (M : Mm) (a1 : Int32) : Int32 := if ¬ (b2i (0 ≤ a1 ∧ a1 ≤ 999)) = 0 then (M.1 1000 4) + a1 else (-1)
def w_X7_pass (M : Mm) (a1 : Int32) : Mm := if ¬ (b2i (0 ≤ a1 ∧ a1 ≤ 999)) = 0 then (wi M 1000 4 ((M.1 1000 4) + a1)) else M
theorem rnX7_pass {d : Nat} {M : Mm} {a1 : Int32}  : Rn (d + 1) mX7_pass [.ref 1, .int a1] M (some (.int (r_X7_pass M a1))) (w_X7_pass M a1) := by
  refine Rn.of [some (.ref 1), some (.int a1)] (by decide +kernel) rfl (Nat.le_of_ble_eq_true rfl) rfl (fun J g hr => ?_)
  refine j_iload_n g (i := 1) (by decide +kernel) rfl ?_
  refine j_iconst g (n := 0) (0) (by decide +kernel) rfl ?_
  refine j_sipush g (n := 999) (999) (by decide +kernel) (by decide +kernel) ?_
  refine j_cS3r g s7_87 (by decide +kernel) (Nat.le_of_ble_eq_true rfl) (rnX7_isWithin) ?_
  refine j_if_ne g (off := 5) (tgt := 13) (by decide +kernel) (by decide) (fun c8 => ?_) (fun c8 => ?_)
  · skip
    refine j_aload_n g (i := 0) (by decide +kernel) rfl ?_
    refine j_gA g (b := 100) f7_20 (by decide +kernel) (by decide +kernel) (by decide +kernel) (by decide +kernel) ?_
    refine j_gA g (b := 1000) f7_112 (by decide +kernel) (by decide +kernel) (by decide +kernel) (by decide +kernel) ?_
    refine j_dup g (by decide +kernel) rfl ?_
    refine j_gI g f7_175 (by decide +kernel) (by decide +kernel) (by decide +kernel) ?_
    refine j_iload_n g (i := 1) (by decide +kernel) rfl ?_
    refine j_iadd g (by decide +kernel) ?_
    refine j_pI g f7_175 (fun q h => by cases h; rfl) (by decide +kernel) (by decide +kernel) (by decide +kernel) ?_
    refine j_aload_n g (i := 0) (by decide +kernel) rfl ?_
    refine j_gA g (b := 100) f7_20 (by decide +kernel) (by decide +kernel) (by decide +kernel) (by decide +kernel) ?_
    refine j_gA g (b := 1000) f7_112 (by decide +kernel) (by decide +kernel) (by decide +kernel) (by decide +kernel) ?_
    refine j_gI g f7_175 (by decide +kernel) (by decide +kernel) (by decide +kernel) ?_
    refine hr.1 _ _ _ _ (by decide +kernel) ⟨_, rfl, by first | rfl | exact b2i_nar | rfl⟩ ?_ ?_
    · unfold r_X7_pass; first | rfl | (simp only [if_pos (show ¬ (b2i (0 ≤ a1 ∧ a1 ≤ 999)) = 0 from c8)]; done) | (simp only [if_pos (show ¬ (b2i (0 ≤ a1 ∧ a1 ≤ 999)) = 0 from c8)]; rfl)
    · unfold w_X7_pass; first | rfl | (simp only [if_pos (show ¬ (b2i (0 ≤ a1 ∧ a1 ≤ 999)) = 0 from c8)]; done) | (simp only [if_pos (show ¬ (b2i (0 ≤ a1 ∧ a1 ≤ 999)) = 0 from c8)]; rfl)
  · skip
    refine j_iconst g (n := -1) (-1) (by decide +kernel) rfl ?_
    refine hr.1 _ _ _ _ (by decide +kernel) ⟨_, rfl, by first | rfl | exact b2i_nar | rfl⟩ ?_ ?_
    · unfold r_X7_pass; first | rfl | (simp only [if_neg (show ¬ (¬ (b2i (0 ≤ a1 ∧ a1 ≤ 999)) = 0) from c8)]; done) | (simp only [if_neg (show ¬ (¬ (b2i (0 ≤ a1 ∧ a1 ≤ 999)) = 0) from c8)]; rfl)
    · unfold w_X7_pass; first | rfl | (simp only [if_neg (show ¬ (¬ (b2i (0 ≤ a1 ∧ a1 ≤ 999)) = 0) from c8)]; done) | (simp only [if_neg (show ¬ (¬ (b2i (0 ≤ a1 ∧ a1 ≤ 999)) = 0) from c8)]; rfl)
def r_X7_had (M : Mm)  : Int32 := M.1 1000 5
theorem rnX7_had {d : Nat} {M : Mm}   : Rn (d) mX7_had [.ref 1] M (some (.int (r_X7_had M ))) M := by
  refine Rn.of [some (.ref 1)] (by decide +kernel) rfl (Nat.le_of_ble_eq_true rfl) rfl (fun J g hr => ?_)
  refine j_aload_n g (i := 0) (by decide +kernel) rfl ?_
  refine j_gA g (b := 100) f7_20 (by decide +kernel) (by decide +kernel) (by decide +kernel) (by decide +kernel) ?_
  refine j_gA g (b := 1000) f7_112 (by decide +kernel) (by decide +kernel) (by decide +kernel) (by decide +kernel) ?_
  refine j_gI g f7_193 (by decide +kernel) (by decide +kernel) (by decide +kernel) ?_
  refine hr.1 _ _ _ _ (by decide +kernel) ⟨_, rfl, by first | rfl | exact b2i_nar | rfl⟩ ?_ ?_
  · rfl
  · rfl
def r_X7_rule (M : Mm) (a1 : Int32) (a2 : Int32) : Int32 := if (b2i (1 ≤ a1 ∧ a1 ≤ 5)) = 0 then (-1) else if ¬ (b2i (0 ≤ a2 ∧ a2 ≤ 9)) = 0 then (if 4 ≤ (M.1 100 3) then (-2) else r_X5_addRule M a1 a2) else (-1)
def w_X7_rule (M : Mm) (a1 : Int32) (a2 : Int32) : Mm := if (b2i (1 ≤ a1 ∧ a1 ≤ 5)) = 0 then M else if ¬ (b2i (0 ≤ a2 ∧ a2 ≤ 9)) = 0 then (if 4 ≤ (M.1 100 3) then M else (w_X5_addRule M a1 a2)) else M
def p_X7_rule (M : Mm) (a1 : Int32) (a2 : Int32) : Prop := (if (b2i (1 ≤ a1 ∧ a1 ≤ 5)) = 0 then True else (if ¬ (b2i (0 ≤ a2 ∧ a2 ≤ 9)) = 0 then (if 4 ≤ (M.1 100 3) then True else (p_X5_addRule M a1 a2) ∧ True) else True))
theorem rnX7_rule {d : Nat} {M : Mm} {a1 : Int32} {a2 : Int32}  (hp : p_X7_rule M a1 a2) : Rn (d + 1) mX7_rule [.ref 1, .int a1, .int a2] M (some (.int (r_X7_rule M a1 a2))) (w_X7_rule M a1 a2) := by
  refine Rn.of [some (.ref 1), some (.int a1), some (.int a2)] (by decide +kernel) rfl (Nat.le_of_ble_eq_true rfl) rfl (fun J g hr => ?_)
  unfold p_X7_rule at hp
  refine j_iload_n g (i := 1) (by decide +kernel) rfl ?_
  refine j_iconst g (n := 1) (1) (by decide +kernel) rfl ?_
  refine j_iconst g (n := 5) (5) (by decide +kernel) rfl ?_
  refine j_cS3r g s7_87 (by decide +kernel) (Nat.le_of_ble_eq_true rfl) (rnX7_isWithin) ?_
  refine j_if_eq g (off := 13) (tgt := 19) (by decide +kernel) (by decide) (fun c6 => ?_) (fun c6 => ?_)
  · rw [if_pos (show (b2i (1 ≤ a1 ∧ a1 ≤ 5)) = 0 from c6)] at hp
    refine j_iconst g (n := -1) (-1) (by decide +kernel) rfl ?_
    refine hr.1 _ _ _ _ (by decide +kernel) ⟨_, rfl, by first | rfl | exact b2i_nar | rfl⟩ ?_ ?_
    · unfold r_X7_rule; first | rfl | (simp only [if_pos (show (b2i (1 ≤ a1 ∧ a1 ≤ 5)) = 0 from c6)]; done) | (simp only [if_pos (show (b2i (1 ≤ a1 ∧ a1 ≤ 5)) = 0 from c6)]; rfl)
    · unfold w_X7_rule; first | rfl | (simp only [if_pos (show (b2i (1 ≤ a1 ∧ a1 ≤ 5)) = 0 from c6)]; done) | (simp only [if_pos (show (b2i (1 ≤ a1 ∧ a1 ≤ 5)) = 0 from c6)]; rfl)
  · rw [if_neg (show ¬ ((b2i (1 ≤ a1 ∧ a1 ≤ 5)) = 0) from c6)] at hp
    refine j_iload_n g (i := 2) (by decide +kernel) rfl ?_
    refine j_iconst g (n := 0) (0) (by decide +kernel) rfl ?_
    refine j_bipush g (n := 9) (9) (by decide +kernel) (by decide +kernel) ?_
    refine j_cS3r g s7_87 (by decide +kernel) (Nat.le_of_ble_eq_true rfl) (rnX7_isWithin) ?_
    refine j_if_ne g (off := 5) (tgt := 21) (by decide +kernel) (by decide) (fun c16 => ?_) (fun c16 => ?_)
    · rw [if_pos (show ¬ (b2i (0 ≤ a2 ∧ a2 ≤ 9)) = 0 from c16)] at hp
      refine j_aload_n g (i := 0) (by decide +kernel) rfl ?_
      refine j_gA g (b := 100) f7_20 (by decide +kernel) (by decide +kernel) (by decide +kernel) (by decide +kernel) ?_
      refine j_gI g f7_228 (by decide +kernel) (by decide +kernel) (by decide +kernel) ?_
      refine j_iconst g (n := 4) (4) (by decide +kernel) rfl ?_
      refine j_icmp_ge g (off := 15) (tgt := 44) (by decide +kernel) (by decide) (fun c29 => ?_) (fun c29 => ?_)
      · rw [if_pos (show 4 ≤ (M.1 100 3) from c29)] at hp
        refine j_bipush g (n := -2) (-2) (by decide +kernel) (by decide +kernel) ?_
        refine hr.1 _ _ _ _ (by decide +kernel) ⟨_, rfl, by first | rfl | exact b2i_nar | rfl⟩ ?_ ?_
        · unfold r_X7_rule; first | rfl | (simp only [if_neg (show ¬ ((b2i (1 ≤ a1 ∧ a1 ≤ 5)) = 0) from c6), if_pos (show ¬ (b2i (0 ≤ a2 ∧ a2 ≤ 9)) = 0 from c16), if_pos (show 4 ≤ (M.1 100 3) from c29)]; done) | (simp only [if_neg (show ¬ ((b2i (1 ≤ a1 ∧ a1 ≤ 5)) = 0) from c6), if_pos (show ¬ (b2i (0 ≤ a2 ∧ a2 ≤ 9)) = 0 from c16), if_pos (show 4 ≤ (M.1 100 3) from c29)]; rfl)
        · unfold w_X7_rule; first | rfl | (simp only [if_neg (show ¬ ((b2i (1 ≤ a1 ∧ a1 ≤ 5)) = 0) from c6), if_pos (show ¬ (b2i (0 ≤ a2 ∧ a2 ≤ 9)) = 0 from c16), if_pos (show 4 ≤ (M.1 100 3) from c29)]; done) | (simp only [if_neg (show ¬ ((b2i (1 ≤ a1 ∧ a1 ≤ 5)) = 0) from c6), if_pos (show ¬ (b2i (0 ≤ a2 ∧ a2 ≤ 9)) = 0 from c16), if_pos (show 4 ≤ (M.1 100 3) from c29)]; rfl)
      · rw [if_neg (show ¬ (4 ≤ (M.1 100 3)) from c29)] at hp
        refine j_aload_n g (i := 0) (by decide +kernel) rfl ?_
        refine j_gA g (b := 100) f7_20 (by decide +kernel) (by decide +kernel) (by decide +kernel) (by decide +kernel) ?_
        refine j_iload_n g (i := 1) (by decide +kernel) rfl ?_
        refine j_iload_n g (i := 2) (by decide +kernel) rfl ?_
        obtain ⟨h0, hp⟩ := hp
        refine j_cV2r g v7_231 ⟨rfl, by decide⟩ (by decide +kernel) (by decide +kernel) (Nat.le_of_ble_eq_true rfl) (rnX5_addRule h0) ?_
        refine j_goto g (off := 5) (tgt := 46) (by decide +kernel) (by decide) ?_
        refine hr.1 _ _ _ _ (by decide +kernel) ⟨_, rfl, by first | rfl | exact b2i_nar | rfl⟩ ?_ ?_
        · unfold r_X7_rule; first | rfl | (simp only [if_neg (show ¬ ((b2i (1 ≤ a1 ∧ a1 ≤ 5)) = 0) from c6), if_pos (show ¬ (b2i (0 ≤ a2 ∧ a2 ≤ 9)) = 0 from c16), if_neg (show ¬ (4 ≤ (M.1 100 3)) from c29)]; done) | (simp only [if_neg (show ¬ ((b2i (1 ≤ a1 ∧ a1 ≤ 5)) = 0) from c6), if_pos (show ¬ (b2i (0 ≤ a2 ∧ a2 ≤ 9)) = 0 from c16), if_neg (show ¬ (4 ≤ (M.1 100 3)) from c29)]; rfl)
        · unfold w_X7_rule; first | rfl | (simp only [if_neg (show ¬ ((b2i (1 ≤ a1 ∧ a1 ≤ 5)) = 0) from c6), if_pos (show ¬ (b2i (0 ≤ a2 ∧ a2 ≤ 9)) = 0 from c16), if_neg (show ¬ (4 ≤ (M.1 100 3)) from c29)]; done) | (simp only [if_neg (show ¬ ((b2i (1 ≤ a1 ∧ a1 ≤ 5)) = 0) from c6), if_pos (show ¬ (b2i (0 ≤ a2 ∧ a2 ≤ 9)) = 0 from c16), if_neg (show ¬ (4 ≤ (M.1 100 3)) from c29)]; rfl)
    · rw [if_neg (show ¬ (¬ (b2i (0 ≤ a2 ∧ a2 ≤ 9)) = 0) from c16)] at hp
      refine j_iconst g (n := -1) (-1) (by decide +kernel) rfl ?_
      refine hr.1 _ _ _ _ (by decide +kernel) ⟨_, rfl, by first | rfl | exact b2i_nar | rfl⟩ ?_ ?_
      · unfold r_X7_rule; first | rfl | (simp only [if_neg (show ¬ ((b2i (1 ≤ a1 ∧ a1 ≤ 5)) = 0) from c6), if_neg (show ¬ (¬ (b2i (0 ≤ a2 ∧ a2 ≤ 9)) = 0) from c16)]; done) | (simp only [if_neg (show ¬ ((b2i (1 ≤ a1 ∧ a1 ≤ 5)) = 0) from c6), if_neg (show ¬ (¬ (b2i (0 ≤ a2 ∧ a2 ≤ 9)) = 0) from c16)]; rfl)
      · unfold w_X7_rule; first | rfl | (simp only [if_neg (show ¬ ((b2i (1 ≤ a1 ∧ a1 ≤ 5)) = 0) from c6), if_neg (show ¬ (¬ (b2i (0 ≤ a2 ∧ a2 ≤ 9)) = 0) from c16)]; done) | (simp only [if_neg (show ¬ ((b2i (1 ≤ a1 ∧ a1 ≤ 5)) = 0) from c6), if_neg (show ¬ (¬ (b2i (0 ≤ a2 ∧ a2 ≤ 9)) = 0) from c16)]; rfl)
def r_X7_ruleOf (M : Mm) (a1 : Int32) (a2 : Int32) : Int32 := if (b2i (0 ≤ a1 ∧ a1 < M.1 100 3)) = 0 then (-1) else if ¬ (b2i (0 ≤ a2 ∧ a2 ≤ 1)) = 0 then (if ¬ a2 = 0 then M.1 106 (Int32.toNatClampNeg a1) else M.1 105 (Int32.toNatClampNeg a1)) else (-1)
def p_X7_ruleOf (M : Mm) (a1 : Int32) (a2 : Int32) : Prop := (if (b2i (0 ≤ a1 ∧ a1 < M.1 100 3)) = 0 then True else (if ¬ (b2i (0 ≤ a2 ∧ a2 ≤ 1)) = 0 then (if ¬ a2 = 0 then (vp_in a1 4) ∧ True else (vp_in a1 4) ∧ True) else True))
theorem rnX7_ruleOf {d : Nat} {M : Mm} {a1 : Int32} {a2 : Int32}  (hp : p_X7_ruleOf M a1 a2) : Rn (d + 1) mX7_ruleOf [.ref 1, .int a1, .int a2] M (some (.int (r_X7_ruleOf M a1 a2))) M := by
  refine Rn.of [some (.ref 1), some (.int a1), some (.int a2)] (by decide +kernel) rfl (Nat.le_of_ble_eq_true rfl) rfl (fun J g hr => ?_)
  unfold p_X7_ruleOf at hp
  refine j_aload_n g (i := 0) (by decide +kernel) rfl ?_
  refine j_gA g (b := 100) f7_20 (by decide +kernel) (by decide +kernel) (by decide +kernel) (by decide +kernel) ?_
  refine j_iload_n g (i := 1) (by decide +kernel) rfl ?_
  refine j_cV1r g v7_234 ⟨rfl, by decide⟩ (by decide +kernel) (by decide +kernel) (Nat.le_of_ble_eq_true rfl) (rnX5_hasRule) ?_
  refine j_if_eq g (off := 12) (tgt := 20) (by decide +kernel) (by decide) (fun c8 => ?_) (fun c8 => ?_)
  · rw [if_pos (show (b2i (0 ≤ a1 ∧ a1 < M.1 100 3)) = 0 from c8)] at hp
    refine j_iconst g (n := -1) (-1) (by decide +kernel) rfl ?_
    refine hr.1 _ _ _ _ (by decide +kernel) ⟨_, rfl, by first | rfl | exact b2i_nar | rfl⟩ ?_ ?_
    · unfold r_X7_ruleOf; first | rfl | (simp only [if_pos (show (b2i (0 ≤ a1 ∧ a1 < M.1 100 3)) = 0 from c8)]; done) | (simp only [if_pos (show (b2i (0 ≤ a1 ∧ a1 < M.1 100 3)) = 0 from c8)]; rfl)
    · rfl
  · rw [if_neg (show ¬ ((b2i (0 ≤ a1 ∧ a1 < M.1 100 3)) = 0) from c8)] at hp
    refine j_iload_n g (i := 2) (by decide +kernel) rfl ?_
    refine j_iconst g (n := 0) (0) (by decide +kernel) rfl ?_
    refine j_iconst g (n := 1) (1) (by decide +kernel) rfl ?_
    refine j_cS3r g s7_87 (by decide +kernel) (Nat.le_of_ble_eq_true rfl) (rnX7_isWithin) ?_
    refine j_if_ne g (off := 5) (tgt := 22) (by decide +kernel) (by decide) (fun c17 => ?_) (fun c17 => ?_)
    · rw [if_pos (show ¬ (b2i (0 ≤ a2 ∧ a2 ≤ 1)) = 0 from c17)] at hp
      refine j_iload_n g (i := 2) (by decide +kernel) rfl ?_
      refine j_if_ne g (off := 15) (tgt := 38) (by decide +kernel) (by decide) (fun c23 => ?_) (fun c23 => ?_)
      · rw [if_pos (show ¬ a2 = 0 from c23)] at hp
        refine j_aload_n g (i := 0) (by decide +kernel) rfl ?_
        refine j_gA g (b := 100) f7_20 (by decide +kernel) (by decide +kernel) (by decide +kernel) (by decide +kernel) ?_
        refine j_gA g (b := 106) f7_240 (by decide +kernel) (by decide +kernel) (by decide +kernel) (by decide +kernel) ?_
        refine j_iload_n g (i := 1) (by decide +kernel) rfl ?_
        obtain ⟨h0, hp⟩ := hp
        refine j_ia g 4 (by decide +kernel) (by decide +kernel) (by decide +kernel) h0 ?_
        refine hr.1 _ _ _ _ (by decide +kernel) ⟨_, rfl, by first | rfl | exact b2i_nar | rfl⟩ ?_ ?_
        · unfold r_X7_ruleOf; first | rfl | (simp only [if_neg (show ¬ ((b2i (0 ≤ a1 ∧ a1 < M.1 100 3)) = 0) from c8), if_pos (show ¬ (b2i (0 ≤ a2 ∧ a2 ≤ 1)) = 0 from c17), if_pos (show ¬ a2 = 0 from c23)]; done) | (simp only [if_neg (show ¬ ((b2i (0 ≤ a1 ∧ a1 < M.1 100 3)) = 0) from c8), if_pos (show ¬ (b2i (0 ≤ a2 ∧ a2 ≤ 1)) = 0 from c17), if_pos (show ¬ a2 = 0 from c23)]; rfl)
        · rfl
      · rw [if_neg (show ¬ (¬ a2 = 0) from c23)] at hp
        refine j_aload_n g (i := 0) (by decide +kernel) rfl ?_
        refine j_gA g (b := 100) f7_20 (by decide +kernel) (by decide +kernel) (by decide +kernel) (by decide +kernel) ?_
        refine j_gA g (b := 105) f7_237 (by decide +kernel) (by decide +kernel) (by decide +kernel) (by decide +kernel) ?_
        refine j_iload_n g (i := 1) (by decide +kernel) rfl ?_
        obtain ⟨h0, hp⟩ := hp
        refine j_ia g 4 (by decide +kernel) (by decide +kernel) (by decide +kernel) h0 ?_
        refine j_goto g (off := 12) (tgt := 47) (by decide +kernel) (by decide) ?_
        refine hr.1 _ _ _ _ (by decide +kernel) ⟨_, rfl, by first | rfl | exact b2i_nar | rfl⟩ ?_ ?_
        · unfold r_X7_ruleOf; first | rfl | (simp only [if_neg (show ¬ ((b2i (0 ≤ a1 ∧ a1 < M.1 100 3)) = 0) from c8), if_pos (show ¬ (b2i (0 ≤ a2 ∧ a2 ≤ 1)) = 0 from c17), if_neg (show ¬ (¬ a2 = 0) from c23)]; done) | (simp only [if_neg (show ¬ ((b2i (0 ≤ a1 ∧ a1 < M.1 100 3)) = 0) from c8), if_pos (show ¬ (b2i (0 ≤ a2 ∧ a2 ≤ 1)) = 0 from c17), if_neg (show ¬ (¬ a2 = 0) from c23)]; rfl)
        · rfl
    · rw [if_neg (show ¬ (¬ (b2i (0 ≤ a2 ∧ a2 ≤ 1)) = 0) from c17)] at hp
      refine j_iconst g (n := -1) (-1) (by decide +kernel) rfl ?_
      refine hr.1 _ _ _ _ (by decide +kernel) ⟨_, rfl, by first | rfl | exact b2i_nar | rfl⟩ ?_ ?_
      · unfold r_X7_ruleOf; first | rfl | (simp only [if_neg (show ¬ ((b2i (0 ≤ a1 ∧ a1 < M.1 100 3)) = 0) from c8), if_neg (show ¬ (¬ (b2i (0 ≤ a2 ∧ a2 ≤ 1)) = 0) from c17)]; done) | (simp only [if_neg (show ¬ ((b2i (0 ≤ a1 ∧ a1 < M.1 100 3)) = 0) from c8), if_neg (show ¬ (¬ (b2i (0 ≤ a2 ∧ a2 ≤ 1)) = 0) from c17)]; rfl)
      · rfl
def r_X7_hasCell (M : Mm) (a1 : Int32) (a2 : Int32) : Int32 := if (b2i (0 ≤ a1 ∧ a1 ≤ ((M.1 1 8) - 1))) = 0 then 0 else if (b2i (0 ≤ a2 ∧ a2 ≤ 2)) = 0 then 0 else 1
theorem rnX7_hasCell {d : Nat} {M : Mm} {a1 : Int32} {a2 : Int32}  : Rn (d + 1) mX7_hasCell [.ref 1, .int a1, .int a2] M (some (.int (r_X7_hasCell M a1 a2))) M := by
  refine Rn.of [some (.ref 1), some (.int a1), some (.int a2)] (by decide +kernel) rfl (Nat.le_of_ble_eq_true rfl) rfl (fun J g hr => ?_)
  refine j_iload_n g (i := 1) (by decide +kernel) rfl ?_
  refine j_iconst g (n := 0) (0) (by decide +kernel) rfl ?_
  refine j_aload_n g (i := 0) (by decide +kernel) rfl ?_
  refine j_gI g f7_55 (by decide +kernel) (by decide +kernel) (by decide +kernel) ?_
  refine j_iconst g (n := 1) (1) (by decide +kernel) rfl ?_
  refine j_isub g (by decide +kernel) ?_
  refine j_cS3r g s7_87 (by decide +kernel) (Nat.le_of_ble_eq_true rfl) (rnX7_isWithin) ?_
  refine j_if_eq g (off := 16) (tgt := 27) (by decide +kernel) (by decide) (fun c11 => ?_) (fun c11 => ?_)
  · skip
    refine j_iconst g (n := 0) (0) (by decide +kernel) rfl ?_
    refine hr.1 _ _ _ _ (by decide +kernel) ⟨_, rfl, by first | rfl | exact b2i_nar | decide +kernel⟩ ?_ ?_
    · unfold r_X7_hasCell; first | rfl | (simp only [if_pos (show (b2i (0 ≤ a1 ∧ a1 ≤ ((M.1 1 8) - 1))) = 0 from c11)]; done) | (simp only [if_pos (show (b2i (0 ≤ a1 ∧ a1 ≤ ((M.1 1 8) - 1))) = 0 from c11)]; rfl)
    · rfl
  · skip
    refine j_iload_n g (i := 2) (by decide +kernel) rfl ?_
    refine j_iconst g (n := 0) (0) (by decide +kernel) rfl ?_
    refine j_iconst g (n := 2) (2) (by decide +kernel) rfl ?_
    refine j_cS3r g s7_87 (by decide +kernel) (Nat.le_of_ble_eq_true rfl) (rnX7_isWithin) ?_
    refine j_if_eq g (off := 7) (tgt := 27) (by decide +kernel) (by decide) (fun c20 => ?_) (fun c20 => ?_)
    · skip
      refine j_iconst g (n := 0) (0) (by decide +kernel) rfl ?_
      refine hr.1 _ _ _ _ (by decide +kernel) ⟨_, rfl, by first | rfl | exact b2i_nar | decide +kernel⟩ ?_ ?_
      · unfold r_X7_hasCell; first | rfl | (simp only [if_neg (show ¬ ((b2i (0 ≤ a1 ∧ a1 ≤ ((M.1 1 8) - 1))) = 0) from c11), if_pos (show (b2i (0 ≤ a2 ∧ a2 ≤ 2)) = 0 from c20)]; done) | (simp only [if_neg (show ¬ ((b2i (0 ≤ a1 ∧ a1 ≤ ((M.1 1 8) - 1))) = 0) from c11), if_pos (show (b2i (0 ≤ a2 ∧ a2 ≤ 2)) = 0 from c20)]; rfl)
      · rfl
    · skip
      refine j_iconst g (n := 1) (1) (by decide +kernel) rfl ?_
      refine j_goto g (off := 4) (tgt := 28) (by decide +kernel) (by decide) ?_
      refine hr.1 _ _ _ _ (by decide +kernel) ⟨_, rfl, by first | rfl | exact b2i_nar | decide +kernel⟩ ?_ ?_
      · unfold r_X7_hasCell; first | rfl | (simp only [if_neg (show ¬ ((b2i (0 ≤ a1 ∧ a1 ≤ ((M.1 1 8) - 1))) = 0) from c11), if_neg (show ¬ ((b2i (0 ≤ a2 ∧ a2 ≤ 2)) = 0) from c20)]; done) | (simp only [if_neg (show ¬ ((b2i (0 ≤ a1 ∧ a1 ≤ ((M.1 1 8) - 1))) = 0) from c11), if_neg (show ¬ ((b2i (0 ≤ a2 ∧ a2 ≤ 2)) = 0) from c20)]; rfl)
      · rfl
def r_X7_holdsNow (M : Mm) (a1 : Int32) : Int32 := if ¬ (M.1 538 (Int32.toNatClampNeg a1)) = 0 then M.1 538 (Int32.toNatClampNeg a1) else if ¬ (b2i (0 ≤ (M.1 539 (Int32.toNatClampNeg a1)) ∧ (M.1 539 (Int32.toNatClampNeg a1)) < M.1 100 3)) = 0 then M.1 538 (Int32.toNatClampNeg a1) else 2
def p_X7_holdsNow (M : Mm) (a1 : Int32) : Prop := (vp_in a1 4) ∧ (if ¬ (M.1 538 (Int32.toNatClampNeg a1)) = 0 then (vp_in a1 4) ∧ True else (vp_in a1 4) ∧ (if ¬ (b2i (0 ≤ (M.1 539 (Int32.toNatClampNeg a1)) ∧ (M.1 539 (Int32.toNatClampNeg a1)) < M.1 100 3)) = 0 then (vp_in a1 4) ∧ True else True))
theorem rnX7_holdsNow {d : Nat} {M : Mm} {a1 : Int32}  (hp : p_X7_holdsNow M a1) : Rn (d + 1) mX7_holdsNow [.ref 1, .int a1] M (some (.int (r_X7_holdsNow M a1))) M := by
  refine Rn.of [some (.ref 1), some (.int a1), none] (by decide +kernel) rfl (Nat.le_of_ble_eq_true rfl) rfl (fun J g hr => ?_)
  unfold p_X7_holdsNow at hp
  refine j_aload_n g (i := 0) (by decide +kernel) rfl ?_
  refine j_gA g (b := 530) f7_47 (by decide +kernel) (by decide +kernel) (by decide +kernel) (by decide +kernel) ?_
  refine j_gA g (b := 538) f7_334 (by decide +kernel) (by decide +kernel) (by decide +kernel) (by decide +kernel) ?_
  refine j_iload_n g (i := 1) (by decide +kernel) rfl ?_
  obtain ⟨h0, hp⟩ := hp
  refine j_ia g 4 (by decide +kernel) (by decide +kernel) (by decide +kernel) h0 ?_
  refine j_if_ne g (off := 26) (tgt := 35) (by decide +kernel) (by decide) (fun c9 => ?_) (fun c9 => ?_)
  · rw [if_pos (show ¬ (M.1 538 (Int32.toNatClampNeg a1)) = 0 from c9)] at hp
    refine j_iconst g (n := 0) (0) (by decide +kernel) rfl ?_
    refine j_istore_n g (i := 2) (by decide +kernel) (by decide) ?_
    dsimp only [stL, clL, hdL]
    refine j_iload_n g (i := 2) (by decide +kernel) rfl ?_
    refine j_if_eq g (off := 7) (tgt := 45) (by decide +kernel) (by decide) (fun _ => ?_) (fun c => absurd (by first | decide | rfl | exact Int32.le_refl _) c)
    refine j_aload_n g (i := 0) (by decide +kernel) rfl ?_
    refine j_gA g (b := 530) f7_47 (by decide +kernel) (by decide +kernel) (by decide +kernel) (by decide +kernel) ?_
    refine j_gA g (b := 538) f7_334 (by decide +kernel) (by decide +kernel) (by decide +kernel) (by decide +kernel) ?_
    refine j_iload_n g (i := 1) (by decide +kernel) rfl ?_
    obtain ⟨h0, hp⟩ := hp
    refine j_ia g 4 (by decide +kernel) (by decide +kernel) (by decide +kernel) h0 ?_
    refine hr.1 _ _ _ _ (by decide +kernel) ⟨_, rfl, by first | rfl | exact b2i_nar | rfl⟩ ?_ ?_
    · unfold r_X7_holdsNow; first | rfl | (simp only [if_pos (show ¬ (M.1 538 (Int32.toNatClampNeg a1)) = 0 from c9)]; done) | (simp only [if_pos (show ¬ (M.1 538 (Int32.toNatClampNeg a1)) = 0 from c9)]; rfl)
    · rfl
  · rw [if_neg (show ¬ (¬ (M.1 538 (Int32.toNatClampNeg a1)) = 0) from c9)] at hp
    refine j_aload_n g (i := 0) (by decide +kernel) rfl ?_
    refine j_gA g (b := 100) f7_20 (by decide +kernel) (by decide +kernel) (by decide +kernel) (by decide +kernel) ?_
    refine j_aload_n g (i := 0) (by decide +kernel) rfl ?_
    refine j_gA g (b := 530) f7_47 (by decide +kernel) (by decide +kernel) (by decide +kernel) (by decide +kernel) ?_
    refine j_gA g (b := 539) f7_298 (by decide +kernel) (by decide +kernel) (by decide +kernel) (by decide +kernel) ?_
    refine j_iload_n g (i := 1) (by decide +kernel) rfl ?_
    obtain ⟨h0, hp⟩ := hp
    refine j_ia g 4 (by decide +kernel) (by decide +kernel) (by decide +kernel) h0 ?_
    refine j_cV1r g v7_234 ⟨rfl, by decide⟩ (by decide +kernel) (by decide +kernel) (Nat.le_of_ble_eq_true rfl) (rnX5_hasRule) ?_
    refine j_if_ne g (off := 7) (tgt := 35) (by decide +kernel) (by decide) (fun c28 => ?_) (fun c28 => ?_)
    · rw [if_pos (show ¬ (b2i (0 ≤ (M.1 539 (Int32.toNatClampNeg a1)) ∧ (M.1 539 (Int32.toNatClampNeg a1)) < M.1 100 3)) = 0 from c28)] at hp
      refine j_iconst g (n := 0) (0) (by decide +kernel) rfl ?_
      refine j_istore_n g (i := 2) (by decide +kernel) (by decide) ?_
      dsimp only [stL, clL, hdL]
      refine j_iload_n g (i := 2) (by decide +kernel) rfl ?_
      refine j_if_eq g (off := 7) (tgt := 45) (by decide +kernel) (by decide) (fun _ => ?_) (fun c => absurd (by first | decide | rfl | exact Int32.le_refl _) c)
      refine j_aload_n g (i := 0) (by decide +kernel) rfl ?_
      refine j_gA g (b := 530) f7_47 (by decide +kernel) (by decide +kernel) (by decide +kernel) (by decide +kernel) ?_
      refine j_gA g (b := 538) f7_334 (by decide +kernel) (by decide +kernel) (by decide +kernel) (by decide +kernel) ?_
      refine j_iload_n g (i := 1) (by decide +kernel) rfl ?_
      obtain ⟨h0, hp⟩ := hp
      refine j_ia g 4 (by decide +kernel) (by decide +kernel) (by decide +kernel) h0 ?_
      refine hr.1 _ _ _ _ (by decide +kernel) ⟨_, rfl, by first | rfl | exact b2i_nar | rfl⟩ ?_ ?_
      · unfold r_X7_holdsNow; first | rfl | (simp only [if_neg (show ¬ (¬ (M.1 538 (Int32.toNatClampNeg a1)) = 0) from c9), if_pos (show ¬ (b2i (0 ≤ (M.1 539 (Int32.toNatClampNeg a1)) ∧ (M.1 539 (Int32.toNatClampNeg a1)) < M.1 100 3)) = 0 from c28)]; done) | (simp only [if_neg (show ¬ (¬ (M.1 538 (Int32.toNatClampNeg a1)) = 0) from c9), if_pos (show ¬ (b2i (0 ≤ (M.1 539 (Int32.toNatClampNeg a1)) ∧ (M.1 539 (Int32.toNatClampNeg a1)) < M.1 100 3)) = 0 from c28)]; rfl)
      · rfl
    · rw [if_neg (show ¬ (¬ (b2i (0 ≤ (M.1 539 (Int32.toNatClampNeg a1)) ∧ (M.1 539 (Int32.toNatClampNeg a1)) < M.1 100 3)) = 0) from c28)] at hp
      refine j_iconst g (n := 1) (1) (by decide +kernel) rfl ?_
      refine j_goto g (off := 4) (tgt := 36) (by decide +kernel) (by decide) ?_
      refine j_istore_n g (i := 2) (by decide +kernel) (by decide) ?_
      dsimp only [stL, clL, hdL]
      refine j_iload_n g (i := 2) (by decide +kernel) rfl ?_
      refine j_if_eq g (off := 7) (tgt := 45) (by decide +kernel) (by decide) (fun c => absurd c (by first | decide | (intro h; exact h rfl))) (fun _ => ?_)
      refine j_iconst g (n := 2) (2) (by decide +kernel) rfl ?_
      refine j_goto g (off := 12) (tgt := 54) (by decide +kernel) (by decide) ?_
      refine hr.1 _ _ _ _ (by decide +kernel) ⟨_, rfl, by first | rfl | exact b2i_nar | rfl⟩ ?_ ?_
      · unfold r_X7_holdsNow; first | rfl | (simp only [if_neg (show ¬ (¬ (M.1 538 (Int32.toNatClampNeg a1)) = 0) from c9), if_neg (show ¬ (¬ (b2i (0 ≤ (M.1 539 (Int32.toNatClampNeg a1)) ∧ (M.1 539 (Int32.toNatClampNeg a1)) < M.1 100 3)) = 0) from c28)]; done) | (simp only [if_neg (show ¬ (¬ (M.1 538 (Int32.toNatClampNeg a1)) = 0) from c9), if_neg (show ¬ (¬ (b2i (0 ≤ (M.1 539 (Int32.toNatClampNeg a1)) ∧ (M.1 539 (Int32.toNatClampNeg a1)) < M.1 100 3)) = 0) from c28)]; rfl)
      · rfl
def r_X7_write (M : Mm) (a1 : Int32) (a2 : Int32) (a3 : Int32) : Int32 := if ¬ (b2i (0 ≤ a1 ∧ a1 < 4)) = 0 then (if ¬ (M.1 531 (Int32.toNatClampNeg a1)) = (-1) then (if ¬ (b2i (0 ≤ a2 ∧ a2 ≤ ((M.1 532 (Int32.toNatClampNeg a1)) - 1))) = 0 then 1 else (-12)) else (-11)) else (-1)
def w_X7_write (M : Mm) (a1 : Int32) (a2 : Int32) (a3 : Int32) : Mm := if ¬ (b2i (0 ≤ a1 ∧ a1 < 4)) = 0 then (if ¬ (M.1 531 (Int32.toNatClampNeg a1)) = (-1) then (if ¬ (b2i (0 ≤ a2 ∧ a2 ≤ ((M.1 532 (Int32.toNatClampNeg a1)) - 1))) = 0 then (wl (w_X1_narrowed M (M.1 531 (Int32.toNatClampNeg a1)) a3) (534 + Int32.toNatClampNeg a1) (Int32.toNatClampNeg a2) (r_X1_narrowed M (M.1 531 (Int32.toNatClampNeg a1)) a3)) else M) else M) else M
def p_X7_write (M : Mm) (a1 : Int32) (a2 : Int32) (a3 : Int32) : Prop := (if ¬ (b2i (0 ≤ a1 ∧ a1 < 4)) = 0 then (vp_in a1 4) ∧ (if ¬ (M.1 531 (Int32.toNatClampNeg a1)) = (-1) then (vp_in a1 4) ∧ (if ¬ (b2i (0 ≤ a2 ∧ a2 ≤ ((M.1 532 (Int32.toNatClampNeg a1)) - 1))) = 0 then (vp_in a1 4) ∧ (vp_in a1 4) ∧ (vp_in a2 40) ∧ True else True) else True) else True)
theorem rnX7_write {d : Nat} {M : Mm} {a1 : Int32} {a2 : Int32} {a3 : Int32}  (hp : p_X7_write M a1 a2 a3) : Rn (d + 1) mX7_write [.ref 1, .int a1, .int a2, .int a3] M (some (.int (r_X7_write M a1 a2 a3))) (w_X7_write M a1 a2 a3) := by
  refine Rn.of [some (.ref 1), some (.int a1), some (.int a2), some (.int a3)] (by decide +kernel) rfl (Nat.le_of_ble_eq_true rfl) rfl (fun J g hr => ?_)
  unfold p_X7_write at hp
  refine j_iload_n g (i := 1) (by decide +kernel) rfl ?_
  refine j_cS1r g s7_278 (by decide +kernel) (Nat.le_of_ble_eq_true rfl) (rnX1_isNumber) ?_
  refine j_if_ne g (off := 5) (tgt := 9) (by decide +kernel) (by decide) (fun c4 => ?_) (fun c4 => ?_)
  · rw [if_pos (show ¬ (b2i (0 ≤ a1 ∧ a1 < 4)) = 0 from c4)] at hp
    refine j_aload_n g (i := 0) (by decide +kernel) rfl ?_
    refine j_gA g (b := 530) f7_47 (by decide +kernel) (by decide +kernel) (by decide +kernel) (by decide +kernel) ?_
    refine j_gA g (b := 531) f7_285 (by decide +kernel) (by decide +kernel) (by decide +kernel) (by decide +kernel) ?_
    refine j_iload_n g (i := 1) (by decide +kernel) rfl ?_
    obtain ⟨h0, hp⟩ := hp
    refine j_ia g 4 (by decide +kernel) (by decide +kernel) (by decide +kernel) h0 ?_
    refine j_iconst g (n := -1) (-1) (by decide +kernel) rfl ?_
    refine j_icmp_ne g (off := 6) (tgt := 25) (by decide +kernel) (by decide) (fun c19 => ?_) (fun c19 => ?_)
    · rw [if_pos (show ¬ (M.1 531 (Int32.toNatClampNeg a1)) = (-1) from c19)] at hp
      refine j_iload_n g (i := 2) (by decide +kernel) rfl ?_
      refine j_iconst g (n := 0) (0) (by decide +kernel) rfl ?_
      refine j_aload_n g (i := 0) (by decide +kernel) rfl ?_
      refine j_gA g (b := 530) f7_47 (by decide +kernel) (by decide +kernel) (by decide +kernel) (by decide +kernel) ?_
      refine j_gA g (b := 532) f7_263 (by decide +kernel) (by decide +kernel) (by decide +kernel) (by decide +kernel) ?_
      refine j_iload_n g (i := 1) (by decide +kernel) rfl ?_
      obtain ⟨h0, hp⟩ := hp
      refine j_ia g 4 (by decide +kernel) (by decide +kernel) (by decide +kernel) h0 ?_
      refine j_iconst g (n := 1) (1) (by decide +kernel) rfl ?_
      refine j_isub g (by decide +kernel) ?_
      refine j_cS3r g s7_87 (by decide +kernel) (Nat.le_of_ble_eq_true rfl) (rnX7_isWithin) ?_
      refine j_if_ne g (off := 6) (tgt := 47) (by decide +kernel) (by decide) (fun c41 => ?_) (fun c41 => ?_)
      · rw [if_pos (show ¬ (b2i (0 ≤ a2 ∧ a2 ≤ ((M.1 532 (Int32.toNatClampNeg a1)) - 1))) = 0 from c41)] at hp
        refine j_aload_n g (i := 0) (by decide +kernel) rfl ?_
        refine j_gA g (b := 530) f7_47 (by decide +kernel) (by decide +kernel) (by decide +kernel) (by decide +kernel) ?_
        refine j_gA g (b := 533) f7_271 (by decide +kernel) (by decide +kernel) (by decide +kernel) (by decide +kernel) ?_
        refine j_iload_n g (i := 1) (by decide +kernel) rfl ?_
        obtain ⟨h0, hp⟩ := hp
        refine j_aR g 4 (by decide +kernel) (by decide +kernel) (by decide +kernel) h0 (rfR h0) ?_
        have hw55 := h0
        refine j_iload_n g (i := 2) (by decide +kernel) rfl ?_
        refine j_aload_n g (i := 0) (by decide +kernel) rfl ?_
        refine j_gA g (b := 530) f7_47 (by decide +kernel) (by decide +kernel) (by decide +kernel) (by decide +kernel) ?_
        refine j_gA g (b := 531) f7_285 (by decide +kernel) (by decide +kernel) (by decide +kernel) (by decide +kernel) ?_
        refine j_iload_n g (i := 1) (by decide +kernel) rfl ?_
        obtain ⟨h0, hp⟩ := hp
        refine j_ia g 4 (by decide +kernel) (by decide +kernel) (by decide +kernel) h0 ?_
        refine j_iload_n g (i := 3) (by decide +kernel) rfl ?_
        refine j_cS2r g s7_288 (by decide +kernel) (Nat.le_of_ble_eq_true rfl) (rnX1_narrowed) ?_
        obtain ⟨h0, hp⟩ := hp
        refine j_ls g 40 (by decide +kernel) (gkR hw55) (glR hw55) h0 ?_
        refine j_iconst g (n := 1) (1) (by decide +kernel) rfl ?_
        refine hr.1 _ _ _ _ (by decide +kernel) ⟨_, rfl, by first | rfl | exact b2i_nar | rfl⟩ ?_ ?_
        · unfold r_X7_write; first | rfl | (simp only [if_pos (show ¬ (b2i (0 ≤ a1 ∧ a1 < 4)) = 0 from c4), if_pos (show ¬ (M.1 531 (Int32.toNatClampNeg a1)) = (-1) from c19), if_pos (show ¬ (b2i (0 ≤ a2 ∧ a2 ≤ ((M.1 532 (Int32.toNatClampNeg a1)) - 1))) = 0 from c41)]; done) | (simp only [if_pos (show ¬ (b2i (0 ≤ a1 ∧ a1 < 4)) = 0 from c4), if_pos (show ¬ (M.1 531 (Int32.toNatClampNeg a1)) = (-1) from c19), if_pos (show ¬ (b2i (0 ≤ a2 ∧ a2 ≤ ((M.1 532 (Int32.toNatClampNeg a1)) - 1))) = 0 from c41)]; rfl)
        · unfold w_X7_write; first | rfl | (simp only [if_pos (show ¬ (b2i (0 ≤ a1 ∧ a1 < 4)) = 0 from c4), if_pos (show ¬ (M.1 531 (Int32.toNatClampNeg a1)) = (-1) from c19), if_pos (show ¬ (b2i (0 ≤ a2 ∧ a2 ≤ ((M.1 532 (Int32.toNatClampNeg a1)) - 1))) = 0 from c41)]; done) | (simp only [if_pos (show ¬ (b2i (0 ≤ a1 ∧ a1 < 4)) = 0 from c4), if_pos (show ¬ (M.1 531 (Int32.toNatClampNeg a1)) = (-1) from c19), if_pos (show ¬ (b2i (0 ≤ a2 ∧ a2 ≤ ((M.1 532 (Int32.toNatClampNeg a1)) - 1))) = 0 from c41)]; rfl)
      · rw [if_neg (show ¬ (¬ (b2i (0 ≤ a2 ∧ a2 ≤ ((M.1 532 (Int32.toNatClampNeg a1)) - 1))) = 0) from c41)] at hp
        refine j_bipush g (n := -12) (-12) (by decide +kernel) (by decide +kernel) ?_
        refine hr.1 _ _ _ _ (by decide +kernel) ⟨_, rfl, by first | rfl | exact b2i_nar | rfl⟩ ?_ ?_
        · unfold r_X7_write; first | rfl | (simp only [if_pos (show ¬ (b2i (0 ≤ a1 ∧ a1 < 4)) = 0 from c4), if_pos (show ¬ (M.1 531 (Int32.toNatClampNeg a1)) = (-1) from c19), if_neg (show ¬ (¬ (b2i (0 ≤ a2 ∧ a2 ≤ ((M.1 532 (Int32.toNatClampNeg a1)) - 1))) = 0) from c41)]; done) | (simp only [if_pos (show ¬ (b2i (0 ≤ a1 ∧ a1 < 4)) = 0 from c4), if_pos (show ¬ (M.1 531 (Int32.toNatClampNeg a1)) = (-1) from c19), if_neg (show ¬ (¬ (b2i (0 ≤ a2 ∧ a2 ≤ ((M.1 532 (Int32.toNatClampNeg a1)) - 1))) = 0) from c41)]; rfl)
        · unfold w_X7_write; first | rfl | (simp only [if_pos (show ¬ (b2i (0 ≤ a1 ∧ a1 < 4)) = 0 from c4), if_pos (show ¬ (M.1 531 (Int32.toNatClampNeg a1)) = (-1) from c19), if_neg (show ¬ (¬ (b2i (0 ≤ a2 ∧ a2 ≤ ((M.1 532 (Int32.toNatClampNeg a1)) - 1))) = 0) from c41)]; done) | (simp only [if_pos (show ¬ (b2i (0 ≤ a1 ∧ a1 < 4)) = 0 from c4), if_pos (show ¬ (M.1 531 (Int32.toNatClampNeg a1)) = (-1) from c19), if_neg (show ¬ (¬ (b2i (0 ≤ a2 ∧ a2 ≤ ((M.1 532 (Int32.toNatClampNeg a1)) - 1))) = 0) from c41)]; rfl)
    · rw [if_neg (show ¬ (¬ (M.1 531 (Int32.toNatClampNeg a1)) = (-1)) from c19)] at hp
      refine j_bipush g (n := -11) (-11) (by decide +kernel) (by decide +kernel) ?_
      refine hr.1 _ _ _ _ (by decide +kernel) ⟨_, rfl, by first | rfl | exact b2i_nar | rfl⟩ ?_ ?_
      · unfold r_X7_write; first | rfl | (simp only [if_pos (show ¬ (b2i (0 ≤ a1 ∧ a1 < 4)) = 0 from c4), if_neg (show ¬ (¬ (M.1 531 (Int32.toNatClampNeg a1)) = (-1)) from c19)]; done) | (simp only [if_pos (show ¬ (b2i (0 ≤ a1 ∧ a1 < 4)) = 0 from c4), if_neg (show ¬ (¬ (M.1 531 (Int32.toNatClampNeg a1)) = (-1)) from c19)]; rfl)
      · unfold w_X7_write; first | rfl | (simp only [if_pos (show ¬ (b2i (0 ≤ a1 ∧ a1 < 4)) = 0 from c4), if_neg (show ¬ (¬ (M.1 531 (Int32.toNatClampNeg a1)) = (-1)) from c19)]; done) | (simp only [if_pos (show ¬ (b2i (0 ≤ a1 ∧ a1 < 4)) = 0 from c4), if_neg (show ¬ (¬ (M.1 531 (Int32.toNatClampNeg a1)) = (-1)) from c19)]; rfl)
  · rw [if_neg (show ¬ (¬ (b2i (0 ≤ a1 ∧ a1 < 4)) = 0) from c4)] at hp
    refine j_iconst g (n := -1) (-1) (by decide +kernel) rfl ?_
    refine hr.1 _ _ _ _ (by decide +kernel) ⟨_, rfl, by first | rfl | exact b2i_nar | rfl⟩ ?_ ?_
    · unfold r_X7_write; first | rfl | (simp only [if_neg (show ¬ (¬ (b2i (0 ≤ a1 ∧ a1 < 4)) = 0) from c4)]; done) | (simp only [if_neg (show ¬ (¬ (b2i (0 ≤ a1 ∧ a1 < 4)) = 0) from c4)]; rfl)
    · unfold w_X7_write; first | rfl | (simp only [if_neg (show ¬ (¬ (b2i (0 ≤ a1 ∧ a1 < 4)) = 0) from c4)]; done) | (simp only [if_neg (show ¬ (¬ (b2i (0 ≤ a1 ∧ a1 < 4)) = 0) from c4)]; rfl)
def r_X7_item (M : Mm) (a1 : Int32) (a2 : Int32) (a3 : Int32) : Int32 := if ¬ (b2i (0 ≤ a2 ∧ a2 ≤ 3)) = 0 then (if 0 ≤ (r_X1_refusalOf M a1 a2) then (if (b2i (0 ≤ a3 ∧ a3 ≤ ((M.1 532 (Int32.toNatClampNeg a1)) - 1))) = 0 then (-12) else Int64.toInt32 (M.2 (534 + Int32.toNatClampNeg a1) (Int32.toNatClampNeg a3))) else r_X1_refusalOf M a1 a2) else (-1)
def p_X7_item (M : Mm) (a1 : Int32) (a2 : Int32) (a3 : Int32) : Prop := (if ¬ (b2i (0 ≤ a2 ∧ a2 ≤ 3)) = 0 then (p_X1_refusalOf M a1 a2) ∧ (if 0 ≤ (r_X1_refusalOf M a1 a2) then (vp_in a1 4) ∧ (if (b2i (0 ≤ a3 ∧ a3 ≤ ((M.1 532 (Int32.toNatClampNeg a1)) - 1))) = 0 then True else (vp_in a1 4) ∧ (vp_in a3 40) ∧ True) else True) else True)
theorem rnX7_item {d : Nat} {M : Mm} {a1 : Int32} {a2 : Int32} {a3 : Int32}  (hp : p_X7_item M a1 a2 a3) : Rn (d + 2) mX7_item [.ref 1, .int a1, .int a2, .int a3] M (some (.int (r_X7_item M a1 a2 a3))) M := by
  refine Rn.of [some (.ref 1), some (.int a1), some (.int a2), some (.int a3), none] (by decide +kernel) rfl (Nat.le_of_ble_eq_true rfl) rfl (fun J g hr => ?_)
  unfold p_X7_item at hp
  refine j_iload_n g (i := 2) (by decide +kernel) rfl ?_
  refine j_iconst g (n := 0) (0) (by decide +kernel) rfl ?_
  refine j_iconst g (n := 3) (3) (by decide +kernel) rfl ?_
  refine j_cS3r g s7_87 (by decide +kernel) (Nat.le_of_ble_eq_true rfl) (rnX7_isWithin) ?_
  refine j_if_ne g (off := 5) (tgt := 11) (by decide +kernel) (by decide) (fun c6 => ?_) (fun c6 => ?_)
  · rw [if_pos (show ¬ (b2i (0 ≤ a2 ∧ a2 ≤ 3)) = 0 from c6)] at hp
    refine j_aload_n g (i := 0) (by decide +kernel) rfl ?_
    refine j_gA g (b := 530) f7_47 (by decide +kernel) (by decide +kernel) (by decide +kernel) (by decide +kernel) ?_
    refine j_iload_n g (i := 1) (by decide +kernel) rfl ?_
    refine j_iload_n g (i := 2) (by decide +kernel) rfl ?_
    obtain ⟨h0, hp⟩ := hp
    refine j_cV2r g v7_260 ⟨rfl, by decide⟩ (by decide +kernel) (by decide +kernel) (Nat.le_of_ble_eq_true rfl) (rnX1_refusalOf h0) ?_
    refine j_istore g (i := 4) (by decide +kernel) (by decide) ?_
    dsimp only [stL, clL, hdL]
    refine j_iload g (i := 4) (by decide +kernel) rfl ?_
    refine j_if_ge g (off := 6) (tgt := 30) (by decide +kernel) (by decide) (fun c24 => ?_) (fun c24 => ?_)
    · rw [if_pos (show 0 ≤ (r_X1_refusalOf M a1 a2) from c24)] at hp
      refine j_iload_n g (i := 3) (by decide +kernel) rfl ?_
      refine j_iconst g (n := 0) (0) (by decide +kernel) rfl ?_
      refine j_aload_n g (i := 0) (by decide +kernel) rfl ?_
      refine j_gA g (b := 530) f7_47 (by decide +kernel) (by decide +kernel) (by decide +kernel) (by decide +kernel) ?_
      refine j_gA g (b := 532) f7_263 (by decide +kernel) (by decide +kernel) (by decide +kernel) (by decide +kernel) ?_
      refine j_iload_n g (i := 1) (by decide +kernel) rfl ?_
      obtain ⟨h0, hp⟩ := hp
      refine j_ia g 4 (by decide +kernel) (by decide +kernel) (by decide +kernel) h0 ?_
      refine j_iconst g (n := 1) (1) (by decide +kernel) rfl ?_
      refine j_isub g (by decide +kernel) ?_
      refine j_cS3r g s7_87 (by decide +kernel) (Nat.le_of_ble_eq_true rfl) (rnX7_isWithin) ?_
      refine j_if_eq g (off := 18) (tgt := 64) (by decide +kernel) (by decide) (fun c46 => ?_) (fun c46 => ?_)
      · rw [if_pos (show (b2i (0 ≤ a3 ∧ a3 ≤ ((M.1 532 (Int32.toNatClampNeg a1)) - 1))) = 0 from c46)] at hp
        refine j_bipush g (n := -12) (-12) (by decide +kernel) (by decide +kernel) ?_
        refine hr.1 _ _ _ _ (by decide +kernel) ⟨_, rfl, by first | rfl | exact b2i_nar | rfl⟩ ?_ ?_
        · unfold r_X7_item; first | rfl | (simp only [if_pos (show ¬ (b2i (0 ≤ a2 ∧ a2 ≤ 3)) = 0 from c6), if_pos (show 0 ≤ (r_X1_refusalOf M a1 a2) from c24), if_pos (show (b2i (0 ≤ a3 ∧ a3 ≤ ((M.1 532 (Int32.toNatClampNeg a1)) - 1))) = 0 from c46)]; done) | (simp only [if_pos (show ¬ (b2i (0 ≤ a2 ∧ a2 ≤ 3)) = 0 from c6), if_pos (show 0 ≤ (r_X1_refusalOf M a1 a2) from c24), if_pos (show (b2i (0 ≤ a3 ∧ a3 ≤ ((M.1 532 (Int32.toNatClampNeg a1)) - 1))) = 0 from c46)]; rfl)
        · rfl
      · rw [if_neg (show ¬ ((b2i (0 ≤ a3 ∧ a3 ≤ ((M.1 532 (Int32.toNatClampNeg a1)) - 1))) = 0) from c46)] at hp
        refine j_aload_n g (i := 0) (by decide +kernel) rfl ?_
        refine j_gA g (b := 530) f7_47 (by decide +kernel) (by decide +kernel) (by decide +kernel) (by decide +kernel) ?_
        refine j_gA g (b := 533) f7_271 (by decide +kernel) (by decide +kernel) (by decide +kernel) (by decide +kernel) ?_
        refine j_iload_n g (i := 1) (by decide +kernel) rfl ?_
        obtain ⟨h0, hp⟩ := hp
        refine j_aR g 4 (by decide +kernel) (by decide +kernel) (by decide +kernel) h0 (rfR h0) ?_
        have hw57 := h0
        refine j_iload_n g (i := 3) (by decide +kernel) rfl ?_
        obtain ⟨h0, hp⟩ := hp
        refine j_la g 40 (by decide +kernel) (gkR hw57) (glR hw57) h0 ?_
        refine j_l2i g (by decide +kernel) ?_
        refine j_goto g (off := 5) (tgt := 66) (by decide +kernel) (by decide) ?_
        refine hr.1 _ _ _ _ (by decide +kernel) ⟨_, rfl, by first | rfl | exact b2i_nar | rfl⟩ ?_ ?_
        · unfold r_X7_item; first | rfl | (simp only [if_pos (show ¬ (b2i (0 ≤ a2 ∧ a2 ≤ 3)) = 0 from c6), if_pos (show 0 ≤ (r_X1_refusalOf M a1 a2) from c24), if_neg (show ¬ ((b2i (0 ≤ a3 ∧ a3 ≤ ((M.1 532 (Int32.toNatClampNeg a1)) - 1))) = 0) from c46)]; done) | (simp only [if_pos (show ¬ (b2i (0 ≤ a2 ∧ a2 ≤ 3)) = 0 from c6), if_pos (show 0 ≤ (r_X1_refusalOf M a1 a2) from c24), if_neg (show ¬ ((b2i (0 ≤ a3 ∧ a3 ≤ ((M.1 532 (Int32.toNatClampNeg a1)) - 1))) = 0) from c46)]; rfl)
        · rfl
    · rw [if_neg (show ¬ (0 ≤ (r_X1_refusalOf M a1 a2)) from c24)] at hp
      refine j_iload g (i := 4) (by decide +kernel) rfl ?_
      refine hr.1 _ _ _ _ (by decide +kernel) ⟨_, rfl, by first | rfl | exact b2i_nar | rfl⟩ ?_ ?_
      · unfold r_X7_item; first | rfl | (simp only [if_pos (show ¬ (b2i (0 ≤ a2 ∧ a2 ≤ 3)) = 0 from c6), if_neg (show ¬ (0 ≤ (r_X1_refusalOf M a1 a2)) from c24)]; done) | (simp only [if_pos (show ¬ (b2i (0 ≤ a2 ∧ a2 ≤ 3)) = 0 from c6), if_neg (show ¬ (0 ≤ (r_X1_refusalOf M a1 a2)) from c24)]; rfl)
      · rfl
  · rw [if_neg (show ¬ (¬ (b2i (0 ≤ a2 ∧ a2 ≤ 3)) = 0) from c6)] at hp
    refine j_iconst g (n := -1) (-1) (by decide +kernel) rfl ?_
    refine hr.1 _ _ _ _ (by decide +kernel) ⟨_, rfl, by first | rfl | exact b2i_nar | rfl⟩ ?_ ?_
    · unfold r_X7_item; first | rfl | (simp only [if_neg (show ¬ (¬ (b2i (0 ≤ a2 ∧ a2 ≤ 3)) = 0) from c6)]; done) | (simp only [if_neg (show ¬ (¬ (b2i (0 ≤ a2 ∧ a2 ≤ 3)) = 0) from c6)]; rfl)
    · rfl
def w_X1_layOn (M : Mm) (a1 : Int32) (a2 : Int32) (a3 : Int32) : Mm := if ¬ a2 = 1 then (wi (wi (wi M 538 (Int32.toNatClampNeg a1) a2) 539 (Int32.toNatClampNeg a1) a3) 540 (Int32.toNatClampNeg a1) 0) else if ¬ (M.1 531 (Int32.toNatClampNeg a3)) = (-1) then (wi (wi (wi M 538 (Int32.toNatClampNeg a1) a2) 539 (Int32.toNatClampNeg a1) (M.1 531 (Int32.toNatClampNeg a3))) 540 (Int32.toNatClampNeg a1) (M.1 532 (Int32.toNatClampNeg a3))) else (wi (wi (wi M 538 (Int32.toNatClampNeg a1) 2) 539 (Int32.toNatClampNeg a1) (M.1 531 (Int32.toNatClampNeg a3))) 540 (Int32.toNatClampNeg a1) (M.1 532 (Int32.toNatClampNeg a3)))
def p_X1_layOn (M : Mm) (a1 : Int32) (a2 : Int32) (a3 : Int32) : Prop := (if ¬ a2 = 1 then (vp_in a1 4) ∧ (vp_in a1 4) ∧ (vp_in a1 4) ∧ True else (vp_in a3 4) ∧ (if ¬ (M.1 531 (Int32.toNatClampNeg a3)) = (-1) then (vp_in a1 4) ∧ (vp_in a3 4) ∧ (vp_in a1 4) ∧ (vp_in a3 4) ∧ (vp_in a1 4) ∧ True else (vp_in a1 4) ∧ (vp_in a3 4) ∧ (vp_in a1 4) ∧ (vp_in a3 4) ∧ (vp_in a1 4) ∧ True))
theorem rnX1_layOn {d : Nat} {M : Mm} {a1 : Int32} {a2 : Int32} {a3 : Int32}  (hp : p_X1_layOn M a1 a2 a3) : Rn (d) mX1_layOn [.ref 530, .int a1, .int a2, .int a3] M none (w_X1_layOn M a1 a2 a3) := by
  refine Rn.of [some (.ref 530), some (.int a1), some (.int a2), some (.int a3), none, none] (by decide +kernel) rfl (Nat.le_of_ble_eq_true rfl) rfl (fun J g hr => ?_)
  unfold p_X1_layOn at hp
  refine j_iload_n g (i := 2) (by decide +kernel) rfl ?_
  refine j_iconst g (n := 1) (1) (by decide +kernel) rfl ?_
  refine j_icmp_ne g (off := 7) (tgt := 9) (by decide +kernel) (by decide) (fun c2 => ?_) (fun c2 => ?_)
  · rw [if_pos (show ¬ a2 = 1 from c2)] at hp
    refine j_iconst g (n := 0) (0) (by decide +kernel) rfl ?_
    refine j_istore g (i := 4) (by decide +kernel) (by decide) ?_
    dsimp only [stL, clL, hdL]
    refine j_iload g (i := 4) (by decide +kernel) rfl ?_
    refine j_if_eq g (off := 17) (tgt := 31) (by decide +kernel) (by decide) (fun _ => ?_) (fun c => absurd (by first | decide | rfl | exact Int32.le_refl _) c)
    refine j_iconst g (n := 0) (0) (by decide +kernel) rfl ?_
    refine j_istore g (i := 5) (by decide +kernel) (by decide) ?_
    dsimp only [stL, clL, hdL]
    refine j_aload_n g (i := 0) (by decide +kernel) rfl ?_
    refine j_gA g (b := 538) f1_23 (by decide +kernel) (by decide +kernel) (by decide +kernel) (by decide +kernel) ?_
    refine j_iload_n g (i := 1) (by decide +kernel) rfl ?_
    refine j_iload g (i := 5) (by decide +kernel) rfl ?_
    refine j_if_eq g (off := 7) (tgt := 48) (by decide +kernel) (by decide) (fun _ => ?_) (fun c => absurd (by first | decide | rfl | exact Int32.le_refl _) c)
    refine j_iload_n g (i := 2) (by decide +kernel) rfl ?_
    obtain ⟨h0, hp⟩ := hp
    refine j_is g 4 (by decide +kernel) (by decide +kernel) (by decide +kernel) h0 ?_
    refine j_aload_n g (i := 0) (by decide +kernel) rfl ?_
    refine j_gA g (b := 539) f1_26 (by decide +kernel) (by decide +kernel) (by decide +kernel) (by decide +kernel) ?_
    refine j_iload_n g (i := 1) (by decide +kernel) rfl ?_
    refine j_iload g (i := 4) (by decide +kernel) rfl ?_
    refine j_if_eq g (off := 12) (tgt := 69) (by decide +kernel) (by decide) (fun _ => ?_) (fun c => absurd (by first | decide | rfl | exact Int32.le_refl _) c)
    refine j_iload_n g (i := 3) (by decide +kernel) rfl ?_
    obtain ⟨h0, hp⟩ := hp
    refine j_is g 4 (by decide +kernel) (by decide +kernel) (by decide +kernel) h0 ?_
    refine j_aload_n g (i := 0) (by decide +kernel) rfl ?_
    refine j_gA g (b := 540) f1_29 (by decide +kernel) (by decide +kernel) (by decide +kernel) (by decide +kernel) ?_
    refine j_iload_n g (i := 1) (by decide +kernel) rfl ?_
    refine j_iload g (i := 4) (by decide +kernel) rfl ?_
    refine j_if_eq g (off := 12) (tgt := 90) (by decide +kernel) (by decide) (fun _ => ?_) (fun c => absurd (by first | decide | rfl | exact Int32.le_refl _) c)
    refine j_iconst g (n := 0) (0) (by decide +kernel) rfl ?_
    obtain ⟨h0, hp⟩ := hp
    refine j_is g 4 (by decide +kernel) (by decide +kernel) (by decide +kernel) h0 ?_
    refine hr.2.2.2 _ _ _ (by decide +kernel) rfl rfl ?_
    · unfold w_X1_layOn; first | rfl | (simp only [if_pos (show ¬ a2 = 1 from c2)]; done) | (simp only [if_pos (show ¬ a2 = 1 from c2)]; rfl)
  · rw [if_neg (show ¬ (¬ a2 = 1) from c2)] at hp
    refine j_iconst g (n := 1) (1) (by decide +kernel) rfl ?_
    refine j_goto g (off := 4) (tgt := 10) (by decide +kernel) (by decide) ?_
    refine j_istore g (i := 4) (by decide +kernel) (by decide) ?_
    dsimp only [stL, clL, hdL]
    refine j_iload g (i := 4) (by decide +kernel) rfl ?_
    refine j_if_eq g (off := 17) (tgt := 31) (by decide +kernel) (by decide) (fun c => absurd c (by first | decide | (intro h; exact h rfl))) (fun _ => ?_)
    refine j_aload_n g (i := 0) (by decide +kernel) rfl ?_
    refine j_gA g (b := 531) f1_11 (by decide +kernel) (by decide +kernel) (by decide +kernel) (by decide +kernel) ?_
    refine j_iload_n g (i := 3) (by decide +kernel) rfl ?_
    obtain ⟨h0, hp⟩ := hp
    refine j_ia g 4 (by decide +kernel) (by decide +kernel) (by decide +kernel) h0 ?_
    refine j_iconst g (n := -1) (-1) (by decide +kernel) rfl ?_
    refine j_icmp_ne g (off := 7) (tgt := 31) (by decide +kernel) (by decide) (fun c24 => ?_) (fun c24 => ?_)
    · rw [if_pos (show ¬ (M.1 531 (Int32.toNatClampNeg a3)) = (-1) from c24)] at hp
      refine j_iconst g (n := 0) (0) (by decide +kernel) rfl ?_
      refine j_istore g (i := 5) (by decide +kernel) (by decide) ?_
      dsimp only [stL, clL, hdL]
      refine j_aload_n g (i := 0) (by decide +kernel) rfl ?_
      refine j_gA g (b := 538) f1_23 (by decide +kernel) (by decide +kernel) (by decide +kernel) (by decide +kernel) ?_
      refine j_iload_n g (i := 1) (by decide +kernel) rfl ?_
      refine j_iload g (i := 5) (by decide +kernel) rfl ?_
      refine j_if_eq g (off := 7) (tgt := 48) (by decide +kernel) (by decide) (fun _ => ?_) (fun c => absurd (by first | decide | rfl | exact Int32.le_refl _) c)
      refine j_iload_n g (i := 2) (by decide +kernel) rfl ?_
      obtain ⟨h0, hp⟩ := hp
      refine j_is g 4 (by decide +kernel) (by decide +kernel) (by decide +kernel) h0 ?_
      refine j_aload_n g (i := 0) (by decide +kernel) rfl ?_
      refine j_gA g (b := 539) f1_26 (by decide +kernel) (by decide +kernel) (by decide +kernel) (by decide +kernel) ?_
      refine j_iload_n g (i := 1) (by decide +kernel) rfl ?_
      refine j_iload g (i := 4) (by decide +kernel) rfl ?_
      refine j_if_eq g (off := 12) (tgt := 69) (by decide +kernel) (by decide) (fun c => absurd c (by first | decide | (intro h; exact h rfl))) (fun _ => ?_)
      refine j_aload_n g (i := 0) (by decide +kernel) rfl ?_
      refine j_gA g (b := 531) f1_11 (by decide +kernel) (by decide +kernel) (by decide +kernel) (by decide +kernel) ?_
      refine j_iload_n g (i := 3) (by decide +kernel) rfl ?_
      obtain ⟨h0, hp⟩ := hp
      refine j_ia g 4 (by decide +kernel) (by decide +kernel) (by decide +kernel) h0 ?_
      refine j_goto g (off := 4) (tgt := 70) (by decide +kernel) (by decide) ?_
      obtain ⟨h0, hp⟩ := hp
      refine j_is g 4 (by decide +kernel) (by decide +kernel) (by decide +kernel) h0 ?_
      refine j_aload_n g (i := 0) (by decide +kernel) rfl ?_
      refine j_gA g (b := 540) f1_29 (by decide +kernel) (by decide +kernel) (by decide +kernel) (by decide +kernel) ?_
      refine j_iload_n g (i := 1) (by decide +kernel) rfl ?_
      refine j_iload g (i := 4) (by decide +kernel) rfl ?_
      refine j_if_eq g (off := 12) (tgt := 90) (by decide +kernel) (by decide) (fun c => absurd c (by first | decide | (intro h; exact h rfl))) (fun _ => ?_)
      refine j_aload_n g (i := 0) (by decide +kernel) rfl ?_
      refine j_gA g (b := 532) f1_15 (by decide +kernel) (by decide +kernel) (by decide +kernel) (by decide +kernel) ?_
      refine j_iload_n g (i := 3) (by decide +kernel) rfl ?_
      obtain ⟨h0, hp⟩ := hp
      refine j_ia g 4 (by decide +kernel) (by decide +kernel) (by decide +kernel) h0 ?_
      refine j_goto g (off := 4) (tgt := 91) (by decide +kernel) (by decide) ?_
      obtain ⟨h0, hp⟩ := hp
      refine j_is g 4 (by decide +kernel) (by decide +kernel) (by decide +kernel) h0 ?_
      refine hr.2.2.2 _ _ _ (by decide +kernel) rfl rfl ?_
      · unfold w_X1_layOn; first | rfl | (simp only [if_neg (show ¬ (¬ a2 = 1) from c2), if_pos (show ¬ (M.1 531 (Int32.toNatClampNeg a3)) = (-1) from c24)]; done) | (simp only [if_neg (show ¬ (¬ a2 = 1) from c2), if_pos (show ¬ (M.1 531 (Int32.toNatClampNeg a3)) = (-1) from c24)]; rfl)
    · rw [if_neg (show ¬ (¬ (M.1 531 (Int32.toNatClampNeg a3)) = (-1)) from c24)] at hp
      refine j_iconst g (n := 1) (1) (by decide +kernel) rfl ?_
      refine j_goto g (off := 4) (tgt := 32) (by decide +kernel) (by decide) ?_
      refine j_istore g (i := 5) (by decide +kernel) (by decide) ?_
      dsimp only [stL, clL, hdL]
      refine j_aload_n g (i := 0) (by decide +kernel) rfl ?_
      refine j_gA g (b := 538) f1_23 (by decide +kernel) (by decide +kernel) (by decide +kernel) (by decide +kernel) ?_
      refine j_iload_n g (i := 1) (by decide +kernel) rfl ?_
      refine j_iload g (i := 5) (by decide +kernel) rfl ?_
      refine j_if_eq g (off := 7) (tgt := 48) (by decide +kernel) (by decide) (fun c => absurd c (by first | decide | (intro h; exact h rfl))) (fun _ => ?_)
      refine j_iconst g (n := 2) (2) (by decide +kernel) rfl ?_
      refine j_goto g (off := 4) (tgt := 49) (by decide +kernel) (by decide) ?_
      obtain ⟨h0, hp⟩ := hp
      refine j_is g 4 (by decide +kernel) (by decide +kernel) (by decide +kernel) h0 ?_
      refine j_aload_n g (i := 0) (by decide +kernel) rfl ?_
      refine j_gA g (b := 539) f1_26 (by decide +kernel) (by decide +kernel) (by decide +kernel) (by decide +kernel) ?_
      refine j_iload_n g (i := 1) (by decide +kernel) rfl ?_
      refine j_iload g (i := 4) (by decide +kernel) rfl ?_
      refine j_if_eq g (off := 12) (tgt := 69) (by decide +kernel) (by decide) (fun c => absurd c (by first | decide | (intro h; exact h rfl))) (fun _ => ?_)
      refine j_aload_n g (i := 0) (by decide +kernel) rfl ?_
      refine j_gA g (b := 531) f1_11 (by decide +kernel) (by decide +kernel) (by decide +kernel) (by decide +kernel) ?_
      refine j_iload_n g (i := 3) (by decide +kernel) rfl ?_
      obtain ⟨h0, hp⟩ := hp
      refine j_ia g 4 (by decide +kernel) (by decide +kernel) (by decide +kernel) h0 ?_
      refine j_goto g (off := 4) (tgt := 70) (by decide +kernel) (by decide) ?_
      obtain ⟨h0, hp⟩ := hp
      refine j_is g 4 (by decide +kernel) (by decide +kernel) (by decide +kernel) h0 ?_
      refine j_aload_n g (i := 0) (by decide +kernel) rfl ?_
      refine j_gA g (b := 540) f1_29 (by decide +kernel) (by decide +kernel) (by decide +kernel) (by decide +kernel) ?_
      refine j_iload_n g (i := 1) (by decide +kernel) rfl ?_
      refine j_iload g (i := 4) (by decide +kernel) rfl ?_
      refine j_if_eq g (off := 12) (tgt := 90) (by decide +kernel) (by decide) (fun c => absurd c (by first | decide | (intro h; exact h rfl))) (fun _ => ?_)
      refine j_aload_n g (i := 0) (by decide +kernel) rfl ?_
      refine j_gA g (b := 532) f1_15 (by decide +kernel) (by decide +kernel) (by decide +kernel) (by decide +kernel) ?_
      refine j_iload_n g (i := 3) (by decide +kernel) rfl ?_
      obtain ⟨h0, hp⟩ := hp
      refine j_ia g 4 (by decide +kernel) (by decide +kernel) (by decide +kernel) h0 ?_
      refine j_goto g (off := 4) (tgt := 91) (by decide +kernel) (by decide) ?_
      obtain ⟨h0, hp⟩ := hp
      refine j_is g 4 (by decide +kernel) (by decide +kernel) (by decide +kernel) h0 ?_
      refine hr.2.2.2 _ _ _ (by decide +kernel) rfl rfl ?_
      · unfold w_X1_layOn; first | rfl | (simp only [if_neg (show ¬ (¬ a2 = 1) from c2), if_neg (show ¬ (¬ (M.1 531 (Int32.toNatClampNeg a3)) = (-1)) from c24)]; done) | (simp only [if_neg (show ¬ (¬ a2 = 1) from c2), if_neg (show ¬ (¬ (M.1 531 (Int32.toNatClampNeg a3)) = (-1)) from c24)]; rfl)
def r_X7_shelf (M : Mm) (a1 : Int32) (a2 : Int32) (a3 : Int32) : Int32 := if (b2i (0 ≤ a1 ∧ a1 < 4)) = 0 then (-1) else if ¬ (b2i (0 ≤ a2 ∧ a2 ≤ 2)) = 0 then (if ¬ a2 = 0 then (if ¬ a2 = 1 then 1 else if ¬ (b2i (0 ≤ a3 ∧ a3 < 4)) = 0 then 1 else (-1)) else if (b2i (0 ≤ a3 ∧ a3 < M.1 100 3)) = 0 then (-1) else if ¬ a2 = 1 then 1 else if ¬ (b2i (0 ≤ a3 ∧ a3 < 4)) = 0 then 1 else (-1)) else (-1)
def w_X7_shelf (M : Mm) (a1 : Int32) (a2 : Int32) (a3 : Int32) : Mm := if (b2i (0 ≤ a1 ∧ a1 < 4)) = 0 then M else if ¬ (b2i (0 ≤ a2 ∧ a2 ≤ 2)) = 0 then (if ¬ a2 = 0 then (if ¬ a2 = 1 then (w_X1_layOn M a1 a2 a3) else if ¬ (b2i (0 ≤ a3 ∧ a3 < 4)) = 0 then (w_X1_layOn M a1 a2 a3) else M) else if (b2i (0 ≤ a3 ∧ a3 < M.1 100 3)) = 0 then M else if ¬ a2 = 1 then (w_X1_layOn M a1 a2 a3) else if ¬ (b2i (0 ≤ a3 ∧ a3 < 4)) = 0 then (w_X1_layOn M a1 a2 a3) else M) else M
def p_X7_shelf (M : Mm) (a1 : Int32) (a2 : Int32) (a3 : Int32) : Prop := (if (b2i (0 ≤ a1 ∧ a1 < 4)) = 0 then True else (if ¬ (b2i (0 ≤ a2 ∧ a2 ≤ 2)) = 0 then (if ¬ a2 = 0 then (if ¬ a2 = 1 then (p_X1_layOn M a1 a2 a3) ∧ True else (if ¬ (b2i (0 ≤ a3 ∧ a3 < 4)) = 0 then (p_X1_layOn M a1 a2 a3) ∧ True else True)) else (if (b2i (0 ≤ a3 ∧ a3 < M.1 100 3)) = 0 then True else (if ¬ a2 = 1 then (p_X1_layOn M a1 a2 a3) ∧ True else (if ¬ (b2i (0 ≤ a3 ∧ a3 < 4)) = 0 then (p_X1_layOn M a1 a2 a3) ∧ True else True)))) else True))
theorem rnX7_shelf {d : Nat} {M : Mm} {a1 : Int32} {a2 : Int32} {a3 : Int32}  (hp : p_X7_shelf M a1 a2 a3) : Rn (d + 1) mX7_shelf [.ref 1, .int a1, .int a2, .int a3] M (some (.int (r_X7_shelf M a1 a2 a3))) (w_X7_shelf M a1 a2 a3) := by
  refine Rn.of [some (.ref 1), some (.int a1), some (.int a2), some (.int a3)] (by decide +kernel) rfl (Nat.le_of_ble_eq_true rfl) rfl (fun J g hr => ?_)
  unfold p_X7_shelf at hp
  refine j_iload_n g (i := 1) (by decide +kernel) rfl ?_
  refine j_cS1r g s7_278 (by decide +kernel) (Nat.le_of_ble_eq_true rfl) (rnX1_isNumber) ?_
  refine j_if_eq g (off := 12) (tgt := 16) (by decide +kernel) (by decide) (fun c4 => ?_) (fun c4 => ?_)
  · rw [if_pos (show (b2i (0 ≤ a1 ∧ a1 < 4)) = 0 from c4)] at hp
    refine j_iconst g (n := -1) (-1) (by decide +kernel) rfl ?_
    refine hr.1 _ _ _ _ (by decide +kernel) ⟨_, rfl, by first | rfl | exact b2i_nar | rfl⟩ ?_ ?_
    · unfold r_X7_shelf; first | rfl | (simp only [if_pos (show (b2i (0 ≤ a1 ∧ a1 < 4)) = 0 from c4)]; done) | (simp only [if_pos (show (b2i (0 ≤ a1 ∧ a1 < 4)) = 0 from c4)]; rfl)
    · unfold w_X7_shelf; first | rfl | (simp only [if_pos (show (b2i (0 ≤ a1 ∧ a1 < 4)) = 0 from c4)]; done) | (simp only [if_pos (show (b2i (0 ≤ a1 ∧ a1 < 4)) = 0 from c4)]; rfl)
  · rw [if_neg (show ¬ ((b2i (0 ≤ a1 ∧ a1 < 4)) = 0) from c4)] at hp
    refine j_iload_n g (i := 2) (by decide +kernel) rfl ?_
    refine j_iconst g (n := 0) (0) (by decide +kernel) rfl ?_
    refine j_iconst g (n := 2) (2) (by decide +kernel) rfl ?_
    refine j_cS3r g s7_87 (by decide +kernel) (Nat.le_of_ble_eq_true rfl) (rnX7_isWithin) ?_
    refine j_if_ne g (off := 5) (tgt := 18) (by decide +kernel) (by decide) (fun c13 => ?_) (fun c13 => ?_)
    · rw [if_pos (show ¬ (b2i (0 ≤ a2 ∧ a2 ≤ 2)) = 0 from c13)] at hp
      refine j_iload_n g (i := 2) (by decide +kernel) rfl ?_
      refine j_if_ne g (off := 14) (tgt := 33) (by decide +kernel) (by decide) (fun c19 => ?_) (fun c19 => ?_)
      · rw [if_pos (show ¬ a2 = 0 from c19)] at hp
        refine j_iload_n g (i := 2) (by decide +kernel) rfl ?_
        refine j_iconst g (n := 1) (1) (by decide +kernel) rfl ?_
        refine j_icmp_ne g (off := 12) (tgt := 47) (by decide +kernel) (by decide) (fun c35 => ?_) (fun c35 => ?_)
        · rw [if_pos (show ¬ a2 = 1 from c35)] at hp
          refine j_aload_n g (i := 0) (by decide +kernel) rfl ?_
          refine j_gA g (b := 530) f7_47 (by decide +kernel) (by decide +kernel) (by decide +kernel) (by decide +kernel) ?_
          refine j_iload_n g (i := 1) (by decide +kernel) rfl ?_
          refine j_iload_n g (i := 2) (by decide +kernel) rfl ?_
          refine j_iload_n g (i := 3) (by decide +kernel) rfl ?_
          obtain ⟨h0, hp⟩ := hp
          refine j_cV3v g v7_292 ⟨rfl, by decide⟩ (by decide +kernel) (by decide +kernel) (Nat.le_of_ble_eq_true rfl) (rnX1_layOn h0) ?_
          refine j_iconst g (n := 1) (1) (by decide +kernel) rfl ?_
          refine hr.1 _ _ _ _ (by decide +kernel) ⟨_, rfl, by first | rfl | exact b2i_nar | rfl⟩ ?_ ?_
          · unfold r_X7_shelf; first | rfl | (simp only [if_neg (show ¬ ((b2i (0 ≤ a1 ∧ a1 < 4)) = 0) from c4), if_pos (show ¬ (b2i (0 ≤ a2 ∧ a2 ≤ 2)) = 0 from c13), if_pos (show ¬ a2 = 0 from c19), if_pos (show ¬ a2 = 1 from c35)]; done) | (simp only [if_neg (show ¬ ((b2i (0 ≤ a1 ∧ a1 < 4)) = 0) from c4), if_pos (show ¬ (b2i (0 ≤ a2 ∧ a2 ≤ 2)) = 0 from c13), if_pos (show ¬ a2 = 0 from c19), if_pos (show ¬ a2 = 1 from c35)]; rfl)
          · unfold w_X7_shelf; first | rfl | (simp only [if_neg (show ¬ ((b2i (0 ≤ a1 ∧ a1 < 4)) = 0) from c4), if_pos (show ¬ (b2i (0 ≤ a2 ∧ a2 ≤ 2)) = 0 from c13), if_pos (show ¬ a2 = 0 from c19), if_pos (show ¬ a2 = 1 from c35)]; done) | (simp only [if_neg (show ¬ ((b2i (0 ≤ a1 ∧ a1 < 4)) = 0) from c4), if_pos (show ¬ (b2i (0 ≤ a2 ∧ a2 ≤ 2)) = 0 from c13), if_pos (show ¬ a2 = 0 from c19), if_pos (show ¬ a2 = 1 from c35)]; rfl)
        · rw [if_neg (show ¬ (¬ a2 = 1) from c35)] at hp
          refine j_iload_n g (i := 3) (by decide +kernel) rfl ?_
          refine j_cS1r g s7_278 (by decide +kernel) (Nat.le_of_ble_eq_true rfl) (rnX1_isNumber) ?_
          refine j_if_ne g (off := 5) (tgt := 47) (by decide +kernel) (by decide) (fun c42 => ?_) (fun c42 => ?_)
          · rw [if_pos (show ¬ (b2i (0 ≤ a3 ∧ a3 < 4)) = 0 from c42)] at hp
            refine j_aload_n g (i := 0) (by decide +kernel) rfl ?_
            refine j_gA g (b := 530) f7_47 (by decide +kernel) (by decide +kernel) (by decide +kernel) (by decide +kernel) ?_
            refine j_iload_n g (i := 1) (by decide +kernel) rfl ?_
            refine j_iload_n g (i := 2) (by decide +kernel) rfl ?_
            refine j_iload_n g (i := 3) (by decide +kernel) rfl ?_
            obtain ⟨h0, hp⟩ := hp
            refine j_cV3v g v7_292 ⟨rfl, by decide⟩ (by decide +kernel) (by decide +kernel) (Nat.le_of_ble_eq_true rfl) (rnX1_layOn h0) ?_
            refine j_iconst g (n := 1) (1) (by decide +kernel) rfl ?_
            refine hr.1 _ _ _ _ (by decide +kernel) ⟨_, rfl, by first | rfl | exact b2i_nar | rfl⟩ ?_ ?_
            · unfold r_X7_shelf; first | rfl | (simp only [if_neg (show ¬ ((b2i (0 ≤ a1 ∧ a1 < 4)) = 0) from c4), if_pos (show ¬ (b2i (0 ≤ a2 ∧ a2 ≤ 2)) = 0 from c13), if_pos (show ¬ a2 = 0 from c19), if_neg (show ¬ (¬ a2 = 1) from c35), if_pos (show ¬ (b2i (0 ≤ a3 ∧ a3 < 4)) = 0 from c42)]; done) | (simp only [if_neg (show ¬ ((b2i (0 ≤ a1 ∧ a1 < 4)) = 0) from c4), if_pos (show ¬ (b2i (0 ≤ a2 ∧ a2 ≤ 2)) = 0 from c13), if_pos (show ¬ a2 = 0 from c19), if_neg (show ¬ (¬ a2 = 1) from c35), if_pos (show ¬ (b2i (0 ≤ a3 ∧ a3 < 4)) = 0 from c42)]; rfl)
            · unfold w_X7_shelf; first | rfl | (simp only [if_neg (show ¬ ((b2i (0 ≤ a1 ∧ a1 < 4)) = 0) from c4), if_pos (show ¬ (b2i (0 ≤ a2 ∧ a2 ≤ 2)) = 0 from c13), if_pos (show ¬ a2 = 0 from c19), if_neg (show ¬ (¬ a2 = 1) from c35), if_pos (show ¬ (b2i (0 ≤ a3 ∧ a3 < 4)) = 0 from c42)]; done) | (simp only [if_neg (show ¬ ((b2i (0 ≤ a1 ∧ a1 < 4)) = 0) from c4), if_pos (show ¬ (b2i (0 ≤ a2 ∧ a2 ≤ 2)) = 0 from c13), if_pos (show ¬ a2 = 0 from c19), if_neg (show ¬ (¬ a2 = 1) from c35), if_pos (show ¬ (b2i (0 ≤ a3 ∧ a3 < 4)) = 0 from c42)]; rfl)
          · rw [if_neg (show ¬ (¬ (b2i (0 ≤ a3 ∧ a3 < 4)) = 0) from c42)] at hp
            refine j_iconst g (n := -1) (-1) (by decide +kernel) rfl ?_
            refine hr.1 _ _ _ _ (by decide +kernel) ⟨_, rfl, by first | rfl | exact b2i_nar | rfl⟩ ?_ ?_
            · unfold r_X7_shelf; first | rfl | (simp only [if_neg (show ¬ ((b2i (0 ≤ a1 ∧ a1 < 4)) = 0) from c4), if_pos (show ¬ (b2i (0 ≤ a2 ∧ a2 ≤ 2)) = 0 from c13), if_pos (show ¬ a2 = 0 from c19), if_neg (show ¬ (¬ a2 = 1) from c35), if_neg (show ¬ (¬ (b2i (0 ≤ a3 ∧ a3 < 4)) = 0) from c42)]; done) | (simp only [if_neg (show ¬ ((b2i (0 ≤ a1 ∧ a1 < 4)) = 0) from c4), if_pos (show ¬ (b2i (0 ≤ a2 ∧ a2 ≤ 2)) = 0 from c13), if_pos (show ¬ a2 = 0 from c19), if_neg (show ¬ (¬ a2 = 1) from c35), if_neg (show ¬ (¬ (b2i (0 ≤ a3 ∧ a3 < 4)) = 0) from c42)]; rfl)
            · unfold w_X7_shelf; first | rfl | (simp only [if_neg (show ¬ ((b2i (0 ≤ a1 ∧ a1 < 4)) = 0) from c4), if_pos (show ¬ (b2i (0 ≤ a2 ∧ a2 ≤ 2)) = 0 from c13), if_pos (show ¬ a2 = 0 from c19), if_neg (show ¬ (¬ a2 = 1) from c35), if_neg (show ¬ (¬ (b2i (0 ≤ a3 ∧ a3 < 4)) = 0) from c42)]; done) | (simp only [if_neg (show ¬ ((b2i (0 ≤ a1 ∧ a1 < 4)) = 0) from c4), if_pos (show ¬ (b2i (0 ≤ a2 ∧ a2 ≤ 2)) = 0 from c13), if_pos (show ¬ a2 = 0 from c19), if_neg (show ¬ (¬ a2 = 1) from c35), if_neg (show ¬ (¬ (b2i (0 ≤ a3 ∧ a3 < 4)) = 0) from c42)]; rfl)
      · rw [if_neg (show ¬ (¬ a2 = 0) from c19)] at hp
        refine j_aload_n g (i := 0) (by decide +kernel) rfl ?_
        refine j_gA g (b := 100) f7_20 (by decide +kernel) (by decide +kernel) (by decide +kernel) (by decide +kernel) ?_
        refine j_iload_n g (i := 3) (by decide +kernel) rfl ?_
        refine j_cV1r g v7_234 ⟨rfl, by decide⟩ (by decide +kernel) (by decide +kernel) (Nat.le_of_ble_eq_true rfl) (rnX5_hasRule) ?_
        refine j_if_eq g (off := 15) (tgt := 45) (by decide +kernel) (by decide) (fun c30 => ?_) (fun c30 => ?_)
        · rw [if_pos (show (b2i (0 ≤ a3 ∧ a3 < M.1 100 3)) = 0 from c30)] at hp
          refine j_iconst g (n := -1) (-1) (by decide +kernel) rfl ?_
          refine hr.1 _ _ _ _ (by decide +kernel) ⟨_, rfl, by first | rfl | exact b2i_nar | rfl⟩ ?_ ?_
          · unfold r_X7_shelf; first | rfl | (simp only [if_neg (show ¬ ((b2i (0 ≤ a1 ∧ a1 < 4)) = 0) from c4), if_pos (show ¬ (b2i (0 ≤ a2 ∧ a2 ≤ 2)) = 0 from c13), if_neg (show ¬ (¬ a2 = 0) from c19), if_pos (show (b2i (0 ≤ a3 ∧ a3 < M.1 100 3)) = 0 from c30)]; done) | (simp only [if_neg (show ¬ ((b2i (0 ≤ a1 ∧ a1 < 4)) = 0) from c4), if_pos (show ¬ (b2i (0 ≤ a2 ∧ a2 ≤ 2)) = 0 from c13), if_neg (show ¬ (¬ a2 = 0) from c19), if_pos (show (b2i (0 ≤ a3 ∧ a3 < M.1 100 3)) = 0 from c30)]; rfl)
          · unfold w_X7_shelf; first | rfl | (simp only [if_neg (show ¬ ((b2i (0 ≤ a1 ∧ a1 < 4)) = 0) from c4), if_pos (show ¬ (b2i (0 ≤ a2 ∧ a2 ≤ 2)) = 0 from c13), if_neg (show ¬ (¬ a2 = 0) from c19), if_pos (show (b2i (0 ≤ a3 ∧ a3 < M.1 100 3)) = 0 from c30)]; done) | (simp only [if_neg (show ¬ ((b2i (0 ≤ a1 ∧ a1 < 4)) = 0) from c4), if_pos (show ¬ (b2i (0 ≤ a2 ∧ a2 ≤ 2)) = 0 from c13), if_neg (show ¬ (¬ a2 = 0) from c19), if_pos (show (b2i (0 ≤ a3 ∧ a3 < M.1 100 3)) = 0 from c30)]; rfl)
        · rw [if_neg (show ¬ ((b2i (0 ≤ a3 ∧ a3 < M.1 100 3)) = 0) from c30)] at hp
          refine j_iload_n g (i := 2) (by decide +kernel) rfl ?_
          refine j_iconst g (n := 1) (1) (by decide +kernel) rfl ?_
          refine j_icmp_ne g (off := 12) (tgt := 47) (by decide +kernel) (by decide) (fun c35 => ?_) (fun c35 => ?_)
          · rw [if_pos (show ¬ a2 = 1 from c35)] at hp
            refine j_aload_n g (i := 0) (by decide +kernel) rfl ?_
            refine j_gA g (b := 530) f7_47 (by decide +kernel) (by decide +kernel) (by decide +kernel) (by decide +kernel) ?_
            refine j_iload_n g (i := 1) (by decide +kernel) rfl ?_
            refine j_iload_n g (i := 2) (by decide +kernel) rfl ?_
            refine j_iload_n g (i := 3) (by decide +kernel) rfl ?_
            obtain ⟨h0, hp⟩ := hp
            refine j_cV3v g v7_292 ⟨rfl, by decide⟩ (by decide +kernel) (by decide +kernel) (Nat.le_of_ble_eq_true rfl) (rnX1_layOn h0) ?_
            refine j_iconst g (n := 1) (1) (by decide +kernel) rfl ?_
            refine hr.1 _ _ _ _ (by decide +kernel) ⟨_, rfl, by first | rfl | exact b2i_nar | rfl⟩ ?_ ?_
            · unfold r_X7_shelf; first | rfl | (simp only [if_neg (show ¬ ((b2i (0 ≤ a1 ∧ a1 < 4)) = 0) from c4), if_pos (show ¬ (b2i (0 ≤ a2 ∧ a2 ≤ 2)) = 0 from c13), if_neg (show ¬ (¬ a2 = 0) from c19), if_neg (show ¬ ((b2i (0 ≤ a3 ∧ a3 < M.1 100 3)) = 0) from c30), if_pos (show ¬ a2 = 1 from c35)]; done) | (simp only [if_neg (show ¬ ((b2i (0 ≤ a1 ∧ a1 < 4)) = 0) from c4), if_pos (show ¬ (b2i (0 ≤ a2 ∧ a2 ≤ 2)) = 0 from c13), if_neg (show ¬ (¬ a2 = 0) from c19), if_neg (show ¬ ((b2i (0 ≤ a3 ∧ a3 < M.1 100 3)) = 0) from c30), if_pos (show ¬ a2 = 1 from c35)]; rfl)
            · unfold w_X7_shelf; first | rfl | (simp only [if_neg (show ¬ ((b2i (0 ≤ a1 ∧ a1 < 4)) = 0) from c4), if_pos (show ¬ (b2i (0 ≤ a2 ∧ a2 ≤ 2)) = 0 from c13), if_neg (show ¬ (¬ a2 = 0) from c19), if_neg (show ¬ ((b2i (0 ≤ a3 ∧ a3 < M.1 100 3)) = 0) from c30), if_pos (show ¬ a2 = 1 from c35)]; done) | (simp only [if_neg (show ¬ ((b2i (0 ≤ a1 ∧ a1 < 4)) = 0) from c4), if_pos (show ¬ (b2i (0 ≤ a2 ∧ a2 ≤ 2)) = 0 from c13), if_neg (show ¬ (¬ a2 = 0) from c19), if_neg (show ¬ ((b2i (0 ≤ a3 ∧ a3 < M.1 100 3)) = 0) from c30), if_pos (show ¬ a2 = 1 from c35)]; rfl)
          · rw [if_neg (show ¬ (¬ a2 = 1) from c35)] at hp
            refine j_iload_n g (i := 3) (by decide +kernel) rfl ?_
            refine j_cS1r g s7_278 (by decide +kernel) (Nat.le_of_ble_eq_true rfl) (rnX1_isNumber) ?_
            refine j_if_ne g (off := 5) (tgt := 47) (by decide +kernel) (by decide) (fun c42 => ?_) (fun c42 => ?_)
            · rw [if_pos (show ¬ (b2i (0 ≤ a3 ∧ a3 < 4)) = 0 from c42)] at hp
              refine j_aload_n g (i := 0) (by decide +kernel) rfl ?_
              refine j_gA g (b := 530) f7_47 (by decide +kernel) (by decide +kernel) (by decide +kernel) (by decide +kernel) ?_
              refine j_iload_n g (i := 1) (by decide +kernel) rfl ?_
              refine j_iload_n g (i := 2) (by decide +kernel) rfl ?_
              refine j_iload_n g (i := 3) (by decide +kernel) rfl ?_
              obtain ⟨h0, hp⟩ := hp
              refine j_cV3v g v7_292 ⟨rfl, by decide⟩ (by decide +kernel) (by decide +kernel) (Nat.le_of_ble_eq_true rfl) (rnX1_layOn h0) ?_
              refine j_iconst g (n := 1) (1) (by decide +kernel) rfl ?_
              refine hr.1 _ _ _ _ (by decide +kernel) ⟨_, rfl, by first | rfl | exact b2i_nar | rfl⟩ ?_ ?_
              · unfold r_X7_shelf; first | rfl | (simp only [if_neg (show ¬ ((b2i (0 ≤ a1 ∧ a1 < 4)) = 0) from c4), if_pos (show ¬ (b2i (0 ≤ a2 ∧ a2 ≤ 2)) = 0 from c13), if_neg (show ¬ (¬ a2 = 0) from c19), if_neg (show ¬ ((b2i (0 ≤ a3 ∧ a3 < M.1 100 3)) = 0) from c30), if_neg (show ¬ (¬ a2 = 1) from c35), if_pos (show ¬ (b2i (0 ≤ a3 ∧ a3 < 4)) = 0 from c42)]; done) | (simp only [if_neg (show ¬ ((b2i (0 ≤ a1 ∧ a1 < 4)) = 0) from c4), if_pos (show ¬ (b2i (0 ≤ a2 ∧ a2 ≤ 2)) = 0 from c13), if_neg (show ¬ (¬ a2 = 0) from c19), if_neg (show ¬ ((b2i (0 ≤ a3 ∧ a3 < M.1 100 3)) = 0) from c30), if_neg (show ¬ (¬ a2 = 1) from c35), if_pos (show ¬ (b2i (0 ≤ a3 ∧ a3 < 4)) = 0 from c42)]; rfl)
              · unfold w_X7_shelf; first | rfl | (simp only [if_neg (show ¬ ((b2i (0 ≤ a1 ∧ a1 < 4)) = 0) from c4), if_pos (show ¬ (b2i (0 ≤ a2 ∧ a2 ≤ 2)) = 0 from c13), if_neg (show ¬ (¬ a2 = 0) from c19), if_neg (show ¬ ((b2i (0 ≤ a3 ∧ a3 < M.1 100 3)) = 0) from c30), if_neg (show ¬ (¬ a2 = 1) from c35), if_pos (show ¬ (b2i (0 ≤ a3 ∧ a3 < 4)) = 0 from c42)]; done) | (simp only [if_neg (show ¬ ((b2i (0 ≤ a1 ∧ a1 < 4)) = 0) from c4), if_pos (show ¬ (b2i (0 ≤ a2 ∧ a2 ≤ 2)) = 0 from c13), if_neg (show ¬ (¬ a2 = 0) from c19), if_neg (show ¬ ((b2i (0 ≤ a3 ∧ a3 < M.1 100 3)) = 0) from c30), if_neg (show ¬ (¬ a2 = 1) from c35), if_pos (show ¬ (b2i (0 ≤ a3 ∧ a3 < 4)) = 0 from c42)]; rfl)
            · rw [if_neg (show ¬ (¬ (b2i (0 ≤ a3 ∧ a3 < 4)) = 0) from c42)] at hp
              refine j_iconst g (n := -1) (-1) (by decide +kernel) rfl ?_
              refine hr.1 _ _ _ _ (by decide +kernel) ⟨_, rfl, by first | rfl | exact b2i_nar | rfl⟩ ?_ ?_
              · unfold r_X7_shelf; first | rfl | (simp only [if_neg (show ¬ ((b2i (0 ≤ a1 ∧ a1 < 4)) = 0) from c4), if_pos (show ¬ (b2i (0 ≤ a2 ∧ a2 ≤ 2)) = 0 from c13), if_neg (show ¬ (¬ a2 = 0) from c19), if_neg (show ¬ ((b2i (0 ≤ a3 ∧ a3 < M.1 100 3)) = 0) from c30), if_neg (show ¬ (¬ a2 = 1) from c35), if_neg (show ¬ (¬ (b2i (0 ≤ a3 ∧ a3 < 4)) = 0) from c42)]; done) | (simp only [if_neg (show ¬ ((b2i (0 ≤ a1 ∧ a1 < 4)) = 0) from c4), if_pos (show ¬ (b2i (0 ≤ a2 ∧ a2 ≤ 2)) = 0 from c13), if_neg (show ¬ (¬ a2 = 0) from c19), if_neg (show ¬ ((b2i (0 ≤ a3 ∧ a3 < M.1 100 3)) = 0) from c30), if_neg (show ¬ (¬ a2 = 1) from c35), if_neg (show ¬ (¬ (b2i (0 ≤ a3 ∧ a3 < 4)) = 0) from c42)]; rfl)
              · unfold w_X7_shelf; first | rfl | (simp only [if_neg (show ¬ ((b2i (0 ≤ a1 ∧ a1 < 4)) = 0) from c4), if_pos (show ¬ (b2i (0 ≤ a2 ∧ a2 ≤ 2)) = 0 from c13), if_neg (show ¬ (¬ a2 = 0) from c19), if_neg (show ¬ ((b2i (0 ≤ a3 ∧ a3 < M.1 100 3)) = 0) from c30), if_neg (show ¬ (¬ a2 = 1) from c35), if_neg (show ¬ (¬ (b2i (0 ≤ a3 ∧ a3 < 4)) = 0) from c42)]; done) | (simp only [if_neg (show ¬ ((b2i (0 ≤ a1 ∧ a1 < 4)) = 0) from c4), if_pos (show ¬ (b2i (0 ≤ a2 ∧ a2 ≤ 2)) = 0 from c13), if_neg (show ¬ (¬ a2 = 0) from c19), if_neg (show ¬ ((b2i (0 ≤ a3 ∧ a3 < M.1 100 3)) = 0) from c30), if_neg (show ¬ (¬ a2 = 1) from c35), if_neg (show ¬ (¬ (b2i (0 ≤ a3 ∧ a3 < 4)) = 0) from c42)]; rfl)
    · rw [if_neg (show ¬ (¬ (b2i (0 ≤ a2 ∧ a2 ≤ 2)) = 0) from c13)] at hp
      refine j_iconst g (n := -1) (-1) (by decide +kernel) rfl ?_
      refine hr.1 _ _ _ _ (by decide +kernel) ⟨_, rfl, by first | rfl | exact b2i_nar | rfl⟩ ?_ ?_
      · unfold r_X7_shelf; first | rfl | (simp only [if_neg (show ¬ ((b2i (0 ≤ a1 ∧ a1 < 4)) = 0) from c4), if_neg (show ¬ (¬ (b2i (0 ≤ a2 ∧ a2 ≤ 2)) = 0) from c13)]; done) | (simp only [if_neg (show ¬ ((b2i (0 ≤ a1 ∧ a1 < 4)) = 0) from c4), if_neg (show ¬ (¬ (b2i (0 ≤ a2 ∧ a2 ≤ 2)) = 0) from c13)]; rfl)
      · unfold w_X7_shelf; first | rfl | (simp only [if_neg (show ¬ ((b2i (0 ≤ a1 ∧ a1 < 4)) = 0) from c4), if_neg (show ¬ (¬ (b2i (0 ≤ a2 ∧ a2 ≤ 2)) = 0) from c13)]; done) | (simp only [if_neg (show ¬ ((b2i (0 ≤ a1 ∧ a1 < 4)) = 0) from c4), if_neg (show ¬ (¬ (b2i (0 ≤ a2 ∧ a2 ≤ 2)) = 0) from c13)]; rfl)
def r_X7_trace (M : Mm) (a1 : Int32) : Int32 := if (b2i (0 ≤ a1 ∧ a1 ≤ ((M.1 520 1) - 1))) = 0 then (-3) else M.1 521 (Int32.toNatClampNeg a1)
def p_X7_trace (M : Mm) (a1 : Int32) : Prop := (if (b2i (0 ≤ a1 ∧ a1 ≤ ((M.1 520 1) - 1))) = 0 then True else (vp_in a1 30) ∧ True)
theorem rnX7_trace {d : Nat} {M : Mm} {a1 : Int32}  (hp : p_X7_trace M a1) : Rn (d + 1) mX7_trace [.ref 1, .int a1] M (some (.int (r_X7_trace M a1))) M := by
  refine Rn.of [some (.ref 1), some (.int a1)] (by decide +kernel) rfl (Nat.le_of_ble_eq_true rfl) rfl (fun J g hr => ?_)
  unfold p_X7_trace at hp
  refine j_iload_n g (i := 1) (by decide +kernel) rfl ?_
  refine j_iconst g (n := 0) (0) (by decide +kernel) rfl ?_
  refine j_aload_n g (i := 0) (by decide +kernel) rfl ?_
  refine j_gA g (b := 520) f7_40 (by decide +kernel) (by decide +kernel) (by decide +kernel) (by decide +kernel) ?_
  refine j_gI g f7_307 (by decide +kernel) (by decide +kernel) (by decide +kernel) ?_
  refine j_iconst g (n := 1) (1) (by decide +kernel) rfl ?_
  refine j_isub g (by decide +kernel) ?_
  refine j_cS3r g s7_87 (by decide +kernel) (Nat.le_of_ble_eq_true rfl) (rnX7_isWithin) ?_
  refine j_if_eq g (off := 15) (tgt := 29) (by decide +kernel) (by decide) (fun c14 => ?_) (fun c14 => ?_)
  · rw [if_pos (show (b2i (0 ≤ a1 ∧ a1 ≤ ((M.1 520 1) - 1))) = 0 from c14)] at hp
    refine j_bipush g (n := -3) (-3) (by decide +kernel) (by decide +kernel) ?_
    refine hr.1 _ _ _ _ (by decide +kernel) ⟨_, rfl, by first | rfl | exact b2i_nar | rfl⟩ ?_ ?_
    · unfold r_X7_trace; first | rfl | (simp only [if_pos (show (b2i (0 ≤ a1 ∧ a1 ≤ ((M.1 520 1) - 1))) = 0 from c14)]; done) | (simp only [if_pos (show (b2i (0 ≤ a1 ∧ a1 ≤ ((M.1 520 1) - 1))) = 0 from c14)]; rfl)
    · rfl
  · rw [if_neg (show ¬ ((b2i (0 ≤ a1 ∧ a1 ≤ ((M.1 520 1) - 1))) = 0) from c14)] at hp
    refine j_aload_n g (i := 0) (by decide +kernel) rfl ?_
    refine j_gA g (b := 520) f7_40 (by decide +kernel) (by decide +kernel) (by decide +kernel) (by decide +kernel) ?_
    refine j_gA g (b := 521) f7_312 (by decide +kernel) (by decide +kernel) (by decide +kernel) (by decide +kernel) ?_
    refine j_iload_n g (i := 1) (by decide +kernel) rfl ?_
    obtain ⟨h0, hp⟩ := hp
    refine j_ia g 30 (by decide +kernel) (by decide +kernel) (by decide +kernel) h0 ?_
    refine j_goto g (off := 5) (tgt := 31) (by decide +kernel) (by decide) ?_
    refine hr.1 _ _ _ _ (by decide +kernel) ⟨_, rfl, by first | rfl | exact b2i_nar | rfl⟩ ?_ ?_
    · unfold r_X7_trace; first | rfl | (simp only [if_neg (show ¬ ((b2i (0 ≤ a1 ∧ a1 ≤ ((M.1 520 1) - 1))) = 0) from c14)]; done) | (simp only [if_neg (show ¬ ((b2i (0 ≤ a1 ∧ a1 ≤ ((M.1 520 1) - 1))) = 0) from c14)]; rfl)
    · rfl
def r_X7_row (M : Mm) (a1 : Int32) (a2 : Int32) : Int32 := if (r_X7_hasCell M a1 a2) = 0 then (-9) else M.1 550 (Int32.toNatClampNeg ((a1 * 3) + a2))
def p_X7_row (M : Mm) (a1 : Int32) (a2 : Int32) : Prop := (if (r_X7_hasCell M a1 a2) = 0 then True else (vp_in ((a1 * 3) + a2) 18) ∧ True)
theorem rnX7_row {d : Nat} {M : Mm} {a1 : Int32} {a2 : Int32}  (hp : p_X7_row M a1 a2) : Rn (d + 2) mX7_row [.ref 1, .int a1, .int a2] M (some (.int (r_X7_row M a1 a2))) M := by
  refine Rn.of [some (.ref 1), some (.int a1), some (.int a2)] (by decide +kernel) rfl (Nat.le_of_ble_eq_true rfl) rfl (fun J g hr => ?_)
  unfold p_X7_row at hp
  refine j_aload_n g (i := 0) (by decide +kernel) rfl ?_
  refine j_iload_n g (i := 1) (by decide +kernel) rfl ?_
  refine j_iload_n g (i := 2) (by decide +kernel) rfl ?_
  refine j_cV2r g v7_253 ⟨rfl, by decide⟩ (by decide +kernel) (by decide +kernel) (Nat.le_of_ble_eq_true rfl) (rnX7_hasCell) ?_
  refine j_if_eq g (off := 16) (tgt := 22) (by decide +kernel) (by decide) (fun c6 => ?_) (fun c6 => ?_)
  · rw [if_pos (show (r_X7_hasCell M a1 a2) = 0 from c6)] at hp
    refine j_bipush g (n := -9) (-9) (by decide +kernel) (by decide +kernel) ?_
    refine hr.1 _ _ _ _ (by decide +kernel) ⟨_, rfl, by first | rfl | exact b2i_nar | rfl⟩ ?_ ?_
    · unfold r_X7_row; first | rfl | (simp only [if_pos (show (r_X7_hasCell M a1 a2) = 0 from c6)]; done) | (simp only [if_pos (show (r_X7_hasCell M a1 a2) = 0 from c6)]; rfl)
    · rfl
  · rw [if_neg (show ¬ ((r_X7_hasCell M a1 a2) = 0) from c6)] at hp
    refine j_aload_n g (i := 0) (by decide +kernel) rfl ?_
    refine j_gA g (b := 550) f7_51 (by decide +kernel) (by decide +kernel) (by decide +kernel) (by decide +kernel) ?_
    refine j_iload_n g (i := 1) (by decide +kernel) rfl ?_
    refine j_iconst g (n := 3) (3) (by decide +kernel) rfl ?_
    refine j_imul g (by decide +kernel) ?_
    refine j_iload_n g (i := 2) (by decide +kernel) rfl ?_
    refine j_iadd g (by decide +kernel) ?_
    obtain ⟨h0, hp⟩ := hp
    refine j_ia g 18 (by decide +kernel) (by decide +kernel) (by decide +kernel) h0 ?_
    refine j_goto g (off := 5) (tgt := 24) (by decide +kernel) (by decide) ?_
    refine hr.1 _ _ _ _ (by decide +kernel) ⟨_, rfl, by first | rfl | exact b2i_nar | rfl⟩ ?_ ?_
    · unfold r_X7_row; first | rfl | (simp only [if_neg (show ¬ ((r_X7_hasCell M a1 a2) = 0) from c6)]; done) | (simp only [if_neg (show ¬ ((r_X7_hasCell M a1 a2) = 0) from c6)]; rfl)
    · rfl
def r_X7_alterRow (M : Mm) (a1 : Int32) (a2 : Int32) (a3 : Int32) : Int32 := if ¬ (r_X7_hasCell M a1 a2) = 0 then M.1 550 (Int32.toNatClampNeg ((a1 * 3) + a2)) else (-9)
def w_X7_alterRow (M : Mm) (a1 : Int32) (a2 : Int32) (a3 : Int32) : Mm := if ¬ (r_X7_hasCell M a1 a2) = 0 then (wi M 550 (Int32.toNatClampNeg ((a1 * 3) + a2)) a3) else M
def p_X7_alterRow (M : Mm) (a1 : Int32) (a2 : Int32) (a3 : Int32) : Prop := (if ¬ (r_X7_hasCell M a1 a2) = 0 then (vp_in ((a1 * 3) + a2) 18) ∧ (vp_in ((a1 * 3) + a2) 18) ∧ True else True)
theorem rnX7_alterRow {d : Nat} {M : Mm} {a1 : Int32} {a2 : Int32} {a3 : Int32}  (hp : p_X7_alterRow M a1 a2 a3) : Rn (d + 2) mX7_alterRow [.ref 1, .int a1, .int a2, .int a3] M (some (.int (r_X7_alterRow M a1 a2 a3))) (w_X7_alterRow M a1 a2 a3) := by
  refine Rn.of [some (.ref 1), some (.int a1), some (.int a2), some (.int a3), none] (by decide +kernel) rfl (Nat.le_of_ble_eq_true rfl) rfl (fun J g hr => ?_)
  unfold p_X7_alterRow at hp
  refine j_aload_n g (i := 0) (by decide +kernel) rfl ?_
  refine j_iload_n g (i := 1) (by decide +kernel) rfl ?_
  refine j_iload_n g (i := 2) (by decide +kernel) rfl ?_
  refine j_cV2r g v7_253 ⟨rfl, by decide⟩ (by decide +kernel) (by decide +kernel) (Nat.le_of_ble_eq_true rfl) (rnX7_hasCell) ?_
  refine j_if_ne g (off := 6) (tgt := 12) (by decide +kernel) (by decide) (fun c6 => ?_) (fun c6 => ?_)
  · rw [if_pos (show ¬ (r_X7_hasCell M a1 a2) = 0 from c6)] at hp
    refine j_aload_n g (i := 0) (by decide +kernel) rfl ?_
    refine j_gA g (b := 550) f7_51 (by decide +kernel) (by decide +kernel) (by decide +kernel) (by decide +kernel) ?_
    refine j_iload_n g (i := 1) (by decide +kernel) rfl ?_
    refine j_iconst g (n := 3) (3) (by decide +kernel) rfl ?_
    refine j_imul g (by decide +kernel) ?_
    refine j_iload_n g (i := 2) (by decide +kernel) rfl ?_
    refine j_iadd g (by decide +kernel) ?_
    obtain ⟨h0, hp⟩ := hp
    refine j_ia g 18 (by decide +kernel) (by decide +kernel) (by decide +kernel) h0 ?_
    refine j_istore g (i := 4) (by decide +kernel) (by decide) ?_
    dsimp only [stL, clL, hdL]
    refine j_aload_n g (i := 0) (by decide +kernel) rfl ?_
    refine j_gA g (b := 550) f7_51 (by decide +kernel) (by decide +kernel) (by decide +kernel) (by decide +kernel) ?_
    refine j_iload_n g (i := 1) (by decide +kernel) rfl ?_
    refine j_iconst g (n := 3) (3) (by decide +kernel) rfl ?_
    refine j_imul g (by decide +kernel) ?_
    refine j_iload_n g (i := 2) (by decide +kernel) rfl ?_
    refine j_iadd g (by decide +kernel) ?_
    refine j_iload_n g (i := 3) (by decide +kernel) rfl ?_
    obtain ⟨h0, hp⟩ := hp
    refine j_is g 18 (by decide +kernel) (by decide +kernel) (by decide +kernel) h0 ?_
    refine j_iload g (i := 4) (by decide +kernel) rfl ?_
    refine hr.1 _ _ _ _ (by decide +kernel) ⟨_, rfl, by first | rfl | exact b2i_nar | rfl⟩ ?_ ?_
    · unfold r_X7_alterRow; first | rfl | (simp only [if_pos (show ¬ (r_X7_hasCell M a1 a2) = 0 from c6)]; done) | (simp only [if_pos (show ¬ (r_X7_hasCell M a1 a2) = 0 from c6)]; rfl)
    · unfold w_X7_alterRow; first | rfl | (simp only [if_pos (show ¬ (r_X7_hasCell M a1 a2) = 0 from c6)]; done) | (simp only [if_pos (show ¬ (r_X7_hasCell M a1 a2) = 0 from c6)]; rfl)
  · rw [if_neg (show ¬ (¬ (r_X7_hasCell M a1 a2) = 0) from c6)] at hp
    refine j_bipush g (n := -9) (-9) (by decide +kernel) (by decide +kernel) ?_
    refine hr.1 _ _ _ _ (by decide +kernel) ⟨_, rfl, by first | rfl | exact b2i_nar | rfl⟩ ?_ ?_
    · unfold r_X7_alterRow; first | rfl | (simp only [if_neg (show ¬ (¬ (r_X7_hasCell M a1 a2) = 0) from c6)]; done) | (simp only [if_neg (show ¬ (¬ (r_X7_hasCell M a1 a2) = 0) from c6)]; rfl)
    · unfold w_X7_alterRow; first | rfl | (simp only [if_neg (show ¬ (¬ (r_X7_hasCell M a1 a2) = 0) from c6)]; done) | (simp only [if_neg (show ¬ (¬ (r_X7_hasCell M a1 a2) = 0) from c6)]; rfl)
def r_X7_taken (M : Mm) (a1 : Int32) (a2 : Int32) : Int32 := if (b2i (0 ≤ a1 ∧ a1 < 4)) = 0 then (-1) else if ¬ (b2i (10 ≤ a2 ∧ a2 ≤ 13)) = 0 then (if ¬ (r_X7_holdsNow M a1) = 2 then (if ¬ (r_X7_holdsNow M a1) = 1 then (-13) else if ¬ (M.1 539 (Int32.toNatClampNeg a1)) = (a2 - 10) then (-13) else M.1 540 (Int32.toNatClampNeg a1)) else (-11)) else if ¬ (b2i (0 ≤ a2 ∧ a2 ≤ 5)) = 0 then (if ¬ (r_X7_holdsNow M a1) = 2 then (if ¬ (r_X7_holdsNow M a1) = 1 then (if (b2i ((M.1 105 (Int32.toNatClampNeg (M.1 539 (Int32.toNatClampNeg a1)))) = a2 ∨ a2 = 0 ∨ ((M.1 105 (Int32.toNatClampNeg (M.1 539 (Int32.toNatClampNeg a1)))) = 3 ∧ a2 = 2) ∨ ((M.1 105 (Int32.toNatClampNeg (M.1 539 (Int32.toNatClampNeg a1)))) = 4 ∧ a2 = 1))) = 0 then (-13) else M.1 539 (Int32.toNatClampNeg a1)) else (-13)) else (-11)) else (-1)
def p_X7_taken (M : Mm) (a1 : Int32) (a2 : Int32) : Prop := (if (b2i (0 ≤ a1 ∧ a1 < 4)) = 0 then True else (if ¬ (b2i (10 ≤ a2 ∧ a2 ≤ 13)) = 0 then (p_X7_holdsNow M a1) ∧ (if ¬ (r_X7_holdsNow M a1) = 2 then (vp_in a1 4) ∧ (if ¬ (r_X7_holdsNow M a1) = 1 then True else (if ¬ (M.1 539 (Int32.toNatClampNeg a1)) = (a2 - 10) then True else (vp_in a1 4) ∧ True)) else True) else (if ¬ (b2i (0 ≤ a2 ∧ a2 ≤ 5)) = 0 then (p_X7_holdsNow M a1) ∧ (if ¬ (r_X7_holdsNow M a1) = 2 then (vp_in a1 4) ∧ (if ¬ (r_X7_holdsNow M a1) = 1 then (vp_in (M.1 539 (Int32.toNatClampNeg a1)) 4) ∧ (if (b2i ((M.1 105 (Int32.toNatClampNeg (M.1 539 (Int32.toNatClampNeg a1)))) = a2 ∨ a2 = 0 ∨ ((M.1 105 (Int32.toNatClampNeg (M.1 539 (Int32.toNatClampNeg a1)))) = 3 ∧ a2 = 2) ∨ ((M.1 105 (Int32.toNatClampNeg (M.1 539 (Int32.toNatClampNeg a1)))) = 4 ∧ a2 = 1))) = 0 then True else True) else True) else True) else True)))
theorem rnX7_taken {d : Nat} {M : Mm} {a1 : Int32} {a2 : Int32}  (hp : p_X7_taken M a1 a2) : Rn (d + 2) mX7_taken [.ref 1, .int a1, .int a2] M (some (.int (r_X7_taken M a1 a2))) M := by
  refine Rn.of [some (.ref 1), some (.int a1), some (.int a2), none, none, none] (by decide +kernel) rfl (Nat.le_of_ble_eq_true rfl) rfl (fun J g hr => ?_)
  unfold p_X7_taken at hp
  refine j_iload_n g (i := 2) (by decide +kernel) rfl ?_
  refine j_bipush g (n := 10) (10) (by decide +kernel) (by decide +kernel) ?_
  refine j_bipush g (n := 13) (13) (by decide +kernel) (by decide +kernel) ?_
  refine j_cS3r g s7_87 (by decide +kernel) (Nat.le_of_ble_eq_true rfl) (rnX7_isWithin) ?_
  refine j_istore_n g (i := 3) (by decide +kernel) (by decide) ?_
  dsimp only [stL, clL, hdL]
  refine j_iload_n g (i := 1) (by decide +kernel) rfl ?_
  refine j_cS1r g s7_278 (by decide +kernel) (Nat.le_of_ble_eq_true rfl) (rnX1_isNumber) ?_
  refine j_if_eq g (off := 16) (tgt := 29) (by decide +kernel) (by decide) (fun c13 => ?_) (fun c13 => ?_)
  · rw [if_pos (show (b2i (0 ≤ a1 ∧ a1 < 4)) = 0 from c13)] at hp
    refine j_iconst g (n := -1) (-1) (by decide +kernel) rfl ?_
    refine hr.1 _ _ _ _ (by decide +kernel) ⟨_, rfl, by first | rfl | exact b2i_nar | rfl⟩ ?_ ?_
    · unfold r_X7_taken; first | rfl | (simp only [if_pos (show (b2i (0 ≤ a1 ∧ a1 < 4)) = 0 from c13)]; done) | (simp only [if_pos (show (b2i (0 ≤ a1 ∧ a1 < 4)) = 0 from c13)]; rfl)
    · rfl
  · rw [if_neg (show ¬ ((b2i (0 ≤ a1 ∧ a1 < 4)) = 0) from c13)] at hp
    refine j_iload_n g (i := 3) (by decide +kernel) rfl ?_
    refine j_if_ne g (off := 14) (tgt := 31) (by decide +kernel) (by decide) (fun c17 => ?_) (fun c17 => ?_)
    · rw [if_pos (show ¬ (b2i (10 ≤ a2 ∧ a2 ≤ 13)) = 0 from c17)] at hp
      refine j_aload_n g (i := 0) (by decide +kernel) rfl ?_
      refine j_iload_n g (i := 1) (by decide +kernel) rfl ?_
      obtain ⟨h0, hp⟩ := hp
      refine j_cV1r g v7_295 ⟨rfl, by decide⟩ (by decide +kernel) (by decide +kernel) (Nat.le_of_ble_eq_true rfl) (rnX7_holdsNow h0) ?_
      refine j_istore g (i := 4) (by decide +kernel) (by decide) ?_
      dsimp only [stL, clL, hdL]
      refine j_iload g (i := 4) (by decide +kernel) rfl ?_
      refine j_iconst g (n := 2) (2) (by decide +kernel) rfl ?_
      refine j_icmp_ne g (off := 6) (tgt := 47) (by decide +kernel) (by decide) (fun c41 => ?_) (fun c41 => ?_)
      · rw [if_pos (show ¬ (r_X7_holdsNow M a1) = 2 from c41)] at hp
        refine j_aload_n g (i := 0) (by decide +kernel) rfl ?_
        refine j_gA g (b := 530) f7_47 (by decide +kernel) (by decide +kernel) (by decide +kernel) (by decide +kernel) ?_
        refine j_gA g (b := 539) f7_298 (by decide +kernel) (by decide +kernel) (by decide +kernel) (by decide +kernel) ?_
        refine j_iload_n g (i := 1) (by decide +kernel) rfl ?_
        obtain ⟨h0, hp⟩ := hp
        refine j_ia g 4 (by decide +kernel) (by decide +kernel) (by decide +kernel) h0 ?_
        refine j_istore g (i := 5) (by decide +kernel) (by decide) ?_
        dsimp only [stL, clL, hdL]
        refine j_iload g (i := 4) (by decide +kernel) rfl ?_
        refine j_iconst g (n := 1) (1) (by decide +kernel) rfl ?_
        refine j_icmp_ne g (off := 31) (tgt := 92) (by decide +kernel) (by decide) (fun c61 => ?_) (fun c61 => ?_)
        · rw [if_pos (show ¬ (r_X7_holdsNow M a1) = 1 from c61)] at hp
          refine j_iload_n g (i := 3) (by decide +kernel) rfl ?_
          refine j_if_ne g (off := 25) (tgt := 118) (by decide +kernel) (by decide) (fun c93 => ?_) (fun c93 => by exfalso; revert c93; simpa using c17)
          refine j_bipush g (n := -13) (-13) (by decide +kernel) (by decide +kernel) ?_
          refine hr.1 _ _ _ _ (by decide +kernel) ⟨_, rfl, by first | rfl | exact b2i_nar | rfl⟩ ?_ ?_
          · unfold r_X7_taken; first | rfl | (simp only [if_neg (show ¬ ((b2i (0 ≤ a1 ∧ a1 < 4)) = 0) from c13), if_pos (show ¬ (b2i (10 ≤ a2 ∧ a2 ≤ 13)) = 0 from c17), if_pos (show ¬ (r_X7_holdsNow M a1) = 2 from c41), if_pos (show ¬ (r_X7_holdsNow M a1) = 1 from c61)]; done) | (simp only [if_neg (show ¬ ((b2i (0 ≤ a1 ∧ a1 < 4)) = 0) from c13), if_pos (show ¬ (b2i (10 ≤ a2 ∧ a2 ≤ 13)) = 0 from c17), if_pos (show ¬ (r_X7_holdsNow M a1) = 2 from c41), if_pos (show ¬ (r_X7_holdsNow M a1) = 1 from c61)]; rfl)
          · rfl
        · rw [if_neg (show ¬ (¬ (r_X7_holdsNow M a1) = 1) from c61)] at hp
          refine j_iload_n g (i := 3) (by decide +kernel) rfl ?_
          refine j_if_eq g (off := 24) (tgt := 89) (by decide +kernel) (by decide) (fun c65 => by exfalso; revert c65; simpa using c17) (fun c65 => ?_)
          refine j_iload g (i := 5) (by decide +kernel) rfl ?_
          refine j_iload_n g (i := 2) (by decide +kernel) rfl ?_
          refine j_bipush g (n := 10) (10) (by decide +kernel) (by decide +kernel) ?_
          refine j_isub g (by decide +kernel) ?_
          refine j_icmp_ne g (off := 15) (tgt := 89) (by decide +kernel) (by decide) (fun c74 => ?_) (fun c74 => ?_)
          · rw [if_pos (show ¬ (M.1 539 (Int32.toNatClampNeg a1)) = (a2 - 10) from c74)] at hp
            refine j_bipush g (n := -13) (-13) (by decide +kernel) (by decide +kernel) ?_
            refine hr.1 _ _ _ _ (by decide +kernel) ⟨_, rfl, by first | rfl | exact b2i_nar | rfl⟩ ?_ ?_
            · unfold r_X7_taken; first | rfl | (simp only [if_neg (show ¬ ((b2i (0 ≤ a1 ∧ a1 < 4)) = 0) from c13), if_pos (show ¬ (b2i (10 ≤ a2 ∧ a2 ≤ 13)) = 0 from c17), if_pos (show ¬ (r_X7_holdsNow M a1) = 2 from c41), if_neg (show ¬ (¬ (r_X7_holdsNow M a1) = 1) from c61), if_pos (show ¬ (M.1 539 (Int32.toNatClampNeg a1)) = (a2 - 10) from c74)]; done) | (simp only [if_neg (show ¬ ((b2i (0 ≤ a1 ∧ a1 < 4)) = 0) from c13), if_pos (show ¬ (b2i (10 ≤ a2 ∧ a2 ≤ 13)) = 0 from c17), if_pos (show ¬ (r_X7_holdsNow M a1) = 2 from c41), if_neg (show ¬ (¬ (r_X7_holdsNow M a1) = 1) from c61), if_pos (show ¬ (M.1 539 (Int32.toNatClampNeg a1)) = (a2 - 10) from c74)]; rfl)
            · rfl
          · rw [if_neg (show ¬ (¬ (M.1 539 (Int32.toNatClampNeg a1)) = (a2 - 10)) from c74)] at hp
            refine j_aload_n g (i := 0) (by decide +kernel) rfl ?_
            refine j_gA g (b := 530) f7_47 (by decide +kernel) (by decide +kernel) (by decide +kernel) (by decide +kernel) ?_
            refine j_gA g (b := 540) f7_301 (by decide +kernel) (by decide +kernel) (by decide +kernel) (by decide +kernel) ?_
            refine j_iload_n g (i := 1) (by decide +kernel) rfl ?_
            obtain ⟨h0, hp⟩ := hp
            refine j_ia g 4 (by decide +kernel) (by decide +kernel) (by decide +kernel) h0 ?_
            refine j_goto g (off := 5) (tgt := 91) (by decide +kernel) (by decide) ?_
            refine hr.1 _ _ _ _ (by decide +kernel) ⟨_, rfl, by first | rfl | exact b2i_nar | rfl⟩ ?_ ?_
            · unfold r_X7_taken; first | rfl | (simp only [if_neg (show ¬ ((b2i (0 ≤ a1 ∧ a1 < 4)) = 0) from c13), if_pos (show ¬ (b2i (10 ≤ a2 ∧ a2 ≤ 13)) = 0 from c17), if_pos (show ¬ (r_X7_holdsNow M a1) = 2 from c41), if_neg (show ¬ (¬ (r_X7_holdsNow M a1) = 1) from c61), if_neg (show ¬ (¬ (M.1 539 (Int32.toNatClampNeg a1)) = (a2 - 10)) from c74)]; done) | (simp only [if_neg (show ¬ ((b2i (0 ≤ a1 ∧ a1 < 4)) = 0) from c13), if_pos (show ¬ (b2i (10 ≤ a2 ∧ a2 ≤ 13)) = 0 from c17), if_pos (show ¬ (r_X7_holdsNow M a1) = 2 from c41), if_neg (show ¬ (¬ (r_X7_holdsNow M a1) = 1) from c61), if_neg (show ¬ (¬ (M.1 539 (Int32.toNatClampNeg a1)) = (a2 - 10)) from c74)]; rfl)
            · rfl
      · rw [if_neg (show ¬ (¬ (r_X7_holdsNow M a1) = 2) from c41)] at hp
        refine j_bipush g (n := -11) (-11) (by decide +kernel) (by decide +kernel) ?_
        refine hr.1 _ _ _ _ (by decide +kernel) ⟨_, rfl, by first | rfl | exact b2i_nar | rfl⟩ ?_ ?_
        · unfold r_X7_taken; first | rfl | (simp only [if_neg (show ¬ ((b2i (0 ≤ a1 ∧ a1 < 4)) = 0) from c13), if_pos (show ¬ (b2i (10 ≤ a2 ∧ a2 ≤ 13)) = 0 from c17), if_neg (show ¬ (¬ (r_X7_holdsNow M a1) = 2) from c41)]; done) | (simp only [if_neg (show ¬ ((b2i (0 ≤ a1 ∧ a1 < 4)) = 0) from c13), if_pos (show ¬ (b2i (10 ≤ a2 ∧ a2 ≤ 13)) = 0 from c17), if_neg (show ¬ (¬ (r_X7_holdsNow M a1) = 2) from c41)]; rfl)
        · rfl
    · rw [if_neg (show ¬ (¬ (b2i (10 ≤ a2 ∧ a2 ≤ 13)) = 0) from c17)] at hp
      refine j_iload_n g (i := 2) (by decide +kernel) rfl ?_
      refine j_iconst g (n := 0) (0) (by decide +kernel) rfl ?_
      refine j_iconst g (n := 5) (5) (by decide +kernel) rfl ?_
      refine j_cS3r g s7_87 (by decide +kernel) (Nat.le_of_ble_eq_true rfl) (rnX7_isWithin) ?_
      refine j_if_ne g (off := 5) (tgt := 31) (by decide +kernel) (by decide) (fun c26 => ?_) (fun c26 => ?_)
      · rw [if_pos (show ¬ (b2i (0 ≤ a2 ∧ a2 ≤ 5)) = 0 from c26)] at hp
        refine j_aload_n g (i := 0) (by decide +kernel) rfl ?_
        refine j_iload_n g (i := 1) (by decide +kernel) rfl ?_
        obtain ⟨h0, hp⟩ := hp
        refine j_cV1r g v7_295 ⟨rfl, by decide⟩ (by decide +kernel) (by decide +kernel) (Nat.le_of_ble_eq_true rfl) (rnX7_holdsNow h0) ?_
        refine j_istore g (i := 4) (by decide +kernel) (by decide) ?_
        dsimp only [stL, clL, hdL]
        refine j_iload g (i := 4) (by decide +kernel) rfl ?_
        refine j_iconst g (n := 2) (2) (by decide +kernel) rfl ?_
        refine j_icmp_ne g (off := 6) (tgt := 47) (by decide +kernel) (by decide) (fun c41 => ?_) (fun c41 => ?_)
        · rw [if_pos (show ¬ (r_X7_holdsNow M a1) = 2 from c41)] at hp
          refine j_aload_n g (i := 0) (by decide +kernel) rfl ?_
          refine j_gA g (b := 530) f7_47 (by decide +kernel) (by decide +kernel) (by decide +kernel) (by decide +kernel) ?_
          refine j_gA g (b := 539) f7_298 (by decide +kernel) (by decide +kernel) (by decide +kernel) (by decide +kernel) ?_
          refine j_iload_n g (i := 1) (by decide +kernel) rfl ?_
          obtain ⟨h0, hp⟩ := hp
          refine j_ia g 4 (by decide +kernel) (by decide +kernel) (by decide +kernel) h0 ?_
          refine j_istore g (i := 5) (by decide +kernel) (by decide) ?_
          dsimp only [stL, clL, hdL]
          refine j_iload g (i := 4) (by decide +kernel) rfl ?_
          refine j_iconst g (n := 1) (1) (by decide +kernel) rfl ?_
          refine j_icmp_ne g (off := 31) (tgt := 92) (by decide +kernel) (by decide) (fun c61 => ?_) (fun c61 => ?_)
          · rw [if_pos (show ¬ (r_X7_holdsNow M a1) = 1 from c61)] at hp
            refine j_iload_n g (i := 3) (by decide +kernel) rfl ?_
            refine j_if_ne g (off := 25) (tgt := 118) (by decide +kernel) (by decide) (fun c93 => by exfalso; revert c93; simpa using c17) (fun c93 => ?_)
            refine j_aload_n g (i := 0) (by decide +kernel) rfl ?_
            refine j_gA g (b := 100) f7_20 (by decide +kernel) (by decide +kernel) (by decide +kernel) (by decide +kernel) ?_
            refine j_gA g (b := 105) f7_237 (by decide +kernel) (by decide +kernel) (by decide +kernel) (by decide +kernel) ?_
            refine j_iload g (i := 5) (by decide +kernel) rfl ?_
            obtain ⟨h0, hp⟩ := hp
            refine j_ia g 4 (by decide +kernel) (by decide +kernel) (by decide +kernel) h0 ?_
            refine j_iload_n g (i := 2) (by decide +kernel) rfl ?_
            refine j_cS2r g s7_304 (by decide +kernel) (Nat.le_of_ble_eq_true rfl) (rnX0_isOrUnder) ?_
            refine j_if_eq g (off := 8) (tgt := 118) (by decide +kernel) (by decide) (fun c110 => ?_) (fun c110 => ?_)
            · rw [if_pos (show (b2i ((M.1 105 (Int32.toNatClampNeg (M.1 539 (Int32.toNatClampNeg a1)))) = a2 ∨ a2 = 0 ∨ ((M.1 105 (Int32.toNatClampNeg (M.1 539 (Int32.toNatClampNeg a1)))) = 3 ∧ a2 = 2) ∨ ((M.1 105 (Int32.toNatClampNeg (M.1 539 (Int32.toNatClampNeg a1)))) = 4 ∧ a2 = 1))) = 0 from c110)] at hp
              refine j_bipush g (n := -13) (-13) (by decide +kernel) (by decide +kernel) ?_
              refine hr.1 _ _ _ _ (by decide +kernel) ⟨_, rfl, by first | rfl | exact b2i_nar | rfl⟩ ?_ ?_
              · unfold r_X7_taken; first | rfl | (simp only [if_neg (show ¬ ((b2i (0 ≤ a1 ∧ a1 < 4)) = 0) from c13), if_neg (show ¬ (¬ (b2i (10 ≤ a2 ∧ a2 ≤ 13)) = 0) from c17), if_pos (show ¬ (b2i (0 ≤ a2 ∧ a2 ≤ 5)) = 0 from c26), if_pos (show ¬ (r_X7_holdsNow M a1) = 2 from c41), if_pos (show ¬ (r_X7_holdsNow M a1) = 1 from c61), if_pos (show (b2i ((M.1 105 (Int32.toNatClampNeg (M.1 539 (Int32.toNatClampNeg a1)))) = a2 ∨ a2 = 0 ∨ ((M.1 105 (Int32.toNatClampNeg (M.1 539 (Int32.toNatClampNeg a1)))) = 3 ∧ a2 = 2) ∨ ((M.1 105 (Int32.toNatClampNeg (M.1 539 (Int32.toNatClampNeg a1)))) = 4 ∧ a2 = 1))) = 0 from c110)]; done) | (simp only [if_neg (show ¬ ((b2i (0 ≤ a1 ∧ a1 < 4)) = 0) from c13), if_neg (show ¬ (¬ (b2i (10 ≤ a2 ∧ a2 ≤ 13)) = 0) from c17), if_pos (show ¬ (b2i (0 ≤ a2 ∧ a2 ≤ 5)) = 0 from c26), if_pos (show ¬ (r_X7_holdsNow M a1) = 2 from c41), if_pos (show ¬ (r_X7_holdsNow M a1) = 1 from c61), if_pos (show (b2i ((M.1 105 (Int32.toNatClampNeg (M.1 539 (Int32.toNatClampNeg a1)))) = a2 ∨ a2 = 0 ∨ ((M.1 105 (Int32.toNatClampNeg (M.1 539 (Int32.toNatClampNeg a1)))) = 3 ∧ a2 = 2) ∨ ((M.1 105 (Int32.toNatClampNeg (M.1 539 (Int32.toNatClampNeg a1)))) = 4 ∧ a2 = 1))) = 0 from c110)]; rfl)
              · rfl
            · rw [if_neg (show ¬ ((b2i ((M.1 105 (Int32.toNatClampNeg (M.1 539 (Int32.toNatClampNeg a1)))) = a2 ∨ a2 = 0 ∨ ((M.1 105 (Int32.toNatClampNeg (M.1 539 (Int32.toNatClampNeg a1)))) = 3 ∧ a2 = 2) ∨ ((M.1 105 (Int32.toNatClampNeg (M.1 539 (Int32.toNatClampNeg a1)))) = 4 ∧ a2 = 1))) = 0) from c110)] at hp
              refine j_iload g (i := 5) (by decide +kernel) rfl ?_
              refine j_goto g (off := 5) (tgt := 120) (by decide +kernel) (by decide) ?_
              refine hr.1 _ _ _ _ (by decide +kernel) ⟨_, rfl, by first | rfl | exact b2i_nar | rfl⟩ ?_ ?_
              · unfold r_X7_taken; first | rfl | (simp only [if_neg (show ¬ ((b2i (0 ≤ a1 ∧ a1 < 4)) = 0) from c13), if_neg (show ¬ (¬ (b2i (10 ≤ a2 ∧ a2 ≤ 13)) = 0) from c17), if_pos (show ¬ (b2i (0 ≤ a2 ∧ a2 ≤ 5)) = 0 from c26), if_pos (show ¬ (r_X7_holdsNow M a1) = 2 from c41), if_pos (show ¬ (r_X7_holdsNow M a1) = 1 from c61), if_neg (show ¬ ((b2i ((M.1 105 (Int32.toNatClampNeg (M.1 539 (Int32.toNatClampNeg a1)))) = a2 ∨ a2 = 0 ∨ ((M.1 105 (Int32.toNatClampNeg (M.1 539 (Int32.toNatClampNeg a1)))) = 3 ∧ a2 = 2) ∨ ((M.1 105 (Int32.toNatClampNeg (M.1 539 (Int32.toNatClampNeg a1)))) = 4 ∧ a2 = 1))) = 0) from c110)]; done) | (simp only [if_neg (show ¬ ((b2i (0 ≤ a1 ∧ a1 < 4)) = 0) from c13), if_neg (show ¬ (¬ (b2i (10 ≤ a2 ∧ a2 ≤ 13)) = 0) from c17), if_pos (show ¬ (b2i (0 ≤ a2 ∧ a2 ≤ 5)) = 0 from c26), if_pos (show ¬ (r_X7_holdsNow M a1) = 2 from c41), if_pos (show ¬ (r_X7_holdsNow M a1) = 1 from c61), if_neg (show ¬ ((b2i ((M.1 105 (Int32.toNatClampNeg (M.1 539 (Int32.toNatClampNeg a1)))) = a2 ∨ a2 = 0 ∨ ((M.1 105 (Int32.toNatClampNeg (M.1 539 (Int32.toNatClampNeg a1)))) = 3 ∧ a2 = 2) ∨ ((M.1 105 (Int32.toNatClampNeg (M.1 539 (Int32.toNatClampNeg a1)))) = 4 ∧ a2 = 1))) = 0) from c110)]; rfl)
              · rfl
          · rw [if_neg (show ¬ (¬ (r_X7_holdsNow M a1) = 1) from c61)] at hp
            refine j_iload_n g (i := 3) (by decide +kernel) rfl ?_
            refine j_if_eq g (off := 24) (tgt := 89) (by decide +kernel) (by decide) (fun c65 => ?_) (fun c65 => by exfalso; revert c65; simpa using c17)
            refine j_bipush g (n := -13) (-13) (by decide +kernel) (by decide +kernel) ?_
            refine hr.1 _ _ _ _ (by decide +kernel) ⟨_, rfl, by first | rfl | exact b2i_nar | rfl⟩ ?_ ?_
            · unfold r_X7_taken; first | rfl | (simp only [if_neg (show ¬ ((b2i (0 ≤ a1 ∧ a1 < 4)) = 0) from c13), if_neg (show ¬ (¬ (b2i (10 ≤ a2 ∧ a2 ≤ 13)) = 0) from c17), if_pos (show ¬ (b2i (0 ≤ a2 ∧ a2 ≤ 5)) = 0 from c26), if_pos (show ¬ (r_X7_holdsNow M a1) = 2 from c41), if_neg (show ¬ (¬ (r_X7_holdsNow M a1) = 1) from c61)]; done) | (simp only [if_neg (show ¬ ((b2i (0 ≤ a1 ∧ a1 < 4)) = 0) from c13), if_neg (show ¬ (¬ (b2i (10 ≤ a2 ∧ a2 ≤ 13)) = 0) from c17), if_pos (show ¬ (b2i (0 ≤ a2 ∧ a2 ≤ 5)) = 0 from c26), if_pos (show ¬ (r_X7_holdsNow M a1) = 2 from c41), if_neg (show ¬ (¬ (r_X7_holdsNow M a1) = 1) from c61)]; rfl)
            · rfl
        · rw [if_neg (show ¬ (¬ (r_X7_holdsNow M a1) = 2) from c41)] at hp
          refine j_bipush g (n := -11) (-11) (by decide +kernel) (by decide +kernel) ?_
          refine hr.1 _ _ _ _ (by decide +kernel) ⟨_, rfl, by first | rfl | exact b2i_nar | rfl⟩ ?_ ?_
          · unfold r_X7_taken; first | rfl | (simp only [if_neg (show ¬ ((b2i (0 ≤ a1 ∧ a1 < 4)) = 0) from c13), if_neg (show ¬ (¬ (b2i (10 ≤ a2 ∧ a2 ≤ 13)) = 0) from c17), if_pos (show ¬ (b2i (0 ≤ a2 ∧ a2 ≤ 5)) = 0 from c26), if_neg (show ¬ (¬ (r_X7_holdsNow M a1) = 2) from c41)]; done) | (simp only [if_neg (show ¬ ((b2i (0 ≤ a1 ∧ a1 < 4)) = 0) from c13), if_neg (show ¬ (¬ (b2i (10 ≤ a2 ∧ a2 ≤ 13)) = 0) from c17), if_pos (show ¬ (b2i (0 ≤ a2 ∧ a2 ≤ 5)) = 0 from c26), if_neg (show ¬ (¬ (r_X7_holdsNow M a1) = 2) from c41)]; rfl)
          · rfl
      · rw [if_neg (show ¬ (¬ (b2i (0 ≤ a2 ∧ a2 ≤ 5)) = 0) from c26)] at hp
        refine j_iconst g (n := -1) (-1) (by decide +kernel) rfl ?_
        refine hr.1 _ _ _ _ (by decide +kernel) ⟨_, rfl, by first | rfl | exact b2i_nar | rfl⟩ ?_ ?_
        · unfold r_X7_taken; first | rfl | (simp only [if_neg (show ¬ ((b2i (0 ≤ a1 ∧ a1 < 4)) = 0) from c13), if_neg (show ¬ (¬ (b2i (10 ≤ a2 ∧ a2 ≤ 13)) = 0) from c17), if_neg (show ¬ (¬ (b2i (0 ≤ a2 ∧ a2 ≤ 5)) = 0) from c26)]; done) | (simp only [if_neg (show ¬ ((b2i (0 ≤ a1 ∧ a1 < 4)) = 0) from c13), if_neg (show ¬ (¬ (b2i (10 ≤ a2 ∧ a2 ≤ 13)) = 0) from c17), if_neg (show ¬ (¬ (b2i (0 ≤ a2 ∧ a2 ≤ 5)) = 0) from c26)]; rfl)
        · rfl
def w_X2_ringFor (M : Mm) (s : Nat) (a2 : Int32) : Mm := if ¬ ((wi (wi M s 4 (r_X5_after M (M.1 s 4) (if (M.1 513 (Int32.toNatClampNeg a2)) < (M.1 104 3) then (M.1 513 (Int32.toNatClampNeg a2)) else (M.1 104 3)))) 513 (Int32.toNatClampNeg a2) (((wi M s 4 (r_X5_after M (M.1 s 4) (if (M.1 513 (Int32.toNatClampNeg a2)) < (M.1 104 3) then (M.1 513 (Int32.toNatClampNeg a2)) else (M.1 104 3)))).1 513 (Int32.toNatClampNeg a2)) - (if (M.1 513 (Int32.toNatClampNeg a2)) < (M.1 104 3) then (M.1 513 (Int32.toNatClampNeg a2)) else (M.1 104 3)))).1 513 (Int32.toNatClampNeg a2)) = 0 then (wi (wi M s 4 (r_X5_after M (M.1 s 4) (if (M.1 513 (Int32.toNatClampNeg a2)) < (M.1 104 3) then (M.1 513 (Int32.toNatClampNeg a2)) else (M.1 104 3)))) 513 (Int32.toNatClampNeg a2) (((wi M s 4 (r_X5_after M (M.1 s 4) (if (M.1 513 (Int32.toNatClampNeg a2)) < (M.1 104 3) then (M.1 513 (Int32.toNatClampNeg a2)) else (M.1 104 3)))).1 513 (Int32.toNatClampNeg a2)) - (if (M.1 513 (Int32.toNatClampNeg a2)) < (M.1 104 3) then (M.1 513 (Int32.toNatClampNeg a2)) else (M.1 104 3)))) else (wi (wi (wi (wi M s 4 (r_X5_after M (M.1 s 4) (if (M.1 513 (Int32.toNatClampNeg a2)) < (M.1 104 3) then (M.1 513 (Int32.toNatClampNeg a2)) else (M.1 104 3)))) 513 (Int32.toNatClampNeg a2) (((wi M s 4 (r_X5_after M (M.1 s 4) (if (M.1 513 (Int32.toNatClampNeg a2)) < (M.1 104 3) then (M.1 513 (Int32.toNatClampNeg a2)) else (M.1 104 3)))).1 513 (Int32.toNatClampNeg a2)) - (if (M.1 513 (Int32.toNatClampNeg a2)) < (M.1 104 3) then (M.1 513 (Int32.toNatClampNeg a2)) else (M.1 104 3)))) (s + 3) (Int32.toNatClampNeg a2) 1) (s + 4) (Int32.toNatClampNeg a2) ((wi (wi (wi M s 4 (r_X5_after M (M.1 s 4) (if (M.1 513 (Int32.toNatClampNeg a2)) < (M.1 104 3) then (M.1 513 (Int32.toNatClampNeg a2)) else (M.1 104 3)))) 513 (Int32.toNatClampNeg a2) (((wi M s 4 (r_X5_after M (M.1 s 4) (if (M.1 513 (Int32.toNatClampNeg a2)) < (M.1 104 3) then (M.1 513 (Int32.toNatClampNeg a2)) else (M.1 104 3)))).1 513 (Int32.toNatClampNeg a2)) - (if (M.1 513 (Int32.toNatClampNeg a2)) < (M.1 104 3) then (M.1 513 (Int32.toNatClampNeg a2)) else (M.1 104 3)))) (s + 3) (Int32.toNatClampNeg a2) 1).1 s 4))
def p_X2_ringFor (M : Mm) (s : Nat) (a2 : Int32) : Prop := (vp_in a2 6) ∧ (p_X5_after M (M.1 s 4) (if (M.1 513 (Int32.toNatClampNeg a2)) < (M.1 104 3) then (M.1 513 (Int32.toNatClampNeg a2)) else (M.1 104 3))) ∧ (vp_in a2 6) ∧ (vp_in a2 6) ∧ (vp_in a2 6) ∧ (if ¬ ((wi (wi M s 4 (r_X5_after M (M.1 s 4) (if (M.1 513 (Int32.toNatClampNeg a2)) < (M.1 104 3) then (M.1 513 (Int32.toNatClampNeg a2)) else (M.1 104 3)))) 513 (Int32.toNatClampNeg a2) (((wi M s 4 (r_X5_after M (M.1 s 4) (if (M.1 513 (Int32.toNatClampNeg a2)) < (M.1 104 3) then (M.1 513 (Int32.toNatClampNeg a2)) else (M.1 104 3)))).1 513 (Int32.toNatClampNeg a2)) - (if (M.1 513 (Int32.toNatClampNeg a2)) < (M.1 104 3) then (M.1 513 (Int32.toNatClampNeg a2)) else (M.1 104 3)))).1 513 (Int32.toNatClampNeg a2)) = 0 then True else (vp_in a2 6) ∧ (vp_in a2 6) ∧ True)
theorem rnX2_ringFor {d : Nat} {M : Mm} {s : Nat} {a2 : Int32} (hs : isS s) (hp : p_X2_ringFor M s a2) : Rn (d + 2) mX2_ringFor [.ref 510, .ref s, .int a2] M none (w_X2_ringFor M s a2) := by
  refine Rn.of [some (.ref 510), some (.ref s), some (.int a2), none] (by decide +kernel) rfl (Nat.le_of_ble_eq_true rfl) rfl (fun J g hr => ?_)
  unfold p_X2_ringFor at hp
  refine j_aload_n g (i := 0) (by decide +kernel) rfl ?_
  refine j_gA g (b := 100) f2_12 (by decide +kernel) (by decide +kernel) (by decide +kernel) (by decide +kernel) ?_
  refine j_gA g (b := 104) f2_91 (by decide +kernel) (by decide +kernel) (by decide +kernel) (by decide +kernel) ?_
  refine j_iconst g (n := 3) (3) (by decide +kernel) rfl ?_
  refine j_ia g 4 (by decide +kernel) (by decide +kernel) (by decide +kernel) (vin_b (by decide +kernel)) ?_
  refine j_aload_n g (i := 0) (by decide +kernel) rfl ?_
  refine j_gA g (b := 513) f2_28 (by decide +kernel) (by decide +kernel) (by decide +kernel) (by decide +kernel) ?_
  refine j_iload_n g (i := 2) (by decide +kernel) rfl ?_
  obtain ⟨h0, hp⟩ := hp
  refine j_ia g 6 (by decide +kernel) (by decide +kernel) (by decide +kernel) h0 ?_
  refine j_mmin g (by omega) (Nat.le_of_ble_eq_true rfl) t2_139 (by decide +kernel) ?_
  refine j_istore_n g (i := 3) (by decide +kernel) (by decide) ?_
  dsimp only [stL, clL, hdL]
  refine j_aload_n g (i := 1) (by decide +kernel) rfl ?_
  refine j_aload_n g (i := 0) (by decide +kernel) rfl ?_
  refine j_gA g (b := 100) f2_12 (by decide +kernel) (by decide +kernel) (by decide +kernel) (by decide +kernel) ?_
  refine j_aload_n g (i := 1) (by decide +kernel) rfl ?_
  refine j_gI g f2_88 (by decide +kernel) (by decide +kernel) (isS_F hs).1.1 ?_
  refine j_iload_n g (i := 3) (by decide +kernel) rfl ?_
  obtain ⟨h0, hp⟩ := hp
  refine j_cV2r g v2_94 ⟨rfl, by decide⟩ (by decide +kernel) (by decide +kernel) (Nat.le_of_ble_eq_true rfl) (rnX5_after h0) ?_
  refine j_pI g f2_88 (fun q h => by cases h; rfl) (by decide +kernel) (by decide +kernel) (isS_F hs).1.1 ?_
  refine j_aload_n g (i := 0) (by decide +kernel) rfl ?_
  refine j_gA g (b := 513) f2_28 (by decide +kernel) (by decide +kernel) (by decide +kernel) (by decide +kernel) ?_
  refine j_iload_n g (i := 2) (by decide +kernel) rfl ?_
  refine j_dup2 g (by decide +kernel) rfl rfl ?_
  obtain ⟨h0, hp⟩ := hp
  refine j_ia g 6 (by decide +kernel) (by decide +kernel) (by decide +kernel) h0 ?_
  refine j_iload_n g (i := 3) (by decide +kernel) rfl ?_
  refine j_isub g (by decide +kernel) ?_
  obtain ⟨h0, hp⟩ := hp
  refine j_is g 6 (by decide +kernel) (by decide +kernel) (by decide +kernel) h0 ?_
  refine j_aload_n g (i := 0) (by decide +kernel) rfl ?_
  refine j_gA g (b := 513) f2_28 (by decide +kernel) (by decide +kernel) (by decide +kernel) (by decide +kernel) ?_
  refine j_iload_n g (i := 2) (by decide +kernel) rfl ?_
  obtain ⟨h0, hp⟩ := hp
  refine j_ia g 6 (by decide +kernel) (by decide +kernel) (by decide +kernel) h0 ?_
  refine j_if_ne g (off := 20) (tgt := 71) (by decide +kernel) (by decide) (fun c51 => ?_) (fun c51 => ?_)
  · rw [if_pos (show ¬ ((wi (wi M s 4 (r_X5_after M (M.1 s 4) (if (M.1 513 (Int32.toNatClampNeg a2)) < (M.1 104 3) then (M.1 513 (Int32.toNatClampNeg a2)) else (M.1 104 3)))) 513 (Int32.toNatClampNeg a2) (((wi M s 4 (r_X5_after M (M.1 s 4) (if (M.1 513 (Int32.toNatClampNeg a2)) < (M.1 104 3) then (M.1 513 (Int32.toNatClampNeg a2)) else (M.1 104 3)))).1 513 (Int32.toNatClampNeg a2)) - (if (M.1 513 (Int32.toNatClampNeg a2)) < (M.1 104 3) then (M.1 513 (Int32.toNatClampNeg a2)) else (M.1 104 3)))).1 513 (Int32.toNatClampNeg a2)) = 0 from c51)] at hp
    refine hr.2.2.2 _ _ _ (by decide +kernel) rfl rfl ?_
    · unfold w_X2_ringFor; first | rfl | (simp only [if_pos (show ¬ ((wi (wi M s 4 (r_X5_after M (M.1 s 4) (if (M.1 513 (Int32.toNatClampNeg a2)) < (M.1 104 3) then (M.1 513 (Int32.toNatClampNeg a2)) else (M.1 104 3)))) 513 (Int32.toNatClampNeg a2) (((wi M s 4 (r_X5_after M (M.1 s 4) (if (M.1 513 (Int32.toNatClampNeg a2)) < (M.1 104 3) then (M.1 513 (Int32.toNatClampNeg a2)) else (M.1 104 3)))).1 513 (Int32.toNatClampNeg a2)) - (if (M.1 513 (Int32.toNatClampNeg a2)) < (M.1 104 3) then (M.1 513 (Int32.toNatClampNeg a2)) else (M.1 104 3)))).1 513 (Int32.toNatClampNeg a2)) = 0 from c51)]; done) | (simp only [if_pos (show ¬ ((wi (wi M s 4 (r_X5_after M (M.1 s 4) (if (M.1 513 (Int32.toNatClampNeg a2)) < (M.1 104 3) then (M.1 513 (Int32.toNatClampNeg a2)) else (M.1 104 3)))) 513 (Int32.toNatClampNeg a2) (((wi M s 4 (r_X5_after M (M.1 s 4) (if (M.1 513 (Int32.toNatClampNeg a2)) < (M.1 104 3) then (M.1 513 (Int32.toNatClampNeg a2)) else (M.1 104 3)))).1 513 (Int32.toNatClampNeg a2)) - (if (M.1 513 (Int32.toNatClampNeg a2)) < (M.1 104 3) then (M.1 513 (Int32.toNatClampNeg a2)) else (M.1 104 3)))).1 513 (Int32.toNatClampNeg a2)) = 0 from c51)]; rfl)
  · rw [if_neg (show ¬ (¬ ((wi (wi M s 4 (r_X5_after M (M.1 s 4) (if (M.1 513 (Int32.toNatClampNeg a2)) < (M.1 104 3) then (M.1 513 (Int32.toNatClampNeg a2)) else (M.1 104 3)))) 513 (Int32.toNatClampNeg a2) (((wi M s 4 (r_X5_after M (M.1 s 4) (if (M.1 513 (Int32.toNatClampNeg a2)) < (M.1 104 3) then (M.1 513 (Int32.toNatClampNeg a2)) else (M.1 104 3)))).1 513 (Int32.toNatClampNeg a2)) - (if (M.1 513 (Int32.toNatClampNeg a2)) < (M.1 104 3) then (M.1 513 (Int32.toNatClampNeg a2)) else (M.1 104 3)))).1 513 (Int32.toNatClampNeg a2)) = 0) from c51)] at hp
    refine j_aload_n g (i := 1) (by decide +kernel) rfl ?_
    refine j_gA g f2_153 (by decide +kernel) (by decide +kernel) (isS_F hs).1.1 (isS_F hs).2.2.2.2.1 ?_
    refine j_iload_n g (i := 2) (by decide +kernel) rfl ?_
    refine j_iconst g (n := 1) (1) (by decide +kernel) rfl ?_
    obtain ⟨h0, hp⟩ := hp
    refine j_is g 6 (by decide +kernel) (isS_F hs).1.2.2.2.1 (isS_F hs).2.1.2.2.1 h0 ?_
    refine j_aload_n g (i := 1) (by decide +kernel) rfl ?_
    refine j_gA g f2_156 (by decide +kernel) (by decide +kernel) (isS_F hs).1.1 (isS_F hs).2.2.2.2.2 ?_
    refine j_iload_n g (i := 2) (by decide +kernel) rfl ?_
    refine j_aload_n g (i := 1) (by decide +kernel) rfl ?_
    refine j_gI g f2_88 (by decide +kernel) (by decide +kernel) (isS_F hs).1.1 ?_
    obtain ⟨h0, hp⟩ := hp
    refine j_is g 6 (by decide +kernel) (isS_F hs).1.2.2.2.2 (isS_F hs).2.1.2.2.2 h0 ?_
    refine hr.2.2.2 _ _ _ (by decide +kernel) rfl rfl ?_
    · unfold w_X2_ringFor; first | rfl | (simp only [if_neg (show ¬ (¬ ((wi (wi M s 4 (r_X5_after M (M.1 s 4) (if (M.1 513 (Int32.toNatClampNeg a2)) < (M.1 104 3) then (M.1 513 (Int32.toNatClampNeg a2)) else (M.1 104 3)))) 513 (Int32.toNatClampNeg a2) (((wi M s 4 (r_X5_after M (M.1 s 4) (if (M.1 513 (Int32.toNatClampNeg a2)) < (M.1 104 3) then (M.1 513 (Int32.toNatClampNeg a2)) else (M.1 104 3)))).1 513 (Int32.toNatClampNeg a2)) - (if (M.1 513 (Int32.toNatClampNeg a2)) < (M.1 104 3) then (M.1 513 (Int32.toNatClampNeg a2)) else (M.1 104 3)))).1 513 (Int32.toNatClampNeg a2)) = 0) from c51)]; done) | (simp only [if_neg (show ¬ (¬ ((wi (wi M s 4 (r_X5_after M (M.1 s 4) (if (M.1 513 (Int32.toNatClampNeg a2)) < (M.1 104 3) then (M.1 513 (Int32.toNatClampNeg a2)) else (M.1 104 3)))) 513 (Int32.toNatClampNeg a2) (((wi M s 4 (r_X5_after M (M.1 s 4) (if (M.1 513 (Int32.toNatClampNeg a2)) < (M.1 104 3) then (M.1 513 (Int32.toNatClampNeg a2)) else (M.1 104 3)))).1 513 (Int32.toNatClampNeg a2)) - (if (M.1 513 (Int32.toNatClampNeg a2)) < (M.1 104 3) then (M.1 513 (Int32.toNatClampNeg a2)) else (M.1 104 3)))).1 513 (Int32.toNatClampNeg a2)) = 0) from c51)]; rfl)
def w_X5_clear_300 (M : Mm)  : Mm := (wi (wi (wi (wi M 300 0 0) 300 1 0) 300 2 0) 1020 4 0)
theorem rnX5_clear_300 {d : Nat} {M : Mm}   : Rn (d) mX5_clear [.ref 300] M none (w_X5_clear_300 M ) := by
  refine Rn.of [some (.ref 300)] (by decide +kernel) rfl (Nat.le_of_ble_eq_true rfl) rfl (fun J g hr => ?_)
  refine j_aload_n g (i := 0) (by decide +kernel) rfl ?_
  refine j_iconst g (n := 0) (0) (by decide +kernel) rfl ?_
  refine j_pI g f5_9 (fun q h => by cases h; rfl) (by decide +kernel) (by decide +kernel) (by decide +kernel) ?_
  refine j_aload_n g (i := 0) (by decide +kernel) rfl ?_
  refine j_iconst g (n := 0) (0) (by decide +kernel) rfl ?_
  refine j_pI g f5_15 (fun q h => by cases h; rfl) (by decide +kernel) (by decide +kernel) (by decide +kernel) ?_
  refine j_aload_n g (i := 0) (by decide +kernel) rfl ?_
  refine j_iconst g (n := 0) (0) (by decide +kernel) rfl ?_
  refine j_pI g f5_18 (fun q h => by cases h; rfl) (by decide +kernel) (by decide +kernel) (by decide +kernel) ?_
  refine j_aload_n g (i := 0) (by decide +kernel) rfl ?_
  refine j_gA g (b := 1020) f5_49 (by decide +kernel) (by decide +kernel) (by decide +kernel) (by decide +kernel) ?_
  refine j_iconst g (n := 0) (0) (by decide +kernel) rfl ?_
  refine j_pI g f5_54 (fun q h => by cases h; rfl) (by decide +kernel) (by decide +kernel) (by decide +kernel) ?_
  refine hr.2.2.2 _ _ _ (by decide +kernel) rfl rfl ?_
  · rfl
def r_X5_addMover_300 (M : Mm) (a1 : Int32) (a2 : Int32) : Int32 := ((M.1 300 0) + 1) - 1
def w_X5_addMover_300 (M : Mm) (a1 : Int32) (a2 : Int32) : Mm := (wi (wi (wi M 1021 (Int32.toNatClampNeg (M.1 300 0)) a1) 301 (Int32.toNatClampNeg (M.1 300 0)) a2) 300 0 ((M.1 300 0) + 1))
def p_X5_addMover_300 (M : Mm) (a1 : Int32) (a2 : Int32) : Prop := (vp_in (M.1 300 0) 3) ∧ (vp_in (M.1 300 0) 3) ∧ True
theorem rnX5_addMover_300 {d : Nat} {M : Mm} {a1 : Int32} {a2 : Int32}  (hp : p_X5_addMover_300 M a1 a2) : Rn (d) mX5_addMover [.ref 300, .int a1, .int a2] M (some (.int (r_X5_addMover_300 M a1 a2))) (w_X5_addMover_300 M a1 a2) := by
  refine Rn.of [some (.ref 300), some (.int a1), some (.int a2)] (by decide +kernel) rfl (Nat.le_of_ble_eq_true rfl) rfl (fun J g hr => ?_)
  unfold p_X5_addMover_300 at hp
  refine j_aload_n g (i := 0) (by decide +kernel) rfl ?_
  refine j_gA g (b := 1020) f5_49 (by decide +kernel) (by decide +kernel) (by decide +kernel) (by decide +kernel) ?_
  refine j_gA g (b := 1021) f5_77 (by decide +kernel) (by decide +kernel) (by decide +kernel) (by decide +kernel) ?_
  refine j_aload_n g (i := 0) (by decide +kernel) rfl ?_
  refine j_gI g f5_9 (by decide +kernel) (by decide +kernel) (by decide +kernel) ?_
  refine j_iload_n g (i := 1) (by decide +kernel) rfl ?_
  obtain ⟨h0, hp⟩ := hp
  refine j_is g 3 (by decide +kernel) (by decide +kernel) (by decide +kernel) h0 ?_
  refine j_aload_n g (i := 0) (by decide +kernel) rfl ?_
  refine j_gA g (b := 301) f5_24 (by decide +kernel) (by decide +kernel) (by decide +kernel) (by decide +kernel) ?_
  refine j_aload_n g (i := 0) (by decide +kernel) rfl ?_
  refine j_gI g f5_9 (by decide +kernel) (by decide +kernel) (by decide +kernel) ?_
  refine j_iload_n g (i := 2) (by decide +kernel) rfl ?_
  obtain ⟨h0, hp⟩ := hp
  refine j_is g 3 (by decide +kernel) (by decide +kernel) (by decide +kernel) h0 ?_
  refine j_aload_n g (i := 0) (by decide +kernel) rfl ?_
  refine j_dup g (by decide +kernel) rfl ?_
  refine j_gI g f5_9 (by decide +kernel) (by decide +kernel) (by decide +kernel) ?_
  refine j_iconst g (n := 1) (1) (by decide +kernel) rfl ?_
  refine j_iadd g (by decide +kernel) ?_
  refine j_pI g f5_9 (fun q h => by cases h; rfl) (by decide +kernel) (by decide +kernel) (by decide +kernel) ?_
  refine j_aload_n g (i := 0) (by decide +kernel) rfl ?_
  refine j_gI g f5_9 (by decide +kernel) (by decide +kernel) (by decide +kernel) ?_
  refine j_iconst g (n := 1) (1) (by decide +kernel) rfl ?_
  refine j_isub g (by decide +kernel) ?_
  refine hr.1 _ _ _ _ (by decide +kernel) ⟨_, rfl, by first | rfl | exact b2i_nar | rfl⟩ ?_ ?_
  · rfl
  · rfl
def r_X5_addThing_300 (M : Mm) (a1 : Int32) (a2 : Int32) : Int32 := ((M.1 300 1) + 1) - 1
def w_X5_addThing_300 (M : Mm) (a1 : Int32) (a2 : Int32) : Mm := (wi (wi (wi M 1022 (Int32.toNatClampNeg (M.1 300 1)) a1) 302 (Int32.toNatClampNeg (M.1 300 1)) a2) 300 1 ((M.1 300 1) + 1))
def p_X5_addThing_300 (M : Mm) (a1 : Int32) (a2 : Int32) : Prop := (vp_in (M.1 300 1) 6) ∧ (vp_in (M.1 300 1) 6) ∧ True
theorem rnX5_addThing_300 {d : Nat} {M : Mm} {a1 : Int32} {a2 : Int32}  (hp : p_X5_addThing_300 M a1 a2) : Rn (d) mX5_addThing [.ref 300, .int a1, .int a2] M (some (.int (r_X5_addThing_300 M a1 a2))) (w_X5_addThing_300 M a1 a2) := by
  refine Rn.of [some (.ref 300), some (.int a1), some (.int a2)] (by decide +kernel) rfl (Nat.le_of_ble_eq_true rfl) rfl (fun J g hr => ?_)
  unfold p_X5_addThing_300 at hp
  refine j_aload_n g (i := 0) (by decide +kernel) rfl ?_
  refine j_gA g (b := 1020) f5_49 (by decide +kernel) (by decide +kernel) (by decide +kernel) (by decide +kernel) ?_
  refine j_gA g (b := 1022) f5_80 (by decide +kernel) (by decide +kernel) (by decide +kernel) (by decide +kernel) ?_
  refine j_aload_n g (i := 0) (by decide +kernel) rfl ?_
  refine j_gI g f5_15 (by decide +kernel) (by decide +kernel) (by decide +kernel) ?_
  refine j_iload_n g (i := 1) (by decide +kernel) rfl ?_
  obtain ⟨h0, hp⟩ := hp
  refine j_is g 6 (by decide +kernel) (by decide +kernel) (by decide +kernel) h0 ?_
  refine j_aload_n g (i := 0) (by decide +kernel) rfl ?_
  refine j_gA g (b := 302) f5_28 (by decide +kernel) (by decide +kernel) (by decide +kernel) (by decide +kernel) ?_
  refine j_aload_n g (i := 0) (by decide +kernel) rfl ?_
  refine j_gI g f5_15 (by decide +kernel) (by decide +kernel) (by decide +kernel) ?_
  refine j_iload_n g (i := 2) (by decide +kernel) rfl ?_
  obtain ⟨h0, hp⟩ := hp
  refine j_is g 6 (by decide +kernel) (by decide +kernel) (by decide +kernel) h0 ?_
  refine j_aload_n g (i := 0) (by decide +kernel) rfl ?_
  refine j_dup g (by decide +kernel) rfl ?_
  refine j_gI g f5_15 (by decide +kernel) (by decide +kernel) (by decide +kernel) ?_
  refine j_iconst g (n := 1) (1) (by decide +kernel) rfl ?_
  refine j_iadd g (by decide +kernel) ?_
  refine j_pI g f5_15 (fun q h => by cases h; rfl) (by decide +kernel) (by decide +kernel) (by decide +kernel) ?_
  refine j_aload_n g (i := 0) (by decide +kernel) rfl ?_
  refine j_gI g f5_15 (by decide +kernel) (by decide +kernel) (by decide +kernel) ?_
  refine j_iconst g (n := 1) (1) (by decide +kernel) rfl ?_
  refine j_isub g (by decide +kernel) ?_
  refine hr.1 _ _ _ _ (by decide +kernel) ⟨_, rfl, by first | rfl | exact b2i_nar | rfl⟩ ?_ ?_
  · rfl
  · rfl
def r_X5_addWork_300 (M : Mm) (a1 : Int32) (a2 : Int32) (a3 : Int32) (a4 : Int32) (a5 : Int32) (a6 : Int32) : Int32 := (((wi (wi (wi (wi (wi (wi (wi (wi M (310 + Int32.toNatClampNeg (M.1 300 2)) 0 a1) (310 + Int32.toNatClampNeg (M.1 300 2)) 1 a2) (310 + Int32.toNatClampNeg (M.1 300 2)) 2 a3) (310 + Int32.toNatClampNeg (M.1 300 2)) 3 a4) (310 + Int32.toNatClampNeg (M.1 300 2)) 4 a5) (310 + Int32.toNatClampNeg (M.1 300 2)) 5 a6) (310 + Int32.toNatClampNeg (M.1 300 2)) 6 (-1)) (310 + Int32.toNatClampNeg (M.1 300 2)) 7 0).1 300 2) + 1) - 1
def w_X5_addWork_300 (M : Mm) (a1 : Int32) (a2 : Int32) (a3 : Int32) (a4 : Int32) (a5 : Int32) (a6 : Int32) : Mm := (wi (wi (wi (wi (wi (wi (wi (wi (wi (wi (wi M (310 + Int32.toNatClampNeg (M.1 300 2)) 0 a1) (310 + Int32.toNatClampNeg (M.1 300 2)) 1 a2) (310 + Int32.toNatClampNeg (M.1 300 2)) 2 a3) (310 + Int32.toNatClampNeg (M.1 300 2)) 3 a4) (310 + Int32.toNatClampNeg (M.1 300 2)) 4 a5) (310 + Int32.toNatClampNeg (M.1 300 2)) 5 a6) (310 + Int32.toNatClampNeg (M.1 300 2)) 6 (-1)) (310 + Int32.toNatClampNeg (M.1 300 2)) 7 0) 1023 (Int32.toNatClampNeg ((wi (wi (wi (wi (wi (wi (wi (wi M (310 + Int32.toNatClampNeg (M.1 300 2)) 0 a1) (310 + Int32.toNatClampNeg (M.1 300 2)) 1 a2) (310 + Int32.toNatClampNeg (M.1 300 2)) 2 a3) (310 + Int32.toNatClampNeg (M.1 300 2)) 3 a4) (310 + Int32.toNatClampNeg (M.1 300 2)) 4 a5) (310 + Int32.toNatClampNeg (M.1 300 2)) 5 a6) (310 + Int32.toNatClampNeg (M.1 300 2)) 6 (-1)) (310 + Int32.toNatClampNeg (M.1 300 2)) 7 0).1 300 2)) 0) 1024 (Int32.toNatClampNeg ((wi (wi (wi (wi (wi (wi (wi (wi M (310 + Int32.toNatClampNeg (M.1 300 2)) 0 a1) (310 + Int32.toNatClampNeg (M.1 300 2)) 1 a2) (310 + Int32.toNatClampNeg (M.1 300 2)) 2 a3) (310 + Int32.toNatClampNeg (M.1 300 2)) 3 a4) (310 + Int32.toNatClampNeg (M.1 300 2)) 4 a5) (310 + Int32.toNatClampNeg (M.1 300 2)) 5 a6) (310 + Int32.toNatClampNeg (M.1 300 2)) 6 (-1)) (310 + Int32.toNatClampNeg (M.1 300 2)) 7 0).1 300 2)) 0) 300 2 (((wi (wi (wi (wi (wi (wi (wi (wi M (310 + Int32.toNatClampNeg (M.1 300 2)) 0 a1) (310 + Int32.toNatClampNeg (M.1 300 2)) 1 a2) (310 + Int32.toNatClampNeg (M.1 300 2)) 2 a3) (310 + Int32.toNatClampNeg (M.1 300 2)) 3 a4) (310 + Int32.toNatClampNeg (M.1 300 2)) 4 a5) (310 + Int32.toNatClampNeg (M.1 300 2)) 5 a6) (310 + Int32.toNatClampNeg (M.1 300 2)) 6 (-1)) (310 + Int32.toNatClampNeg (M.1 300 2)) 7 0).1 300 2) + 1))
def p_X5_addWork_300 (M : Mm) (a1 : Int32) (a2 : Int32) (a3 : Int32) (a4 : Int32) (a5 : Int32) (a6 : Int32) : Prop := (vp_in (M.1 300 2) 6) ∧ (vp_in ((wi (wi (wi (wi (wi (wi (wi (wi M (310 + Int32.toNatClampNeg (M.1 300 2)) 0 a1) (310 + Int32.toNatClampNeg (M.1 300 2)) 1 a2) (310 + Int32.toNatClampNeg (M.1 300 2)) 2 a3) (310 + Int32.toNatClampNeg (M.1 300 2)) 3 a4) (310 + Int32.toNatClampNeg (M.1 300 2)) 4 a5) (310 + Int32.toNatClampNeg (M.1 300 2)) 5 a6) (310 + Int32.toNatClampNeg (M.1 300 2)) 6 (-1)) (310 + Int32.toNatClampNeg (M.1 300 2)) 7 0).1 300 2) 6) ∧ (vp_in ((wi (wi (wi (wi (wi (wi (wi (wi M (310 + Int32.toNatClampNeg (M.1 300 2)) 0 a1) (310 + Int32.toNatClampNeg (M.1 300 2)) 1 a2) (310 + Int32.toNatClampNeg (M.1 300 2)) 2 a3) (310 + Int32.toNatClampNeg (M.1 300 2)) 3 a4) (310 + Int32.toNatClampNeg (M.1 300 2)) 4 a5) (310 + Int32.toNatClampNeg (M.1 300 2)) 5 a6) (310 + Int32.toNatClampNeg (M.1 300 2)) 6 (-1)) (310 + Int32.toNatClampNeg (M.1 300 2)) 7 0).1 300 2) 6) ∧ True
theorem rnX5_addWork_300 {d : Nat} {M : Mm} {a1 : Int32} {a2 : Int32} {a3 : Int32} {a4 : Int32} {a5 : Int32} {a6 : Int32}  (hp : p_X5_addWork_300 M a1 a2 a3 a4 a5 a6) : Rn (d) mX5_addWork [.ref 300, .int a1, .int a2, .int a3, .int a4, .int a5, .int a6] M (some (.int (r_X5_addWork_300 M a1 a2 a3 a4 a5 a6))) (w_X5_addWork_300 M a1 a2 a3 a4 a5 a6) := by
  refine Rn.of [some (.ref 300), some (.int a1), some (.int a2), some (.int a3), some (.int a4), some (.int a5), some (.int a6), none] (by decide +kernel) rfl (Nat.le_of_ble_eq_true rfl) rfl (fun J g hr => ?_)
  unfold p_X5_addWork_300 at hp
  refine j_aload_n g (i := 0) (by decide +kernel) rfl ?_
  refine j_gA g (b := 303) f5_33 (by decide +kernel) (by decide +kernel) (by decide +kernel) (by decide +kernel) ?_
  refine j_aload_n g (i := 0) (by decide +kernel) rfl ?_
  refine j_gI g f5_18 (by decide +kernel) (by decide +kernel) (by decide +kernel) ?_
  obtain ⟨h0, hp⟩ := hp
  refine j_aW g 6 (by decide +kernel) (by decide +kernel) (by decide +kernel) h0 (rfW303 h0) ?_
  have hw8 := h0
  refine j_astore g (i := 7) (by decide +kernel) (by decide) ?_
  dsimp only [stL, clL, hdL]
  refine j_aload g (i := 7) (by decide +kernel) rfl ?_
  refine j_iload_n g (i := 1) (by decide +kernel) rfl ?_
  refine j_pI g f5_83 (fun q h => by cases h; rfl) (by decide +kernel) (by decide +kernel) (gkW303 hw8) ?_
  refine j_aload g (i := 7) (by decide +kernel) rfl ?_
  refine j_iload_n g (i := 2) (by decide +kernel) rfl ?_
  refine j_pI g f5_86 (fun q h => by cases h; rfl) (by decide +kernel) (by decide +kernel) (gkW303 hw8) ?_
  refine j_aload g (i := 7) (by decide +kernel) rfl ?_
  refine j_iload_n g (i := 3) (by decide +kernel) rfl ?_
  refine j_pI g f5_89 (fun q h => by cases h; rfl) (by decide +kernel) (by decide +kernel) (gkW303 hw8) ?_
  refine j_aload g (i := 7) (by decide +kernel) rfl ?_
  refine j_iload g (i := 4) (by decide +kernel) rfl ?_
  refine j_pI g f5_92 (fun q h => by cases h; rfl) (by decide +kernel) (by decide +kernel) (gkW303 hw8) ?_
  refine j_aload g (i := 7) (by decide +kernel) rfl ?_
  refine j_iload g (i := 5) (by decide +kernel) rfl ?_
  refine j_pI g f5_95 (fun q h => by cases h; rfl) (by decide +kernel) (by decide +kernel) (gkW303 hw8) ?_
  refine j_aload g (i := 7) (by decide +kernel) rfl ?_
  refine j_iload g (i := 6) (by decide +kernel) rfl ?_
  refine j_pI g f5_98 (fun q h => by cases h; rfl) (by decide +kernel) (by decide +kernel) (gkW303 hw8) ?_
  refine j_aload g (i := 7) (by decide +kernel) rfl ?_
  refine j_iconst g (n := -1) (-1) (by decide +kernel) rfl ?_
  refine j_pI g f5_101 (fun q h => by cases h; rfl) (by decide +kernel) (by decide +kernel) (gkW303 hw8) ?_
  refine j_aload g (i := 7) (by decide +kernel) rfl ?_
  refine j_iconst g (n := 0) (0) (by decide +kernel) rfl ?_
  refine j_pI g f5_104 (fun q h => by cases h; rfl) (by decide +kernel) (by decide +kernel) (gkW303 hw8) ?_
  refine j_aload_n g (i := 0) (by decide +kernel) rfl ?_
  refine j_gA g (b := 1020) f5_49 (by decide +kernel) (by decide +kernel) (by decide +kernel) (by decide +kernel) ?_
  refine j_gA g (b := 1023) f5_107 (by decide +kernel) (by decide +kernel) (by decide +kernel) (by decide +kernel) ?_
  refine j_aload_n g (i := 0) (by decide +kernel) rfl ?_
  refine j_gI g f5_18 (by decide +kernel) (by decide +kernel) (by decide +kernel) ?_
  refine j_iconst g (n := 0) (0) (by decide +kernel) rfl ?_
  obtain ⟨h0, hp⟩ := hp
  refine j_is g 6 (by decide +kernel) (by decide +kernel) (by decide +kernel) h0 ?_
  refine j_aload_n g (i := 0) (by decide +kernel) rfl ?_
  refine j_gA g (b := 1020) f5_49 (by decide +kernel) (by decide +kernel) (by decide +kernel) (by decide +kernel) ?_
  refine j_gA g (b := 1024) f5_110 (by decide +kernel) (by decide +kernel) (by decide +kernel) (by decide +kernel) ?_
  refine j_aload_n g (i := 0) (by decide +kernel) rfl ?_
  refine j_gI g f5_18 (by decide +kernel) (by decide +kernel) (by decide +kernel) ?_
  refine j_iconst g (n := 0) (0) (by decide +kernel) rfl ?_
  obtain ⟨h0, hp⟩ := hp
  refine j_is g 6 (by decide +kernel) (by decide +kernel) (by decide +kernel) h0 ?_
  refine j_aload_n g (i := 0) (by decide +kernel) rfl ?_
  refine j_dup g (by decide +kernel) rfl ?_
  refine j_gI g f5_18 (by decide +kernel) (by decide +kernel) (by decide +kernel) ?_
  refine j_iconst g (n := 1) (1) (by decide +kernel) rfl ?_
  refine j_iadd g (by decide +kernel) ?_
  refine j_pI g f5_18 (fun q h => by cases h; rfl) (by decide +kernel) (by decide +kernel) (by decide +kernel) ?_
  refine j_aload_n g (i := 0) (by decide +kernel) rfl ?_
  refine j_gI g f5_18 (by decide +kernel) (by decide +kernel) (by decide +kernel) ?_
  refine j_iconst g (n := 1) (1) (by decide +kernel) rfl ?_
  refine j_isub g (by decide +kernel) ?_
  refine hr.1 _ _ _ _ (by decide +kernel) ⟨_, rfl, by first | rfl | exact b2i_nar | rfl⟩ ?_ ?_
  · rfl
  · rfl
