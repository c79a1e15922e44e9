theorem b2i_nar {p : Prop} [Decidable p] : narrow .boolean (.int (b2i p)) = .int (b2i p) := by unfold b2i; split <;> decide +kernel
theorem im1 : (-1 : Int32).toInt = -1 := by decide
theorem im2 : (-2 : Int32).toInt = -2 := by decide
theorem im3 : (-3 : Int32).toInt = -3 := by decide
theorem im4 : (-4 : Int32).toInt = -4 := by decide
theorem im9 : (-9 : Int32).toInt = -9 := by decide
theorem im11 : (-11 : Int32).toInt = -11 := by decide
theorem im12 : (-12 : Int32).toInt = -12 := by decide
theorem im13 : (-13 : Int32).toInt = -13 := by decide
theorem im14 : (-14 : Int32).toInt = -14 := by decide
theorem im15 : (-15 : Int32).toInt = -15 := by decide
theorem im100 : (-100 : Int32).toInt = -100 := by decide
theorem rnX7_isWithin {d : Nat} {M : Mm} {v lo hi : Int32}  : Rn (d) mX7_isWithin [.int v, .int lo, .int hi] M (some (.int (b2i (lo ≤ v ∧ v ≤ hi)))) (M) := by
  refine Rn.of [some (.int v), some (.int lo), some (.int hi)] (by decide +kernel) rfl (Nat.le_of_ble_eq_true rfl) rfl (fun J g hr => ?_)
  refine j_iload_n g (i := 0) (by decide +kernel) rfl ?_
  refine j_iload_n g (i := 1) (by decide +kernel) rfl ?_
  refine j_icmp_lt g (off := 12) (tgt := 14) (by decide +kernel) (by decide) (fun c2 => ?_) (fun c2 => ?_)
  · skip
    refine j_iconst g (n := 0) (0) (by decide +kernel) rfl ?_
    refine hr.1 _ _ _ _ (by decide +kernel) ⟨_, rfl, ?_⟩ ?_ ?_
    · exact (by decide +kernel)
    · first | exact leafT (by simp only [Int32.lt_iff_toInt_lt, Int32.le_iff_toInt_le, ← Int32.toInt_inj, Int32.reduceToInt, im1, im2, im3, im4, im9, im11, im12, im13, im14, im15, im100, b2i_0, b2i_1] at c2 ⊢; omega) | exact leafF (by simp only [Int32.lt_iff_toInt_lt, Int32.le_iff_toInt_le, ← Int32.toInt_inj, Int32.reduceToInt, im1, im2, im3, im4, im9, im11, im12, im13, im14, im15, im100, b2i_0, b2i_1] at c2 ⊢; omega) | exact leafT (by simp only [Int32.lt_iff_toInt_lt, Int32.le_iff_toInt_le, ← Int32.toInt_inj, Int32.reduceToInt, im1, im2, im3, im4, im9, im11, im12, im13, im14, im15, im100, b2i_0, b2i_1] at c2 ⊢; simp_all) | exact leafF (by simp only [Int32.lt_iff_toInt_lt, Int32.le_iff_toInt_le, ← Int32.toInt_inj, Int32.reduceToInt, im1, im2, im3, im4, im9, im11, im12, im13, im14, im15, im100, b2i_0, b2i_1] at c2 ⊢; simp_all)
    · rfl
  · skip
    refine j_iload_n g (i := 0) (by decide +kernel) rfl ?_
    refine j_iload_n g (i := 2) (by decide +kernel) rfl ?_
    refine j_icmp_gt g (off := 7) (tgt := 14) (by decide +kernel) (by decide) (fun c7 => ?_) (fun c7 => ?_)
    · skip
      refine j_iconst g (n := 0) (0) (by decide +kernel) rfl ?_
      refine hr.1 _ _ _ _ (by decide +kernel) ⟨_, rfl, ?_⟩ ?_ ?_
      · exact (by decide +kernel)
      · first | exact leafT (by simp only [Int32.lt_iff_toInt_lt, Int32.le_iff_toInt_le, ← Int32.toInt_inj, Int32.reduceToInt, im1, im2, im3, im4, im9, im11, im12, im13, im14, im15, im100, b2i_0, b2i_1] at c2 c7 ⊢; omega) | exact leafF (by simp only [Int32.lt_iff_toInt_lt, Int32.le_iff_toInt_le, ← Int32.toInt_inj, Int32.reduceToInt, im1, im2, im3, im4, im9, im11, im12, im13, im14, im15, im100, b2i_0, b2i_1] at c2 c7 ⊢; omega) | exact leafT (by simp only [Int32.lt_iff_toInt_lt, Int32.le_iff_toInt_le, ← Int32.toInt_inj, Int32.reduceToInt, im1, im2, im3, im4, im9, im11, im12, im13, im14, im15, im100, b2i_0, b2i_1] at c2 c7 ⊢; simp_all) | exact leafF (by simp only [Int32.lt_iff_toInt_lt, Int32.le_iff_toInt_le, ← Int32.toInt_inj, Int32.reduceToInt, im1, im2, im3, im4, im9, im11, im12, im13, im14, im15, im100, b2i_0, b2i_1] at c2 c7 ⊢; simp_all)
      · rfl
    · skip
      refine j_iconst g (n := 1) (1) (by decide +kernel) rfl ?_
      refine j_goto g (off := 4) (tgt := 15) (by decide +kernel) (by decide) ?_
      refine hr.1 _ _ _ _ (by decide +kernel) ⟨_, rfl, ?_⟩ ?_ ?_
      · exact (by decide +kernel)
      · first | exact leafT (by simp only [Int32.lt_iff_toInt_lt, Int32.le_iff_toInt_le, ← Int32.toInt_inj, Int32.reduceToInt, im1, im2, im3, im4, im9, im11, im12, im13, im14, im15, im100, b2i_0, b2i_1] at c2 c7 ⊢; omega) | exact leafF (by simp only [Int32.lt_iff_toInt_lt, Int32.le_iff_toInt_le, ← Int32.toInt_inj, Int32.reduceToInt, im1, im2, im3, im4, im9, im11, im12, im13, im14, im15, im100, b2i_0, b2i_1] at c2 c7 ⊢; omega) | exact leafT (by simp only [Int32.lt_iff_toInt_lt, Int32.le_iff_toInt_le, ← Int32.toInt_inj, Int32.reduceToInt, im1, im2, im3, im4, im9, im11, im12, im13, im14, im15, im100, b2i_0, b2i_1] at c2 c7 ⊢; simp_all) | exact leafF (by simp only [Int32.lt_iff_toInt_lt, Int32.le_iff_toInt_le, ← Int32.toInt_inj, Int32.reduceToInt, im1, im2, im3, im4, im9, im11, im12, im13, im14, im15, im100, b2i_0, b2i_1] at c2 c7 ⊢; simp_all)
      · rfl
theorem rnX8_in {d : Nat} {M : Mm} {v lo hi : Int32}  : Rn (d) mX8_in [.int v, .int lo, .int hi] M (some (.int (b2i (lo ≤ v ∧ v ≤ hi)))) (M) := by
  refine Rn.of [some (.int v), some (.int lo), some (.int hi)] (by decide +kernel) rfl (Nat.le_of_ble_eq_true rfl) rfl (fun J g hr => ?_)
  refine j_iload_n g (i := 0) (by decide +kernel) rfl ?_
  refine j_iload_n g (i := 1) (by decide +kernel) rfl ?_
  refine j_icmp_lt g (off := 12) (tgt := 14) (by decide +kernel) (by decide) (fun c2 => ?_) (fun c2 => ?_)
  · skip
    refine j_iconst g (n := 0) (0) (by decide +kernel) rfl ?_
    refine hr.1 _ _ _ _ (by decide +kernel) ⟨_, rfl, ?_⟩ ?_ ?_
    · exact (by decide +kernel)
    · first | exact leafT (by simp only [Int32.lt_iff_toInt_lt, Int32.le_iff_toInt_le, ← Int32.toInt_inj, Int32.reduceToInt, im1, im2, im3, im4, im9, im11, im12, im13, im14, im15, im100, b2i_0, b2i_1] at c2 ⊢; omega) | exact leafF (by simp only [Int32.lt_iff_toInt_lt, Int32.le_iff_toInt_le, ← Int32.toInt_inj, Int32.reduceToInt, im1, im2, im3, im4, im9, im11, im12, im13, im14, im15, im100, b2i_0, b2i_1] at c2 ⊢; omega) | exact leafT (by simp only [Int32.lt_iff_toInt_lt, Int32.le_iff_toInt_le, ← Int32.toInt_inj, Int32.reduceToInt, im1, im2, im3, im4, im9, im11, im12, im13, im14, im15, im100, b2i_0, b2i_1] at c2 ⊢; simp_all) | exact leafF (by simp only [Int32.lt_iff_toInt_lt, Int32.le_iff_toInt_le, ← Int32.toInt_inj, Int32.reduceToInt, im1, im2, im3, im4, im9, im11, im12, im13, im14, im15, im100, b2i_0, b2i_1] at c2 ⊢; simp_all)
    · rfl
  · skip
    refine j_iload_n g (i := 0) (by decide +kernel) rfl ?_
    refine j_iload_n g (i := 2) (by decide +kernel) rfl ?_
    refine j_icmp_gt g (off := 7) (tgt := 14) (by decide +kernel) (by decide) (fun c7 => ?_) (fun c7 => ?_)
    · skip
      refine j_iconst g (n := 0) (0) (by decide +kernel) rfl ?_
      refine hr.1 _ _ _ _ (by decide +kernel) ⟨_, rfl, ?_⟩ ?_ ?_
      · exact (by decide +kernel)
      · first | exact leafT (by simp only [Int32.lt_iff_toInt_lt, Int32.le_iff_toInt_le, ← Int32.toInt_inj, Int32.reduceToInt, im1, im2, im3, im4, im9, im11, im12, im13, im14, im15, im100, b2i_0, b2i_1] at c2 c7 ⊢; omega) | exact leafF (by simp only [Int32.lt_iff_toInt_lt, Int32.le_iff_toInt_le, ← Int32.toInt_inj, Int32.reduceToInt, im1, im2, im3, im4, im9, im11, im12, im13, im14, im15, im100, b2i_0, b2i_1] at c2 c7 ⊢; omega) | exact leafT (by simp only [Int32.lt_iff_toInt_lt, Int32.le_iff_toInt_le, ← Int32.toInt_inj, Int32.reduceToInt, im1, im2, im3, im4, im9, im11, im12, im13, im14, im15, im100, b2i_0, b2i_1] at c2 c7 ⊢; simp_all) | exact leafF (by simp only [Int32.lt_iff_toInt_lt, Int32.le_iff_toInt_le, ← Int32.toInt_inj, Int32.reduceToInt, im1, im2, im3, im4, im9, im11, im12, im13, im14, im15, im100, b2i_0, b2i_1] at c2 c7 ⊢; simp_all)
      · rfl
    · skip
      refine j_iconst g (n := 1) (1) (by decide +kernel) rfl ?_
      refine j_goto g (off := 4) (tgt := 15) (by decide +kernel) (by decide) ?_
      refine hr.1 _ _ _ _ (by decide +kernel) ⟨_, rfl, ?_⟩ ?_ ?_
      · exact (by decide +kernel)
      · first | exact leafT (by simp only [Int32.lt_iff_toInt_lt, Int32.le_iff_toInt_le, ← Int32.toInt_inj, Int32.reduceToInt, im1, im2, im3, im4, im9, im11, im12, im13, im14, im15, im100, b2i_0, b2i_1] at c2 c7 ⊢; omega) | exact leafF (by simp only [Int32.lt_iff_toInt_lt, Int32.le_iff_toInt_le, ← Int32.toInt_inj, Int32.reduceToInt, im1, im2, im3, im4, im9, im11, im12, im13, im14, im15, im100, b2i_0, b2i_1] at c2 c7 ⊢; omega) | exact leafT (by simp only [Int32.lt_iff_toInt_lt, Int32.le_iff_toInt_le, ← Int32.toInt_inj, Int32.reduceToInt, im1, im2, im3, im4, im9, im11, im12, im13, im14, im15, im100, b2i_0, b2i_1] at c2 c7 ⊢; simp_all) | exact leafF (by simp only [Int32.lt_iff_toInt_lt, Int32.le_iff_toInt_le, ← Int32.toInt_inj, Int32.reduceToInt, im1, im2, im3, im4, im9, im11, im12, im13, im14, im15, im100, b2i_0, b2i_1] at c2 c7 ⊢; simp_all)
      · rfl
theorem rnX7_orNone {d : Nat} {M : Mm} {v : Int32}  : Rn (d) mX7_orNone [.int v] M (some (.int (if v < 0 then -9 else v))) (M) := by
  refine Rn.of [some (.int v)] (by decide +kernel) rfl (Nat.le_of_ble_eq_true rfl) rfl (fun J g hr => ?_)
  refine j_iload_n g (i := 0) (by decide +kernel) rfl ?_
  refine j_if_ge g (off := 8) (tgt := 9) (by decide +kernel) (by decide) (fun c1 => ?_) (fun c1 => ?_)
  · skip
    refine j_iload_n g (i := 0) (by decide +kernel) rfl ?_
    refine hr.1 _ _ _ _ (by decide +kernel) ⟨_, rfl, ?_⟩ ?_ ?_
    · rfl
    · first | rfl | (exfalso; simp only [Int32.lt_iff_toInt_lt, Int32.le_iff_toInt_le, ← Int32.toInt_inj, Int32.reduceToInt, im1, im2, im3, im4, im9, im11, im12, im13, im14, im15, im100, b2i_0, b2i_1] at c1; omega) | ((try split) <;> (try split) <;> (try split) <;> first | rfl | (exfalso; simp only [Int32.lt_iff_toInt_lt, Int32.le_iff_toInt_le, ← Int32.toInt_inj, Int32.reduceToInt, im1, im2, im3, im4, im9, im11, im12, im13, im14, im15, im100, b2i_0, b2i_1] at *; omega))
    · rfl
  · skip
    refine j_bipush g (n := -9) (-9) (by decide +kernel) (by decide +kernel) ?_
    refine j_goto g (off := 4) (tgt := 10) (by decide +kernel) (by decide) ?_
    refine hr.1 _ _ _ _ (by decide +kernel) ⟨_, rfl, ?_⟩ ?_ ?_
    · rfl
    · first | rfl | (exfalso; simp only [Int32.lt_iff_toInt_lt, Int32.le_iff_toInt_le, ← Int32.toInt_inj, Int32.reduceToInt, im1, im2, im3, im4, im9, im11, im12, im13, im14, im15, im100, b2i_0, b2i_1] at c1; omega) | ((try split) <;> (try split) <;> (try split) <;> first | rfl | (exfalso; simp only [Int32.lt_iff_toInt_lt, Int32.le_iff_toInt_le, ← Int32.toInt_inj, Int32.reduceToInt, im1, im2, im3, im4, im9, im11, im12, im13, im14, im15, im100, b2i_0, b2i_1] at *; omega))
    · rfl
theorem rnX1_isNumber {d : Nat} {M : Mm} {v : Int32}  : Rn (d) mX1_isNumber [.int v] M (some (.int (b2i (0 ≤ v ∧ v < 4)))) (M) := by
  refine Rn.of [some (.int v)] (by decide +kernel) rfl (Nat.le_of_ble_eq_true rfl) rfl (fun J g hr => ?_)
  refine j_iload_n g (i := 0) (by decide +kernel) rfl ?_
  refine j_if_lt g (off := 12) (tgt := 13) (by decide +kernel) (by decide) (fun c1 => ?_) (fun c1 => ?_)
  · skip
    refine j_iconst g (n := 0) (0) (by decide +kernel) rfl ?_
    refine hr.1 _ _ _ _ (by decide +kernel) ⟨_, rfl, ?_⟩ ?_ ?_
    · exact (by decide +kernel)
    · first | exact leafT (by simp only [Int32.lt_iff_toInt_lt, Int32.le_iff_toInt_le, ← Int32.toInt_inj, Int32.reduceToInt, im1, im2, im3, im4, im9, im11, im12, im13, im14, im15, im100, b2i_0, b2i_1] at c1 ⊢; omega) | exact leafF (by simp only [Int32.lt_iff_toInt_lt, Int32.le_iff_toInt_le, ← Int32.toInt_inj, Int32.reduceToInt, im1, im2, im3, im4, im9, im11, im12, im13, im14, im15, im100, b2i_0, b2i_1] at c1 ⊢; omega) | exact leafT (by simp only [Int32.lt_iff_toInt_lt, Int32.le_iff_toInt_le, ← Int32.toInt_inj, Int32.reduceToInt, im1, im2, im3, im4, im9, im11, im12, im13, im14, im15, im100, b2i_0, b2i_1] at c1 ⊢; simp_all) | exact leafF (by simp only [Int32.lt_iff_toInt_lt, Int32.le_iff_toInt_le, ← Int32.toInt_inj, Int32.reduceToInt, im1, im2, im3, im4, im9, im11, im12, im13, im14, im15, im100, b2i_0, b2i_1] at c1 ⊢; simp_all)
    · rfl
  · skip
    refine j_iload_n g (i := 0) (by decide +kernel) rfl ?_
    refine j_iconst g (n := 4) (4) (by decide +kernel) rfl ?_
    refine j_icmp_ge g (off := 7) (tgt := 13) (by decide +kernel) (by decide) (fun c6 => ?_) (fun c6 => ?_)
    · skip
      refine j_iconst g (n := 0) (0) (by decide +kernel) rfl ?_
      refine hr.1 _ _ _ _ (by decide +kernel) ⟨_, rfl, ?_⟩ ?_ ?_
      · exact (by decide +kernel)
      · first | exact leafT (by simp only [Int32.lt_iff_toInt_lt, Int32.le_iff_toInt_le, ← Int32.toInt_inj, Int32.reduceToInt, im1, im2, im3, im4, im9, im11, im12, im13, im14, im15, im100, b2i_0, b2i_1] at c1 c6 ⊢; omega) | exact leafF (by simp only [Int32.lt_iff_toInt_lt, Int32.le_iff_toInt_le, ← Int32.toInt_inj, Int32.reduceToInt, im1, im2, im3, im4, im9, im11, im12, im13, im14, im15, im100, b2i_0, b2i_1] at c1 c6 ⊢; omega) | exact leafT (by simp only [Int32.lt_iff_toInt_lt, Int32.le_iff_toInt_le, ← Int32.toInt_inj, Int32.reduceToInt, im1, im2, im3, im4, im9, im11, im12, im13, im14, im15, im100, b2i_0, b2i_1] at c1 c6 ⊢; simp_all) | exact leafF (by simp only [Int32.lt_iff_toInt_lt, Int32.le_iff_toInt_le, ← Int32.toInt_inj, Int32.reduceToInt, im1, im2, im3, im4, im9, im11, im12, im13, im14, im15, im100, b2i_0, b2i_1] at c1 c6 ⊢; simp_all)
      · rfl
    · skip
      refine j_iconst g (n := 1) (1) (by decide +kernel) rfl ?_
      refine j_goto g (off := 4) (tgt := 14) (by decide +kernel) (by decide) ?_
      refine hr.1 _ _ _ _ (by decide +kernel) ⟨_, rfl, ?_⟩ ?_ ?_
      · exact (by decide +kernel)
      · first | exact leafT (by simp only [Int32.lt_iff_toInt_lt, Int32.le_iff_toInt_le, ← Int32.toInt_inj, Int32.reduceToInt, im1, im2, im3, im4, im9, im11, im12, im13, im14, im15, im100, b2i_0, b2i_1] at c1 c6 ⊢; omega) | exact leafF (by simp only [Int32.lt_iff_toInt_lt, Int32.le_iff_toInt_le, ← Int32.toInt_inj, Int32.reduceToInt, im1, im2, im3, im4, im9, im11, im12, im13, im14, im15, im100, b2i_0, b2i_1] at c1 c6 ⊢; omega) | exact leafT (by simp only [Int32.lt_iff_toInt_lt, Int32.le_iff_toInt_le, ← Int32.toInt_inj, Int32.reduceToInt, im1, im2, im3, im4, im9, im11, im12, im13, im14, im15, im100, b2i_0, b2i_1] at c1 c6 ⊢; simp_all) | exact leafF (by simp only [Int32.lt_iff_toInt_lt, Int32.le_iff_toInt_le, ← Int32.toInt_inj, Int32.reduceToInt, im1, im2, im3, im4, im9, im11, im12, im13, im14, im15, im100, b2i_0, b2i_1] at c1 c6 ⊢; simp_all)
      · rfl
theorem rnX2_isIn {d : Nat} {M : Mm} {a w : Int32}  : Rn (d) mX2_isIn [.int a, .int w] M (some (.int (b2i (¬ (a >>> (w &&& 31)) &&& 1 = 0)))) (M) := by
  refine Rn.of [some (.int a), some (.int w)] (by decide +kernel) rfl (Nat.le_of_ble_eq_true rfl) rfl (fun J g hr => ?_)
  refine j_iload_n g (i := 0) (by decide +kernel) rfl ?_
  refine j_iload_n g (i := 1) (by decide +kernel) rfl ?_
  refine j_ishr g (by decide +kernel) ?_
  refine j_iconst g (n := 1) (1) (by decide +kernel) rfl ?_
  refine j_iand g (by decide +kernel) ?_
  refine j_if_eq g (off := 7) (tgt := 12) (by decide +kernel) (by decide) (fun c5 => ?_) (fun c5 => ?_)
  · skip
    refine j_iconst g (n := 0) (0) (by decide +kernel) rfl ?_
    refine hr.1 _ _ _ _ (by decide +kernel) ⟨_, rfl, ?_⟩ ?_ ?_
    · exact (by decide +kernel)
    · first | exact leafT c5 | exact leafF (by simpa using c5)
    · rfl
  · skip
    refine j_iconst g (n := 1) (1) (by decide +kernel) rfl ?_
    refine j_goto g (off := 4) (tgt := 13) (by decide +kernel) (by decide) ?_
    refine hr.1 _ _ _ _ (by decide +kernel) ⟨_, rfl, ?_⟩ ?_ ?_
    · exact (by decide +kernel)
    · first | exact leafT c5 | exact leafF (by simpa using c5)
    · rfl
theorem rnX5_partsOf {d : Nat} {M : Mm} {a b : Int32}  : Rn (d) mX5_partsOf [.int a, .int b] M (some (.int (if b < 1 then a else (a + b - 1) / b))) (M) := by
  refine Rn.of [some (.int a), some (.int b)] (by decide +kernel) rfl (Nat.le_of_ble_eq_true rfl) rfl (fun J g hr => ?_)
  refine j_iload_n g (i := 1) (by decide +kernel) rfl ?_
  refine j_iconst g (n := 1) (1) (by decide +kernel) rfl ?_
  refine j_icmp_ge g (off := 7) (tgt := 9) (by decide +kernel) (by decide) (fun c2 => ?_) (fun c2 => ?_)
  · skip
    refine j_iload_n g (i := 0) (by decide +kernel) rfl ?_
    refine j_iload_n g (i := 1) (by decide +kernel) rfl ?_
    refine j_iadd g (by decide +kernel) ?_
    refine j_iconst g (n := 1) (1) (by decide +kernel) rfl ?_
    refine j_isub g (by decide +kernel) ?_
    refine j_iload_n g (i := 1) (by decide +kernel) rfl ?_
    refine j_idiv g (by decide +kernel) (by simp only [Int32.lt_iff_toInt_lt, Int32.le_iff_toInt_le, ← Int32.toInt_inj, Int32.reduceToInt, im1, im2, im3, im4, im9, im11, im12, im13, im14, im15, im100, b2i_0, b2i_1] at c2 ⊢; omega) ?_
    refine hr.1 _ _ _ _ (by decide +kernel) ⟨_, rfl, ?_⟩ ?_ ?_
    · rfl
    · first | rfl | (exfalso; simp only [Int32.lt_iff_toInt_lt, Int32.le_iff_toInt_le, ← Int32.toInt_inj, Int32.reduceToInt, im1, im2, im3, im4, im9, im11, im12, im13, im14, im15, im100, b2i_0, b2i_1] at c2; omega) | ((try split) <;> (try split) <;> (try split) <;> first | rfl | (exfalso; simp only [Int32.lt_iff_toInt_lt, Int32.le_iff_toInt_le, ← Int32.toInt_inj, Int32.reduceToInt, im1, im2, im3, im4, im9, im11, im12, im13, im14, im15, im100, b2i_0, b2i_1] at *; omega))
    · rfl
  · skip
    refine j_iload_n g (i := 0) (by decide +kernel) rfl ?_
    refine j_goto g (off := 10) (tgt := 16) (by decide +kernel) (by decide) ?_
    refine hr.1 _ _ _ _ (by decide +kernel) ⟨_, rfl, ?_⟩ ?_ ?_
    · rfl
    · first | rfl | (exfalso; simp only [Int32.lt_iff_toInt_lt, Int32.le_iff_toInt_le, ← Int32.toInt_inj, Int32.reduceToInt, im1, im2, im3, im4, im9, im11, im12, im13, im14, im15, im100, b2i_0, b2i_1] at c2; omega) | ((try split) <;> (try split) <;> (try split) <;> first | rfl | (exfalso; simp only [Int32.lt_iff_toInt_lt, Int32.le_iff_toInt_le, ← Int32.toInt_inj, Int32.reduceToInt, im1, im2, im3, im4, im9, im11, im12, im13, im14, im15, im100, b2i_0, b2i_1] at *; omega))
    · rfl
theorem rnX0_isOrUnder {d : Nat} {M : Mm} {a b : Int32}  : Rn (d) mX0_isOrUnder [.int a, .int b] M (some (.int (b2i (a = b ∨ b = 0 ∨ (a = 3 ∧ b = 2) ∨ (a = 4 ∧ b = 1))))) (M) := by
  refine Rn.of [some (.int a), some (.int b)] (by decide +kernel) rfl (Nat.le_of_ble_eq_true rfl) rfl (fun J g hr => ?_)
  refine j_iload_n g (i := 0) (by decide +kernel) rfl ?_
  refine j_iload_n g (i := 1) (by decide +kernel) rfl ?_
  refine j_icmp_eq g (off := 27) (tgt := 29) (by decide +kernel) (by decide) (fun c2 => ?_) (fun c2 => ?_)
  · skip
    refine j_iconst g (n := 1) (1) (by decide +kernel) rfl ?_
    refine j_goto g (off := 4) (tgt := 34) (by decide +kernel) (by decide) ?_
    refine hr.1 _ _ _ _ (by decide +kernel) ⟨_, rfl, ?_⟩ ?_ ?_
    · exact (by decide +kernel)
    · first | exact leafT (by simp only [Int32.lt_iff_toInt_lt, Int32.le_iff_toInt_le, ← Int32.toInt_inj, Int32.reduceToInt, im1, im2, im3, im4, im9, im11, im12, im13, im14, im15, im100, b2i_0, b2i_1] at c2 ⊢; omega) | exact leafF (by simp only [Int32.lt_iff_toInt_lt, Int32.le_iff_toInt_le, ← Int32.toInt_inj, Int32.reduceToInt, im1, im2, im3, im4, im9, im11, im12, im13, im14, im15, im100, b2i_0, b2i_1] at c2 ⊢; omega) | exact leafT (by simp only [Int32.lt_iff_toInt_lt, Int32.le_iff_toInt_le, ← Int32.toInt_inj, Int32.reduceToInt, im1, im2, im3, im4, im9, im11, im12, im13, im14, im15, im100, b2i_0, b2i_1] at c2 ⊢; simp_all) | exact leafF (by simp only [Int32.lt_iff_toInt_lt, Int32.le_iff_toInt_le, ← Int32.toInt_inj, Int32.reduceToInt, im1, im2, im3, im4, im9, im11, im12, im13, im14, im15, im100, b2i_0, b2i_1] at c2 ⊢; simp_all)
    · rfl
  · skip
    refine j_iload_n g (i := 1) (by decide +kernel) rfl ?_
    refine j_if_eq g (off := 23) (tgt := 29) (by decide +kernel) (by decide) (fun c6 => ?_) (fun c6 => ?_)
    · skip
      refine j_iconst g (n := 1) (1) (by decide +kernel) rfl ?_
      refine j_goto g (off := 4) (tgt := 34) (by decide +kernel) (by decide) ?_
      refine hr.1 _ _ _ _ (by decide +kernel) ⟨_, rfl, ?_⟩ ?_ ?_
      · exact (by decide +kernel)
      · first | exact leafT (by simp only [Int32.lt_iff_toInt_lt, Int32.le_iff_toInt_le, ← Int32.toInt_inj, Int32.reduceToInt, im1, im2, im3, im4, im9, im11, im12, im13, im14, im15, im100, b2i_0, b2i_1] at c2 c6 ⊢; omega) | exact leafF (by simp only [Int32.lt_iff_toInt_lt, Int32.le_iff_toInt_le, ← Int32.toInt_inj, Int32.reduceToInt, im1, im2, im3, im4, im9, im11, im12, im13, im14, im15, im100, b2i_0, b2i_1] at c2 c6 ⊢; omega) | exact leafT (by simp only [Int32.lt_iff_toInt_lt, Int32.le_iff_toInt_le, ← Int32.toInt_inj, Int32.reduceToInt, im1, im2, im3, im4, im9, im11, im12, im13, im14, im15, im100, b2i_0, b2i_1] at c2 c6 ⊢; simp_all) | exact leafF (by simp only [Int32.lt_iff_toInt_lt, Int32.le_iff_toInt_le, ← Int32.toInt_inj, Int32.reduceToInt, im1, im2, im3, im4, im9, im11, im12, im13, im14, im15, im100, b2i_0, b2i_1] at c2 c6 ⊢; simp_all)
      · rfl
    · skip
      refine j_iload_n g (i := 0) (by decide +kernel) rfl ?_
      refine j_iconst g (n := 3) (3) (by decide +kernel) rfl ?_
      refine j_icmp_ne g (off := 8) (tgt := 19) (by decide +kernel) (by decide) (fun c11 => ?_) (fun c11 => ?_)
      · skip
        refine j_iload_n g (i := 0) (by decide +kernel) rfl ?_
        refine j_iconst g (n := 4) (4) (by decide +kernel) rfl ?_
        refine j_icmp_ne g (off := 12) (tgt := 33) (by decide +kernel) (by decide) (fun c21 => ?_) (fun c21 => ?_)
        · skip
          refine j_iconst g (n := 0) (0) (by decide +kernel) rfl ?_
          refine hr.1 _ _ _ _ (by decide +kernel) ⟨_, rfl, ?_⟩ ?_ ?_
          · exact (by decide +kernel)
          · first | exact leafT (by simp only [Int32.lt_iff_toInt_lt, Int32.le_iff_toInt_le, ← Int32.toInt_inj, Int32.reduceToInt, im1, im2, im3, im4, im9, im11, im12, im13, im14, im15, im100, b2i_0, b2i_1] at c2 c6 c11 c21 ⊢; omega) | exact leafF (by simp only [Int32.lt_iff_toInt_lt, Int32.le_iff_toInt_le, ← Int32.toInt_inj, Int32.reduceToInt, im1, im2, im3, im4, im9, im11, im12, im13, im14, im15, im100, b2i_0, b2i_1] at c2 c6 c11 c21 ⊢; omega) | exact leafT (by simp only [Int32.lt_iff_toInt_lt, Int32.le_iff_toInt_le, ← Int32.toInt_inj, Int32.reduceToInt, im1, im2, im3, im4, im9, im11, im12, im13, im14, im15, im100, b2i_0, b2i_1] at c2 c6 c11 c21 ⊢; simp_all) | exact leafF (by simp only [Int32.lt_iff_toInt_lt, Int32.le_iff_toInt_le, ← Int32.toInt_inj, Int32.reduceToInt, im1, im2, im3, im4, im9, im11, im12, im13, im14, im15, im100, b2i_0, b2i_1] at c2 c6 c11 c21 ⊢; simp_all)
          · rfl
        · skip
          refine j_iload_n g (i := 1) (by decide +kernel) rfl ?_
          refine j_iconst g (n := 1) (1) (by decide +kernel) rfl ?_
          refine j_icmp_ne g (off := 7) (tgt := 33) (by decide +kernel) (by decide) (fun c26 => ?_) (fun c26 => ?_)
          · skip
            refine j_iconst g (n := 0) (0) (by decide +kernel) rfl ?_
            refine hr.1 _ _ _ _ (by decide +kernel) ⟨_, rfl, ?_⟩ ?_ ?_
            · exact (by decide +kernel)
            · first | exact leafT (by simp only [Int32.lt_iff_toInt_lt, Int32.le_iff_toInt_le, ← Int32.toInt_inj, Int32.reduceToInt, im1, im2, im3, im4, im9, im11, im12, im13, im14, im15, im100, b2i_0, b2i_1] at c2 c6 c11 c21 c26 ⊢; omega) | exact leafF (by simp only [Int32.lt_iff_toInt_lt, Int32.le_iff_toInt_le, ← Int32.toInt_inj, Int32.reduceToInt, im1, im2, im3, im4, im9, im11, im12, im13, im14, im15, im100, b2i_0, b2i_1] at c2 c6 c11 c21 c26 ⊢; omega) | exact leafT (by simp only [Int32.lt_iff_toInt_lt, Int32.le_iff_toInt_le, ← Int32.toInt_inj, Int32.reduceToInt, im1, im2, im3, im4, im9, im11, im12, im13, im14, im15, im100, b2i_0, b2i_1] at c2 c6 c11 c21 c26 ⊢; simp_all) | exact leafF (by simp only [Int32.lt_iff_toInt_lt, Int32.le_iff_toInt_le, ← Int32.toInt_inj, Int32.reduceToInt, im1, im2, im3, im4, im9, im11, im12, im13, im14, im15, im100, b2i_0, b2i_1] at c2 c6 c11 c21 c26 ⊢; simp_all)
            · rfl
          · skip
            refine j_iconst g (n := 1) (1) (by decide +kernel) rfl ?_
            refine j_goto g (off := 4) (tgt := 34) (by decide +kernel) (by decide) ?_
            refine hr.1 _ _ _ _ (by decide +kernel) ⟨_, rfl, ?_⟩ ?_ ?_
            · exact (by decide +kernel)
            · first | exact leafT (by simp only [Int32.lt_iff_toInt_lt, Int32.le_iff_toInt_le, ← Int32.toInt_inj, Int32.reduceToInt, im1, im2, im3, im4, im9, im11, im12, im13, im14, im15, im100, b2i_0, b2i_1] at c2 c6 c11 c21 c26 ⊢; omega) | exact leafF (by simp only [Int32.lt_iff_toInt_lt, Int32.le_iff_toInt_le, ← Int32.toInt_inj, Int32.reduceToInt, im1, im2, im3, im4, im9, im11, im12, im13, im14, im15, im100, b2i_0, b2i_1] at c2 c6 c11 c21 c26 ⊢; omega) | exact leafT (by simp only [Int32.lt_iff_toInt_lt, Int32.le_iff_toInt_le, ← Int32.toInt_inj, Int32.reduceToInt, im1, im2, im3, im4, im9, im11, im12, im13, im14, im15, im100, b2i_0, b2i_1] at c2 c6 c11 c21 c26 ⊢; simp_all) | exact leafF (by simp only [Int32.lt_iff_toInt_lt, Int32.le_iff_toInt_le, ← Int32.toInt_inj, Int32.reduceToInt, im1, im2, im3, im4, im9, im11, im12, im13, im14, im15, im100, b2i_0, b2i_1] at c2 c6 c11 c21 c26 ⊢; simp_all)
            · rfl
      · skip
        refine j_iload_n g (i := 1) (by decide +kernel) rfl ?_
        refine j_iconst g (n := 2) (2) (by decide +kernel) rfl ?_
        refine j_icmp_eq g (off := 13) (tgt := 29) (by decide +kernel) (by decide) (fun c16 => ?_) (fun c16 => ?_)
        · skip
          refine j_iconst g (n := 1) (1) (by decide +kernel) rfl ?_
          refine j_goto g (off := 4) (tgt := 34) (by decide +kernel) (by decide) ?_
          refine hr.1 _ _ _ _ (by decide +kernel) ⟨_, rfl, ?_⟩ ?_ ?_
          · exact (by decide +kernel)
          · first | exact leafT (by simp only [Int32.lt_iff_toInt_lt, Int32.le_iff_toInt_le, ← Int32.toInt_inj, Int32.reduceToInt, im1, im2, im3, im4, im9, im11, im12, im13, im14, im15, im100, b2i_0, b2i_1] at c2 c6 c11 c16 ⊢; omega) | exact leafF (by simp only [Int32.lt_iff_toInt_lt, Int32.le_iff_toInt_le, ← Int32.toInt_inj, Int32.reduceToInt, im1, im2, im3, im4, im9, im11, im12, im13, im14, im15, im100, b2i_0, b2i_1] at c2 c6 c11 c16 ⊢; omega) | exact leafT (by simp only [Int32.lt_iff_toInt_lt, Int32.le_iff_toInt_le, ← Int32.toInt_inj, Int32.reduceToInt, im1, im2, im3, im4, im9, im11, im12, im13, im14, im15, im100, b2i_0, b2i_1] at c2 c6 c11 c16 ⊢; simp_all) | exact leafF (by simp only [Int32.lt_iff_toInt_lt, Int32.le_iff_toInt_le, ← Int32.toInt_inj, Int32.reduceToInt, im1, im2, im3, im4, im9, im11, im12, im13, im14, im15, im100, b2i_0, b2i_1] at c2 c6 c11 c16 ⊢; simp_all)
          · rfl
        · skip
          refine j_iload_n g (i := 0) (by decide +kernel) rfl ?_
          refine j_iconst g (n := 4) (4) (by decide +kernel) rfl ?_
          refine j_icmp_ne g (off := 12) (tgt := 33) (by decide +kernel) (by decide) (fun c21 => ?_) (fun c21 => ?_)
          · skip
            refine j_iconst g (n := 0) (0) (by decide +kernel) rfl ?_
            refine hr.1 _ _ _ _ (by decide +kernel) ⟨_, rfl, ?_⟩ ?_ ?_
            · exact (by decide +kernel)
            · first | exact leafT (by simp only [Int32.lt_iff_toInt_lt, Int32.le_iff_toInt_le, ← Int32.toInt_inj, Int32.reduceToInt, im1, im2, im3, im4, im9, im11, im12, im13, im14, im15, im100, b2i_0, b2i_1] at c2 c6 c11 c16 c21 ⊢; omega) | exact leafF (by simp only [Int32.lt_iff_toInt_lt, Int32.le_iff_toInt_le, ← Int32.toInt_inj, Int32.reduceToInt, im1, im2, im3, im4, im9, im11, im12, im13, im14, im15, im100, b2i_0, b2i_1] at c2 c6 c11 c16 c21 ⊢; omega) | exact leafT (by simp only [Int32.lt_iff_toInt_lt, Int32.le_iff_toInt_le, ← Int32.toInt_inj, Int32.reduceToInt, im1, im2, im3, im4, im9, im11, im12, im13, im14, im15, im100, b2i_0, b2i_1] at c2 c6 c11 c16 c21 ⊢; simp_all) | exact leafF (by simp only [Int32.lt_iff_toInt_lt, Int32.le_iff_toInt_le, ← Int32.toInt_inj, Int32.reduceToInt, im1, im2, im3, im4, im9, im11, im12, im13, im14, im15, im100, b2i_0, b2i_1] at c2 c6 c11 c16 c21 ⊢; simp_all)
            · rfl
          · skip
            refine j_iload_n g (i := 1) (by decide +kernel) rfl ?_
            refine j_iconst g (n := 1) (1) (by decide +kernel) rfl ?_
            refine j_icmp_ne g (off := 7) (tgt := 33) (by decide +kernel) (by decide) (fun c26 => ?_) (fun c26 => ?_)
            · skip
              refine j_iconst g (n := 0) (0) (by decide +kernel) rfl ?_
              refine hr.1 _ _ _ _ (by decide +kernel) ⟨_, rfl, ?_⟩ ?_ ?_
              · exact (by decide +kernel)
              · first | exact leafT (by simp only [Int32.lt_iff_toInt_lt, Int32.le_iff_toInt_le, ← Int32.toInt_inj, Int32.reduceToInt, im1, im2, im3, im4, im9, im11, im12, im13, im14, im15, im100, b2i_0, b2i_1] at c2 c6 c11 c16 c21 c26 ⊢; omega) | exact leafF (by simp only [Int32.lt_iff_toInt_lt, Int32.le_iff_toInt_le, ← Int32.toInt_inj, Int32.reduceToInt, im1, im2, im3, im4, im9, im11, im12, im13, im14, im15, im100, b2i_0, b2i_1] at c2 c6 c11 c16 c21 c26 ⊢; omega) | exact leafT (by simp only [Int32.lt_iff_toInt_lt, Int32.le_iff_toInt_le, ← Int32.toInt_inj, Int32.reduceToInt, im1, im2, im3, im4, im9, im11, im12, im13, im14, im15, im100, b2i_0, b2i_1] at c2 c6 c11 c16 c21 c26 ⊢; simp_all) | exact leafF (by simp only [Int32.lt_iff_toInt_lt, Int32.le_iff_toInt_le, ← Int32.toInt_inj, Int32.reduceToInt, im1, im2, im3, im4, im9, im11, im12, im13, im14, im15, im100, b2i_0, b2i_1] at c2 c6 c11 c16 c21 c26 ⊢; simp_all)
              · rfl
            · skip
              refine j_iconst g (n := 1) (1) (by decide +kernel) rfl ?_
              refine j_goto g (off := 4) (tgt := 34) (by decide +kernel) (by decide) ?_
              refine hr.1 _ _ _ _ (by decide +kernel) ⟨_, rfl, ?_⟩ ?_ ?_
              · exact (by decide +kernel)
              · first | exact leafT (by simp only [Int32.lt_iff_toInt_lt, Int32.le_iff_toInt_le, ← Int32.toInt_inj, Int32.reduceToInt, im1, im2, im3, im4, im9, im11, im12, im13, im14, im15, im100, b2i_0, b2i_1] at c2 c6 c11 c16 c21 c26 ⊢; omega) | exact leafF (by simp only [Int32.lt_iff_toInt_lt, Int32.le_iff_toInt_le, ← Int32.toInt_inj, Int32.reduceToInt, im1, im2, im3, im4, im9, im11, im12, im13, im14, im15, im100, b2i_0, b2i_1] at c2 c6 c11 c16 c21 c26 ⊢; omega) | exact leafT (by simp only [Int32.lt_iff_toInt_lt, Int32.le_iff_toInt_le, ← Int32.toInt_inj, Int32.reduceToInt, im1, im2, im3, im4, im9, im11, im12, im13, im14, im15, im100, b2i_0, b2i_1] at c2 c6 c11 c16 c21 c26 ⊢; simp_all) | exact leafF (by simp only [Int32.lt_iff_toInt_lt, Int32.le_iff_toInt_le, ← Int32.toInt_inj, Int32.reduceToInt, im1, im2, im3, im4, im9, im11, im12, im13, im14, im15, im100, b2i_0, b2i_1] at c2 c6 c11 c16 c21 c26 ⊢; simp_all)
              · rfl
theorem rnX4_sortOf {d : Nat} {M : Mm} {b : Int32}  : Rn (d) mX4_sortOf [.int b] M (some (.int (if 97 ≤ b ∧ b ≤ 122 then 1 else if 48 ≤ b ∧ b ≤ 57 then 2 else 3))) (M) := by
  refine Rn.of [some (.int b)] (by decide +kernel) rfl (Nat.le_of_ble_eq_true rfl) rfl (fun J g hr => ?_)
  refine j_iload_n g (i := 0) (by decide +kernel) rfl ?_
  refine j_bipush g (n := 97) (97) (by decide +kernel) (by decide +kernel) ?_
  refine j_icmp_lt g (off := 11) (tgt := 14) (by decide +kernel) (by decide) (fun c3 => ?_) (fun c3 => ?_)
  · skip
    refine j_iload_n g (i := 0) (by decide +kernel) rfl ?_
    refine j_bipush g (n := 48) (48) (by decide +kernel) (by decide +kernel) ?_
    refine j_icmp_lt g (off := 13) (tgt := 30) (by decide +kernel) (by decide) (fun c17 => ?_) (fun c17 => ?_)
    · skip
      refine j_iconst g (n := 3) (3) (by decide +kernel) rfl ?_
      refine hr.1 _ _ _ _ (by decide +kernel) ⟨_, rfl, ?_⟩ ?_ ?_
      · rfl
      · first | rfl | (exfalso; simp only [Int32.lt_iff_toInt_lt, Int32.le_iff_toInt_le, ← Int32.toInt_inj, Int32.reduceToInt, im1, im2, im3, im4, im9, im11, im12, im13, im14, im15, im100, b2i_0, b2i_1] at c3 c17; omega) | ((try split) <;> (try split) <;> (try split) <;> first | rfl | (exfalso; simp only [Int32.lt_iff_toInt_lt, Int32.le_iff_toInt_le, ← Int32.toInt_inj, Int32.reduceToInt, im1, im2, im3, im4, im9, im11, im12, im13, im14, im15, im100, b2i_0, b2i_1] at *; omega))
      · rfl
    · skip
      refine j_iload_n g (i := 0) (by decide +kernel) rfl ?_
      refine j_bipush g (n := 57) (57) (by decide +kernel) (by decide +kernel) ?_
      refine j_icmp_gt g (off := 7) (tgt := 30) (by decide +kernel) (by decide) (fun c23 => ?_) (fun c23 => ?_)
      · skip
        refine j_iconst g (n := 3) (3) (by decide +kernel) rfl ?_
        refine hr.1 _ _ _ _ (by decide +kernel) ⟨_, rfl, ?_⟩ ?_ ?_
        · rfl
        · first | rfl | (exfalso; simp only [Int32.lt_iff_toInt_lt, Int32.le_iff_toInt_le, ← Int32.toInt_inj, Int32.reduceToInt, im1, im2, im3, im4, im9, im11, im12, im13, im14, im15, im100, b2i_0, b2i_1] at c3 c17 c23; omega) | ((try split) <;> (try split) <;> (try split) <;> first | rfl | (exfalso; simp only [Int32.lt_iff_toInt_lt, Int32.le_iff_toInt_le, ← Int32.toInt_inj, Int32.reduceToInt, im1, im2, im3, im4, im9, im11, im12, im13, im14, im15, im100, b2i_0, b2i_1] at *; omega))
        · rfl
      · skip
        refine j_iconst g (n := 2) (2) (by decide +kernel) rfl ?_
        refine j_goto g (off := 4) (tgt := 31) (by decide +kernel) (by decide) ?_
        refine hr.1 _ _ _ _ (by decide +kernel) ⟨_, rfl, ?_⟩ ?_ ?_
        · rfl
        · first | rfl | (exfalso; simp only [Int32.lt_iff_toInt_lt, Int32.le_iff_toInt_le, ← Int32.toInt_inj, Int32.reduceToInt, im1, im2, im3, im4, im9, im11, im12, im13, im14, im15, im100, b2i_0, b2i_1] at c3 c17 c23; omega) | ((try split) <;> (try split) <;> (try split) <;> first | rfl | (exfalso; simp only [Int32.lt_iff_toInt_lt, Int32.le_iff_toInt_le, ← Int32.toInt_inj, Int32.reduceToInt, im1, im2, im3, im4, im9, im11, im12, im13, im14, im15, im100, b2i_0, b2i_1] at *; omega))
        · rfl
  · skip
    refine j_iload_n g (i := 0) (by decide +kernel) rfl ?_
    refine j_bipush g (n := 122) (122) (by decide +kernel) (by decide +kernel) ?_
    refine j_icmp_gt g (off := 5) (tgt := 14) (by decide +kernel) (by decide) (fun c9 => ?_) (fun c9 => ?_)
    · skip
      refine j_iload_n g (i := 0) (by decide +kernel) rfl ?_
      refine j_bipush g (n := 48) (48) (by decide +kernel) (by decide +kernel) ?_
      refine j_icmp_lt g (off := 13) (tgt := 30) (by decide +kernel) (by decide) (fun c17 => ?_) (fun c17 => ?_)
      · skip
        refine j_iconst g (n := 3) (3) (by decide +kernel) rfl ?_
        refine hr.1 _ _ _ _ (by decide +kernel) ⟨_, rfl, ?_⟩ ?_ ?_
        · rfl
        · first | rfl | (exfalso; simp only [Int32.lt_iff_toInt_lt, Int32.le_iff_toInt_le, ← Int32.toInt_inj, Int32.reduceToInt, im1, im2, im3, im4, im9, im11, im12, im13, im14, im15, im100, b2i_0, b2i_1] at c3 c9 c17; omega) | ((try split) <;> (try split) <;> (try split) <;> first | rfl | (exfalso; simp only [Int32.lt_iff_toInt_lt, Int32.le_iff_toInt_le, ← Int32.toInt_inj, Int32.reduceToInt, im1, im2, im3, im4, im9, im11, im12, im13, im14, im15, im100, b2i_0, b2i_1] at *; omega))
        · rfl
      · skip
        refine j_iload_n g (i := 0) (by decide +kernel) rfl ?_
        refine j_bipush g (n := 57) (57) (by decide +kernel) (by decide +kernel) ?_
        refine j_icmp_gt g (off := 7) (tgt := 30) (by decide +kernel) (by decide) (fun c23 => ?_) (fun c23 => ?_)
        · skip
          refine j_iconst g (n := 3) (3) (by decide +kernel) rfl ?_
          refine hr.1 _ _ _ _ (by decide +kernel) ⟨_, rfl, ?_⟩ ?_ ?_
          · rfl
          · first | rfl | (exfalso; simp only [Int32.lt_iff_toInt_lt, Int32.le_iff_toInt_le, ← Int32.toInt_inj, Int32.reduceToInt, im1, im2, im3, im4, im9, im11, im12, im13, im14, im15, im100, b2i_0, b2i_1] at c3 c9 c17 c23; omega) | ((try split) <;> (try split) <;> (try split) <;> first | rfl | (exfalso; simp only [Int32.lt_iff_toInt_lt, Int32.le_iff_toInt_le, ← Int32.toInt_inj, Int32.reduceToInt, im1, im2, im3, im4, im9, im11, im12, im13, im14, im15, im100, b2i_0, b2i_1] at *; omega))
          · rfl
        · skip
          refine j_iconst g (n := 2) (2) (by decide +kernel) rfl ?_
          refine j_goto g (off := 4) (tgt := 31) (by decide +kernel) (by decide) ?_
          refine hr.1 _ _ _ _ (by decide +kernel) ⟨_, rfl, ?_⟩ ?_ ?_
          · rfl
          · first | rfl | (exfalso; simp only [Int32.lt_iff_toInt_lt, Int32.le_iff_toInt_le, ← Int32.toInt_inj, Int32.reduceToInt, im1, im2, im3, im4, im9, im11, im12, im13, im14, im15, im100, b2i_0, b2i_1] at c3 c9 c17 c23; omega) | ((try split) <;> (try split) <;> (try split) <;> first | rfl | (exfalso; simp only [Int32.lt_iff_toInt_lt, Int32.le_iff_toInt_le, ← Int32.toInt_inj, Int32.reduceToInt, im1, im2, im3, im4, im9, im11, im12, im13, im14, im15, im100, b2i_0, b2i_1] at *; omega))
          · rfl
    · skip
      refine j_iconst g (n := 1) (1) (by decide +kernel) rfl ?_
      refine hr.1 _ _ _ _ (by decide +kernel) ⟨_, rfl, ?_⟩ ?_ ?_
      · rfl
      · first | rfl | (exfalso; simp only [Int32.lt_iff_toInt_lt, Int32.le_iff_toInt_le, ← Int32.toInt_inj, Int32.reduceToInt, im1, im2, im3, im4, im9, im11, im12, im13, im14, im15, im100, b2i_0, b2i_1] at c3 c9; omega) | ((try split) <;> (try split) <;> (try split) <;> first | rfl | (exfalso; simp only [Int32.lt_iff_toInt_lt, Int32.le_iff_toInt_le, ← Int32.toInt_inj, Int32.reduceToInt, im1, im2, im3, im4, im9, im11, im12, im13, im14, im15, im100, b2i_0, b2i_1] at *; omega))
      · rfl
theorem rnX8_isPlace {d : Nat} {M : Mm} {v : Int32}  : Rn (d + 1) mX8_isPlace [.int v] M (some (.int (b2i (0 ≤ v ∧ v ≤ 9)))) (M) := by
  refine Rn.of [some (.int v)] (by decide +kernel) rfl (Nat.le_of_ble_eq_true rfl) rfl (fun J g hr => ?_)
  refine j_iload_n g (i := 0) (by decide +kernel) rfl ?_
  refine j_iconst g (n := 0) (0) (by decide +kernel) rfl ?_
  refine j_bipush g (n := 9) (9) (by decide +kernel) (by decide +kernel) ?_
  refine j_cS3r g s8_95 (by decide +kernel) (by decide) (rnX8_in) ?_
  refine hr.1 _ _ _ _ (by decide +kernel) ⟨_, rfl, ?_⟩ ?_ ?_
  · exact b2i_nar
  · rfl
  · rfl
theorem rnX8_isSide {d : Nat} {M : Mm} {v : Int32}  : Rn (d + 1) mX8_isSide [.int v] M (some (.int (b2i (0 ≤ v ∧ v ≤ 1)))) (M) := by
  refine Rn.of [some (.int v)] (by decide +kernel) rfl (Nat.le_of_ble_eq_true rfl) rfl (fun J g hr => ?_)
  refine j_iload_n g (i := 0) (by decide +kernel) rfl ?_
  refine j_iconst g (n := 0) (0) (by decide +kernel) rfl ?_
  refine j_iconst g (n := 1) (1) (by decide +kernel) rfl ?_
  refine j_cS3r g s8_95 (by decide +kernel) (by decide) (rnX8_in) ?_
  refine hr.1 _ _ _ _ (by decide +kernel) ⟨_, rfl, ?_⟩ ?_ ?_
  · exact b2i_nar
  · rfl
  · rfl
theorem rnX8_isLetter {d : Nat} {M : Mm} {v : Int32}  : Rn (d + 1) mX8_isLetter [.int v] M (some (.int (b2i (97 ≤ v ∧ v ≤ 122)))) (M) := by
  refine Rn.of [some (.int v)] (by decide +kernel) rfl (Nat.le_of_ble_eq_true rfl) rfl (fun J g hr => ?_)
  refine j_iload_n g (i := 0) (by decide +kernel) rfl ?_
  refine j_bipush g (n := 97) (97) (by decide +kernel) (by decide +kernel) ?_
  refine j_bipush g (n := 122) (122) (by decide +kernel) (by decide +kernel) ?_
  refine j_cS3r g s8_95 (by decide +kernel) (by decide) (rnX8_in) ?_
  refine hr.1 _ _ _ _ (by decide +kernel) ⟨_, rfl, ?_⟩ ?_ ?_
  · exact b2i_nar
  · rfl
  · rfl
theorem rnX8_isDigit {d : Nat} {M : Mm} {v : Int32}  : Rn (d + 1) mX8_isDigit [.int v] M (some (.int (b2i (48 ≤ v ∧ v ≤ 57)))) (M) := by
  refine Rn.of [some (.int v)] (by decide +kernel) rfl (Nat.le_of_ble_eq_true rfl) rfl (fun J g hr => ?_)
  refine j_iload_n g (i := 0) (by decide +kernel) rfl ?_
  refine j_bipush g (n := 48) (48) (by decide +kernel) (by decide +kernel) ?_
  refine j_bipush g (n := 57) (57) (by decide +kernel) (by decide +kernel) ?_
  refine j_cS3r g s8_95 (by decide +kernel) (by decide) (rnX8_in) ?_
  refine hr.1 _ _ _ _ (by decide +kernel) ⟨_, rfl, ?_⟩ ?_ ?_
  · exact b2i_nar
  · rfl
  · rfl
theorem rnX8_isShelf {d : Nat} {M : Mm} {v : Int32}  : Rn (d + 1) mX8_isShelf [.int v] M (some (.int (b2i (0 ≤ v ∧ v ≤ 3)))) (M) := by
  refine Rn.of [some (.int v)] (by decide +kernel) rfl (Nat.le_of_ble_eq_true rfl) rfl (fun J g hr => ?_)
  refine j_iload_n g (i := 0) (by decide +kernel) rfl ?_
  refine j_iconst g (n := 0) (0) (by decide +kernel) rfl ?_
  refine j_iconst g (n := 3) (3) (by decide +kernel) rfl ?_
  refine j_cS3r g s8_95 (by decide +kernel) (by decide) (rnX8_in) ?_
  refine hr.1 _ _ _ _ (by decide +kernel) ⟨_, rfl, ?_⟩ ?_ ?_
  · exact b2i_nar
  · rfl
  · rfl
theorem rnX8_isWork {d : Nat} {M : Mm} {v : Int32}  : Rn (d + 1) mX8_isWork [.ref 600, .int v] M (some (.int (b2i (0 ≤ v ∧ v ≤ M.1 600 2 - 1)))) (M) := by
  refine Rn.of [some (.ref 600), some (.int v)] (by decide +kernel) rfl (Nat.le_of_ble_eq_true rfl) rfl (fun J g hr => ?_)
  refine j_iload_n g (i := 1) (by decide +kernel) rfl ?_
  refine j_iconst g (n := 0) (0) (by decide +kernel) rfl ?_
  refine j_aload_n g (i := 0) (by decide +kernel) rfl ?_
  refine j_gI g f8_99 (by decide +kernel) (by decide +kernel) (by decide +kernel) ?_
  refine j_iconst g (n := 1) (1) (by decide +kernel) rfl ?_
  refine j_isub g (by decide +kernel) ?_
  refine j_cS3r g s8_95 (by decide +kernel) (by decide) (rnX8_in) ?_
  refine hr.1 _ _ _ _ (by decide +kernel) ⟨_, rfl, ?_⟩ ?_ ?_
  · exact b2i_nar
  · rfl
  · rfl
theorem rnX8_isRule {d : Nat} {M : Mm} {v : Int32}  : Rn (d + 1) mX8_isRule [.ref 600, .int v] M (some (.int (b2i (0 ≤ v ∧ v ≤ M.1 600 12 - 1)))) (M) := by
  refine Rn.of [some (.ref 600), some (.int v)] (by decide +kernel) rfl (Nat.le_of_ble_eq_true rfl) rfl (fun J g hr => ?_)
  refine j_iload_n g (i := 1) (by decide +kernel) rfl ?_
  refine j_iconst g (n := 0) (0) (by decide +kernel) rfl ?_
  refine j_aload_n g (i := 0) (by decide +kernel) rfl ?_
  refine j_gI g f8_368 (by decide +kernel) (by decide +kernel) (by decide +kernel) ?_
  refine j_iconst g (n := 1) (1) (by decide +kernel) rfl ?_
  refine j_isub g (by decide +kernel) ?_
  refine j_cS3r g s8_95 (by decide +kernel) (by decide) (rnX8_in) ?_
  refine hr.1 _ _ _ _ (by decide +kernel) ⟨_, rfl, ?_⟩ ?_ ?_
  · exact b2i_nar
  · rfl
  · rfl
theorem rnX8_far {d : Nat} {M : Mm} {a b : Int32}  : Rn (d) mX8_far [.int a, .int b] M (some (.int (if a < b then b - a else a - b))) (M) := by
  refine Rn.of [some (.int a), some (.int b)] (by decide +kernel) rfl (Nat.le_of_ble_eq_true rfl) rfl (fun J g hr => ?_)
  refine j_iload_n g (i := 0) (by decide +kernel) rfl ?_
  refine j_iload_n g (i := 1) (by decide +kernel) rfl ?_
  refine j_icmp_ge g (off := 9) (tgt := 11) (by decide +kernel) (by decide) (fun c2 => ?_) (fun c2 => ?_)
  · skip
    refine j_iload_n g (i := 0) (by decide +kernel) rfl ?_
    refine j_iload_n g (i := 1) (by decide +kernel) rfl ?_
    refine j_isub g (by decide +kernel) ?_
    refine hr.1 _ _ _ _ (by decide +kernel) ⟨_, rfl, ?_⟩ ?_ ?_
    · rfl
    · first | rfl | (exfalso; simp only [Int32.lt_iff_toInt_lt, Int32.le_iff_toInt_le, ← Int32.toInt_inj, Int32.reduceToInt, im1, im2, im3, im4, im9, im11, im12, im13, im14, im15, im100, b2i_0, b2i_1] at c2; omega) | ((try split) <;> (try split) <;> (try split) <;> first | rfl | (exfalso; simp only [Int32.lt_iff_toInt_lt, Int32.le_iff_toInt_le, ← Int32.toInt_inj, Int32.reduceToInt, im1, im2, im3, im4, im9, im11, im12, im13, im14, im15, im100, b2i_0, b2i_1] at *; omega))
    · rfl
  · skip
    refine j_iload_n g (i := 1) (by decide +kernel) rfl ?_
    refine j_iload_n g (i := 0) (by decide +kernel) rfl ?_
    refine j_isub g (by decide +kernel) ?_
    refine j_goto g (off := 6) (tgt := 14) (by decide +kernel) (by decide) ?_
    refine hr.1 _ _ _ _ (by decide +kernel) ⟨_, rfl, ?_⟩ ?_ ?_
    · rfl
    · first | rfl | (exfalso; simp only [Int32.lt_iff_toInt_lt, Int32.le_iff_toInt_le, ← Int32.toInt_inj, Int32.reduceToInt, im1, im2, im3, im4, im9, im11, im12, im13, im14, im15, im100, b2i_0, b2i_1] at c2; omega) | ((try split) <;> (try split) <;> (try split) <;> first | rfl | (exfalso; simp only [Int32.lt_iff_toInt_lt, Int32.le_iff_toInt_le, ← Int32.toInt_inj, Int32.reduceToInt, im1, im2, im3, im4, im9, im11, im12, im13, im14, im15, im100, b2i_0, b2i_1] at *; omega))
    · rfl
theorem rnX8_up {d : Nat} {M : Mm} {a b : Int32} (hb : ¬ b = 0) : Rn (d) mX8_up [.int a, .int b] M (some (.int ((a + b - 1) / b))) (M) := by
  refine Rn.of [some (.int a), some (.int b)] (by decide +kernel) rfl (Nat.le_of_ble_eq_true rfl) rfl (fun J g hr => ?_)
  refine j_iload_n g (i := 0) (by decide +kernel) rfl ?_
  refine j_iload_n g (i := 1) (by decide +kernel) rfl ?_
  refine j_iadd g (by decide +kernel) ?_
  refine j_iconst g (n := 1) (1) (by decide +kernel) rfl ?_
  refine j_isub g (by decide +kernel) ?_
  refine j_iload_n g (i := 1) (by decide +kernel) rfl ?_
  refine j_idiv g (by decide +kernel) (by assumption) ?_
  refine hr.1 _ _ _ _ (by decide +kernel) ⟨_, rfl, ?_⟩ ?_ ?_
  · rfl
  · rfl
  · rfl
theorem rnX8_its {d : Nat} {M : Mm} {w k : Int32} (hi : vp_in (8 * w + k) 48) : Rn (d) mX8_its [.ref 600, .int w, .int k] M (some (.int (M.1 603 (8 * w + k).toNatClampNeg))) (M) := by
  refine Rn.of [some (.ref 600), some (.int w), some (.int k)] (by decide +kernel) rfl (Nat.le_of_ble_eq_true rfl) rfl (fun J g hr => ?_)
  refine j_aload_n g (i := 0) (by decide +kernel) rfl ?_
  refine j_gA g (b := 603) f8_16 (by decide +kernel) (by decide +kernel) (by decide +kernel) (by decide +kernel) ?_
  refine j_bipush g (n := 8) (8) (by decide +kernel) (by decide +kernel) ?_
  refine j_iload_n g (i := 1) (by decide +kernel) rfl ?_
  refine j_imul g (by decide +kernel) ?_
  refine j_iload_n g (i := 2) (by decide +kernel) rfl ?_
  refine j_iadd g (by decide +kernel) ?_
  refine j_ia g 48 (by decide +kernel) (by decide +kernel) (by decide +kernel) (by assumption) ?_
  refine hr.1 _ _ _ _ (by decide +kernel) ⟨_, rfl, ?_⟩ ?_ ?_
  · rfl
  · rfl
  · rfl
theorem rnX8_isOpen {d : Nat} {M : Mm} {w : Int32} (hi : vp_in (M.1 600 10 + 9 + w) 44) : Rn (d) mX8_isOpen [.ref 600, .int w] M (some (.int (b2i (M.1 607 (M.1 600 10 + 9 + w).toNatClampNeg = 0)))) (M) := by
  refine Rn.of [some (.ref 600), some (.int w)] (by decide +kernel) rfl (Nat.le_of_ble_eq_true rfl) rfl (fun J g hr => ?_)
  refine j_aload_n g (i := 0) (by decide +kernel) rfl ?_
  refine j_gA g (b := 607) f8_28 (by decide +kernel) (by decide +kernel) (by decide +kernel) (by decide +kernel) ?_
  refine j_aload_n g (i := 0) (by decide +kernel) rfl ?_
  refine j_gI g f8_240 (by decide +kernel) (by decide +kernel) (by decide +kernel) ?_
  refine j_bipush g (n := 9) (9) (by decide +kernel) (by decide +kernel) ?_
  refine j_iadd g (by decide +kernel) ?_
  refine j_iload_n g (i := 1) (by decide +kernel) rfl ?_
  refine j_iadd g (by decide +kernel) ?_
  refine j_ia g 44 (by decide +kernel) (by decide +kernel) (by decide +kernel) (by assumption) ?_
  refine j_if_ne g (off := 7) (tgt := 21) (by decide +kernel) (by decide) (fun c14 => ?_) (fun c14 => ?_)
  · skip
    refine j_iconst g (n := 0) (0) (by decide +kernel) rfl ?_
    refine hr.1 _ _ _ _ (by decide +kernel) ⟨_, rfl, ?_⟩ ?_ ?_
    · exact (by decide +kernel)
    · first | exact leafT (Decidable.not_not.mp c14) | exact leafF c14 | exact leafT c14
    · rfl
  · skip
    refine j_iconst g (n := 1) (1) (by decide +kernel) rfl ?_
    refine j_goto g (off := 4) (tgt := 22) (by decide +kernel) (by decide) ?_
    refine hr.1 _ _ _ _ (by decide +kernel) ⟨_, rfl, ?_⟩ ?_ ?_
    · exact (by decide +kernel)
    · first | exact leafT (Decidable.not_not.mp c14) | exact leafF c14 | exact leafT c14
    · rfl
theorem rnX8_isUnder {d : Nat} {M : Mm} {a b : Int32}  : Rn (d) mX8_isUnder [.int a, .int b] M (some (.int (b2i (b = 0 ∨ b = a ∨ (b = 2 ∧ a = 3) ∨ (b = 1 ∧ a = 4))))) (M) := by
  refine Rn.of [some (.int a), some (.int b)] (by decide +kernel) rfl (Nat.le_of_ble_eq_true rfl) rfl (fun J g hr => ?_)
  refine j_iload_n g (i := 1) (by decide +kernel) rfl ?_
  refine j_if_eq g (off := 28) (tgt := 29) (by decide +kernel) (by decide) (fun c1 => ?_) (fun c1 => ?_)
  · skip
    refine j_iconst g (n := 1) (1) (by decide +kernel) rfl ?_
    refine j_goto g (off := 4) (tgt := 34) (by decide +kernel) (by decide) ?_
    refine hr.1 _ _ _ _ (by decide +kernel) ⟨_, rfl, ?_⟩ ?_ ?_
    · exact (by decide +kernel)
    · first | exact leafT (by simp only [Int32.lt_iff_toInt_lt, Int32.le_iff_toInt_le, ← Int32.toInt_inj, Int32.reduceToInt, im1, im2, im3, im4, im9, im11, im12, im13, im14, im15, im100, b2i_0, b2i_1] at c1 ⊢; omega) | exact leafF (by simp only [Int32.lt_iff_toInt_lt, Int32.le_iff_toInt_le, ← Int32.toInt_inj, Int32.reduceToInt, im1, im2, im3, im4, im9, im11, im12, im13, im14, im15, im100, b2i_0, b2i_1] at c1 ⊢; omega) | exact leafT (by simp only [Int32.lt_iff_toInt_lt, Int32.le_iff_toInt_le, ← Int32.toInt_inj, Int32.reduceToInt, im1, im2, im3, im4, im9, im11, im12, im13, im14, im15, im100, b2i_0, b2i_1] at c1 ⊢; simp_all) | exact leafF (by simp only [Int32.lt_iff_toInt_lt, Int32.le_iff_toInt_le, ← Int32.toInt_inj, Int32.reduceToInt, im1, im2, im3, im4, im9, im11, im12, im13, im14, im15, im100, b2i_0, b2i_1] at c1 ⊢; simp_all)
    · rfl
  · skip
    refine j_iload_n g (i := 1) (by decide +kernel) rfl ?_
    refine j_iload_n g (i := 0) (by decide +kernel) rfl ?_
    refine j_icmp_eq g (off := 23) (tgt := 29) (by decide +kernel) (by decide) (fun c6 => ?_) (fun c6 => ?_)
    · skip
      refine j_iconst g (n := 1) (1) (by decide +kernel) rfl ?_
      refine j_goto g (off := 4) (tgt := 34) (by decide +kernel) (by decide) ?_
      refine hr.1 _ _ _ _ (by decide +kernel) ⟨_, rfl, ?_⟩ ?_ ?_
      · exact (by decide +kernel)
      · first | exact leafT (by simp only [Int32.lt_iff_toInt_lt, Int32.le_iff_toInt_le, ← Int32.toInt_inj, Int32.reduceToInt, im1, im2, im3, im4, im9, im11, im12, im13, im14, im15, im100, b2i_0, b2i_1] at c1 c6 ⊢; omega) | exact leafF (by simp only [Int32.lt_iff_toInt_lt, Int32.le_iff_toInt_le, ← Int32.toInt_inj, Int32.reduceToInt, im1, im2, im3, im4, im9, im11, im12, im13, im14, im15, im100, b2i_0, b2i_1] at c1 c6 ⊢; omega) | exact leafT (by simp only [Int32.lt_iff_toInt_lt, Int32.le_iff_toInt_le, ← Int32.toInt_inj, Int32.reduceToInt, im1, im2, im3, im4, im9, im11, im12, im13, im14, im15, im100, b2i_0, b2i_1] at c1 c6 ⊢; simp_all) | exact leafF (by simp only [Int32.lt_iff_toInt_lt, Int32.le_iff_toInt_le, ← Int32.toInt_inj, Int32.reduceToInt, im1, im2, im3, im4, im9, im11, im12, im13, im14, im15, im100, b2i_0, b2i_1] at c1 c6 ⊢; simp_all)
      · rfl
    · skip
      refine j_iload_n g (i := 1) (by decide +kernel) rfl ?_
      refine j_iconst g (n := 2) (2) (by decide +kernel) rfl ?_
      refine j_icmp_ne g (off := 8) (tgt := 19) (by decide +kernel) (by decide) (fun c11 => ?_) (fun c11 => ?_)
      · skip
        refine j_iload_n g (i := 1) (by decide +kernel) rfl ?_
        refine j_iconst g (n := 1) (1) (by decide +kernel) rfl ?_
        refine j_icmp_ne g (off := 12) (tgt := 33) (by decide +kernel) (by decide) (fun c21 => ?_) (fun c21 => ?_)
        · skip
          refine j_iconst g (n := 0) (0) (by decide +kernel) rfl ?_
          refine hr.1 _ _ _ _ (by decide +kernel) ⟨_, rfl, ?_⟩ ?_ ?_
          · exact (by decide +kernel)
          · first | exact leafT (by simp only [Int32.lt_iff_toInt_lt, Int32.le_iff_toInt_le, ← Int32.toInt_inj, Int32.reduceToInt, im1, im2, im3, im4, im9, im11, im12, im13, im14, im15, im100, b2i_0, b2i_1] at c1 c6 c11 c21 ⊢; omega) | exact leafF (by simp only [Int32.lt_iff_toInt_lt, Int32.le_iff_toInt_le, ← Int32.toInt_inj, Int32.reduceToInt, im1, im2, im3, im4, im9, im11, im12, im13, im14, im15, im100, b2i_0, b2i_1] at c1 c6 c11 c21 ⊢; omega) | exact leafT (by simp only [Int32.lt_iff_toInt_lt, Int32.le_iff_toInt_le, ← Int32.toInt_inj, Int32.reduceToInt, im1, im2, im3, im4, im9, im11, im12, im13, im14, im15, im100, b2i_0, b2i_1] at c1 c6 c11 c21 ⊢; simp_all) | exact leafF (by simp only [Int32.lt_iff_toInt_lt, Int32.le_iff_toInt_le, ← Int32.toInt_inj, Int32.reduceToInt, im1, im2, im3, im4, im9, im11, im12, im13, im14, im15, im100, b2i_0, b2i_1] at c1 c6 c11 c21 ⊢; simp_all)
          · rfl
        · skip
          refine j_iload_n g (i := 0) (by decide +kernel) rfl ?_
          refine j_iconst g (n := 4) (4) (by decide +kernel) rfl ?_
          refine j_icmp_ne g (off := 7) (tgt := 33) (by decide +kernel) (by decide) (fun c26 => ?_) (fun c26 => ?_)
          · skip
            refine j_iconst g (n := 0) (0) (by decide +kernel) rfl ?_
            refine hr.1 _ _ _ _ (by decide +kernel) ⟨_, rfl, ?_⟩ ?_ ?_
            · exact (by decide +kernel)
            · first | exact leafT (by simp only [Int32.lt_iff_toInt_lt, Int32.le_iff_toInt_le, ← Int32.toInt_inj, Int32.reduceToInt, im1, im2, im3, im4, im9, im11, im12, im13, im14, im15, im100, b2i_0, b2i_1] at c1 c6 c11 c21 c26 ⊢; omega) | exact leafF (by simp only [Int32.lt_iff_toInt_lt, Int32.le_iff_toInt_le, ← Int32.toInt_inj, Int32.reduceToInt, im1, im2, im3, im4, im9, im11, im12, im13, im14, im15, im100, b2i_0, b2i_1] at c1 c6 c11 c21 c26 ⊢; omega) | exact leafT (by simp only [Int32.lt_iff_toInt_lt, Int32.le_iff_toInt_le, ← Int32.toInt_inj, Int32.reduceToInt, im1, im2, im3, im4, im9, im11, im12, im13, im14, im15, im100, b2i_0, b2i_1] at c1 c6 c11 c21 c26 ⊢; simp_all) | exact leafF (by simp only [Int32.lt_iff_toInt_lt, Int32.le_iff_toInt_le, ← Int32.toInt_inj, Int32.reduceToInt, im1, im2, im3, im4, im9, im11, im12, im13, im14, im15, im100, b2i_0, b2i_1] at c1 c6 c11 c21 c26 ⊢; simp_all)
            · rfl
          · skip
            refine j_iconst g (n := 1) (1) (by decide +kernel) rfl ?_
            refine j_goto g (off := 4) (tgt := 34) (by decide +kernel) (by decide) ?_
            refine hr.1 _ _ _ _ (by decide +kernel) ⟨_, rfl, ?_⟩ ?_ ?_
            · exact (by decide +kernel)
            · first | exact leafT (by simp only [Int32.lt_iff_toInt_lt, Int32.le_iff_toInt_le, ← Int32.toInt_inj, Int32.reduceToInt, im1, im2, im3, im4, im9, im11, im12, im13, im14, im15, im100, b2i_0, b2i_1] at c1 c6 c11 c21 c26 ⊢; omega) | exact leafF (by simp only [Int32.lt_iff_toInt_lt, Int32.le_iff_toInt_le, ← Int32.toInt_inj, Int32.reduceToInt, im1, im2, im3, im4, im9, im11, im12, im13, im14, im15, im100, b2i_0, b2i_1] at c1 c6 c11 c21 c26 ⊢; omega) | exact leafT (by simp only [Int32.lt_iff_toInt_lt, Int32.le_iff_toInt_le, ← Int32.toInt_inj, Int32.reduceToInt, im1, im2, im3, im4, im9, im11, im12, im13, im14, im15, im100, b2i_0, b2i_1] at c1 c6 c11 c21 c26 ⊢; simp_all) | exact leafF (by simp only [Int32.lt_iff_toInt_lt, Int32.le_iff_toInt_le, ← Int32.toInt_inj, Int32.reduceToInt, im1, im2, im3, im4, im9, im11, im12, im13, im14, im15, im100, b2i_0, b2i_1] at c1 c6 c11 c21 c26 ⊢; simp_all)
            · rfl
      · skip
        refine j_iload_n g (i := 0) (by decide +kernel) rfl ?_
        refine j_iconst g (n := 3) (3) (by decide +kernel) rfl ?_
        refine j_icmp_eq g (off := 13) (tgt := 29) (by decide +kernel) (by decide) (fun c16 => ?_) (fun c16 => ?_)
        · skip
          refine j_iconst g (n := 1) (1) (by decide +kernel) rfl ?_
          refine j_goto g (off := 4) (tgt := 34) (by decide +kernel) (by decide) ?_
          refine hr.1 _ _ _ _ (by decide +kernel) ⟨_, rfl, ?_⟩ ?_ ?_
          · exact (by decide +kernel)
          · first | exact leafT (by simp only [Int32.lt_iff_toInt_lt, Int32.le_iff_toInt_le, ← Int32.toInt_inj, Int32.reduceToInt, im1, im2, im3, im4, im9, im11, im12, im13, im14, im15, im100, b2i_0, b2i_1] at c1 c6 c11 c16 ⊢; omega) | exact leafF (by simp only [Int32.lt_iff_toInt_lt, Int32.le_iff_toInt_le, ← Int32.toInt_inj, Int32.reduceToInt, im1, im2, im3, im4, im9, im11, im12, im13, im14, im15, im100, b2i_0, b2i_1] at c1 c6 c11 c16 ⊢; omega) | exact leafT (by simp only [Int32.lt_iff_toInt_lt, Int32.le_iff_toInt_le, ← Int32.toInt_inj, Int32.reduceToInt, im1, im2, im3, im4, im9, im11, im12, im13, im14, im15, im100, b2i_0, b2i_1] at c1 c6 c11 c16 ⊢; simp_all) | exact leafF (by simp only [Int32.lt_iff_toInt_lt, Int32.le_iff_toInt_le, ← Int32.toInt_inj, Int32.reduceToInt, im1, im2, im3, im4, im9, im11, im12, im13, im14, im15, im100, b2i_0, b2i_1] at c1 c6 c11 c16 ⊢; simp_all)
          · rfl
        · skip
          refine j_iload_n g (i := 1) (by decide +kernel) rfl ?_
          refine j_iconst g (n := 1) (1) (by decide +kernel) rfl ?_
          refine j_icmp_ne g (off := 12) (tgt := 33) (by decide +kernel) (by decide) (fun c21 => ?_) (fun c21 => ?_)
          · skip
            refine j_iconst g (n := 0) (0) (by decide +kernel) rfl ?_
            refine hr.1 _ _ _ _ (by decide +kernel) ⟨_, rfl, ?_⟩ ?_ ?_
            · exact (by decide +kernel)
            · first | exact leafT (by simp only [Int32.lt_iff_toInt_lt, Int32.le_iff_toInt_le, ← Int32.toInt_inj, Int32.reduceToInt, im1, im2, im3, im4, im9, im11, im12, im13, im14, im15, im100, b2i_0, b2i_1] at c1 c6 c11 c16 c21 ⊢; omega) | exact leafF (by simp only [Int32.lt_iff_toInt_lt, Int32.le_iff_toInt_le, ← Int32.toInt_inj, Int32.reduceToInt, im1, im2, im3, im4, im9, im11, im12, im13, im14, im15, im100, b2i_0, b2i_1] at c1 c6 c11 c16 c21 ⊢; omega) | exact leafT (by simp only [Int32.lt_iff_toInt_lt, Int32.le_iff_toInt_le, ← Int32.toInt_inj, Int32.reduceToInt, im1, im2, im3, im4, im9, im11, im12, im13, im14, im15, im100, b2i_0, b2i_1] at c1 c6 c11 c16 c21 ⊢; simp_all) | exact leafF (by simp only [Int32.lt_iff_toInt_lt, Int32.le_iff_toInt_le, ← Int32.toInt_inj, Int32.reduceToInt, im1, im2, im3, im4, im9, im11, im12, im13, im14, im15, im100, b2i_0, b2i_1] at c1 c6 c11 c16 c21 ⊢; simp_all)
            · rfl
          · skip
            refine j_iload_n g (i := 0) (by decide +kernel) rfl ?_
            refine j_iconst g (n := 4) (4) (by decide +kernel) rfl ?_
            refine j_icmp_ne g (off := 7) (tgt := 33) (by decide +kernel) (by decide) (fun c26 => ?_) (fun c26 => ?_)
            · skip
              refine j_iconst g (n := 0) (0) (by decide +kernel) rfl ?_
              refine hr.1 _ _ _ _ (by decide +kernel) ⟨_, rfl, ?_⟩ ?_ ?_
              · exact (by decide +kernel)
              · first | exact leafT (by simp only [Int32.lt_iff_toInt_lt, Int32.le_iff_toInt_le, ← Int32.toInt_inj, Int32.reduceToInt, im1, im2, im3, im4, im9, im11, im12, im13, im14, im15, im100, b2i_0, b2i_1] at c1 c6 c11 c16 c21 c26 ⊢; omega) | exact leafF (by simp only [Int32.lt_iff_toInt_lt, Int32.le_iff_toInt_le, ← Int32.toInt_inj, Int32.reduceToInt, im1, im2, im3, im4, im9, im11, im12, im13, im14, im15, im100, b2i_0, b2i_1] at c1 c6 c11 c16 c21 c26 ⊢; omega) | exact leafT (by simp only [Int32.lt_iff_toInt_lt, Int32.le_iff_toInt_le, ← Int32.toInt_inj, Int32.reduceToInt, im1, im2, im3, im4, im9, im11, im12, im13, im14, im15, im100, b2i_0, b2i_1] at c1 c6 c11 c16 c21 c26 ⊢; simp_all) | exact leafF (by simp only [Int32.lt_iff_toInt_lt, Int32.le_iff_toInt_le, ← Int32.toInt_inj, Int32.reduceToInt, im1, im2, im3, im4, im9, im11, im12, im13, im14, im15, im100, b2i_0, b2i_1] at c1 c6 c11 c16 c21 c26 ⊢; simp_all)
              · rfl
            · skip
              refine j_iconst g (n := 1) (1) (by decide +kernel) rfl ?_
              refine j_goto g (off := 4) (tgt := 34) (by decide +kernel) (by decide) ?_
              refine hr.1 _ _ _ _ (by decide +kernel) ⟨_, rfl, ?_⟩ ?_ ?_
              · exact (by decide +kernel)
              · first | exact leafT (by simp only [Int32.lt_iff_toInt_lt, Int32.le_iff_toInt_le, ← Int32.toInt_inj, Int32.reduceToInt, im1, im2, im3, im4, im9, im11, im12, im13, im14, im15, im100, b2i_0, b2i_1] at c1 c6 c11 c16 c21 c26 ⊢; omega) | exact leafF (by simp only [Int32.lt_iff_toInt_lt, Int32.le_iff_toInt_le, ← Int32.toInt_inj, Int32.reduceToInt, im1, im2, im3, im4, im9, im11, im12, im13, im14, im15, im100, b2i_0, b2i_1] at c1 c6 c11 c16 c21 c26 ⊢; omega) | exact leafT (by simp only [Int32.lt_iff_toInt_lt, Int32.le_iff_toInt_le, ← Int32.toInt_inj, Int32.reduceToInt, im1, im2, im3, im4, im9, im11, im12, im13, im14, im15, im100, b2i_0, b2i_1] at c1 c6 c11 c16 c21 c26 ⊢; simp_all) | exact leafF (by simp only [Int32.lt_iff_toInt_lt, Int32.le_iff_toInt_le, ← Int32.toInt_inj, Int32.reduceToInt, im1, im2, im3, im4, im9, im11, im12, im13, im14, im15, im100, b2i_0, b2i_1] at c1 c6 c11 c16 c21 c26 ⊢; simp_all)
              · rfl
theorem rnX8_byteAt {d : Nat} {M : Mm} {k : Int32} (hi : k < M.1 600 15 → vp_in k 240) : Rn (d) mX8_byteAt [.ref 600, .int k] M (some (.int (if k < M.1 600 15 then M.1 609 k.toNatClampNeg else -1))) (M) := by
  refine Rn.of [some (.ref 600), some (.int k)] (by decide +kernel) rfl (Nat.le_of_ble_eq_true rfl) rfl (fun J g hr => ?_)
  refine j_iload_n g (i := 1) (by decide +kernel) rfl ?_
  refine j_aload_n g (i := 0) (by decide +kernel) rfl ?_
  refine j_gI g f8_103 (by decide +kernel) (by decide +kernel) (by decide +kernel) ?_
  refine j_icmp_ge g (off := 12) (tgt := 17) (by decide +kernel) (by decide) (fun c5 => ?_) (fun c5 => ?_)
  · skip
    refine j_iconst g (n := -1) (-1) (by decide +kernel) rfl ?_
    refine hr.1 _ _ _ _ (by decide +kernel) ⟨_, rfl, ?_⟩ ?_ ?_
    · rfl
    · first | rw [if_pos (Int32.not_le.mp c5)] | rw [if_neg (Int32.not_lt.mpr c5)]
    · rfl
  · skip
    refine j_aload_n g (i := 0) (by decide +kernel) rfl ?_
    refine j_gA g (b := 609) f8_34 (by decide +kernel) (by decide +kernel) (by decide +kernel) (by decide +kernel) ?_
    refine j_iload_n g (i := 1) (by decide +kernel) rfl ?_
    refine j_ia g 240 (by decide +kernel) (by decide +kernel) (by decide +kernel) (hi (Int32.not_le.mp c5)) ?_
    refine j_goto g (off := 4) (tgt := 18) (by decide +kernel) (by decide) ?_
    refine hr.1 _ _ _ _ (by decide +kernel) ⟨_, rfl, ?_⟩ ?_ ?_
    · rfl
    · first | rw [if_pos (Int32.not_le.mp c5)] | rw [if_neg (Int32.not_lt.mpr c5)]
    · rfl
theorem rnX8_isMark {d : Nat} {M : Mm} {b : Int32}  : Rn (d) mX8_isMark [.ref 600, .int b] M (some (.int (b2i (M.1 600 16 = 3 ∧ M.1 600 20 = b)))) (M) := by
  refine Rn.of [some (.ref 600), some (.int b)] (by decide +kernel) rfl (Nat.le_of_ble_eq_true rfl) rfl (fun J g hr => ?_)
  refine j_aload_n g (i := 0) (by decide +kernel) rfl ?_
  refine j_gI g f8_125 (by decide +kernel) (by decide +kernel) (by decide +kernel) ?_
  refine j_iconst g (n := 3) (3) (by decide +kernel) rfl ?_
  refine j_icmp_ne g (off := 15) (tgt := 20) (by decide +kernel) (by decide) (fun c5 => ?_) (fun c5 => ?_)
  · skip
    refine j_iconst g (n := 0) (0) (by decide +kernel) rfl ?_
    refine hr.1 _ _ _ _ (by decide +kernel) ⟨_, rfl, ?_⟩ ?_ ?_
    · exact (by decide +kernel)
    · first | exact leafT (by simp only [Int32.lt_iff_toInt_lt, Int32.le_iff_toInt_le, ← Int32.toInt_inj, Int32.reduceToInt, im1, im2, im3, im4, im9, im11, im12, im13, im14, im15, im100, b2i_0, b2i_1] at c5 ⊢; omega) | exact leafF (by simp only [Int32.lt_iff_toInt_lt, Int32.le_iff_toInt_le, ← Int32.toInt_inj, Int32.reduceToInt, im1, im2, im3, im4, im9, im11, im12, im13, im14, im15, im100, b2i_0, b2i_1] at c5 ⊢; omega) | exact leafT (by simp only [Int32.lt_iff_toInt_lt, Int32.le_iff_toInt_le, ← Int32.toInt_inj, Int32.reduceToInt, im1, im2, im3, im4, im9, im11, im12, im13, im14, im15, im100, b2i_0, b2i_1] at c5 ⊢; simp_all) | exact leafF (by simp only [Int32.lt_iff_toInt_lt, Int32.le_iff_toInt_le, ← Int32.toInt_inj, Int32.reduceToInt, im1, im2, im3, im4, im9, im11, im12, im13, im14, im15, im100, b2i_0, b2i_1] at c5 ⊢; simp_all)
    · rfl
  · skip
    refine j_aload_n g (i := 0) (by decide +kernel) rfl ?_
    refine j_gI g f8_132 (by decide +kernel) (by decide +kernel) (by decide +kernel) ?_
    refine j_iload_n g (i := 1) (by decide +kernel) rfl ?_
    refine j_icmp_ne g (off := 7) (tgt := 20) (by decide +kernel) (by decide) (fun c13 => ?_) (fun c13 => ?_)
    · skip
      refine j_iconst g (n := 0) (0) (by decide +kernel) rfl ?_
      refine hr.1 _ _ _ _ (by decide +kernel) ⟨_, rfl, ?_⟩ ?_ ?_
      · exact (by decide +kernel)
      · first | exact leafT (by simp only [Int32.lt_iff_toInt_lt, Int32.le_iff_toInt_le, ← Int32.toInt_inj, Int32.reduceToInt, im1, im2, im3, im4, im9, im11, im12, im13, im14, im15, im100, b2i_0, b2i_1] at c5 c13 ⊢; omega) | exact leafF (by simp only [Int32.lt_iff_toInt_lt, Int32.le_iff_toInt_le, ← Int32.toInt_inj, Int32.reduceToInt, im1, im2, im3, im4, im9, im11, im12, im13, im14, im15, im100, b2i_0, b2i_1] at c5 c13 ⊢; omega) | exact leafT (by simp only [Int32.lt_iff_toInt_lt, Int32.le_iff_toInt_le, ← Int32.toInt_inj, Int32.reduceToInt, im1, im2, im3, im4, im9, im11, im12, im13, im14, im15, im100, b2i_0, b2i_1] at c5 c13 ⊢; simp_all) | exact leafF (by simp only [Int32.lt_iff_toInt_lt, Int32.le_iff_toInt_le, ← Int32.toInt_inj, Int32.reduceToInt, im1, im2, im3, im4, im9, im11, im12, im13, im14, im15, im100, b2i_0, b2i_1] at c5 c13 ⊢; simp_all)
      · rfl
    · skip
      refine j_iconst g (n := 1) (1) (by decide +kernel) rfl ?_
      refine j_goto g (off := 4) (tgt := 21) (by decide +kernel) (by decide) ?_
      refine hr.1 _ _ _ _ (by decide +kernel) ⟨_, rfl, ?_⟩ ?_ ?_
      · exact (by decide +kernel)
      · first | exact leafT (by simp only [Int32.lt_iff_toInt_lt, Int32.le_iff_toInt_le, ← Int32.toInt_inj, Int32.reduceToInt, im1, im2, im3, im4, im9, im11, im12, im13, im14, im15, im100, b2i_0, b2i_1] at c5 c13 ⊢; omega) | exact leafF (by simp only [Int32.lt_iff_toInt_lt, Int32.le_iff_toInt_le, ← Int32.toInt_inj, Int32.reduceToInt, im1, im2, im3, im4, im9, im11, im12, im13, im14, im15, im100, b2i_0, b2i_1] at c5 c13 ⊢; omega) | exact leafT (by simp only [Int32.lt_iff_toInt_lt, Int32.le_iff_toInt_le, ← Int32.toInt_inj, Int32.reduceToInt, im1, im2, im3, im4, im9, im11, im12, im13, im14, im15, im100, b2i_0, b2i_1] at c5 c13 ⊢; simp_all) | exact leafF (by simp only [Int32.lt_iff_toInt_lt, Int32.le_iff_toInt_le, ← Int32.toInt_inj, Int32.reduceToInt, im1, im2, im3, im4, im9, im11, im12, im13, im14, im15, im100, b2i_0, b2i_1] at c5 c13 ⊢; simp_all)
      · rfl
theorem b2i_congr {p q : Prop} [Decidable p] [Decidable q] (h : p ↔ q) : b2i p = b2i q := by
  unfold b2i
  by_cases hp : p
  · rw [if_pos hp, if_pos (h.mp hp)]
  · rw [if_neg hp, if_neg (fun z => hp (h.mpr z))]
theorem rnX8_isWord {d : Nat} {M : Mm} {w : Int64} : Rn d mX8_isWord [.ref 600, .long w] M (some (.int (b2i (M.1 600 16 = 1 ∧ M.2 600 19 = w)))) M := by
  refine Rn.of [some (.ref 600), some (.long w), none] (by decide +kernel) rfl (Nat.le_of_ble_eq_true rfl) rfl (fun J g hr => ?_)
  refine j_aload_n g (i := 0) (by decide +kernel) rfl ?_
  refine j_gI g f8_125 (by decide +kernel) (by decide +kernel) (by decide +kernel) ?_
  refine j_iconst g (n := 1) (1) (by decide +kernel) rfl ?_
  refine j_icmp_ne g (off := 16) (tgt := 21) (by decide +kernel) (by decide) (fun c5 => ?_) (fun c5 => ?_)
  · skip
    refine j_iconst g (n := 0) (0) (by decide +kernel) rfl ?_
    refine hr.1 _ _ _ _ (by decide +kernel) ⟨_, rfl, ?_⟩ ?_ ?_
    · exact (by decide +kernel)
    · first | exact leafT ⟨Decidable.not_not.mp c5, (lg_cmp_eq _ _).mp (Decidable.not_not.mp c14)⟩ | exact leafF (fun h => c5 h.1) | exact leafF (fun h => c14 ((lg_cmp_eq _ _).mpr h.2))
    · rfl
  · skip
    refine j_aload_n g (i := 0) (by decide +kernel) rfl ?_
    refine j_gJ g f8_128 (by decide +kernel) (by decide +kernel) (by decide +kernel) ?_
    refine j_lload_n g (i := 1) (by decide +kernel) rfl ?_
    refine j_lcmp g (by decide +kernel) ?_
    refine j_if_ne g (off := 7) (tgt := 21) (by decide +kernel) (by decide) (fun c14 => ?_) (fun c14 => ?_)
    · skip
      refine j_iconst g (n := 0) (0) (by decide +kernel) rfl ?_
      refine hr.1 _ _ _ _ (by decide +kernel) ⟨_, rfl, ?_⟩ ?_ ?_
      · exact (by decide +kernel)
      · first | exact leafT ⟨Decidable.not_not.mp c5, (lg_cmp_eq _ _).mp (Decidable.not_not.mp c14)⟩ | exact leafF (fun h => c5 h.1) | exact leafF (fun h => c14 ((lg_cmp_eq _ _).mpr h.2))
      · rfl
    · skip
      refine j_iconst g (n := 1) (1) (by decide +kernel) rfl ?_
      refine j_goto g (off := 4) (tgt := 22) (by decide +kernel) (by decide) ?_
      refine hr.1 _ _ _ _ (by decide +kernel) ⟨_, rfl, ?_⟩ ?_ ?_
      · exact (by decide +kernel)
      · first | exact leafT ⟨Decidable.not_not.mp c5, (lg_cmp_eq _ _).mp (Decidable.not_not.mp c14)⟩ | exact leafF (fun h => c5 h.1) | exact leafF (fun h => c14 ((lg_cmp_eq _ _).mpr h.2))
      · rfl
theorem rnX8_isRow {d : Nat} {M : Mm} {i w : Int32}  : Rn (d + 1) mX8_isRow [.ref 600, .int i, .int w] M (some (.int (b2i ((0 ≤ i ∧ i ≤ M.1 600 42 - 1) ∧ (0 ≤ w ∧ w ≤ 2))))) (M) := by
  refine Rn.of [some (.ref 600), some (.int i), some (.int w)] (by decide +kernel) rfl (Nat.le_of_ble_eq_true rfl) rfl (fun J g hr => ?_)
  refine j_iload_n g (i := 1) (by decide +kernel) rfl ?_
  refine j_iconst g (n := 0) (0) (by decide +kernel) rfl ?_
  refine j_aload_n g (i := 0) (by decide +kernel) rfl ?_
  refine j_gI g f8_234 (by decide +kernel) (by decide +kernel) (by decide +kernel) ?_
  refine j_iconst g (n := 1) (1) (by decide +kernel) rfl ?_
  refine j_isub g (by decide +kernel) ?_
  refine j_cS3r g s8_95 (by decide +kernel) (by decide) (rnX8_in) ?_
  refine j_if_eq g (off := 16) (tgt := 27) (by decide +kernel) (by decide) (fun c11 => ?_) (fun c11 => ?_)
  · skip
    refine j_iconst g (n := 0) (0) (by decide +kernel) rfl ?_
    refine hr.1 _ _ _ _ (by decide +kernel) ⟨_, rfl, ?_⟩ ?_ ?_
    · exact (by decide +kernel)
    · first | exact leafT ⟨b2i_1.mp c11, b2i_1.mp c20⟩ | exact leafF (fun h => b2i_0.mp c11 h.1) | exact leafF (fun h => b2i_0.mp c20 h.2) | (simp_all [b2i]; done)
    · rfl
  · skip
    refine j_iload_n g (i := 2) (by decide +kernel) rfl ?_
    refine j_iconst g (n := 0) (0) (by decide +kernel) rfl ?_
    refine j_iconst g (n := 2) (2) (by decide +kernel) rfl ?_
    refine j_cS3r g s8_95 (by decide +kernel) (by decide) (rnX8_in) ?_
    refine j_if_eq g (off := 7) (tgt := 27) (by decide +kernel) (by decide) (fun c20 => ?_) (fun c20 => ?_)
    · skip
      refine j_iconst g (n := 0) (0) (by decide +kernel) rfl ?_
      refine hr.1 _ _ _ _ (by decide +kernel) ⟨_, rfl, ?_⟩ ?_ ?_
      · exact (by decide +kernel)
      · first | exact leafT ⟨b2i_1.mp c11, b2i_1.mp c20⟩ | exact leafF (fun h => b2i_0.mp c11 h.1) | exact leafF (fun h => b2i_0.mp c20 h.2) | (simp_all [b2i]; done)
      · rfl
    · skip
      refine j_iconst g (n := 1) (1) (by decide +kernel) rfl ?_
      refine j_goto g (off := 4) (tgt := 28) (by decide +kernel) (by decide) ?_
      refine hr.1 _ _ _ _ (by decide +kernel) ⟨_, rfl, ?_⟩ ?_ ?_
      · exact (by decide +kernel)
      · first | exact leafT ⟨b2i_1.mp c11, b2i_1.mp c20⟩ | exact leafF (fun h => b2i_0.mp c11 h.1) | exact leafF (fun h => b2i_0.mp c20 h.2) | (simp_all [b2i]; done)
      · rfl
theorem rnX8_isMoved {d : Nat} {M : Mm} {a k : Int32} : Rn (d + 1) mX8_isMoved [.ref 600, .int a, .int k] M (some (.int (b2i ((a = 0 ∧ 0 ≤ k ∧ k ≤ M.1 600 0 - 1) ∨ (a = 1 ∧ 0 ≤ k ∧ k ≤ M.1 600 1 - 1))))) M := by
  refine Rn.of [some (.ref 600), some (.int a), some (.int k)] (by decide +kernel) rfl (Nat.le_of_ble_eq_true rfl) rfl (fun J g hr => ?_)
  refine j_iload_n g (i := 1) (by decide +kernel) rfl ?_
  refine j_if_ne g (off := 17) (tgt := 18) (by decide +kernel) (by decide) (fun c1 => ?_) (fun c1 => ?_)
  · skip
    refine j_iload_n g (i := 1) (by decide +kernel) rfl ?_
    refine j_iconst g (n := 1) (1) (by decide +kernel) rfl ?_
    refine j_icmp_ne g (off := 21) (tgt := 41) (by decide +kernel) (by decide) (fun c20 => ?_) (fun c20 => ?_)
    · skip
      refine j_iconst g (n := 0) (0) (by decide +kernel) rfl ?_
      refine hr.1 _ _ _ _ (by decide +kernel) ⟨_, rfl, ?_⟩ ?_ ?_
      · exact (by first | exact b2i_nar | decide +kernel)
      · first | exact leafT (Or.inr ⟨Decidable.not_not.mp c20, b2i_1.mp c34⟩) | exact leafF (fun h => by rcases h with h | h; exact c1 h.1; exact c20 h.1) | exact leafF (fun h => by rcases h with h | h; exact c1 h.1; exact b2i_0.mp c34 h.2) | exact congrArg (fun z => some (Value.int z)) (b2i_congr ⟨fun h => by rcases h with h | h; exact h.2; exact absurd (h.1.symm.trans (Decidable.not_not.mp c1)) (by decide), fun h => Or.inl ⟨Decidable.not_not.mp c1, h⟩⟩)
      · rfl
    · skip
      refine j_iload_n g (i := 2) (by decide +kernel) rfl ?_
      refine j_iconst g (n := 0) (0) (by decide +kernel) rfl ?_
      refine j_aload_n g (i := 0) (by decide +kernel) rfl ?_
      refine j_gI g f8_228 (by decide +kernel) (by decide +kernel) (by decide +kernel) ?_
      refine j_iconst g (n := 1) (1) (by decide +kernel) rfl ?_
      refine j_isub g (by decide +kernel) ?_
      refine j_cS3r g s8_95 (by decide +kernel) (Nat.le_of_ble_eq_true rfl) (rnX8_in) ?_
      refine j_if_eq g (off := 7) (tgt := 41) (by decide +kernel) (by decide) (fun c34 => ?_) (fun c34 => ?_)
      · skip
        refine j_iconst g (n := 0) (0) (by decide +kernel) rfl ?_
        refine hr.1 _ _ _ _ (by decide +kernel) ⟨_, rfl, ?_⟩ ?_ ?_
        · exact (by first | exact b2i_nar | decide +kernel)
        · first | exact leafT (Or.inr ⟨Decidable.not_not.mp c20, b2i_1.mp c34⟩) | exact leafF (fun h => by rcases h with h | h; exact c1 h.1; exact c20 h.1) | exact leafF (fun h => by rcases h with h | h; exact c1 h.1; exact b2i_0.mp c34 h.2) | exact congrArg (fun z => some (Value.int z)) (b2i_congr ⟨fun h => by rcases h with h | h; exact h.2; exact absurd (h.1.symm.trans (Decidable.not_not.mp c1)) (by decide), fun h => Or.inl ⟨Decidable.not_not.mp c1, h⟩⟩)
        · rfl
      · skip
        refine j_iconst g (n := 1) (1) (by decide +kernel) rfl ?_
        refine j_goto g (off := 4) (tgt := 42) (by decide +kernel) (by decide) ?_
        refine hr.1 _ _ _ _ (by decide +kernel) ⟨_, rfl, ?_⟩ ?_ ?_
        · exact (by first | exact b2i_nar | decide +kernel)
        · first | exact leafT (Or.inr ⟨Decidable.not_not.mp c20, b2i_1.mp c34⟩) | exact leafF (fun h => by rcases h with h | h; exact c1 h.1; exact c20 h.1) | exact leafF (fun h => by rcases h with h | h; exact c1 h.1; exact b2i_0.mp c34 h.2) | exact congrArg (fun z => some (Value.int z)) (b2i_congr ⟨fun h => by rcases h with h | h; exact h.2; exact absurd (h.1.symm.trans (Decidable.not_not.mp c1)) (by decide), fun h => Or.inl ⟨Decidable.not_not.mp c1, h⟩⟩)
        · rfl
  · skip
    refine j_iload_n g (i := 2) (by decide +kernel) rfl ?_
    refine j_iconst g (n := 0) (0) (by decide +kernel) rfl ?_
    refine j_aload_n g (i := 0) (by decide +kernel) rfl ?_
    refine j_gI g f8_225 (by decide +kernel) (by decide +kernel) (by decide +kernel) ?_
    refine j_iconst g (n := 1) (1) (by decide +kernel) rfl ?_
    refine j_isub g (by decide +kernel) ?_
    refine j_cS3r g s8_95 (by decide +kernel) (Nat.le_of_ble_eq_true rfl) (rnX8_in) ?_
    refine j_goto g (off := 27) (tgt := 42) (by decide +kernel) (by decide) ?_
    refine hr.1 _ _ _ _ (by decide +kernel) ⟨_, rfl, ?_⟩ ?_ ?_
    · exact (by first | exact b2i_nar | decide +kernel)
    · first | exact leafT (Or.inr ⟨Decidable.not_not.mp c20, b2i_1.mp c34⟩) | exact leafF (fun h => by rcases h with h | h; exact c1 h.1; exact c20 h.1) | exact leafF (fun h => by rcases h with h | h; exact c1 h.1; exact b2i_0.mp c34 h.2) | exact congrArg (fun z => some (Value.int z)) (b2i_congr ⟨fun h => by rcases h with h | h; exact h.2; exact absurd (h.1.symm.trans (Decidable.not_not.mp c1)) (by decide), fun h => Or.inl ⟨Decidable.not_not.mp c1, h⟩⟩)
    · rfl
