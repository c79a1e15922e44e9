/-! ruleOf, row, alterRow, trace, workOf, at, put, set, behind -/
theorem CSt.eq0 {M : Mm} {s : Nat} {T T' S : Tw} (h : CSt M s T S) (e : ∀ k, T' 0 k = T 0 k) : CSt M s T' S := by
  unfold CSt at h ⊢
  simp only [e]
  exact h
theorem RS.eq0 {M : Mm} {o : Nat} {T T' S : Tw} (h : RS M o T S) (e : ∀ k, T' 0 k = T 0 k) : RS M o T' S := by
  unfold RS at h ⊢
  simp only [e]
  exact h
theorem InvS.eq0 {T T' S : Tw} {mb : Int} (h : InvS T S mb) (e : ∀ k, T' 0 k = T 0 k) : InvS T' S mb := by
  unfold InvS at h ⊢
  simp only [e]
  exact h
section P36
variable {M : Mm} {n : Nat}
theorem pair_ruleOf (h : Rel M n) (hn : n < 64) (a1 a2 : Int32) : PairI (p_X7_ruleOf M a1 a2) (p_X8_ruleOf M a1 a2) (r_X7_ruleOf M a1 a2) (r_X8_ruleOf M a1 a2) M n := by
  obtain ⟨x, rfl, x1, x2⟩ := ex_iI a1
  obtain ⟨y, rfl, y1, y2⟩ := ex_iI a2
  obtain ⟨T, S, g, ⟨c1, c2, c3, c4⟩, ⟨r1, r2, r3, r4, r5⟩, i1, i2, i3, i4, i5⟩ := h.1
  have hr := i2.1
  have hx : (0 ≤ iI x ∧ iI x < M.1 100 3) ↔ (0 ≤ x ∧ x < T 0 3) := by rw [c4.1, cl0, iI_le (by omega) (by omega) (by omega) (by omega), iI_lt (by omega) (by omega) (by omega) (by omega)]
  have hx8 : (0 ≤ iI x ∧ iI x ≤ M.1 600 12 - 1) ↔ (0 ≤ x ∧ x < T 0 3) := by
    rw [r5.1, cl0, cl1, iI_sub, iI_le (by omega) (by omega) (by omega) (by omega), iI_le (by omega) (by omega) (by omega) (by omega)]
    omega
  have hy : (0 ≤ iI y ∧ iI y ≤ 1) ↔ (0 ≤ y ∧ y ≤ 1) := by rw [cl0, cl1]; exact wb y1 y2 (by omega) (by omega) (by omega) (by omega)
  unfold p_X7_ruleOf p_X8_ruleOf r_X7_ruleOf r_X8_ruleOf
  by_cases cx : 0 ≤ x ∧ x < T 0 3
  · have qx := b2i_1.mpr (hx.mpr cx)
    have qx8 := b2i_1.mpr (hx8.mpr cx)
    have rr := c4.2 x cx.1 cx.2
    have rr8 := r5.2 x cx.1 cx.2
    have nx : Int32.toNatClampNeg (iI x) = x.toNat := iI_nat x1 x2
    have vx : vp_in (iI x) 4 := vin_iI (by omega) (by omega) (by omega)
    rw [if_neg qx, if_neg qx8, if_neg qx, if_neg qx8, nx]
    by_cases cy : 0 ≤ y ∧ y ≤ 1
    · have qy := b2i_1.mpr (hy.mpr cy)
      rw [if_pos qy, if_pos qy, if_neg qy, if_neg qy]
      have v8 : vp_in (2 * iI x + iI y) 8 := by rw [cl2, iI_mul, iI_add]; exact vin_iI (by omega) (by omega) (by omega)
      have n8 : Int32.toNatClampNeg (2 * iI x + iI y) = 2 * x.toNat + y.toNat := by rw [cl2, iI_mul, iI_add]; exact natk (by omega) (by omega)
      rw [n8]
      by_cases c0 : y = 0
      · subst c0
        rw [if_neg (not_not_intro cl0.symm), if_neg (not_not_intro cl0.symm)]
        exact ⟨⟨vx, trivial⟩, ⟨v8, trivial⟩, rr.1.trans rr8.1.symm, h.up (by omega)⟩
      · have e1 : y = 1 := by omega
        subst e1
        have q : ¬ iI 1 = 0 := by decide
        rw [if_pos q, if_pos q]
        exact ⟨⟨vx, trivial⟩, ⟨v8, trivial⟩, rr.2.trans rr8.2.symm, h.up (by omega)⟩
    · have qy : b2i (0 ≤ iI y ∧ iI y ≤ 1) = 0 := b2i_0.mpr (fun z => cy (hy.mp z))
      rw [if_neg (not_not_intro qy), if_neg (not_not_intro qy), if_pos qy, if_pos qy]
      exact ⟨trivial, trivial, rfl, h.up (by omega)⟩
  · have qx := b2i_0.mpr (fun z => cx (hx.mp z))
    have qx8 := b2i_0.mpr (fun z => cx (hx8.mp z))
    rw [if_pos qx, if_pos qx8, if_pos qx, if_pos qx8]
    exact ⟨trivial, trivial, rfl, h.up (by omega)⟩
theorem pair_row (h : Rel M n) (hn : n < 64) (a1 a2 : Int32) : PairI (p_X7_row M a1 a2) (p_X8_row M a1 a2) (r_X7_row M a1 a2) (r_X8_row M a1 a2) M n := by
  obtain ⟨x, rfl, x1, x2⟩ := ex_iI a1
  obtain ⟨y, rfl, y1, y2⟩ := ex_iI a2
  obtain ⟨rc, w1, w2, w3, w4⟩ := h.2.1
  have hx : (0 ≤ iI x ∧ iI x ≤ M.1 1 8 - 1) ↔ (0 ≤ x ∧ x < rc) := by
    rw [w2, cl0, cl1, iI_sub, iI_le (by omega) (by omega) (by omega) (by omega), iI_le (by omega) (by omega) (by omega) (by omega)]
    omega
  have hx8 : (0 ≤ iI x ∧ iI x ≤ M.1 600 42 - 1) ↔ (0 ≤ x ∧ x < rc) := by rw [w3, ← w2]; exact hx
  have hy : (0 ≤ iI y ∧ iI y ≤ 2) ↔ (0 ≤ y ∧ y ≤ 2) := by rw [cl0, cl2]; exact wb y1 y2 (by omega) (by omega) (by omega) (by omega)
  unfold p_X7_row p_X8_row r_X7_row r_X8_row r_X7_hasCell
  by_cases c : (0 ≤ x ∧ x < rc) ∧ (0 ≤ y ∧ y ≤ 2)
  · have qx := b2i_1.mpr (hx.mpr c.1)
    have qy := b2i_1.mpr (hy.mpr c.2)
    have q8 := b2i_1.mpr (show (0 ≤ iI x ∧ iI x ≤ M.1 600 42 - 1) ∧ (0 ≤ iI y ∧ iI y ≤ 2) from ⟨hx8.mpr c.1, hy.mpr c.2⟩)
    have e7 : iI x * 3 + iI y = iI (3 * x + y) := by rw [cl3, iI_mul, iI_add]; congr 1; omega
    have e8 : 3 * iI x + iI y = iI (3 * x + y) := by rw [cl3, iI_mul, iI_add]
    have v : vp_in (iI (3 * x + y)) 18 := vin_iI (by omega) (by omega) (by omega)
    rw [if_neg qx, if_neg qy, if_neg (show ¬ (1 : Int32) = 0 by decide), if_neg (show ¬ (1 : Int32) = 0 by decide), if_neg q8, if_neg q8, e7, e8]
    exact ⟨⟨v, trivial⟩, ⟨v, trivial⟩, w4 _ (by rw [iI_nat (by omega) (by omega)]; omega), h.up (by omega)⟩
  · have q8 := b2i_0.mpr (show ¬ ((0 ≤ iI x ∧ iI x ≤ M.1 600 42 - 1) ∧ (0 ≤ iI y ∧ iI y ≤ 2)) from fun z => c ⟨hx8.mp z.1, hy.mp z.2⟩)
    have q7 : (if b2i (0 ≤ iI x ∧ iI x ≤ M.1 1 8 - 1) = 0 then (0 : Int32) else if b2i (0 ≤ iI y ∧ iI y ≤ 2) = 0 then 0 else 1) = 0 := by
      by_cases cx : 0 ≤ x ∧ x < rc
      · rw [if_neg (b2i_1.mpr (hx.mpr cx)), if_pos (b2i_0.mpr (fun z => c ⟨cx, hy.mp z⟩))]
      · rw [if_pos (b2i_0.mpr (fun z => cx (hx.mp z)))]
    rw [if_pos q7, if_pos q7, if_pos q8, if_pos q8]
    exact ⟨trivial, trivial, rfl, h.up (by omega)⟩
theorem pair_alterRow (h : Rel M n) (hn : n < 64) (a1 a2 a3 : Int32) : PairI (p_X7_alterRow M a1 a2 a3) (p_X8_alterRow (w_X7_alterRow M a1 a2 a3) a1 a2 a3) (r_X7_alterRow M a1 a2 a3) (r_X8_alterRow (w_X7_alterRow M a1 a2 a3) a1 a2 a3) (w_X8_alterRow (w_X7_alterRow M a1 a2 a3) a1 a2 a3) n := by
  obtain ⟨x, rfl, x1, x2⟩ := ex_iI a1
  obtain ⟨y, rfl, y1, y2⟩ := ex_iI a2
  obtain ⟨rc, w1, w2, w3, w4⟩ := h.2.1
  have hx : (0 ≤ iI x ∧ iI x ≤ M.1 1 8 - 1) ↔ (0 ≤ x ∧ x < rc) := by
    rw [w2, cl0, cl1, iI_sub, iI_le (by omega) (by omega) (by omega) (by omega), iI_le (by omega) (by omega) (by omega) (by omega)]
    omega
  have hx8 : (0 ≤ iI x ∧ iI x ≤ M.1 600 42 - 1) ↔ (0 ≤ x ∧ x < rc) := by rw [w3, ← w2]; exact hx
  have hy : (0 ≤ iI y ∧ iI y ≤ 2) ↔ (0 ≤ y ∧ y ≤ 2) := by rw [cl0, cl2]; exact wb y1 y2 (by omega) (by omega) (by omega) (by omega)
  unfold p_X7_alterRow p_X8_alterRow r_X7_alterRow r_X8_alterRow w_X8_alterRow w_X7_alterRow r_X7_hasCell
  by_cases c : (0 ≤ x ∧ x < rc) ∧ (0 ≤ y ∧ y ≤ 2)
  · have qx := b2i_1.mpr (hx.mpr c.1)
    have qy := b2i_1.mpr (hy.mpr c.2)
    have q8 := b2i_1.mpr (show (0 ≤ iI x ∧ iI x ≤ M.1 600 42 - 1) ∧ (0 ≤ iI y ∧ iI y ≤ 2) from ⟨hx8.mpr c.1, hy.mpr c.2⟩)
    have e7 : iI x * 3 + iI y = iI (3 * x + y) := by rw [cl3, iI_mul, iI_add]; congr 1; omega
    have e8 : 3 * iI x + iI y = iI (3 * x + y) := by rw [cl3, iI_mul, iI_add]
    have v : vp_in (iI (3 * x + y)) 18 := vin_iI (by omega) (by omega) (by omega)
    have nn : Int32.toNatClampNeg (iI (3 * x + y)) = (3 * x + y).toNat := iI_nat (by omega) (by omega)
    simp only [if_neg qx, if_neg qy, e7, e8, nn, show ¬ (1 : Int32) = 0 by decide, not_false_eq_true, if_true]
    have r42 : (wi M 550 (3 * x + y).toNat a3).1 600 42 = M.1 600 42 := rd_ne (Or.inl (by omega))
    have r19 : (wi M 550 (3 * x + y).toNat a3).1 619 (3 * x + y).toNat = M.1 619 (3 * x + y).toNat := rd_ne (Or.inl (by omega))
    simp only [r42, if_pos q8, r19]
    refine ⟨⟨v, v, trivial⟩, ⟨v, v, trivial⟩, w4 _ (by omega), ?_⟩
    have F : Fp (fun a k => a = 550 ∨ a = 619) M (wi (wi M 550 (3 * x + y).toNat a3) 619 (3 * x + y).toNat a3) := Fp.wi (Fp.wi Fp.rf (by omega)) (by omega)
    refine h.of (by omega) F (Or.inl fun a k h => by omega) (Or.inr ⟨rc, w1, by rw [(F _ _ (by omega)).1]; exact w2, by rw [(F _ _ (by omega)).1]; exact w3, fun j hj => ?_⟩) (Or.inl fun a k h => by omega) (Or.inl fun a k h => by omega) (Or.inl fun a k h => by omega) (Or.inl fun a k h => by omega) (Or.inl fun a k h => by omega) (fun a k h => by omega)
    by_cases q : j = (3 * x + y).toNat
    · rw [q, rd_same, rd_ne (Or.inl (by omega)), rd_same]
    · rw [rd_ne (Or.inl (by omega)), rd_ne (Or.inr q), rd_ne (Or.inr q), rd_ne (Or.inl (by omega))]
      exact w4 j hj
  · have q8 : ¬ ¬ b2i ((0 ≤ iI x ∧ iI x ≤ M.1 600 42 - 1) ∧ (0 ≤ iI y ∧ iI y ≤ 2)) = 0 := not_not_intro (b2i_0.mpr (fun z => c ⟨hx8.mp z.1, hy.mp z.2⟩))
    have q7 : ¬ ¬ (if b2i (0 ≤ iI x ∧ iI x ≤ M.1 1 8 - 1) = 0 then (0 : Int32) else if b2i (0 ≤ iI y ∧ iI y ≤ 2) = 0 then 0 else 1) = 0 := by
      refine not_not_intro ?_
      by_cases cx : 0 ≤ x ∧ x < rc
      · rw [if_neg (b2i_1.mpr (hx.mpr cx)), if_pos (b2i_0.mpr (fun z => c ⟨cx, hy.mp z⟩))]
      · rw [if_pos (b2i_0.mpr (fun z => cx (hx.mp z)))]
    simp only [if_neg q7, if_neg q8]
    exact ⟨trivial, trivial, rfl, h.up (by omega)⟩
theorem pair_trace (h : Rel M n) (hn : n < 64) (a1 : Int32) : PairI (p_X7_trace M a1) (p_X8_trace M a1) (r_X7_trace M a1) (r_X8_trace M a1) M n := by
  obtain ⟨x, rfl, x1, x2⟩ := ex_iI a1
  obtain ⟨k, w1, w2, w3, w4⟩ := h.2.2.2.1
  have hx : (0 ≤ iI x ∧ iI x ≤ M.1 520 1 - 1) ↔ (0 ≤ x ∧ x < k) := by
    rw [w2, cl0, cl1, iI_sub, iI_le (by omega) (by omega) (by omega) (by omega), iI_le (by omega) (by omega) (by omega) (by omega)]
    omega
  have hx8 : (0 ≤ iI x ∧ iI x ≤ M.1 600 53 - 1) ↔ (0 ≤ x ∧ x < k) := by rw [w3, ← w2]; exact hx
  unfold p_X7_trace p_X8_trace r_X7_trace r_X8_trace
  by_cases c : 0 ≤ x ∧ x < k
  · have qx := b2i_1.mpr (hx.mpr c)
    have q8 := b2i_1.mpr (hx8.mpr c)
    have v : vp_in (iI x) 30 := vin_iI (by omega) (by omega) (by omega)
    rw [if_neg qx, if_neg q8, if_neg qx, if_neg q8, iI_nat x1 x2]
    exact ⟨⟨v, trivial⟩, ⟨v, trivial⟩, w4 _ (by omega), h.up (by omega)⟩
  · have qx := b2i_0.mpr (fun z => c (hx.mp z))
    have q8 := b2i_0.mpr (fun z => c (hx8.mp z))
    rw [if_pos qx, if_pos q8, if_pos qx, if_pos q8]
    exact ⟨trivial, trivial, rfl, h.up (by omega)⟩
end P36
