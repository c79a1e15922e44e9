/-! the host: sheet, shelf, taken -/
section P42
variable {M : Mm} {n : Nat}
theorem c_mkRow {k : Nat} (hk : k < 4) (so sz : Int32) : p_X1_makeRow M (iI (k : Int)) so sz ∧ (w_X1_makeRow M (iI (k : Int)) so sz).1 = (wi (wi M 531 k so) 532 k sz).1 ∧ ∀ a j, (w_X1_makeRow M (iI (k : Int)) so sz).2 a j = if a = 534 + k ∧ j < 40 then 0 else M.2 a j := by
  have nk : Int32.toNatClampNeg (iI (k : Int)) = k := natk rfl (by omega)
  have vk : vp_in (iI (k : Int)) 4 := vin_iI (by omega) (by omega) (by omega)
  unfold p_X1_makeRow w_X1_makeRow
  rw [nk, n40_eq]
  obtain ⟨M0, hM0⟩ : ∃ M0, M0 = wi (wi M 531 k so) 532 k sz := ⟨_, rfl⟩
  have h2 : M0.2 = M.2 := by rw [hM0]; rfl
  rw [← hM0, ← h2]
  have key : ∀ j, j ≤ 40 → l_X1_makeRow_17 (iI (k : Int)) so sz (M0, 0) j = (((M0.1, fun a i => if a = 534 + k ∧ i < j then 0 else M0.2 a i) : Mm), iI (j : Int)) := by
    refine it_for _ ?_ (fun j hj => ?_)
    · refine Prod.ext (Prod.ext rfl ?_) rfl
      funext a i
      show M0.2 a i = if a = 534 + k ∧ i < 0 then 0 else M0.2 a i
      rw [if_neg (by omega)]
    · show s_X1_makeRow_17 (iI (k : Int)) so sz (((M0.1, fun a i => if a = 534 + k ∧ i < j then 0 else M0.2 a i) : Mm), iI (j : Int)) = _
      unfold s_X1_makeRow_17
      dsimp only
      have hlt : ¬ (40 : Int32) ≤ iI (j : Int) := by rw [cl40, iI_le (by omega) (by omega) (by omega) (by omega)]; omega
      rw [if_neg hlt, k1_iI, nk, natk (n := j) rfl (by omega)]
      refine Prod.ext (Prod.ext rfl ?_) rfl
      funext a i
      show (if a = 534 + k ∧ i = j then (0 : Int64) else if a = 534 + k ∧ i < j then 0 else M0.2 a i) = if a = 534 + k ∧ i < j + 1 then 0 else M0.2 a i
      by_cases q : a = 534 + k ∧ i < j + 1
      · rw [if_pos q]
        by_cases q2 : i = j
        · rw [if_pos ⟨q.1, q2⟩]
        · rw [if_neg (by omega), if_pos (by omega)]
      · rw [if_neg q, if_neg (by omega), if_neg (by omega)]
  have k40 := key 40 (Nat.le_refl _)
  have fin : (40 : Int32) ≤ (l_X1_makeRow_17 (iI (k : Int)) so sz (M0, 0) 40).2 := by rw [k40]; show (40 : Int32) ≤ iI ((40 : Nat) : Int); decide
  refine ⟨⟨vk, vk, fun j hj => ?_, fun j hj => ?_, ?_, ?_⟩, ?_⟩
  · rw [key j (by omega)]
    unfold c_X1_makeRow_17
    dsimp only
    rw [cl40, iteLE (by omega) (by omega) (by omega) (by omega), if_neg (by omega)]
    trivial
  · rw [key j (by omega)]
    unfold q_X1_makeRow_17
    dsimp only
    split
    · trivial
    · exact ⟨vk, vin_iI (by omega) (by omega) (by omega), trivial⟩
  · unfold c_X1_makeRow_17
    rw [if_pos fin]
    exact fun h => h
  · rw [if_pos fin]
    trivial
  · rw [if_pos fin, k40]
    exact ⟨rfl, fun a j => rfl⟩
theorem r_sheetL {k : Nat} (hk : k < 4) (a2 a3 : Int32) (M0 : Mm) : (∀ j, j < n40 → c_X8_sheet_64 (iI (k : Int)) a2 a3 (l_X8_sheet_64 (iI (k : Int)) a2 a3 (M0, 0) j)) ∧ (∀ j, j < n40 → q_X8_sheet_64 (iI (k : Int)) a2 a3 (l_X8_sheet_64 (iI (k : Int)) a2 a3 (M0, 0) j)) ∧ (¬ c_X8_sheet_64 (iI (k : Int)) a2 a3 (l_X8_sheet_64 (iI (k : Int)) a2 a3 (M0, 0) n40)) ∧ ((40 : Int32) ≤ (l_X8_sheet_64 (iI (k : Int)) a2 a3 (M0, 0) n40).2) ∧ (l_X8_sheet_64 (iI (k : Int)) a2 a3 (M0, 0) n40).1.1 = M0.1 ∧ ∀ a i, (l_X8_sheet_64 (iI (k : Int)) a2 a3 (M0, 0) n40).1.2 a i = if a = 622 ∧ 40 * k ≤ i ∧ i < 40 * k + 40 then 0 else M0.2 a i := by
  rw [n40_eq]
  have key : ∀ j, j ≤ 40 → l_X8_sheet_64 (iI (k : Int)) a2 a3 (M0, 0) j = (((M0.1, fun a i => if a = 622 ∧ 40 * k ≤ i ∧ i < 40 * k + j then 0 else M0.2 a i) : Mm), iI (j : Int)) := by
    refine it_for _ ?_ (fun j hj => ?_)
    · refine Prod.ext (Prod.ext rfl ?_) rfl
      funext a i
      show M0.2 a i = if a = 622 ∧ 40 * k ≤ i ∧ i < 40 * k + 0 then 0 else M0.2 a i
      rw [if_neg (by omega)]
    · show s_X8_sheet_64 (iI (k : Int)) a2 a3 (((M0.1, fun a i => if a = 622 ∧ 40 * k ≤ i ∧ i < 40 * k + j then 0 else M0.2 a i) : Mm), iI (j : Int)) = _
      unfold s_X8_sheet_64
      dsimp only
      have hlt : ¬ (40 : Int32) ≤ iI (j : Int) := by rw [cl40, iI_le (by omega) (by omega) (by omega) (by omega)]; omega
      have nj : Int32.toNatClampNeg ((40 : Int32) * iI (k : Int) + iI (j : Int)) = 40 * k + j := by rw [cl40, iI_mul, iI_add]; exact natk (by omega) (by omega)
      rw [if_neg hlt, k1_iI, nj]
      refine Prod.ext (Prod.ext rfl ?_) rfl
      funext a i
      show (if a = 622 ∧ i = 40 * k + j then (0 : Int64) else if a = 622 ∧ 40 * k ≤ i ∧ i < 40 * k + j then 0 else M0.2 a i) = if a = 622 ∧ 40 * k ≤ i ∧ i < 40 * k + (j + 1) then 0 else M0.2 a i
      by_cases q : a = 622 ∧ 40 * k ≤ i ∧ i < 40 * k + (j + 1)
      · rw [if_pos q]
        by_cases q2 : i = 40 * k + j
        · rw [if_pos ⟨q.1, q2⟩]
        · rw [if_neg (by omega), if_pos (by omega)]
      · rw [if_neg q, if_neg (by omega), if_neg (by omega)]
  have k40 := key 40 (Nat.le_refl _)
  have fin : (40 : Int32) ≤ (l_X8_sheet_64 (iI (k : Int)) a2 a3 (M0, 0) 40).2 := by rw [k40]; show (40 : Int32) ≤ iI ((40 : Nat) : Int); decide
  refine ⟨fun j hj => ?_, fun j hj => ?_, ?_, fin, ?_, ?_⟩
  · rw [key j (by omega)]
    unfold c_X8_sheet_64
    dsimp only
    rw [cl40, iteLE (by omega) (by omega) (by omega) (by omega), if_neg (by omega)]
    trivial
  · rw [key j (by omega)]
    unfold q_X8_sheet_64
    dsimp only
    split
    · trivial
    · exact ⟨by rw [cl40, iI_mul, iI_add]; exact vin_iI (by omega) (by omega) (by omega), trivial⟩
  · unfold c_X8_sheet_64
    rw [if_pos fin]
    exact fun h => h
  · rw [k40]
  · intro a i
    rw [k40]
theorem RelH.mk {M' : Mm} (h : RelH M) {k : Nat} (hk : k < 4) {so sz : Int} (hs : -1 ≤ so ∧ so ≤ 3) (hz : 0 ≤ sz ∧ sz ≤ 40) (e1 : ∀ a j, M'.1 a j = if (a = 531 ∨ a = 620) ∧ j = k then iI so else if (a = 532 ∨ a = 621) ∧ j = k then iI sz else M.1 a j) (e2 : ∀ a j, M'.2 a j = if (a = 534 + k ∧ j < 40) ∨ (a = 622 ∧ 40 * k ≤ j ∧ j < 40 * k + 40) then 0 else M.2 a j) : RelH M' := by
  intro k' hk'
  obtain ⟨⟨so', sz', h1, h2, h3, h4, h5, h6⟩, h7, ⟨ho, nu, i1, i2, i3, i4, i5, i6⟩⟩ := h k' hk'
  refine ⟨?_, fun j hj => ?_, ho, nu, i1, ?_, ?_, ?_, ?_, ?_⟩
  · by_cases q : k' = k
    · refine ⟨so, sz, hs, hz, ?_, ?_, ?_, ?_⟩
      · rw [e1, if_pos (by omega)]
      · rw [e1, if_pos (by omega)]
      · rw [e1, if_neg (by omega), if_pos (by omega)]
      · rw [e1, if_neg (by omega), if_pos (by omega)]
    · refine ⟨so', sz', h1, h2, ?_, ?_, ?_, ?_⟩
      · rw [e1, if_neg (by omega), if_neg (by omega)]; exact h3
      · rw [e1, if_neg (by omega), if_neg (by omega)]; exact h4
      · rw [e1, if_neg (by omega), if_neg (by omega)]; exact h5
      · rw [e1, if_neg (by omega), if_neg (by omega)]; exact h6
  · rw [e2 (534 + k') j, e2 622 (40 * k' + j)]
    by_cases q : k' = k
    · rw [if_pos (by omega), if_pos (by omega)]
      exact ⟨rfl, 0, by decide⟩
    · rw [if_neg (by omega), if_neg (by omega)]
      exact h7 j hj
  · rw [e1, if_neg (by omega), if_neg (by omega)]; exact i2
  · rw [e1, if_neg (by omega), if_neg (by omega)]; exact i3
  · rw [e1 539, e1 624, if_neg (by omega), if_neg (by omega), if_neg (by omega), if_neg (by omega)]; exact i4
  · rw [e1 540, e1 625, if_neg (by omega), if_neg (by omega), if_neg (by omega), if_neg (by omega)]; exact i5
  · rw [e1 539, if_neg (by omega), if_neg (by omega)]; exact i6
theorem sheet_fin (h : Rel M n) (hn : n < 64) {k : Nat} (hk : k < 4) {so sz : Int} (hs : -1 ≤ so ∧ so ≤ 3) (hz : 0 ≤ sz ∧ sz ≤ 40) (a2 a3 : Int32) : Rel (l_X8_sheet_64 (iI (k : Int)) a2 a3 (wi (wi (w_X1_makeRow M (iI (k : Int)) (iI so) (iI sz)) 620 k (iI so)) 621 k (iI sz), 0) n40).1 (n + 1) := by
  obtain ⟨-, m1, m2⟩ := c_mkRow (M := M) hk (iI so) (iI sz)
  generalize w_X1_makeRow M (iI (k : Int)) (iI so) (iI sz) = M1 at m1 m2 ⊢
  obtain ⟨-, -, -, -, l1, l2⟩ := r_sheetL hk a2 a3 (wi (wi M1 620 k (iI so)) 621 k (iI sz))
  generalize (l_X8_sheet_64 (iI (k : Int)) a2 a3 (wi (wi M1 620 k (iI so)) 621 k (iI sz), 0) n40).1 = M2 at l1 l2 ⊢
  have e1 : ∀ a j, M2.1 a j = if (a = 531 ∨ a = 620) ∧ j = k then iI so else if (a = 532 ∨ a = 621) ∧ j = k then iI sz else M.1 a j := fun a j => by
    rw [l1, wi_1, wi_1, m1, wi_1, wi_1]
    repeat' split
    all_goals first | rfl | (exfalso; omega)
  have e2 : ∀ a j, M2.2 a j = if (a = 534 + k ∧ j < 40) ∨ (a = 622 ∧ 40 * k ≤ j ∧ j < 40 * k + 40) then 0 else M.2 a j := fun a j => by
    rw [l2, wi_2, wi_2, m2]
    repeat' split
    all_goals first | rfl | (exfalso; omega)
  have F : Fp (fun a k => (531 ≤ a ∧ a ≤ 537) ∨ (620 ≤ a ∧ a ≤ 622)) M M2 := fun a j hq => ⟨by rw [e1, if_neg (by omega), if_neg (by omega)], by rw [e2, if_neg (by omega)]⟩
  exact h.of (by omega) F (Or.inl fun a k h => by omega) (Or.inl fun a k h => by omega) (Or.inl fun a k h => by omega) (Or.inl fun a k h => by omega) (Or.inr (RelH.mk h.2.2.2.2.1 hk hs hz e1 e2)) (Or.inl fun a k h => by omega) (Or.inl fun a k h => by omega) (fun a k h => by omega)
theorem pair_sheet (h : Rel M n) (hn : n < 64) (a1 a2 a3 : Int32) : PairI (p_X7_sheet M a1 a2 a3) (p_X8_sheet (w_X7_sheet M a1 a2 a3) a1 a2 a3) (r_X7_sheet M a1 a2 a3) (r_X8_sheet (w_X7_sheet M a1 a2 a3) a1 a2 a3) (w_X8_sheet (w_X7_sheet M a1 a2 a3) a1 a2 a3) n := by
  obtain ⟨x, rfl, x1, x2⟩ := ex_iI a1
  obtain ⟨y, rfl, y1, y2⟩ := ex_iI a2
  obtain ⟨z, rfl, z1, z2⟩ := ex_iI a3
  have c7 : (0 ≤ iI x ∧ iI x < 4) ↔ (0 ≤ x ∧ x ≤ 3) := by rw [cl0, cl4, iI_le (by omega) (by omega) (by omega) (by omega), iI_lt (by omega) (by omega) (by omega) (by omega)]; omega
  have c8 : (0 ≤ iI x ∧ iI x ≤ 3) ↔ (0 ≤ x ∧ x ≤ 3) := by rw [cl0, cl3]; exact wb x1 x2 (by omega) (by omega) (by omega) (by omega)
  have cy : (-1 ≤ iI y ∧ iI y ≤ 3) ↔ (-1 ≤ y ∧ y ≤ 3) := by rw [cm1, cl3]; exact wb y1 y2 (by omega) (by omega) (by omega) (by omega)
  unfold p_X7_sheet p_X8_sheet r_X7_sheet r_X8_sheet w_X8_sheet w_X7_sheet
  by_cases c : 0 ≤ x ∧ x ≤ 3
  · obtain ⟨k, rfl⟩ : ∃ k : Nat, x = (k : Int) := ⟨x.toNat, by omega⟩
    have q7 := b2i_1.mpr (c7.mpr c)
    have q8 := b2i_1.mpr (c8.mpr c)
    have nk : Int32.toNatClampNeg (iI (k : Int)) = k := natk rfl (by omega)
    have vk : vp_in (iI (k : Int)) 4 := vin_iI (by omega) (by omega) (by omega)
    by_cases d : -1 ≤ y ∧ y ≤ 3
    · have qy := b2i_1.mpr (cy.mpr d)
      have e1 : (iI y = -1) ↔ y = -1 := by rw [cm1, iI_eq (by omega) (by omega) (by omega) (by omega)]
      have e2 : (iI y < 0) ↔ y < 0 := by rw [cl0, iI_lt (by omega) (by omega) (by omega) (by omega)]
      have e3 : (0 ≤ iI y) ↔ 0 ≤ y := by rw [cl0, iI_le (by omega) (by omega) (by omega) (by omega)]
      by_cases d1 : y = -1
      · have g1 := not_not_intro (e1.mpr d1)
        have g2 : iI y < 0 := e2.mpr (by omega)
        have g3 : ¬ 0 ≤ iI y := fun u => by have := e3.mp u; omega
        obtain ⟨m0, -, -⟩ := c_mkRow (M := M) (k := k) (by omega) (iI y) 0
        obtain ⟨s1, s2, s3, s4, -, -⟩ := r_sheetL (k := k) (by omega) (iI y) (iI z) (wi (wi (w_X1_makeRow M (iI (k : Int)) (iI y) 0) 620 k (iI y)) 621 k 0)
        have fin := sheet_fin h hn (k := k) (by omega) (so := y) (sz := 0) d (by omega) (iI y) (iI z)
        rw [← cl0] at fin
        simp only [if_neg q7, if_pos qy, if_neg g1, if_neg q8, if_neg qy, if_pos g2, if_neg g3, nk]
        simp only [if_pos s4]
        exact ⟨⟨m0, trivial⟩, ⟨vk, vk, s1, s2, s3, trivial⟩, rfl, fin⟩
      · have g1 : ¬ iI y = -1 := fun u => d1 (e1.mp u)
        have g2 : ¬ iI y < 0 := fun u => by have := e2.mp u; omega
        have g3 : 0 ≤ iI y := e3.mpr (by omega)
        have e4 : (iI z ≤ 40) ↔ z ≤ 40 := by rw [cl40, iI_le (by omega) (by omega) (by omega) (by omega)]
        have e5 : (0 ≤ iI z) ↔ 0 ≤ z := by rw [cl0, iI_le (by omega) (by omega) (by omega) (by omega)]
        by_cases d2 : z ≤ 40
        · have g4 := e4.mpr d2
          by_cases d3 : 0 ≤ z
          · have g5 := e5.mpr d3
            obtain ⟨m0, -, -⟩ := c_mkRow (M := M) (k := k) (by omega) (iI y) (iI z)
            obtain ⟨s1, s2, s3, s4, -, -⟩ := r_sheetL (k := k) (by omega) (iI y) (iI z) (wi (wi (w_X1_makeRow M (iI (k : Int)) (iI y) (iI z)) 620 k (iI y)) 621 k (iI z))
            have fin := sheet_fin h hn (k := k) (by omega) (so := y) (sz := z) d (by omega) (iI y) (iI z)
            simp only [if_neg q7, if_pos qy, if_pos g1, if_neg q8, if_neg qy, if_neg g2, if_pos g3, if_pos g4, if_pos g5, nk]
            simp only [if_pos s4]
            exact ⟨⟨m0, trivial⟩, ⟨vk, vk, s1, s2, s3, trivial⟩, rfl, fin⟩
          · have g5 : ¬ 0 ≤ iI z := fun u => d3 (e5.mp u)
            simp only [if_neg q7, if_pos qy, if_pos g1, if_neg q8, if_neg qy, if_neg g2, if_pos g4, if_neg g5]
            exact ⟨trivial, trivial, rfl, h.up (by omega)⟩
        · have g4 : ¬ iI z ≤ 40 := fun u => d2 (e4.mp u)
          simp only [if_neg q7, if_pos qy, if_pos g1, if_neg q8, if_neg qy, if_neg g2, if_neg g4]
          exact ⟨trivial, trivial, rfl, h.up (by omega)⟩
    · have qy := b2i_0.mpr (fun u => d (cy.mp u))
      simp only [if_neg q7, if_neg (not_not_intro qy), if_neg q8, if_pos qy]
      exact ⟨trivial, trivial, rfl, h.up (by omega)⟩
  · have q7 := b2i_0.mpr (fun u => c (c7.mp u))
    have q8 := b2i_0.mpr (fun u => c (c8.mp u))
    simp only [if_pos q7, if_pos q8]
    exact ⟨trivial, trivial, rfl, h.up (by omega)⟩
end P42
