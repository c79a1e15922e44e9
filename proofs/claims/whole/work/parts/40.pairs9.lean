/-! workOf, item, write -/
section P40
variable {M : Mm} {n : Nat}
theorem pair_workOf (h : Rel M n) (hn : n < 64) (a1 a2 : Int32) : PairI (p_X7_workOf M a1 a2) (p_X8_workOf (w_X7_workOf M a1 a2) a1 a2) (r_X7_workOf M a1 a2) (r_X8_workOf (w_X7_workOf M a1 a2) a1 a2) (w_X7_workOf M a1 a2) n := by
  obtain ⟨x, rfl, x1, x2⟩ := ex_iI a1
  obtain ⟨y, rfl, y1, y2⟩ := ex_iI a2
  obtain ⟨T, S, g, ⟨c1, c2, c3, c4⟩, ⟨r1, r2, r3, r4, r5⟩, i1, i2, i3, i4, i5⟩ := h.1
  have hc := i1.1
  have h7 := c_has c1 i1 x1 x2
  have h8 := r_isWork r1 i1 x1 x2
  have e7 : w_X7_workOf M (iI x) (iI y) = M := by unfold w_X7_workOf; simp only [ite_self]
  rw [e7]
  have hy : (0 ≤ iI y ∧ iI y ≤ 9) ↔ (0 ≤ y ∧ y ≤ 9) := by rw [cl0, cl9]; exact wb y1 y2 (by omega) (by omega) (by omega) (by omega)
  have ey : ∀ k : Int, 0 ≤ k → k ≤ 9 → ((iI y = iI k) = (y = k)) := fun k a b => iI_eq (by omega) (by omega) (by omega) (by omega)
  unfold p_X7_workOf p_X8_workOf r_X7_workOf r_X8_workOf
  by_cases c : 0 ≤ x ∧ x < T 0 2
  · obtain ⟨w, rfl⟩ : ∃ w : Nat, x = (w : Int) := ⟨x.toNat, by omega⟩
    have b7 := b2i_1.mpr (h7.mpr c)
    have b8 := b2i_1.mpr (h8.mpr c)
    have vw : vp_in (iI (w : Int)) 6 := vin_iI (by omega) (by omega) (by omega)
    have nw : Int32.toNatClampNeg (iI (w : Int)) = w := natk rfl (by omega)
    have f7 : ∀ f, f < 8 → M.1 (110 + w) f = iI (T (10 + w) f) := fun f hf => c1.2.2.2.2 w f c.2 hf
    have f8 : ∀ f, f < 8 → M.1 603 (8 * w + f) = iI (T (10 + w) f) := fun f hf => r1.2.2.2.2 w f c.2 hf
    have s7 := c2.2.2.1 (w : Int) (by omega) c.2
    have t7 := c2.2.2.2.1 (w : Int) (by omega) c.2
    have s8 := r2.2.2.1 (w : Int) (by omega) c.2
    have t8 := r2.2.2.2.1 (w : Int) (by omega) c.2
    rw [Int.toNat_natCast] at s7 t7 s8 t8
    have s7' : M.1 1003 w = iI (S 2 w) := s7
    have t7' : M.1 1004 w = iI (S 3 w) := t7
    have n9 : Int32.toNatClampNeg (9 + iI (w : Int)) = 0 + 9 + w := by rw [cl9, iI_add]; exact natk (by omega) (by omega)
    have n15 : Int32.toNatClampNeg (15 + iI (w : Int)) = 0 + 15 + w := by rw [cl15, iI_add]; exact natk (by omega) (by omega)
    have v9 : vp_in (9 + iI (w : Int)) 44 := by rw [cl9, iI_add]; exact vin_iI (by omega) (by omega) (by omega)
    have v15 : vp_in (15 + iI (w : Int)) 44 := by rw [cl15, iI_add]; exact vin_iI (by omega) (by omega) (by omega)
    have n6 : Int32.toNatClampNeg (8 * iI (w : Int) + 6) = 8 * w + 6 := by rw [cl8, cl6, iI_mul, iI_add]; exact natk (by omega) (by omega)
    have k6 := (i1.2.2.2.2 w c.2).2.2.2.2.2.2.1
    simp only [if_pos b7, if_neg b8, nw, s7', t7', n9, n15, s8, t8, n6, f7 0 (by omega), f7 1 (by omega), f7 2 (by omega), f7 3 (by omega), f7 4 (by omega), f7 5 (by omega), f7 6 (by omega), f7 7 (by omega), f8 6 (by omega)]
    by_cases cy : 0 ≤ y ∧ y ≤ 9
    · have qy := b2i_1.mpr (hy.mpr cy)
      simp only [if_pos qy]
      have gen : ∀ k : Nat, y = (k : Int) → k < 8 → Int32.toNatClampNeg (8 * iI (w : Int) + iI y) = 8 * w + k ∧ vp_in (8 * iI (w : Int) + iI y) 48 := fun k hk h8 => by
        rw [cl8, iI_mul, iI_add]
        exact ⟨natk (by omega) (by omega), vin_iI (by omega) (by omega) (by omega)⟩
      have q6 : (iI (T (10 + w) 6) < 0) ↔ T (10 + w) 6 < 0 := by rw [cl0, iI_lt (by omega) (by omega) (by omega) (by omega)]
      have q6' : (0 ≤ iI (T (10 + w) 6)) ↔ 0 ≤ T (10 + w) 6 := by rw [cl0, iI_le (by omega) (by omega) (by omega) (by omega)]
      have hk : y = 0 ∨ y = 1 ∨ y = 2 ∨ y = 3 ∨ y = 4 ∨ y = 5 ∨ y = 6 ∨ y = 7 ∨ y = 8 ∨ y = 9 := by omega
      rcases hk with rfl | rfl | rfl | rfl | rfl | rfl | rfl | rfl | rfl | rfl
      · obtain ⟨g1, g2⟩ := gen 0 rfl (by omega)
        rw [g1, f8 0 (by omega)]
        exact ⟨⟨vw, trivial⟩, ⟨g2, trivial⟩, rfl, h.up (by omega)⟩
      · obtain ⟨g1, g2⟩ := gen 1 rfl (by omega)
        rw [g1, f8 1 (by omega)]
        exact ⟨⟨vw, trivial⟩, ⟨g2, trivial⟩, rfl, h.up (by omega)⟩
      · obtain ⟨g1, g2⟩ := gen 2 rfl (by omega)
        rw [g1, f8 2 (by omega)]
        exact ⟨⟨vw, trivial⟩, ⟨g2, trivial⟩, rfl, h.up (by omega)⟩
      · obtain ⟨g1, g2⟩ := gen 3 rfl (by omega)
        rw [g1, f8 3 (by omega)]
        exact ⟨⟨vw, trivial⟩, ⟨g2, trivial⟩, rfl, h.up (by omega)⟩
      · obtain ⟨g1, g2⟩ := gen 4 rfl (by omega)
        rw [g1, f8 4 (by omega)]
        exact ⟨⟨vw, trivial⟩, ⟨g2, trivial⟩, rfl, h.up (by omega)⟩
      · obtain ⟨g1, g2⟩ := gen 5 rfl (by omega)
        rw [g1, f8 5 (by omega)]
        exact ⟨⟨vw, trivial⟩, ⟨g2, trivial⟩, rfl, h.up (by omega)⟩
      · refine ⟨⟨vw, trivial⟩, ⟨vw6 c.2 i1, ?_⟩, ?_, h.up (by omega)⟩
        · split
          · exact ⟨vw6 c.2 i1, trivial⟩
          · trivial
        · show (if iI (T (10 + w) 6) < 0 then (-9 : Int32) else iI (T (10 + w) 6)) = (if 0 ≤ iI (T (10 + w) 6) then iI (T (10 + w) 6) else -9)
          by_cases k : T (10 + w) 6 < 0
          · rw [if_pos (q6.mpr k), if_neg (fun u => by have := q6'.mp u; omega)]
          · rw [if_neg (fun u => k (q6.mp u)), if_pos (q6'.mpr (by omega))]
      · obtain ⟨g1, g2⟩ := gen 7 rfl (by omega)
        rw [g1, f8 7 (by omega)]
        exact ⟨⟨vw, trivial⟩, ⟨g2, trivial⟩, rfl, h.up (by omega)⟩
      · exact ⟨⟨vw, vw, trivial⟩, ⟨v9, trivial⟩, rfl, h.up (by omega)⟩
      · refine ⟨⟨vw, vw, ?_⟩, ⟨v9, ?_⟩, rfl, h.up (by omega)⟩
        · split
          · trivial
          · exact ⟨vw, trivial⟩
        · split
          · trivial
          · exact ⟨v15, trivial⟩
    · have qy : ¬ ¬ b2i (0 ≤ iI y ∧ iI y ≤ 9) = 0 := fun u => cy (hy.mp (b2i_1.mp u))
      have m0 : ¬ iI y = 0 := by rw [cl0, ey 0 (by omega) (by omega)]; omega
      have m1 : ¬ iI y = 1 := by rw [cl1, ey 1 (by omega) (by omega)]; omega
      have m2 : ¬ iI y = 2 := by rw [cl2, ey 2 (by omega) (by omega)]; omega
      have m3 : ¬ iI y = 3 := by rw [cl3, ey 3 (by omega) (by omega)]; omega
      have m4 : ¬ iI y = 4 := by rw [cl4, ey 4 (by omega) (by omega)]; omega
      have m5 : ¬ iI y = 5 := by rw [cl5, ey 5 (by omega) (by omega)]; omega
      have m6 : ¬ iI y = 6 := by rw [cl6, ey 6 (by omega) (by omega)]; omega
      have m7 : ¬ iI y = 7 := by rw [cl7, ey 7 (by omega) (by omega)]; omega
      have m8 : ¬ iI y = 8 := by rw [cl8, ey 8 (by omega) (by omega)]; omega
      have m9 : ¬ iI y = 9 := by rw [cl9, ey 9 (by omega) (by omega)]; omega
      simp only [if_neg qy, if_neg m0, if_neg m1, if_neg m2, if_neg m3, if_neg m4, if_neg m5, if_neg m6, if_neg m7, if_neg m8, if_neg m9]
      exact ⟨⟨vw, trivial⟩, trivial, rfl, h.up (by omega)⟩
  · have b7 : ¬ ¬ b2i (cHas M (iI x)) = 0 := not_not_intro (b2i_0.mpr (fun z => c (h7.mp z)))
    have b8 := b2i_0.mpr (fun z => c (h8.mp z))
    simp only [if_neg b7, if_pos b8]
    exact ⟨trivial, trivial, rfl, h.up (by omega)⟩
end P40
