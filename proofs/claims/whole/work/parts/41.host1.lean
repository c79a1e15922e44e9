/-! the host: item, write -/
theorem cl40 : (40 : Int32) = iI 40 := by decide
theorem cl12 : (12 : Int32) = iI 12 := by decide
theorem cl13 : (13 : Int32) = iI 13 := by decide
section P41
variable {M : Mm} {n : Nat}
theorem c_refusal {k : Nat} (hk : k < 4) {so y : Int} (hs : M.1 531 k = iI so) (hb : -1 ≤ so ∧ so ≤ 3) (y1 : -2147483648 ≤ y) (y2 : y < 2147483648) : p_X1_refusalOf M (iI (k : Int)) (iI y) ∧ r_X1_refusalOf M (iI (k : Int)) (iI y) = if so = -1 then -11 else if so = y then 0 else -13 := by
  have nk : Int32.toNatClampNeg (iI (k : Int)) = k := natk rfl (by omega)
  have vk : vp_in (iI (k : Int)) 4 := vin_iI (by omega) (by omega) (by omega)
  have q : ¬ b2i (0 ≤ iI (k : Int) ∧ iI (k : Int) < 4) = 0 := b2i_1.mpr (by rw [cl0, cl4, iI_le (by omega) (by omega) (by omega) (by omega), iI_lt (by omega) (by omega) (by omega) (by omega)]; omega)
  unfold p_X1_refusalOf r_X1_refusalOf
  rw [if_pos q, if_pos q, nk, hs]
  have e1 : (iI so = -1) = (so = -1) := by rw [cm1, iI_eq (by omega) (by omega) (by omega) (by omega)]
  have e2 : (iI so = iI y) = (so = y) := iI_eq (by omega) (by omega) y1 y2
  simp only [e1, e2]
  by_cases c1 : so = -1
  · rw [if_neg (not_not_intro c1), if_neg (not_not_intro c1), if_pos c1]
    exact ⟨⟨vk, trivial⟩, rfl⟩
  · rw [if_pos c1, if_pos c1, if_neg c1]
    by_cases c2 : so = y
    · rw [if_neg (not_not_intro c2), if_neg (not_not_intro c2), if_pos c2]
      exact ⟨⟨vk, vk, trivial⟩, rfl⟩
    · rw [if_pos c2, if_pos c2, if_neg c2]
      exact ⟨⟨vk, vk, trivial⟩, rfl⟩
theorem r_lacks {k : Nat} (hk : k < 4) {so y : Int} (hs : M.1 620 k = iI so) (hb : -1 ≤ so ∧ so ≤ 3) (y1 : -2147483648 ≤ y) (y2 : y < 2147483648) : p_X8_lacksSort M (iI (k : Int)) (iI y) ∧ r_X8_lacksSort M (iI (k : Int)) (iI y) = if so = -1 then -11 else if so = y then 0 else -13 := by
  have nk : Int32.toNatClampNeg (iI (k : Int)) = k := natk rfl (by omega)
  have vk : vp_in (iI (k : Int)) 4 := vin_iI (by omega) (by omega) (by omega)
  unfold p_X8_lacksSort r_X8_lacksSort
  rw [nk, hs]
  have e1 : (0 ≤ iI so) = (0 ≤ so) := by rw [cl0, iI_le (by omega) (by omega) (by omega) (by omega)]
  have e2 : (iI so = iI y) = (so = y) := iI_eq (by omega) (by omega) y1 y2
  simp only [e1, e2]
  by_cases c1 : so = -1
  · have g : ¬ 0 ≤ so := by omega
    rw [if_neg g, if_neg g, if_pos c1]
    exact ⟨⟨vk, trivial⟩, rfl⟩
  · have g : 0 ≤ so := by omega
    rw [if_pos g, if_pos g, if_neg c1]
    by_cases c2 : so = y
    · rw [if_pos c2, if_pos c2]
      exact ⟨⟨vk, vk, trivial⟩, rfl⟩
    · rw [if_neg c2, if_neg c2]
      exact ⟨⟨vk, vk, trivial⟩, rfl⟩
theorem c_refusal_no {x : Int} (x1 : -2147483648 ≤ x) (x2 : x < 2147483648) (c : ¬ (0 ≤ x ∧ x ≤ 3)) (y : Int32) : p_X1_refusalOf M (iI x) y ∧ r_X1_refusalOf M (iI x) y = -1 := by
  have q : ¬ ¬ b2i (0 ≤ iI x ∧ iI x < 4) = 0 := not_not_intro (b2i_0.mpr (by rw [cl0, cl4, iI_le (by omega) (by omega) (by omega) (by omega), iI_lt (by omega) (by omega) (by omega) (by omega)]; omega))
  unfold p_X1_refusalOf r_X1_refusalOf
  rw [if_neg q, if_neg q]
  exact ⟨trivial, rfl⟩
theorem pair_item (h : Rel M n) (hn : n < 64) (a1 a2 a3 : Int32) : PairI (p_X7_item M a1 a2 a3) (p_X8_item M a1 a2 a3) (r_X7_item M a1 a2 a3) (r_X8_item M a1 a2 a3) M n := by
  obtain ⟨x, rfl, x1, x2⟩ := ex_iI a1
  obtain ⟨y, rfl, y1, y2⟩ := ex_iI a2
  obtain ⟨z, rfl, z1, z2⟩ := ex_iI a3
  have hH := h.2.2.2.2.1
  have c8 : (0 ≤ iI x ∧ iI x ≤ 3) ↔ (0 ≤ x ∧ x ≤ 3) := by rw [cl0, cl3]; exact wb x1 x2 (by omega) (by omega) (by omega) (by omega)
  have cy : (0 ≤ iI y ∧ iI y ≤ 3) ↔ (0 ≤ y ∧ y ≤ 3) := by rw [cl0, cl3]; exact wb y1 y2 (by omega) (by omega) (by omega) (by omega)
  have f1 : ¬ (0 : Int32) ≤ -11 := by decide
  have f2 : ¬ (-11 : Int32) = 0 := by decide
  have f3 : ¬ (0 : Int32) ≤ -13 := by decide
  have f4 : ¬ (-13 : Int32) = 0 := by decide
  have f5 : (0 : Int32) ≤ 0 := by decide
  have f6 : ¬ (0 : Int32) ≤ -1 := by decide
  unfold p_X7_item p_X8_item r_X7_item r_X8_item
  by_cases c2 : 0 ≤ y ∧ y ≤ 3
  · have qy := b2i_1.mpr (cy.mpr c2)
    by_cases c : 0 ≤ x ∧ x ≤ 3
    · obtain ⟨k, rfl⟩ : ∃ k : Nat, x = (k : Int) := ⟨x.toNat, by omega⟩
      have q8 := b2i_1.mpr (c8.mpr c)
      have nk : Int32.toNatClampNeg (iI (k : Int)) = k := natk rfl (by omega)
      have vk : vp_in (iI (k : Int)) 4 := vin_iI (by omega) (by omega) (by omega)
      obtain ⟨⟨so, sz, h1, h2, h3, h4, h5, h6⟩, h7, -⟩ := hH k (by omega)
      obtain ⟨p7, r7⟩ := c_refusal (by omega) h3 h1 y1 y2
      obtain ⟨p8, r8⟩ := r_lacks (by omega) h4 h1 y1 y2
      simp only [if_pos qy, if_neg q8, r7, r8, nk, h5, h6]
      by_cases d1 : so = -1
      · simp only [if_pos d1, if_neg f1, if_neg f2]
        exact ⟨⟨p7, trivial⟩, ⟨p8, trivial⟩, rfl, h.up (by omega)⟩
      · by_cases d2 : so = y
        · simp only [if_neg d1, if_pos d2, if_pos f5, if_true]
          have cz : (0 ≤ iI z ∧ iI z ≤ iI sz - 1) ↔ (0 ≤ z ∧ z ≤ sz - 1) := by rw [cl0, cl1, iI_sub]; exact wb z1 z2 (by omega) (by omega) (by omega) (by omega)
          by_cases d3 : 0 ≤ z ∧ z ≤ sz - 1
          · have qz := b2i_1.mpr (cz.mpr d3)
            obtain ⟨i, rfl⟩ : ∃ i : Nat, z = (i : Int) := ⟨z.toNat, by omega⟩
            have ni : Int32.toNatClampNeg (iI (i : Int)) = i := natk rfl (by omega)
            have nj : Int32.toNatClampNeg (40 * iI (k : Int) + iI (i : Int)) = 40 * k + i := by rw [cl40, iI_mul, iI_add]; exact natk (by omega) (by omega)
            have vj : vp_in (40 * iI (k : Int) + iI (i : Int)) 160 := by rw [cl40, iI_mul, iI_add]; exact vin_iI (by omega) (by omega) (by omega)
            simp only [if_neg qz, ni, nj]
            rw [(h7 i (by omega)).1]
            exact ⟨⟨p7, vk, vk, vin_iI (by omega) (by omega) (by omega), trivial⟩, ⟨p8, vk, vj, trivial⟩, rfl, h.up (by omega)⟩
          · have qz := b2i_0.mpr (fun u => d3 (cz.mp u))
            simp only [if_pos qz]
            exact ⟨⟨p7, vk, trivial⟩, ⟨p8, vk, trivial⟩, rfl, h.up (by omega)⟩
        · simp only [if_neg d1, if_neg d2, if_neg f3, if_neg f4]
          exact ⟨⟨p7, trivial⟩, ⟨p8, trivial⟩, rfl, h.up (by omega)⟩
    · have q8 := b2i_0.mpr (fun u => c (c8.mp u))
      obtain ⟨p7, r7⟩ := c_refusal_no (M := M) x1 x2 c (iI y)
      simp only [if_pos qy, if_pos q8, r7, if_neg f6]
      exact ⟨⟨p7, trivial⟩, trivial, rfl, h.up (by omega)⟩
  · have qy : ¬ ¬ b2i (0 ≤ iI y ∧ iI y ≤ 3) = 0 := not_not_intro (b2i_0.mpr (fun u => c2 (cy.mp u)))
    simp only [if_neg qy]
    refine ⟨trivial, ?_, ?_, h.up (by omega)⟩
    · split <;> trivial
    · split <;> rfl
theorem RelH.wr (h : RelH M) {k i : Nat} (hk : k < 4) (hi : i < 40) (x : Int32) : RelH (wl (wl M (534 + k) i x.toInt64) 622 (40 * k + i) x.toInt64) := by
  intro k' hk'
  obtain ⟨a, b, c⟩ := h k' hk'
  refine ⟨a, fun j hj => ?_, c⟩
  have e1 : (wl (wl M (534 + k) i x.toInt64) 622 (40 * k + i) x.toInt64).2 (534 + k') j = if k' = k ∧ j = i then x.toInt64 else M.2 (534 + k') j := by
    rw [wl_2, if_neg (by omega), wl_2]
    by_cases q : k' = k ∧ j = i
    · rw [if_pos (by omega), if_pos q]
    · rw [if_neg (by omega), if_neg q]
  have e2 : (wl (wl M (534 + k) i x.toInt64) 622 (40 * k + i) x.toInt64).2 622 (40 * k' + j) = if k' = k ∧ j = i then x.toInt64 else M.2 622 (40 * k' + j) := by
    rw [wl_2]
    by_cases q : k' = k ∧ j = i
    · rw [if_pos (by omega), if_pos q]
    · rw [if_neg (by omega), if_neg q, wl_2, if_neg (by omega)]
  rw [e1, e2]
  by_cases q : k' = k ∧ j = i
  · rw [if_pos q, if_pos q]
    exact ⟨rfl, x, rfl⟩
  · rw [if_neg q, if_neg q]
    exact b j hj
theorem narrowed_x (M : Mm) (a b : Int32) : w_X1_narrowed M a b = M ∧ ∃ x : Int32, r_X1_narrowed M a b = x.toInt64 := by
  refine ⟨by unfold w_X1_narrowed; simp only [ite_self], ?_⟩
  unfold r_X1_narrowed
  split
  · exact ⟨_, rfl⟩
  · split
    · exact ⟨_, rfl⟩
    · exact ⟨_, rfl⟩
theorem pair_write (h : Rel M n) (hn : n < 64) (a1 a2 a3 : Int32) : PairI (p_X7_write M a1 a2 a3) (p_X8_write (w_X7_write M a1 a2 a3) a1 a2 a3) (r_X7_write M a1 a2 a3) (r_X8_write (w_X7_write M a1 a2 a3) a1 a2 a3) (w_X8_write (w_X7_write M a1 a2 a3) a1 a2 a3) n := by
  obtain ⟨x, rfl, x1, x2⟩ := ex_iI a1
  obtain ⟨z, rfl, z1, z2⟩ := ex_iI a2
  have hH := h.2.2.2.2.1
  have c7 : (0 ≤ iI x ∧ iI x < 4) ↔ (0 ≤ x ∧ x ≤ 3) := by rw [cl0, cl4, iI_le (by omega) (by omega) (by omega) (by omega), iI_lt (by omega) (by omega) (by omega) (by omega)]; omega
  have c8 : (0 ≤ iI x ∧ iI x ≤ 3) ↔ (0 ≤ x ∧ x ≤ 3) := by rw [cl0, cl3]; exact wb x1 x2 (by omega) (by omega) (by omega) (by omega)
  unfold p_X7_write p_X8_write r_X7_write r_X8_write w_X8_write w_X7_write
  by_cases c : 0 ≤ x ∧ x ≤ 3
  · obtain ⟨k, rfl⟩ : ∃ k : Nat, x = (k : Int) := ⟨x.toNat, by omega⟩
    have q7 := b2i_1.mpr (c7.mpr c)
    have q8 := b2i_1.mpr (c8.mpr c)
    have nk : Int32.toNatClampNeg (iI (k : Int)) = k := natk rfl (by omega)
    have vk : vp_in (iI (k : Int)) 4 := vin_iI (by omega) (by omega) (by omega)
    obtain ⟨⟨so, sz, h1, h2, h3, h4, h5, h6⟩, h7, -⟩ := hH k (by omega)
    have e1 : (iI so = -1) ↔ (so = -1) := by rw [cm1, iI_eq (by omega) (by omega) (by omega) (by omega)]
    have e2 : (0 ≤ iI so) ↔ (0 ≤ so) := by rw [cl0, iI_le (by omega) (by omega) (by omega) (by omega)]
    simp only [if_pos q7, if_pos q8, nk, h3, h5]
    by_cases d1 : so = -1
    · have g1 := not_not_intro (e1.mpr d1)
      simp only [if_neg g1, h4, if_neg (show ¬ 0 ≤ iI so from fun u => by have := e2.mp u; omega)]
      exact ⟨⟨vk, trivial⟩, ⟨vk, trivial⟩, rfl, h.up (by omega)⟩
    · have g1 : ¬ iI so = -1 := fun u => d1 (e1.mp u)
      have g2 : 0 ≤ iI so := e2.mpr (by omega)
      have cz : (0 ≤ iI z ∧ iI z ≤ iI sz - 1) ↔ (0 ≤ z ∧ z ≤ sz - 1) := by rw [cl0, cl1, iI_sub]; exact wb z1 z2 (by omega) (by omega) (by omega) (by omega)
      simp only [if_pos g1]
      by_cases d3 : 0 ≤ z ∧ z ≤ sz - 1
      · have qz := b2i_1.mpr (cz.mpr d3)
        obtain ⟨i, rfl⟩ : ∃ i : Nat, z = (i : Int) := ⟨z.toNat, by omega⟩
        have ni : Int32.toNatClampNeg (iI (i : Int)) = i := natk rfl (by omega)
        have nj : Int32.toNatClampNeg (40 * iI (k : Int) + iI (i : Int)) = 40 * k + i := by rw [cl40, iI_mul, iI_add]; exact natk (by omega) (by omega)
        have vj : vp_in (40 * iI (k : Int) + iI (i : Int)) 160 := by rw [cl40, iI_mul, iI_add]; exact vin_iI (by omega) (by omega) (by omega)
        obtain ⟨n1, xx, n2⟩ := narrowed_x M (iI so) a3
        simp only [if_pos qz, n1, n2, wl_1, h4, h6, if_pos g2, ni, nj]
        refine ⟨⟨vk, vk, vk, vk, vin_iI (by omega) (by omega) (by omega), trivial⟩, ⟨vk, vk, vk, ?_⟩, rfl, ?_⟩
        · split
          · refine ⟨vk, ?_⟩
            split <;> exact ⟨vj, trivial⟩
          · exact ⟨vj, trivial⟩
        · have ew : (if ¬ iI so = 0 then if ¬ iI so = 1 then wl (wl M (534 + k) i xx.toInt64) 622 (40 * k + i) (Int32.toInt64 a3) else wl (wl M (534 + k) i xx.toInt64) 622 (40 * k + i) (Int32.toInt64 (Int16.toInt32 (Int32.toInt16 a3))) else wl (wl M (534 + k) i xx.toInt64) 622 (40 * k + i) (Int32.toInt64 (Int8.toInt32 (Int32.toInt8 a3)))) = wl (wl M (534 + k) i xx.toInt64) 622 (40 * k + i) xx.toInt64 := by
            rw [← n2]
            unfold r_X1_narrowed
            by_cases s0 : iI so = 0
            · rw [if_neg (not_not_intro s0), if_pos s0]
            · rw [if_pos s0, if_neg s0]
              by_cases s1 : iI so = 1
              · rw [if_neg (not_not_intro s1), if_pos s1]
              · rw [if_pos s1, if_neg s1]
          rw [ew]
          have F : Fp (fun a k => 534 ≤ a ∧ a ≤ 537 ∨ a = 622) M (wl (wl M (534 + k) i xx.toInt64) 622 (40 * k + i) xx.toInt64) := Fp.wl (Fp.wl Fp.rf (by omega)) (by omega)
          exact h.of (by omega) F (Or.inl fun a k h => by omega) (Or.inl fun a k h => by omega) (Or.inl fun a k h => by omega) (Or.inl fun a k h => by omega) (Or.inr (hH.wr (by omega) (by omega) xx)) (Or.inl fun a k h => by omega) (Or.inl fun a k h => by omega) (fun a k h => by omega)
      · have qz : ¬ ¬ b2i (0 ≤ iI z ∧ iI z ≤ iI sz - 1) = 0 := not_not_intro (b2i_0.mpr (fun u => d3 (cz.mp u)))
        simp only [if_neg qz, h4, h6, if_pos g2]
        exact ⟨⟨vk, vk, trivial⟩, ⟨vk, vk, trivial⟩, rfl, h.up (by omega)⟩
  · have q7 : ¬ ¬ b2i (0 ≤ iI x ∧ iI x < 4) = 0 := not_not_intro (b2i_0.mpr (fun u => c (c7.mp u)))
    have q8 : ¬ ¬ b2i (0 ≤ iI x ∧ iI x ≤ 3) = 0 := not_not_intro (b2i_0.mpr (fun u => c (c8.mp u)))
    simp only [if_neg q7, if_neg q8]
    exact ⟨trivial, trivial, rfl, h.up (by omega)⟩
end P41
