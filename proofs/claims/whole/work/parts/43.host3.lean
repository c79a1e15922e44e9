/-! the host: shelf, taken -/
section P43
variable {M : Mm} {n : Nat}
theorem Rel.lay (h : Rel M n) (hn : n < 64) {k : Nat} (hk : k < 4) {ho : Int} (h0 : 0 ≤ ho ∧ ho ≤ 2) {vh nI le hv : Int32} (eh : vh = iI ho) (ehv : hv = iI (if ho = 2 then -1 else ho)) (hnu : ho < 2 → ∃ nu : Int, nI = iI nu ∧ 0 ≤ nu ∧ nu ≤ 3) : Rel (wi (wi (wi (wi (wi (wi M 538 k vh) 539 k nI) 540 k le) 623 k hv) 624 k nI) 625 k le) (n + 1) := by
  obtain ⟨M2, hM2⟩ : ∃ M2, M2 = wi (wi (wi (wi (wi (wi M 538 k vh) 539 k nI) 540 k le) 623 k hv) 624 k nI) 625 k le := ⟨_, rfl⟩
  rw [← hM2]
  have F : Fp (fun a k => (538 ≤ a ∧ a ≤ 540) ∨ (623 ≤ a ∧ a ≤ 625)) M M2 := by rw [hM2]; exact Fp.wi (Fp.wi (Fp.wi (Fp.wi (Fp.wi (Fp.wi Fp.rf (by omega)) (by omega)) (by omega)) (by omega)) (by omega)) (by omega)
  have e1 : ∀ a j, M2.1 a j = if a = 625 ∧ j = k then le else if a = 624 ∧ j = k then nI else if a = 623 ∧ j = k then hv else if a = 540 ∧ j = k then le else if a = 539 ∧ j = k then nI else if a = 538 ∧ j = k then vh else M.1 a j := fun a j => by rw [hM2]; rfl
  have hH := h.2.2.2.2.1
  refine h.of (by omega) F (Or.inl fun a k h => by omega) (Or.inl fun a k h => by omega) (Or.inl fun a k h => by omega) (Or.inl fun a k h => by omega) (Or.inr ?_) (Or.inl fun a k h => by omega) (Or.inl fun a k h => by omega) (fun a k h => by omega)
  intro k' hk'
  obtain ⟨⟨so', sz', h1, h2, h3, h4, h5, h6⟩, h7, ⟨ho', nu', i1, i2, i3, i4, i5, i6⟩⟩ := hH k' hk'
  refine ⟨⟨so', sz', h1, h2, ?_, ?_, ?_, ?_⟩, fun i hi => ?_, ?_⟩
  · rw [(F _ _ (by omega)).1]; exact h3
  · rw [(F _ _ (by omega)).1]; exact h4
  · rw [(F _ _ (by omega)).1]; exact h5
  · rw [(F _ _ (by omega)).1]; exact h6
  · rw [(F (534 + k') _ (by omega)).2, (F 622 _ (by omega)).2]; exact h7 i hi
  · by_cases q : k' = k
    · have a1 : M2.1 538 k' = vh := by rw [e1, if_neg (by omega), if_neg (by omega), if_neg (by omega), if_neg (by omega), if_neg (by omega), if_pos (by omega)]
      have a2 : M2.1 539 k' = nI := by rw [e1, if_neg (by omega), if_neg (by omega), if_neg (by omega), if_neg (by omega), if_pos (by omega)]
      have a3 : M2.1 540 k' = le := by rw [e1, if_neg (by omega), if_neg (by omega), if_neg (by omega), if_pos (by omega)]
      have a4 : M2.1 623 k' = hv := by rw [e1, if_neg (by omega), if_neg (by omega), if_pos (by omega)]
      have a5 : M2.1 624 k' = nI := by rw [e1, if_neg (by omega), if_pos (by omega)]
      have a6 : M2.1 625 k' = le := by rw [e1, if_pos (by omega)]
      rw [a1, a2, a3, a4, a5, a6]
      by_cases q2 : ho < 2
      · obtain ⟨nu, u1, u2⟩ := hnu q2
        exact ⟨ho, nu, h0, eh, ehv, rfl, rfl, fun _ => ⟨u1, u2⟩⟩
      · exact ⟨ho, 0, h0, eh, ehv, rfl, rfl, fun z => absurd z q2⟩
    · have a : ∀ a, M2.1 a k' = M.1 a k' := fun a => by rw [e1, if_neg (by omega), if_neg (by omega), if_neg (by omega), if_neg (by omega), if_neg (by omega), if_neg (by omega)]
      rw [a, a, a, a, a, a]
      exact ⟨ho', nu', i1, i2, i3, i4, i5, i6⟩
theorem pair_shelf (h : Rel M n) (hn : n < 64) (a1 a2 a3 : Int32) : PairI (p_X7_shelf M a1 a2 a3) (p_X8_shelf (w_X7_shelf M a1 a2 a3) a1 a2 a3) (r_X7_shelf M a1 a2 a3) (r_X8_shelf (w_X7_shelf M a1 a2 a3) a1 a2 a3) (w_X8_shelf (w_X7_shelf M a1 a2 a3) a1 a2 a3) n := by
  obtain ⟨x, rfl, x1, x2⟩ := ex_iI a1
  obtain ⟨y, rfl, y1, y2⟩ := ex_iI a2
  obtain ⟨z, rfl, z1, z2⟩ := ex_iI a3
  obtain ⟨T, S, g, ⟨-, -, -, c4⟩, ⟨-, -, -, -, r5⟩, -, i2, -⟩ := h.1
  have hH := h.2.2.2.2.1
  have hR := i2.1
  have c7 : (0 ≤ iI x ∧ iI x < 4) ↔ (0 ≤ x ∧ x ≤ 3) := by rw [cl0, cl4, iI_le (by omega) (by omega) (by omega) (by omega), iI_lt (by omega) (by omega) (by omega) (by omega)]; omega
  have c8 : (0 ≤ iI x ∧ iI x ≤ 3) ↔ (0 ≤ x ∧ x ≤ 3) := by rw [cl0, cl3]; exact wb x1 x2 (by omega) (by omega) (by omega) (by omega)
  have cy : (0 ≤ iI y ∧ iI y ≤ 2) ↔ (0 ≤ y ∧ y ≤ 2) := by rw [cl0, cl2]; exact wb y1 y2 (by omega) (by omega) (by omega) (by omega)
  have d7 : (0 ≤ iI z ∧ iI z < 4) ↔ (0 ≤ z ∧ z ≤ 3) := by rw [cl0, cl4, iI_le (by omega) (by omega) (by omega) (by omega), iI_lt (by omega) (by omega) (by omega) (by omega)]; omega
  have d8 : (0 ≤ iI z ∧ iI z ≤ 3) ↔ (0 ≤ z ∧ z ≤ 3) := by rw [cl0, cl3]; exact wb z1 z2 (by omega) (by omega) (by omega) (by omega)
  have u7 : (0 ≤ iI z ∧ iI z < M.1 100 3) ↔ (0 ≤ z ∧ z < T 0 3) := by rw [c4.1, cl0, iI_le (by omega) (by omega) (by omega) (by omega), iI_lt (by omega) (by omega) (by omega) (by omega)]
  have u8 : (0 ≤ iI z ∧ iI z ≤ M.1 600 12 - 1) ↔ (0 ≤ z ∧ z < T 0 3) := by rw [r5.1, cl0, cl1, iI_sub, iI_le (by omega) (by omega) (by omega) (by omega), iI_le (by omega) (by omega) (by omega) (by omega)]; omega
  have y0 : (iI y = 0) ↔ y = 0 := by rw [cl0, iI_eq (by omega) (by omega) (by omega) (by omega)]
  have yy1 : (iI y = 1) ↔ y = 1 := by rw [cl1, iI_eq (by omega) (by omega) (by omega) (by omega)]
  have yy2 : (iI y = 2) ↔ y = 2 := by rw [cl2, iI_eq (by omega) (by omega) (by omega) (by omega)]
  unfold p_X7_shelf p_X8_shelf r_X7_shelf r_X8_shelf w_X8_shelf w_X7_shelf p_X1_layOn w_X1_layOn r_X8_isHeld
  by_cases c : 0 ≤ x ∧ x ≤ 3
  · obtain ⟨k, rfl⟩ : ∃ k : Nat, x = (k : Int) := ⟨x.toNat, by omega⟩
    have q7 := b2i_1.mpr (c7.mpr c)
    have q8 := b2i_1.mpr (c8.mpr c)
    have nk : Int32.toNatClampNeg (iI (k : Int)) = k := natk rfl (by omega)
    have vk : vp_in (iI (k : Int)) 4 := vin_iI (by omega) (by omega) (by omega)
    by_cases d : 0 ≤ y ∧ y ≤ 2
    · have qy := b2i_1.mpr (cy.mpr d)
      by_cases e0 : y = 0
      · have g0 := y0.mpr e0
        have g1 : ¬ iI y = 1 := fun u => by have := yy1.mp u; omega
        have g2 : ¬ iI y = 2 := fun u => by have := yy2.mp u; omega
        by_cases r : 0 ≤ z ∧ z < T 0 3
        · have v7 := b2i_1.mpr (u7.mpr r)
          have v8 := b2i_1.mpr (u8.mpr r)
          have e12 : (wi (wi (wi M 538 k (iI y)) 539 k (iI z)) 540 k 0).1 600 12 = M.1 600 12 := by rw [rd_ne (Or.inl (by omega)), rd_ne (Or.inl (by omega)), rd_ne (Or.inl (by omega))]
          simp only [if_neg q7, if_pos qy, if_neg (not_not_intro g0), if_neg v7, if_pos g1, if_neg q8, nk, e12, if_pos v8, if_neg g2]
          exact ⟨⟨⟨vk, vk, vk, trivial⟩, trivial⟩, ⟨vk, vk, vk, trivial⟩, rfl, h.lay hn (by omega) (ho := 0) (by omega) (by rw [e0]) (by rw [e0]; rfl) (fun _ => ⟨z, rfl, by omega, by omega⟩)⟩
        · have v7 := b2i_0.mpr (fun u => r (u7.mp u))
          have v8 := b2i_0.mpr (fun u => r (u8.mp u))
          simp only [if_neg q7, if_pos qy, if_neg (not_not_intro g0), if_pos v7, if_neg q8, if_neg (not_not_intro v8)]
          exact ⟨trivial, trivial, rfl, h.up (by omega)⟩
      · have g0 : ¬ iI y = 0 := fun u => e0 (y0.mp u)
        by_cases e1 : y = 1
        · have g1 := yy1.mpr e1
          have g2 : ¬ iI y = 2 := fun u => by have := yy2.mp u; omega
          by_cases r : 0 ≤ z ∧ z ≤ 3
          · have v7 := b2i_1.mpr (d7.mpr r)
            have v8 := b2i_1.mpr (d8.mpr r)
            obtain ⟨j, rfl⟩ : ∃ j : Nat, z = (j : Int) := ⟨z.toNat, by omega⟩
            have nj : Int32.toNatClampNeg (iI (j : Int)) = j := natk rfl (by omega)
            have vj : vp_in (iI (j : Int)) 4 := vin_iI (by omega) (by omega) (by omega)
            obtain ⟨⟨so, sz, h1, h2, h3, h4, h5, h6⟩, -, -⟩ := hH j (by omega)
            have e3 : (iI so = -1) ↔ (so = -1) := by rw [cm1, iI_eq (by omega) (by omega) (by omega) (by omega)]
            have e4 : (0 ≤ iI so) ↔ (0 ≤ so) := by rw [cl0, iI_le (by omega) (by omega) (by omega) (by omega)]
            by_cases d1 : so = -1
            · have k1 := not_not_intro (e3.mpr d1)
              have k2 : ¬ 0 ≤ iI so := fun u => by have := e4.mp u; omega
              have e20 : (wi (wi (wi M 538 k 2) 539 k (iI so)) 540 k (iI sz)).1 620 j = iI so := by rw [rd_ne (Or.inl (by omega)), rd_ne (Or.inl (by omega)), rd_ne (Or.inl (by omega))]; exact h4
              have e21 : (wi (wi (wi M 538 k 2) 539 k (iI so)) 540 k (iI sz)).1 621 j = iI sz := by rw [rd_ne (Or.inl (by omega)), rd_ne (Or.inl (by omega)), rd_ne (Or.inl (by omega))]; exact h6
              simp only [if_neg q7, if_pos qy, if_pos g0, if_neg (not_not_intro g1), if_pos v7, if_neg q8, if_pos v8, nk, nj, h3, h5, if_neg k1, e20, e21, if_neg k2, if_neg g2]
              exact ⟨⟨⟨vj, vk, vj, vk, vj, vk, trivial⟩, trivial⟩, ⟨vj, vk, vj, vk, vj, vk, trivial⟩, rfl, h.lay hn (by omega) (ho := 2) (by omega) (by decide) (by decide) (fun u => absurd u (by omega))⟩
            · have k1 : ¬ iI so = -1 := fun u => d1 (e3.mp u)
              have k2 : 0 ≤ iI so := e4.mpr (by omega)
              have e20 : (wi (wi (wi M 538 k (iI y)) 539 k (iI so)) 540 k (iI sz)).1 620 j = iI so := by rw [rd_ne (Or.inl (by omega)), rd_ne (Or.inl (by omega)), rd_ne (Or.inl (by omega))]; exact h4
              have e21 : (wi (wi (wi M 538 k (iI y)) 539 k (iI so)) 540 k (iI sz)).1 621 j = iI sz := by rw [rd_ne (Or.inl (by omega)), rd_ne (Or.inl (by omega)), rd_ne (Or.inl (by omega))]; exact h6
              simp only [if_neg q7, if_pos qy, if_pos g0, if_neg (not_not_intro g1), if_pos v7, if_neg q8, if_pos v8, nk, nj, h3, h5, if_pos k1, e20, e21, if_pos k2, if_neg g2]
              exact ⟨⟨⟨vj, vk, vj, vk, vj, vk, trivial⟩, trivial⟩, ⟨vj, vk, vj, vk, vj, vk, trivial⟩, rfl, h.lay hn (by omega) (ho := 1) (by omega) (by rw [e1]) (by rw [e1]; rfl) (fun _ => ⟨so, rfl, by omega, by omega⟩)⟩
          · have v7 : ¬ ¬ b2i (0 ≤ iI z ∧ iI z < 4) = 0 := not_not_intro (b2i_0.mpr (fun u => r (d7.mp u)))
            have v8 : ¬ ¬ b2i (0 ≤ iI z ∧ iI z ≤ 3) = 0 := not_not_intro (b2i_0.mpr (fun u => r (d8.mp u)))
            simp only [if_neg q7, if_pos qy, if_pos g0, if_neg (not_not_intro g1), if_neg v7, if_neg q8, if_neg v8]
            exact ⟨trivial, trivial, rfl, h.up (by omega)⟩
        · have e2 : y = 2 := by omega
          have g1 : ¬ iI y = 1 := fun u => e1 (yy1.mp u)
          have g2 := yy2.mpr e2
          simp only [if_neg q7, if_pos qy, if_pos g0, if_pos g1, if_neg q8, if_neg (not_not_intro g2), if_pos (show ¬ (1 : Int32) = 0 by decide), if_pos g2, nk]
          exact ⟨⟨⟨vk, vk, vk, trivial⟩, trivial⟩, ⟨vk, vk, vk, trivial⟩, rfl, h.lay hn (by omega) (ho := 2) (by omega) (by rw [e2]) (by decide) (fun u => absurd u (by omega))⟩
    · have qy : ¬ ¬ b2i (0 ≤ iI y ∧ iI y ≤ 2) = 0 := not_not_intro (b2i_0.mpr (fun u => d (cy.mp u)))
      have g0 : ¬ iI y = 0 := fun u => by have := y0.mp u; omega
      have g1 : ¬ iI y = 1 := fun u => by have := yy1.mp u; omega
      have g2 : ¬ iI y = 2 := fun u => by have := yy2.mp u; omega
      simp only [if_neg q7, if_neg qy, if_neg q8, if_pos g0, if_pos g1, if_pos g2, if_neg (show ¬ ¬ (0 : Int32) = 0 by decide)]
      exact ⟨trivial, trivial, rfl, h.up (by omega)⟩
  · have q7 := b2i_0.mpr (fun u => c (c7.mp u))
    have q8 := b2i_0.mpr (fun u => c (c8.mp u))
    simp only [if_pos q7, if_pos q8]
    exact ⟨trivial, trivial, rfl, h.up (by omega)⟩
/-- what a shelf holds now -/
theorem holds_v (h : Rel M n) {k : Nat} (hk : k < 4) : p_X7_holdsNow M (iI (k : Int)) ∧ p_X8_kindOn M (iI (k : Int)) ∧ M.1 539 k = M.1 624 k ∧ M.1 540 k = M.1 625 k ∧
    ((r_X7_holdsNow M (iI (k : Int)) = 2 ∧ r_X8_kindOn M (iI (k : Int)) = -1) ∨
     (r_X7_holdsNow M (iI (k : Int)) = 1 ∧ r_X8_kindOn M (iI (k : Int)) = 9 ∧ ∃ nu : Int, M.1 539 k = iI nu ∧ 0 ≤ nu ∧ nu ≤ 3) ∨
     (r_X7_holdsNow M (iI (k : Int)) = 0 ∧ ∃ nu ki a : Int, (M.1 539 k = iI nu ∧ 0 ≤ nu ∧ nu ≤ 3) ∧ (1 ≤ ki ∧ ki ≤ 5) ∧ (0 ≤ a ∧ a ≤ 9) ∧ r_X8_kindOn M (iI (k : Int)) = iI ki ∧ (M.1 105 nu.toNat = iI ki ∧ M.1 106 nu.toNat = iI a) ∧ M.1 608 (2 * nu.toNat + 1) = iI a)) := by
  obtain ⟨T, S, g, ⟨-, -, -, c4⟩, ⟨-, -, -, -, r5⟩, -, i2, -⟩ := h.1
  have hR := i2.1
  obtain ⟨-, -, ⟨ho, nu, i1, i2', i3, i4, i5, i6⟩⟩ := h.2.2.2.2.1 k hk
  have nk : Int32.toNatClampNeg (iI (k : Int)) = k := natk rfl (by omega)
  have vk : vp_in (iI (k : Int)) 4 := vin_iI (by omega) (by omega) (by omega)
  unfold p_X7_holdsNow p_X8_kindOn r_X7_holdsNow r_X8_kindOn
  rw [nk, i2', i3, ← i4, ← i5]
  by_cases c0 : ho = 0
  · obtain ⟨j1, j2, j3⟩ := i6 (by omega)
    have e0 : iI ho = 0 := by rw [c0]; decide
    have e1 : iI (if ho = 2 then -1 else ho) = 0 := by rw [c0]; decide
    rw [j1, c4.1, r5.1]
    have u7 : (0 ≤ iI nu ∧ iI nu < iI (T 0 3)) ↔ (0 ≤ nu ∧ nu < T 0 3) := by rw [cl0, iI_le (by omega) (by omega) (by omega) (by omega), iI_lt (by omega) (by omega) (by omega) (by omega)]
    have u8 : (0 ≤ iI nu ∧ iI nu ≤ iI (T 0 3) - 1) ↔ (0 ≤ nu ∧ nu < T 0 3) := by rw [cl0, cl1, iI_sub, iI_le (by omega) (by omega) (by omega) (by omega), iI_le (by omega) (by omega) (by omega) (by omega)]; omega
    by_cases r : nu < T 0 3
    · have v7 := b2i_1.mpr (u7.mpr ⟨j2, r⟩)
      have v8 := b2i_1.mpr (u8.mpr ⟨j2, r⟩)
      have n2 : Int32.toNatClampNeg (2 * iI nu) = 2 * nu.toNat := by rw [cl2, iI_mul]; exact natk (by omega) (by omega)
      have w2 : vp_in (2 * iI nu) 8 := by rw [cl2, iI_mul]; exact vin_iI (by omega) (by omega) (by omega)
      have t1 := r5.2 nu j2 r
      have t2 := c4.2 nu j2 r
      have t3 := i2.2 nu j2 r
      refine ⟨⟨vk, ?_⟩, ⟨vk, ?_⟩, rfl, rfl, Or.inr (Or.inr ⟨?_, nu, T 4 nu.toNat, T 5 nu.toNat, ⟨rfl, j2, j3⟩, t3.1, t3.2, ?_, t2, t1.2⟩)⟩
      · rw [if_neg (not_not_intro e0), if_pos v7]; exact ⟨vk, vk, trivial⟩
      · rw [if_pos e1, if_neg v8]; exact ⟨vk, vk, w2, trivial⟩
      · rw [if_neg (not_not_intro e0), if_pos v7]; exact e0
      · rw [if_pos e1, if_neg v8, n2]; exact t1.1
    · have v7 : ¬ ¬ b2i (0 ≤ iI nu ∧ iI nu < iI (T 0 3)) = 0 := not_not_intro (b2i_0.mpr (fun u => r (u7.mp u).2))
      have v8 := b2i_0.mpr (fun u => r (u8.mp u).2)
      refine ⟨⟨vk, ?_⟩, ⟨vk, ?_⟩, rfl, rfl, Or.inl ⟨?_, ?_⟩⟩
      · rw [if_neg (not_not_intro e0), if_neg v7]; exact ⟨vk, trivial⟩
      · rw [if_pos e1, if_pos v8]; exact ⟨vk, trivial⟩
      · rw [if_neg (not_not_intro e0), if_neg v7]
      · rw [if_pos e1, if_pos v8]
  · by_cases c1 : ho = 1
    · obtain ⟨j1, j2, j3⟩ := i6 (by omega)
      have e0 : ¬ iI ho = 0 := by rw [c1]; decide
      have e1 : ¬ iI (if ho = 2 then -1 else ho) = 0 := by rw [c1]; decide
      have e2 : 0 ≤ iI (if ho = 2 then -1 else ho) := by rw [c1]; decide
      refine ⟨⟨vk, ?_⟩, ⟨vk, ?_⟩, rfl, rfl, Or.inr (Or.inl ⟨?_, ?_, nu, j1, j2, j3⟩)⟩
      · rw [if_pos e0]; exact ⟨vk, trivial⟩
      · rw [if_neg e1, if_pos e2]; exact ⟨vk, trivial⟩
      · rw [if_pos e0, c1]; decide
      · rw [if_neg e1, if_pos e2]
    · have c2 : ho = 2 := by omega
      have e0 : ¬ iI ho = 0 := by rw [c2]; decide
      have e1 : ¬ iI (if ho = 2 then -1 else ho) = 0 := by rw [c2]; decide
      have e2 : ¬ 0 ≤ iI (if ho = 2 then -1 else ho) := by rw [c2]; decide
      refine ⟨⟨vk, ?_⟩, ⟨vk, ?_⟩, rfl, rfl, Or.inl ⟨?_, ?_⟩⟩
      · rw [if_pos e0]; exact ⟨vk, trivial⟩
      · rw [if_neg e1, if_neg e2]; exact ⟨vk, trivial⟩
      · rw [if_pos e0, c2]; decide
      · rw [if_neg e1, if_neg e2]
theorem under_iff {a b : Int32} : (a = b ∨ b = 0 ∨ (a = 3 ∧ b = 2) ∨ (a = 4 ∧ b = 1)) ↔ (b = 0 ∨ b = a ∨ (b = 2 ∧ a = 3) ∨ (b = 1 ∧ a = 4)) := by
  constructor
  · rintro (u | u | ⟨u, v⟩ | ⟨u, v⟩)
    · exact Or.inr (Or.inl u.symm)
    · exact Or.inl u
    · exact Or.inr (Or.inr (Or.inl ⟨v, u⟩))
    · exact Or.inr (Or.inr (Or.inr ⟨v, u⟩))
  · rintro (u | u | ⟨u, v⟩ | ⟨u, v⟩)
    · exact Or.inr (Or.inl u)
    · exact Or.inl u.symm
    · exact Or.inr (Or.inr (Or.inl ⟨v, u⟩))
    · exact Or.inr (Or.inr (Or.inr ⟨v, u⟩))
theorem pair_taken (h : Rel M n) (hn : n < 64) (a1 a2 : Int32) : PairI (p_X7_taken M a1 a2) (p_X8_taken M a1 a2) (r_X7_taken M a1 a2) (r_X8_taken M a1 a2) M n := by
  obtain ⟨x, rfl, x1, x2⟩ := ex_iI a1
  obtain ⟨y, rfl, y1, y2⟩ := ex_iI a2
  have c7 : (0 ≤ iI x ∧ iI x < 4) ↔ (0 ≤ x ∧ x ≤ 3) := by rw [cl0, cl4, iI_le (by omega) (by omega) (by omega) (by omega), iI_lt (by omega) (by omega) (by omega) (by omega)]; omega
  have c8 : (0 ≤ iI x ∧ iI x ≤ 3) ↔ (0 ≤ x ∧ x ≤ 3) := by rw [cl0, cl3]; exact wb x1 x2 (by omega) (by omega) (by omega) (by omega)
  have ca : (0 ≤ iI y ∧ iI y ≤ 5) ↔ (0 ≤ y ∧ y ≤ 5) := by rw [cl0, cl5]; exact wb y1 y2 (by omega) (by omega) (by omega) (by omega)
  have cb : (10 ≤ iI y ∧ iI y ≤ 13) ↔ (10 ≤ y ∧ y ≤ 13) := by rw [cl10, cl13]; exact wb y1 y2 (by omega) (by omega) (by omega) (by omega)
  have ct : (10 ≤ iI y) ↔ 10 ≤ y := by rw [cl10, iI_le (by omega) (by omega) (by omega) (by omega)]
  unfold p_X7_taken p_X8_taken r_X7_taken r_X8_taken
  by_cases c : 0 ≤ x ∧ x ≤ 3
  · obtain ⟨k, rfl⟩ : ∃ k : Nat, x = (k : Int) := ⟨x.toNat, by omega⟩
    have q7 := b2i_1.mpr (c7.mpr c)
    have q8 := b2i_1.mpr (c8.mpr c)
    have nk : Int32.toNatClampNeg (iI (k : Int)) = k := natk rfl (by omega)
    have vk : vp_in (iI (k : Int)) 4 := vin_iI (by omega) (by omega) (by omega)
    obtain ⟨p7, p8, s1, s2, hv⟩ := holds_v h (k := k) (by omega)
    simp only [if_neg q7, if_neg q8, nk, ← s1, ← s2]
    by_cases d : 0 ≤ y ∧ y ≤ 5
    · have qa := b2i_1.mpr (ca.mpr d)
      have qb : ¬ ¬ b2i (10 ≤ iI y ∧ iI y ≤ 13) = 0 := not_not_intro (b2i_0.mpr (fun u => by have := cb.mp u; omega))
      have qt : ¬ 10 ≤ iI y := fun u => by have := ct.mp u; omega
      simp only [if_pos qa, if_neg qb, if_neg qt]
      rcases hv with ⟨v1, v2⟩ | ⟨v1, v2, nu, v3, v4, v5⟩ | ⟨v1, nu, ki, a, ⟨v2, v3, v4⟩, v5, v6, v7, v8, v9⟩
      · simp only [v1, v2, if_neg (show ¬ ¬ (2 : Int32) = 2 by decide), if_neg (show ¬ (0 : Int32) ≤ -1 by decide)]
        exact ⟨⟨p7, trivial⟩, ⟨p8, trivial⟩, rfl, h.up (by omega)⟩
      · have ne : ¬ iI y = 10 + iI nu := by rw [cl10, iI_add, iI_eq (by omega) (by omega) (by omega) (by omega)]; omega
        simp only [v1, v2, v3, if_pos (show ¬ (1 : Int32) = 2 by decide), if_neg (show ¬ ¬ (1 : Int32) = 1 by decide), if_pos (show (0 : Int32) ≤ 9 by decide), if_neg (show ¬ ¬ (9 : Int32) = 9 by decide), if_pos ne]
        exact ⟨⟨p7, vk, trivial⟩, ⟨p8, vk, trivial⟩, rfl, h.up (by omega)⟩
      · have w1 : 0 ≤ iI ki := by rw [cl0, iI_le (by omega) (by omega) (by omega) (by omega)]; omega
        have w2 : ¬ iI ki = 9 := by rw [cl9, iI_eq (by omega) (by omega) (by omega) (by omega)]; omega
        have nn : Int32.toNatClampNeg (iI nu) = nu.toNat := iI_nat (by omega) (by omega)
        have vn : vp_in (iI nu) 4 := vin_iI (by omega) (by omega) (by omega)
        have bc := b2i_congr (under_iff (a := iI ki) (b := iI y))
        simp only [v1, v2, v7, nn, v8.1, if_pos (show ¬ (0 : Int32) = 2 by decide), if_pos (show ¬ (0 : Int32) = 1 by decide), if_pos w1, if_pos w2, bc]
        refine ⟨⟨p7, vk, vn, ?_⟩, ⟨p8, ?_⟩, rfl, h.up (by omega)⟩
        · split <;> trivial
        · split
          · trivial
          · exact ⟨vk, trivial⟩
    · have qa : ¬ ¬ b2i (0 ≤ iI y ∧ iI y ≤ 5) = 0 := not_not_intro (b2i_0.mpr (fun u => d (ca.mp u)))
      by_cases e : 10 ≤ y ∧ y ≤ 13
      · have qb := b2i_1.mpr (cb.mpr e)
        have qt := ct.mpr e.1
        simp only [if_neg qa, if_pos qb, if_pos qt]
        rcases hv with ⟨v1, v2⟩ | ⟨v1, v2, nu, v3, v4, v5⟩ | ⟨v1, nu, ki, a, ⟨v2, v3, v4⟩, v5, v6, v7, v8, v9⟩
        · simp only [v1, v2, if_neg (show ¬ ¬ (2 : Int32) = 2 by decide), if_neg (show ¬ (0 : Int32) ≤ -1 by decide)]
          exact ⟨⟨p7, trivial⟩, ⟨p8, trivial⟩, rfl, h.up (by omega)⟩
        · have i7 : (iI nu = iI y - 10) ↔ (y = 10 + nu) := by rw [cl10, iI_sub, iI_eq (by omega) (by omega) (by omega) (by omega)]; omega
          have i8 : (iI y = 10 + iI nu) ↔ (y = 10 + nu) := by rw [cl10, iI_add, iI_eq (by omega) (by omega) (by omega) (by omega)]
          simp only [v1, v2, v3, if_pos (show ¬ (1 : Int32) = 2 by decide), if_neg (show ¬ ¬ (1 : Int32) = 1 by decide), if_pos (show (0 : Int32) ≤ 9 by decide), if_neg (show ¬ ¬ (9 : Int32) = 9 by decide)]
          by_cases f : y = 10 + nu
          · simp only [if_neg (not_not_intro (i7.mpr f)), if_neg (not_not_intro (i8.mpr f))]
            exact ⟨⟨p7, vk, vk, trivial⟩, ⟨p8, vk, vk, trivial⟩, rfl, h.up (by omega)⟩
          · have f7 : ¬ iI nu = iI y - 10 := fun u => f (i7.mp u)
            have f8 : ¬ iI y = 10 + iI nu := fun u => f (i8.mp u)
            simp only [if_pos f7, if_pos f8]
            exact ⟨⟨p7, vk, trivial⟩, ⟨p8, vk, trivial⟩, rfl, h.up (by omega)⟩
        · have w1 : 0 ≤ iI ki := by rw [cl0, iI_le (by omega) (by omega) (by omega) (by omega)]; omega
          have w2 : ¬ iI ki = 9 := by rw [cl9, iI_eq (by omega) (by omega) (by omega) (by omega)]; omega
          simp only [v1, v7, if_pos (show ¬ (0 : Int32) = 2 by decide), if_pos (show ¬ (0 : Int32) = 1 by decide), if_pos w1, if_pos w2]
          exact ⟨⟨p7, vk, trivial⟩, ⟨p8, trivial⟩, rfl, h.up (by omega)⟩
      · have qb : ¬ ¬ b2i (10 ≤ iI y ∧ iI y ≤ 13) = 0 := not_not_intro (b2i_0.mpr (fun u => e (cb.mp u)))
        simp only [if_neg qa, if_neg qb]
        exact ⟨trivial, trivial, rfl, h.up (by omega)⟩
  · have q7 := b2i_0.mpr (fun u => c (c7.mp u))
    have q8 := b2i_0.mpr (fun u => c (c8.mp u))
    simp only [if_pos q7, if_pos q8]
    exact ⟨trivial, trivial, rfl, h.up (by omega)⟩
end P43
