/-! mover, thing, rule, ruleOf, row, alterRow, trace -/
section P34
variable {M : Mm} {n : Nat}
theorem pair_mover (h : Rel M n) (hn : n < 64) (a1 a2 : Int32) : PairI (p_X7_mover M a1 a2) (p_X8_mover (w_X7_mover M a1 a2) a1 a2) (r_X7_mover M a1 a2) (r_X8_mover (w_X7_mover M a1 a2) a1 a2) (w_X8_mover (w_X7_mover M a1 a2) a1 a2) n := by
  obtain ⟨x, rfl, x1, x2⟩ := ex_iI a1
  obtain ⟨y, rfl, y1, y2⟩ := ex_iI a2
  obtain ⟨T, S, g, ⟨c1, c2, c3, c4⟩, ⟨r1, r2, r3, r4, r5⟩, i1, i2, i3, i4, i5⟩ := h.1
  have hc := i1.1
  have hx : (0 ≤ iI x ∧ iI x ≤ 9) ↔ (0 ≤ x ∧ x ≤ 9) := by rw [cl0, cl9]; exact wb x1 x2 (by omega) (by omega) (by omega) (by omega)
  have hy : (1 ≤ iI y ∧ iI y ≤ 5) ↔ (1 ≤ y ∧ y ≤ 5) := by rw [cl1, cl5]; exact wb y1 y2 (by omega) (by omega) (by omega) (by omega)
  unfold p_X7_mover p_X8_mover r_X7_mover r_X8_mover w_X8_mover w_X7_mover
  by_cases cx : 0 ≤ x ∧ x ≤ 9
  · have qx := b2i_1.mpr (hx.mpr cx)
    by_cases cy : 1 ≤ y ∧ y ≤ 5
    · have qy := b2i_1.mpr (hy.mpr cy)
      simp only [if_neg qx, if_pos qy]
      by_cases cm : T 0 0 = 3
      · have q3 : (3 : Int32) ≤ M.1 100 0 := by rw [c1.1.1, cl3, iI_le (by omega) (by omega) (by omega) (by omega)]; omega
        have q8 : ¬ ¬ M.1 600 0 = 3 := by rw [r1.1.1, cm]; exact not_not_intro rfl
        simp only [if_pos q3, if_neg q8]
        exact ⟨trivial, trivial, rfl, h.up (by omega)⟩
      · have q3 : ¬ (3 : Int32) ≤ M.1 100 0 := by rw [c1.1.1, cl3, iI_le (by omega) (by omega) (by omega) (by omega)]; omega
        have nm : Int32.toNatClampNeg (M.1 100 0) = (T 0 0).toNat := by rw [c1.1.1]; exact iI_nat (by omega) (by omega)
        simp only [if_neg q3]
        unfold p_X5_addMover r_X5_addMover w_X5_addMover
        rw [nm, c1.1.1, cl1, iI_add]
        have e8 : (wi (wi (wi M 1001 (T 0 0).toNat (iI x)) 101 (T 0 0).toNat (iI y)) 100 0 (iI (T 0 0 + 1))).1 600 0 = iI (T 0 0) := by
          rw [rd_ne (Or.inl (by omega)), rd_ne (Or.inl (by omega)), rd_ne (Or.inl (by omega))]; exact r1.1.1
        have q8 : ¬ iI (T 0 0) = 3 := by rw [cl3, iI_eq (by omega) (by omega) (by omega) (by omega)]; omega
        have e9 : Int32.toNatClampNeg (0 + iI (T 0 0)) = (T 0 0).toNat := by rw [cl0, iI_add]; exact natk (by omega) (by omega)
        have nm8 : Int32.toNatClampNeg (iI (T 0 0)) = (T 0 0).toNat := iI_nat (by omega) (by omega)
        rw [e8, if_pos q8, if_pos q8, if_pos q8, e9, nm8, iI_add]
        have v3 : vp_in (iI (T 0 0)) 3 := vin_iI (by omega) (by omega) (by omega)
        have v44 : vp_in (0 + iI (T 0 0)) 44 := by rw [cl0, iI_add]; exact vin_iI (by omega) (by omega) (by omega)
        refine ⟨⟨⟨v3, v3, trivial⟩, trivial⟩, ⟨v44, v3, trivial⟩, rfl, ?_⟩
        obtain ⟨M2, hM⟩ : ∃ M2, M2 = wi (wi (wi (wi (wi (wi M 1001 (T 0 0).toNat (iI x)) 101 (T 0 0).toNat (iI y)) 100 0 (iI (T 0 0 + 1))) 607 (T 0 0).toNat (iI x)) 601 (T 0 0).toNat (iI y)) 600 0 (iI (T 0 0 + 1)) := ⟨_, rfl⟩
        have F : Fp (fun a k => ((a = 1001 ∨ a = 101 ∨ a = 607 ∨ a = 601) ∧ k = (T 0 0).toNat) ∨ ((a = 100 ∨ a = 600) ∧ k = 0)) M M2 := by
          rw [hM]
          exact Fp.wi (Fp.wi (Fp.wi (Fp.wi (Fp.wi (Fp.wi Fp.rf (by omega)) (by omega)) (by omega)) (by omega)) (by omega)) (by omega)
        have ca := c_addM (A := M) (A' := M2) (b := 100) (s := 1000) (pl := x) (pc := y) c1 c2 i1 (by omega) (by omega) (by rw [hM]; simp [wi]) (by rw [hM]; simp [wi]) (by rw [hM]; simp [wi]) (fun a k q1 q2 => (F a k (by omega)).1)
        have ra := r_addM (B := M) (B' := M2) (pl := x) (pc := y) r1 r2 i1 (by omega) (by rw [hM]; simp [wi]) (by rw [hM]; simp [wi]) (by rw [hM]; simp [wi]) (fun a k q1 q2 => (F a k (by omega)).1)
        rw [← hM]
        have j1 := InvT.addM i1 (by omega) cy
        have j3 := InvS.addM (pc := y) i1 i3 cx
        have t0 : tU (tU T 1 (T 0 0).toNat y) 0 0 (T 0 0 + 1) 0 3 = T 0 3 := by rw [tU_n (by omega), tU_n (by omega)]
        have t4 : ∀ k, tU (tU T 1 (T 0 0).toNat y) 0 0 (T 0 0 + 1) 4 k = T 4 k := fun k => by rw [tU_n (by omega), tU_n (by omega)]
        have t5 : ∀ k, tU (tU T 1 (T 0 0).toNat y) 0 0 (T 0 0 + 1) 5 k = T 5 k := fun k => by rw [tU_n (by omega), tU_n (by omega)]
        refine h.of (by omega) F (Or.inr ⟨_, _, g, ⟨ca.1, ca.2, by rw [(F _ _ (by omega)).1]; exact c3, ?_⟩, ⟨ra.1, ra.2, ⟨by rw [(F _ _ (by omega)).1]; exact r3.1, r3.2⟩, by rw [(F _ _ (by omega)).1]; exact r4, ?_⟩, j1, i2.eq t0 t4 t5, j3.up (Nat.le_succ n) (by omega), i4, by omega⟩) (Or.inl fun a k h => by omega) (Or.inl fun a k h => by omega) (Or.inl fun a k h => by omega) (Or.inl fun a k h => by omega) (Or.inl fun a k h => by omega) (Or.inl fun a k h => by omega) (fun a k h => by omega)
        · refine CRu.eq (T := T) ⟨?_, fun z h0 h1 => ⟨?_, ?_⟩⟩ t0 t4 t5
          · rw [(F _ _ (by omega)).1]; exact c4.1
          · rw [(F _ _ (by omega)).1]; exact (c4.2 z h0 h1).1
          · rw [(F _ _ (by omega)).1]; exact (c4.2 z h0 h1).2
        · exact (r5.fp (fun a k h1 => (F a k (by omega)).1)).eq t0 t4 t5
    · have qy : ¬ ¬ b2i (1 ≤ iI y ∧ iI y ≤ 5) = 0 := fun z => cy (hy.mp (b2i_1.mp z))
      simp only [if_neg qx, if_neg qy]
      exact ⟨trivial, trivial, rfl, h.up (by omega)⟩
  · have qx : b2i (0 ≤ iI x ∧ iI x ≤ 9) = 0 := b2i_0.mpr (fun z => cx (hx.mp z))
    simp only [if_pos qx]
    exact ⟨trivial, trivial, rfl, h.up (by omega)⟩
end P34
