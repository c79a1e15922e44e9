/-! thing, rule, ruleOf, row, alterRow, trace -/
section P35
variable {M : Mm} {n : Nat}
theorem pair_thing (h : Rel M n) (hn : n < 64) (a1 a2 : Int32) : PairI (p_X7_thing M a1 a2) (p_X8_thing (w_X7_thing M a1 a2) a1 a2) (r_X7_thing M a1 a2) (r_X8_thing (w_X7_thing M a1 a2) a1 a2) (w_X8_thing (w_X7_thing M a1 a2) a1 a2) n := by
  obtain ⟨x, rfl, x1, x2⟩ := ex_iI a1
  obtain ⟨y, rfl, y1, y2⟩ := ex_iI a2
  obtain ⟨T, S, g, ⟨c1, c2, c3, c4⟩, ⟨r1, r2, r3, r4, r5⟩, i1, i2, i3, i4, i5⟩ := h.1
  have hc := i1.1
  have hx : (0 ≤ iI x ∧ iI x ≤ 9) ↔ (0 ≤ x ∧ x ≤ 9) := by rw [cl0, cl9]; exact wb x1 x2 (by omega) (by omega) (by omega) (by omega)
  have hy : (1 ≤ iI y ∧ iI y ≤ 9) ↔ (1 ≤ y ∧ y ≤ 9) := by rw [cl1, cl9]; exact wb y1 y2 (by omega) (by omega) (by omega) (by omega)
  unfold p_X7_thing p_X8_thing r_X7_thing r_X8_thing w_X8_thing w_X7_thing
  by_cases cx : 0 ≤ x ∧ x ≤ 9
  · have qx := b2i_1.mpr (hx.mpr cx)
    by_cases cy : 1 ≤ y ∧ y ≤ 9
    · have qy := b2i_1.mpr (hy.mpr cy)
      simp only [if_neg qx, if_pos qy]
      by_cases cm : T 0 1 = 6
      · have q3 : (6 : Int32) ≤ M.1 100 1 := by rw [c1.1.2.1, cl6, iI_le (by omega) (by omega) (by omega) (by omega)]; omega
        have q8 : ¬ ¬ M.1 600 1 = 6 := by rw [r1.1.2.1, cm]; exact not_not_intro rfl
        simp only [if_pos q3, if_neg q8]
        exact ⟨trivial, trivial, rfl, h.up (by omega)⟩
      · have q3 : ¬ (6 : Int32) ≤ M.1 100 1 := by rw [c1.1.2.1, cl6, iI_le (by omega) (by omega) (by omega) (by omega)]; omega
        have nm : Int32.toNatClampNeg (M.1 100 1) = (T 0 1).toNat := by rw [c1.1.2.1]; exact iI_nat (by omega) (by omega)
        simp only [if_neg q3]
        unfold p_X5_addThing r_X5_addThing w_X5_addThing
        rw [nm, c1.1.2.1, cl1, iI_add]
        have e8 : (wi (wi (wi M 1002 (T 0 1).toNat (iI x)) 102 (T 0 1).toNat (iI y)) 100 1 (iI (T 0 1 + 1))).1 600 1 = iI (T 0 1) := by
          rw [rd_ne (Or.inl (by omega)), rd_ne (Or.inl (by omega)), rd_ne (Or.inl (by omega))]; exact r1.1.2.1
        have q8 : ¬ iI (T 0 1) = 6 := by rw [cl6, iI_eq (by omega) (by omega) (by omega) (by omega)]; omega
        have e9 : Int32.toNatClampNeg (3 + iI (T 0 1)) = 3 + (T 0 1).toNat := by rw [cl3, iI_add]; exact natk (by omega) (by omega)
        have nm8 : Int32.toNatClampNeg (iI (T 0 1)) = (T 0 1).toNat := iI_nat (by omega) (by omega)
        rw [e8, if_pos q8, if_pos q8, if_pos q8, e9, nm8, iI_add]
        have v3 : vp_in (iI (T 0 1)) 6 := vin_iI (by omega) (by omega) (by omega)
        have v44 : vp_in (3 + iI (T 0 1)) 44 := by rw [cl3, iI_add]; exact vin_iI (by omega) (by omega) (by omega)
        refine ⟨⟨⟨v3, v3, trivial⟩, trivial⟩, ⟨v44, v3, trivial⟩, rfl, ?_⟩
        obtain ⟨M2, hM⟩ : ∃ M2, M2 = wi (wi (wi (wi (wi (wi M 1002 (T 0 1).toNat (iI x)) 102 (T 0 1).toNat (iI y)) 100 1 (iI (T 0 1 + 1))) 607 (3 + (T 0 1).toNat) (iI x)) 602 (T 0 1).toNat (iI y)) 600 1 (iI (T 0 1 + 1)) := ⟨_, rfl⟩
        have F : Fp (fun a k => ((a = 1002 ∨ a = 102 ∨ a = 602) ∧ k = (T 0 1).toNat) ∨ (a = 607 ∧ k = 3 + (T 0 1).toNat) ∨ ((a = 100 ∨ a = 600) ∧ k = 1)) M M2 := by
          rw [hM]
          exact Fp.wi (Fp.wi (Fp.wi (Fp.wi (Fp.wi (Fp.wi Fp.rf (by omega)) (by omega)) (by omega)) (by omega)) (by omega)) (by omega)
        have ca := c_addT (A := M) (A' := M2) (b := 100) (s := 1000) (pl := x) (pc := y) c1 c2 i1 (by omega) (by omega) (by rw [hM]; simp [wi]) (by rw [hM]; simp [wi]) (by rw [hM]; simp [wi]) (fun a k q1 q2 => (F a k (by omega)).1)
        have ra := r_addT (B := M) (B' := M2) (pl := x) (pc := y) r1 r2 i1 (by omega) (by rw [hM]; simp [wi]) (by rw [hM]; simp [wi]) (by rw [hM]; simp [wi]) (fun a k q1 q2 => (F a k (by omega)).1)
        rw [← hM]
        have j1 := InvT.addT i1 (by omega) cy
        have j3 := InvS.addT (pc := y) i1 i3 cx
        have t0 : tU (tU T 2 (T 0 1).toNat y) 0 1 (T 0 1 + 1) 0 3 = T 0 3 := by rw [tU_n (by omega), tU_n (by omega)]
        have t4 : ∀ k, tU (tU T 2 (T 0 1).toNat y) 0 1 (T 0 1 + 1) 4 k = T 4 k := fun k => by rw [tU_n (by omega), tU_n (by omega)]
        have t5 : ∀ k, tU (tU T 2 (T 0 1).toNat y) 0 1 (T 0 1 + 1) 5 k = T 5 k := fun k => by rw [tU_n (by omega), tU_n (by omega)]
        refine h.of (by omega) F (Or.inr ⟨_, _, g, ⟨ca.1, ca.2, by rw [(F _ _ (by omega)).1]; exact c3, ?_⟩, ⟨ra.1, ra.2, ⟨by rw [(F _ _ (by omega)).1]; exact r3.1, r3.2⟩, by rw [(F _ _ (by omega)).1]; exact r4, ?_⟩, j1, i2.eq t0 t4 t5, j3.up (Nat.le_succ n) (by omega), i4, by omega⟩) (Or.inl fun a k h => by omega) (Or.inl fun a k h => by omega) (Or.inl fun a k h => by omega) (Or.inl fun a k h => by omega) (Or.inl fun a k h => by omega) (Or.inl fun a k h => by omega) (fun a k h => by omega)
        · refine CRu.eq (T := T) ⟨?_, fun z h0 h1 => ⟨?_, ?_⟩⟩ t0 t4 t5
          · rw [(F _ _ (by omega)).1]; exact c4.1
          · rw [(F _ _ (by omega)).1]; exact (c4.2 z h0 h1).1
          · rw [(F _ _ (by omega)).1]; exact (c4.2 z h0 h1).2
        · exact (r5.fp (fun a k h1 => (F a k (by omega)).1)).eq t0 t4 t5
    · have qy : ¬ ¬ b2i (1 ≤ iI y ∧ iI y ≤ 9) = 0 := fun z => cy (hy.mp (b2i_1.mp z))
      simp only [if_neg qx, if_neg qy]
      exact ⟨trivial, trivial, rfl, h.up (by omega)⟩
  · have qx : b2i (0 ≤ iI x ∧ iI x ≤ 9) = 0 := b2i_0.mpr (fun z => cx (hx.mp z))
    simp only [if_pos qx]
    exact ⟨trivial, trivial, rfl, h.up (by omega)⟩
theorem pair_rule (h : Rel M n) (hn : n < 64) (a1 a2 : Int32) : PairI (p_X7_rule M a1 a2) (p_X8_rule (w_X7_rule M a1 a2) a1 a2) (r_X7_rule M a1 a2) (r_X8_rule (w_X7_rule M a1 a2) a1 a2) (w_X8_rule (w_X7_rule M a1 a2) a1 a2) n := by
  obtain ⟨x, rfl, x1, x2⟩ := ex_iI a1
  obtain ⟨y, rfl, y1, y2⟩ := ex_iI a2
  obtain ⟨T, S, g, ⟨c1, c2, c3, c4⟩, ⟨r1, r2, r3, r4, r5⟩, i1, i2, i3, i4, i5⟩ := h.1
  have hc := i1.1
  have hr := i2.1
  have hx : (1 ≤ iI x ∧ iI x ≤ 5) ↔ (1 ≤ x ∧ x ≤ 5) := by rw [cl1, cl5]; exact wb x1 x2 (by omega) (by omega) (by omega) (by omega)
  have hy : (0 ≤ iI y ∧ iI y ≤ 9) ↔ (0 ≤ y ∧ y ≤ 9) := by rw [cl0, cl9]; exact wb y1 y2 (by omega) (by omega) (by omega) (by omega)
  unfold p_X7_rule p_X8_rule r_X7_rule r_X8_rule w_X8_rule w_X7_rule
  by_cases cx : 1 ≤ x ∧ x ≤ 5
  · have qx := b2i_1.mpr (hx.mpr cx)
    by_cases cy : 0 ≤ y ∧ y ≤ 9
    · have qy := b2i_1.mpr (hy.mpr cy)
      simp only [if_neg qx, if_pos qy]
      by_cases cm : T 0 3 = 4
      · have q3 : (4 : Int32) ≤ M.1 100 3 := by rw [c4.1, cl4, iI_le (by omega) (by omega) (by omega) (by omega)]; omega
        have q8 : ¬ ¬ M.1 600 12 = 4 := by rw [r5.1, cm]; exact not_not_intro rfl
        simp only [if_pos q3, if_neg q8]
        exact ⟨trivial, trivial, rfl, h.up (by omega)⟩
      · have q3 : ¬ (4 : Int32) ≤ M.1 100 3 := by rw [c4.1, cl4, iI_le (by omega) (by omega) (by omega) (by omega)]; omega
        have nm : Int32.toNatClampNeg (M.1 100 3) = (T 0 3).toNat := by rw [c4.1]; exact iI_nat (by omega) (by omega)
        simp only [if_neg q3]
        unfold p_X5_addRule r_X5_addRule w_X5_addRule
        rw [nm, c4.1, cl1, iI_add]
        have e8 : (wi (wi (wi M 105 (T 0 3).toNat (iI x)) 106 (T 0 3).toNat (iI y)) 100 3 (iI (T 0 3 + 1))).1 600 12 = iI (T 0 3) := by
          rw [rd_ne (Or.inl (by omega)), rd_ne (Or.inl (by omega)), rd_ne (Or.inl (by omega))]; exact r5.1
        have q8 : ¬ iI (T 0 3) = 4 := by rw [cl4, iI_eq (by omega) (by omega) (by omega) (by omega)]; omega
        have e9 : Int32.toNatClampNeg (2 * iI (T 0 3)) = 2 * (T 0 3).toNat := by rw [cl2, iI_mul]; exact natk (by omega) (by omega)
        have e10 : Int32.toNatClampNeg (2 * iI (T 0 3) + iI 1) = 2 * (T 0 3).toNat + 1 := by rw [cl2, iI_mul, iI_add]; exact natk (by omega) (by omega)
        rw [e8, if_pos q8, if_pos q8, if_pos q8, e9, e10, iI_add]
        have v3 : vp_in (iI (T 0 3)) 4 := vin_iI (by omega) (by omega) (by omega)
        have v44 : vp_in (2 * iI (T 0 3)) 8 := by rw [cl2, iI_mul]; exact vin_iI (by omega) (by omega) (by omega)
        have v45 : vp_in (2 * iI (T 0 3) + iI 1) 8 := by rw [cl2, iI_mul, iI_add]; exact vin_iI (by omega) (by omega) (by omega)
        refine ⟨⟨⟨v3, v3, trivial⟩, trivial⟩, ⟨v44, v45, trivial⟩, rfl, ?_⟩
        obtain ⟨M2, hM⟩ : ∃ M2, M2 = wi (wi (wi (wi (wi (wi M 105 (T 0 3).toNat (iI x)) 106 (T 0 3).toNat (iI y)) 100 3 (iI (T 0 3 + 1))) 608 (2 * (T 0 3).toNat) (iI x)) 608 (2 * (T 0 3).toNat + 1) (iI y)) 600 12 (iI (T 0 3 + 1)) := ⟨_, rfl⟩
        have F : Fp (fun a k => ((a = 105 ∨ a = 106) ∧ k = (T 0 3).toNat) ∨ (a = 608 ∧ (k = 2 * (T 0 3).toNat ∨ k = 2 * (T 0 3).toNat + 1)) ∨ (a = 100 ∧ k = 3) ∨ (a = 600 ∧ k = 12)) M M2 := by
          rw [hM]
          exact Fp.wi (Fp.wi (Fp.wi (Fp.wi (Fp.wi (Fp.wi Fp.rf (by omega)) (by omega)) (by omega)) (by omega)) (by omega)) (by omega)
        have z1 : M2.1 105 (T 0 3).toNat = iI x := by rw [hM]; simp [wi]
        have z2 : M2.1 106 (T 0 3).toNat = iI y := by rw [hM]; simp [wi]
        have z3 : M2.1 100 3 = iI (T 0 3 + 1) := by rw [hM]; simp [wi]
        have z4 : M2.1 608 (2 * (T 0 3).toNat) = iI x := by rw [hM]; simp [wi]
        have z5 : M2.1 608 (2 * (T 0 3).toNat + 1) = iI y := by rw [hM]; simp [wi]
        have z6 : M2.1 600 12 = iI (T 0 3 + 1) := by rw [hM]; simp [wi]
        rw [← hM]
        -- the new town
        obtain ⟨T', hT'⟩ : ∃ T', T' = tU (tU (tU T 4 (T 0 3).toNat x) 5 (T 0 3).toNat y) 0 3 (T 0 3 + 1) := ⟨_, rfl⟩
        have e03 : T' 0 3 = T 0 3 + 1 := by rw [hT', tU_s]
        have e0 : ∀ k, k ≠ 3 → T' 0 k = T 0 k := fun k hk => by rw [hT', tU_n (by omega), tU_n (by omega), tU_n (by omega)]
        have eo : ∀ i k, i ≠ 0 → i ≠ 4 → i ≠ 5 → T' i k = T i k := fun i k a b c => by rw [hT', tU_n (by omega), tU_n (by omega), tU_n (by omega)]
        have e4 : ∀ k, T' 4 k = if k = (T 0 3).toNat then x else T 4 k := fun k => by
          rw [hT', tU_n (by omega), tU_n (by omega)]
          by_cases q : k = (T 0 3).toNat
          · rw [if_pos q, q, tU_s]
          · rw [if_neg q, tU_n (by omega)]
        have e5 : ∀ k, T' 5 k = if k = (T 0 3).toNat then y else T 5 k := fun k => by
          rw [hT', tU_n (by omega)]
          by_cases q : k = (T 0 3).toNat
          · rw [if_pos q, q, tU_s]
          · rw [if_neg q, tU_n (by omega), tU_n (by omega)]
        have j1 : InvT T' := by
          obtain ⟨g1, g2, g3, g4, g5⟩ := i1
          unfold InvT WkI
          simp only [e0 0 (by omega), e0 1 (by omega), e0 2 (by omega), eo 1 _ (by omega) (by omega) (by omega), eo 2 _ (by omega) (by omega) (by omega), eo 3 _ (by omega) (by omega) (by omega)]
          refine ⟨g1, g2, g3, g4, fun w hw => ?_⟩
          simp only [eo (10 + w) _ (by omega) (by omega) (by omega)]
          exact g5 w hw
        have j3 : InvS T' S (4000 * n) := by
          unfold InvS at i3 ⊢
          simp only [e0 0 (by omega), e0 1 (by omega), e0 2 (by omega)]
          exact i3
        have ca : CT M2 100 T' := by
          have q : CT M2 100 T := ⟨⟨by rw [(F _ _ (by omega)).1]; exact c1.1.1, by rw [(F _ _ (by omega)).1]; exact c1.1.2.1, by rw [(F _ _ (by omega)).1]; exact c1.1.2.2⟩, fun z h0 h1 => by rw [(F _ _ (by omega)).1]; exact c1.2.1 z h0 h1, fun z h0 h1 => by rw [(F _ _ (by omega)).1]; exact c1.2.2.1 z h0 h1, fun k hk => by rw [(F _ _ (by omega)).1]; exact c1.2.2.2.1 k hk, fun w f hw hf => by rw [(F _ _ (by omega)).1]; exact c1.2.2.2.2 w f hw hf⟩
          obtain ⟨g1, g2, g3, g4, g5⟩ := q
          unfold CT
          simp only [e0 0 (by omega), e0 1 (by omega), e0 2 (by omega), eo 1 _ (by omega) (by omega) (by omega), eo 2 _ (by omega) (by omega) (by omega), eo 3 _ (by omega) (by omega) (by omega)]
          exact ⟨g1, g2, g3, g4, fun w f hw hf => by rw [eo (10 + w) _ (by omega) (by omega) (by omega)]; exact g5 w f hw hf⟩
        have cb : CSt M2 1000 T' S := by
          have q := c2.fp (M' := M2) (fun a k h1 h2 => (F a k (by omega)).1)
          unfold CSt at q ⊢
          simp only [e0 0 (by omega), e0 1 (by omega), e0 2 (by omega)]
          exact q
        have cc : RT M2 T' := by
          obtain ⟨g1, g2, g3, g4, g5⟩ := r1.fp (M' := M2) (fun a k h1 => (F a k (by omega)).1)
          unfold RT
          simp only [e0 0 (by omega), e0 1 (by omega), e0 2 (by omega), eo 1 _ (by omega) (by omega) (by omega), eo 2 _ (by omega) (by omega) (by omega), eo 3 _ (by omega) (by omega) (by omega)]
          exact ⟨g1, g2, g3, g4, fun w f hw hf => by rw [eo (10 + w) _ (by omega) (by omega) (by omega)]; exact g5 w f hw hf⟩
        have cd : RS M2 0 T' S := by
          have q := r2.fp (M' := M2) i1 (fun k h1 h2 => (F 607 k (by omega)).1)
          unfold RS at q ⊢
          simp only [e0 0 (by omega), e0 1 (by omega), e0 2 (by omega)]
          exact q
        refine h.of (by omega) F (Or.inr ⟨T', S, g, ⟨ca, cb, by rw [(F _ _ (by omega)).1]; exact c3, ⟨by rw [e03]; exact z3, fun z h0 h1 => ?_⟩⟩, ⟨cc, cd, ⟨by rw [(F _ _ (by omega)).1]; exact r3.1, r3.2⟩, by rw [(F _ _ (by omega)).1]; exact r4, ⟨by rw [e03]; exact z6, fun z h0 h1 => ?_⟩⟩, j1, ⟨by rw [e03]; omega, fun z h0 h1 => ?_⟩, j3.up (Nat.le_succ n) (by omega), i4, by omega⟩) (Or.inl fun a k h => by omega) (Or.inl fun a k h => by omega) (Or.inl fun a k h => by omega) (Or.inl fun a k h => by omega) (Or.inl fun a k h => by omega) (Or.inl fun a k h => by omega) (fun a k h => by omega)
        · rw [e03] at h1
          rw [e4, e5]
          by_cases q : z.toNat = (T 0 3).toNat
          · rw [if_pos q, if_pos q, q]; exact ⟨z1, z2⟩
          · rw [if_neg q, if_neg q, (F _ _ (by omega)).1, (F _ _ (by omega)).1]; exact c4.2 z h0 (by omega)
        · rw [e03] at h1
          rw [e4, e5]
          by_cases q : z.toNat = (T 0 3).toNat
          · rw [if_pos q, if_pos q, q]; exact ⟨z4, z5⟩
          · rw [if_neg q, if_neg q, (F _ _ (by omega)).1, (F _ _ (by omega)).1]; exact r5.2 z h0 (by omega)
        · rw [e03] at h1
          rw [e4, e5]
          by_cases q : z.toNat = (T 0 3).toNat
          · rw [if_pos q, if_pos q]; exact ⟨cx, cy⟩
          · rw [if_neg q, if_neg q]; exact i2.2 z h0 (by omega)
    · have qy : ¬ ¬ b2i (0 ≤ iI y ∧ iI y ≤ 9) = 0 := fun z => cy (hy.mp (b2i_1.mp z))
      simp only [if_neg qx, if_neg qy]
      exact ⟨trivial, trivial, rfl, h.up (by omega)⟩
  · have qx : b2i (1 ≤ iI x ∧ iI x ≤ 5) = 0 := b2i_0.mpr (fun z => cx (hx.mp z))
    simp only [if_pos qx]
    exact ⟨trivial, trivial, rfl, h.up (by omega)⟩
end P35
