/-! work: the pair -/
section P49
variable {M : Mm} {n : Nat}
theorem work_fin (h : Rel M n) (hn : n < 64) {T S : Tw} {g : Int} (hR : RelTo M n T S g) (d6 : T 0 2 < 6) {w : Nat} (hw : w = (T 0 2).toNat) {V : Nat → Int} (hV : VW T V) {M1 M2 : Mm}
    (a1 : ∀ f, f < 8 → M1.1 (110 + w) f = iI (V f)) (a2 : M1.1 1003 w = iI 0) (a3 : M1.1 1004 w = iI 0) (a4 : M1.1 100 2 = iI (w : Int) + 1) (F1 : Fp (fun a k => a = 110 + w ∨ (a = 1003 ∧ k = w) ∨ (a = 1004 ∧ k = w) ∨ (a = 100 ∧ k = 2)) M M1)
    (b1 : ∀ f, f < 8 → M2.1 603 (8 * w + f) = iI (V f)) (b2 : M2.1 607 (9 + w) = iI 0) (b3 : M2.1 607 (15 + w) = iI 0) (b4 : M2.1 600 2 = iI (w : Int) + 1) (F2 : Fp (fun a k => (a = 603 ∧ 8 * w ≤ k ∧ k < 8 * w + 8) ∨ (a = 607 ∧ k = 9 + w) ∨ (a = 607 ∧ k = 15 + w) ∨ (a = 600 ∧ k = 2)) M1 M2) : Rel M2 (n + 1) := by
  obtain ⟨⟨c1, c2, c3, c4⟩, ⟨r1, r2, r3, r4, r5⟩, i1, i2, i3, i4, i5⟩ := hR
  have hc := i1.1.2.2
  have ew : iI (w : Int) + 1 = iI (T 0 2 + 1) := by rw [cl1, iI_add, show (w : Int) = T 0 2 by omega]
  rw [ew] at a4 b4
  have F : Fp (fun a k => (a = 110 + w ∨ (a = 1003 ∧ k = w) ∨ (a = 1004 ∧ k = w) ∨ (a = 100 ∧ k = 2)) ∨ ((a = 603 ∧ 8 * w ≤ k ∧ k < 8 * w + 8) ∨ (a = 607 ∧ k = 9 + w) ∨ (a = 607 ∧ k = 15 + w) ∨ (a = 600 ∧ k = 2))) M M2 := (F1.mono (fun a k h => Or.inl h)).tr (F2.mono (fun a k h => Or.inr h))
  obtain ⟨s1, s2⟩ := c_addW (V := V) (A' := M2) c1 c2 i1 d6 (by omega) (fun f hf => by rw [← hw, (F2 _ _ (by omega)).1]; exact a1 f hf) (by rw [← hw, (F2 _ _ (by omega)).1]; exact a2) (by rw [← hw, (F2 _ _ (by omega)).1]; exact a3) (by rw [(F2 _ _ (by omega)).1]; exact a4) (fun a k h1 h2 => by rw [← hw] at h2; exact (F a k (by omega)).1)
  obtain ⟨u1, u2⟩ := r_addW (V := V) (B' := M2) r1 r2 i1 d6 (fun f hf => by rw [← hw]; exact b1 f hf) (by rw [← hw]; exact b2) (by rw [← hw]; exact b3) b4 (fun a k h1 h2 => by rw [← hw] at h2; exact (F a k (by omega)).1)
  have z3 : tW T V 0 3 = T 0 3 := tW_o (Or.inr (by omega)) (by omega)
  have z4 : ∀ k, tW T V 4 k = T 4 k := fun k => tW_o (Or.inl (by omega)) (by omega)
  have z5 : ∀ k, tW T V 5 k = T 5 k := fun k => tW_o (Or.inl (by omega)) (by omega)
  have y1 : M2.1 1000 5 = iI g := by rw [(F _ _ (by omega)).1]; exact c3
  have y2 : CRu M2 100 (tW T V) := CRu.eq (T := T) ⟨by rw [(F _ _ (by omega)).1]; exact c4.1, fun u h0 h1 => ⟨by rw [(F _ _ (by omega)).1]; exact (c4.2 u h0 h1).1, by rw [(F _ _ (by omega)).1]; exact (c4.2 u h0 h1).2⟩⟩ z3 z4 z5
  have y3 : RA M2 0 := ⟨by rw [(F _ _ (by omega)).1]; exact r3.1, r3.2⟩
  have y4 : M2.1 600 11 = iI g := by rw [(F _ _ (by omega)).1]; exact r4
  have y5 : RRu M2 (tW T V) := (r5.fp (fun a k h1 => (F a k (by omega)).1)).eq z3 z4 z5
  exact h.of (by omega) F (Or.inr ⟨tW T V, sW T S, g, ⟨s1, s2, y1, y2⟩, ⟨u1, u2, y3, y4, y5⟩, i1.addW d6 hV, i2.eq z3 z4 z5, (i3.up (Nat.le_succ n) (by omega)).addW i1, i4, by omega⟩) (Or.inl fun a k h => by omega) (Or.inl fun a k h => by omega) (Or.inl fun a k h => by omega) (Or.inl fun a k h => by omega) (Or.inl fun a k h => by omega) (Or.inl fun a k h => by omega) (fun a k h => by omega)
theorem pair_work (h : Rel M n) (hn : n < 64) (a1 a2 a3 a4 a5 a6 : Int32) : PairI (p_X7_work M a1 a2 a3 a4 a5 a6) (p_X8_work (w_X7_work M a1 a2 a3 a4 a5 a6) a1 a2 a3 a4 a5 a6) (r_X7_work M a1 a2 a3 a4 a5 a6) (r_X8_work (w_X7_work M a1 a2 a3 a4 a5 a6) a1 a2 a3 a4 a5 a6) (w_X8_work (w_X7_work M a1 a2 a3 a4 a5 a6) a1 a2 a3 a4 a5 a6) n := by
  obtain ⟨v0, rfl, x01, x02⟩ := ex_iI a1
  obtain ⟨v1, rfl, x11, x12⟩ := ex_iI a2
  obtain ⟨v2, rfl, x21, x22⟩ := ex_iI a3
  obtain ⟨v3, rfl, x31, x32⟩ := ex_iI a4
  obtain ⟨v4, rfl, x41, x42⟩ := ex_iI a5
  obtain ⟨v5, rfl, x51, x52⟩ := ex_iI a6
  obtain ⟨T, S, g, hR⟩ := h.1
  have c1 := hR.1.1.1
  have r1 := hR.2.1.1.1
  have hc := hR.2.2.1.1
  have k0 : (0 ≤ iI v0 ∧ iI v0 ≤ 5) ↔ (0 ≤ v0 ∧ v0 ≤ 5) := by rw [cl0, cl5]; exact wb x01 x02 (by omega) (by omega) (by omega) (by omega)
  have k1 : (0 ≤ iI v1 ∧ iI v1 ≤ M.1 100 0 - 1) ↔ (0 ≤ v1 ∧ v1 ≤ T 0 0 - 1) := by rw [c1.1, cl0, cl1, iI_sub]; exact wb x11 x12 (by omega) (by omega) (by omega) (by omega)
  have k2 : (0 ≤ iI v2 ∧ iI v2 ≤ M.1 100 1 - 1) ↔ (0 ≤ v2 ∧ v2 ≤ T 0 1 - 1) := by rw [c1.2.1, cl0, cl1, iI_sub]; exact wb x21 x22 (by omega) (by omega) (by omega) (by omega)
  have k3 : (0 ≤ iI v3 ∧ iI v3 ≤ 9) ↔ (0 ≤ v3 ∧ v3 ≤ 9) := by rw [cl0, cl9]; exact wb x31 x32 (by omega) (by omega) (by omega) (by omega)
  have k4 : (0 ≤ iI v4 ∧ iI v4 ≤ 999) ↔ (0 ≤ v4 ∧ v4 ≤ 999) := by rw [cl0, cl999]; exact wb x41 x42 (by omega) (by omega) (by omega) (by omega)
  have k5 : (0 ≤ iI v5 ∧ iI v5 ≤ 99) ↔ (0 ≤ v5 ∧ v5 ≤ 99) := by rw [cl0, cl99]; exact wb x51 x52 (by omega) (by omega) (by omega) (by omega)
  have o6 : (6 ≤ iI (T 0 2)) ↔ 6 ≤ T 0 2 := by rw [cl6, iI_le (by omega) (by omega) (by omega) (by omega)]
  have o7 : (iI (T 0 2) = 6) ↔ T 0 2 = 6 := by rw [cl6, iI_eq (by omega) (by omega) (by omega) (by omega)]
  have e60 : M.1 600 0 = M.1 100 0 := r1.1.trans c1.1.symm
  have e61 : M.1 600 1 = M.1 100 1 := r1.2.1.trans c1.2.1.symm
  have hu : n < 200 := Nat.lt_of_lt_of_le hn (by decide)
  by_cases d : (0 ≤ v0 ∧ v0 ≤ 5) ∧ (0 ≤ v1 ∧ v1 ≤ T 0 0 - 1) ∧ (0 ≤ v2 ∧ v2 ≤ T 0 1 - 1) ∧ (0 ≤ v3 ∧ v3 ≤ 9) ∧ (0 ≤ v4 ∧ v4 ≤ 999) ∧ (0 ≤ v5 ∧ v5 ≤ 99)
  · obtain ⟨d0, d1, d2, d3, d4, d5⟩ := d
    have q0 := b2i_1.mpr (k0.mpr d0)
    have q1 := b2i_1.mpr (k1.mpr d1)
    have q2 := b2i_1.mpr (k2.mpr d2)
    have q3 := b2i_1.mpr (k3.mpr d3)
    have q4 := b2i_1.mpr (k4.mpr d4)
    have q5 := b2i_1.mpr (k5.mpr d5)
    clear k0 k1 k2 k3 k4 k5
    by_cases d6 : 6 ≤ T 0 2
    · have p6 := o6.mpr d6
      have p7 := o7.mpr (by omega)
      clear o6 o7
      have e7 : w_X7_work M (iI v0) (iI v1) (iI v2) (iI v3) (iI v4) (iI v5) = M := by
        unfold w_X7_work
        rw [if_neg q0, if_neg q1, if_neg q2, if_neg q3, if_neg q4, if_neg q5, c1.2.2, if_pos p6]
      rw [e7]
      unfold p_X7_work p_X8_work r_X7_work r_X8_work w_X8_work
      simp only [if_neg q0, if_neg q1, if_neg q2, if_neg q3, if_neg q4, if_neg q5, c1.2.2, if_pos p6, e60, e61, r1.2.2, if_pos q5, if_neg (not_not_intro p7)]
      exact ⟨trivial, trivial, rfl, h.up hu⟩
    · have p6 : ¬ 6 ≤ iI (T 0 2) := fun u => d6 (o6.mp u)
      clear o6 o7
      obtain ⟨w, hw⟩ : ∃ w, w = (T 0 2).toNat := ⟨_, rfl⟩
      have tw : T 0 2 = (w : Int) := by omega
      have e7 : w_X7_work M (iI v0) (iI v1) (iI v2) (iI v3) (iI v4) (iI v5) = w_X5_addWork M (iI v0) (iI v1) (iI v2) (iI v3) (iI v4) (iI v5) := by
        unfold w_X7_work
        rw [if_neg q0, if_neg q1, if_neg q2, if_neg q3, if_neg q4, if_neg q5, c1.2.2, if_neg p6]
      have f7 : r_X7_work M (iI v0) (iI v1) (iI v2) (iI v3) (iI v4) (iI v5) = r_X5_addWork M (iI v0) (iI v1) (iI v2) (iI v3) (iI v4) (iI v5) := by
        unfold r_X7_work
        rw [if_neg q0, if_neg q1, if_neg q2, if_neg q3, if_neg q4, if_neg q5, c1.2.2, if_neg p6]
      obtain ⟨s1, s2, s3, s4, s5, s6, s7⟩ := c_addWk (M := M) (w := w) (v0 := v0) (v1 := v1) (v2 := v2) (v3 := v3) (v4 := v4) (v5 := v5) (by omega) (by rw [← tw]; exact c1.2.2)
      rw [e7, f7, s2]
      have g7 : p_X7_work M (iI v0) (iI v1) (iI v2) (iI v3) (iI v4) (iI v5) := by
        unfold p_X7_work
        rw [if_neg q0, if_neg q1, if_neg q2, if_neg q3, if_neg q4, if_neg q5, c1.2.2, if_neg p6]
        exact ⟨s1, trivial⟩
      generalize w_X5_addWork M (iI v0) (iI v1) (iI v2) (iI v3) (iI v4) (iI v5) = M1 at s3 s4 s5 s6 s7 ⊢
      have m60 : M1.1 600 0 = M.1 100 0 := by rw [(s7 _ _ (by omega)).1]; exact e60
      have m61 : M1.1 600 1 = M.1 100 1 := by rw [(s7 _ _ (by omega)).1]; exact e61
      have m62 : M1.1 600 2 = iI (w : Int) := by rw [(s7 _ _ (by omega)).1, ← tw]; exact r1.2.2
      obtain ⟨t1, t2, t3, t4, t5, t6, t7⟩ := r_addWk (M := M1) (w := w) (v0 := v0) (v1 := v1) (v2 := v2) (v3 := v3) (v4 := v4) (v5 := v5) (by omega) m62 q0 (by rw [m60]; exact q1) (by rw [m61]; exact q2) q3 q4 q5
      rw [t2]
      have hV : VW T (wV v0 v1 v2 v3 v4 v5) := by
        clear q0 q1 q2 q3 q4 q5
        refine ⟨d0, ⟨d1.1, ?_⟩, ⟨d2.1, ?_⟩, d3, d4, d5, ⟨?_, ?_⟩, ⟨?_, ?_⟩⟩
        · show v1 < T 0 0; omega
        · show v2 < T 0 1; omega
        · show (-1 : Int) ≤ -1; exact Int.le_refl _
        · show (-1 : Int) < T 0 2; omega
        · show (0 : Int) ≤ 0; exact Int.le_refl _
        · show (0 : Int) ≤ 99; decide
      exact ⟨g7, t1, rfl, work_fin h hn hR (by omega) hw hV s3 s4 s5 s6 s7 t3 t4 t5 t6 t7⟩
  · have e7 : w_X7_work M (iI v0) (iI v1) (iI v2) (iI v3) (iI v4) (iI v5) = M ∧ r_X7_work M (iI v0) (iI v1) (iI v2) (iI v3) (iI v4) (iI v5) = -1 ∧ p_X7_work M (iI v0) (iI v1) (iI v2) (iI v3) (iI v4) (iI v5) ∧ w_X8_work M (iI v0) (iI v1) (iI v2) (iI v3) (iI v4) (iI v5) = M ∧ r_X8_work M (iI v0) (iI v1) (iI v2) (iI v3) (iI v4) (iI v5) = -1 ∧ p_X8_work M (iI v0) (iI v1) (iI v2) (iI v3) (iI v4) (iI v5) := by
      unfold w_X7_work r_X7_work p_X7_work w_X8_work r_X8_work p_X8_work
      rw [e60, e61]
      by_cases d0 : 0 ≤ v0 ∧ v0 ≤ 5
      · have q0 := b2i_1.mpr (k0.mpr d0)
        by_cases d1 : 0 ≤ v1 ∧ v1 ≤ T 0 0 - 1
        · have q1 := b2i_1.mpr (k1.mpr d1)
          by_cases d2 : 0 ≤ v2 ∧ v2 ≤ T 0 1 - 1
          · have q2 := b2i_1.mpr (k2.mpr d2)
            by_cases d3 : 0 ≤ v3 ∧ v3 ≤ 9
            · have q3 := b2i_1.mpr (k3.mpr d3)
              by_cases d4 : 0 ≤ v4 ∧ v4 ≤ 999
              · have q4 := b2i_1.mpr (k4.mpr d4)
                have d5 : ¬ (0 ≤ v5 ∧ v5 ≤ 99) := fun d5 => d ⟨d0, d1, d2, d3, d4, d5⟩
                have q5 := b2i_0.mpr (fun u => d5 (k5.mp u))
                simp only [if_neg q0, if_neg q1, if_neg q2, if_neg q3, if_neg q4, if_pos q5, if_neg (not_not_intro q5)]
                exact ⟨trivial, trivial, trivial, trivial, trivial, trivial⟩
              · have q4 := b2i_0.mpr (fun u => d4 (k4.mp u))
                simp only [if_neg q0, if_neg q1, if_neg q2, if_neg q3, if_pos q4]
                exact ⟨trivial, trivial, trivial, trivial, trivial, trivial⟩
            · have q3 := b2i_0.mpr (fun u => d3 (k3.mp u))
              simp only [if_neg q0, if_neg q1, if_neg q2, if_pos q3]
              exact ⟨trivial, trivial, trivial, trivial, trivial, trivial⟩
          · have q2 := b2i_0.mpr (fun u => d2 (k2.mp u))
            simp only [if_neg q0, if_neg q1, if_pos q2]
            exact ⟨trivial, trivial, trivial, trivial, trivial, trivial⟩
        · have q1 := b2i_0.mpr (fun u => d1 (k1.mp u))
          simp only [if_neg q0, if_pos q1]
          exact ⟨trivial, trivial, trivial, trivial, trivial, trivial⟩
      · have q0 := b2i_0.mpr (fun u => d0 (k0.mp u))
        simp only [if_pos q0]
        exact ⟨trivial, trivial, trivial, trivial, trivial, trivial⟩
    obtain ⟨w7, r7, p7, w8, r8, p8⟩ := e7
    rw [w7, r7, w8, r8]
    exact ⟨p7, p8, rfl, h.up hu⟩
end P49
