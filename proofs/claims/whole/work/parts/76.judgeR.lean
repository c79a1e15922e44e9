/-! judge: the reference, the pair -/
section P76
variable {M D : Mm} {T S : Tw} {mb : Int} {f : Nat → Int32} {rc j0 j n : Nat}
theorem r_row (hT : RT D T) (ha : RA D 22) (hS : RS D 22 T S) (hI : InvT T) (hJ : InvS T S mb) (hm : mb ≤ 850000) (x : Int32) :
    (b2i (0 ≤ x ∧ x ≤ D.1 600 2 - 1) = 0 ∧ ∀ w : Nat, (w : Int) < T 0 2 → x = iI (w : Int) → ¬ aFree T S w) ∨ (¬ b2i (0 ≤ x ∧ x ≤ D.1 600 2 - 1) = 0 ∧ p_X8_isFree D x ∧ r_X8_isFree D x = 0 ∧ ∀ w : Nat, (w : Int) < T 0 2 → x = iI (w : Int) → ¬ aFree T S w) ∨ (∃ w : Nat, x = iI (w : Int) ∧ (w : Int) < T 0 2 ∧ aFree T S w ∧ ¬ b2i (0 ≤ x ∧ x ≤ D.1 600 2 - 1) = 0 ∧ p_X8_isFree D x ∧ ¬ r_X8_isFree D x = 0 ∧ p_X8_turns D x ∧ r_X8_turns D x = iI (aWorth T S w) ∧ RS (w_X8_turns D x) 22 T (aTurn T S w) ∧ FrR 22 D (w_X8_turns D x)) := by
  have hc := hI.1
  obtain ⟨v, rfl, x1, x2⟩ := ex_iI x
  have iw := r_isWork hT hI x1 x2
  by_cases c : 0 ≤ v ∧ v < T 0 2
  · obtain ⟨w, rfl⟩ : ∃ w : Nat, v = (w : Int) := ⟨v.toNat, by omega⟩
    have q := b2i_1.mpr (iw.mpr c)
    obtain ⟨f1, f2⟩ := r_free hT ha hS hI hJ c.2
    by_cases d : aFree T S w
    · obtain ⟨y1, y2, y3, y4⟩ := r_turns hT ha hS hI hJ (by omega) c.2
      refine Or.inr (Or.inr ⟨w, rfl, c.2, d, q, f1, ?_, y1, y2, y3, y4⟩)
      rw [f2, if_pos d]
      decide
    · refine Or.inr (Or.inl ⟨q, f1, by rw [f2, if_neg d], fun w' w1 w2 => ?_⟩)
      have : w' = w := by
        rw [iI_eq (by omega) (by omega) (by omega) (by omega)] at w2
        omega
      rw [this]
      exact d
  · refine Or.inl ⟨b2i_0.mpr (fun u => c (iw.mp u)), fun w w1 w2 => ?_⟩
    rw [iI_eq (by omega) (by omega) (by omega) (by omega)] at w2
    exact absurd ⟨by omega, by omega⟩ c
theorem r_right (hT : RT M T) (ha : RA M 22) (hS : RS M 22 T S) (hI : InvT T) (hJ : InvS T S mb) (hm : mb ≤ 700000) (hrc : rc ≤ 6) (h42 : M.1 600 42 = iI (rc : Int)) (f0 : ∀ i, i < 3 * rc → M.1 619 i = f i) (h1 : j0 ≤ rc) (h2 : ∀ k, k < j0 → jOk T (jS T S f k) f k) (h3 : j0 = rc ∨ ¬ jOk T (jS T S f j0) f j0) :
    p_X8_rightMany M ∧ r_X8_rightMany M = iI (j0 : Int) ∧ Fq (fun a k => a = 607 ∧ 22 ≤ k) M (w_X8_rightMany M) ∧ ∃ S', RS (w_X8_rightMany M) 22 T S' ∧ InvS T S' (mb + 14000) ∧ (j0 = rc → S' = jS T S f j0) := by
  have hc := hI.1
  have n21 : Int32.toNatClampNeg (iI 22 + 21) = 22 + 21 := by decide
  have v21 : vp_in (iI 22 + 21) 44 := by rw [cl21, iI_add]; exact vin_iI (by omega) (by omega) (by omega)
  have step : ∀ (k : Nat) (D : Mm), k < j0 → RS D 22 T (jS T S f k) → Fq (fun a k => a = 607 ∧ 22 ≤ k) M D →
      c_X8_rightMany_2 (D, iI (k : Int)) ∧ q_X8_rightMany_2 (D, iI (k : Int)) ∧ ∃ D', s_X8_rightMany_2 (D, iI (k : Int)) = (D', iI ((k + 1 : Nat) : Int)) ∧ RS D' 22 T (jS T S f (k + 1)) ∧ Fq (fun a k => a = 607 ∧ 22 ≤ k) M D' := by
    intro k D hk k1 k3
    have kT : RT D T := hT.fq k3 (fun a k h => by omega)
    have kA : RA D 22 := ha.fq k3 (by omega)
    have iv := jS_inv (f := f) hI hJ (by omega) k (by omega) (fun i hi => h2 i (by omega))
    obtain ⟨w, w1, w2, w3, w4, w5⟩ := h2 k hk
    obtain ⟨n0, n1, n2, v0, v1, v2⟩ := jm3 (j := k) (by omega)
    have g : ¬ D.1 600 42 ≤ iI (k : Int) := by rw [k3.1 _ _ (by omega), h42, iI_le (by omega) (by omega) (by omega) (by omega)]; omega
    have e0 : D.1 619 (3 * k) = f (3 * k) := by rw [k3.1 _ _ (by omega)]; exact f0 _ (by omega)
    unfold c_X8_rightMany_2 q_X8_rightMany_2 s_X8_rightMany_2
    dsimp only
    rw [if_neg g, if_neg g, if_neg g, n0, n1, n2, e0]
    rcases r_row kT kA k1 hI iv (by omega) (f (3 * k)) with ⟨y1, y2⟩ | ⟨y0, y1, y1', y2⟩ | ⟨w', y0, y1, y2, y3, y4, y4', y5, y6, y7, y8⟩
    · exact absurd w3 (y2 w w1 w2)
    · exact absurd w3 (y2 w w1 w2)
    · have ew : w' = w := by
        have := y0.symm.trans w2
        rw [iI_eq (by omega) (by omega) (by omega) (by omega)] at this
        omega
      subst ew
      have y9 : Fq (fun a k => a = 607 ∧ 22 ≤ k) D (w_X8_turns D (f (3 * k))) := y8.q (fun k h1 h2 => by omega)
      have e1 : (w_X8_turns D (f (3 * k))).1 619 (3 * k + 1) = iI (aTurn T (jS T S f k) w' 4 0) := by rw [y9.1 _ _ (by omega), k3.1 _ _ (by omega), f0 _ (by omega)]; exact w4
      have e2 : (w_X8_turns D (f (3 * k))).1 619 (3 * k + 2) = iI (aWorth T (jS T S f k) w') := by rw [y9.1 _ _ (by omega), k3.1 _ _ (by omega), f0 _ (by omega)]; exact w5
      have e3 : (w_X8_turns D (f (3 * k))).1 607 (22 + 21) = iI (aTurn T (jS T S f k) w' 4 0) := y7.2.2.2.2
      have e4 : (w_X8_turns D (f (3 * k))).1 600 10 = iI 22 := by rw [y9.1 _ _ (by omega)]; exact kA.1
      rw [if_neg y3, if_neg y3, if_neg y3, if_pos y4', if_pos y4', if_pos y4', e4, n21, e1, e2, e3, y6, if_neg (not_not_intro rfl), if_neg (not_not_intro rfl), if_neg (not_not_intro rfl), if_pos rfl, if_pos rfl, if_pos rfl, k1_iI]
      refine ⟨trivial, ⟨v0, y4, y5, v1, v21, v2, trivial⟩, _, rfl, ?_, k3.tr y9⟩
      rw [jS_s w2 (by omega)]
      exact y7
  have key : ∀ k, k ≤ j0 → ∃ D, l_X8_rightMany_2 (M, 0) k = (D, iI (k : Int)) ∧ RS D 22 T (jS T S f k) ∧ Fq (fun a k => a = 607 ∧ 22 ≤ k) M D := by
    intro k
    induction k with
    | zero => intro _; exact ⟨M, rfl, hS, Fq.rf⟩
    | succ k ih =>
      intro hk
      obtain ⟨D, d1, d2, d3⟩ := ih (by omega)
      obtain ⟨-, -, D', g1, g2⟩ := step k D (by omega) d2 d3
      refine ⟨D', ?_, g2⟩
      show s_X8_rightMany_2 (l_X8_rightMany_2 (M, 0) k) = _
      rw [d1]; exact g1
  have cs : ∀ k, k < j0 → c_X8_rightMany_2 (l_X8_rightMany_2 (M, 0) k) := fun k hk => by
    obtain ⟨E, g1, g2, g3⟩ := key k (by omega)
    rw [g1]
    exact (step k E hk g2 g3).1
  have qs : ∀ k, k < j0 → q_X8_rightMany_2 (l_X8_rightMany_2 (M, 0) k) := fun k hk => by
    obtain ⟨E, g1, g2, g3⟩ := key k (by omega)
    rw [g1]
    exact (step k E hk g2 g3).2.1
  obtain ⟨D, d1, d2, d3⟩ := key j0 (Nat.le_refl _)
  have kT : RT D T := hT.fq d3 (fun a k h => by omega)
  have kA : RA D 22 := ha.fq d3 (by omega)
  have iv := jS_inv (f := f) hI hJ (by omega) j0 (by omega) h2
  have iv' : InvS T (jS T S f j0) (mb + 14000) := iv.mono (by omega) (by omega)
  have d42 : D.1 600 42 = iI (rc : Int) := by rw [d3.1 _ _ (by omega)]; exact h42
  unfold p_X8_rightMany r_X8_rightMany w_X8_rightMany
  by_cases q : j0 = rc
  · subst q
    have g : D.1 600 42 ≤ iI (j0 : Int) := by rw [d42]; exact Int32.le_refl _
    have nc : ¬ c_X8_rightMany_2 (l_X8_rightMany_2 (M, 0) j0) := by
      rw [d1]
      unfold c_X8_rightMany_2
      dsimp only
      rw [if_pos g]
      exact fun h => h
    have cn : cntN (fun k => c_X8_rightMany_2 (l_X8_rightMany_2 (M, 0) k)) 7 = j0 := cntN_eq (by omega) cs nc
    rw [cn]
    rw [d1] at nc ⊢
    dsimp only
    rw [if_pos g, if_pos g, if_pos g]
    exact ⟨⟨cs, qs, nc, trivial⟩, d42, d3, _, d2, iv', fun _ => rfl⟩
  · have no := h3.resolve_left q
    have g : ¬ D.1 600 42 ≤ iI (j0 : Int) := by rw [d42, iI_le (by omega) (by omega) (by omega) (by omega)]; omega
    obtain ⟨n0, n1, n2, v0, v1, v2⟩ := jm3 (j := j0) (by omega)
    have e0 : D.1 619 (3 * j0) = f (3 * j0) := by rw [d3.1 _ _ (by omega)]; exact f0 _ (by omega)
    rcases r_row kT kA d2 hI iv (by omega) (f (3 * j0)) with ⟨y1, y2⟩ | ⟨y0, y1, y1', y2⟩ | ⟨w, y0, y1, y2, y3, y4, y4', y5, y6, y7, y8⟩
    · have nc : ¬ c_X8_rightMany_2 (l_X8_rightMany_2 (M, 0) j0) := by
        rw [d1]
        unfold c_X8_rightMany_2
        dsimp only
        rw [if_neg g, n0, e0, if_pos y1]
        exact fun h => h
      have cn : cntN (fun k => c_X8_rightMany_2 (l_X8_rightMany_2 (M, 0) k)) 7 = j0 := cntN_eq (by omega) cs nc
      rw [cn]
      rw [d1] at nc ⊢
      dsimp only
      rw [if_neg g, if_neg g, if_neg g, n0, e0, if_pos y1, if_pos y1, if_pos y1]
      exact ⟨⟨cs, qs, nc, v0, trivial⟩, rfl, d3, _, d2, iv', fun u => absurd u q⟩
    · have y3' := not_not_intro y1'
      have nc : ¬ c_X8_rightMany_2 (l_X8_rightMany_2 (M, 0) j0) := by
        rw [d1]
        unfold c_X8_rightMany_2
        dsimp only
        rw [if_neg g, n0, e0, if_neg y0, if_neg y3']
        exact fun h => h
      have cn : cntN (fun k => c_X8_rightMany_2 (l_X8_rightMany_2 (M, 0) k)) 7 = j0 := cntN_eq (by omega) cs nc
      rw [cn]
      rw [d1] at nc ⊢
      dsimp only
      rw [if_neg g, if_neg g, if_neg g, n0, e0, if_neg y0, if_neg y0, if_neg y0, if_neg y3', if_neg y3', if_neg y3']
      exact ⟨⟨cs, qs, nc, v0, y1, trivial⟩, rfl, d3, _, d2, iv', fun u => absurd u q⟩
    · have y9 : Fq (fun a k => a = 607 ∧ 22 ≤ k) D (w_X8_turns D (f (3 * j0))) := y8.q (fun k h1 h2 => by omega)
      have e1 : (w_X8_turns D (f (3 * j0))).1 619 (3 * j0 + 1) = f (3 * j0 + 1) := by rw [y9.1 _ _ (by omega), d3.1 _ _ (by omega), f0 _ (by omega)]
      have e2 : (w_X8_turns D (f (3 * j0))).1 619 (3 * j0 + 2) = f (3 * j0 + 2) := by rw [y9.1 _ _ (by omega), d3.1 _ _ (by omega), f0 _ (by omega)]
      have e3 : (w_X8_turns D (f (3 * j0))).1 607 (22 + 21) = iI (aTurn T (jS T S f j0) w 4 0) := y7.2.2.2.2
      have e4 : (w_X8_turns D (f (3 * j0))).1 600 10 = iI 22 := by rw [y9.1 _ _ (by omega)]; exact kA.1
      have it : InvS T (aTurn T (jS T S f j0) w) (mb + 14000) := (InvS.turn hI iv y1 (by omega)).mono (by omega) (by omega)
      by_cases m1 : f (3 * j0 + 1) = iI (aTurn T (jS T S f j0) w 4 0)
      · have m2 : ¬ f (3 * j0 + 2) = iI (aWorth T (jS T S f j0) w) := fun u => no ⟨w, y1, y0, y2, m1, u⟩
        have m1' := not_not_intro m1
        have nc : ¬ c_X8_rightMany_2 (l_X8_rightMany_2 (M, 0) j0) := by
          rw [d1]
          unfold c_X8_rightMany_2
          dsimp only
          rw [if_neg g, n0, n1, n2, e0, if_neg y3, if_pos y4', e4, n21, e1, e2, e3, y6, if_neg m1', if_neg m2]
          exact fun h => h
        have cn : cntN (fun k => c_X8_rightMany_2 (l_X8_rightMany_2 (M, 0) k)) 7 = j0 := cntN_eq (by omega) cs nc
        rw [cn]
        rw [d1] at nc ⊢
        dsimp only
        rw [if_neg g, if_neg g, if_neg g, n0, n1, n2, e0, if_neg y3, if_neg y3, if_neg y3, if_pos y4', if_pos y4', if_pos y4', e4, n21, e1, e2, e3, y6, if_neg m1', if_neg m1', if_neg m1', if_neg m2, if_neg m2, if_neg m2]
        exact ⟨⟨cs, qs, nc, v0, y4, y5, v1, v21, v2, trivial⟩, rfl, d3.tr y9, _, y7, it, fun u => absurd u q⟩
      · have nc : ¬ c_X8_rightMany_2 (l_X8_rightMany_2 (M, 0) j0) := by
          rw [d1]
          unfold c_X8_rightMany_2
          dsimp only
          rw [if_neg g, n0, n1, n2, e0, if_neg y3, if_pos y4', e4, n21, e1, e2, e3, y6, if_pos m1]
          exact fun h => h
        have cn : cntN (fun k => c_X8_rightMany_2 (l_X8_rightMany_2 (M, 0) k)) 7 = j0 := cntN_eq (by omega) cs nc
        rw [cn]
        rw [d1] at nc ⊢
        dsimp only
        rw [if_neg g, if_neg g, if_neg g, n0, n1, n2, e0, if_neg y3, if_neg y3, if_neg y3, if_pos y4', if_pos y4', if_pos y4', e4, n21, e1, e2, e3, y6, if_pos m1, if_pos m1, if_pos m1]
        exact ⟨⟨cs, qs, nc, v0, y4, y5, v1, v21, trivial⟩, rfl, d3.tr y9, _, y7, it, fun u => absurd u q⟩
theorem pair_judge (h : Rel M n) (hn : n < 64) : PairI (p_X7_judge M) (p_X8_judge (w_X7_judge M)) (r_X7_judge M) (r_X8_judge (w_X7_judge M)) (w_X8_judge (w_X7_judge M)) n := by
  obtain ⟨T, S, g, ⟨c1, c2, c3, c4⟩, ⟨r1, r2, r3, r4, r5⟩, i1, i2, i3, i4, i5⟩ := h.1
  have hc := i1.1
  obtain ⟨rc, w1, w2, w3, w4⟩ := h.2.1
  obtain ⟨j0, j1, j2, j3⟩ := fst_ex (fun j => jOk T (jS T S (fun i => M.1 550 i) j) (fun i => M.1 550 i) j) rc
  unfold p_X7_judge r_X7_judge w_X7_judge
  rw [w2]
  obtain ⟨y1, y2, y3⟩ := c_judge c1 c2 i1 i3 (by omega) w1 (f := fun i => M.1 550 i) (fun i hi => rfl) j1 j2 j3
  generalize w_X2_firstWrongRow M (iI (rc : Int)) = M1 at y3 ⊢
  have R1 : RT M1 T := r1.fq y3 (fun a k h => by omega)
  have R2 : RS M1 0 T S := r2.fq i1 y3 (fun k h1 h2 => by omega)
  obtain ⟨l1, l2, l3, l4, -, -, -, -, -⟩ := r_lends R1 R2 i1
  have F2 := lends_q R1 R2 i1
  have e42 : (w_X8_lends M1).1 600 42 = iI (rc : Int) := by rw [F2.1 _ _ (by omega), y3.1 _ _ (by omega)]; exact w3
  have e19 : ∀ i, i < 3 * rc → (w_X8_lends M1).1 619 i = M.1 550 i := fun i hi => by rw [F2.1 _ _ (by omega), y3.1 _ _ (by omega)]; exact (w4 i hi).symm
  unfold p_X8_judge r_X8_judge w_X8_judge
  generalize w_X8_lends M1 = M2 at l2 l3 l4 F2 e42 e19 ⊢
  obtain ⟨z1, z2, z3, S', z4, z5, z6⟩ := r_right l2 l3 l4 i1 i3 (by omega) w1 e42 (f := fun i => M.1 550 i) e19 j1 j2 j3
  rw [z2]
  generalize w_X8_rightMany M2 = M3 at z3 z4 ⊢
  obtain ⟨o1, o2⟩ := r_opn (l2.fq z3 (fun a k h => by omega)) (l3.fq z3 (by omega)) z4 i1 z5
  have ol := aOpn_le S' (T 0 2).toNat
  have e3 : (wi M3 600 10 0).1 600 42 = iI (rc : Int) := by rw [rd_ne (Or.inr (by omega)), z3.1 _ _ (by omega)]; exact e42
  have rel : Rel (wi M3 600 10 0) (n + 1) := h.scr (by omega) (fq_at0 (((y3.mono (fun a k h => Or.inl h)).tr (F2.mono (fun a k h => by omega))).tr (z3.mono (fun a k h => by omega))) r3.1)
  rw [e3, o2]
  by_cases q : j0 = rc
  · have ge : iI (rc : Int) ≤ iI (j0 : Int) := by rw [q]; exact Int32.le_refl _
    rw [if_pos q] at y2
    rw [if_pos ge, if_pos ge]
    refine ⟨⟨y1, trivial⟩, ⟨l1, z1, o1, by split <;> trivial⟩, ?_, rel⟩
    rw [y2, ← z6 q]
    have z : (iI ((aOpn S' (T 0 2).toNat : Nat) : Int) ≤ 0) ↔ aOpn S' (T 0 2).toNat = 0 := by rw [cl0, iI_le (by omega) (by omega) (by omega) (by omega)]; omega
    by_cases d : aOpn S' (T 0 2).toNat = 0
    · rw [if_pos (z.mpr d), if_pos d]
    · rw [if_neg (fun u => d (z.mp u)), if_neg d]
  · have ge : ¬ iI (rc : Int) ≤ iI (j0 : Int) := by rw [iI_le (by omega) (by omega) (by omega) (by omega)]; omega
    rw [if_neg q] at y2
    rw [if_neg ge, if_neg ge]
    exact ⟨⟨y1, trivial⟩, ⟨l1, z1, o1, trivial⟩, y2, rel⟩
end P76
