/-! set, behind, may, minutes, does -/
section P38
variable {M : Mm} {n : Nat}
theorem law_b : ∀ k, k < 4 → (0 ≤ (om_least k).toInt ∧ (om_most k).toInt ≤ 30) ∧ (k = 0 → (om_least k).toInt = 0 ∧ (om_most k).toInt = 9) ∧ (k = 1 → (om_least k).toInt = 0 ∧ (om_most k).toInt = 8) ∧ (k = 2 → (om_least k).toInt = 1 ∧ (om_most k).toInt = 30) ∧ (k = 3 → (om_least k).toInt = 1 ∧ (om_most k).toInt = 20) := by decide +kernel
theorem pair_set (h : Rel M n) (hn : n < 64) (a1 a2 : Int32) : PairI (p_X7_set M a1 a2) (p_X8_set (w_X7_set M a1 a2) a1 a2) (r_X7_set M a1 a2) (r_X8_set (w_X7_set M a1 a2) a1 a2) (w_X8_set (w_X7_set M a1 a2) a1 a2) n := by
  obtain ⟨x, rfl, x1, x2⟩ := ex_iI a1
  obtain ⟨y, rfl, y1, y2⟩ := ex_iI a2
  obtain ⟨T, S, g, ⟨c1, c2, c3, c4⟩, ⟨r1, r2, r3, r4, r5⟩, i1, i2, i3, i4, i5⟩ := h.1
  have hcc := h.2.2.2.2.2.2.2
  have hx : (0 ≤ iI x ∧ iI x ≤ 3) ↔ (0 ≤ x ∧ x ≤ 3) := by rw [cl0, cl3]; exact wb x1 x2 (by omega) (by omega) (by omega) (by omega)
  have nx : Int32.toNatClampNeg (iI x) = x.toNat := iI_nat x1 x2
  unfold p_X7_set p_X8_set r_X7_set r_X8_set w_X8_set w_X7_set
  by_cases cx : 0 ≤ x ∧ x ≤ 3
  · have qx := b2i_1.mpr (hx.mpr cx)
    have vx : vp_in (iI x) 4 := vin_iI (by omega) (by omega) (by omega)
    obtain ⟨k1, k2⟩ := hcc x.toNat (by omega)
    simp only [if_neg qx, nx]
    by_cases cy : om_least x.toNat ≤ iI y ∧ iI y ≤ om_most x.toNat
    · have qy := b2i_1.mpr cy
      have q5 : (wi M 104 x.toNat (iI y)).1 605 x.toNat = om_least x.toNat := by rw [rd_ne (Or.inl (by omega))]; exact k1
      have q6 : (wi M 104 x.toNat (iI y)).1 606 x.toNat = om_most x.toNat := by rw [rd_ne (Or.inl (by omega))]; exact k2
      have q4 : (wi M 104 x.toNat (iI y)).1 604 x.toNat = M.1 604 x.toNat := rd_ne (Or.inl (by omega))
      simp only [if_pos qy, q5, q6, q4]
      have e7 : M.1 104 x.toNat = iI (T 3 x.toNat) := c1.2.2.2.1 x.toNat (by omega)
      have e8 : M.1 604 x.toNat = iI (T 3 x.toNat) := r1.2.2.2.1 x.toNat (by omega)
      refine ⟨⟨vx, vx, vx, vx, trivial⟩, ⟨vx, vx, vx, vx, trivial⟩, e7.trans e8.symm, ?_⟩
      have F : Fp (fun a k => (a = 104 ∨ a = 604) ∧ k = x.toNat) M (wi (wi M 104 x.toNat (iI y)) 604 x.toNat (iI y)) := Fp.wi (Fp.wi Fp.rf (by omega)) (by omega)
      have by1 : (om_least x.toNat).toInt ≤ y ∧ y ≤ (om_most x.toNat).toInt := by
        rw [Int32.le_iff_toInt_le, Int32.le_iff_toInt_le, iI_toInt y1 y2] at cy
        exact cy
      have e0 : ∀ k, tU T 3 x.toNat y 0 k = T 0 k := fun k => tU_n (by omega)
      have eo : ∀ i k, i ≠ 3 → tU T 3 x.toNat y i k = T i k := fun i k hi => tU_n (Or.inl hi)
      have j1 : InvT (tU T 3 x.toNat y) := by
        obtain ⟨g1, g2, g3, g4, g5⟩ := i1
        unfold InvT WkI
        simp only [e0, eo 1 _ (by omega), eo 2 _ (by omega)]
        refine ⟨g1, g2, g3, ?_, fun w hw => by simp only [eo (10 + w) _ (by omega)]; exact g5 w hw⟩
        have lb := law_b x.toNat (by omega)
        have t : ∀ k, tU T 3 x.toNat y 3 k = if k = x.toNat then y else T 3 k := fun k => by
          by_cases q : k = x.toNat
          · rw [if_pos q, q, tU_s]
          · rw [if_neg q, tU_n (Or.inr q)]
        rw [t, t, t, t]
        have hk : x.toNat = 0 ∨ x.toNat = 1 ∨ x.toNat = 2 ∨ x.toNat = 3 := by omega
        rcases hk with q | q | q | q
        · have := lb.2.1 q
          rw [q, if_pos rfl, if_neg (by omega), if_neg (by omega), if_neg (by omega)]
          exact ⟨by omega, g4.2⟩
        · have := lb.2.2.1 q
          rw [q, if_neg (by omega), if_pos rfl, if_neg (by omega), if_neg (by omega)]
          exact ⟨g4.1, by omega, g4.2.2⟩
        · have := lb.2.2.2.1 q
          rw [q, if_neg (by omega), if_neg (by omega), if_pos rfl, if_neg (by omega)]
          exact ⟨g4.1, g4.2.1, by omega, g4.2.2.2⟩
        · have := lb.2.2.2.2 q
          rw [q, if_neg (by omega), if_neg (by omega), if_neg (by omega), if_pos rfl]
          exact ⟨g4.1, g4.2.1, g4.2.2.1, by omega⟩
      refine h.of (by omega) F (Or.inr ⟨tU T 3 x.toNat y, S, g, ⟨⟨?_, ?_, ?_, fun k hk => ?_, fun w f hw hf => ?_⟩, (c2.fp (fun a k h1 h2 => (F a k (by omega)).1)).eq0 e0, by rw [(F _ _ (by omega)).1]; exact c3, CRu.eq (T := T) ⟨by rw [(F _ _ (by omega)).1]; exact c4.1, fun z h0 h1 => ⟨by rw [(F _ _ (by omega)).1]; exact (c4.2 z h0 h1).1, by rw [(F _ _ (by omega)).1]; exact (c4.2 z h0 h1).2⟩⟩ (e0 3) (fun k => eo 4 k (by omega)) (fun k => eo 5 k (by omega))⟩, ⟨⟨?_, ?_, ?_, fun k hk => ?_, fun w f hw hf => ?_⟩, (r2.fp i1 (fun k h1 h2 => (F 607 k (by omega)).1)).eq0 e0, ⟨by rw [(F _ _ (by omega)).1]; exact r3.1, r3.2⟩, by rw [(F _ _ (by omega)).1]; exact r4, (r5.fp (fun a k h1 => (F a k (by omega)).1)).eq (e0 3) (fun k => eo 4 k (by omega)) (fun k => eo 5 k (by omega))⟩, j1, i2.eq (e0 3) (fun k => eo 4 k (by omega)) (fun k => eo 5 k (by omega)), (i3.up (Nat.le_succ n) (by omega)).eq0 e0, i4, by omega⟩) (Or.inl fun a k h => by omega) (Or.inl fun a k h => by omega) (Or.inl fun a k h => by omega) (Or.inl fun a k h => by omega) (Or.inl fun a k h => by omega) (Or.inl fun a k h => by omega) (fun a k h => by omega)
      · simp only [e0, (F 100 _ (by omega)).1]; exact c1.1
      · intro z h0 h1
        rw [e0] at h1
        rw [eo _ _ (by omega), (F _ _ (by omega)).1]; exact c1.2.1 z h0 h1
      · intro z h0 h1
        rw [e0] at h1
        rw [eo _ _ (by omega), (F _ _ (by omega)).1]; exact c1.2.2.1 z h0 h1
      · by_cases q : k = x.toNat
        · rw [q, tU_s, rd_ne (Or.inl (by omega)), rd_same]
        · rw [tU_n (Or.inr q), (F _ _ (by omega)).1]; exact c1.2.2.2.1 k hk
      · rw [e0] at hw
        have := i1.1
        rw [eo _ _ (by omega), (F _ _ (by omega)).1]; exact c1.2.2.2.2 w f hw hf
      · simp only [e0, (F 600 _ (by omega)).1]; exact r1.1
      · intro z h0 h1
        rw [e0] at h1
        rw [eo _ _ (by omega), (F _ _ (by omega)).1]; exact r1.2.1 z h0 h1
      · intro z h0 h1
        rw [e0] at h1
        rw [eo _ _ (by omega), (F _ _ (by omega)).1]; exact r1.2.2.1 z h0 h1
      · by_cases q : k = x.toNat
        · rw [q, tU_s, rd_same]
        · rw [tU_n (Or.inr q), (F _ _ (by omega)).1]; exact r1.2.2.2.1 k hk
      · rw [e0] at hw
        rw [eo _ _ (by omega), (F _ _ (by omega)).1]; exact r1.2.2.2.2 w f hw hf
    · have qy : ¬ ¬ b2i (om_least x.toNat ≤ iI y ∧ iI y ≤ om_most x.toNat) = 0 := fun z => cy (b2i_1.mp z)
      simp only [if_neg qy, k1, k2]
      exact ⟨⟨vx, vx, trivial⟩, ⟨vx, vx, trivial⟩, rfl, h.up (by omega)⟩
  · have qx : b2i (0 ≤ iI x ∧ iI x ≤ 3) = 0 := b2i_0.mpr (fun z => cx (hx.mp z))
    have n0 : ¬ 0 = iI x := by rw [cl0, iI_eq (by omega) (by omega) (by omega) (by omega)]; omega
    simp only [if_pos qx, if_pos n0]
    exact ⟨trivial, trivial, rfl, h.up (by omega)⟩
theorem pair_may (h : Rel M n) (hn : n < 64) : PairI (p_X7_may M) (p_X8_may M) (r_X7_may M) (r_X8_may M) M n := by
  obtain ⟨T, S, g, ⟨c1, c2, c3, c4⟩, ⟨r1, r2, r3, r4, r5⟩, i1, i2, i3, i4, i5⟩ := h.1
  have a := c_may c1 c2 i1 i3
  have b := r_may r1 r3 r2 i1 i3
  exact ⟨⟨a.1, trivial⟩, ⟨b.1, trivial⟩, a.2.trans b.2.symm, h.up (by omega)⟩
theorem pair_minutes (h : Rel M n) (hn : n < 64) (a1 : Int32) : PairI (p_X7_minutes M a1) (p_X8_minutes (w_X7_minutes M a1) a1) (r_X7_minutes M a1) (r_X8_minutes (w_X7_minutes M a1) a1) (w_X8_minutes (w_X7_minutes M a1) a1) n := by
  obtain ⟨x, rfl, x1, x2⟩ := ex_iI a1
  obtain ⟨T, S, g, ⟨c1, c2, c3, c4⟩, ⟨r1, r2, r3, r4, r5⟩, i1, i2, i3, i4, i5⟩ := h.1
  have h7 := c_has c1 i1 x1 x2
  have h8 := r_isWork r1 i1 x1 x2
  unfold p_X7_minutes p_X8_minutes r_X7_minutes r_X8_minutes w_X8_minutes w_X7_minutes
  by_cases c : 0 ≤ x ∧ x < T 0 2
  · obtain ⟨w, rfl⟩ : ∃ w : Nat, x = (w : Int) := ⟨x.toNat, by omega⟩
    obtain ⟨p1, p2, p3⟩ := c_min c1 c2 i1 i3 c.2
    obtain ⟨q1, q2, q3⟩ := r_min r1 r3 r2 i1 i3 c.2
    have b7 := b2i_1.mpr (h7.mpr c)
    have b8 := b2i_1.mpr (h8.mpr c)
    simp only [if_neg b7, p3, if_neg b8, q3, p2, q2]
    exact ⟨⟨p1, trivial⟩, ⟨q1, trivial⟩, rfl, h.up (by omega)⟩
  · have b7 := b2i_0.mpr (fun z => c (h7.mp z))
    have b8 := b2i_0.mpr (fun z => c (h8.mp z))
    simp only [if_pos b7, if_pos b8]
    exact ⟨trivial, trivial, rfl, h.up (by omega)⟩
theorem pair_does (h : Rel M n) (hn : n < 64) (a1 : Int32) : PairI (p_X7_does M a1) (p_X8_does (w_X7_does M a1) a1) (r_X7_does M a1) (r_X8_does (w_X7_does M a1) a1) (w_X8_does (w_X7_does M a1) a1) n := by
  obtain ⟨x, rfl, x1, x2⟩ := ex_iI a1
  obtain ⟨T, S, g, ⟨c1, c2, c3, c4⟩, ⟨r1, r2, r3, r4, r5⟩, i1, i2, i3, i4, i5⟩ := h.1
  have hc := i1.1
  have h7 := c_has c1 i1 x1 x2
  have h8 := r_isWork r1 i1 x1 x2
  have h6 : (M.1 100 2).toInt ≤ 6 := by rw [c1.1.2.2, iI_toInt (by omega) (by omega)]; omega
  unfold p_X7_does p_X8_does r_X7_does r_X8_does w_X8_does w_X7_does
  by_cases c : 0 ≤ x ∧ x < T 0 2
  · obtain ⟨w, rfl⟩ : ∃ w : Nat, x = (w : Int) := ⟨x.toNat, by omega⟩
    have b7 := b2i_1.mpr (h7.mpr c)
    have b8 := b2i_1.mpr (h8.mpr c)
    have f7 := c_free c1 c2 i1 i3 c.2
    obtain ⟨f8, f9⟩ := r_free r1 r3 r2 i1 i3 c.2
    by_cases cf : aFree T S w
    · have bf := b2i_1.mpr (f7.mpr cf)
      obtain ⟨l, hl⟩ : ∃ l : Int, M.1 1000 6 = iI l := ⟨_, iI_of _⟩
      obtain ⟨p1, p2, p3, p4, p5, p6⟩ := c_carry (s := 1000) (by omega) c1 c2 c3 hl i1 i3 (by omega) c.2 cf.2
      simp only [if_pos b7, if_neg bf]
      obtain ⟨M1, hM1⟩ : ∃ M1, M1 = w_X5_carryOut M 1000 (iI (w : Int)) := ⟨_, rfl⟩
      rw [← hM1] at p3 p4 p5 p6 ⊢
      have FR : ∀ a k, 600 ≤ a → a < 700 → M1.1 a k = M.1 a k := fun a k h1 h2 => p6.at (by omega) k
      have R1 : RT M1 T := r1.fp (fun a k h1 => FR a k (by omega) (by omega))
      have R2 : RS M1 0 T S := r2.fp i1 (fun k h1 h2 => FR 607 k (by omega) (by omega))
      have R3 : RA M1 0 := ⟨by rw [FR _ _ (by omega) (by omega)]; exact r3.1, r3.2⟩
      have b8' := b2i_1.mpr ((r_isWork R1 i1 x1 x2).mpr c)
      obtain ⟨g8, g9⟩ := r_free R1 R3 R2 i1 i3 c.2
      rw [if_pos cf] at g9
      obtain ⟨q1, q2, q3, q4⟩ := r_turns R1 R3 R2 i1 i3 (by omega) c.2
      simp only [if_pos b8', g9, show ¬ (1 : Int32) = 0 by decide, not_false_eq_true, if_true]
      refine ⟨⟨h6, p1, trivial⟩, ⟨g8, q1, trivial⟩, p2.trans q2.symm, ?_⟩
      obtain ⟨M2, hM2⟩ : ∃ M2, M2 = w_X8_turns M1 (iI (w : Int)) := ⟨_, rfl⟩
      rw [← hM2] at q3 q4 ⊢
      have e11 : M2.1 600 11 = iI g := by rw [q4.1.at (by omega), FR _ _ (by omega) (by omega)]; exact r4
      rw [e11, q2, iI_add]
      have F12 : Fp (fun a k => (1000 ≤ a ∧ a ≤ 1004) ∨ a = 607) M M2 := Fp.tr (p6.p (fun a k h => by omega)) (q4.1.p (fun a k h => by omega))
      have F : Fp (fun a k => (1000 ≤ a ∧ a ≤ 1004) ∨ a = 607 ∨ (a = 600 ∧ k = 11)) M (wi M2 600 11 (iI (g + aWorth T S w))) := Fp.wi (F12.mono (fun a k h => by omega)) (by omega)
      have hw := aWorth_b (S := S) i1 c.2
      refine h.of (by omega) F (Or.inr ⟨T, aTurn T S w, g + aWorth T S w, ⟨c1.fp i1 (fun a k h1 h2 => (F a k (by omega)).1), ?_, ?_, c4.fp (fun a k h1 h2 => (F a k (by omega)).1)⟩, ⟨r1.fp (fun a k h1 => (F a k (by omega)).1), ?_, ⟨by rw [(F _ _ (by omega)).1]; exact r3.1, r3.2⟩, rd_same _ _ _ _, r5.fp (fun a k h1 => (F a k (by omega)).1)⟩, i1, i2, ?_, by omega, by omega⟩) (Or.inl fun a k h => by omega) (Or.inl fun a k h => by omega) (Or.inl fun a k h => by omega) (Or.inl fun a k h => by omega) (Or.inl fun a k h => by omega) (Or.inl fun a k h => by omega) (fun a k h => by omega)
      · exact p3.fp (fun a k h1 h2 => by rw [rd_ne (Or.inl (by omega))]; exact q4.1.at (by omega) k)
      · rw [rd_ne (Or.inl (by omega)), q4.1.at (by omega)]; exact p4
      · exact q3.fp i1 (fun k h1 h2 => rd_ne (Or.inl (by omega)))
      · exact (InvS.turn i1 i3 c.2 (by omega)).mono (by omega) (by omega)
    · have bf := b2i_0.mpr (fun z => cf (f7.mp z))
      rw [if_neg cf] at f9
      simp only [if_pos b7, if_pos bf, if_pos b8, f9, not_true_eq_false, if_false]
      exact ⟨⟨h6, trivial⟩, ⟨f8, trivial⟩, rfl, h.up (by omega)⟩
  · have b7 : ¬ ¬ b2i (cHas M (iI x)) = 0 := not_not_intro (b2i_0.mpr (fun z => c (h7.mp z)))
    have b8 : ¬ ¬ b2i (0 ≤ iI x ∧ iI x ≤ M.1 600 2 - 1) = 0 := not_not_intro (b2i_0.mpr (fun z => c (h8.mp z)))
    simp only [if_neg b7, if_neg b8]
    exact ⟨trivial, trivial, rfl, h.up (by omega)⟩
end P38
