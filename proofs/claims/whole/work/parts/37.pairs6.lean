/-! at, put, set, behind, workOf -/
section P37
variable {M : Mm} {n : Nat}
theorem there_iff {T : Tw} (hT : CT M 100 T) (hI : InvT T) {x y : Int} (x1 : -2147483648 ≤ x) (x2 : x < 2147483648) (y1 : -2147483648 ≤ y) (y2 : y < 2147483648) : r_X5_isThere M (iI x) (iI y) = if (x = 0 ∧ 0 ≤ y ∧ y < T 0 0) ∨ (x = 1 ∧ 0 ≤ y ∧ y < T 0 1) then 1 else 0 := by
  have hc := hI.1
  unfold r_X5_isThere
  simp (disch := omega) only [hT.1.1, hT.1.2.1, cl0, cl1, iI_lt, iI_le, iI_eq]
  by_cases c1 : y < 0
  · rw [if_pos c1, if_neg (by omega)]
  · rw [if_neg c1]
    by_cases c2 : x = 0
    · rw [if_neg (not_not_intro c2)]
      by_cases c3 : y < T 0 0
      · rw [if_pos c3, if_pos (Or.inl ⟨c2, by omega, c3⟩)]
      · rw [if_neg c3, if_pos (show ¬ x = 1 by omega), if_neg (by omega)]
    · rw [if_pos c2]
      by_cases c4 : x = 1
      · rw [if_neg (not_not_intro c4)]
        by_cases c5 : T 0 1 ≤ y
        · rw [if_pos c5, if_neg (by omega)]
        · rw [if_neg c5, if_pos (Or.inr ⟨c4, by omega, by omega⟩)]
      · rw [if_pos c4, if_neg (by omega)]
theorem moved_iff {T : Tw} (hT : RT M T) (hI : InvT T) {x y : Int} (x1 : -2147483648 ≤ x) (x2 : x < 2147483648) (y1 : -2147483648 ≤ y) (y2 : y < 2147483648) : ((iI x = 0 ∧ 0 ≤ iI y ∧ iI y ≤ M.1 600 0 - 1) ∨ (iI x = 1 ∧ 0 ≤ iI y ∧ iI y ≤ M.1 600 1 - 1)) ↔ ((x = 0 ∧ 0 ≤ y ∧ y < T 0 0) ∨ (x = 1 ∧ 0 ≤ y ∧ y < T 0 1)) := by
  have hc := hI.1
  rw [hT.1.1, hT.1.2.1, cl0, cl1, iI_sub, iI_sub, iI_le (by omega) (by omega) (by omega) (by omega), iI_le (by omega) (by omega) (by omega) (by omega), iI_le (by omega) (by omega) (by omega) (by omega), iI_eq (by omega) (by omega) (by omega) (by omega), iI_eq (by omega) (by omega) (by omega) (by omega)]
  omega
theorem pair_at (h : Rel M n) (hn : n < 64) (a1 a2 : Int32) : PairI (p_X7_at M a1 a2) (p_X8_at M a1 a2) (r_X7_at M a1 a2) (r_X8_at M a1 a2) M n := by
  obtain ⟨x, rfl, x1, x2⟩ := ex_iI a1
  obtain ⟨y, rfl, y1, y2⟩ := ex_iI a2
  obtain ⟨T, S, g, ⟨c1, c2, c3, c4⟩, ⟨r1, r2, r3, r4, r5⟩, i1, i2, i3, i4, i5⟩ := h.1
  have hc := i1.1
  have h7 := there_iff c1 i1 x1 x2 y1 y2
  have h8 := moved_iff r1 i1 x1 x2 y1 y2
  have x0 : (iI x = 0) ↔ x = 0 := by rw [cl0, iI_eq (by omega) (by omega) (by omega) (by omega)]
  unfold p_X7_at p_X8_at r_X7_at r_X8_at
  rw [h7]
  by_cases c : (x = 0 ∧ 0 ≤ y ∧ y < T 0 0) ∨ (x = 1 ∧ 0 ≤ y ∧ y < T 0 1)
  · have q8 := b2i_1.mpr (h8.mpr c)
    have ny : Int32.toNatClampNeg (iI y) = y.toNat := iI_nat y1 y2
    rw [if_pos c, if_neg (show ¬ (1 : Int32) = 0 by decide), if_neg (show ¬ (1 : Int32) = 0 by decide), if_neg q8, if_neg q8, ny]
    by_cases c0 : x = 0
    · have m3 : Int32.toNatClampNeg (0 + iI y) = 0 + y.toNat := by rw [cl0, iI_add]; exact natk (by omega) (by omega)
      rw [if_pos (x0.mpr c0), if_pos (x0.mpr c0), if_neg (not_not_intro (x0.mpr c0)), if_neg (not_not_intro (x0.mpr c0)), m3]
      refine ⟨⟨vin_iI (by omega) (by omega) (by omega), trivial⟩, ⟨by rw [cl0, iI_add]; exact vin_iI (by omega) (by omega) (by omega), trivial⟩, ?_, h.up (by omega)⟩
      exact (c2.1 y (by omega) (by omega)).trans (r2.1 y (by omega) (by omega)).symm
    · have n0 := fun z => c0 (x0.mp z)
      have m3 : Int32.toNatClampNeg (3 + iI y) = 0 + 3 + y.toNat := by rw [cl3, iI_add]; exact natk (by omega) (by omega)
      rw [if_neg n0, if_neg n0, if_pos n0, if_pos n0, m3]
      refine ⟨⟨vin_iI (by omega) (by omega) (by omega), trivial⟩, ⟨by rw [cl3, iI_add]; exact vin_iI (by omega) (by omega) (by omega), trivial⟩, ?_, h.up (by omega)⟩
      exact (c2.2.1 y (by omega) (by omega)).trans (r2.2.1 y (by omega) (by omega)).symm
  · have q8 := b2i_0.mpr (fun z => c (h8.mp z))
    rw [if_neg c, if_pos rfl, if_pos rfl, if_pos q8, if_pos q8]
    exact ⟨trivial, trivial, rfl, h.up (by omega)⟩
theorem pair_put (h : Rel M n) (hn : n < 64) (a1 a2 a3 : Int32) : PairI (p_X7_put M a1 a2 a3) (p_X8_put (w_X7_put M a1 a2 a3) a1 a2 a3) (r_X7_put M a1 a2 a3) (r_X8_put (w_X7_put M a1 a2 a3) a1 a2 a3) (w_X8_put (w_X7_put M a1 a2 a3) a1 a2 a3) n := by
  obtain ⟨x, rfl, x1, x2⟩ := ex_iI a1
  obtain ⟨y, rfl, y1, y2⟩ := ex_iI a2
  obtain ⟨z, rfl, z1, z2⟩ := ex_iI a3
  obtain ⟨T, S, g, ⟨c1, c2, c3, c4⟩, ⟨r1, r2, r3, r4, r5⟩, i1, i2, i3, i4, i5⟩ := h.1
  have hc := i1.1
  have h7 := there_iff c1 i1 x1 x2 y1 y2
  have h8 := moved_iff r1 i1 x1 x2 y1 y2
  have x0 : (iI x = 0) ↔ x = 0 := by rw [cl0, iI_eq (by omega) (by omega) (by omega) (by omega)]
  have hz : (0 ≤ iI z ∧ iI z ≤ 9) ↔ (0 ≤ z ∧ z ≤ 9) := by rw [cl0, cl9]; exact wb z1 z2 (by omega) (by omega) (by omega) (by omega)
  have ny : Int32.toNatClampNeg (iI y) = y.toNat := iI_nat y1 y2
  unfold p_X7_put p_X8_put r_X7_put r_X8_put w_X8_put w_X7_put
  rw [h7]
  by_cases c : (x = 0 ∧ 0 ≤ y ∧ y < T 0 0) ∨ (x = 1 ∧ 0 ≤ y ∧ y < T 0 1)
  · have q8 := b2i_1.mpr (h8.mpr c)
    by_cases cz : 0 ≤ z ∧ z ≤ 9
    · have qz := b2i_1.mpr (hz.mpr cz)
      simp only [if_pos c, show ¬ (1 : Int32) = 0 by decide, if_false, if_pos qz, ny]
      by_cases c0 : x = 0
      · have m3 : Int32.toNatClampNeg (0 + iI y) = y.toNat := by rw [cl0, iI_add]; exact natk (by omega) (by omega)
        have n0 := not_not_intro (x0.mpr c0)
        have e0 : (wi M 1001 y.toNat (iI z)).1 600 0 = M.1 600 0 := rd_ne (Or.inl (by omega))
        have e1 : (wi M 1001 y.toNat (iI z)).1 600 1 = M.1 600 1 := rd_ne (Or.inl (by omega))
        have e7 : (wi M 1001 y.toNat (iI z)).1 607 y.toNat = M.1 607 y.toNat := rd_ne (Or.inl (by omega))
        simp only [if_pos (x0.mpr c0), e0, e1, if_neg q8, if_neg n0, m3, e7]
        have v3 : vp_in (iI y) 3 := vin_iI (by omega) (by omega) (by omega)
        have v44 : vp_in (0 + iI y) 44 := by rw [cl0, iI_add]; exact vin_iI (by omega) (by omega) (by omega)
        have rr := r2.1 y (by omega) (by omega)
        rw [Nat.zero_add] at rr
        refine ⟨⟨v3, v3, trivial⟩, ⟨v44, v44, trivial⟩, (c2.1 y (by omega) (by omega)).trans rr.symm, ?_⟩
        have F : Fp (fun a k => (a = 1001 ∨ a = 607) ∧ k = y.toNat) M (wi (wi M 1001 y.toNat (iI z)) 607 y.toNat (iI z)) := Fp.wi (Fp.wi Fp.rf (by omega)) (by omega)
        refine h.of (by omega) F (Or.inr ⟨T, tU S 0 y.toNat z, g, ⟨c1.fp i1 (fun a k h1 h2 => (F a k (by omega)).1), ⟨fun w h0 h1 => ?_, fun w h0 h1 => ?_, fun w h0 h1 => ?_, fun w h0 h1 => ?_, ?_⟩, by rw [(F _ _ (by omega)).1]; exact c3, c4.fp (fun a k h1 h2 => (F a k (by omega)).1)⟩, ⟨r1.fp (fun a k h1 => (F a k (by omega)).1), ⟨fun w h0 h1 => ?_, fun w h0 h1 => ?_, fun w h0 h1 => ?_, fun w h0 h1 => ?_, ?_⟩, ⟨by rw [(F _ _ (by omega)).1]; exact r3.1, r3.2⟩, by rw [(F _ _ (by omega)).1]; exact r4, r5.fp (fun a k h1 => (F a k (by omega)).1)⟩, i1, i2, ?_, i4, by omega⟩) (Or.inl fun a k h => by omega) (Or.inl fun a k h => by omega) (Or.inl fun a k h => by omega) (Or.inl fun a k h => by omega) (Or.inl fun a k h => by omega) (Or.inl fun a k h => by omega) (fun a k h => by omega)
        · by_cases q : w.toNat = y.toNat
          · rw [q, tU_s, rd_ne (Or.inl (by omega)), rd_same]
          · rw [tU_n (Or.inr q), (F _ _ (by omega)).1]; exact c2.1 w h0 h1
        · rw [tU_n (by omega), (F _ _ (by omega)).1]; exact c2.2.1 w h0 h1
        · rw [tU_n (by omega), (F _ _ (by omega)).1]; exact c2.2.2.1 w h0 h1
        · rw [tU_n (by omega), (F _ _ (by omega)).1]; exact c2.2.2.2.1 w h0 h1
        · rw [tU_n (by omega), (F _ _ (by omega)).1]; exact c2.2.2.2.2
        · by_cases q : w.toNat = y.toNat
          · rw [q, tU_s, Nat.zero_add, rd_same]
          · rw [tU_n (Or.inr q), (F _ _ (by omega)).1]; exact r2.1 w h0 h1
        · rw [tU_n (by omega), (F _ _ (by omega)).1]; exact r2.2.1 w h0 h1
        · rw [tU_n (by omega), (F _ _ (by omega)).1]; exact r2.2.2.1 w h0 h1
        · rw [tU_n (by omega), (F _ _ (by omega)).1]; exact r2.2.2.2.1 w h0 h1
        · rw [tU_n (by omega), (F _ _ (by omega)).1]; exact r2.2.2.2.2
        · obtain ⟨j1, j2, j3, j4, j5, j6⟩ := i3.up (Nat.le_succ n) (by omega)
          refine ⟨fun w h0 h1 => ?_, fun w h0 h1 => ?_, fun w h0 h1 => ?_, fun w h0 h1 => ?_, ?_, j6⟩
          · by_cases q : w.toNat = y.toNat
            · rw [q, tU_s]; exact cz
            · rw [tU_n (Or.inr q)]; exact j1 w h0 h1
          · rw [tU_n (by omega)]; exact j2 w h0 h1
          · rw [tU_n (by omega)]; exact j3 w h0 h1
          · rw [tU_n (by omega)]; exact j4 w h0 h1
          · rw [tU_n (by omega)]; exact j5
      · have n0 := fun z => c0 (x0.mp z)
        have m3 : Int32.toNatClampNeg (3 + iI y) = 3 + y.toNat := by rw [cl3, iI_add]; exact natk (by omega) (by omega)
        have e0 : (wi M 1002 y.toNat (iI z)).1 600 0 = M.1 600 0 := rd_ne (Or.inl (by omega))
        have e1 : (wi M 1002 y.toNat (iI z)).1 600 1 = M.1 600 1 := rd_ne (Or.inl (by omega))
        have e7 : (wi M 1002 y.toNat (iI z)).1 607 (3 + y.toNat) = M.1 607 (3 + y.toNat) := rd_ne (Or.inl (by omega))
        simp only [if_neg n0, e0, e1, if_neg q8, if_pos n0, m3, e7]
        have v3 : vp_in (iI y) 6 := vin_iI (by omega) (by omega) (by omega)
        have v44 : vp_in (3 + iI y) 44 := by rw [cl3, iI_add]; exact vin_iI (by omega) (by omega) (by omega)
        have rr := r2.2.1 y (by omega) (by omega)
        rw [show 0 + 3 + y.toNat = 3 + y.toNat by omega] at rr
        refine ⟨⟨v3, v3, trivial⟩, ⟨v44, v44, trivial⟩, (c2.2.1 y (by omega) (by omega)).trans rr.symm, ?_⟩
        have F : Fp (fun a k => (a = 1002 ∧ k = y.toNat) ∨ (a = 607 ∧ k = 3 + y.toNat)) M (wi (wi M 1002 y.toNat (iI z)) 607 (3 + y.toNat) (iI z)) := Fp.wi (Fp.wi Fp.rf (by omega)) (by omega)
        refine h.of (by omega) F (Or.inr ⟨T, tU S 1 y.toNat z, g, ⟨c1.fp i1 (fun a k h1 h2 => (F a k (by omega)).1), ⟨fun w h0 h1 => ?_, fun w h0 h1 => ?_, fun w h0 h1 => ?_, fun w h0 h1 => ?_, ?_⟩, by rw [(F _ _ (by omega)).1]; exact c3, c4.fp (fun a k h1 h2 => (F a k (by omega)).1)⟩, ⟨r1.fp (fun a k h1 => (F a k (by omega)).1), ⟨fun w h0 h1 => ?_, fun w h0 h1 => ?_, fun w h0 h1 => ?_, fun w h0 h1 => ?_, ?_⟩, ⟨by rw [(F _ _ (by omega)).1]; exact r3.1, r3.2⟩, by rw [(F _ _ (by omega)).1]; exact r4, r5.fp (fun a k h1 => (F a k (by omega)).1)⟩, i1, i2, ?_, i4, by omega⟩) (Or.inl fun a k h => by omega) (Or.inl fun a k h => by omega) (Or.inl fun a k h => by omega) (Or.inl fun a k h => by omega) (Or.inl fun a k h => by omega) (Or.inl fun a k h => by omega) (fun a k h => by omega)
        · rw [tU_n (by omega), (F _ _ (by omega)).1]; exact c2.1 w h0 h1
        · by_cases q : w.toNat = y.toNat
          · rw [q, tU_s, rd_ne (Or.inl (by omega)), rd_same]
          · rw [tU_n (Or.inr q), (F _ _ (by omega)).1]; exact c2.2.1 w h0 h1
        · rw [tU_n (by omega), (F _ _ (by omega)).1]; exact c2.2.2.1 w h0 h1
        · rw [tU_n (by omega), (F _ _ (by omega)).1]; exact c2.2.2.2.1 w h0 h1
        · rw [tU_n (by omega), (F _ _ (by omega)).1]; exact c2.2.2.2.2
        · rw [tU_n (by omega), (F _ _ (by omega)).1]; exact r2.1 w h0 h1
        · by_cases q : w.toNat = y.toNat
          · rw [q, tU_s, show 0 + 3 + y.toNat = 3 + y.toNat by omega, rd_same]
          · rw [tU_n (Or.inr q), (F _ _ (by omega)).1]; exact r2.2.1 w h0 h1
        · rw [tU_n (by omega), (F _ _ (by omega)).1]; exact r2.2.2.1 w h0 h1
        · rw [tU_n (by omega), (F _ _ (by omega)).1]; exact r2.2.2.2.1 w h0 h1
        · rw [tU_n (by omega), (F _ _ (by omega)).1]; exact r2.2.2.2.2
        · obtain ⟨j1, j2, j3, j4, j5, j6⟩ := i3.up (Nat.le_succ n) (by omega)
          refine ⟨fun w h0 h1 => ?_, fun w h0 h1 => ?_, fun w h0 h1 => ?_, fun w h0 h1 => ?_, ?_, j6⟩
          · rw [tU_n (by omega)]; exact j1 w h0 h1
          · by_cases q : w.toNat = y.toNat
            · rw [q, tU_s]; exact cz
            · rw [tU_n (Or.inr q)]; exact j2 w h0 h1
          · rw [tU_n (by omega)]; exact j3 w h0 h1
          · rw [tU_n (by omega)]; exact j4 w h0 h1
          · rw [tU_n (by omega)]; exact j5
    · have qz : ¬ ¬ b2i (0 ≤ iI z ∧ iI z ≤ 9) = 0 := fun w => cz (hz.mp (b2i_1.mp w))
      simp only [if_pos c, show ¬ (1 : Int32) = 0 by decide, if_false, if_neg qz, if_neg q8]
      exact ⟨trivial, trivial, rfl, h.up (by omega)⟩
  · have q8 := b2i_0.mpr (fun z => c (h8.mp z))
    simp only [if_neg c, if_true, if_pos q8]
    exact ⟨trivial, trivial, rfl, h.up (by omega)⟩
end P37
