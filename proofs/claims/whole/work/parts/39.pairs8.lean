/-! many, behind, item, write -/
section P39
variable {M : Mm} {n : Nat}
theorem pair_many (h : Rel M n) (hn : n < 64) (a1 : Int32) : PairI (p_X7_many M a1) (p_X8_many (w_X7_many M a1) a1) (r_X7_many M a1) (r_X8_many (w_X7_many M a1) a1) (w_X8_many (w_X7_many M a1) a1) n := by
  obtain ⟨T, S, g, ⟨c1, c2, c3, c4⟩, ⟨r1, r2, r3, r4, r5⟩, i1, i2, i3, i4, i5⟩ := h.1
  obtain ⟨rc, w1, w2, w3, w4⟩ := h.2.1
  obtain ⟨tl, p1, p2, p3, p4⟩ := h.2.2.1
  obtain ⟨k, k1, k2, k3, k4⟩ := h.2.2.2.1
  have a := c_opn c1 c2 i1 i3
  have b := r_opn r1 r3 r2 i1 i3
  have e7 : w_X7_many M a1 = M := by unfold w_X7_many; simp only [ite_self]
  have e8 : w_X8_many M a1 = M := by unfold w_X8_many; simp only [ite_self]
  rw [e7, e8]
  refine ⟨?_, ?_, ?_, h.up (by omega)⟩
  · unfold p_X7_many
    simp only [a.1, and_self, ite_self]
  · unfold p_X8_many
    simp only [b.1, and_self, ite_self]
  · unfold r_X7_many r_X8_many
    rw [c1.1.1, c1.1.2.1, c1.1.2.2, a.2, c4.1, w2, p2, k2, r1.1.1, r1.1.2.1, r1.1.2.2, b.2, r5.1, w3, p3, k3]
theorem pair_behind (h : Rel M n) (hn : n < 64) (a1 a2 a3 : Int32) : PairI (p_X7_behind M a1 a2 a3) (p_X8_behind (w_X7_behind M a1 a2 a3) a1 a2 a3) (r_X7_behind M a1 a2 a3) (r_X8_behind (w_X7_behind M a1 a2 a3) a1 a2 a3) (w_X8_behind (w_X7_behind M a1 a2 a3) a1 a2 a3) n := by
  obtain ⟨x, rfl, x1, x2⟩ := ex_iI a1
  obtain ⟨y, rfl, y1, y2⟩ := ex_iI a2
  obtain ⟨z, rfl, z1, z2⟩ := ex_iI a3
  obtain ⟨T, S, g, ⟨c1, c2, c3, c4⟩, ⟨r1, r2, r3, r4, r5⟩, i1, i2, i3, i4, i5⟩ := h.1
  have hc := i1.1
  have h7 := c_has c1 i1 x1 x2
  have h8 := r_isWork r1 i1 x1 x2
  have hz : (0 ≤ iI z ∧ iI z ≤ 99) ↔ (0 ≤ z ∧ z ≤ 99) := by rw [cl0, cl99]; exact wb z1 z2 (by omega) (by omega) (by omega) (by omega)
  unfold p_X7_behind p_X8_behind r_X7_behind r_X8_behind w_X8_behind w_X7_behind
  by_cases c : 0 ≤ x ∧ x < T 0 2
  · obtain ⟨w, rfl⟩ : ∃ w : Nat, x = (w : Int) := ⟨x.toNat, by omega⟩
    have b7 := b2i_1.mpr (h7.mpr c)
    have b8 := b2i_1.mpr (h8.mpr c)
    have hy : (-1 ≤ iI y ∧ iI y ≤ iI (w : Int) - 1) ↔ (-1 ≤ y ∧ y < w) := by
      rw [cm1, cl1, iI_sub, iI_le (by omega) (by omega) (by omega) (by omega), iI_le (by omega) (by omega) (by omega) (by omega)]
      omega
    simp only [if_neg b7]
    by_cases cy : -1 ≤ y ∧ y < w
    · have qy := b2i_1.mpr (hy.mpr cy)
      by_cases cz : 0 ≤ z ∧ z ≤ 99
      · have qz := b2i_1.mpr (hz.mpr cz)
        have vw : vp_in (iI (w : Int)) 6 := vin_iI (by omega) (by omega) (by omega)
        have nw : Int32.toNatClampNeg (iI (w : Int)) = w := natk rfl (by omega)
        have e6 : M.1 (110 + w) 6 = iI (T (10 + w) 6) := c1.2.2.2.2 w 6 c.2 (by omega)
        have s7 := c2.2.2.1 (w : Int) (by omega) c.2
        rw [Int.toNat_natCast] at s7
        have s7' : M.1 1003 w = iI (S 2 w) := s7
        have bs := i3.2.2.1 (w : Int) (by omega) c.2
        rw [Int.toNat_natCast] at bs
        have k6 := (i1.2.2.2.2 w c.2).2.2.2.2.2.2.1
        have s0 : (iI (S 2 w) = 0) ↔ S 2 w = 0 := by rw [cl0, iI_eq (by omega) (by omega) (by omega) (by omega)]
        simp only [if_neg qy, if_pos qz, nw, s7', e6]
        by_cases cs : S 2 w = 0
        · simp only [if_pos (s0.mpr cs)]
          obtain ⟨M1, hM1⟩ : ∃ M1, M1 = wi (wi M (110 + w) 6 (iI y)) (110 + w) 7 (iI z) := ⟨_, rfl⟩
          rw [← hM1]
          have F1 : Fp (fun a k => a = 110 + w ∧ (k = 6 ∨ k = 7)) M M1 := by rw [hM1]; exact Fp.wi (Fp.wi Fp.rf (by omega)) (by omega)
          have R1 : RT M1 T := r1.fp (fun a k h1 => (F1 a k (by omega)).1)
          have R2 : RS M1 0 T S := r2.fp i1 (fun k h1 h2 => (F1 607 k (by omega)).1)
          have R3 : RA M1 0 := ⟨by rw [(F1 _ _ (by omega)).1]; exact r3.1, r3.2⟩
          have b8' := b2i_1.mpr ((r_isWork R1 i1 x1 x2).mpr c)
          have o8 := r_open R3 R2 i1 i3 (x := (w : Int)) (by omega) c.2
          rw [Int.toNat_natCast] at o8
          have q8 := b2i_1.mpr (o8.mpr cs)
          have g6 := R1.w6 c.2 i1
          have n6 : Int32.toNatClampNeg (8 * iI (w : Int) + 6) = 8 * w + 6 := by rw [cl8, cl6, iI_mul, iI_add]; exact natk (by omega) (by omega)
          have n7 : Int32.toNatClampNeg (8 * iI (w : Int) + 7) = 8 * w + 7 := by rw [cl8, cl7, iI_mul, iI_add]; exact natk (by omega) (by omega)
          have g6' : M1.1 603 (8 * w + 6) = iI (T (10 + w) 6) := by rw [← n6]; exact g6
          simp only [if_neg b8', if_pos q8, n6, n7, g6']
          refine ⟨⟨vw, vw, trivial⟩, ⟨R3.vs (by omega) c.2 i1, vw6 c.2 i1, vw6 c.2 i1, vw7 c.2 i1, by split <;> trivial⟩, ?_, ?_⟩
          · have q0 : (iI (T (10 + w) 6) < 0) ↔ T (10 + w) 6 < 0 := by rw [cl0, iI_lt (by omega) (by omega) (by omega) (by omega)]
            have q1 : (0 ≤ iI (T (10 + w) 6)) ↔ 0 ≤ T (10 + w) 6 := by rw [cl0, iI_le (by omega) (by omega) (by omega) (by omega)]
            by_cases k : T (10 + w) 6 < 0
            · rw [if_pos (q0.mpr k), if_neg (fun u => by have := q1.mp u; omega)]
            · rw [if_neg (fun u => k (q0.mp u)), if_pos (q1.mpr (by omega))]
          · have F : Fp (fun a k => (a = 110 + w ∧ (k = 6 ∨ k = 7)) ∨ (a = 603 ∧ (k = 8 * w + 6 ∨ k = 8 * w + 7))) M (wi (wi M1 603 (8 * w + 6) (iI y)) 603 (8 * w + 7) (iI z)) := Fp.wi (Fp.wi (F1.mono (fun a k h => Or.inl h)) (by omega)) (by omega)
            obtain ⟨T', hT'⟩ : ∃ T', T' = tU (tU T (10 + w) 6 y) (10 + w) 7 z := ⟨_, rfl⟩
            have eo : ∀ i k, i ≠ 10 + w → T' i k = T i k := fun i k hi => by rw [hT', tU_n (Or.inl hi), tU_n (Or.inl hi)]
            have e0 : ∀ k, T' 0 k = T 0 k := fun k => eo 0 k (by omega)
            have t6 : T' (10 + w) 6 = y := by rw [hT', tU_n (by omega), tU_s]
            have t7 : T' (10 + w) 7 = z := by rw [hT', tU_s]
            have tf : ∀ k, k ≠ 6 → k ≠ 7 → T' (10 + w) k = T (10 + w) k := fun k a b => by rw [hT', tU_n (by omega), tU_n (by omega)]
            have j1 : InvT T' := by
              obtain ⟨g1, g2, g3, g4, g5⟩ := i1
              unfold InvT
              simp only [e0, eo 1 _ (by omega), eo 2 _ (by omega), eo 3 _ (by omega)]
              refine ⟨g1, g2, g3, g4, fun v hv => ?_⟩
              obtain ⟨u0, u1, u2, u3, u4, u5, u6, u7⟩ := g5 v hv
              unfold WkI
              simp only [e0]
              by_cases q : v = w
              · subst q
                simp only [t6, t7, tf 0 (by omega) (by omega), tf 1 (by omega) (by omega), tf 2 (by omega) (by omega), tf 3 (by omega) (by omega), tf 4 (by omega) (by omega), tf 5 (by omega) (by omega)]
                exact ⟨u0, u1, u2, u3, u4, u5, cy, cz⟩
              · simp only [eo (10 + v) _ (by omega)]
                exact ⟨u0, u1, u2, u3, u4, u5, u6, u7⟩
            have rdc : ∀ f, f < 8 → (wi (wi M1 603 (8 * w + 6) (iI y)) 603 (8 * w + 7) (iI z)).1 (110 + w) f = iI (T' (10 + w) f) := fun f hf => by
              rw [rd_ne (Or.inl (by omega)), rd_ne (Or.inl (by omega)), hM1]
              by_cases f7 : f = 7
              · rw [f7, rd_same, t7]
              · rw [rd_ne (Or.inr f7)]
                by_cases f6 : f = 6
                · rw [f6, rd_same, t6]
                · rw [rd_ne (Or.inr f6), tf f f6 f7]; exact c1.2.2.2.2 w f c.2 hf
            have rdr : ∀ f, f < 8 → (wi (wi M1 603 (8 * w + 6) (iI y)) 603 (8 * w + 7) (iI z)).1 603 (8 * w + f) = iI (T' (10 + w) f) := fun f hf => by
              by_cases f7 : f = 7
              · rw [f7, rd_same, t7]
              · rw [rd_ne (Or.inr (by omega))]
                by_cases f6 : f = 6
                · rw [f6, rd_same, t6]
                · rw [rd_ne (Or.inr (by omega)), tf f f6 f7, (F1 _ _ (by omega)).1]; exact r1.2.2.2.2 w f c.2 hf
            refine h.of (by omega) F (Or.inr ⟨T', S, g, ⟨⟨?_, ?_, ?_, fun k hk => ?_, fun v f hv hf => ?_⟩, (c2.fp (fun a k h1 h2 => (F a k (by omega)).1)).eq0 e0, by rw [(F _ _ (by omega)).1]; exact c3, CRu.eq (T := T) ⟨by rw [(F _ _ (by omega)).1]; exact c4.1, fun u h0 h1 => ⟨by rw [(F _ _ (by omega)).1]; exact (c4.2 u h0 h1).1, by rw [(F _ _ (by omega)).1]; exact (c4.2 u h0 h1).2⟩⟩ (e0 3) (fun k => eo 4 k (by omega)) (fun k => eo 5 k (by omega))⟩, ⟨⟨?_, ?_, ?_, fun k hk => ?_, fun v f hv hf => ?_⟩, (r2.fp i1 (fun k h1 h2 => (F 607 k (by omega)).1)).eq0 e0, ⟨by rw [(F _ _ (by omega)).1]; exact r3.1, r3.2⟩, by rw [(F _ _ (by omega)).1]; exact r4, (r5.fp (fun a k h1 => (F a k (by omega)).1)).eq (e0 3) (fun k => eo 4 k (by omega)) (fun k => eo 5 k (by omega))⟩, j1, i2.eq (e0 3) (fun k => eo 4 k (by omega)) (fun k => eo 5 k (by omega)), (i3.up (Nat.le_succ n) (by omega)).eq0 e0, i4, by omega⟩) (Or.inl fun a k h => by omega) (Or.inl fun a k h => by omega) (Or.inl fun a k h => by omega) (Or.inl fun a k h => by omega) (Or.inl fun a k h => by omega) (Or.inl fun a k h => by omega) (fun a k h => by omega)
            · exact ⟨by rw [(F _ _ (by omega)).1, e0]; exact c1.1.1, by rw [(F _ _ (by omega)).1, e0]; exact c1.1.2.1, by rw [(F _ _ (by omega)).1, e0]; exact c1.1.2.2⟩
            · intro u h0 h1
              rw [e0] at h1
              rw [eo _ _ (by omega), (F _ _ (by omega)).1]; exact c1.2.1 u h0 h1
            · intro u h0 h1
              rw [e0] at h1
              rw [eo _ _ (by omega), (F _ _ (by omega)).1]; exact c1.2.2.1 u h0 h1
            · rw [eo _ _ (by omega), (F _ _ (by omega)).1]; exact c1.2.2.2.1 k hk
            · rw [e0] at hv
              by_cases q : v = w
              · rw [q]; exact rdc f hf
              · rw [eo _ _ (by omega), (F _ _ (by omega)).1]; exact c1.2.2.2.2 v f hv hf
            · exact ⟨by rw [(F _ _ (by omega)).1, e0]; exact r1.1.1, by rw [(F _ _ (by omega)).1, e0]; exact r1.1.2.1, by rw [(F _ _ (by omega)).1, e0]; exact r1.1.2.2⟩
            · intro u h0 h1
              rw [e0] at h1
              rw [eo _ _ (by omega), (F _ _ (by omega)).1]; exact r1.2.1 u h0 h1
            · intro u h0 h1
              rw [e0] at h1
              rw [eo _ _ (by omega), (F _ _ (by omega)).1]; exact r1.2.2.1 u h0 h1
            · rw [eo _ _ (by omega), (F _ _ (by omega)).1]; exact r1.2.2.2.1 k hk
            · rw [e0] at hv
              by_cases q : v = w
              · rw [q]; exact rdr f hf
              · rw [eo _ _ (by omega), (F _ _ (by omega)).1]; exact r1.2.2.2.2 v f hv hf
        · have o8 := r_open r3 r2 i1 i3 (x := (w : Int)) (by omega) c.2
          rw [Int.toNat_natCast] at o8
          have q8 : ¬ ¬ b2i (M.1 607 (Int32.toNatClampNeg (M.1 600 10 + 9 + iI (w : Int))) = 0) = 0 := not_not_intro (b2i_0.mpr (fun u => cs (o8.mp u)))
          simp only [if_neg (fun u => cs (s0.mp u)), if_neg b8, if_neg q8]
          exact ⟨⟨vw, trivial⟩, ⟨r3.vs (by omega) c.2 i1, trivial⟩, rfl, h.up (by omega)⟩
      · have qz : ¬ ¬ b2i (0 ≤ iI z ∧ iI z ≤ 99) = 0 := fun u => cz (hz.mp (b2i_1.mp u))
        simp only [if_neg qy, if_neg qz, if_neg b8]
        exact ⟨trivial, trivial, rfl, h.up (by omega)⟩
    · have qy := b2i_0.mpr (fun u => cy (hy.mp u))
      simp only [if_pos qy, if_neg b8]
      exact ⟨trivial, trivial, rfl, h.up (by omega)⟩
  · have b7 := b2i_0.mpr (fun z => c (h7.mp z))
    have b8 := b2i_0.mpr (fun z => c (h8.mp z))
    simp only [if_pos b7, if_pos b8]
    exact ⟨trivial, trivial, rfl, h.up (by omega)⟩
end P39
