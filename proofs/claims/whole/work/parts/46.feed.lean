/-! runs of writes; feed -/
theorem cl240 : (240 : Int32) = iI 240 := by decide
def runI (M : Mm) (A t j : Nat) (f : Nat → Int32) : Mm := (fun a i => if a = A ∧ t ≤ i ∧ i < t + j then f (i - t) else M.1 a i, M.2)
theorem runI_0 (M : Mm) (A t : Nat) (f : Nat → Int32) : runI M A t 0 f = M := by
  refine Prod.ext ?_ rfl
  funext a i
  show (if a = A ∧ t ≤ i ∧ i < t + 0 then f (i - t) else M.1 a i) = M.1 a i
  rw [if_neg (by omega)]
theorem runI_s (M : Mm) (A t j : Nat) (f : Nat → Int32) : wi (runI M A t j f) A (t + j) (f j) = runI M A t (j + 1) f := by
  refine Prod.ext ?_ rfl
  funext a i
  show (if a = A ∧ i = t + j then f j else if a = A ∧ t ≤ i ∧ i < t + j then f (i - t) else M.1 a i) = if a = A ∧ t ≤ i ∧ i < t + (j + 1) then f (i - t) else M.1 a i
  by_cases q : a = A ∧ t ≤ i ∧ i < t + (j + 1)
  · rw [if_pos q]
    by_cases q2 : i = t + j
    · rw [if_pos ⟨q.1, q2⟩, q2, Nat.add_sub_cancel_left]
    · rw [if_neg (by omega), if_pos (by omega)]
  · rw [if_neg q, if_neg (by omega), if_neg (by omega)]
theorem runI_1 (M : Mm) (A t j : Nat) (f : Nat → Int32) (a i : Nat) : (runI M A t j f).1 a i = if a = A ∧ t ≤ i ∧ i < t + j then f (i - t) else M.1 a i := rfl
theorem runI_n {M : Mm} {A t j : Nat} {f : Nat → Int32} {a i : Nat} (h : a ≠ A ∨ i < t ∨ t + j ≤ i) : (runI M A t j f).1 a i = M.1 a i := by
  rw [runI_1, if_neg (by omega)]
theorem runI_y {M : Mm} {A t j : Nat} {f : Nat → Int32} {i : Nat} (h1 : t ≤ i) (h2 : i < t + j) : (runI M A t j f).1 A i = f (i - t) := by
  rw [runI_1, if_pos ⟨rfl, h1, h2⟩]
theorem runI_F (M : Mm) (A t j : Nat) (f : Nat → Int32) : Fp (fun a i => a = A ∧ t ≤ i ∧ i < t + j) M (runI M A t j f) := fun a i h => ⟨by rw [runI_1, if_neg h], rfl⟩
theorem wi_idm {M : Mm} {a k : Nat} {v : Int32} (h : M.1 a k = v) : wi M a k v = M := by
  refine Prod.ext ?_ rfl
  funext b i
  show (if b = a ∧ i = k then v else M.1 b i) = M.1 b i
  by_cases q : b = a ∧ i = k
  · rw [if_pos q, q.1, q.2, h]
  · rw [if_neg q]
theorem wi_ow {M : Mm} {a k b p : Nat} {x v y : Int32} (h : b ≠ a) : wi (wi (wi M a k x) b p v) a k y = wi (wi M b p v) a k y := by
  refine Prod.ext ?_ rfl
  funext c i
  show (if c = a ∧ i = k then y else if c = b ∧ i = p then v else if c = a ∧ i = k then x else M.1 c i) = if c = a ∧ i = k then y else if c = b ∧ i = p then v else M.1 c i
  by_cases q : c = a ∧ i = k
  · rw [if_pos q, if_pos q]
  · rw [if_neg q, if_neg q, if_neg q]
theorem byte_b (z : Int32) : ∃ b : Int, (0 ≤ b ∧ b < 256) ∧ z &&& 255 = iI b ∧ z.toInt8.toInt32 = iI (if b < 128 then b else b - 256) := by
  refine ⟨((z.toBitVec.toNat % 256 : Nat) : Int), ⟨by omega, by omega⟩, ?_, ?_⟩
  · rw [← Int32.toInt_inj, iI_toInt (by omega) (by omega)]
    show (z &&& 255).toBitVec.toInt = _
    have e : (z &&& 255).toBitVec.toNat = z.toBitVec.toNat % 256 := by
      show (z.toBitVec &&& (255 : Int32).toBitVec).toNat = _
      rw [BitVec.toNat_and]
      exact Nat.and_two_pow_sub_one_eq_mod _ 8
    rw [BitVec.toInt_eq_toNat_bmod, e]
    exact Int.bmod_eq_of_le (by omega) (by omega)
  · have hb : (-2147483648 : Int) ≤ (if ((z.toBitVec.toNat % 256 : Nat) : Int) < 128 then ((z.toBitVec.toNat % 256 : Nat) : Int) else ((z.toBitVec.toNat % 256 : Nat) : Int) - 256) ∧ (if ((z.toBitVec.toNat % 256 : Nat) : Int) < 128 then ((z.toBitVec.toNat % 256 : Nat) : Int) else ((z.toBitVec.toNat % 256 : Nat) : Int) - 256) < 2147483648 := by split <;> omega
    rw [← Int32.toInt_inj, Int8.toInt_toInt32, Int32.toInt_toInt8, iI_toInt hb.1 hb.2]
    show (z.toBitVec.toInt).bmod (2 ^ 8) = _
    rw [BitVec.toInt_eq_toNat_bmod, Int.bmod_bmod_of_dvd (by decide), Int.bmod_def, show ((2 ^ 8 : Nat) : Int) = 256 from rfl]
    split <;> split <;> omega
theorem nar_byte (z : Int32) : vp_nar .byte (Int8.toInt32 (Int32.toInt8 z)) = Int8.toInt32 (Int32.toInt8 z) := by
  show (Int8.toInt32 (Int32.toInt8 (Int8.toInt32 (Int32.toInt8 z)))) = _
  rw [Int8.toInt8_toInt32]
section P46
variable {M : Mm} {n : Nat}
def fdZ (a1 : Int64) (j : Nat) : Int32 := Int64.toInt32 (a1 >>> (Int32.toInt64 ((8 : Int32) * iI (j : Int)) &&& 63))
theorem c_feed (a1 : Int64) {m tl : Nat} (hm : m ≤ 8) (ht : tl + m ≤ 240) (h : M.1 500 1 = iI (tl : Int)) : p_X4_append M a1 (iI (m : Int)) ∧ r_X4_append M a1 (iI (m : Int)) = 1 ∧ w_X4_append M a1 (iI (m : Int)) = wi (runI M 501 tl m (fun j => vp_nar .byte (Int8.toInt32 (Int32.toInt8 (fdZ a1 j))))) 500 1 (iI ((tl + m : Nat) : Int)) := by
  have nm : Int32.toNatClampNeg (iI (m : Int)) = m := natk rfl (by omega)
  have g : (iI (tl : Int) + iI (m : Int)) ≤ 240 := by rw [iI_add, cl240, iI_le (by omega) (by omega) (by omega) (by omega)]; omega
  have key : ∀ j, j ≤ m → l_X4_append_17 a1 (iI (m : Int)) (M, 0) j = (runI M 501 tl j (fun j => vp_nar .byte (Int8.toInt32 (Int32.toInt8 (fdZ a1 j)))), iI (j : Int)) := by
    refine it_for _ ?_ (fun j hj => ?_)
    · rw [runI_0]; rfl
    · show s_X4_append_17 a1 (iI (m : Int)) (runI M 501 tl j (fun j => vp_nar .byte (Int8.toInt32 (Int32.toInt8 (fdZ a1 j)))), iI (j : Int)) = _
      unfold s_X4_append_17
      dsimp only
      have hlt : ¬ iI (m : Int) ≤ iI (j : Int) := by rw [iI_le (by omega) (by omega) (by omega) (by omega)]; omega
      have e : (runI M 501 tl j (fun j => vp_nar .byte (Int8.toInt32 (Int32.toInt8 (fdZ a1 j))))).1 500 1 = iI (tl : Int) := by rw [runI_n (Or.inl (by omega))]; exact h
      rw [if_neg hlt, k1_iI, e, iI_add, natk (n := tl + j) (by omega) (by omega)]
      refine Prod.ext ?_ rfl
      exact runI_s M 501 tl j (fun j => vp_nar .byte (Int8.toInt32 (Int32.toInt8 (fdZ a1 j))))
  have kN := key m (Nat.le_refl _)
  have fin : iI (m : Int) ≤ (l_X4_append_17 a1 (iI (m : Int)) (M, 0) m).2 := by
    rw [kN]
    show iI (m : Int) ≤ iI (m : Int)
    rw [iI_le (by omega) (by omega) (by omega) (by omega)]
    omega
  unfold p_X4_append r_X4_append w_X4_append
  rw [h, if_pos g, if_pos g, if_pos g, nm]
  refine ⟨⟨fun j hj => ?_, fun j hj => ?_, ?_, ?_⟩, ?_, ?_⟩
  · rw [key j (by omega)]
    unfold c_X4_append_17
    dsimp only
    rw [iteLE (by omega) (by omega) (by omega) (by omega), if_neg (by omega)]
    trivial
  · rw [key j (by omega)]
    unfold q_X4_append_17
    dsimp only
    have e : (runI M 501 tl j (fun j => vp_nar .byte (Int8.toInt32 (Int32.toInt8 (fdZ a1 j))))).1 500 1 = iI (tl : Int) := by rw [runI_n (Or.inl (by omega))]; exact h
    split
    · trivial
    · exact ⟨by rw [e, iI_add]; exact vin_iI (by omega) (by omega) (by omega), trivial⟩
  · unfold c_X4_append_17
    rw [if_pos fin]
    exact fun h => h
  · rw [if_pos fin]
    trivial
  · rw [if_pos fin]
  · rw [if_pos fin, kN]
    dsimp only
    rw [runI_n (Or.inl (by omega)), h, iI_add]
    rfl
theorem r_feed (a1 : Int64) {m tl : Nat} (hm1 : 1 ≤ m) (hm : m ≤ 8) (ht : tl + m ≤ 240) (h : M.1 600 15 = iI (tl : Int)) : p_X8_feed M a1 (iI (m : Int)) ∧ r_X8_feed M a1 (iI (m : Int)) = iI ((tl + m : Nat) : Int) ∧ w_X8_feed M a1 (iI (m : Int)) = wi (runI M 609 tl m (fun j => fdZ a1 j &&& 255)) 600 15 (iI ((tl + m : Nat) : Int)) := by
  have nm : Int32.toNatClampNeg (iI (m : Int)) = m := natk rfl (by omega)
  have g : (iI (tl : Int) + iI (m : Int)) ≤ 240 := by rw [iI_add, cl240, iI_le (by omega) (by omega) (by omega) (by omega)]; omega
  have q1 : ¬ b2i ((1 : Int32) ≤ iI (m : Int) ∧ iI (m : Int) ≤ (8 : Int32)) = 0 := b2i_1.mpr (by rw [cl1, cl8, wb (by omega) (by omega) (by omega) (by omega) (by omega) (by omega)]; omega)
  have zz : ∀ j : Nat, Int64.toInt32 ((a1 >>> (Int32.toInt64 ((8 : Int32) * iI (j : Int)) &&& 63)) &&& 255) = fdZ a1 j &&& 255 := fun j => by
    unfold fdZ
    rw [Int64.toInt32_and]
    rfl
  have key : ∀ j, j ≤ m → l_X8_feed_30 a1 (iI (m : Int)) (M, 0) j = (wi (runI M 609 tl j (fun j => fdZ a1 j &&& 255)) 600 15 (iI ((tl + j : Nat) : Int)), iI (j : Int)) := by
    refine it_for _ ?_ (fun j hj => ?_)
    · rw [runI_0, wi_idm (by rw [h]; rfl)]; rfl
    · show s_X8_feed_30 a1 (iI (m : Int)) (wi (runI M 609 tl j (fun j => fdZ a1 j &&& 255)) 600 15 (iI ((tl + j : Nat) : Int)), iI (j : Int)) = _
      unfold s_X8_feed_30
      dsimp only
      have hlt : ¬ iI (m : Int) ≤ iI (j : Int) := by rw [iI_le (by omega) (by omega) (by omega) (by omega)]; omega
      rw [if_neg hlt, k1_iI, rd_same, natk (n := tl + j) (by omega) (by omega), zz, k1_iI, wi_ow (by omega)]
      refine Prod.ext ?_ rfl
      exact congrArg (fun u => wi u 600 15 (iI ((tl + (j + 1) : Nat) : Int))) (runI_s M 609 tl j (fun j => fdZ a1 j &&& 255))
  have kN := key m (Nat.le_refl _)
  have fin : iI (m : Int) ≤ (l_X8_feed_30 a1 (iI (m : Int)) (M, 0) m).2 := by
    rw [kN]
    show iI (m : Int) ≤ iI (m : Int)
    rw [iI_le (by omega) (by omega) (by omega) (by omega)]
    omega
  unfold p_X8_feed r_X8_feed w_X8_feed
  rw [h, if_pos q1, if_pos q1, if_pos q1, if_pos g, if_pos g, if_pos g, nm]
  refine ⟨⟨fun j hj => ?_, fun j hj => ?_, ?_, ?_⟩, ?_, ?_⟩
  · rw [key j (by omega)]
    unfold c_X8_feed_30
    dsimp only
    rw [iteLE (by omega) (by omega) (by omega) (by omega), if_neg (by omega)]
    trivial
  · rw [key j (by omega)]
    unfold q_X8_feed_30
    dsimp only
    split
    · trivial
    · exact ⟨by rw [rd_same]; exact vin_iI (by omega) (by omega) (by omega), trivial⟩
  · unfold c_X8_feed_30
    rw [if_pos fin]
    exact fun h => h
  · rw [if_pos fin]
    trivial
  · rw [if_pos fin, kN]
    exact rd_same _ _ _ _
  · rw [if_pos fin, kN]
theorem pair_feed (h : Rel M n) (hn : n < 64) (a1 : Int64) (a2 : Int32) : PairI (p_X7_feed M a1 a2) (p_X8_feed (w_X7_feed M a1 a2) a1 a2) (r_X7_feed M a1 a2) (r_X8_feed (w_X7_feed M a1 a2) a1 a2) (w_X8_feed (w_X7_feed M a1 a2) a1 a2) n := by
  obtain ⟨y, rfl, y1, y2⟩ := ex_iI a2
  obtain ⟨tl, t1, t2, t3, t4⟩ := h.2.2.1
  have c1 : (iI y < 1) ↔ y < 1 := by rw [cl1, iI_lt (by omega) (by omega) (by omega) (by omega)]
  have c2 : (iI y ≤ 8) ↔ y ≤ 8 := by rw [cl8, iI_le (by omega) (by omega) (by omega) (by omega)]
  have c8 : ((1 : Int32) ≤ iI y ∧ iI y ≤ (8 : Int32)) ↔ (1 ≤ y ∧ y ≤ 8) := by rw [cl1, cl8]; exact wb y1 y2 (by omega) (by omega) (by omega) (by omega)
  by_cases c : 1 ≤ y ∧ y ≤ 8
  · obtain ⟨m, rfl⟩ : ∃ m : Nat, y = (m : Int) := ⟨y.toNat, by omega⟩
    unfold p_X7_feed r_X7_feed w_X7_feed
    have g1 : ¬ iI (m : Int) < 1 := fun u => by have := c1.mp u; omega
    have g2 := c2.mpr c.2
    simp only [if_neg g1, if_pos g2]
    by_cases d : tl + m ≤ 240
    · obtain ⟨p7, r7, w7⟩ := c_feed (M := M) a1 (m := m) (by omega) d t2
      rw [r7, w7]
      obtain ⟨M1, hM1⟩ : ∃ M1, M1 = wi (runI M 501 tl m (fun j => vp_nar .byte (Int8.toInt32 (Int32.toInt8 (fdZ a1 j))))) 500 1 (iI ((tl + m : Nat) : Int)) := ⟨_, rfl⟩
      rw [← hM1]
      have F1 : Fp (fun a i => (a = 501 ∧ tl ≤ i) ∨ (a = 500 ∧ i = 1)) M M1 := by
        rw [hM1]
        exact Fp.wi ((runI_F _ _ _ _ _).mono (fun a i h => by omega)) (by omega)
      obtain ⟨p8, r8, w8⟩ := r_feed (M := M1) a1 (m := m) (tl := tl) (by omega) (by omega) d (by rw [(F1 _ _ (by omega)).1]; exact t3)
      rw [r8, w8]
      have e1 : M1.1 500 1 = iI ((tl + m : Nat) : Int) := by rw [hM1]; exact rd_same _ _ _ _
      have o1 : ¬ (1 : Int32) = 0 := by decide
      simp only [if_neg o1]
      refine ⟨⟨p7, trivial⟩, p8, e1, ?_⟩
      obtain ⟨M2, hM2⟩ : ∃ M2, M2 = wi (runI M1 609 tl m (fun j => fdZ a1 j &&& 255)) 600 15 (iI ((tl + m : Nat) : Int)) := ⟨_, rfl⟩
      rw [← hM2]
      have F2 : Fp (fun a i => (a = 609 ∧ tl ≤ i) ∨ (a = 600 ∧ i = 15)) M1 M2 := by
        rw [hM2]
        exact Fp.wi ((runI_F _ _ _ _ _).mono (fun a i h => by omega)) (by omega)
      have F : Fp (fun a i => (a = 501 ∧ tl ≤ i) ∨ (a = 500 ∧ i = 1) ∨ (a = 609 ∧ tl ≤ i) ∨ (a = 600 ∧ i = 15)) M M2 := (F1.mono (fun a i h => by omega)).tr (F2.mono (fun a i h => by omega))
      refine h.of (by omega) F (Or.inl fun a k h => by omega) (Or.inl fun a k h => by omega) (Or.inr ⟨tl + m, d, ?_, ?_, fun j hj => ?_⟩) (Or.inl fun a k h => by omega) (Or.inl fun a k h => by omega) (Or.inl fun a k h => by omega) (Or.inl fun a k h => by omega) (fun a k h => by omega)
      · rw [(F2 _ _ (by omega)).1]; exact e1
      · rw [hM2]; exact rd_same _ _ _ _
      · by_cases q : j < tl
        · rw [(F 609 _ (by omega)).1, (F 501 _ (by omega)).1]; exact t4 j q
        · obtain ⟨b, hb, z1, z2⟩ := byte_b (fdZ a1 (j - tl))
          refine ⟨b, hb, ?_, ?_⟩
          · rw [hM2, rd_ne (Or.inl (by omega)), runI_y (by omega) (by omega)]; exact z1
          · rw [(F2 501 _ (by omega)).1, hM1, rd_ne (Or.inl (by omega)), runI_y (by omega) (by omega), nar_byte]; exact z2
    · have g3 : ¬ (iI (tl : Int) + iI (m : Int)) ≤ 240 := by rw [iI_add, cl240, iI_le (by omega) (by omega) (by omega) (by omega)]; omega
      have q1 := b2i_1.mpr (c8.mpr c)
      unfold p_X4_append r_X4_append w_X4_append p_X8_feed r_X8_feed w_X8_feed
      simp only [t2, if_neg g3, if_pos q1, t3]
      exact ⟨⟨trivial, by split <;> trivial⟩, trivial, rfl, h.up (by omega)⟩
  · have q1 : ¬ ¬ b2i ((1 : Int32) ≤ iI y ∧ iI y ≤ (8 : Int32)) = 0 := not_not_intro (b2i_0.mpr (fun u => c (c8.mp u)))
    unfold p_X7_feed r_X7_feed w_X7_feed p_X8_feed r_X8_feed w_X8_feed
    by_cases d : y < 1
    · simp only [if_pos (c1.mpr d), if_neg q1]
      exact ⟨trivial, trivial, rfl, h.up (by omega)⟩
    · have g1 : ¬ iI y < 1 := fun u => d (c1.mp u)
      have g2 : ¬ iI y ≤ 8 := fun u => by have := c2.mp u; omega
      simp only [if_neg g1, if_neg g2, if_neg q1]
      exact ⟨trivial, trivial, rfl, h.up (by omega)⟩
end P46
