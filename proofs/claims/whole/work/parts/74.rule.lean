/-! an order by a rule: class, reference, pair -/
section P74
variable {M : Mm} {T S : Tw} {mb : Int} {r len n : Nat}
theorem c_order (hT : CT M 100 T) (hS : CSt M 1000 T S) (hI : InvT T) (hJ : InvS T S mb) (hm : mb ≤ 700000) (hR : CRu M 100 T) (hQ : InvR T) (hr : (r : Int) < T 0 3) (hlen : len = aOpn S (T 0 2).toNat) (hp : ∀ i, i < len → 0 ≤ gCh T (gR T S r i) r) :
    p_X2_digitsByRule M (iI (r : Int)) ∧ r_X2_digitsByRule M (iI (r : Int)) = dOf (fun i => iI (gCh T (gR T S r i) r)) len ∧ Fq Qz M (w_X2_digitsByRule M (iI (r : Int))) := by
  have hc := hI.1
  have l6 : len ≤ (T 0 2).toNat := by rw [hlen]; exact aOpn_le S _
  unfold p_X2_digitsByRule r_X2_digitsByRule w_X2_digitsByRule
  obtain ⟨b1, -, -, b4⟩ := c_begin (A := M) (s := 1030) (s1 := 1000) (Or.inr (by omega)) hI hS
  have F0 : Fq Qz M (w_X3_beginFrom M 1030 1000) := b4.q (fun a k h => by omega) (fun a h => by omega)
  generalize w_X3_beginFrom M 1030 1000 = M0 at b1 F0 ⊢
  unfold p_X2_digitsByRule_18 r_X2_digitsByRule_18 w_X2_digitsByRule_18
  have T0 : CT M0 100 T := hT.fq hI F0 (fun a k h1 h2 => by omega)
  have R0 : CRu M0 100 T := hR.fp (fun a k h1 h2 => F0.1 a k (by omega))
  have hN : Int32.toNatClampNeg (M0.1 100 2) = (T 0 2).toNat := by rw [T0.1.2.2, iI_nat (by omega) (by omega)]
  rw [hN]
  have step : ∀ (k : Nat) (D : Mm), k < (T 0 2).toNat → CSt D 1030 T (gR T S r k) → (∀ i, i < min k len → D.1 512 i = iI (gCh T (gR T S r i) r)) → Fq Qz M0 D →
      c_X2_digitsByRule_23 (iI (r : Int)) (D, iI ((min k len : Nat) : Int), iI (k : Int)) ∧ q_X2_digitsByRule_23 (iI (r : Int)) (D, iI ((min k len : Nat) : Int), iI (k : Int)) ∧ ∃ D', s_X2_digitsByRule_23 (iI (r : Int)) (D, iI ((min k len : Nat) : Int), iI (k : Int)) = (D', iI ((min (k + 1) len : Nat) : Int), iI ((k + 1 : Nat) : Int)) ∧ CSt D' 1030 T (gR T S r (k + 1)) ∧ (∀ i, i < min (k + 1) len → D'.1 512 i = iI (gCh T (gR T S r i) r)) ∧ Fq Qz M0 D' := by
    intro k D hk k1 k2 k3
    have kT : CT D 100 T := T0.fq hI k3 (fun a k h1 h2 => by omega)
    have kR : CRu D 100 T := R0.fp (fun a k h1 h2 => k3.1 a k (by omega))
    have iv := gR_inv (r := r) hI hJ (by omega) k (by omega)
    obtain ⟨p1, p2, p3⟩ := c_choice kT k1 hI iv kR hQ hr
    have p2' : r_X2_choice D 1030 (iI (r : Int)) = iI (gCh T (gR T S r k) r) := p2
    have hlt : ¬ D.1 100 2 ≤ iI (k : Int) := by rw [kT.1.2.2, iI_le (by omega) (by omega) (by omega) (by omega)]; omega
    unfold c_X2_digitsByRule_23 q_X2_digitsByRule_23 s_X2_digitsByRule_23
    dsimp only
    rw [if_neg hlt, if_neg hlt, if_neg hlt, p2', p3]
    unfold q_X2_digitsByRule_23_43 s_X2_digitsByRule_23_43 s_X2_digitsByRule_23_70
    by_cases c : k < len
    · obtain ⟨w, w1, w2, w3⟩ := gCh_in hI (hp k c)
      have e1 : min k len = k := by omega
      have e2 : min (k + 1) len = k + 1 := by omega
      have nk : Int32.toNatClampNeg (iI (k : Int)) = k := natk rfl (by omega)
      have vk : vp_in (iI (k : Int)) 6 := vin_iI (by omega) (by omega) (by omega)
      rw [e1] at k2
      rw [e1, e2, w2]
      have g : ¬ iI (w : Int) < 0 := by rw [cl0, iI_lt (by omega) (by omega) (by omega) (by omega)]; omega
      rw [if_neg g, if_neg g]
      obtain ⟨g5, hg5, -, -⟩ := ex_iI (D.1 1030 5)
      obtain ⟨g6, hg6, -, -⟩ := ex_iI (D.1 1030 6)
      obtain ⟨y1, -, y3, -, -, y6⟩ := c_carry (s := 1030) (by omega) kT k1 hg5 hg6 hI iv (by omega) w1 w3.2
      unfold q_X2_digitsByRule_23_59 s_X2_digitsByRule_23_59 s_X2_digitsByRule_23_70
      rw [nk, k1_iI]
      refine ⟨trivial, ⟨p1, y1, vk, trivial⟩, _, rfl, ?_, fun i hi => ?_, ?_⟩
      · rw [gR_s w2]
        exact y3.fp (fun a j h1 h2 => rd_ne (Or.inl (by omega)))
      · by_cases q : i = k
        · rw [q, rd_same, w2]
        · rw [rd_ne (Or.inr q), y6.at (by omega)]
          exact k2 i (by omega)
      · exact Fq.wi (k3.tr (y6.q (fun a k h => by omega) (fun a h => by omega))) (by omega)
    · obtain ⟨z1, z2⟩ := gR_end hI hlen hp k (by omega)
      have e1 : min k len = len := by omega
      have e2 : min (k + 1) len = len := by omega
      rw [e1] at k2
      rw [e1, e2, z2]
      have g : iI (-3) < 0 := by decide
      rw [if_pos g, if_pos g, k1_iI]
      refine ⟨trivial, ⟨p1, trivial⟩, D, rfl, ?_, k2, k3⟩
      rw [gR_n (by rw [z2]; decide)]
      exact k1
  have key : ∀ k, k ≤ (T 0 2).toNat → ∃ D, l_X2_digitsByRule_23 (iI (r : Int)) (M0, 0, 0) k = (D, iI ((min k len : Nat) : Int), iI (k : Int)) ∧ CSt D 1030 T (gR T S r k) ∧ (∀ i, i < min k len → D.1 512 i = iI (gCh T (gR T S r i) r)) ∧ Fq Qz M0 D := by
    intro k
    induction k with
    | zero =>
      intro _
      refine ⟨M0, ?_, b1, fun i hi => absurd hi (by omega), Fq.rf⟩
      rw [show min 0 len = 0 by omega]
      rfl
    | succ k ih =>
      intro hk
      obtain ⟨D, h1, h2, h3, h5⟩ := ih (by omega)
      obtain ⟨-, -, D', g1, g2⟩ := step k D (by omega) h2 h3 h5
      refine ⟨D', ?_, g2⟩
      show s_X2_digitsByRule_23 (iI (r : Int)) (l_X2_digitsByRule_23 (iI (r : Int)) (M0, 0, 0) k) = _
      rw [h1]; exact g1
  obtain ⟨D, h1, h2, h3, h5⟩ := key _ (Nat.le_refl _)
  have w2 : D.1 100 2 = iI (T 0 2) := by rw [h5.1 _ _ (by omega)]; exact T0.1.2.2
  have e : (((T 0 2).toNat : Nat) : Int) = T 0 2 := by omega
  have em : min (T 0 2).toNat len = len := by omega
  rw [em] at h1 h3
  rw [e] at h1
  rw [h1]
  dsimp only
  have gE : D.1 100 2 ≤ iI (T 0 2) := by rw [w2]; exact Int32.le_refl _
  rw [if_pos gE, if_pos gE, if_pos gE]
  obtain ⟨d1, d2⟩ := c_dig (M := D) (len := len) (by omega)
  refine ⟨⟨fun k hk => ?_, fun k hk => ?_, ?_, d1, trivial⟩, ?_, F0.tr h5⟩
  · obtain ⟨E, g1, g2, g3, g5⟩ := key k (by omega)
    rw [g1]
    exact (step k E hk g2 g3 g5).1
  · obtain ⟨E, g1, g2, g3, g5⟩ := key k (by omega)
    rw [g1]
    exact (step k E hk g2 g3 g5).2.1
  · unfold c_X2_digitsByRule_23
    dsimp only
    rw [if_pos gE]
    exact fun h => h
  · rw [d2]
    exact dOf_c len (fun i hi => h3 i hi)
theorem r_order (hT : RT M T) (ha : RA M 0) (hS : RS M 0 T S) (hI : InvT T) (hJ : InvS T S mb) (hm : mb ≤ 700000) (hR : RRu M T) (hQ : InvR T) (hr : (r : Int) < T 0 3) (hlen : len = aOpn S (T 0 2).toNat) :
    p_X8_orderOf M (iI (r : Int)) ∧ r_X8_orderOf M (iI (r : Int)) = dOf (fun i => iI (gCh T (gR T S r i) r)) len ∧ Fq Qz M (w_X8_orderOf M (iI (r : Int))) ∧ ∀ i, i < len → 0 ≤ gCh T (gR T S r i) r := by
  have hc := hI.1
  have hq := hQ.1
  have l6 : len ≤ (T 0 2).toNat := by rw [hlen]; exact aOpn_le S _
  have u8 : (0 ≤ iI (r : Int) ∧ iI (r : Int) ≤ M.1 600 12 - 1) := by rw [hR.1, cl0, cl1, iI_sub, iI_le (by omega) (by omega) (by omega) (by omega), iI_le (by omega) (by omega) (by omega) (by omega)]; omega
  have q8 := b2i_1.mpr u8
  obtain ⟨o1, o2⟩ := r_opn hT ha hS hI hJ
  rw [← hlen] at o2
  obtain ⟨l1, l2, l3, l4, -, -, -, -, -⟩ := r_lends hT hS hI
  have F2 := lends_q hT hS hI
  have nl : Int32.toNatClampNeg (iI (len : Int)) = len := natk rfl (by omega)
  unfold p_X8_orderOf r_X8_orderOf w_X8_orderOf
  rw [if_pos q8, if_pos q8, if_pos q8, o2, nl]
  generalize w_X8_lends M = M0 at l2 l3 l4 F2 ⊢
  have R0 : RRu M0 T := hR.fp (fun a k h => F2.1 a k (by omega))
  have step : ∀ (k : Nat) (D : Mm), k < len → (∀ i, i < k → 0 ≤ gCh T (gR T S r i) r) → RS D 22 T (gR T S r k) → (∀ i, i < k → D.1 614 i = iI (gCh T (gR T S r i) r)) → Fq (fun a k => (a = 607 ∧ 22 ≤ k) ∨ a = 614) M0 D →
      c_X8_orderOf_21 (iI (r : Int)) (iI (len : Int)) (D, iI (k : Int)) ∧ q_X8_orderOf_21 (iI (r : Int)) (iI (len : Int)) (D, iI (k : Int)) ∧ 0 ≤ gCh T (gR T S r k) r ∧ ∃ D', s_X8_orderOf_21 (iI (r : Int)) (iI (len : Int)) (D, iI (k : Int)) = (D', iI ((k + 1 : Nat) : Int)) ∧ RS D' 22 T (gR T S r (k + 1)) ∧ (∀ i, i < k + 1 → D'.1 614 i = iI (gCh T (gR T S r i) r)) ∧ Fq (fun a k => (a = 607 ∧ 22 ≤ k) ∨ a = 614) M0 D' := by
    intro k D hk hp k1 k2 k3
    have kT : RT D T := l2.fq k3 (fun a k h => by omega)
    have kA : RA D 22 := l3.fq k3 (by omega)
    have kR : RRu D T := R0.fp (fun a k h => k3.1 a k (by omega))
    have iv := gR_inv (r := r) hI hJ (by omega) k (by omega)
    obtain ⟨m1, m2⟩ := r_may kT kA k1 hI iv
    have op := gR_opn hI hlen k (by omega) hp
    have mp := aMask_pos (S := gR T S r k) hI (by omega)
    obtain ⟨t1, t2, t3, t4⟩ := r_takesOf kT kA k1 hI iv kR hQ hr (aMask_p T (gR T S r k) _) mp
    have t2' : r_X8_takesOf D (iI (r : Int)) (iI ((aMask T (gR T S r k) (T 0 2).toNat : Nat) : Int)) = iI (gCh T (gR T S r k) r) := t2
    have t4' : 0 ≤ gCh T (gR T S r k) r := t4
    obtain ⟨w, w1, w2, w3⟩ := gCh_in hI t4'
    have nk : Int32.toNatClampNeg (iI (k : Int)) = k := natk rfl (by omega)
    have vk : vp_in (iI (k : Int)) 6 := vin_iI (by omega) (by omega) (by omega)
    have g : ¬ iI (len : Int) ≤ iI (k : Int) := by rw [iI_le (by omega) (by omega) (by omega) (by omega)]; omega
    unfold c_X8_orderOf_21 q_X8_orderOf_21 s_X8_orderOf_21
    dsimp only
    rw [if_neg g, if_neg g, if_neg g, m2, t2', t3, nk, w2, k1_iI]
    obtain ⟨D1, hD1⟩ : ∃ D1, D1 = wi D 614 k (iI (w : Int)) := ⟨_, rfl⟩
    rw [← hD1]
    have e4 : D1.1 614 k = iI (w : Int) := by rw [hD1, rd_same]
    have F1 : Fq (fun a k => (a = 607 ∧ 22 ≤ k) ∨ a = 614) D D1 := by rw [hD1]; exact Fq.wi Fq.rf (by omega)
    have S1 : RS D1 22 T (gR T S r k) := k1.fp hI (fun j h1 h2 => by rw [hD1, rd_ne (Or.inl (by omega))])
    have o4 : ∀ i, i < k → D1.1 614 i = iI (gCh T (gR T S r i) r) := fun i hi => by rw [hD1, rd_ne (Or.inr (by omega))]; exact k2 i hi
    rw [e4]
    obtain ⟨y1, y2, y3, y4⟩ := r_turns (kT.fq F1 (fun a k h => by omega)) (kA.fq F1 (by omega)) S1 hI iv (by omega) w1
    refine ⟨trivial, ⟨m1, t1, vk, vk, y1, trivial⟩, by omega, _, rfl, ?_, fun i hi => ?_, (k3.tr F1).tr (y4.q (fun k h1 h2 => by omega))⟩
    · rw [gR_s w2]; exact y3
    · rw [y4.1.at (by omega)]
      by_cases q : i = k
      · rw [q, e4, w2]
      · exact o4 i (by omega)
  have key : ∀ k, k ≤ len → (∀ i, i < k → 0 ≤ gCh T (gR T S r i) r) ∧ ∃ D, l_X8_orderOf_21 (iI (r : Int)) (iI (len : Int)) (M0, 0) k = (D, iI (k : Int)) ∧ RS D 22 T (gR T S r k) ∧ (∀ i, i < k → D.1 614 i = iI (gCh T (gR T S r i) r)) ∧ Fq (fun a k => (a = 607 ∧ 22 ≤ k) ∨ a = 614) M0 D := by
    intro k
    induction k with
    | zero =>
      intro _
      exact ⟨fun i hi => absurd hi (Nat.not_lt_zero i), M0, rfl, l4, fun i hi => absurd hi (Nat.not_lt_zero i), Fq.rf⟩
    | succ k ih =>
      intro hk
      obtain ⟨h0, D, h1, h2, h3, h5⟩ := ih (by omega)
      obtain ⟨-, -, g0, D', g1, g2⟩ := step k D (by omega) h0 h2 h3 h5
      refine ⟨fun i hi => ?_, D', ?_, g2⟩
      · by_cases q : i = k
        · rw [q]; exact g0
        · exact h0 i (by omega)
      · show s_X8_orderOf_21 (iI (r : Int)) (iI (len : Int)) (l_X8_orderOf_21 (iI (r : Int)) (iI (len : Int)) (M0, 0) k) = _
        rw [h1]; exact g1
  obtain ⟨h0, D, h1, h2, h3, h5⟩ := key len (Nat.le_refl _)
  rw [h1]
  dsimp only
  have gE : iI (len : Int) ≤ iI (len : Int) := Int32.le_refl _
  rw [if_pos gE, if_pos gE, if_pos gE]
  obtain ⟨d1, d2⟩ := r_dig4 (M := wi D 600 10 0) (len := len) (by omega)
  refine ⟨⟨o1, l1, fun k hk => ?_, fun k hk => ?_, ?_, d1, trivial⟩, ?_, fq_at0 ((F2.mono (fun a k h => by omega)).tr (h5.mono (fun a k h => by omega))) ha.1, h0⟩
  · obtain ⟨g0, E, g1, g2, g3, g5⟩ := key k (by omega)
    rw [g1]
    exact (step k E hk g0 g2 g3 g5).1
  · obtain ⟨g0, E, g1, g2, g3, g5⟩ := key k (by omega)
    rw [g1]
    exact (step k E hk g0 g2 g3 g5).2.1
  · unfold c_X8_orderOf_21
    dsimp only
    rw [if_pos gE]
    exact fun h => h
  · rw [d2]
    exact dOf_c len (fun i hi => by rw [rd_ne (Or.inl (by omega))]; exact h3 i hi)
theorem pair_orderOf (h : Rel M n) (hn : n < 64) (a1 : Int32) : PairI (p_X7_orderOf M a1) (p_X8_orderOf (w_X7_orderOf M a1) a1) (r_X7_orderOf M a1) (r_X8_orderOf (w_X7_orderOf M a1) a1) (w_X8_orderOf (w_X7_orderOf M a1) a1) n := by
  obtain ⟨x, rfl, x1, x2⟩ := ex_iI a1
  obtain ⟨T, S, g, ⟨c1, c2, c3, c4⟩, ⟨r1, r2, r3, r4, r5⟩, i1, i2, i3, i4, i5⟩ := h.1
  have hR := i2.1
  have u7 : (0 ≤ iI x ∧ iI x < M.1 100 3) ↔ (0 ≤ x ∧ x < T 0 3) := by rw [c4.1, cl0, iI_le (by omega) (by omega) (by omega) (by omega), iI_lt (by omega) (by omega) (by omega) (by omega)]
  have u8 : (0 ≤ iI x ∧ iI x ≤ M.1 600 12 - 1) ↔ (0 ≤ x ∧ x < T 0 3) := by rw [r5.1, cl0, cl1, iI_sub, iI_le (by omega) (by omega) (by omega) (by omega), iI_le (by omega) (by omega) (by omega) (by omega)]; omega
  unfold p_X7_orderOf r_X7_orderOf w_X7_orderOf
  by_cases c : 0 ≤ x ∧ x < T 0 3
  · obtain ⟨r, rfl⟩ : ∃ r : Nat, x = (r : Int) := ⟨x.toNat, by omega⟩
    have q7 := b2i_1.mpr (u7.mpr c)
    rw [if_neg q7, if_neg q7, if_neg q7]
    obtain ⟨-, -, -, hp⟩ := r_order r1 r3 r2 i1 i3 (by omega) r5 i2 c.2 rfl
    obtain ⟨y1, y2, y3⟩ := c_order c1 c2 i1 i3 (by omega) c4 i2 c.2 rfl hp
    generalize w_X2_digitsByRule M (iI (r : Int)) = M1 at y3 ⊢
    obtain ⟨z1, z2, z3, -⟩ := r_order (r1.fq y3 (fun a k h => by omega)) (r3.fq y3 (by omega)) (r2.fq i1 y3 (fun k h1 h2 => by omega)) i1 i3 (by omega) (r5.fp (fun a k h => y3.1 a k (by omega))) i2 c.2 rfl
    exact ⟨⟨y1, trivial⟩, z1, by rw [y2, z2], h.scr (by omega) (y3.tr z3)⟩
  · have q7 := b2i_0.mpr (fun u => c (u7.mp u))
    have q8 : ¬ ¬ b2i (0 ≤ iI x ∧ iI x ≤ M.1 600 12 - 1) = 0 := not_not_intro (b2i_0.mpr (fun u => c (u8.mp u)))
    unfold p_X8_orderOf r_X8_orderOf w_X8_orderOf
    rw [if_pos q7, if_pos q7, if_pos q7, if_neg q8, if_neg q8, if_neg q8]
    exact ⟨trivial, trivial, rfl, h.up (by omega)⟩
end P74
