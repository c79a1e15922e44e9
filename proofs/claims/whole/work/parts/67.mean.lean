/-! the mean, the odds: the reference; the pairs -/
section P67
variable {M A : Mm} {T S : Tw} {mb : Int}
theorem r_often (hT : RT A T) (hI : InvT T) {len calls : Nat} (hl : len ≤ 6) (hc : calls < 64) (o : Int32) (x : Int64) : (∀ k, k < len → c_X8_called_24 A o (iI (len : Int)) x (iI (calls : Int)) (l_X8_called_24 A o (iI (len : Int)) x (iI (calls : Int)) (1, 0) k)) ∧ (¬ c_X8_called_24 A o (iI (len : Int)) x (iI (calls : Int)) (l_X8_called_24 A o (iI (len : Int)) x (iI (calls : Int)) (1, 0) len)) ∧ l_X8_called_24 A o (iI (len : Int)) x (iI (calls : Int)) (1, 0) len = (jI (aWt T calls len), iI (len : Int)) := by
  have t := hI.2.2.2.1.2.1
  have l1 : A.1 604 1 = iI (T 3 1) := hT.2.2.2.1 1 (by omega)
  have key : ∀ k, k ≤ len → l_X8_called_24 A o (iI (len : Int)) x (iI (calls : Int)) (1, 0) k = (jI (aWt T calls k), iI (k : Int)) := by
    refine it_for _ rfl (fun k hk => ?_)
    show s_X8_called_24 A o (iI (len : Int)) x (iI (calls : Int)) (jI (aWt T calls k), iI (k : Int)) = _
    unfold s_X8_called_24
    dsimp only
    have bt := msk_in1 calls hc k (by omega)
    have hlt : ¬ iI (len : Int) ≤ iI (k : Int) := by rw [iI_le (by omega) (by omega) (by omega) (by omega)]; omega
    rw [if_neg hlt, k1_iI, l1, cl8, iI_sub, i2j (by omega) (by omega), i2j (by omega) (by omega), jI_mul, jI_mul]
    show _ = (jI (aWt T calls k * (if calls.testBit k then T 3 1 else 8 - T 3 1)), _)
    by_cases c : calls.testBit k = true
    · rw [if_neg (not_not_intro (bt.mpr c)), if_pos c]
    · have g : ¬ (iI (calls : Int) >>> (iI (k : Int) &&& 31)) &&& 1 = (1 : Int32) := fun u => c (bt.mp u)
      rw [if_pos g, if_neg c]
  refine ⟨fun k hk => ?_, ?_, key len (Nat.le_refl _)⟩
  · rw [key k (by omega)]
    unfold c_X8_called_24
    dsimp only
    rw [iteLE (by omega) (by omega) (by omega) (by omega), if_neg (by omega)]
    trivial
  · rw [key len (Nat.le_refl _)]
    unfold c_X8_called_24
    dsimp only
    rw [iteLE (by omega) (by omega) (by omega) (by omega), if_pos (by omega)]
    exact fun h => h
theorem r_called (hT : RT M T) (ha : RA M 0) (hS : RS M 0 T S) (hI : InvT T) (hJ : InvS T S mb) (hm : mb ≤ 700000) {ord : Nat → Nat} {len : Nat} (hlen : len = aOpn S (T 0 2).toNat) (ho : ∀ i, i < len → ((ord i : Nat) : Int) < T 0 2 ∧ M.1 614 i = iI ((ord i : Nat) : Int)) (hd : ∀ i j, i < j → j < len → ord i ≠ ord j) {o : Int32} (ho1 : o = 0 ∨ o = 1) :
    p_X8_called M o ∧ (w_X8_called M o).2 600 38 = jI (((aAll T S ord len o (2 ^ len)).toNat / Nat.gcd (aAll T S ord len o (2 ^ len)).toNat (2 ^ (3 * len)) : Nat) : Int) ∧ (w_X8_called M o).2 600 39 = jI ((2 ^ (3 * len) / Nat.gcd (aAll T S ord len o (2 ^ len)).toNat (2 ^ (3 * len)) : Nat) : Int) ∧ Fq (fun a k => (a = 600 ∧ (k = 31 ∨ k = 32)) ∨ (a = 607 ∧ 22 ≤ k) ∨ a = 616 ∨ a = 617) M (w_X8_called M o) := by
  have hc := hI.1
  obtain ⟨f1, f2⟩ := r_opn hT ha hS hI hJ
  rw [← hlen] at f2
  have hl : len ≤ 6 := by have := aOpn_le S (T 0 2).toNat; omega
  have pl := p_le len (by omega)
  have od : ∀ i, i < len → ((ord i : Nat) : Int) < T 0 2 := fun i hi => (ho i hi).1
  have nl : Int32.toNatClampNeg (iI (len : Int)) = len := natk rfl (by omega)
  have n2 : Int32.toNatClampNeg (iI ((2 ^ len : Nat) : Int)) = 2 ^ len := natk rfl (by omega)
  unfold p_X8_called w_X8_called
  rw [f2, sh_n len (by omega), n2, sh_b len (by omega)]
  have step : ∀ (k : Nat) (B : Mm), k < 2 ^ len → Fq (fun a k => (a = 600 ∧ (k = 31 ∨ k = 32)) ∨ (a = 607 ∧ 22 ≤ k) ∨ a = 616 ∨ a = 617) M B →
      q_X8_called_10 o (iI (len : Int)) (B, jI (aAll T S ord len o k), iI (k : Int)) ∧ ∃ B', s_X8_called_10 o (iI (len : Int)) (B, jI (aAll T S ord len o k), iI (k : Int)) = (B', jI (aAll T S ord len o (k + 1)), iI ((k + 1 : Nat) : Int)) ∧ Fq (fun a k => (a = 600 ∧ (k = 31 ∨ k = 32)) ∨ (a = 607 ∧ 22 ≤ k) ∨ a = 616 ∨ a = 617) M B' := by
    intro k B hk k3
    have kT : RT B T := hT.fq k3 (fun a j h => by omega)
    have kS : RS B 0 T S := hS.fq hI k3 (fun j h1 h2 => by omega)
    have kA : RA B 0 := ha.fq k3 (by omega)
    obtain ⟨w1, w2, w3⟩ := r_often kT hI hl (calls := k) (by omega) o (jI (aAll T S ord len o k))
    have hlt : ¬ iI ((2 ^ len : Nat) : Int) ≤ iI (k : Int) := by rw [iI_le (by omega) (by omega) (by omega) (by omega)]; omega
    have fin : iI (len : Int) ≤ iI (len : Int) := by rw [iI_le (by omega) (by omega) (by omega) (by omega)]; omega
    obtain ⟨v1, -, -, v3, v4, -, F4⟩ := r_run kT kS hI hJ hm (ord := ord) (len := len) (calls := k) hl (by omega) (fun i hi => ⟨od i hi, by rw [k3.1 _ _ (by omega)]; exact (ho i hi).2⟩) hd
    unfold q_X8_called_10 s_X8_called_10
    dsimp only
    rw [sh_n len (by omega), nl, w3, if_neg hlt, if_neg hlt]
    dsimp only
    rw [if_pos fin, if_pos fin, k1_iI]
    have F5 : Fq (fun a k => (a = 600 ∧ (k = 31 ∨ k = 32)) ∨ (a = 607 ∧ 22 ≤ k) ∨ a = 616 ∨ a = 617) B (wi (w_X8_goesThrough B (iI (len : Int)) (iI (k : Int))) 600 10 0) := fq_at0 (F4.mono (fun a j h => by omega)) kA.1
    have e31 : (wi (w_X8_goesThrough B (iI (len : Int)) (iI (k : Int))) 600 10 0).1 600 31 = iI (aSum T S ord k len) := by rw [rd_ne (Or.inr (by omega))]; exact v3
    have e32 : (wi (w_X8_goesThrough B (iI (len : Int)) (iI (k : Int))) 600 10 0).1 600 32 = iI (aBad T S ord k len) := by rw [rd_ne (Or.inr (by omega))]; exact v4
    generalize wi (w_X8_goesThrough B (iI (len : Int)) (iI (k : Int))) 600 10 0 = B1 at F5 e31 e32 ⊢
    have sb := aSum_b (S := S) hI k len od
    have z6 : (iI (aBad T S ord k len) = 0) ↔ aBad T S ord k len = 0 := by rw [cl0, iI_eq (by omega) (by omega) (by omega) (by omega)]
    rw [e31, e32, i2j (by omega) (by omega)]
    rw [w3] at w2
    refine ⟨⟨w1, w2, v1, ?_⟩, B1, ?_, k3.tr F5⟩
    · repeat' split
      all_goals trivial
    · show _ = (B1, jI (aAll T S ord len o k + aWt T k len * aVal T S ord len o k), iI ((k + 1 : Nat) : Int))
      have x0 : Int32.toInt64 0 = jI 0 := by decide
      have x1 : Int32.toInt64 1 = jI 1 := by decide
      rw [x0, x1, jI_mul, jI_mul, jI_mul, jI_add, jI_add, jI_add]
      unfold aVal
      by_cases d0 : o = 0
      · rw [if_pos d0, if_pos d0]
      · rw [if_neg d0, if_neg d0]
        by_cases d1 : aBad T S ord k len = 0
        · rw [if_neg (not_not_intro (z6.mpr d1)), if_pos d1]
        · rw [if_pos (fun u => d1 (z6.mp u)), if_neg d1]
  have key : ∀ k, k ≤ 2 ^ len → ∃ B, l_X8_called_10 o (iI (len : Int)) (M, 0, 0) k = (B, jI (aAll T S ord len o k), iI (k : Int)) ∧ Fq (fun a k => (a = 600 ∧ (k = 31 ∨ k = 32)) ∨ (a = 607 ∧ 22 ≤ k) ∨ a = 616 ∨ a = 617) M B := by
    intro k
    induction k with
    | zero => intro _; exact ⟨M, rfl, Fq.rf⟩
    | succ k ih =>
      intro hk
      obtain ⟨B, h1, h5⟩ := ih (by omega)
      obtain ⟨-, B', g1, g2⟩ := step k B (by omega) h5
      refine ⟨B', ?_, g2⟩
      show s_X8_called_10 o (iI (len : Int)) (l_X8_called_10 o (iI (len : Int)) (M, 0, 0) k) = _
      rw [h1]; exact g1
  obtain ⟨B, h1, h5⟩ := key (2 ^ len) (Nat.le_refl _)
  have fin : iI ((2 ^ len : Nat) : Int) ≤ (l_X8_called_10 o (iI (len : Int)) (M, 0, 0) (2 ^ len)).2.2 := by
    rw [h1]
    dsimp only
    rw [iI_le (by omega) (by omega) (by omega) (by omega)]
    omega
  have pr : (∀ k, k < 2 ^ len → c_X8_called_10 o (iI (len : Int)) (l_X8_called_10 o (iI (len : Int)) (M, 0, 0) k)) ∧ (∀ k, k < 2 ^ len → q_X8_called_10 o (iI (len : Int)) (l_X8_called_10 o (iI (len : Int)) (M, 0, 0) k)) ∧ ¬ c_X8_called_10 o (iI (len : Int)) (l_X8_called_10 o (iI (len : Int)) (M, 0, 0) (2 ^ len)) := by
    refine ⟨fun k hk => ?_, fun k hk => ?_, ?_⟩
    · obtain ⟨C, g1, -⟩ := key k (by omega)
      rw [g1]
      unfold c_X8_called_10
      dsimp only
      rw [sh_n len (by omega), iteLE (by omega) (by omega) (by omega) (by omega), if_neg (by omega)]
      trivial
    · obtain ⟨C, g1, g5⟩ := key k (by omega)
      rw [g1]
      exact (step k C hk g5).1
    · unfold c_X8_called_10
      rw [sh_n len (by omega), if_pos fin]
      exact fun h => h
  rw [if_pos fin, if_pos fin]
  rw [h1] at pr ⊢
  dsimp only
  have ab := aAll_b (S := S) hI hl o od (2 ^ len)
  obtain ⟨Q, hQ⟩ : ∃ Q : Nat, Q = (aAll T S ord len o (2 ^ len)).toNat := ⟨_, rfl⟩
  have eQ : jI (aAll T S ord len o (2 ^ len)) = jI (Q : Int) := by congr 1; omega
  rw [eQ, ← hQ]
  obtain ⟨y1, y2⟩ := r_lowest (M := B) (a := Q) (b := 2 ^ (3 * len)) (by omega) (by omega) (by omega)
  rw [y2]
  exact ⟨⟨f1, pr.1, pr.2.1, pr.2.2, y1, trivial⟩, by rw [wl_neq (Or.inr (by omega)), wl_same], wl_same _ _ _ _, Fq.wl (Fq.wl h5 (by omega)) (by omega)⟩
end P67
/-- what a pair of calls that answer longs must show -/
def PairL (p7 p8 : Prop) (r7 r8 : Int64) (M2 : Mm) (n : Nat) : Prop := p7 ∧ p8 ∧ r7 = r8 ∧ Rel M2 (n + 1)
section P67b
variable {M : Mm} {n : Nat}
theorem pair_frac (h : Rel M n) (hn : n < 64) (a1 a2 o : Int32) (ho1 : o = 0 ∨ o = 1) : PairL (p_X7_fractionOf M a1 a2 o)
    (if (b2i (0 ≤ a2 ∧ a2 ≤ 1)) = 0 then True else (p_X8_takesOrder (w_X7_fractionOf M a1 a2 o) a1) ∧ (if (r_X8_takesOrder (w_X7_fractionOf M a1 a2 o) a1) = 0 then (p_X8_called (w_X8_takesOrder (w_X7_fractionOf M a1 a2 o) a1) o) ∧ (if ¬ a2 = 0 then True else True) else True))
    (r_X7_fractionOf M a1 a2 o)
    (if (b2i (0 ≤ a2 ∧ a2 ≤ 1)) = 0 then Int32.toInt64 (-1) else if (r_X8_takesOrder (w_X7_fractionOf M a1 a2 o) a1) = 0 then (if ¬ a2 = 0 then (w_X8_called (w_X8_takesOrder (w_X7_fractionOf M a1 a2 o) a1) o).2 600 39 else (w_X8_called (w_X8_takesOrder (w_X7_fractionOf M a1 a2 o) a1) o).2 600 38) else Int32.toInt64 (r_X8_takesOrder (w_X7_fractionOf M a1 a2 o) a1))
    (if (b2i (0 ≤ a2 ∧ a2 ≤ 1)) = 0 then (w_X7_fractionOf M a1 a2 o) else if (r_X8_takesOrder (w_X7_fractionOf M a1 a2 o) a1) = 0 then (w_X8_called (w_X8_takesOrder (w_X7_fractionOf M a1 a2 o) a1) o) else (w_X8_takesOrder (w_X7_fractionOf M a1 a2 o) a1)) n := by
  obtain ⟨T, S, g, ⟨c1, c2, c3, c4⟩, ⟨r1, r2, r3, r4, r5⟩, i1, i2, i3, i4, i5⟩ := h.1
  have hc := i1.1
  unfold p_X7_fractionOf r_X7_fractionOf w_X7_fractionOf
  by_cases cb : b2i ((0 : Int32) ≤ a2 ∧ a2 ≤ (1 : Int32)) = 0
  · have cb' := not_not_intro cb
    simp only [if_neg cb', if_pos cb]
    exact ⟨trivial, trivial, by decide, h.up (by omega)⟩
  simp only [if_pos cb, if_neg cb]
  obtain ⟨len, hlen⟩ : ∃ len, len = aOpn S (T 0 2).toNat := ⟨_, rfl⟩
  have l6 : len ≤ 6 := by have := aOpn_le S (T 0 2).toNat; omega
  obtain ⟨p1, F1, n1, y1⟩ := c_read c1 c2 i1 i3 a1 hlen
  generalize w_X2_readDigits M a1 = M1 at F1 y1 ⊢
  by_cases d : DG T S a1 len
  · obtain ⟨y2, y3, y4, y5⟩ := y1 d
    by_cases al : ∀ i, i < len → okA T S (dgt a1) i
    · rw [y4 al]
      have f0 : (0 : Int32) ≤ 0 := by decide
      simp only [if_pos f0]
      have od : ∀ i, i < len → ((dgt a1 i : Nat) : Int) < T 0 2 := fun i hi => (d.2.2 i hi).1
      obtain ⟨p2, s2, g2, F2⟩ := c_avg (M := M1) (ord := dgt a1) (c1.fq i1 F1 (fun a k h1 h2 => by omega)) (c2.fq F1 (fun a k h1 h2 => by omega)) i1 i3 (by omega) l6 y2 (fun i hi => ⟨od i hi, y3 i hi⟩) al ho1
      have G2 : Fq Qz M (w_X2_average M1 o) := (F1.mono (fun a k h => by omega)).tr (F2.mono (fun a k h => by omega))
      rw [s2, g2]
      generalize w_X2_average M1 o = M2 at G2 ⊢
      have R1 : RT M2 T := r1.fq G2 (fun a k h => by omega)
      have R2 : RS M2 0 T S := r2.fq i1 G2 (fun k h1 h2 => by omega)
      have R3 : RA M2 0 := r3.fq G2 (by omega)
      obtain ⟨q1, F3, -, z1⟩ := r_take R1 R3 R2 i1 i3 a1 hlen
      obtain ⟨z2, z3, -⟩ := z1 d
      rw [z3 al]
      have e0 : (0 : Int32) = 0 := rfl
      simp only [if_pos e0]
      generalize w_X8_takesOrder M2 a1 = M3 at F3 z2 ⊢
      have Q1 : RT M3 T := R1.fq F3 (fun a k h => by omega)
      have Q2 : RS M3 0 T S := R2.fq i1 F3 (fun k h1 h2 => by omega)
      have Q3 : RA M3 0 := R3.fq F3 (by omega)
      obtain ⟨v1, v2, v3, F4⟩ := r_called Q1 Q3 Q2 i1 i3 (by omega) (ord := dgt a1) hlen (fun i hi => ⟨od i hi, z2 i hi⟩) (okD_ne d.2.2) ho1
      rw [v2, v3]
      refine ⟨⟨p1, p2, by split <;> trivial⟩, ⟨q1, v1, by split <;> trivial⟩, rfl, h.scr (by omega) ?_⟩
      exact (G2.tr (F3.mono (fun a k h => by omega))).tr (F4.mono (fun a k h => by omega))
    · rw [y5 al]
      have f0 : ¬ (0 : Int32) ≤ -4 := by decide
      simp only [if_neg f0]
      have G1 : Fq Qz M M1 := F1.mono (fun a k h => by omega)
      obtain ⟨q1, F3, -, z1⟩ := r_take (r1.fq G1 (fun a k h => by omega)) (r3.fq G1 (by omega)) (r2.fq i1 G1 (fun k h1 h2 => by omega)) i1 i3 a1 hlen
      obtain ⟨z2, -, z4⟩ := z1 d
      rw [z4 al]
      have f1 : ¬ (-4 : Int32) = 0 := by decide
      simp only [if_neg f1]
      exact ⟨⟨p1, trivial⟩, ⟨q1, trivial⟩, rfl, h.scr (by omega) (G1.tr (F3.mono (fun a k h => by omega)))⟩
  · rw [n1 d]
    have f0 : ¬ (0 : Int32) ≤ -1 := by decide
    simp only [if_neg f0]
    have G1 : Fq Qz M M1 := F1.mono (fun a k h => by omega)
    obtain ⟨q1, F3, z1, -⟩ := r_take (r1.fq G1 (fun a k h => by omega)) (r3.fq G1 (by omega)) (r2.fq i1 G1 (fun k h1 h2 => by omega)) i1 i3 a1 hlen
    rw [z1 d]
    have f1 : ¬ (-1 : Int32) = 0 := by decide
    simp only [if_neg f1]
    exact ⟨⟨p1, trivial⟩, ⟨q1, trivial⟩, rfl, h.scr (by omega) (G1.tr (F3.mono (fun a k h => by omega)))⟩
theorem pair_mean (h : Rel M n) (hn : n < 64) (a1 a2 : Int32) : PairL (p_X7_mean M a1 a2) (p_X8_mean (w_X7_mean M a1 a2) a1 a2) (r_X7_mean M a1 a2) (r_X8_mean (w_X7_mean M a1 a2) a1 a2) (w_X8_mean (w_X7_mean M a1 a2) a1 a2) n := by
  obtain ⟨p7, p8, r, R⟩ := pair_frac h hn a1 a2 0 (Or.inl rfl)
  exact ⟨⟨p7, trivial⟩, p8, r, R⟩
theorem pair_sure (h : Rel M n) (hn : n < 64) (a1 a2 : Int32) : PairL (p_X7_sure M a1 a2) (p_X8_sure (w_X7_sure M a1 a2) a1 a2) (r_X7_sure M a1 a2) (r_X8_sure (w_X7_sure M a1 a2) a1 a2) (w_X8_sure (w_X7_sure M a1 a2) a1 a2) n := by
  obtain ⟨p7, p8, r, R⟩ := pair_frac h hn a1 a2 1 (Or.inr rfl)
  exact ⟨⟨p7, trivial⟩, p8, r, R⟩
end P67b
