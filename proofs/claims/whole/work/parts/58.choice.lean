/-! what a rule takes -/
def aCh (T S : Tw) (m : Nat) (ki : Int) (a : Nat) : Int :=
  if ki = 1 then aFF m (T 0 2).toNat a else if ki = 2 then (aSo T S m (-3) (T 0 2).toNat).1 else if ki = 3 then (aWo T S m (-3) (T 0 2).toNat).1 else if ki = 4 then aFF (aTh T m (aGr T m (-1) (T 0 2).toNat) (T 0 2).toNat) (T 0 2).toNat a else aPl m (T 0 2).toNat a
theorem aMask_p (T S : Tw) : ∀ n, aMask T S n < 2 ^ n
  | 0 => by show 0 < 1; omega
  | k + 1 => by
    have ih := aMask_p T S k
    have p : 2 ^ k < 2 ^ (k + 1) := Nat.pow_lt_pow_right (by decide) (by omega)
    rw [aMask_s]
    split
    · exact Nat.or_lt_two_pow (by omega) p
    · omega
theorem aFF_0 (n a : Nat) : aFF 0 n a = -3 := by
  obtain ⟨⟨-, f1⟩, -, f3⟩ := fIx_s (fun k => (0 : Nat).testBit ((a + k) % n)) n 0
  have e : aFFi 0 n a = n := by
    rcases f3 with f3 | f3
    · exact f3.trans (Nat.zero_add n)
    · exact absurd f3 (by rw [Nat.zero_testBit]; decide)
  unfold aFF
  rw [if_pos e]
theorem aSo_0 (T S : Tw) (z : Int) : ∀ k, aSo T S 0 z k = (z, 0)
  | 0 => rfl
  | k + 1 => by rw [aSo_s, Nat.zero_testBit, if_neg (by decide)]; exact aSo_0 T S z k
theorem aWo_0 (T S : Tw) (z : Int) : ∀ k, aWo T S 0 z k = (z, 0, 1)
  | 0 => rfl
  | k + 1 => by rw [aWo_s, Nat.zero_testBit, if_neg (by decide)]; exact aWo_0 T S z k
theorem aTh_0 (T : Tw) (g : Int) : ∀ k, aTh T 0 g k = 0
  | 0 => rfl
  | k + 1 => by rw [aTh_s, Nat.zero_testBit, if_neg (fun u => absurd u.1 (by decide))]; exact aTh_0 T g k
theorem aCh_0 (T S : Tw) (ki : Int) (a : Nat) : aCh T S 0 ki a = -3 := by
  unfold aCh
  rw [aFF_0, aSo_0, aWo_0, aTh_0, aFF_0]
  have : aPl 0 (T 0 2).toNat a = -3 := by unfold aPl; rw [if_pos (by decide)]
  rw [this]
  repeat' split
  all_goals rfl
/-- what is taken is in the set -/
theorem aSo_in {T S : Tw} {m : Nat} : ∀ k, 0 ≤ (aSo T S m (-3) k).1 → ∃ w : Nat, w < k ∧ (aSo T S m (-3) k).1 = (w : Int) ∧ m.testBit w = true
  | 0, h => absurd h (by show ¬ (0 : Int) ≤ -3; omega)
  | k + 1, h => by
    rw [aSo_s] at h ⊢
    by_cases c : m.testBit k = true
    · rw [if_pos c] at h ⊢
      by_cases d : (aSo T S m (-3) k).1 < 0 ∨ aMin T S k < (aSo T S m (-3) k).2
      · rw [if_pos d]
        exact ⟨k, by omega, rfl, c⟩
      · rw [if_neg d] at h ⊢
        obtain ⟨w, h1, h2, h3⟩ := aSo_in k h
        exact ⟨w, by omega, h2, h3⟩
    · rw [if_neg c] at h ⊢
      obtain ⟨w, h1, h2, h3⟩ := aSo_in k h
      exact ⟨w, by omega, h2, h3⟩
theorem aWo_in {T S : Tw} {m : Nat} : ∀ k, 0 ≤ (aWo T S m (-3) k).1 → ∃ w : Nat, w < k ∧ (aWo T S m (-3) k).1 = (w : Int) ∧ m.testBit w = true
  | 0, h => absurd h (by show ¬ (0 : Int) ≤ -3; omega)
  | k + 1, h => by
    rw [aWo_s] at h ⊢
    by_cases c : m.testBit k = true
    · rw [if_pos c] at h ⊢
      by_cases d : (aWo T S m (-3) k).1 < 0 ∨ (aWo T S m (-3) k).2.1 * aMi T S k < T (10 + k) 5 * (aWo T S m (-3) k).2.2
      · rw [if_pos d]
        exact ⟨k, by omega, rfl, c⟩
      · rw [if_neg d] at h ⊢
        obtain ⟨w, h1, h2, h3⟩ := aWo_in k h
        exact ⟨w, by omega, h2, h3⟩
    · rw [if_neg c] at h ⊢
      obtain ⟨w, h1, h2, h3⟩ := aWo_in k h
      exact ⟨w, by omega, h2, h3⟩
theorem aFF_in {m n a : Nat} (hn : n ≤ 6) (h : 0 ≤ aFF m n a) : ∃ w : Nat, w < n ∧ aFF m n a = (w : Int) ∧ m.testBit w = true := by
  obtain ⟨⟨-, f1⟩, -, f3⟩ := fIx_s (fun k => m.testBit ((a + k) % n)) n 0
  have hi : aFFi m n a = fIx (fun k => m.testBit ((a + k) % n)) 0 n := rfl
  rw [← hi] at f1 f3
  rw [Nat.zero_add] at f1 f3
  unfold aFF at h ⊢
  by_cases c : aFFi m n a = n
  · rw [if_pos c] at h
    exact absurd h (by decide)
  · rw [if_neg c]
    exact ⟨_, Nat.mod_lt _ (by omega), rfl, f3.resolve_left c⟩
theorem aTh_in {T : Tw} {m : Nat} {g : Int} : ∀ k w, (aTh T m g k).testBit w = true → m.testBit w = true
  | 0, w, h => by rw [show aTh T m g 0 = 0 from rfl, Nat.zero_testBit] at h; exact absurd h (by decide)
  | k + 1, w, h => by
    rw [aTh_s] at h
    by_cases c : m.testBit k = true ∧ T (10 + k) 0 = g
    · rw [if_pos c, Nat.testBit_or, Nat.testBit_two_pow, Bool.or_eq_true, decide_eq_true_iff] at h
      rcases h with h | h
      · exact aTh_in k w h
      · rw [← h]; exact c.1
    · rw [if_neg c] at h
      exact aTh_in k w h
theorem aCh_in {T S : Tw} {m a : Nat} {ki : Int} (hI : InvT T) (hm : m < 2 ^ (T 0 2).toNat) (h : 0 ≤ aCh T S m ki a) : ∃ w : Nat, w < (T 0 2).toNat ∧ aCh T S m ki a = (w : Int) ∧ m.testBit w = true := by
  have hc := hI.1
  unfold aCh at h ⊢
  split at h
  next c => rw [if_pos c]; exact aFF_in (by omega) h
  next c1 =>
    rw [if_neg c1]
    split at h
    next c => rw [if_pos c]; exact aSo_in _ h
    next c2 =>
      rw [if_neg c2]
      split at h
      next c => rw [if_pos c]; exact aWo_in _ h
      next c3 =>
        rw [if_neg c3]
        split at h
        next c =>
          rw [if_pos c]
          obtain ⟨w, h1, h2, h3⟩ := aFF_in (by omega) h
          exact ⟨w, h1, h2, aTh_in _ w h3⟩
        next c4 =>
          rw [if_neg c4]
          have c6 := cn6 (T 0 2).toNat (by omega) m hm
          unfold aPl at h ⊢
          by_cases z : aCnt m 6 = 0
          · rw [if_pos z] at h
            exact absurd h (by decide)
          · rw [if_neg z]
            obtain ⟨i1, ⟨i2, i3⟩, -, -⟩ := place_f (m := m) (q := a % aCnt m 6) (n := (T 0 2).toNat) (by omega) hm (by rw [c6.1]; exact Nat.mod_lt _ (by omega))
            exact ⟨_, i1, rfl, i2⟩
section P58
variable {M : Mm} {T S : Tw} {s o : Nat} {mb : Int}
theorem c_choice (hT : CT M 100 T) (hS : CSt M s T S) (hI : InvT T) (hJ : InvS T S mb) (hR : CRu M 100 T) (hQ : InvR T) {r : Nat} (hr : (r : Int) < T 0 3) : p_X2_choice M s (iI (r : Int)) ∧ r_X2_choice M s (iI (r : Int)) = iI (aCh T S (aMask T S (T 0 2).toNat) (T 4 r) (T 5 r).toNat) ∧ w_X2_choice M s (iI (r : Int)) = M := by
  have hc := hI.1
  have hq := hQ.1
  obtain ⟨f1, f2⟩ := c_may hT hS hI hJ
  have nr : Int32.toNatClampNeg (iI (r : Int)) = r := natk rfl (by omega)
  have vr : vp_in (iI (r : Int)) 4 := vin_iI (by omega) (by omega) (by omega)
  have t := hR.2 (r : Int) (by omega) hr
  have tb := hQ.2 (r : Int) (by omega) hr
  rw [Int.toNat_natCast] at t tb
  have t4 : M.1 105 r = iI (T 4 r) := t.1
  have t5 : M.1 106 r = iI (((T 5 r).toNat : Nat) : Int) := by rw [show (((T 5 r).toNat : Nat) : Int) = T 5 r by omega]; exact t.2
  have mp := aMask_p T S (T 0 2).toNat
  have ml := aMask_lt T S (T 0 2).toNat (by omega)
  have w2 : M.1 100 2 = iI (((T 0 2).toNat : Nat) : Int) := by rw [hT.1.2.2]; congr 1; omega
  obtain ⟨p1, r1⟩ := c_first (M := M) (m := aMask T S (T 0 2).toNat) (n := (T 0 2).toNat) (a := (T 5 r).toNat) ml (by omega) (by omega) w2
  obtain ⟨p2, r2, s2⟩ := c_soon hT hS hI hJ ml
  obtain ⟨p3, r3, s3⟩ := c_worth hT hS hI hJ ml
  obtain ⟨p4, r4⟩ := c_kind hT hI ml
  have tl : aTh T (aMask T S (T 0 2).toNat) (aGr T (aMask T S (T 0 2).toNat) (-1) (T 0 2).toNat) (T 0 2).toNat < 64 := Nat.lt_of_lt_of_le (aTh_lt _ _ _ _) (show 2 ^ (T 0 2).toNat ≤ 2 ^ 6 from Nat.pow_le_pow_right (by decide) (by omega))
  obtain ⟨p5, r5⟩ := c_first (M := M) (n := (T 0 2).toNat) (a := (T 5 r).toNat) tl (by omega) (by omega) w2
  obtain ⟨p6, r6, s6⟩ := c_place (M := M) (n := (T 0 2).toNat) (a := (T 5 r).toNat) (by omega) mp (by omega) w2
  unfold p_X2_choice r_X2_choice w_X2_choice aCh
  rw [nr, t4, t5, f2]
  have k1 : (iI (T 4 r) = 1) ↔ T 4 r = 1 := by rw [cl1, iI_eq (by omega) (by omega) (by omega) (by omega)]
  have k2 : (iI (T 4 r) = 2) ↔ T 4 r = 2 := by rw [cl2, iI_eq (by omega) (by omega) (by omega) (by omega)]
  have k3 : (iI (T 4 r) = 3) ↔ T 4 r = 3 := by rw [cl3, iI_eq (by omega) (by omega) (by omega) (by omega)]
  have k4 : (iI (T 4 r) = 4) ↔ T 4 r = 4 := by rw [cl4, iI_eq (by omega) (by omega) (by omega) (by omega)]
  have k5 : (iI (T 4 r) = 5) ↔ T 4 r = 5 := by rw [cl5, iI_eq (by omega) (by omega) (by omega) (by omega)]
  by_cases d1 : T 4 r = 1
  · rw [if_pos (k1.mpr d1), if_pos (k1.mpr d1), if_pos (k1.mpr d1), if_pos d1]
    exact ⟨⟨f1, vr, vr, p1, trivial⟩, r1, rfl⟩
  · have g1 : ¬ iI (T 4 r) = 1 := fun u => d1 (k1.mp u)
    rw [if_neg g1, if_neg g1, if_neg g1, if_neg d1]
    by_cases d2 : T 4 r = 2
    · rw [if_pos (k2.mpr d2), if_pos (k2.mpr d2), if_pos (k2.mpr d2), if_pos d2]
      exact ⟨⟨f1, vr, vr, p2, trivial⟩, r2, s2⟩
    · have g2 : ¬ iI (T 4 r) = 2 := fun u => d2 (k2.mp u)
      rw [if_neg g2, if_neg g2, if_neg g2, if_neg d2]
      by_cases d3 : T 4 r = 3
      · rw [if_pos (k3.mpr d3), if_pos (k3.mpr d3), if_pos (k3.mpr d3), if_pos d3]
        exact ⟨⟨f1, vr, vr, p3, trivial⟩, r3, s3⟩
      · have g3 : ¬ iI (T 4 r) = 3 := fun u => d3 (k3.mp u)
        rw [if_neg g3, if_neg g3, if_neg g3, if_neg d3]
        by_cases d4 : T 4 r = 4
        · rw [if_pos (k4.mpr d4), if_pos (k4.mpr d4), if_pos (k4.mpr d4), if_pos d4, r4]
          exact ⟨⟨f1, vr, vr, p4, p5, trivial⟩, r5, rfl⟩
        · have g4 : ¬ iI (T 4 r) = 4 := fun u => d4 (k4.mp u)
          have d5 : T 4 r = 5 := by omega
          rw [if_neg g4, if_neg g4, if_neg g4, if_neg d4, if_pos (k5.mpr d5), if_pos (k5.mpr d5), if_pos (k5.mpr d5)]
          exact ⟨⟨f1, vr, vr, p6, trivial⟩, r6, s6⟩
theorem r_takesOf (hT : RT M T) (ha : RA M o) (hS : RS M o T S) (hI : InvT T) (hJ : InvS T S mb) (hR : RRu M T) (hQ : InvR T) {r m : Nat} (hr : (r : Int) < T 0 3) (hm : m < 2 ^ (T 0 2).toNat) (hm0 : 0 < m) : p_X8_takesOf M (iI (r : Int)) (iI (m : Int)) ∧ r_X8_takesOf M (iI (r : Int)) (iI (m : Int)) = iI (aCh T S m (T 4 r) (T 5 r).toNat) ∧ w_X8_takesOf M (iI (r : Int)) (iI (m : Int)) = M ∧ 0 ≤ aCh T S m (T 4 r) (T 5 r).toNat := by
  have hc := hI.1
  have hq := hQ.1
  have n2 : Int32.toNatClampNeg ((2 : Int32) * iI (r : Int)) = 2 * r := by rw [cl2, iI_mul]; exact natk (by omega) (by omega)
  have n3 : Int32.toNatClampNeg ((2 : Int32) * iI (r : Int) + 1) = 2 * r + 1 := by rw [cl2, cl1, iI_mul, iI_add]; exact natk (by omega) (by omega)
  have v2 : vp_in ((2 : Int32) * iI (r : Int)) 8 := by rw [cl2, iI_mul]; exact vin_iI (by omega) (by omega) (by omega)
  have v3 : vp_in ((2 : Int32) * iI (r : Int) + 1) 8 := by rw [cl2, cl1, iI_mul, iI_add]; exact vin_iI (by omega) (by omega) (by omega)
  have t := hR.2 (r : Int) (by omega) hr
  have tb := hQ.2 (r : Int) (by omega) hr
  rw [Int.toNat_natCast] at t tb
  have t5 : M.1 608 (2 * r + 1) = iI (((T 5 r).toNat : Nat) : Int) := by rw [show (((T 5 r).toNat : Nat) : Int) = T 5 r by omega]; exact t.2
  have ml : m < 64 := Nat.lt_of_lt_of_le hm (show 2 ^ (T 0 2).toNat ≤ 2 ^ 6 from Nat.pow_le_pow_right (by decide) (by omega))
  have w2 : M.1 600 2 = iI (((T 0 2).toNat : Nat) : Int) := by rw [hT.1.2.2]; congr 1; omega
  have some1 : ¬ ∀ w, w < (T 0 2).toNat → m.testBit w = false := fun u => by
    have z : m = 0 := Nat.eq_of_testBit_eq (fun i => by
      rw [Nat.zero_testBit]
      by_cases q : i < (T 0 2).toNat
      · exact u i q
      · exact Nat.testBit_lt_two_pow (Nat.lt_of_lt_of_le hm (Nat.pow_le_pow_right (by decide) (by omega))))
    omega
  obtain ⟨p1, r1, o1⟩ := r_first (M := M) (m := m) (n := (T 0 2).toNat) (a := (T 5 r).toNat) hm hm0 (by omega) (by omega) w2
  obtain ⟨p2, r2, s2⟩ := r_soon hT ha hS hI hJ ml
  obtain ⟨o2, -, e2⟩ := (aSo_2 T S m (T 0 2).toNat).resolve_left (fun u => some1 u.1)
  rw [← e2] at r2
  obtain ⟨p3, r3, s3⟩ := r_worth hT ha hS hI hJ ml
  obtain ⟨o3, -, e3⟩ := (aWo_2 T S m (T 0 2).toNat).resolve_left (fun u => some1 u.1)
  rw [← e3] at r3
  obtain ⟨p4, r4, o4⟩ := r_kind (M := M) (a := (T 5 r).toNat) hT hI hm hm0 (by omega)
  obtain ⟨p5, r5⟩ := r_ones (M := M) ml
  have c6 := cn6 (T 0 2).toNat (by omega) m hm
  have cp := cnp m ml hm0
  have qlt : (T 5 r).toNat % aCnt m 6 < aCnt m 6 := Nat.mod_lt _ cp
  obtain ⟨p6, r6⟩ := r_place (M := M) (m := m) (n := (T 0 2).toNat) (q := (T 5 r).toNat % aCnt m 6) (by omega) hm (by omega)
  have em : iI (((T 5 r).toNat : Nat) : Int) - iI (((T 5 r).toNat : Nat) : Int) / iI ((aCnt m 6 : Nat) : Int) * iI ((aCnt m 6 : Nat) : Int) = iI (((T 5 r).toNat % aCnt m 6 : Nat) : Int) := by
    rw [modI (by omega) (by omega) (by omega) (by omega)]
    congr 1
  unfold p_X8_takesOf r_X8_takesOf w_X8_takesOf aCh
  rw [n2, n3, t.1, t5]
  have k1 : (iI (T 4 r) = 1) ↔ T 4 r = 1 := by rw [cl1, iI_eq (by omega) (by omega) (by omega) (by omega)]
  have k2 : (iI (T 4 r) = 2) ↔ T 4 r = 2 := by rw [cl2, iI_eq (by omega) (by omega) (by omega) (by omega)]
  have k3 : (iI (T 4 r) = 3) ↔ T 4 r = 3 := by rw [cl3, iI_eq (by omega) (by omega) (by omega) (by omega)]
  have k4 : (iI (T 4 r) = 4) ↔ T 4 r = 4 := by rw [cl4, iI_eq (by omega) (by omega) (by omega) (by omega)]
  by_cases d1 : T 4 r = 1
  · rw [if_pos (k1.mpr d1), if_pos (k1.mpr d1), if_pos (k1.mpr d1), if_pos d1]
    exact ⟨⟨v3, v2, p1, trivial⟩, r1, rfl, o1⟩
  · have g1 : ¬ iI (T 4 r) = 1 := fun u => d1 (k1.mp u)
    rw [if_neg g1, if_neg g1, if_neg g1, if_neg d1]
    by_cases d2 : T 4 r = 2
    · rw [if_pos (k2.mpr d2), if_pos (k2.mpr d2), if_pos (k2.mpr d2), if_pos d2]
      exact ⟨⟨v3, v2, p2, trivial⟩, r2, s2, o2⟩
    · have g2 : ¬ iI (T 4 r) = 2 := fun u => d2 (k2.mp u)
      rw [if_neg g2, if_neg g2, if_neg g2, if_neg d2]
      by_cases d3 : T 4 r = 3
      · rw [if_pos (k3.mpr d3), if_pos (k3.mpr d3), if_pos (k3.mpr d3), if_pos d3]
        exact ⟨⟨v3, v2, p3, trivial⟩, r3, s3, o3⟩
      · have g3 : ¬ iI (T 4 r) = 3 := fun u => d3 (k3.mp u)
        rw [if_neg g3, if_neg g3, if_neg g3, if_neg d3]
        by_cases d4 : T 4 r = 4
        · rw [if_pos (k4.mpr d4), if_pos (k4.mpr d4), if_pos (k4.mpr d4), if_pos d4]
          exact ⟨⟨v3, v2, p4, trivial⟩, r4, rfl, o4⟩
        · have g4 : ¬ iI (T 4 r) = 4 := fun u => d4 (k4.mp u)
          rw [if_neg g4, if_neg g4, if_neg g4, if_neg d4, r5, em]
          unfold aPl
          rw [if_neg (by omega)]
          refine ⟨⟨v3, v2, p5, ?_, p6, trivial⟩, r6, rfl, by omega⟩
          rw [cl0, iI_eq (by omega) (by omega) (by omega) (by omega)]
          omega
end P58
section P58b
variable {M : Mm} {n : Nat}
theorem pair_takes (h : Rel M n) (hn : n < 64) (a1 : Int32) : PairI (p_X7_takes M a1) (p_X8_takes (w_X7_takes M a1) a1) (r_X7_takes M a1) (r_X8_takes (w_X7_takes M a1) a1) (w_X8_takes (w_X7_takes M a1) a1) n := by
  obtain ⟨x, rfl, x1, x2⟩ := ex_iI a1
  obtain ⟨T, S, g, ⟨c1, c2, c3, c4⟩, ⟨r1, r2, r3, r4, r5⟩, i1, i2, i3, i4, i5⟩ := h.1
  have hR := i2.1
  have u7 : (0 ≤ iI x ∧ iI x < M.1 100 3) ↔ (0 ≤ x ∧ x < T 0 3) := by rw [c4.1, cl0, iI_le (by omega) (by omega) (by omega) (by omega), iI_lt (by omega) (by omega) (by omega) (by omega)]
  have u8 : (0 ≤ iI x ∧ iI x ≤ M.1 600 12 - 1) ↔ (0 ≤ x ∧ x < T 0 3) := by rw [r5.1, cl0, cl1, iI_sub, iI_le (by omega) (by omega) (by omega) (by omega), iI_le (by omega) (by omega) (by omega) (by omega)]; omega
  unfold p_X7_takes p_X8_takes r_X7_takes r_X8_takes w_X8_takes w_X7_takes
  by_cases c : 0 ≤ x ∧ x < T 0 3
  · obtain ⟨r, rfl⟩ : ∃ r : Nat, x = (r : Int) := ⟨x.toNat, by omega⟩
    have q7 := b2i_1.mpr (u7.mpr c)
    have q8 := b2i_1.mpr (u8.mpr c)
    obtain ⟨p1, p2, p3⟩ := c_choice c1 c2 i1 i3 c4 i2 c.2
    obtain ⟨m1, m2⟩ := r_may r1 r3 r2 i1 i3
    have ml := aMask_lt T S (T 0 2).toNat (by have := i1.1; omega)
    simp only [if_neg q7, p2, p3, if_pos q8, m2]
    by_cases z : aMask T S (T 0 2).toNat = 0
    · rw [z, aCh_0]
      have z0 : ¬ ¬ iI ((0 : Nat) : Int) = 0 := by decide
      simp only [if_neg z0]
      exact ⟨⟨p1, trivial⟩, ⟨m1, trivial⟩, rfl, h.up (by omega)⟩
    · have z0 : ¬ iI ((aMask T S (T 0 2).toNat : Nat) : Int) = 0 := by rw [cl0, iI_eq (by omega) (by omega) (by omega) (by omega)]; omega
      obtain ⟨t1, t2, t3, -⟩ := r_takesOf (m := aMask T S (T 0 2).toNat) r1 r3 r2 i1 i3 r5 i2 c.2 (aMask_p T S _) (by omega)
      simp only [if_pos z0, t2, t3]
      exact ⟨⟨p1, trivial⟩, ⟨m1, m1, t1, trivial⟩, rfl, h.up (by omega)⟩
  · have q7 := b2i_0.mpr (fun u => c (u7.mp u))
    have q8 : ¬ ¬ b2i (0 ≤ iI x ∧ iI x ≤ M.1 600 12 - 1) = 0 := not_not_intro (b2i_0.mpr (fun u => c (u8.mp u)))
    simp only [if_pos q7, if_neg q8]
    exact ⟨trivial, trivial, rfl, h.up (by omega)⟩
end P58b
