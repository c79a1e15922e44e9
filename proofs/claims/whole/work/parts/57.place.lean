/-! the place in a set -/
def aCnt (m : Nat) : Nat → Nat
  | 0 => 0
  | k + 1 => aCnt m k + (if m.testBit k then 1 else 0)
def aPi (m q n : Nat) : Nat := fIx (fun w => m.testBit w && decide (aCnt m w = q)) 0 n
def aPl (m n a : Nat) : Int := if aCnt m 6 = 0 then -3 else ((aPi m (a % aCnt m 6) n : Nat) : Int)
def clr (x : Nat) : Nat := x &&& (x - 1)
def itc (m : Nat) : Nat → Nat
  | 0 => m
  | k + 1 => clr (itc m k)
theorem pz : ∀ n, n < 7 → ∀ m, m < 2 ^ n → ∀ q, q < 7 → q < aCnt m n → fIx (fun w => m.testBit w && decide (aCnt m w = q)) 0 n < n := by decide +kernel
theorem cn6 : ∀ n, n < 7 → ∀ m, m < 2 ^ n → aCnt m n = aCnt m 6 ∧ aCnt m 6 ≤ 6 := by decide +kernel
theorem cnp : ∀ m, m < 64 → 0 < m → 0 < aCnt m 6 := by decide +kernel
theorem ones_f : ∀ m, m < 64 → (∀ k, k < aCnt m 6 → itc m k ≠ 0 ∧ itc m k < 64) ∧ itc m (aCnt m 6) = 0 ∧ aCnt m 6 ≤ 6 := by decide +kernel
theorem clr_i : ∀ x : Nat, x < 64 → x ≠ 0 → iI (x : Int) &&& (iI (x : Int) - 1) = iI ((clr x : Nat) : Int) := by decide +kernel
theorem bc0 : ∀ m : Nat, m < 64 → r_J6_bitCount_0f7a4 ((fun _ _ => 0, fun _ _ => 0) : Mm) (iI (m : Int)) = iI ((aCnt m 6 : Nat) : Int) := by decide +kernel
theorem aCnt_s (m k : Nat) : aCnt m (k + 1) = aCnt m k + (if m.testBit k then 1 else 0) := rfl
section P57
variable {M : Mm}
theorem c_bits {m : Nat} (hm : m < 64) : r_J6_bitCount_0f7a4 M (iI (m : Int)) = iI ((aCnt m 6 : Nat) : Int) := bc0 m hm
theorem place_f {m q n : Nat} (hn : n ≤ 6) (hm : m < 2 ^ n) (hq : q < aCnt m n) : aPi m q n < n ∧ (m.testBit (aPi m q n) = true ∧ aCnt m (aPi m q n) = q) ∧ (∀ k, k < aPi m q n → ¬ (m.testBit k = true ∧ aCnt m k = q)) ∧ (∀ k, k ≤ aPi m q n → aCnt m k ≤ q) := by
  have c6 := cn6 n (by omega) m hm
  have f1 := pz n (by omega) m hm q (by omega) hq
  obtain ⟨-, f2, f3⟩ := fIx_s (fun w => m.testBit w && decide (aCnt m w = q)) n 0
  have hi : aPi m q n = fIx (fun w => m.testBit w && decide (aCnt m w = q)) 0 n := rfl
  rw [← hi] at f1 f2 f3
  have g3 := f3.resolve_left (by omega)
  have g3' : (m.testBit (aPi m q n) && decide (aCnt m (aPi m q n) = q)) = true := g3
  rw [Bool.and_eq_true, decide_eq_true_iff] at g3'
  have g2 : ∀ k, k < aPi m q n → ¬ (m.testBit k = true ∧ aCnt m k = q) := fun k hk u => by
    have g : (m.testBit k && decide (aCnt m k = q)) = false := f2 k (Nat.zero_le k) hk
    rw [u.1, u.2] at g
    simp at g
  refine ⟨f1, g3', g2, ?_⟩
  intro k
  induction k with
  | zero => intro _; exact Nat.zero_le q
  | succ k ih =>
    intro hk
    have := ih (by omega)
    rw [aCnt_s]
    have g := g2 k (by omega)
    split
    next c =>
      have : aCnt m k ≠ q := fun e => g ⟨c, e⟩
      omega
    next => omega
theorem c_place {m n a : Nat} (hn : n ≤ 6) (hm : m < 2 ^ n) (ha : a ≤ 9) (h : M.1 100 2 = iI (n : Int)) : p_X2_atPlace M (iI (m : Int)) (iI (a : Int)) ∧ r_X2_atPlace M (iI (m : Int)) (iI (a : Int)) = iI (aPl m n a) ∧ w_X2_atPlace M (iI (m : Int)) (iI (a : Int)) = M := by
  have hm6 : m < 64 := Nat.lt_of_lt_of_le hm (show 2 ^ n ≤ 2 ^ 6 from Nat.pow_le_pow_right (by decide) hn)
  have c6 := cn6 n (by omega) m hm
  unfold p_X2_atPlace r_X2_atPlace w_X2_atPlace
  rw [c_bits hm6]
  obtain ⟨c, hc⟩ : ∃ c, c = aCnt m 6 := ⟨_, rfl⟩
  have e1 : ((1 : Int32) ≤ iI ((c : Nat) : Int)) ↔ 1 ≤ c := by rw [cl1, iI_le (by omega) (by omega) (by omega) (by omega)]; omega
  unfold aPl
  rw [← hc]
  by_cases c0 : c = 0
  · have g : ¬ (1 : Int32) ≤ iI ((c : Nat) : Int) := fun u => by have := e1.mp u; omega
    rw [if_neg g, if_neg g, if_neg g, if_pos c0]
    exact ⟨trivial, cm3, rfl⟩
  · have g := e1.mpr (by omega)
    rw [if_pos g, if_pos g, if_pos g, if_neg c0]
    obtain ⟨q, hq⟩ : ∃ q, q = a % c := ⟨_, rfl⟩
    have q1 : q < c := by rw [hq]; exact Nat.mod_lt a (by omega)
    obtain ⟨i1, ⟨i2, i3⟩, i4, i5⟩ := place_f hn hm (q := q) (by omega)
    rw [← hq]
    obtain ⟨i0, hi0⟩ : ∃ i0, i0 = aPi m q n := ⟨_, rfl⟩
    rw [← hi0] at i1 i2 i3 i4 i5 ⊢
    have em : iI (a : Int) - iI (a : Int) / iI ((c : Nat) : Int) * iI ((c : Nat) : Int) = iI (((q : Nat) : Int) - ((aCnt m 0 : Nat) : Int)) := by
      rw [modI (by omega) (by omega) (by omega) (by omega)]
      congr 1
      rw [hq]
      show ((a : Int) % (c : Int)) = ((a % c : Nat) : Int) - ((0 : Nat) : Int)
      omega
    have bt : ∀ k : Nat, k < 8 → ((b2i (¬ (iI (m : Int) >>> (iI (k : Int) &&& 31)) &&& 1 = 0) = 0) ↔ m.testBit k = false) := fun k hk => by
      rw [b2i_0, Classical.not_not]
      exact msk_in m hm6 k hk
    have lt : ∀ k : Nat, k ≤ i0 → ¬ M.1 100 2 ≤ iI (k : Int) := fun k hk => by rw [h, iI_le (by omega) (by omega) (by omega) (by omega)]; omega
    have goes : ∀ k : Nat, k < i0 → ¬ m.testBit k = true ∨ ¬ iI (((q : Nat) : Int) - ((aCnt m k : Nat) : Int)) = 0 := fun k hk => by
      by_cases d : m.testBit k = true
      · have := i4 k hk
        have l := i5 k (by omega)
        refine Or.inr ?_
        rw [cl0, iI_eq (by omega) (by omega) (by omega) (by omega)]
        have : aCnt m k ≠ q := fun e => this ⟨d, e⟩
        omega
      · exact Or.inl d
    have key : ∀ k, k ≤ i0 → l_X2_atPlace_21 M (iI (m : Int)) (iI (a : Int)) (iI ((c : Nat) : Int)) (iI (a : Int) - iI (a : Int) / iI ((c : Nat) : Int) * iI ((c : Nat) : Int), 0) k = (iI (((q : Nat) : Int) - ((aCnt m k : Nat) : Int)), iI (k : Int)) := by
      rw [em]
      refine it_for _ rfl (fun k hk => ?_)
      show s_X2_atPlace_21 M (iI (m : Int)) (iI (a : Int)) (iI ((c : Nat) : Int)) (iI (((q : Nat) : Int) - ((aCnt m k : Nat) : Int)), iI (k : Int)) = _
      unfold s_X2_atPlace_21
      dsimp only
      rw [if_neg (lt k (by omega)), k1_iI, aCnt_s]
      by_cases d : m.testBit k = true
      · have g : ¬ b2i (¬ (iI (m : Int) >>> (iI (k : Int) &&& 31)) &&& 1 = 0) = 0 := fun u => by rw [(bt k (by omega)).mp u] at d; exact absurd d (by decide)
        rw [if_neg g, if_pos ((goes k hk).resolve_left (not_not_intro d)), if_pos d, cm1, iI_add]
        refine Prod.ext ?_ rfl
        show iI _ = iI _
        congr 1
        omega
      · have df : m.testBit k = false := by simpa using d
        rw [if_pos ((bt k (by omega)).mpr df), if_neg d]
        rfl
    have cT : ∀ k, k < i0 → c_X2_atPlace_21 M (iI (m : Int)) (iI (a : Int)) (iI ((c : Nat) : Int)) (iI (((q : Nat) : Int) - ((aCnt m k : Nat) : Int)), iI (k : Int)) := fun k hk => by
      unfold c_X2_atPlace_21
      dsimp only
      rw [if_neg (lt k (by omega))]
      by_cases d : m.testBit k = true
      · have g : ¬ b2i (¬ (iI (m : Int) >>> (iI (k : Int) &&& 31)) &&& 1 = 0) = 0 := fun u => by rw [(bt k (by omega)).mp u] at d; exact absurd d (by decide)
        rw [if_neg g, if_pos ((goes k hk).resolve_left (not_not_intro d))]
        trivial
      · have df : m.testBit k = false := by simpa using d
        rw [if_pos ((bt k (by omega)).mpr df)]
        trivial
    have gb : ¬ b2i (¬ (iI (m : Int) >>> (iI (i0 : Int) &&& 31)) &&& 1 = 0) = 0 := fun u => by rw [(bt i0 (by omega)).mp u] at i2; exact absurd i2 (by decide)
    have z0 : iI (((q : Nat) : Int) - ((aCnt m i0 : Nat) : Int)) = 0 := by rw [i3]; show iI _ = iI 0; congr 1; omega
    have stop : ¬ c_X2_atPlace_21 M (iI (m : Int)) (iI (a : Int)) (iI ((c : Nat) : Int)) (iI (((q : Nat) : Int) - ((aCnt m i0 : Nat) : Int)), iI (i0 : Int)) := by
      unfold c_X2_atPlace_21
      dsimp only
      rw [if_neg (lt i0 (by omega)), if_neg gb, if_neg (not_not_intro z0)]
      exact fun h => h
    have cn : cntN (fun k => c_X2_atPlace_21 M (iI (m : Int)) (iI (a : Int)) (iI ((c : Nat) : Int)) (l_X2_atPlace_21 M (iI (m : Int)) (iI (a : Int)) (iI ((c : Nat) : Int)) (iI (a : Int) - iI (a : Int) / iI ((c : Nat) : Int) * iI ((c : Nat) : Int), 0) k)) 7 = i0 := by
      refine cntN_eq (by omega) (fun k hk => ?_) ?_
      · show c_X2_atPlace_21 _ _ _ _ _
        rw [key k (by omega)]
        exact cT k hk
      · show ¬ c_X2_atPlace_21 _ _ _ _ _
        rw [key i0 (Nat.le_refl _)]
        exact stop
    unfold p_X2_atPlace_13 r_X2_atPlace_13 w_X2_atPlace_13
    rw [cn, key i0 (Nat.le_refl _)]
    dsimp only
    rw [if_neg (lt i0 (Nat.le_refl _)), if_neg (lt i0 (Nat.le_refl _)), if_neg gb, if_neg gb, if_neg (not_not_intro z0), if_neg (not_not_intro z0)]
    refine ⟨⟨?_, fun k hk => ?_, stop, trivial⟩, rfl, rfl⟩
    · rw [cl0, iI_eq (by omega) (by omega) (by omega) (by omega)]; omega
    · rw [key k (by omega)]
      exact cT k hk
theorem r_ones {m : Nat} (hm : m < 64) : p_X8_ones M (iI (m : Int)) ∧ r_X8_ones M (iI (m : Int)) = iI ((aCnt m 6 : Nat) : Int) := by
  obtain ⟨f1, f2, f3⟩ := ones_f m hm
  obtain ⟨c, hc⟩ : ∃ c, c = aCnt m 6 := ⟨_, rfl⟩
  rw [← hc] at f1 f2 f3 ⊢
  have nz : ∀ k, k < c → ¬ iI ((itc m k : Nat) : Int) = 0 := fun k hk => by
    have := f1 k hk
    rw [cl0, iI_eq (by omega) (by omega) (by omega) (by omega)]
    omega
  have key : ∀ k, k ≤ c → l_X8_ones_4 M (iI (m : Int)) (0, iI (m : Int)) k = (iI (k : Int), iI ((itc m k : Nat) : Int)) := by
    refine it_for _ rfl (fun k hk => ?_)
    show s_X8_ones_4 M (iI (m : Int)) (iI (k : Int), iI ((itc m k : Nat) : Int)) = _
    unfold s_X8_ones_4
    dsimp only
    rw [if_neg (nz k hk), k1_iI, clr_i _ (f1 k hk).2 (f1 k hk).1]
    rfl
  have z0 : iI ((itc m c : Nat) : Int) = 0 := by rw [f2]; rfl
  have stop : ¬ c_X8_ones_4 M (iI (m : Int)) (iI (c : Int), iI ((itc m c : Nat) : Int)) := by
    unfold c_X8_ones_4
    dsimp only
    rw [if_pos z0]
    exact fun h => h
  have cT : ∀ k, k < c → c_X8_ones_4 M (iI (m : Int)) (iI (k : Int), iI ((itc m k : Nat) : Int)) := fun k hk => by
    unfold c_X8_ones_4
    dsimp only
    rw [if_neg (nz k hk)]
    trivial
  have cn : cntN (fun k => c_X8_ones_4 M (iI (m : Int)) (l_X8_ones_4 M (iI (m : Int)) (0, iI (m : Int)) k)) 7 = c := by
    refine cntN_eq (by omega) (fun k hk => ?_) ?_
    · show c_X8_ones_4 _ _ _
      rw [key k (by omega)]
      exact cT k hk
    · show ¬ c_X8_ones_4 _ _ _
      rw [key c (Nat.le_refl _)]
      exact stop
  unfold p_X8_ones r_X8_ones
  rw [cn, key c (Nat.le_refl _)]
  dsimp only
  rw [if_pos z0, if_pos z0]
  exact ⟨⟨fun k hk => by rw [key k (by omega)]; exact cT k hk, stop, trivial⟩, rfl⟩
theorem r_place {m n q : Nat} (hn : n ≤ 6) (hm : m < 2 ^ n) (hq : q < aCnt m n) : p_X8_placeIn M (iI (m : Int)) (iI (q : Int)) ∧ r_X8_placeIn M (iI (m : Int)) (iI (q : Int)) = iI ((aPi m q n : Nat) : Int) := by
  have hm6 : m < 64 := Nat.lt_of_lt_of_le hm (show 2 ^ n ≤ 2 ^ 6 from Nat.pow_le_pow_right (by decide) hn)
  have c6 := cn6 n (by omega) m hm
  obtain ⟨i1, ⟨i2, i3⟩, i4, i5⟩ := place_f hn hm hq
  obtain ⟨i0, hi0⟩ : ∃ i0, i0 = aPi m q n := ⟨_, rfl⟩
  rw [← hi0] at i1 i2 i3 i4 i5 ⊢
  have goes : ∀ k : Nat, k < i0 → m.testBit k = true → ¬ iI (((q : Nat) : Int) - ((aCnt m k : Nat) : Int)) ≤ 0 := fun k hk d => by
    have := i4 k hk
    have l := i5 k (by omega)
    rw [cl0, iI_le (by omega) (by omega) (by omega) (by omega)]
    have : aCnt m k ≠ q := fun e => this ⟨d, e⟩
    omega
  have key : ∀ k, k ≤ i0 → l_X8_placeIn_5 M (iI (m : Int)) (iI (q : Int)) (iI (q : Int), 0) k = (iI (((q : Nat) : Int) - ((aCnt m k : Nat) : Int)), iI (k : Int)) := by
    refine it_for _ ?_ (fun k hk => ?_)
    · refine Prod.ext ?_ rfl
      show iI (q : Int) = iI ((q : Int) - ((0 : Nat) : Int))
      rw [show (q : Int) - ((0 : Nat) : Int) = q by omega]
    · show s_X8_placeIn_5 M (iI (m : Int)) (iI (q : Int)) (iI (((q : Nat) : Int) - ((aCnt m k : Nat) : Int)), iI (k : Int)) = _
      unfold s_X8_placeIn_5
      dsimp only
      have b0 := msk_in m hm6 k (by omega)
      have b1 := msk_in1 m hm6 k (by omega)
      rw [k1_iI, aCnt_s]
      by_cases d : m.testBit k = true
      · have e1 := b1.mpr d
        rw [e1, if_neg (show ¬ (1 : Int32) = 0 by decide), if_neg (goes k hk d), if_pos d, cl1, iI_sub]
        refine Prod.ext ?_ rfl
        show iI _ = iI _
        congr 1
        omega
      · have df : m.testBit k = false := by simpa using d
        have e0 := b0.mpr df
        rw [e0, if_pos rfl, if_neg d, cl0, iI_sub]
        refine Prod.ext ?_ rfl
        show iI _ = iI _
        congr 1
        omega
  have cT : ∀ k, k < i0 → c_X8_placeIn_5 M (iI (m : Int)) (iI (q : Int)) (iI (((q : Nat) : Int) - ((aCnt m k : Nat) : Int)), iI (k : Int)) := fun k hk => by
    unfold c_X8_placeIn_5
    dsimp only
    have b0 := msk_in m hm6 k (by omega)
    by_cases d : m.testBit k = true
    · rw [if_neg (fun u => by rw [b0.mp u] at d; exact absurd d (by decide)), if_neg (goes k hk d)]
      trivial
    · have df : m.testBit k = false := by simpa using d
      rw [if_pos (b0.mpr df)]
      trivial
  have b0 := msk_in m hm6 i0 (by omega)
  have nb : ¬ ((iI (m : Int) >>> (iI (i0 : Int) &&& 31)) &&& 1) = 0 := fun u => by rw [b0.mp u] at i2; exact absurd i2 (by decide)
  have z0 : iI (((q : Nat) : Int) - ((aCnt m i0 : Nat) : Int)) ≤ 0 := by rw [i3, cl0, iI_le (by omega) (by omega) (by omega) (by omega)]; omega
  have stop : ¬ c_X8_placeIn_5 M (iI (m : Int)) (iI (q : Int)) (iI (((q : Nat) : Int) - ((aCnt m i0 : Nat) : Int)), iI (i0 : Int)) := by
    unfold c_X8_placeIn_5
    dsimp only
    rw [if_neg nb, if_pos z0]
    exact fun h => h
  have cn : cntN (fun k => c_X8_placeIn_5 M (iI (m : Int)) (iI (q : Int)) (l_X8_placeIn_5 M (iI (m : Int)) (iI (q : Int)) (iI (q : Int), 0) k)) 7 = i0 := by
    refine cntN_eq (by omega) (fun k hk => ?_) ?_
    · show c_X8_placeIn_5 _ _ _ _
      rw [key k (by omega)]
      exact cT k hk
    · show ¬ c_X8_placeIn_5 _ _ _ _
      rw [key i0 (Nat.le_refl _)]
      exact stop
  unfold p_X8_placeIn r_X8_placeIn
  rw [cn, key i0 (Nat.le_refl _)]
  dsimp only
  rw [if_neg nb, if_neg nb, if_pos z0, if_pos z0]
  exact ⟨⟨fun k hk => by rw [key k (by omega)]; exact cT k hk, stop, trivial⟩, rfl⟩
end P57
