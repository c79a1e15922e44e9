/-! the soonest, the worthiest -/
def aSo (T S : Tw) (m : Nat) (z : Int) : Nat → Int × Int
  | 0 => (z, 0)
  | k + 1 => if m.testBit k then (if (aSo T S m z k).1 < 0 ∨ aMin T S k < (aSo T S m z k).2 then ((k : Int), aMin T S k) else aSo T S m z k) else aSo T S m z k
theorem aSo_s (T S : Tw) (m : Nat) (z : Int) (k : Nat) : aSo T S m z (k + 1) = if m.testBit k then (if (aSo T S m z k).1 < 0 ∨ aMin T S k < (aSo T S m z k).2 then ((k : Int), aMin T S k) else aSo T S m z k) else aSo T S m z k := rfl
theorem aSo_2 (T S : Tw) (m : Nat) : ∀ k, ((∀ w, w < k → m.testBit w = false) ∧ aSo T S m (-3) k = (-3, 0) ∧ aSo T S m (-1) k = (-1, 0)) ∨ (0 ≤ (aSo T S m (-3) k).1 ∧ (aSo T S m (-3) k).1 < k ∧ aSo T S m (-3) k = aSo T S m (-1) k)
  | 0 => Or.inl ⟨fun w h => absurd h (Nat.not_lt_zero w), rfl, rfl⟩
  | k + 1 => by
    rw [aSo_s, aSo_s]
    by_cases c : m.testBit k = true
    · rw [if_pos c, if_pos c]
      rcases aSo_2 T S m k with ⟨h1, h2, h3⟩ | ⟨h1, h2, h3⟩
      · rw [h2, h3]
        refine Or.inr ?_
        rw [if_pos (Or.inl (by decide)), if_pos (Or.inl (by decide))]
        exact ⟨by show (0 : Int) ≤ (k : Int); omega, by show (k : Int) < ((k + 1 : Nat) : Int); omega, rfl⟩
      · rw [← h3]
        refine Or.inr ?_
        split
        · exact ⟨by show (0 : Int) ≤ (k : Int); omega, by show (k : Int) < ((k + 1 : Nat) : Int); omega, rfl⟩
        · exact ⟨h1, by omega, rfl⟩
    · rw [if_neg c, if_neg c]
      rcases aSo_2 T S m k with ⟨h1, h2, h3⟩ | ⟨h1, h2, h3⟩
      · refine Or.inl ⟨fun w hw => ?_, h2, h3⟩
        by_cases q : w = k
        · rw [q]; simpa using c
        · exact h1 w (by omega)
      · exact Or.inr ⟨h1, by omega, h3⟩
theorem aSo_b {T S : Tw} {mb : Int} (hI : InvT T) (hJ : InvS T S mb) (m : Nat) {z : Int} (hz : -3 ≤ z ∧ z < 0) : ∀ k : Nat, (k : Int) ≤ T 0 2 → (-3 ≤ (aSo T S m z k).1 ∧ (aSo T S m z k).1 ≤ 6) ∧ (0 ≤ (aSo T S m z k).2 ∧ (aSo T S m z k).2 ≤ 198)
  | 0, _ => ⟨⟨hz.1, by show z ≤ 6; omega⟩, by show (0 : Int) ≤ 0; omega, by show (0 : Int) ≤ 198; omega⟩
  | k + 1, h => by
    have hc := hI.1
    have ih := aSo_b hI hJ m hz k (by omega)
    have mn := aMin_le hI hJ (w := k) (by omega)
    rw [aSo_s]
    split
    · split
      · exact ⟨⟨by show -3 ≤ (k : Int); omega, by show (k : Int) ≤ 6; omega⟩, mn⟩
      · exact ih
    · exact ih
section P54
variable {M : Mm} {T S : Tw} {s o : Nat} {mb : Int}
theorem c_soon (hT : CT M 100 T) (hS : CSt M s T S) (hI : InvT T) (hJ : InvS T S mb) {m : Nat} (hm : m < 64) : p_X2_soonest M s (iI (m : Int)) ∧ r_X2_soonest M s (iI (m : Int)) = iI (aSo T S m (-3) (T 0 2).toNat).1 ∧ w_X2_soonest M s (iI (m : Int)) = M := by
  have hc := hI.1
  have hw2 := hT.1.2.2
  have hN : Int32.toNatClampNeg (M.1 100 2) = (T 0 2).toNat := by rw [hw2, iI_nat (by omega) (by omega)]
  have bt : ∀ k : Nat, k < 6 → ((b2i (¬ (iI (m : Int) >>> (iI (k : Int) &&& 31)) &&& 1 = 0) = 0) ↔ m.testBit k = false) := fun k hk => by
    rw [b2i_0, Classical.not_not]
    exact msk_in m hm k (by omega)
  have key : ∀ k, k ≤ (T 0 2).toNat → l_X2_soonest_9 s (iI (m : Int)) (M, (-3), 0, 0) k = (M, iI (aSo T S m (-3) k).1, iI (aSo T S m (-3) k).2, iI (k : Int)) := by
    refine it_for _ rfl (fun k hk => ?_)
    show s_X2_soonest_9 s (iI (m : Int)) (M, iI (aSo T S m (-3) k).1, iI (aSo T S m (-3) k).2, iI (k : Int)) = _
    unfold s_X2_soonest_9
    dsimp only
    have hlt : ¬ M.1 100 2 ≤ iI (k : Int) := by rw [hw2, iI_le (by omega) (by omega) (by omega) (by omega)]; omega
    obtain ⟨-, m2, m3⟩ := c_min hT hS hI hJ (w := k) (by omega)
    have bb := aSo_b hI hJ m (z := -3) (by omega) k (by omega)
    have mn := aMin_le hI hJ (w := k) (by omega)
    rw [if_neg hlt, k1_iI, aSo_s, m2, m3]
    by_cases c : m.testBit k = true
    · have g : ¬ b2i (¬ (iI (m : Int) >>> (iI (k : Int) &&& 31)) &&& 1 = 0) = 0 := fun u => by rw [(bt k (by omega)).mp u] at c; exact absurd c (by decide)
      rw [if_neg g, if_pos c]
      have e1 : (iI (aSo T S m (-3) k).1 < 0) ↔ (aSo T S m (-3) k).1 < 0 := by rw [cl0, iI_lt (by omega) (by omega) (by omega) (by omega)]
      have e2 : (iI (aSo T S m (-3) k).2 ≤ iI (aMin T S k)) ↔ (aSo T S m (-3) k).2 ≤ aMin T S k := by rw [iI_le (by omega) (by omega) (by omega) (by omega)]
      by_cases d1 : (aSo T S m (-3) k).1 < 0
      · rw [if_pos (e1.mpr d1), if_pos (Or.inl d1)]
      · rw [if_neg (fun u => d1 (e1.mp u))]
        by_cases d2 : (aSo T S m (-3) k).2 ≤ aMin T S k
        · rw [if_pos (e2.mpr d2), if_neg (by omega)]
        · rw [if_neg (fun u => d2 (e2.mp u)), if_pos (Or.inr (by omega))]
    · have cf : m.testBit k = false := by simpa using c
      rw [if_pos ((bt k (by omega)).mpr cf), if_neg c]
  have kN := key _ (Nat.le_refl _)
  have fin : (l_X2_soonest_9 s (iI (m : Int)) (M, (-3), 0, 0) (T 0 2).toNat).1.1 100 2 ≤ (l_X2_soonest_9 s (iI (m : Int)) (M, (-3), 0, 0) (T 0 2).toNat).2.2.2 := by
    rw [kN]
    dsimp only
    rw [hw2, iI_le (by omega) (by omega) (by omega) (by omega)]
    omega
  unfold p_X2_soonest r_X2_soonest w_X2_soonest
  rw [hN]
  refine ⟨⟨fun k hk => ?_, fun k hk => ?_, ?_, ?_⟩, ?_, ?_⟩
  · rw [key k (by omega)]
    unfold c_X2_soonest_9
    dsimp only
    rw [hw2, iteLE (by omega) (by omega) (by omega) (by omega), if_neg (by omega)]
    trivial
  · rw [key k (by omega)]
    unfold q_X2_soonest_9
    dsimp only
    obtain ⟨m1, -, -⟩ := c_min hT hS hI hJ (w := k) (by omega)
    split
    · trivial
    · split
      · trivial
      · refine ⟨m1, ?_⟩
        split
        · trivial
        · split <;> trivial
  · unfold c_X2_soonest_9
    rw [if_pos fin]
    exact fun h => h
  · rw [if_pos fin]
    trivial
  · rw [if_pos fin, kN]
  · rw [if_pos fin, kN]
theorem r_soon (hT : RT M T) (ha : RA M o) (hS : RS M o T S) (hI : InvT T) (hJ : InvS T S mb) {m : Nat} (hm : m < 64) : p_X8_soonestOf M (iI (m : Int)) ∧ r_X8_soonestOf M (iI (m : Int)) = iI (aSo T S m (-1) (T 0 2).toNat).1 ∧ w_X8_soonestOf M (iI (m : Int)) = M := by
  have hc := hI.1
  have hw2 := hT.1.2.2
  have hN : Int32.toNatClampNeg (M.1 600 2) = (T 0 2).toNat := by rw [hw2, iI_nat (by omega) (by omega)]
  have key : ∀ k, k ≤ (T 0 2).toNat → l_X8_soonestOf_7 (iI (m : Int)) (M, (-1), 0, 0) k = (M, iI (aSo T S m (-1) k).1, iI (aSo T S m (-1) k).2, iI (k : Int)) := by
    refine it_for _ rfl (fun k hk => ?_)
    show s_X8_soonestOf_7 (iI (m : Int)) (M, iI (aSo T S m (-1) k).1, iI (aSo T S m (-1) k).2, iI (k : Int)) = _
    unfold s_X8_soonestOf_7
    dsimp only
    have hlt : ¬ M.1 600 2 ≤ iI (k : Int) := by rw [hw2, iI_le (by omega) (by omega) (by omega) (by omega)]; omega
    obtain ⟨-, m2, m3⟩ := r_min hT ha hS hI hJ (w := k) (by omega)
    have bb := aSo_b hI hJ m (z := -1) (by omega) k (by omega)
    have mn := aMin_le hI hJ (w := k) (by omega)
    have b1 := msk_in1 m hm k (by omega)
    rw [if_neg hlt, k1_iI, aSo_s, m3, m2, m3]
    by_cases c : m.testBit k = true
    · rw [if_neg (not_not_intro (b1.mpr c)), if_pos c]
      have e1 : (iI (aSo T S m (-1) k).1 < 0) ↔ (aSo T S m (-1) k).1 < 0 := by rw [cl0, iI_lt (by omega) (by omega) (by omega) (by omega)]
      have e2 : (iI (aSo T S m (-1) k).2 ≤ iI (aMin T S k)) ↔ (aSo T S m (-1) k).2 ≤ aMin T S k := by rw [iI_le (by omega) (by omega) (by omega) (by omega)]
      by_cases d1 : (aSo T S m (-1) k).1 < 0
      · rw [if_pos (e1.mpr d1), if_pos (Or.inl d1)]
      · rw [if_neg (fun u => d1 (e1.mp u))]
        by_cases d2 : (aSo T S m (-1) k).2 ≤ aMin T S k
        · rw [if_pos (e2.mpr d2), if_neg (by omega)]
        · rw [if_neg (fun u => d2 (e2.mp u)), if_pos (Or.inr (by omega))]
    · rw [if_pos (fun u => c (b1.mp u)), if_neg c]
  have kN := key _ (Nat.le_refl _)
  have fin : (l_X8_soonestOf_7 (iI (m : Int)) (M, (-1), 0, 0) (T 0 2).toNat).1.1 600 2 ≤ (l_X8_soonestOf_7 (iI (m : Int)) (M, (-1), 0, 0) (T 0 2).toNat).2.2.2 := by
    rw [kN]
    dsimp only
    rw [hw2, iI_le (by omega) (by omega) (by omega) (by omega)]
    omega
  unfold p_X8_soonestOf r_X8_soonestOf w_X8_soonestOf
  rw [hN]
  refine ⟨⟨fun k hk => ?_, fun k hk => ?_, ?_, ?_⟩, ?_, ?_⟩
  · rw [key k (by omega)]
    unfold c_X8_soonestOf_7
    dsimp only
    rw [hw2, iteLE (by omega) (by omega) (by omega) (by omega), if_neg (by omega)]
    trivial
  · rw [key k (by omega)]
    unfold q_X8_soonestOf_7
    dsimp only
    obtain ⟨m1, -, m3⟩ := r_min hT ha hS hI hJ (w := k) (by omega)
    rw [m3]
    split
    · trivial
    · split
      · trivial
      · split
        · exact ⟨m1, trivial⟩
        · refine ⟨m1, ?_⟩
          split
          · trivial
          · exact ⟨m1, trivial⟩
  · unfold c_X8_soonestOf_7
    rw [if_pos fin]
    exact fun h => h
  · rw [if_pos fin]
    trivial
  · rw [if_pos fin, kN]
  · rw [if_pos fin, kN]
end P54
