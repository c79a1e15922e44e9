/-! the worthiest -/
def aMi (T S : Tw) (k : Nat) : Int := if 1 < aMin T S k then aMin T S k else 1
def aWo (T S : Tw) (m : Nat) (z : Int) : Nat → Int × Int × Int
  | 0 => (z, 0, 1)
  | k + 1 => if m.testBit k then (if (aWo T S m z k).1 < 0 ∨ (aWo T S m z k).2.1 * aMi T S k < T (10 + k) 5 * (aWo T S m z k).2.2 then ((k : Int), T (10 + k) 5, aMi T S k) else aWo T S m z k) else aWo T S m z k
theorem aWo_s (T S : Tw) (m : Nat) (z : Int) (k : Nat) : aWo T S m z (k + 1) = if m.testBit k then (if (aWo T S m z k).1 < 0 ∨ (aWo T S m z k).2.1 * aMi T S k < T (10 + k) 5 * (aWo T S m z k).2.2 then ((k : Int), T (10 + k) 5, aMi T S k) else aWo T S m z k) else aWo T S m z k := rfl
theorem aWo_2 (T S : Tw) (m : Nat) : ∀ k, ((∀ w, w < k → m.testBit w = false) ∧ aWo T S m (-3) k = (-3, 0, 1) ∧ aWo T S m (-1) k = (-1, 0, 1)) ∨ (0 ≤ (aWo T S m (-3) k).1 ∧ (aWo T S m (-3) k).1 < k ∧ aWo T S m (-3) k = aWo T S m (-1) k)
  | 0 => Or.inl ⟨fun w h => absurd h (Nat.not_lt_zero w), rfl, rfl⟩
  | k + 1 => by
    rw [aWo_s, aWo_s]
    by_cases c : m.testBit k = true
    · rw [if_pos c, if_pos c]
      rcases aWo_2 T S m k with ⟨h1, h2, h3⟩ | ⟨h1, h2, h3⟩
      · rw [h2, h3]
        refine Or.inr ?_
        rw [if_pos (Or.inl (by decide)), if_pos (Or.inl (by decide))]
        exact ⟨by show (0 : Int) ≤ (k : Int); omega, by show (k : Int) < ((k + 1 : Nat) : Int); omega, rfl⟩
      · rw [← h3]
        refine Or.inr ?_
        split
        · exact ⟨by show (0 : Int) ≤ (k : Int); omega, by show (k : Int) < ((k + 1 : Nat) : Int); omega, rfl⟩
        · exact ⟨h1, by omega, rfl⟩
    · rw [if_neg c, if_neg c]
      rcases aWo_2 T S m k with ⟨h1, h2, h3⟩ | ⟨h1, h2, h3⟩
      · refine Or.inl ⟨fun w hw => ?_, h2, h3⟩
        by_cases q : w = k
        · rw [q]; simpa using c
        · exact h1 w (by omega)
      · exact Or.inr ⟨h1, by omega, h3⟩
theorem aMi_b {T S : Tw} {mb : Int} (hI : InvT T) (hJ : InvS T S mb) {k : Nat} (hk : (k : Int) < T 0 2) : 1 ≤ aMi T S k ∧ aMi T S k ≤ 198 := by
  have mn := aMin_le hI hJ hk
  unfold aMi
  split <;> omega
theorem aWo_b {T S : Tw} {mb : Int} (hI : InvT T) (hJ : InvS T S mb) (m : Nat) {z : Int} (hz : -3 ≤ z ∧ z < 0) : ∀ k : Nat, (k : Int) ≤ T 0 2 → (-3 ≤ (aWo T S m z k).1 ∧ (aWo T S m z k).1 ≤ 6) ∧ (0 ≤ (aWo T S m z k).2.1 ∧ (aWo T S m z k).2.1 ≤ 99) ∧ (1 ≤ (aWo T S m z k).2.2 ∧ (aWo T S m z k).2.2 ≤ 198)
  | 0, _ => ⟨⟨hz.1, by show z ≤ 6; omega⟩, ⟨by show (0 : Int) ≤ 0; omega, by show (0 : Int) ≤ 99; omega⟩, by show (1 : Int) ≤ 1; omega, by show (1 : Int) ≤ 198; omega⟩
  | k + 1, h => by
    have hc := hI.1
    have ih := aWo_b hI hJ m hz k (by omega)
    have mn := aMi_b hI hJ (k := k) (by omega)
    have k5 := (hI.2.2.2.2 k (by omega)).2.2.2.2.2.1
    rw [aWo_s]
    split
    · split
      · exact ⟨⟨by show -3 ≤ (k : Int); omega, by show (k : Int) ≤ 6; omega⟩, k5, mn⟩
      · exact ih
    · exact ih
theorem prd {a b : Int} (a0 : 0 ≤ a) (a1 : a ≤ 99) (b0 : 1 ≤ b) (b1 : b ≤ 198) : 0 ≤ a * b ∧ a * b ≤ 19602 := ⟨Int.mul_nonneg a0 (by omega), Int.mul_le_mul a1 b1 (by omega) (by omega)⟩
section P55
variable {M : Mm} {T S : Tw} {s o : Nat} {mb : Int}
theorem c_worth (hT : CT M 100 T) (hS : CSt M s T S) (hI : InvT T) (hJ : InvS T S mb) {m : Nat} (hm : m < 64) : p_X2_worthiest M s (iI (m : Int)) ∧ r_X2_worthiest M s (iI (m : Int)) = iI (aWo T S m (-3) (T 0 2).toNat).1 ∧ w_X2_worthiest M s (iI (m : Int)) = M := by
  have hc := hI.1
  have hw2 := hT.1.2.2
  have hN : Int32.toNatClampNeg (M.1 100 2) = (T 0 2).toNat := by rw [hw2, iI_nat (by omega) (by omega)]
  have bt : ∀ k : Nat, k < 6 → ((b2i (¬ (iI (m : Int) >>> (iI (k : Int) &&& 31)) &&& 1 = 0) = 0) ↔ m.testBit k = false) := fun k hk => by
    rw [b2i_0, Classical.not_not]
    exact msk_in m hm k (by omega)
  have key : ∀ k, k ≤ (T 0 2).toNat → l_X2_worthiest_12 s (iI (m : Int)) (M, (-3), 0, 1, 0) k = (M, iI (aWo T S m (-3) k).1, iI (aWo T S m (-3) k).2.1, iI (aWo T S m (-3) k).2.2, iI (k : Int)) := by
    refine it_for _ rfl (fun k hk => ?_)
    show s_X2_worthiest_12 s (iI (m : Int)) (M, iI (aWo T S m (-3) k).1, iI (aWo T S m (-3) k).2.1, iI (aWo T S m (-3) k).2.2, iI (k : Int)) = _
    unfold s_X2_worthiest_12
    dsimp only
    have hlt : ¬ M.1 100 2 ≤ iI (k : Int) := by rw [hw2, iI_le (by omega) (by omega) (by omega) (by omega)]; omega
    obtain ⟨-, m2, m3⟩ := c_min hT hS hI hJ (w := k) (by omega)
    obtain ⟨b1, b2, b3⟩ := aWo_b hI hJ m (z := -3) (by omega) k (by omega)
    have mn := aMin_le hI hJ (w := k) (by omega)
    have mi := aMi_b hI hJ (k := k) (by omega)
    have k5 := (hI.2.2.2.2 k (by omega)).2.2.2.2.2.1
    have e5 : M.1 (110 + Int32.toNatClampNeg (iI (k : Int))) 5 = iI (T (10 + k) 5) := hT.wk (by omega) hI (by omega)
    have ei : (if 1 < iI (aMin T S k) then iI (aMin T S k) else 1) = iI (aMi T S k) := by
      unfold aMi
      rw [cl1, iteLT (by omega) (by omega) (by omega) (by omega), iI_ite]
    rw [if_neg hlt, k1_iI, aWo_s, m2, m3, ei, e5]
    by_cases c : m.testBit k = true
    · have g : ¬ b2i (¬ (iI (m : Int) >>> (iI (k : Int) &&& 31)) &&& 1 = 0) = 0 := fun u => by rw [(bt k (by omega)).mp u] at c; exact absurd c (by decide)
      rw [if_neg g, if_pos c]
      have e1 : (iI (aWo T S m (-3) k).1 < 0) ↔ (aWo T S m (-3) k).1 < 0 := by rw [cl0, iI_lt (by omega) (by omega) (by omega) (by omega)]
      have p1 := prd k5.1 k5.2 b3.1 b3.2
      have p2 := prd b2.1 b2.2 mi.1 mi.2
      have e2 : (iI (T (10 + k) 5) * iI (aWo T S m (-3) k).2.2 ≤ iI (aWo T S m (-3) k).2.1 * iI (aMi T S k)) ↔ T (10 + k) 5 * (aWo T S m (-3) k).2.2 ≤ (aWo T S m (-3) k).2.1 * aMi T S k := by rw [iI_mul, iI_mul, iI_le (by omega) (by omega) (by omega) (by omega)]
      by_cases d1 : (aWo T S m (-3) k).1 < 0
      · rw [if_pos (e1.mpr d1), if_pos (Or.inl d1)]
      · rw [if_neg (fun u => d1 (e1.mp u))]
        by_cases d2 : T (10 + k) 5 * (aWo T S m (-3) k).2.2 ≤ (aWo T S m (-3) k).2.1 * aMi T S k
        · rw [if_pos (e2.mpr d2), if_neg (fun u => u.elim d1 (fun v => Int.not_lt.mpr d2 v))]
        · rw [if_neg (fun u => d2 (e2.mp u)), if_pos (Or.inr (Int.not_le.mp d2))]
    · have cf : m.testBit k = false := by simpa using c
      rw [if_pos ((bt k (by omega)).mpr cf), if_neg c]
  have kN := key _ (Nat.le_refl _)
  have fin : (l_X2_worthiest_12 s (iI (m : Int)) (M, (-3), 0, 1, 0) (T 0 2).toNat).1.1 100 2 ≤ (l_X2_worthiest_12 s (iI (m : Int)) (M, (-3), 0, 1, 0) (T 0 2).toNat).2.2.2.2 := by
    rw [kN]
    dsimp only
    rw [hw2, iI_le (by omega) (by omega) (by omega) (by omega)]
    omega
  unfold p_X2_worthiest r_X2_worthiest w_X2_worthiest
  rw [hN]
  refine ⟨⟨fun k hk => ?_, fun k hk => ?_, ?_, ?_⟩, ?_, ?_⟩
  · rw [key k (by omega)]
    unfold c_X2_worthiest_12
    dsimp only
    rw [hw2, iteLE (by omega) (by omega) (by omega) (by omega), if_neg (by omega)]
    trivial
  · rw [key k (by omega)]
    unfold q_X2_worthiest_12
    dsimp only
    obtain ⟨m1, -, -⟩ := c_min hT hS hI hJ (w := k) (by omega)
    split
    · trivial
    · split
      · trivial
      · refine ⟨vin_iI (by omega) (by omega) (by omega), m1, ?_⟩
        repeat' split
        all_goals trivial
  · unfold c_X2_worthiest_12
    rw [if_pos fin]
    exact fun h => h
  · rw [if_pos fin]
    trivial
  · rw [if_pos fin, kN]
  · rw [if_pos fin, kN]
theorem r_worth (hT : RT M T) (ha : RA M o) (hS : RS M o T S) (hI : InvT T) (hJ : InvS T S mb) {m : Nat} (hm : m < 64) : p_X8_worthiestOf M (iI (m : Int)) ∧ r_X8_worthiestOf M (iI (m : Int)) = iI (aWo T S m (-1) (T 0 2).toNat).1 ∧ w_X8_worthiestOf M (iI (m : Int)) = M := by
  have hc := hI.1
  have hw2 := hT.1.2.2
  have hN : Int32.toNatClampNeg (M.1 600 2) = (T 0 2).toNat := by rw [hw2, iI_nat (by omega) (by omega)]
  have key : ∀ k, k ≤ (T 0 2).toNat → l_X8_worthiestOf_10 (iI (m : Int)) (M, (-1), 0, 1, 0) k = (M, iI (aWo T S m (-1) k).1, iI (aWo T S m (-1) k).2.1, iI (aWo T S m (-1) k).2.2, iI (k : Int)) := by
    refine it_for _ rfl (fun k hk => ?_)
    show s_X8_worthiestOf_10 (iI (m : Int)) (M, iI (aWo T S m (-1) k).1, iI (aWo T S m (-1) k).2.1, iI (aWo T S m (-1) k).2.2, iI (k : Int)) = _
    unfold s_X8_worthiestOf_10
    dsimp only
    have hlt : ¬ M.1 600 2 ≤ iI (k : Int) := by rw [hw2, iI_le (by omega) (by omega) (by omega) (by omega)]; omega
    obtain ⟨-, m2, m3⟩ := r_min hT ha hS hI hJ (w := k) (by omega)
    obtain ⟨b1, b2, b3⟩ := aWo_b hI hJ m (z := -1) (by omega) k (by omega)
    have mn := aMin_le hI hJ (w := k) (by omega)
    have mi := aMi_b hI hJ (k := k) (by omega)
    have k5 := (hI.2.2.2.2 k (by omega)).2.2.2.2.2.1
    have bb := msk_in1 m hm k (by omega)
    have e5 : M.1 603 (Int32.toNatClampNeg (8 * iI (k : Int) + (5 : Int32))) = iI (T (10 + k) 5) := hT.w5 (by omega) hI
    rw [if_neg hlt, k1_iI, aWo_s, m3, m3, m2, e5]
    by_cases c : m.testBit k = true
    · rw [if_neg (not_not_intro (bb.mpr c)), if_pos c]
      have e1 : (iI (aWo T S m (-1) k).1 < 0) ↔ (aWo T S m (-1) k).1 < 0 := by rw [cl0, iI_lt (by omega) (by omega) (by omega) (by omega)]
      have p1 := prd k5.1 k5.2 b3.1 b3.2
      have p2 := prd b2.1 b2.2 mi.1 mi.2
      have e2 : (iI (T (10 + k) 5) * iI (aWo T S m (-1) k).2.2 ≤ iI (aWo T S m (-1) k).2.1 * iI (aMi T S k)) ↔ T (10 + k) 5 * (aWo T S m (-1) k).2.2 ≤ (aWo T S m (-1) k).2.1 * aMi T S k := by rw [iI_mul, iI_mul, iI_le (by omega) (by omega) (by omega) (by omega)]
      have z0 : (iI (aMin T S k) = 0) ↔ aMin T S k = 0 := by rw [cl0, iI_eq (by omega) (by omega) (by omega) (by omega)]
      have fin2 : (if iI (aWo T S m (-1) k).1 < 0 then (M, iI (k : Int), iI (T (10 + k) 5), iI (aMi T S k), iI ((k + 1 : Nat) : Int)) else if iI (T (10 + k) 5) * iI (aWo T S m (-1) k).2.2 ≤ iI (aWo T S m (-1) k).2.1 * iI (aMi T S k) then (M, iI (aWo T S m (-1) k).1, iI (aWo T S m (-1) k).2.1, iI (aWo T S m (-1) k).2.2, iI ((k + 1 : Nat) : Int)) else (M, iI (k : Int), iI (T (10 + k) 5), iI (aMi T S k), iI ((k + 1 : Nat) : Int))) = (M, iI (if (aWo T S m (-1) k).1 < 0 ∨ (aWo T S m (-1) k).2.1 * aMi T S k < T (10 + k) 5 * (aWo T S m (-1) k).2.2 then ((k : Int), T (10 + k) 5, aMi T S k) else aWo T S m (-1) k).1, iI (if (aWo T S m (-1) k).1 < 0 ∨ (aWo T S m (-1) k).2.1 * aMi T S k < T (10 + k) 5 * (aWo T S m (-1) k).2.2 then ((k : Int), T (10 + k) 5, aMi T S k) else aWo T S m (-1) k).2.1, iI (if (aWo T S m (-1) k).1 < 0 ∨ (aWo T S m (-1) k).2.1 * aMi T S k < T (10 + k) 5 * (aWo T S m (-1) k).2.2 then ((k : Int), T (10 + k) 5, aMi T S k) else aWo T S m (-1) k).2.2, iI ((k + 1 : Nat) : Int)) := by
        by_cases d1 : (aWo T S m (-1) k).1 < 0
        · rw [if_pos (e1.mpr d1), if_pos (Or.inl d1)]
        · rw [if_neg (fun u => d1 (e1.mp u))]
          by_cases d2 : T (10 + k) 5 * (aWo T S m (-1) k).2.2 ≤ (aWo T S m (-1) k).2.1 * aMi T S k
          · rw [if_pos (e2.mpr d2), if_neg (fun u => u.elim d1 (fun v => Int.not_lt.mpr d2 v))]
          · rw [if_neg (fun u => d2 (e2.mp u)), if_pos (Or.inr (Int.not_le.mp d2))]
      by_cases d0 : aMin T S k = 0
      · have em : aMi T S k = 1 := by unfold aMi; rw [d0, if_neg (by omega)]
        rw [if_neg (not_not_intro (z0.mpr d0))]
        rw [em, ← cl1] at fin2
        rw [em]
        exact fin2
      · have em : aMi T S k = aMin T S k := by unfold aMi; split <;> omega
        rw [if_pos (fun u => d0 (z0.mp u))]
        rw [em] at fin2 ⊢
        exact fin2
    · rw [if_pos (fun u => c (bb.mp u)), if_neg c]
  have kN := key _ (Nat.le_refl _)
  have fin : (l_X8_worthiestOf_10 (iI (m : Int)) (M, (-1), 0, 1, 0) (T 0 2).toNat).1.1 600 2 ≤ (l_X8_worthiestOf_10 (iI (m : Int)) (M, (-1), 0, 1, 0) (T 0 2).toNat).2.2.2.2 := by
    rw [kN]
    dsimp only
    rw [hw2, iI_le (by omega) (by omega) (by omega) (by omega)]
    omega
  unfold p_X8_worthiestOf r_X8_worthiestOf w_X8_worthiestOf
  rw [hN]
  refine ⟨⟨fun k hk => ?_, fun k hk => ?_, ?_, ?_⟩, ?_, ?_⟩
  · rw [key k (by omega)]
    unfold c_X8_worthiestOf_10
    dsimp only
    rw [hw2, iteLE (by omega) (by omega) (by omega) (by omega), if_neg (by omega)]
    trivial
  · rw [key k (by omega)]
    unfold q_X8_worthiestOf_10
    dsimp only
    obtain ⟨m1, -, m3⟩ := r_min hT ha hS hI hJ (w := k) (by omega)
    have v5 := vw5 (T := T) (w := k) (by omega) hI
    rw [m3]
    split
    · trivial
    · split
      · trivial
      · refine ⟨m1, ?_⟩
        split
        · refine ⟨m1, ?_⟩
          split
          · exact ⟨v5, trivial⟩
          · refine ⟨v5, ?_⟩
            split
            · trivial
            · exact ⟨v5, trivial⟩
        · split
          · exact ⟨v5, trivial⟩
          · refine ⟨v5, ?_⟩
            split
            · trivial
            · exact ⟨v5, trivial⟩
  · unfold c_X8_worthiestOf_10
    rw [if_pos fin]
    exact fun h => h
  · rw [if_pos fin]
    trivial
  · rw [if_pos fin, kN]
  · rw [if_pos fin, kN]
end P55
