/-! the greatest kind; the place in a set -/
def aGr (T : Tw) (m : Nat) (z : Int) : Nat → Int
  | 0 => z
  | k + 1 => if m.testBit k then (if aGr T m z k < T (10 + k) 0 then T (10 + k) 0 else aGr T m z k) else aGr T m z k
def aTh (T : Tw) (m : Nat) (g : Int) : Nat → Nat
  | 0 => 0
  | k + 1 => if m.testBit k = true ∧ T (10 + k) 0 = g then aTh T m g k ||| 2 ^ k else aTh T m g k
theorem aGr_s (T : Tw) (m : Nat) (z : Int) (k : Nat) : aGr T m z (k + 1) = if m.testBit k then (if aGr T m z k < T (10 + k) 0 then T (10 + k) 0 else aGr T m z k) else aGr T m z k := rfl
theorem aTh_s (T : Tw) (m : Nat) (g : Int) (k : Nat) : aTh T m g (k + 1) = if m.testBit k = true ∧ T (10 + k) 0 = g then aTh T m g k ||| 2 ^ k else aTh T m g k := rfl
theorem aTh_lt (T : Tw) (m : Nat) (g : Int) : ∀ k, aTh T m g k < 2 ^ k
  | 0 => by show 0 < 1; omega
  | k + 1 => by
    have ih := aTh_lt T m g k
    have p : 2 ^ k < 2 ^ (k + 1) := Nat.pow_lt_pow_right (by decide) (by omega)
    rw [aTh_s]
    split
    · exact Nat.or_lt_two_pow (by omega) p
    · omega
theorem aTh_z (T : Tw) (m : Nat) (g : Int) : ∀ k, aGr T m (-1) k < g → aTh T m g k = 0
  | 0, _ => rfl
  | k + 1, h => by
    rw [aGr_s] at h
    rw [aTh_s]
    by_cases c : m.testBit k = true
    · rw [if_pos c] at h
      by_cases d : aGr T m (-1) k < T (10 + k) 0
      · rw [if_pos d] at h
        rw [if_neg (by omega)]
        exact aTh_z T m g k (by omega)
      · rw [if_neg d] at h
        rw [if_neg (by omega)]
        exact aTh_z T m g k (by omega)
    · rw [if_neg c] at h
      rw [if_neg (fun u => c u.1)]
      exact aTh_z T m g k h
theorem aGr_b {T : Tw} (hI : InvT T) (m : Nat) {z : Int} (hz : -1 ≤ z ∧ z ≤ 0) : ∀ k : Nat, (k : Int) ≤ T 0 2 → -1 ≤ aGr T m z k ∧ aGr T m z k ≤ 5
  | 0, _ => ⟨hz.1, by show z ≤ 5; omega⟩
  | k + 1, h => by
    have ih := aGr_b hI m hz k (by omega)
    have k0 := (hI.2.2.2.2 k (by omega)).1
    rw [aGr_s]
    split
    · split <;> omega
    · exact ih
theorem or_pos2 (x k : Nat) : 0 < x ||| 2 ^ k := by
  have h : (x ||| 2 ^ k).testBit k = true := by rw [Nat.testBit_or, Nat.testBit_two_pow_self, Bool.or_true]
  rcases Nat.eq_zero_or_pos (x ||| 2 ^ k) with q | q
  · rw [q, Nat.zero_testBit] at h
    exact absurd h (by decide)
  · exact q
theorem aGr_2 {T : Tw} (hI : InvT T) (m : Nat) : ∀ k : Nat, (k : Int) ≤ T 0 2 → ((∀ w, w < k → m.testBit w = false) ∧ aGr T m (-1) k = -1 ∧ aGr T m 0 k = 0) ∨ (aGr T m (-1) k = aGr T m 0 k ∧ 0 ≤ aGr T m (-1) k ∧ 0 < aTh T m (aGr T m (-1) k) k)
  | 0, _ => Or.inl ⟨fun w h => absurd h (Nat.not_lt_zero w), rfl, rfl⟩
  | k + 1, h => by
    have k0 := (hI.2.2.2.2 k (by omega)).1
    have ih := aGr_2 hI m k (by omega)
    rw [aGr_s, aGr_s]
    by_cases c : m.testBit k = true
    · rw [if_pos c, if_pos c]
      refine Or.inr ?_
      rcases ih with ⟨-, h2, h3⟩ | ⟨h1, h2, h3⟩
      · rw [h2, h3, if_pos (by omega)]
        refine ⟨by split <;> omega, k0.1, ?_⟩
        rw [aTh_s, if_pos ⟨c, rfl⟩]
        exact or_pos2 _ _
      · rw [← h1]
        by_cases d : aGr T m (-1) k < T (10 + k) 0
        · rw [if_pos d]
          refine ⟨rfl, by omega, ?_⟩
          rw [aTh_s, if_pos ⟨c, rfl⟩]
          exact or_pos2 _ _
        · rw [if_neg d]
          refine ⟨rfl, h2, ?_⟩
          rw [aTh_s]
          split
          · exact or_pos2 _ _
          · exact h3
    · rw [if_neg c, if_neg c]
      rcases ih with ⟨h1, h2, h3⟩ | ⟨h1, h2, h3⟩
      · refine Or.inl ⟨fun w hw => ?_, h2, h3⟩
        by_cases q : w = k
        · rw [q]; simpa using c
        · exact h1 w (by omega)
      · refine Or.inr ⟨h1, h2, ?_⟩
        rw [aTh_s, if_neg (fun u => c u.1)]
        exact h3
section P56
variable {M : Mm} {T S : Tw} {s o : Nat} {mb : Int}
theorem c_kind (hT : CT M 100 T) (hI : InvT T) {m : Nat} (hm : m < 64) : p_X2_greatestKind M (iI (m : Int)) ∧ r_X2_greatestKind M (iI (m : Int)) = iI ((aTh T m (aGr T m (-1) (T 0 2).toNat) (T 0 2).toNat : Nat) : Int) := by
  have hc := hI.1
  have hw2 := hT.1.2.2
  have hN : Int32.toNatClampNeg (M.1 100 2) = (T 0 2).toNat := by rw [hw2, iI_nat (by omega) (by omega)]
  have l64 : ∀ g k, k ≤ 6 → aTh T m g k < 64 := fun g k hk => Nat.lt_of_lt_of_le (aTh_lt T m g k) (Nat.pow_le_pow_right (by decide) hk)
  have bt : ∀ k : Nat, k < 6 → ((b2i (¬ (iI (m : Int) >>> (iI (k : Int) &&& 31)) &&& 1 = 0) = 0) ↔ m.testBit k = false) := fun k hk => by
    rw [b2i_0, Classical.not_not]
    exact msk_in m hm k (by omega)
  have key : ∀ k, k ≤ (T 0 2).toNat → l_X2_greatestKind_7 M (iI (m : Int)) ((-1), 0, 0) k = (iI (aGr T m (-1) k), iI ((aTh T m (aGr T m (-1) k) k : Nat) : Int), iI (k : Int)) := by
    refine it_for _ rfl (fun k hk => ?_)
    show s_X2_greatestKind_7 M (iI (m : Int)) (iI (aGr T m (-1) k), iI ((aTh T m (aGr T m (-1) k) k : Nat) : Int), iI (k : Int)) = _
    unfold s_X2_greatestKind_7
    dsimp only
    have hlt : ¬ M.1 100 2 ≤ iI (k : Int) := by rw [hw2, iI_le (by omega) (by omega) (by omega) (by omega)]; omega
    have gb := aGr_b hI m (z := -1) (by omega) k (by omega)
    have k0 := (hI.2.2.2.2 k (by omega)).1
    have e0 : M.1 (110 + Int32.toNatClampNeg (iI (k : Int))) 0 = iI (T (10 + k) 0) := hT.wk (by omega) hI (by omega)
    rw [if_neg hlt, k1_iI, e0]
    by_cases c : m.testBit k = true
    · have g : ¬ b2i (¬ (iI (m : Int) >>> (iI (k : Int) &&& 31)) &&& 1 = 0) = 0 := fun u => by rw [(bt k (by omega)).mp u] at c; exact absurd c (by decide)
      rw [if_neg g]
      have e1 : (iI (T (10 + k) 0) < iI (aGr T m (-1) k)) ↔ T (10 + k) 0 < aGr T m (-1) k := by rw [iI_lt (by omega) (by omega) (by omega) (by omega)]
      have e2 : (iI (T (10 + k) 0) ≤ iI (aGr T m (-1) k)) ↔ T (10 + k) 0 ≤ aGr T m (-1) k := by rw [iI_le (by omega) (by omega) (by omega) (by omega)]
      by_cases d1 : T (10 + k) 0 < aGr T m (-1) k
      · have eg : aGr T m (-1) (k + 1) = aGr T m (-1) k := by rw [aGr_s, if_pos c, if_neg (by omega)]
        rw [if_pos (e1.mpr d1), eg, aTh_s, if_neg (by omega)]
      · rw [if_neg (fun u => d1 (e1.mp u))]
        by_cases d2 : T (10 + k) 0 ≤ aGr T m (-1) k
        · have eg : aGr T m (-1) (k + 1) = aGr T m (-1) k := by rw [aGr_s, if_pos c, if_neg (by omega)]
          have eq : T (10 + k) 0 = aGr T m (-1) k := by omega
          rw [if_pos (e2.mpr d2), eg, aTh_s, if_pos ⟨c, eq⟩, msk_or _ (l64 _ k (by omega)) k (by omega), eq]
        · have eg : aGr T m (-1) (k + 1) = T (10 + k) 0 := by rw [aGr_s, if_pos c, if_pos (by omega)]
          rw [if_neg (fun u => d2 (e2.mp u)), eg, aTh_s, if_pos ⟨c, rfl⟩, aTh_z T m _ k (by omega)]
          have := msk_or 0 (by omega) k (by omega)
          rw [← this]
          rfl
    · have cf : m.testBit k = false := by simpa using c
      have eg : aGr T m (-1) (k + 1) = aGr T m (-1) k := by rw [aGr_s, if_neg c]
      rw [if_pos ((bt k (by omega)).mpr cf), eg, aTh_s, if_neg (fun u => c u.1)]
  have kN := key _ (Nat.le_refl _)
  have fin : M.1 100 2 ≤ (l_X2_greatestKind_7 M (iI (m : Int)) ((-1), 0, 0) (T 0 2).toNat).2.2 := by
    rw [kN]
    dsimp only
    rw [hw2, iI_le (by omega) (by omega) (by omega) (by omega)]
    omega
  unfold p_X2_greatestKind r_X2_greatestKind
  rw [hN]
  refine ⟨⟨fun k hk => ?_, fun k hk => ?_, ?_, ?_⟩, ?_⟩
  · rw [key k (by omega)]
    unfold c_X2_greatestKind_7
    dsimp only
    rw [hw2, iteLE (by omega) (by omega) (by omega) (by omega), if_neg (by omega)]
    trivial
  · rw [key k (by omega)]
    unfold q_X2_greatestKind_7
    dsimp only
    have v : vp_in (iI (k : Int)) 6 := vin_iI (by omega) (by omega) (by omega)
    split
    · trivial
    · split
      · trivial
      · refine ⟨v, ?_⟩
        split
        · trivial
        · refine ⟨v, ?_⟩
          split <;> exact ⟨v, trivial⟩
  · unfold c_X2_greatestKind_7
    rw [if_pos fin]
    exact fun h => h
  · rw [if_pos fin]
    trivial
  · rw [if_pos fin, kN]
theorem r_kind (hT : RT M T) (hI : InvT T) {m a : Nat} (hm : m < 2 ^ (T 0 2).toNat) (hm0 : 0 < m) (ha : a ≤ 9) : p_X8_kindestOf M (iI (m : Int)) (iI (a : Int)) ∧ r_X8_kindestOf M (iI (m : Int)) (iI (a : Int)) = iI (aFF (aTh T m (aGr T m (-1) (T 0 2).toNat) (T 0 2).toNat) (T 0 2).toNat a) ∧ 0 ≤ aFF (aTh T m (aGr T m (-1) (T 0 2).toNat) (T 0 2).toNat) (T 0 2).toNat a := by
  have hc := hI.1
  have hw2 := hT.1.2.2
  have hm6 : m < 64 := Nat.lt_of_lt_of_le hm (show 2 ^ (T 0 2).toNat ≤ 2 ^ 6 from Nat.pow_le_pow_right (by decide) (by omega))
  have hN : Int32.toNatClampNeg (M.1 600 2) = (T 0 2).toNat := by rw [hw2, iI_nat (by omega) (by omega)]
  have l64 : ∀ g k, k ≤ 6 → aTh T m g k < 64 := fun g k hk => Nat.lt_of_lt_of_le (aTh_lt T m g k) (Nat.pow_le_pow_right (by decide) hk)
  have key5 : ∀ k, k ≤ (T 0 2).toNat → l_X8_kindestOf_5 M (iI (m : Int)) (iI (a : Int)) (0, 0) k = (iI (aGr T m 0 k), iI (k : Int)) := by
    refine it_for _ rfl (fun k hk => ?_)
    show s_X8_kindestOf_5 M (iI (m : Int)) (iI (a : Int)) (iI (aGr T m 0 k), iI (k : Int)) = _
    unfold s_X8_kindestOf_5
    dsimp only
    have hlt : ¬ M.1 600 2 ≤ iI (k : Int) := by rw [hw2, iI_le (by omega) (by omega) (by omega) (by omega)]; omega
    have gb := aGr_b hI m (z := 0) (by omega) k (by omega)
    have k0 := (hI.2.2.2.2 k (by omega)).1
    have bb := msk_in1 m hm6 k (by omega)
    have e0 := hT.w0 (w := k) (by omega) hI
    rw [if_neg hlt, k1_iI, e0, aGr_s]
    by_cases c : m.testBit k = true
    · rw [if_neg (not_not_intro (bb.mpr c)), if_pos c]
      have e2 : (iI (T (10 + k) 0) ≤ iI (aGr T m 0 k)) ↔ T (10 + k) 0 ≤ aGr T m 0 k := by rw [iI_le (by omega) (by omega) (by omega) (by omega)]
      by_cases d2 : T (10 + k) 0 ≤ aGr T m 0 k
      · rw [if_pos (e2.mpr d2), if_neg (by omega)]
      · rw [if_neg (fun u => d2 (e2.mp u)), if_pos (by omega)]
    · rw [if_pos (fun u => c (bb.mp u)), if_neg c]
  obtain ⟨g, hg⟩ : ∃ g, g = aGr T m 0 (T 0 2).toNat := ⟨_, rfl⟩
  have gb := aGr_b hI m (z := 0) (by omega) (T 0 2).toNat (by omega)
  rw [← hg] at gb
  have key9 : ∀ k, k ≤ (T 0 2).toNat → l_X8_kindestOf_59 M (iI (m : Int)) (iI (a : Int)) (iI g) (0, 0) k = (iI ((aTh T m g k : Nat) : Int), iI (k : Int)) := by
    refine it_for _ rfl (fun k hk => ?_)
    show s_X8_kindestOf_59 M (iI (m : Int)) (iI (a : Int)) (iI g) (iI ((aTh T m g k : Nat) : Int), iI (k : Int)) = _
    unfold s_X8_kindestOf_59
    dsimp only
    have hlt : ¬ M.1 600 2 ≤ iI (k : Int) := by rw [hw2, iI_le (by omega) (by omega) (by omega) (by omega)]; omega
    have k0 := (hI.2.2.2.2 k (by omega)).1
    have bb := msk_in1 m hm6 k (by omega)
    have e0 := hT.w0 (w := k) (by omega) hI
    have lk := l64 g k (by omega)
    rw [if_neg hlt, k1_iI, e0, aTh_s]
    by_cases c : m.testBit k = true
    · rw [if_neg (not_not_intro (bb.mpr c))]
      have e2 : (iI (T (10 + k) 0) = iI g) ↔ T (10 + k) 0 = g := by rw [iI_eq (by omega) (by omega) (by omega) (by omega)]
      by_cases d2 : T (10 + k) 0 = g
      · rw [if_neg (not_not_intro (e2.mpr d2)), if_pos ⟨c, d2⟩, msk_or _ lk k (by omega)]
      · rw [if_pos (fun u => d2 (e2.mp u)), if_neg (fun u => d2 u.2), msk_or0 _ lk]
    · rw [if_pos (fun u => c (bb.mp u)), if_neg (fun u => c u.1), msk_or0 _ lk]
  have kN5 := key5 _ (Nat.le_refl _)
  rw [← hg] at kN5
  have kN9 := key9 _ (Nat.le_refl _)
  have fin5 : M.1 600 2 ≤ (l_X8_kindestOf_5 M (iI (m : Int)) (iI (a : Int)) (0, 0) (T 0 2).toNat).2 := by
    rw [kN5]
    dsimp only
    rw [hw2, iI_le (by omega) (by omega) (by omega) (by omega)]
    omega
  have fin9 : M.1 600 2 ≤ (l_X8_kindestOf_59 M (iI (m : Int)) (iI (a : Int)) (iI g) (0, 0) (T 0 2).toNat).2 := by
    rw [kN9]
    dsimp only
    rw [hw2, iI_le (by omega) (by omega) (by omega) (by omega)]
    omega
  have two := aGr_2 hI m (T 0 2).toNat (by omega)
  have some1 : ¬ ∀ w, w < (T 0 2).toNat → m.testBit w = false := fun u => by
    have z : m = 0 := Nat.eq_of_testBit_eq (fun i => by
      rw [Nat.zero_testBit]
      by_cases q : i < (T 0 2).toNat
      · exact u i q
      · exact Nat.testBit_lt_two_pow (Nat.lt_of_lt_of_le hm (Nat.pow_le_pow_right (by decide) (by omega))))
    omega
  obtain ⟨t1, t2, t3⟩ := two.resolve_left (fun u => some1 u.1)
  rw [← hg] at t1
  rw [t1] at t3 ⊢
  obtain ⟨f1, f2, f3⟩ := r_first (M := M) (m := aTh T m g (T 0 2).toNat) (n := (T 0 2).toNat) (a := a) (aTh_lt T m g _) t3 (by omega) ha (by rw [hw2]; congr 1; omega)
  unfold p_X8_kindestOf r_X8_kindestOf
  rw [hN]
  have fz : M.1 600 2 ≤ iI ((T 0 2).toNat : Int) := by rw [hw2, iI_le (by omega) (by omega) (by omega) (by omega)]; omega
  simp only [kN5, kN9, if_pos fz]
  refine ⟨⟨fun k hk => ?_, fun k hk => ?_, ?_, fun k hk => ?_, fun k hk => ?_, ?_, f1, trivial⟩, f2, f3⟩
  · rw [key5 k (by omega)]
    unfold c_X8_kindestOf_5
    dsimp only
    rw [hw2, iteLE (by omega) (by omega) (by omega) (by omega), if_neg (by omega)]
    trivial
  · rw [key5 k (by omega)]
    unfold q_X8_kindestOf_5
    dsimp only
    have v := vw0 (T := T) (w := k) (by omega) hI
    split
    · trivial
    · split
      · trivial
      · refine ⟨v, ?_⟩
        split
        · trivial
        · exact ⟨v, trivial⟩
  · rw [kN5] at fin5
    unfold c_X8_kindestOf_5
    rw [if_pos fin5]
    exact fun h => h
  · rw [key9 k (by omega)]
    unfold c_X8_kindestOf_59
    dsimp only
    rw [hw2, iteLE (by omega) (by omega) (by omega) (by omega), if_neg (by omega)]
    trivial
  · rw [key9 k (by omega)]
    unfold q_X8_kindestOf_59
    dsimp only
    have v := vw0 (T := T) (w := k) (by omega) hI
    split
    · trivial
    · split
      · trivial
      · refine ⟨v, ?_⟩
        split <;> trivial
  · rw [kN9] at fin9
    unfold c_X8_kindestOf_59
    rw [if_pos fin9]
    exact fun h => h
end P56
