/-! digits, those that were told, what is allowed -/
theorem fst_ex (P : Nat → Prop) : ∀ n, ∃ j, j ≤ n ∧ (∀ k, k < j → P k) ∧ (j = n ∨ ¬ P j)
  | 0 => ⟨0, Nat.le_refl 0, fun k h => absurd h (Nat.not_lt_zero k), Or.inl rfl⟩
  | n + 1 => by
    obtain ⟨j, h1, h2, h3⟩ := fst_ex P n
    rcases h3 with h3 | h3
    · by_cases c : P n
      · refine ⟨n + 1, Nat.le_refl _, fun k hk => ?_, Or.inl rfl⟩
        by_cases q : k = n
        · rw [q]; exact c
        · exact h2 k (by omega)
      · exact ⟨n, by omega, fun k hk => h2 k (by omega), Or.inr c⟩
    · exact ⟨j, by omega, h2, Or.inr h3⟩
theorem and7 (z : Int32) : Int32.toNatClampNeg (z &&& 7) < 8 ∧ z &&& 7 = iI ((Int32.toNatClampNeg (z &&& 7) : Nat) : Int) := by
  have e : (z &&& 7).toBitVec.toNat = z.toBitVec.toNat % 8 := by
    show (z.toBitVec &&& (7 : Int32).toBitVec).toNat = _
    rw [BitVec.toNat_and]
    exact Nat.and_two_pow_sub_one_eq_mod _ 3
  have t : (z &&& 7).toInt = ((z.toBitVec.toNat % 8 : Nat) : Int) := by
    show (z &&& 7).toBitVec.toInt = _
    rw [BitVec.toInt_eq_toNat_bmod, e]
    exact Int.bmod_eq_of_le (by omega) (by omega)
  have c : Int32.toNatClampNeg (z &&& 7) = z.toBitVec.toNat % 8 := by
    show (z &&& 7).toInt.toNat = _
    rw [t]
    exact Int.toNat_natCast _
  rw [c]
  refine ⟨by omega, ?_⟩
  rw [← Int32.toInt_inj, t, iI_toInt (by omega) (by omega)]
def dgt (a : Int32) (k : Nat) : Nat := Int32.toNatClampNeg ((a >>> (((3 : Int32) * iI (k : Int)) &&& 31)) &&& 7)
theorem dgt_s (a : Int32) (k : Nat) : dgt a k < 8 ∧ (a >>> (((3 : Int32) * iI (k : Int)) &&& 31)) &&& 7 = iI ((dgt a k : Nat) : Int) := and7 _
def aTold (ord : Nat → Nat) : Nat → Nat
  | 0 => 0
  | k + 1 => aTold ord k ||| 2 ^ (ord k)
theorem aTold_s (ord : Nat → Nat) (k : Nat) : aTold ord (k + 1) = aTold ord k ||| 2 ^ (ord k) := rfl
theorem aTold_lt {ord : Nat → Nat} : ∀ k, (∀ i, i < k → ord i < 6) → aTold ord k < 64
  | 0, _ => by show 0 < 64; omega
  | k + 1, h => by
    rw [aTold_s]
    exact msk_lt _ (aTold_lt k (fun i hi => h i (by omega))) _ (h k (by omega))
theorem aTold_bit {ord : Nat → Nat} : ∀ k w, (aTold ord k).testBit w = true ↔ ∃ i, i < k ∧ ord i = w
  | 0, w => by
    rw [show aTold ord 0 = 0 from rfl, Nat.zero_testBit]
    exact ⟨fun u => absurd u (by decide), fun ⟨i, h, _⟩ => absurd h (Nat.not_lt_zero i)⟩
  | k + 1, w => by
    rw [aTold_s, Nat.testBit_or, Nat.testBit_two_pow, Bool.or_eq_true, decide_eq_true_iff, aTold_bit k w]
    constructor
    · rintro (⟨i, h1, h2⟩ | h)
      · exact ⟨i, by omega, h2⟩
      · exact ⟨k, by omega, h⟩
    · rintro ⟨i, h1, h2⟩
      by_cases q : i = k
      · rw [q] at h2; exact Or.inr h2
      · exact Or.inl ⟨i, by omega, h2⟩
def okA (T S : Tw) (ord : Nat → Nat) (i : Nat) : Prop := ¬ (0 ≤ T (10 + ord i) 6 ∧ S 2 (T (10 + ord i) 6).toNat = 0 ∧ (aTold ord i).testBit (T (10 + ord i) 6).toNat = false)
theorem aTurn_2w (T S : Tw) (w j : Nat) : (j = w → aTurn T S w 2 j ≠ 0) ∧ (j ≠ w → aTurn T S w 2 j = S 2 j) := by
  by_cases c : aSpoil T S w
  · rw [aTurn_S c]
    refine ⟨fun h => ?_, fun h => ?_⟩
    · rw [if_pos ⟨rfl, h⟩]; decide
    · rw [if_neg (fun u => h u.2)]
  · rw [aTurn_2 c]
    refine ⟨fun h => ?_, fun h => ?_⟩
    · rw [if_pos h]; decide
    · rw [if_neg h]
theorem aRun_2 (T S : Tw) (ord : Nat → Nat) (calls : Nat) : ∀ k w, ((∃ i, i < k ∧ ord i = w) → aRun T S ord calls k 2 w ≠ 0) ∧ ((¬ ∃ i, i < k ∧ ord i = w) → aRun T S ord calls k 2 w = S 2 w)
  | 0, w => ⟨fun ⟨i, h, _⟩ => absurd h (Nat.not_lt_zero i), fun _ => rfl⟩
  | k + 1, w => by
    obtain ⟨h1, h2⟩ := aRun_2 T S ord calls k w
    obtain ⟨t1, t2⟩ := aTurn_2w T (aPre T (aRun T S ord calls k) calls k) (ord k) w
    show ((∃ i, i < k + 1 ∧ ord i = w) → aTurn T (aPre T (aRun T S ord calls k) calls k) (ord k) 2 w ≠ 0) ∧ ((¬ ∃ i, i < k + 1 ∧ ord i = w) → aTurn T (aPre T (aRun T S ord calls k) calls k) (ord k) 2 w = S 2 w)
    rw [aPre_2] at t2
    refine ⟨fun ⟨i, e1, e2⟩ => ?_, fun h => ?_⟩
    · by_cases q : w = ord k
      · exact t1 q
      · rw [t2 q]
        refine h1 ⟨i, ?_, e2⟩
        have : i ≠ k := fun e => q (by rw [← e2, e])
        omega
    · rw [t2 (fun e => h ⟨k, by omega, e.symm⟩)]
      exact h2 (fun ⟨i, e1, e2⟩ => h ⟨i, by omega, e2⟩)
theorem okA_no {T S : Tw} {ord : Nat → Nat} {calls k : Nat} (h : okA T S ord k) : aNoB T (aRun T S ord calls k) (ord k) := by
  rintro ⟨u1, u2⟩
  obtain ⟨a1, a2⟩ := aRun_2 T S ord calls k (T (10 + ord k) 6).toNat
  by_cases c : ∃ i, i < k ∧ ord i = (T (10 + ord k) 6).toNat
  · exact a1 c u2
  · rw [a2 c] at u2
    refine h ⟨u1, u2, ?_⟩
    cases hb : (aTold ord k).testBit (T (10 + ord k) 6).toNat with
    | false => rfl
    | true => exact absurd ((aTold_bit k _).mp hb) c
section P61
variable {M : Mm} {T S : Tw} {mb : Int}
theorem r_allow (hT : RT M T) (ha : RA M 0) (hS : RS M 0 T S) (hI : InvT T) (hJ : InvS T S mb) {ord : Nat → Nat} {n : Nat} (hn : n ≤ 6) (ho : ∀ i, i < n → ((ord i : Nat) : Int) < T 0 2 ∧ M.1 614 i = iI ((ord i : Nat) : Int)) :
    p_X8_isAllowed M (iI (n : Int)) ∧ ((∀ i, i < n → okA T S ord i) → r_X8_isAllowed M (iI (n : Int)) = 1) ∧ ((¬ ∀ i, i < n → okA T S ord i) → r_X8_isAllowed M (iI (n : Int)) = 0) := by
  have hc := hI.1
  obtain ⟨j, j1, j2, j3⟩ := fst_ex (okA T S ord) n
  have o6 : ∀ k, k ≤ n → aTold ord k < 64 := fun k hk => aTold_lt k (fun i hi => by have := (ho i (by omega)).1; omega)
  have fs : ∀ k, k < n → ∃ b : Int, b = T (10 + ord k) 6 ∧ (-1 ≤ b ∧ b < ord k) ∧ M.1 614 (Int32.toNatClampNeg (iI (k : Int))) = iI ((ord k : Nat) : Int) ∧ M.1 603 (Int32.toNatClampNeg (8 * iI ((ord k : Nat) : Int) + (6 : Int32))) = iI b ∧ (0 ≤ b → ((M.1 607 (Int32.toNatClampNeg (M.1 600 10 + 9 + iI b)) = 0) ↔ S 2 b.toNat = 0) ∧ vp_in (M.1 600 10 + 9 + iI b) 44 ∧ (((iI ((aTold ord k : Nat) : Int) >>> (iI b &&& 31)) &&& 1 = 0) ↔ (aTold ord k).testBit b.toNat = false)) ∧ ((iI b < 0) ↔ b < 0) ∧ vp_in (8 * iI ((ord k : Nat) : Int) + (6 : Int32)) 48 := by
    intro k hk
    obtain ⟨o1, o2⟩ := ho k hk
    have k6 := (hI.2.2.2.2 (ord k) o1).2.2.2.2.2.2.1
    refine ⟨_, rfl, k6, by rw [natk (n := k) rfl (by omega)]; exact o2, hT.w6 o1 hI, fun b0 => ⟨?_, ?_, ?_⟩, ?_, vw6 o1 hI⟩
    · exact r_open ha hS hI hJ b0 (by omega)
    · exact ha.vs b0 (by omega) hI
    · have := msk_in (aTold ord k) (o6 k (by omega)) (T (10 + ord k) 6).toNat (by omega)
      rw [show (((T (10 + ord k) 6).toNat : Nat) : Int) = T (10 + ord k) 6 by omega] at this
      exact this
    · rw [cl0, iI_lt (by omega) (by omega) (by omega) (by omega)]
  have step : ∀ k, k < n → okA T S ord k → s_X8_isAllowed_4 M (iI (n : Int)) (iI ((aTold ord k : Nat) : Int), iI (k : Int)) = (iI ((aTold ord (k + 1) : Nat) : Int), iI ((k + 1 : Nat) : Int)) ∧ c_X8_isAllowed_4 M (iI (n : Int)) (iI ((aTold ord k : Nat) : Int), iI (k : Int)) := by
    intro k hk ok
    obtain ⟨b, b0, b1, b2, b3, b4, b5, b6⟩ := fs k hk
    have o1 := (ho k hk).1
    have hlt : ¬ iI (n : Int) ≤ iI (k : Int) := by rw [iI_le (by omega) (by omega) (by omega) (by omega)]; omega
    unfold s_X8_isAllowed_4 c_X8_isAllowed_4
    dsimp only
    rw [if_neg hlt, if_neg hlt, b2, b3, k1_iI, aTold_s, msk_or _ (o6 k (by omega)) _ (by omega)]
    unfold okA at ok
    rw [← b0] at ok
    by_cases d1 : b < 0
    · rw [if_pos (b5.mpr d1), if_pos (b5.mpr d1)]
      exact ⟨rfl, trivial⟩
    · have g1 : ¬ iI b < 0 := fun u => d1 (b5.mp u)
      obtain ⟨e1, e2, e3⟩ := b4 (by omega)
      rw [if_neg g1, if_neg g1]
      by_cases d2 : S 2 b.toNat = 0
      · have g2 : ¬ b2i (M.1 607 (Int32.toNatClampNeg (M.1 600 10 + 9 + iI b)) = 0) = 0 := b2i_1.mpr (e1.mpr d2)
        rw [if_neg g2, if_neg g2]
        have g3 : ¬ ((iI ((aTold ord k : Nat) : Int) >>> (iI b &&& 31)) &&& 1) = 0 := fun u => ok ⟨by omega, d2, e3.mp u⟩
        rw [if_pos g3, if_pos g3]
        exact ⟨rfl, trivial⟩
      · have g2 := b2i_0.mpr (fun u => d2 (e1.mp u))
        rw [if_pos g2, if_pos g2]
        exact ⟨rfl, trivial⟩
  have key : ∀ k, k ≤ j → l_X8_isAllowed_4 M (iI (n : Int)) (0, 0) k = (iI ((aTold ord k : Nat) : Int), iI (k : Int)) := by
    refine it_for _ rfl (fun k hk => ?_)
    exact (step k (by omega) (j2 k hk)).1
  have stop : ¬ c_X8_isAllowed_4 M (iI (n : Int)) (iI ((aTold ord j : Nat) : Int), iI (j : Int)) := by
    unfold c_X8_isAllowed_4
    dsimp only
    by_cases q : j = n
    · rw [if_pos (by rw [iI_le (by omega) (by omega) (by omega) (by omega)]; omega)]
      exact fun h => h
    · have nok := j3.resolve_left q
      obtain ⟨b, b0, b1, b2, b3, b4, b5, b6⟩ := fs j (by omega)
      unfold okA at nok
      rw [← b0, Classical.not_not] at nok
      obtain ⟨e1, e2, e3⟩ := b4 nok.1
      have g1 : ¬ iI b < 0 := fun u => by have := b5.mp u; omega
      have g2 : ¬ b2i (M.1 607 (Int32.toNatClampNeg (M.1 600 10 + 9 + iI b)) = 0) = 0 := b2i_1.mpr (e1.mpr nok.2.1)
      have g3 : ¬ ¬ ((iI ((aTold ord j : Nat) : Int) >>> (iI b &&& 31)) &&& 1) = 0 := not_not_intro (e3.mpr nok.2.2)
      rw [if_neg (by rw [iI_le (by omega) (by omega) (by omega) (by omega)]; omega), b2, b3, if_neg g1, if_neg g2, if_neg g3]
      exact fun h => h
  have cn : cntN (fun k => c_X8_isAllowed_4 M (iI (n : Int)) (l_X8_isAllowed_4 M (iI (n : Int)) (0, 0) k)) 7 = j := by
    refine cntN_eq (by omega) (fun k hk => ?_) ?_
    · show c_X8_isAllowed_4 _ _ _
      rw [key k (by omega)]
      exact (step k (by omega) (j2 k hk)).2
    · show ¬ c_X8_isAllowed_4 _ _ _
      rw [key j (Nat.le_refl _)]
      exact stop
  have qq : ∀ k, k < n → q_X8_isAllowed_4 M (iI (n : Int)) (iI ((aTold ord k : Nat) : Int), iI (k : Int)) := by
    intro k hk
    obtain ⟨b, b0, b1, b2, b3, b4, b5, b6⟩ := fs k hk
    have vk : vp_in (iI (k : Int)) 6 := vin_iI (by omega) (by omega) (by omega)
    unfold q_X8_isAllowed_4
    dsimp only
    rw [b2, b3]
    split
    · trivial
    · refine ⟨vk, b6, ?_⟩
      by_cases d1 : b < 0
      · rw [if_pos (b5.mpr d1)]
        exact ⟨vk, trivial⟩
      · rw [if_neg (fun u => d1 (b5.mp u))]
        refine ⟨(b4 (by omega)).2.1, ?_⟩
        split
        · exact ⟨vk, trivial⟩
        · split
          · exact ⟨vk, trivial⟩
          · trivial
  unfold p_X8_isAllowed r_X8_isAllowed
  rw [cn, key j (Nat.le_refl _)]
  refine ⟨⟨fun k hk => ?_, fun k hk => ?_, stop, ?_⟩, fun h => ?_, fun h => ?_⟩
  · rw [key k (by omega)]
    exact (step k (by omega) (j2 k hk)).2
  · rw [key k (by omega)]
    exact qq k (by omega)
  · by_cases q : j = n
    · rw [if_pos (by show iI (n : Int) ≤ iI (j : Int); rw [iI_le (by omega) (by omega) (by omega) (by omega)]; omega)]
      trivial
    · have := qq j (by omega)
      unfold q_X8_isAllowed_4 at this
      exact this
  · have q : j = n := by
      rcases j3 with q | q
      · exact q
      · by_cases q2 : j = n
        · exact q2
        · exact absurd (h j (by omega)) q
    rw [if_pos (by show iI (n : Int) ≤ iI (j : Int); rw [iI_le (by omega) (by omega) (by omega) (by omega)]; omega)]
  · have q : ¬ j = n := fun q => h (fun i hi => j2 i (by omega))
    rw [if_neg (by show ¬ iI (n : Int) ≤ iI (j : Int); rw [iI_le (by omega) (by omega) (by omega) (by omega)]; omega)]
end P61
