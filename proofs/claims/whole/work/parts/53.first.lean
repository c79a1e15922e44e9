/-! the first of a set from a place on -/
def fIx (P : Nat → Bool) : Nat → Nat → Nat
  | i, 0 => i
  | i, f + 1 => if P i then i else fIx P (i + 1) f
theorem fIx_s (P : Nat → Bool) : ∀ f i, (i ≤ fIx P i f ∧ fIx P i f ≤ i + f) ∧ (∀ k, i ≤ k → k < fIx P i f → P k = false) ∧ (fIx P i f = i + f ∨ P (fIx P i f) = true)
  | 0, i => ⟨⟨Nat.le_refl i, Nat.le_refl i⟩, fun k h1 h2 => absurd h2 (by show ¬ k < i; omega), Or.inl rfl⟩
  | f + 1, i => by
    obtain ⟨⟨h1, h2⟩, h3, h4⟩ := fIx_s P f (i + 1)
    show (i ≤ (if P i then i else fIx P (i + 1) f) ∧ (if P i then i else fIx P (i + 1) f) ≤ i + (f + 1)) ∧ (∀ k, i ≤ k → k < (if P i then i else fIx P (i + 1) f) → P k = false) ∧ ((if P i then i else fIx P (i + 1) f) = i + (f + 1) ∨ P (if P i then i else fIx P (i + 1) f) = true)
    by_cases c : P i = true
    · rw [if_pos c]
      exact ⟨⟨Nat.le_refl i, by omega⟩, fun k h1 h2 => absurd h2 (by omega), Or.inr c⟩
    · rw [if_neg c]
      refine ⟨⟨by omega, by omega⟩, fun k k1 k2 => ?_, ?_⟩
      · by_cases q : k = i
        · rw [q]; simpa using c
        · exact h3 k (by omega) k2
      · rcases h4 with h4 | h4
        · exact Or.inl (by omega)
        · exact Or.inr h4
theorem modI {x n : Int} (h0 : 0 ≤ x) (h1 : x ≤ 100) (n0 : 0 < n) (n1 : n ≤ 6) : iI x - iI x / iI n * iI n = iI (x % n) := by
  rw [iI_div h0 (by omega) n0 (by omega), iI_mul, iI_sub]
  congr 1
  have := Int.emod_def x n
  rw [Int.mul_comm] at this
  omega
theorem msk_in1 : ∀ m : Nat, m < 64 → ∀ w : Nat, w < 8 → (((iI (m : Int) >>> (iI (w : Int) &&& 31)) &&& 1 = 1) ↔ m.testBit w = true) := by decide +kernel
def aFFi (m n a : Nat) : Nat := fIx (fun k => m.testBit ((a + k) % n)) 0 n
def aFF (m n a : Nat) : Int := if aFFi m n a = n then -3 else (((a + aFFi m n a) % n : Nat) : Int)
theorem ffz : ∀ n, n < 7 → ∀ m, m < 2 ^ n → 0 < m → ∀ a, a < 10 → fIx (fun k => m.testBit ((a + k) % n)) 0 n < n := by decide +kernel
section P53
variable {M : Mm}
theorem c_first {m n a : Nat} (hm : m < 64) (hn : n ≤ 6) (ha : a ≤ 9) (h : M.1 100 2 = iI (n : Int)) : p_X2_firstFrom M (iI (m : Int)) (iI (a : Int)) ∧ r_X2_firstFrom M (iI (m : Int)) (iI (a : Int)) = iI (aFF m n a) := by
  obtain ⟨⟨-, f1⟩, f2, f3⟩ := fIx_s (fun k => m.testBit ((a + k) % n)) n 0
  have hi : aFFi m n a = fIx (fun k => m.testBit ((a + k) % n)) 0 n := rfl
  rw [← hi] at f1 f2 f3
  rw [Nat.zero_add] at f1 f3
  obtain ⟨i0, hi0⟩ : ∃ i0, i0 = aFFi m n a := ⟨_, rfl⟩
  rw [← hi0] at f1 f2 f3
  have md : ∀ k : Nat, k < n → (iI (a : Int) + iI (k : Int)) - (iI (a : Int) + iI (k : Int)) / iI (n : Int) * iI (n : Int) = iI (((a + k) % n : Nat) : Int) := fun k hk => by
    rw [iI_add, modI (by omega) (by omega) (by omega) (by omega)]
    congr 1
  have lt8 : ∀ k : Nat, k < n → (a + k) % n < 8 := fun k hk => by
    have := Nat.mod_lt (a + k) (show 0 < n by omega)
    omega
  have go : ∀ k : Nat, k < i0 → ¬ iI (n : Int) ≤ iI (k : Int) ∧ b2i (¬ (iI (m : Int) >>> (((iI (a : Int) + iI (k : Int)) - (iI (a : Int) + iI (k : Int)) / iI (n : Int) * iI (n : Int)) &&& 31)) &&& 1 = 0) = 0 := fun k hk => by
    refine ⟨by rw [iI_le (by omega) (by omega) (by omega) (by omega)]; omega, b2i_0.mpr (not_not_intro ?_)⟩
    rw [md k (by omega)]
    exact (msk_in m hm _ (lt8 k (by omega))).mpr (f2 k (Nat.zero_le k) hk)
  have key : ∀ k, k ≤ i0 → l_X2_firstFrom_11 M (iI (m : Int)) (iI (a : Int)) (iI (n : Int)) 0 k = iI (k : Int) := by
    refine it_for _ rfl (fun k hk => ?_)
    show s_X2_firstFrom_11 M (iI (m : Int)) (iI (a : Int)) (iI (n : Int)) (iI (k : Int)) = _
    unfold s_X2_firstFrom_11
    obtain ⟨g1, g2⟩ := go k hk
    rw [if_neg g1, if_pos g2, k1_iI]
  have stop : ¬ c_X2_firstFrom_11 M (iI (m : Int)) (iI (a : Int)) (iI (n : Int)) (iI (i0 : Int)) := by
    unfold c_X2_firstFrom_11
    by_cases q : i0 = n
    · rw [if_pos (by rw [iI_le (by omega) (by omega) (by omega) (by omega)]; omega)]
      exact fun h => h
    · have hb := (f3.resolve_left q)
      have g2 : ¬ b2i (¬ (iI (m : Int) >>> (((iI (a : Int) + iI (i0 : Int)) - (iI (a : Int) + iI (i0 : Int)) / iI (n : Int) * iI (n : Int)) &&& 31)) &&& 1 = 0) = 0 := b2i_1.mpr (by
        rw [md i0 (by omega)]
        intro u
        have := (msk_in m hm _ (lt8 i0 (by omega))).mp u
        rw [this] at hb
        exact absurd hb (by decide))
      rw [if_neg (by rw [iI_le (by omega) (by omega) (by omega) (by omega)]; omega), if_neg g2]
      exact fun h => h
  have cn : cntN (fun k => c_X2_firstFrom_11 M (iI (m : Int)) (iI (a : Int)) (iI (n : Int)) (l_X2_firstFrom_11 M (iI (m : Int)) (iI (a : Int)) (iI (n : Int)) 0 k)) 7 = i0 := by
    refine cntN_eq (by omega) (fun k hk => ?_) ?_
    · show c_X2_firstFrom_11 _ _ _ _ _
      rw [key k (by omega)]
      unfold c_X2_firstFrom_11
      obtain ⟨g1, g2⟩ := go k hk
      rw [if_neg g1, if_pos g2]
      trivial
    · show ¬ c_X2_firstFrom_11 _ _ _ _ _
      rw [key i0 (Nat.le_refl _)]
      exact stop
  unfold p_X2_firstFrom r_X2_firstFrom
  rw [h, cn, key i0 (Nat.le_refl _)]
  have nz : ∀ k, k < i0 → ¬ iI (n : Int) = 0 := fun k hk => by rw [cl0, iI_eq (by omega) (by omega) (by omega) (by omega)]; omega
  refine ⟨⟨fun k hk => ?_, fun k hk => ?_, stop, ?_⟩, ?_⟩
  · rw [key k (by omega)]
    unfold c_X2_firstFrom_11
    obtain ⟨g1, g2⟩ := go k hk
    rw [if_neg g1, if_pos g2]
    trivial
  · unfold q_X2_firstFrom_11
    split
    · trivial
    · exact ⟨nz k hk, by split <;> trivial⟩
  · by_cases q : i0 = n
    · rw [if_pos (by rw [iI_le (by omega) (by omega) (by omega) (by omega)]; omega)]
      trivial
    · rw [if_neg (by rw [iI_le (by omega) (by omega) (by omega) (by omega)]; omega)]
      exact ⟨by rw [cl0, iI_eq (by omega) (by omega) (by omega) (by omega)]; omega, by split <;> trivial⟩
  · unfold aFF
    rw [← hi0]
    by_cases q : i0 = n
    · rw [if_pos (by rw [iI_le (by omega) (by omega) (by omega) (by omega)]; omega), if_pos q]
      exact cm3
    · have hb := (f3.resolve_left q)
      have g2 : ¬ b2i (¬ (iI (m : Int) >>> (((iI (a : Int) + iI (i0 : Int)) - (iI (a : Int) + iI (i0 : Int)) / iI (n : Int) * iI (n : Int)) &&& 31)) &&& 1 = 0) = 0 := b2i_1.mpr (by
        rw [md i0 (by omega)]
        intro u
        have := (msk_in m hm _ (lt8 i0 (by omega))).mp u
        rw [this] at hb
        exact absurd hb (by decide))
      rw [if_neg (by rw [iI_le (by omega) (by omega) (by omega) (by omega)]; omega), if_neg g2, if_neg q, md i0 (by omega)]
theorem r_first {m n a : Nat} (hm : m < 2 ^ n) (hm0 : 0 < m) (hn : n ≤ 6) (ha : a ≤ 9) (h : M.1 600 2 = iI (n : Int)) : p_X8_firstFrom M (iI (m : Int)) (iI (a : Int)) ∧ r_X8_firstFrom M (iI (m : Int)) (iI (a : Int)) = iI (aFF m n a) ∧ 0 ≤ aFF m n a := by
  have hm6 : m < 64 := Nat.lt_of_lt_of_le hm (Nat.pow_le_pow_right (by decide) hn)
  have n0 : 0 < n := by
    rcases Nat.eq_zero_or_pos n with q | q
    · rw [q] at hm; omega
    · exact q
  obtain ⟨⟨-, -⟩, f2, f3⟩ := fIx_s (fun k => m.testBit ((a + k) % n)) n 0
  have f1 := ffz n (by omega) m hm hm0 a (by omega)
  have hi : aFFi m n a = fIx (fun k => m.testBit ((a + k) % n)) 0 n := rfl
  rw [← hi] at f1 f2 f3
  rw [Nat.zero_add] at f3
  obtain ⟨i0, hi0⟩ : ∃ i0, i0 = aFFi m n a := ⟨_, rfl⟩
  rw [← hi0] at f1 f2 f3
  have hb := f3.resolve_left (by omega)
  have lt8 : ∀ k : Nat, (a + k) % n < 8 := fun k => by
    have := Nat.mod_lt (a + k) n0
    omega
  have go : ∀ k : Nat, k < i0 → ¬ ¬ ((iI (m : Int) >>> (iI (((a + k) % n : Nat) : Int) &&& 31)) &&& 1) = 0 := fun k hk => not_not_intro ((msk_in m hm6 _ (lt8 k)).mpr (f2 k (Nat.zero_le k) hk))
  have st : ¬ ((iI (m : Int) >>> (iI (((a + i0) % n : Nat) : Int) &&& 31)) &&& 1) = 0 := fun u => by
    have := (msk_in m hm6 _ (lt8 i0)).mp u
    rw [this] at hb
    exact absurd hb (by decide)
  have nz : ¬ iI (n : Int) = 0 := by rw [cl0, iI_eq (by omega) (by omega) (by omega) (by omega)]; omega
  have e0 : iI (a : Int) - iI (a : Int) / iI (n : Int) * iI (n : Int) = iI (((a + 0) % n : Nat) : Int) := by
    rw [modI (by omega) (by omega) (by omega) (by omega)]
    congr 1
  have key : ∀ k, k ≤ i0 → l_X8_firstFrom_7 M (iI (m : Int)) (iI (a : Int)) (iI (a : Int) - iI (a : Int) / iI (n : Int) * iI (n : Int)) k = iI (((a + k) % n : Nat) : Int) := by
    refine it_for _ e0 (fun k hk => ?_)
    show s_X8_firstFrom_7 M (iI (m : Int)) (iI (a : Int)) (iI (((a + k) % n : Nat) : Int)) = _
    unfold s_X8_firstFrom_7
    have l8 := lt8 k
    rw [if_neg (go k hk), h, k1_iI, modI (by omega) (by omega) (by omega) (by omega)]
    congr 1
    have e : ((a + k) % n + 1) % n = (a + (k + 1)) % n := by rw [Nat.mod_add_mod]; rfl
    rw [← e]
    rfl
  have stop : ¬ c_X8_firstFrom_7 M (iI (m : Int)) (iI (a : Int)) (iI (((a + i0) % n : Nat) : Int)) := by
    unfold c_X8_firstFrom_7
    rw [if_pos st]
    exact fun h => h
  have cn : cntN (fun k => c_X8_firstFrom_7 M (iI (m : Int)) (iI (a : Int)) (l_X8_firstFrom_7 M (iI (m : Int)) (iI (a : Int)) (iI (a : Int) - iI (a : Int) / iI (n : Int) * iI (n : Int)) k)) 7 = i0 := by
    refine cntN_eq (by omega) (fun k hk => ?_) ?_
    · show c_X8_firstFrom_7 _ _ _ _
      rw [key k (by omega)]
      unfold c_X8_firstFrom_7
      rw [if_neg (go k hk)]
      trivial
    · show ¬ c_X8_firstFrom_7 _ _ _ _
      rw [key i0 (Nat.le_refl _)]
      exact stop
  unfold p_X8_firstFrom r_X8_firstFrom
  rw [h, cn, key i0 (Nat.le_refl _)]
  refine ⟨⟨nz, fun k hk => ?_, fun k hk => ?_, stop, ?_⟩, ?_, ?_⟩
  · rw [key k (by omega)]
    unfold c_X8_firstFrom_7
    rw [if_neg (go k hk)]
    trivial
  · unfold q_X8_firstFrom_7
    rw [h]
    split
    · trivial
    · exact ⟨nz, trivial⟩
  · rw [if_pos st]
    trivial
  · rw [if_pos st]
    unfold aFF
    rw [← hi0, if_neg (by omega)]
  · unfold aFF
    rw [← hi0, if_neg (by omega)]
    omega
end P53
