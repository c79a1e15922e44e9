/-! an order has all that are open -/
def oMask (S : Tw) : Nat → Nat
  | 0 => 0
  | k + 1 => if S 2 k = 0 then oMask S k ||| 2 ^ k else oMask S k
theorem oMask_s (S : Tw) (k : Nat) : oMask S (k + 1) = if S 2 k = 0 then oMask S k ||| 2 ^ k else oMask S k := rfl
theorem oMask_bit (S : Tw) : ∀ k w, (oMask S k).testBit w = true ↔ w < k ∧ S 2 w = 0
  | 0, w => by
    rw [show oMask S 0 = 0 from rfl, Nat.zero_testBit]
    exact ⟨fun u => absurd u (by decide), fun u => absurd u.1 (Nat.not_lt_zero w)⟩
  | k + 1, w => by
    rw [oMask_s]
    by_cases c : S 2 k = 0
    · rw [if_pos c, Nat.testBit_or, Nat.testBit_two_pow, Bool.or_eq_true, decide_eq_true_iff, oMask_bit S k w]
      constructor
      · rintro (⟨a, b⟩ | a)
        · exact ⟨by omega, b⟩
        · rw [← a]; exact ⟨by omega, c⟩
      · rintro ⟨a, b⟩
        by_cases q : w = k
        · exact Or.inr q.symm
        · exact Or.inl ⟨by omega, b⟩
    · rw [if_neg c, oMask_bit S k w]
      constructor
      · rintro ⟨a, b⟩; exact ⟨by omega, b⟩
      · rintro ⟨a, b⟩
        refine ⟨?_, b⟩
        have : w ≠ k := fun e => c (by rw [← e]; exact b)
        omega
theorem cnt_or : ∀ m, m < 64 → ∀ w, w < 6 → m.testBit w = false → aCnt (m ||| 2 ^ w) 6 = aCnt m 6 + 1 := by decide +kernel
theorem cnt_sub : ∀ m1, m1 < 64 → ∀ m2, m2 < 64 → (∀ w, w < 6 → m1.testBit w = true → m2.testBit w = true) → aCnt m1 6 = aCnt m2 6 → m1 = m2 := by decide +kernel
theorem oMask_lt (S : Tw) : ∀ k, k ≤ 6 → oMask S k < 64
  | 0, _ => by show 0 < 64; omega
  | k + 1, h => by
    rw [oMask_s]
    split
    · exact msk_lt _ (oMask_lt S k (by omega)) _ (by omega)
    · exact oMask_lt S k (by omega)
theorem oMask_cnt (S : Tw) : ∀ k, k ≤ 6 → aCnt (oMask S k) 6 = aOpn S k
  | 0, _ => (show aCnt 0 6 = 0 by decide)
  | k + 1, h => by
    have ih := oMask_cnt S k (by omega)
    rw [oMask_s, aOpn_s]
    by_cases c : S 2 k = 0
    · rw [if_pos c, if_pos c, cnt_or _ (oMask_lt S k (by omega)) k (by omega) ?_, ih]
      cases hb : (oMask S k).testBit k with
      | false => rfl
      | true => exact absurd ((oMask_bit S k k).mp hb).1 (by omega)
    · rw [if_neg c, if_neg c, ih]
theorem aTold_cnt {ord : Nat → Nat} : ∀ k, (∀ i, i < k → ord i < 6) → (∀ i j, i < j → j < k → ord i ≠ ord j) → aCnt (aTold ord k) 6 = k
  | 0, _, _ => (show aCnt 0 6 = 0 by decide)
  | k + 1, h, hd => by
    have ih := aTold_cnt k (fun i hi => h i (by omega)) (fun i j h1 h2 => hd i j h1 (by omega))
    rw [aTold_s, cnt_or _ (aTold_lt k (fun i hi => h i (by omega))) _ (h k (by omega)) ?_, ih]
    cases hb : (aTold ord k).testBit (ord k) with
    | false => rfl
    | true =>
      obtain ⟨i, h1, h2⟩ := (aTold_bit k _).mp hb
      exact absurd h2 (hd i k h1 (by omega))
theorem ord_all {S : Tw} {ord : Nat → Nat} {n len : Nat} (hn : n ≤ 6) (hlen : len = aOpn S n) (ho : ∀ i, i < len → ord i < n ∧ S 2 (ord i) = 0) (hd : ∀ i j, i < j → j < len → ord i ≠ ord j) {w : Nat} (hw : w < n) (h0 : S 2 w = 0) : ∃ i, i < len ∧ ord i = w := by
  have e := cnt_sub (aTold ord len) (aTold_lt len (fun i hi => by have := (ho i hi).1; omega)) (oMask S n) (oMask_lt S n hn) (fun w hw hb => by
    obtain ⟨i, h1, h2⟩ := (aTold_bit len w).mp hb
    rw [← h2]
    exact (oMask_bit S n _).mpr (ho i h1)) (by rw [aTold_cnt len (fun i hi => by have := (ho i hi).1; omega) hd, oMask_cnt S n hn, hlen])
  have b := (oMask_bit S n w).mpr ⟨hw, h0⟩
  rw [← e] at b
  exact (aTold_bit len w).mp b
theorem dgt_all {T S : Tw} {a : Int32} {len w : Nat} (hI : InvT T) (hlen : len = aOpn S (T 0 2).toNat) (d : DG T S a len) (hw : (w : Int) < T 0 2) (h0 : S 2 w = 0) : ∃ i, i < len ∧ dgt a i = w := by
  have hc := hI.1
  exact ord_all (n := (T 0 2).toNat) (by omega) hlen (fun i hi => ⟨by have := (d.2.2 i hi).1; omega, (d.2.2 i hi).2.1⟩) (okD_ne d.2.2) (by omega) h0
