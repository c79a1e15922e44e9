/-! rounds: what holds of itN and cntN -/
theorem itN_s {α : Type} (f : Nat → α → α) (a : α) (n : Nat) : itN f a (n + 1) = f n (itN f a n) := rfl
theorem itN_inv {α : Type} {f : Nat → α → α} {a : α} (P : Nat → α → Prop) {N : Nat} (h0 : P 0 a) (hs : ∀ k σ, k < N → P k σ → P (k + 1) (f k σ)) : ∀ k, k ≤ N → P k (itN f a k)
  | 0, _ => h0
  | k + 1, h => hs k _ h (itN_inv P h0 hs k (Nat.le_of_succ_le h))
theorem cntN_le (P : Nat → Prop) : ∀ B, cntN P B ≤ B
  | 0 => Nat.le_refl 0
  | B + 1 => by
    have ih := cntN_le P B
    unfold cntN
    split <;> omega
theorem cntN_lt (P : Nat → Prop) : ∀ B k, k < cntN P B → P k
  | 0, k, h => by unfold cntN at h; omega
  | B + 1, k, h => by
    unfold cntN at h
    split at h
    next hP => exact hP k (by omega)
    next => exact cntN_lt P B k h
theorem cntN_all {P : Nat → Prop} {n : Nat} (h1 : ∀ k, k < n → P k) (h2 : ¬ P n) : ∀ B, cntN P B = if B ≤ n then B else n
  | 0 => by rw [if_pos (Nat.zero_le n)]; rfl
  | B + 1 => by
    have ih := cntN_all h1 h2 B
    unfold cntN
    rw [ih]
    by_cases hB : B < n
    · rw [if_pos (Nat.le_of_lt hB), if_pos (show B + 1 ≤ n by omega), if_pos (fun k hk => h1 k (by omega))]
    · by_cases he : B = n
      · subst he
        rw [if_pos (Nat.le_refl B), if_neg (show ¬ B + 1 ≤ B by omega), if_neg (fun h => h2 (h B (Nat.le_refl B)))]
      · rw [if_neg (show ¬ B ≤ n by omega), if_neg (show ¬ B + 1 ≤ n by omega), if_neg (fun h => h2 (h n (Nat.le_refl n)))]
theorem cntN_eq {P : Nat → Prop} {n B : Nat} (hn : n ≤ B) (h1 : ∀ k, k < n → P k) (h2 : ¬ P n) : cntN P B = n := by
  rw [cntN_all h1 h2 B]
  split <;> omega
/-! reads over writes -/
theorem wi_1 (M : Mm) (a k b j : Nat) (v : Int32) : (wi M a k v).1 b j = if b = a ∧ j = k then v else M.1 b j := rfl
theorem wi_2 (M : Mm) (a k : Nat) (v : Int32) : (wi M a k v).2 = M.2 := rfl
theorem wl_1 (M : Mm) (a k : Nat) (v : Int64) : (wl M a k v).1 = M.1 := rfl
theorem wl_2 (M : Mm) (a k b j : Nat) (v : Int64) : (wl M a k v).2 b j = if b = a ∧ j = k then v else M.2 b j := rfl
theorem cpi_1 (M : Mm) (a b c sp dp n j : Nat) : (cpi M a b sp dp n).1 c j = if c = b then va_cpy (M.1 a) (M.1 b) sp dp n j else M.1 c j := rfl
theorem cpi_2 (M : Mm) (a b sp dp n : Nat) : (cpi M a b sp dp n).2 = M.2 := rfl
/-! Int32 by its whole number, where nothing runs over -/
theorem i32_add {a b : Int32} (h1 : -2147483648 ≤ a.toInt + b.toInt) (h2 : a.toInt + b.toInt < 2147483648) : (a + b).toInt = a.toInt + b.toInt := by
  rw [Int32.toInt_add]
  apply Int.bmod_eq_of_le <;> omega
theorem i32_sub {a b : Int32} (h1 : -2147483648 ≤ a.toInt - b.toInt) (h2 : a.toInt - b.toInt < 2147483648) : (a - b).toInt = a.toInt - b.toInt := by
  rw [Int32.toInt_sub]
  apply Int.bmod_eq_of_le <;> omega
theorem i32_mul {a b : Int32} (h1 : -2147483648 ≤ a.toInt * b.toInt) (h2 : a.toInt * b.toInt < 2147483648) : (a * b).toInt = a.toInt * b.toInt := by
  rw [Int32.toInt_mul]
  apply Int.bmod_eq_of_le
  · exact h1
  · exact h2
theorem i32_nI {x : Int32} (h : 0 ≤ x.toInt) : x = nI x.toNatClampNeg := by
  rw [← Int32.toInt_inj]
  have hl : x.toInt < 2147483648 := by have := x.toInt_lt; omega
  have e : (x.toNatClampNeg : Int) = x.toInt := by
    show ((x.toInt.toNat : Nat) : Int) = x.toInt
    omega
  rw [nI_toInt (by omega)]
  omega
