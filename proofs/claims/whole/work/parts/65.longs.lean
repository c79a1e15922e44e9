/-! Int64 as the image of whole numbers; Euclid's steps; halvings -/
def jI (x : Int) : Int64 := Int64.ofInt x
theorem jI_toInt {x : Int} (h1 : -9223372036854775808 ≤ x) (h2 : x < 9223372036854775808) : (jI x).toInt = x := Int64.toInt_ofInt_of_le h1 h2
theorem jI_add (a b : Int) : jI a + jI b = jI (a + b) := (Int64.ofInt_add a b).symm
theorem jI_sub (a b : Int) : jI a - jI b = jI (a - b) := (Int64.ofInt_sub a b).symm
theorem jI_mul (a b : Int) : jI a * jI b = jI (a * b) := (Int64.ofInt_mul a b).symm
theorem jI_div {a b : Int} (h1 : 0 ≤ a) (h2 : a < 9223372036854775808) (h3 : 0 < b) (h4 : b < 9223372036854775808) : jI a / jI b = jI (a / b) := by
  rw [← Int64.toInt_inj, Int64.toInt_div, jI_toInt (by omega) h2, jI_toInt (by omega) h4, Int.tdiv_eq_ediv_of_nonneg h1]
  have h5 : 0 ≤ a / b := Int.ediv_nonneg h1 (by omega)
  have h6 : a / b ≤ a := Int.ediv_le_self b h1
  rw [jI_toInt (by omega) (by omega)]
  exact Int.bmod_eq_of_le (by omega) (by omega)
theorem jI_eq {a b : Int} (h1 : -9223372036854775808 ≤ a) (h2 : a < 9223372036854775808) (h3 : -9223372036854775808 ≤ b) (h4 : b < 9223372036854775808) : (jI a = jI b) ↔ a = b := by
  rw [← Int64.toInt_inj, jI_toInt h1 h2, jI_toInt h3 h4]
theorem jI_le {a b : Int} (h1 : -9223372036854775808 ≤ a) (h2 : a < 9223372036854775808) (h3 : -9223372036854775808 ≤ b) (h4 : b < 9223372036854775808) : (jI a ≤ jI b) ↔ a ≤ b := by
  rw [Int64.le_iff_toInt_le, jI_toInt h1 h2, jI_toInt h3 h4]
theorem i2j {x : Int} (h1 : -2147483648 ≤ x) (h2 : x < 2147483648) : Int32.toInt64 (iI x) = jI x := by
  rw [← Int64.toInt_inj, Int32.toInt_toInt64, iI_toInt h1 h2, jI_toInt (by omega) (by omega)]
theorem jl0 : (0 : Int64) = jI 0 := by decide
theorem jl1 : (1 : Int64) = jI 1 := by decide
theorem jl2 : (2 : Int64) = jI 2 := by decide
theorem sh_b : ∀ len : Nat, len < 7 → (1 : Int64) <<< (Int32.toInt64 ((3 : Int32) * iI (len : Int)) &&& 63) = jI ((2 ^ (3 * len) : Nat) : Int) := by decide +kernel
theorem sh_n : ∀ len : Nat, len < 7 → (1 : Int32) <<< (iI (len : Int) &&& 31) = iI ((2 ^ len : Nat) : Int) := by decide +kernel
theorem p_le : ∀ len : Nat, len < 7 → 1 ≤ 2 ^ len ∧ 2 ^ len ≤ 64 ∧ 1 ≤ 2 ^ (3 * len) ∧ 2 ^ (3 * len) ≤ 262144 := by decide
/-- Euclid -/
def euc : Nat → Nat × Nat → Nat × Nat
  | 0, p => p
  | k + 1, p => euc k (p.2, p.1 % p.2)
theorem euc_s : ∀ k p, euc (k + 1) p = ((euc k p).2, (euc k p).1 % (euc k p).2)
  | 0, p => rfl
  | k + 1, p => euc_s k (p.2, p.1 % p.2)
theorem euc_f : ∀ m x y : Nat, y < 2 ^ m → ∃ n, n ≤ 2 * m ∧ (∀ k, k < n → (euc k (x, y)).2 ≠ 0) ∧ euc n (x, y) = (Nat.gcd x y, 0)
  | 0, x, y, h => by
    have e : y = 0 := by have : y < 1 := h; omega
    exact ⟨0, Nat.le_refl 0, fun k hk => absurd hk (Nat.not_lt_zero k), by rw [e, Nat.gcd_zero_right]; rfl⟩
  | m + 1, x, y, h => by
    by_cases e : y = 0
    · exact ⟨0, Nat.zero_le _, fun k hk => absurd hk (Nat.not_lt_zero k), by rw [e, Nat.gcd_zero_right]; rfl⟩
    · have g1 : Nat.gcd x y = Nat.gcd y (x % y) := by rw [Nat.gcd_comm x y, Nat.gcd_rec y x, Nat.gcd_comm]
      by_cases f : x % y = 0
      · refine ⟨1, by omega, fun k hk => ?_, ?_⟩
        · rw [show k = 0 by omega]; exact e
        · show (y, x % y) = _
          rw [g1, f, Nat.gcd_zero_right]
      · have lt : x % y < y := Nat.mod_lt x (by omega)
        have lt2 : y % (x % y) < x % y := Nat.mod_lt y (by omega)
        have le : y % (x % y) + x % y ≤ y := by
          have dm := Nat.div_add_mod y (x % y)
          have q : 1 ≤ y / (x % y) := (Nat.le_div_iff_mul_le (by omega)).mpr (by omega)
          have mm : x % y ≤ x % y * (y / (x % y)) := Nat.le_mul_of_pos_right _ q
          omega
        have p2 : 2 ^ (m + 1) = 2 * 2 ^ m := by rw [Nat.pow_succ]; omega
        obtain ⟨n, n1, n2, n3⟩ := euc_f m (x % y) (y % (x % y)) (by omega)
        refine ⟨n + 2, by omega, fun k hk => ?_, ?_⟩
        · match k, hk with
          | 0, _ => exact e
          | 1, _ => exact f
          | k + 2, hk => exact n2 k (by omega)
        · show euc n (x % y, y % (x % y)) = _
          rw [n3, g1]
          have g2 : Nat.gcd y (x % y) = Nat.gcd (x % y) (y % (x % y)) := by rw [Nat.gcd_comm y (x % y), Nat.gcd_rec (x % y) y, Nat.gcd_comm]
          rw [g2]
/-- halvings: from (A, 2 ^ e), while the second is above 1 and the first even -/
theorem half_f : ∀ e A : Nat, ∃ h, h ≤ e ∧ (∀ k, k < h → (A / 2 ^ k) % 2 = 0) ∧ (h = e ∨ (A / 2 ^ h) % 2 = 1) ∧ Nat.gcd A (2 ^ e) = 2 ^ h
  | 0, A => ⟨0, Nat.le_refl 0, fun k hk => absurd hk (Nat.not_lt_zero k), Or.inl rfl, by rw [Nat.pow_zero, Nat.gcd_one_right]⟩
  | e + 1, A => by
    by_cases c : A % 2 = 0
    · obtain ⟨h, h1, h2, h3, h4⟩ := half_f e (A / 2)
      have dv : ∀ k, A / 2 ^ (k + 1) = A / 2 / 2 ^ k := fun k => by rw [Nat.pow_succ, Nat.mul_comm, Nat.div_div_eq_div_mul]
      refine ⟨h + 1, by omega, fun k hk => ?_, ?_, ?_⟩
      · match k, hk with
        | 0, _ => rw [Nat.pow_zero, Nat.div_one]; exact c
        | k + 1, hk => rw [dv]; exact h2 k (by omega)
      · rw [dv]
        rcases h3 with h3 | h3
        · exact Or.inl (by omega)
        · exact Or.inr h3
      · have ea : A = 2 * (A / 2) := by omega
        rw [ea, Nat.pow_succ, Nat.mul_comm (2 ^ e) 2, Nat.gcd_mul_left, h4, Nat.pow_succ, Nat.mul_comm]
    · refine ⟨0, Nat.zero_le _, fun k hk => absurd hk (Nat.not_lt_zero k), Or.inr ?_, ?_⟩
      · rw [Nat.pow_zero, Nat.div_one]; omega
      · rw [Nat.pow_zero]
        have cp : Nat.Coprime A 2 := by
          have := Nat.gcd_rec 2 A
          unfold Nat.Coprime
          rw [Nat.gcd_comm, this, show A % 2 = 1 by omega, Nat.gcd_one_left]
        exact Nat.Coprime.pow_right (e + 1) cp
section P65
variable {M : Mm}
theorem modJ {x y : Nat} (hx : x < 9000000000000000000) (hy : y < 9000000000000000000) (h0 : 0 < y) : jI (x : Int) - jI (x : Int) / jI (y : Int) * jI (y : Int) = jI ((x % y : Nat) : Int) := by
  rw [jI_div (by omega) (by omega) (by omega) (by omega), jI_mul, jI_sub]
  congr 1
  have := Int.emod_def (x : Int) (y : Int)
  rw [Int.mul_comm] at this
  rw [← this]
  rfl
theorem euc_b {x y : Nat} {B : Nat} (hx : x ≤ B) (hy : y ≤ B) : ∀ k, (euc k (x, y)).1 ≤ B ∧ (euc k (x, y)).2 ≤ B
  | 0 => ⟨hx, hy⟩
  | k + 1 => by
    obtain ⟨h1, h2⟩ := euc_b hx hy k
    rw [euc_s]
    exact ⟨h2, Nat.le_trans (Nat.mod_le _ _) h1⟩
theorem r_lowest {a b : Nat} (hb0 : 0 < b) (hb : b ≤ 262144) (ha : a < 4000000000000000000) : p_X8_lowest M (jI (a : Int)) (jI (b : Int)) ∧ w_X8_lowest M (jI (a : Int)) (jI (b : Int)) = wl (wl M 600 38 (jI ((a / Nat.gcd a b : Nat) : Int))) 600 39 (jI ((b / Nat.gcd a b : Nat) : Int)) := by
  obtain ⟨n, n1, n2, n3⟩ := euc_f 19 a b (by show b < 524288; omega)
  have eb := euc_b (x := a) (y := b) (B := 4000000000000000000) (by omega) (by omega)
  have gp : 0 < Nat.gcd a b := Nat.gcd_pos_of_pos_right a hb0
  have gl : Nat.gcd a b ≤ b := Nat.gcd_le_right a hb0
  have z : ∀ k, (lg_cmp (jI (((euc k (a, b)).2 : Nat) : Int)) 0 = 0) ↔ (euc k (a, b)).2 = 0 := fun k => by
    have := (eb k).2
    rw [lg_cmp_eq, jl0, jI_eq (by omega) (by omega) (by omega) (by omega)]
    omega
  have key : ∀ k, k ≤ n → l_X8_lowest_6 M (jI (a : Int)) (jI (b : Int)) (jI (a : Int), jI (b : Int)) k = (jI (((euc k (a, b)).1 : Nat) : Int), jI (((euc k (a, b)).2 : Nat) : Int)) := by
    refine it_for _ rfl (fun k hk => ?_)
    show s_X8_lowest_6 M (jI (a : Int)) (jI (b : Int)) (jI (((euc k (a, b)).1 : Nat) : Int), jI (((euc k (a, b)).2 : Nat) : Int)) = _
    unfold s_X8_lowest_6
    dsimp only
    have nz := n2 k hk
    have := eb k
    rw [if_neg (fun u => nz ((z k).mp u)), modJ (by omega) (by omega) (by omega), euc_s]
  have cT : ∀ k, k < n → c_X8_lowest_6 M (jI (a : Int)) (jI (b : Int)) (jI (((euc k (a, b)).1 : Nat) : Int), jI (((euc k (a, b)).2 : Nat) : Int)) := fun k hk => by
    unfold c_X8_lowest_6
    dsimp only
    rw [if_neg (fun u => n2 k hk ((z k).mp u))]
    trivial
  have e2 : (euc n (a, b)).2 = 0 := by rw [n3]
  have e1 : (euc n (a, b)).1 = Nat.gcd a b := by rw [n3]
  have zn := (z n).mpr e2
  have stop : ¬ c_X8_lowest_6 M (jI (a : Int)) (jI (b : Int)) (jI (((euc n (a, b)).1 : Nat) : Int), jI (((euc n (a, b)).2 : Nat) : Int)) := by
    unfold c_X8_lowest_6
    dsimp only
    rw [if_pos zn]
    exact fun h => h
  have cn : cntN (fun k => c_X8_lowest_6 M (jI (a : Int)) (jI (b : Int)) (l_X8_lowest_6 M (jI (a : Int)) (jI (b : Int)) (jI (a : Int), jI (b : Int)) k)) 200 = n := by
    refine cntN_eq (by omega) (fun k hk => ?_) ?_
    · show c_X8_lowest_6 _ _ _ _
      rw [key k (by omega)]
      exact cT k hk
    · show ¬ c_X8_lowest_6 _ _ _ _
      rw [key n (Nat.le_refl _)]
      exact stop
  unfold p_X8_lowest w_X8_lowest
  rw [cn, key n (Nat.le_refl _)]
  dsimp only
  rw [if_pos zn, if_pos zn, e1]
  have gz : ¬ jI ((Nat.gcd a b : Nat) : Int) = 0 := by rw [jl0, jI_eq (by omega) (by omega) (by omega) (by omega)]; omega
  refine ⟨⟨fun k hk => ?_, fun k hk => ?_, ?_, gz, gz, trivial⟩, ?_⟩
  · rw [key k (by omega)]
    exact cT k hk
  · rw [key k (by omega)]
    unfold q_X8_lowest_6
    dsimp only
    have := eb k
    have nz := n2 k hk
    rw [if_neg (fun u => nz ((z k).mp u))]
    exact ⟨by rw [jl0, jI_eq (by omega) (by omega) (by omega) (by omega)]; omega, trivial⟩
  · rw [← e1]; exact stop
  · rw [jI_div (by omega) (by omega) (by omega) (by omega), jI_div (by omega) (by omega) (by omega) (by omega)]
    rfl
end P65
