/-! digits written and read again -/
theorem bvN {N : Nat} (h : N < 2147483648) : (iI (N : Int)).toBitVec.toNat = N := by
  show (BitVec.ofInt 32 (N : Int)).toNat = N
  rw [BitVec.toNat_ofInt]
  omega
theorem ofN {v : Int32} {N : Nat} (h : v.toBitVec.toNat = N) (hN : N < 2147483648) : v = iI (N : Int) := by
  apply Int32.toBitVec_inj.mp
  apply BitVec.eq_of_toNat_eq
  rw [bvN hN]
  exact h
theorem shc : ∀ k : Nat, k < 6 → ((((3 : Int32) * iI (k : Int)) &&& 31).toBitVec.smod 32).toNat = 3 * k := by decide +kernel
theorem pw8 (k : Nat) : 2 ^ (3 * k) = 8 ^ k := by rw [Nat.pow_mul]
theorem pw8b : ∀ k, k < 7 → 8 ^ k ≤ 262144 := by decide
theorem orsh {k a w : Nat} (hk : k < 6) (ha : a < 8 ^ k) (hw : w < 8) : iI (a : Int) ||| (iI (w : Int) <<< (((3 : Int32) * iI (k : Int)) &&& 31)) = iI ((a + w * 8 ^ k : Nat) : Int) := by
  have b1 := pw8b k (by omega)
  have m : w * 8 ^ k ≤ 7 * 262144 := Nat.mul_le_mul (by omega) b1
  refine ofN ?_ (by omega)
  show ((iI (a : Int)).toBitVec ||| ((iI (w : Int)).toBitVec <<< ((((3 : Int32) * iI (k : Int)) &&& 31).toBitVec.smod 32))).toNat = _
  rw [BitVec.toNat_or, bvN (by omega), BitVec.shiftLeft_eq', BitVec.toNat_shiftLeft, shc k hk, bvN (by omega), Nat.shiftLeft_eq, pw8, Nat.mod_eq_of_lt (by omega), Nat.or_comm, Nat.mul_comm, ← pw8, ← Nat.two_pow_add_eq_or_of_lt (by rw [pw8]; exact ha), Nat.add_comm]
theorem shr {k N : Nat} (hk : k < 6) (hN : N < 2147483648) : ((iI (N : Int) >>> (((3 : Int32) * iI (k : Int)) &&& 31)) &&& 7) = iI ((N / 8 ^ k % 8 : Nat) : Int) := by
  have d : N / 8 ^ k ≤ N := Nat.div_le_self _ _
  refine ofN ?_ (by omega)
  show (((iI (N : Int)).toBitVec.sshiftRight' ((((3 : Int32) * iI (k : Int)) &&& 31).toBitVec.smod 32)) &&& (7 : Int32).toBitVec).toNat = _
  have nm : (iI (N : Int)).toBitVec.msb = false := by
    rw [BitVec.msb_eq_decide, bvN hN]
    exact decide_eq_false (by omega)
  rw [BitVec.toNat_and, BitVec.sshiftRight_eq', BitVec.sshiftRight_eq_of_msb_false nm, BitVec.toNat_ushiftRight, shc k hk, bvN hN, Nat.shiftRight_eq_div_pow, pw8]
  show N / 8 ^ k &&& 7 = _
  exact Nat.and_two_pow_sub_one_eq_mod _ 3
def nv (f : Nat → Nat) : Nat → Nat
  | 0 => 0
  | k + 1 => nv f k + f k * 8 ^ k
theorem nv_lt {f : Nat → Nat} : ∀ k, (∀ i, i < k → f i < 8) → nv f k < 8 ^ k
  | 0, _ => by show 0 < 1; omega
  | k + 1, h => by
    have ih := nv_lt k (fun i hi => h i (by omega))
    have m : f k * 8 ^ k ≤ 7 * 8 ^ k := Nat.mul_le_mul_right _ (by have := h k (by omega); omega)
    show nv f k + f k * 8 ^ k < 8 ^ (k + 1)
    rw [Nat.pow_succ]
    omega
theorem dOf_nv {f : Nat → Nat} : ∀ k, k ≤ 6 → (∀ i, i < k → f i < 8) → dOf (fun i => iI ((f i : Nat) : Int)) k = iI ((nv f k : Nat) : Int)
  | 0, _, _ => rfl
  | k + 1, hk, h => by
    show dOf (fun i => iI ((f i : Nat) : Int)) k ||| (iI ((f k : Nat) : Int) <<< _) = _
    rw [dOf_nv k (by omega) (fun i hi => h i (by omega)), orsh (by omega) (nv_lt k (fun i hi => h i (by omega))) (h k (by omega))]
    rfl
theorem nv_d {f : Nat → Nat} : ∀ n k, k < n → (∀ i, i < n → f i < 8) → nv f n / 8 ^ k % 8 = f k
  | 0, k, h, _ => absurd h (Nat.not_lt_zero k)
  | n + 1, k, hk, h => by
    have l := nv_lt n (fun i hi => h i (by omega))
    have h8 := h n (by omega)
    show (nv f n + f n * 8 ^ n) / 8 ^ k % 8 = f k
    by_cases q : k = n
    · rw [q, Nat.add_mul_div_right _ _ (Nat.pow_pos (by decide)), Nat.div_eq_of_lt l, Nat.zero_add, Nat.mod_eq_of_lt h8]
    · have e : f n * 8 ^ n = (f n * 8 ^ (n - k - 1) * 8) * 8 ^ k := by
        rw [Nat.mul_assoc, Nat.mul_assoc, ← Nat.pow_succ', ← Nat.pow_add]
        congr 2
        omega
      rw [e, Nat.add_mul_div_right _ _ (Nat.pow_pos (by decide)), Nat.add_mul_mod_self_right]
      exact nv_d n k (by omega) (fun i hi => h i (by omega))
theorem dOf_d {f : Nat → Nat} {n k : Nat} (hn : n ≤ 6) (hk : k < n) (h : ∀ i, i < n → f i < 8) : ((dOf (fun i => iI ((f i : Nat) : Int)) n >>> (((3 : Int32) * iI (k : Int)) &&& 31)) &&& 7) = iI ((f k : Nat) : Int) := by
  have l := nv_lt n h
  have b := pw8b n (by omega)
  rw [dOf_nv n hn h, shr (by omega) (by omega), nv_d n k hk h]
