/-! words: the class's bytes, the reference's numbers -/
def sxI (i j : Nat) : Int := (sxB i j).toInt
def wdv (i : Nat) : Int := wcd (sxI i) 0 (sxN i)
theorem sxI_ok : ∀ i, i < 17 → i ≠ 5 → ∀ j, j < sxN i → (97 ≤ sxI i j ∧ sxI i j ≤ 122) := by decide +kernel
theorem sxI_e (i j : Nat) : sxB i j = iI (sxI i j) := by
  rw [← Int32.toInt_inj]
  unfold sxI
  have h1 : -2147483648 ≤ (sxB i j).toInt := Int32.le_toInt _
  have h2 : (sxB i j).toInt < 2147483648 := Int32.toInt_lt _
  rw [iI_toInt (by omega) (by omega)]
theorem wcd_c {b c : Nat → Int} {s t : Nat} : ∀ n, (∀ j, j < n → b (s + j) = c (t + j)) → wcd b s n = wcd c t n
  | 0, _ => rfl
  | n + 1, h => by
    show 27 * wcd b s n + b (s + n) - 96 = 27 * wcd c t n + c (t + n) - 96
    rw [wcd_c n (fun j hj => h j (by omega)), h n (by omega)]
theorem kd1 (z : Int) : (kd z = 1) ↔ (97 ≤ z ∧ z ≤ 122) := by
  unfold kd
  by_cases c : 97 ≤ z ∧ z ≤ 122
  · rw [if_pos c]; exact ⟨fun _ => c, fun _ => rfl⟩
  · rw [if_neg c]
    refine ⟨fun u => ?_, fun u => absurd u c⟩
    split at u <;> exact absurd u (by decide)
section P97
variable {M : Mm} {b : Nat → Int} {tl e : Nat}
theorem c_word {i : Nat} (hi : i < 17) (h5 : i ≠ 5) (hX : CX M b tl) (he : e ≤ tl) (hk : CTk M b tl e) : wordIs M i ↔ (tkK b tl e = 1 ∧ tkW b tl e = wdv i) := by
  obtain ⟨k2, k3, k4⟩ := hk
  obtain ⟨q1, q2, q3, q4, q5⟩ := tkE_s b he
  obtain ⟨x1, x2, -, x4⟩ := sxN_le i hi
  have ok := sxI_ok i hi h5
  have t1 := hX.1
  have kb := tkK_b b tl e
  have eN : Int32.ofNat (sxN i) = iI ((sxN i : Nat) : Int) := by rw [← Int32.toInt_inj, x1, iI_toInt (by omega) (by omega)]
  have k0 : (iI (tkK b tl e) = (0 : Int32)) ↔ tkK b tl e = 0 := by rw [cl0, iI_eq (by omega) (by omega) (by omega) (by omega)]
  have kl : (iI ((tkE b tl e : Nat) : Int) - iI ((tkS b tl e : Nat) : Int) = iI ((sxN i : Nat) : Int)) ↔ tkE b tl e - tkS b tl e = sxN i := by rw [iI_sub, iI_eq (by omega) (by omega) (by omega) (by omega)]; omega
  have rdb : ∀ k, k < sxN i → tkS b tl e + k < tl → ((M.1 501 (Int32.toNatClampNeg (M.1 500 3 + Int32.ofNat k)) = sxB i k) ↔ b (tkS b tl e + k) = sxI i k) := fun k hk hl => by
    have ek : Int32.ofNat k = iI ((k : Nat) : Int) := rfl
    obtain ⟨z1, z2⟩ := hX.2.2 _ hl
    have o := ok k hk
    have sbb : -128 ≤ sb (b (tkS b tl e + k)) ∧ sb (b (tkS b tl e + k)) < 128 ∧ (b (tkS b tl e + k) < 128 → sb (b (tkS b tl e + k)) = b (tkS b tl e + k)) ∧ (128 ≤ b (tkS b tl e + k) → sb (b (tkS b tl e + k)) < 0) := by unfold sb; split <;> omega
    rw [k3, ek, iI_add, natk (n := tkS b tl e + k) (by omega) (by omega), z2, sxI_e, iI_eq (by omega) (by omega) (by omega) (by omega)]
    omega
  unfold wordIs
  rw [k2, k4, k3, eN, k0, kl]
  rw [k3] at rdb
  constructor
  · rintro ⟨u1, u2, u3⟩
    have sl : tkS b tl e < tl := by omega
    have eq : ∀ k, k < sxN i → b (tkS b tl e + k) = sxI i (0 + k) := fun k hk => by
      rw [Nat.zero_add]
      exact (rdb k hk (by omega)).mp (u3 k hk)
    have eK : tkK b tl e = kd (b (tkS b tl e)) := if_pos sl
    have b0 := eq 0 x4
    have o0 := ok 0 x4
    rw [Nat.zero_add] at b0
    have kk : tkK b tl e = 1 := by
      rw [eK, kd1]
      rw [Nat.add_zero] at b0
      rw [b0]; exact o0
    refine ⟨kk, ?_⟩
    unfold tkW wcv wdv
    rw [if_pos kk, u2, if_pos (by omega)]
    exact wcd_c _ eq
  · rintro ⟨u1, u2⟩
    obtain ⟨a1, a2, a3⟩ := q3 1 (Or.inl rfl) u1
    unfold tkW wcv wdv at u2
    rw [if_pos u1] at u2
    have wp := (wcd_p (b := sxI i) (s := 0) (sxN i) (fun j hj => by rw [Nat.zero_add]; exact ok j hj)).2 x4
    by_cases d : tkE b tl e - tkS b tl e ≤ 8
    · rw [if_pos d] at u2
      obtain ⟨i1, i2⟩ := wcd_inj (tkE b tl e - tkS b tl e) (sxN i) (fun j hj => (kd1 _).mp (a2 _ (by omega) (by omega))) (fun j hj => by rw [Nat.zero_add]; exact ok j hj) u2
      refine ⟨by omega, i1, fun k hk => (rdb k hk (by omega)).mpr ?_⟩
      have := i2 k (by omega)
      rw [Nat.zero_add] at this
      exact this
    · rw [if_neg d] at u2
      omega
end P97
