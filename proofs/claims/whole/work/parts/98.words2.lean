/-! words: their numbers, the sign -/
theorem wdv_v : (wdv 0 = 7220169 ∧ wdv 1 = 10793230 ∧ wdv 2 = 12257559 ∧ wdv 3 = 60114 ∧ wdv 4 = 43347) ∧ (wdv 12 = 555 ∧ wdv 13 = 79 ∧ wdv 14 = 4797 ∧ wdv 15 = 31519426 ∧ wdv 16 = 335207579) := by decide +kernel
theorem wcd_u {b : Nat → Int} {s : Nat} : ∀ n, (∀ j, j < n → 97 ≤ b (s + j) ∧ b (s + j) ≤ 122) → wcd b s n ≤ 27 ^ n - 1
  | 0, _ => by show (0 : Int) ≤ 27 ^ 0 - 1; decide
  | n + 1, h => by
    have ih := wcd_u n (fun j hj => h j (by omega))
    have := h n (by omega)
    show 27 * wcd b s n + b (s + n) - 96 ≤ 27 ^ (n + 1) - 1
    rw [Int.pow_succ]
    omega
theorem p27 : ∀ n, n < 9 → (27 : Int) ^ n ≤ 282429536481 := by decide
section P98
variable {M : Mm} {b : Nat → Int} {tl e : Nat}
theorem tkW_b (b : Nat → Int) {tl e : Nat} (he : e ≤ tl) : -1 ≤ tkW b tl e ∧ tkW b tl e ≤ 282429536481 := by
  obtain ⟨q1, q2, q3, q4, q5⟩ := tkE_s b he
  unfold tkW
  by_cases c : tkK b tl e = 1
  · rw [if_pos c]
    obtain ⟨a1, a2, a3⟩ := q3 1 (Or.inl rfl) c
    unfold wcv
    by_cases d : tkE b tl e - tkS b tl e ≤ 8
    · rw [if_pos d]
      have l : ∀ j, j < tkE b tl e - tkS b tl e → 97 ≤ b (tkS b tl e + j) ∧ b (tkS b tl e + j) ≤ 122 := fun j hj => (kd1 _).mp (a2 _ (by omega) (by omega))
      have u := wcd_u _ l
      have v := (wcd_p _ l).1
      have p := p27 _ (show tkE b tl e - tkS b tl e < 9 by omega)
      generalize (27 : Int) ^ (tkE b tl e - tkS b tl e) = pw at u p
      omega
    · rw [if_neg d]; omega
  · rw [if_neg c]; omega
theorem r_isW (he : e ≤ tl) (hk : RTk M b tl e) {w : Int} (hw : 0 ≤ w ∧ w ≤ 282429536481) : (M.1 600 16 = 1 ∧ M.2 600 19 = jI w) ↔ (tkK b tl e = 1 ∧ tkW b tl e = w) := by
  obtain ⟨k6, -, -, k9, -⟩ := hk
  have kb := tkK_b b tl e
  have wb := tkW_b b he
  rw [k6, k9, cl1, iI_eq (by omega) (by omega) (by omega) (by omega), jI_eq (by omega) (by omega) (by omega) (by omega)]
theorem c_sign (hX : CX M b tl) (he : e ≤ tl) (hk : CTk M b tl e) : wordIs M 5 ↔ (tkK b tl e = 3 ∧ tkV b tl e = 59) := by
  obtain ⟨k2, k3, k4⟩ := hk
  obtain ⟨q1, q2, q3, q4, q5⟩ := tkE_s b he
  have t1 := hX.1
  have kb := tkK_b b tl e
  have n5 : sxN 5 = 1 := by decide
  have b5 : sxB 5 0 = iI 59 := by decide
  have k0 : (iI (tkK b tl e) = (0 : Int32)) ↔ tkK b tl e = 0 := by rw [cl0, iI_eq (by omega) (by omega) (by omega) (by omega)]
  have kl : (iI ((tkE b tl e : Nat) : Int) - iI ((tkS b tl e : Nat) : Int) = Int32.ofNat 1) ↔ tkE b tl e - tkS b tl e = 1 := by rw [show Int32.ofNat 1 = iI 1 by decide, iI_sub, iI_eq (by omega) (by omega) (by omega) (by omega)]; omega
  have rdb : tkS b tl e < tl → ((M.1 501 (Int32.toNatClampNeg (iI ((tkS b tl e : Nat) : Int) + Int32.ofNat 0)) = sxB 5 0) ↔ b (tkS b tl e) = 59) := fun hl => by
    obtain ⟨z1, z2⟩ := hX.2.2 _ hl
    have sbb : -128 ≤ sb (b (tkS b tl e)) ∧ sb (b (tkS b tl e)) < 128 ∧ (b (tkS b tl e) < 128 → sb (b (tkS b tl e)) = b (tkS b tl e)) ∧ (128 ≤ b (tkS b tl e) → sb (b (tkS b tl e)) < 0) := by unfold sb; split <;> omega
    rw [show Int32.ofNat 0 = iI 0 by decide, iI_add, natk (n := tkS b tl e) (by omega) (by omega), z2, b5, iI_eq (by omega) (by omega) (by omega) (by omega)]
    omega
  unfold wordIs
  rw [k2, k4, k3, n5, k0, kl]
  constructor
  · rintro ⟨u1, u2, u3⟩
    have sl : tkS b tl e < tl := by omega
    have eb := (rdb sl).mp (u3 0 (by omega))
    have eK : tkK b tl e = kd (b (tkS b tl e)) := if_pos sl
    have k3' : tkK b tl e = 3 := by rw [eK, eb]; decide
    refine ⟨k3', ?_⟩
    unfold tkV chv
    rw [if_neg (by omega), if_pos sl]
    exact eb
  · rintro ⟨u1, u2⟩
    obtain ⟨a1, a2⟩ := q4 u1
    unfold tkV chv at u2
    rw [if_neg (by omega), if_pos a2] at u2
    refine ⟨by omega, by omega, fun k hk => ?_⟩
    rw [show k = 0 by omega]
    exact (rdb a2).mpr u2
end P98
