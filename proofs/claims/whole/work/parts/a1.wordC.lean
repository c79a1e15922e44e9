/-! a word wanted: the class -/
section PA1
variable {M : Mm} {b : Nat → Int} {tl e : Nat}
theorem p_isW {i : Nat} (hi : i < 17) (hX : CX M b tl) (he : e ≤ tl) (hk : CTk M b tl e) : p_X4_isWord M i := by
  obtain ⟨k2, k3, k4⟩ := hk
  obtain ⟨q1, q2, q3, q4, q5⟩ := tkE_s b he
  have t1 := hX.1
  obtain ⟨x1, x2, -, x4⟩ := sxN_le i hi
  have eN : Int32.ofNat (sxN i) = iI ((sxN i : Nat) : Int) := by rw [← Int32.toInt_inj, x1, iI_toInt (by omega) (by omega)]
  intro _ u k hk
  rw [k4, k3, eN, iI_sub, iI_eq (by omega) (by omega) (by omega) (by omega)] at u
  rw [k3, show Int32.ofNat k = iI ((k : Nat) : Int) from rfl, iI_add]
  exact vin_iI (by omega) (by omega) (by omega)
theorem c_wd5 (hX : CX M b tl) (he : e ≤ tl) (hk : CTk M b tl e) : (M.1 500 5 = -1 → (tkK b tl e = 3 ∧ tkV b tl e = 59) → (p_X4_advance M → p_X4_readWord_5 M) ∧ w_X4_readWord_5 M = w_X4_advance M) ∧ (M.1 500 5 = -1 → ¬ (tkK b tl e = 3 ∧ tkV b tl e = 59) → p_X4_readWord_5 M ∧ w_X4_readWord_5 M = wi M 500 5 (iI ((tkS b tl e : Nat) : Int))) ∧ (0 ≤ M.1 500 5 → p_X4_readWord_5 M ∧ w_X4_readWord_5 M = M) := by
  have c := c_sign hX he hk
  have pw := p_isW (i := 5) (by omega) hX he hk
  unfold p_X4_readWord_5 w_X4_readWord_5 w_X4_fail
  refine ⟨fun f h => ?_, fun f h => ?_, fun f => ?_⟩
  · have g0 : ¬ 0 ≤ M.1 500 5 := by rw [f]; decide
    have g : ¬ r_X4_isWord M 5 = 0 := by rw [r_isWord_t (c.mpr h)]; decide
    rw [if_neg g0, if_neg g0, if_neg g, if_neg g]
    exact ⟨fun u => ⟨pw, u, trivial⟩, rfl⟩
  · have g0 : ¬ 0 ≤ M.1 500 5 := by rw [f]; decide
    have g := r_isWord_f (fun u => h (c.mp u))
    rw [if_neg g0, if_neg g0, if_pos g, if_pos g, if_neg g0, hk.2.1]
    exact ⟨⟨pw, trivial⟩, rfl⟩
  · rw [if_pos f, if_pos f, if_pos f]
    exact ⟨trivial, rfl⟩
theorem c_wd12 (hX : CX M b tl) (he : e ≤ tl) (hk : CTk M b tl e) : (M.1 500 5 = -1 → (tkK b tl e = 1 ∧ tkW b tl e = wdv 12) → (p_X4_advance M → p_X4_readWord_12 M) ∧ w_X4_readWord_12 M = w_X4_advance M) ∧ (M.1 500 5 = -1 → ¬ (tkK b tl e = 1 ∧ tkW b tl e = wdv 12) → p_X4_readWord_12 M ∧ w_X4_readWord_12 M = wi M 500 5 (iI ((tkS b tl e : Nat) : Int))) ∧ (0 ≤ M.1 500 5 → p_X4_readWord_12 M ∧ w_X4_readWord_12 M = M) := by
  have c := c_word (i := 12) (by omega) (by omega) hX he hk
  have pw := p_isW (i := 12) (by omega) hX he hk
  unfold p_X4_readWord_12 w_X4_readWord_12 w_X4_fail
  refine ⟨fun f h => ?_, fun f h => ?_, fun f => ?_⟩
  · have g0 : ¬ 0 ≤ M.1 500 5 := by rw [f]; decide
    have g : ¬ r_X4_isWord M 12 = 0 := by rw [r_isWord_t (c.mpr h)]; decide
    rw [if_neg g0, if_neg g0, if_neg g, if_neg g]
    exact ⟨fun u => ⟨pw, u, trivial⟩, rfl⟩
  · have g0 : ¬ 0 ≤ M.1 500 5 := by rw [f]; decide
    have g := r_isWord_f (fun u => h (c.mp u))
    rw [if_neg g0, if_neg g0, if_pos g, if_pos g, if_neg g0, hk.2.1]
    exact ⟨⟨pw, trivial⟩, rfl⟩
  · rw [if_pos f, if_pos f, if_pos f]
    exact ⟨trivial, rfl⟩
theorem c_wd13 (hX : CX M b tl) (he : e ≤ tl) (hk : CTk M b tl e) : (M.1 500 5 = -1 → (tkK b tl e = 1 ∧ tkW b tl e = wdv 13) → (p_X4_advance M → p_X4_readWord_13 M) ∧ w_X4_readWord_13 M = w_X4_advance M) ∧ (M.1 500 5 = -1 → ¬ (tkK b tl e = 1 ∧ tkW b tl e = wdv 13) → p_X4_readWord_13 M ∧ w_X4_readWord_13 M = wi M 500 5 (iI ((tkS b tl e : Nat) : Int))) ∧ (0 ≤ M.1 500 5 → p_X4_readWord_13 M ∧ w_X4_readWord_13 M = M) := by
  have c := c_word (i := 13) (by omega) (by omega) hX he hk
  have pw := p_isW (i := 13) (by omega) hX he hk
  unfold p_X4_readWord_13 w_X4_readWord_13 w_X4_fail
  refine ⟨fun f h => ?_, fun f h => ?_, fun f => ?_⟩
  · have g0 : ¬ 0 ≤ M.1 500 5 := by rw [f]; decide
    have g : ¬ r_X4_isWord M 13 = 0 := by rw [r_isWord_t (c.mpr h)]; decide
    rw [if_neg g0, if_neg g0, if_neg g, if_neg g]
    exact ⟨fun u => ⟨pw, u, trivial⟩, rfl⟩
  · have g0 : ¬ 0 ≤ M.1 500 5 := by rw [f]; decide
    have g := r_isWord_f (fun u => h (c.mp u))
    rw [if_neg g0, if_neg g0, if_pos g, if_pos g, if_neg g0, hk.2.1]
    exact ⟨⟨pw, trivial⟩, rfl⟩
  · rw [if_pos f, if_pos f, if_pos f]
    exact ⟨trivial, rfl⟩
theorem c_wd14 (hX : CX M b tl) (he : e ≤ tl) (hk : CTk M b tl e) : (M.1 500 5 = -1 → (tkK b tl e = 1 ∧ tkW b tl e = wdv 14) → (p_X4_advance M → p_X4_readWord_14 M) ∧ w_X4_readWord_14 M = w_X4_advance M) ∧ (M.1 500 5 = -1 → ¬ (tkK b tl e = 1 ∧ tkW b tl e = wdv 14) → p_X4_readWord_14 M ∧ w_X4_readWord_14 M = wi M 500 5 (iI ((tkS b tl e : Nat) : Int))) ∧ (0 ≤ M.1 500 5 → p_X4_readWord_14 M ∧ w_X4_readWord_14 M = M) := by
  have c := c_word (i := 14) (by omega) (by omega) hX he hk
  have pw := p_isW (i := 14) (by omega) hX he hk
  unfold p_X4_readWord_14 w_X4_readWord_14 w_X4_fail
  refine ⟨fun f h => ?_, fun f h => ?_, fun f => ?_⟩
  · have g0 : ¬ 0 ≤ M.1 500 5 := by rw [f]; decide
    have g : ¬ r_X4_isWord M 14 = 0 := by rw [r_isWord_t (c.mpr h)]; decide
    rw [if_neg g0, if_neg g0, if_neg g, if_neg g]
    exact ⟨fun u => ⟨pw, u, trivial⟩, rfl⟩
  · have g0 : ¬ 0 ≤ M.1 500 5 := by rw [f]; decide
    have g := r_isWord_f (fun u => h (c.mp u))
    rw [if_neg g0, if_neg g0, if_pos g, if_pos g, if_neg g0, hk.2.1]
    exact ⟨⟨pw, trivial⟩, rfl⟩
  · rw [if_pos f, if_pos f, if_pos f]
    exact ⟨trivial, rfl⟩
end PA1
