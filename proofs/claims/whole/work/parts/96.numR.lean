/-! a number wanted: the reference; words told as numbers -/
section P96
variable {M : Mm} {b : Nat → Int} {tl e : Nat} {lo hi : Int}
theorem tkV_b (hb : ∀ j, j < tl → 0 ≤ b j ∧ b j < 256) (he : e ≤ tl) : -1 ≤ tkV b tl e ∧ tkV b tl e ≤ 999 := by
  obtain ⟨q1, q2, q3, q4, q5⟩ := tkE_s b he
  unfold tkV
  by_cases c : tkK b tl e = 2
  · rw [if_pos c]
    obtain ⟨a1, a2, a3⟩ := q3 2 (Or.inr rfl) c
    unfold ncv
    by_cases d : tkE b tl e - tkS b tl e ≤ 3
    · rw [if_pos d]
      obtain ⟨n, hn⟩ : ∃ n, n = tkE b tl e - tkS b tl e := ⟨_, rfl⟩
      have nb := ncd_b (b := b) (s := tkS b tl e) n (fun j h1 h2 => a2 j h1 (by omega))
      rw [← hn] at d ⊢
      have p3 : (10 : Int) ^ n ≤ 1000 := by
        rcases Nat.lt_or_ge n 1 with q | q
        · rw [show n = 0 by omega]; decide
        · rcases Nat.lt_or_ge n 2 with q' | q'
          · rw [show n = 1 by omega]; decide
          · rcases Nat.lt_or_ge n 3 with q'' | q''
            · rw [show n = 2 by omega]; decide
            · rw [show n = 3 by omega]; decide
      generalize (10 : Int) ^ n = pw at nb p3
      omega
    · rw [if_neg d]; omega
  · rw [if_neg c]
    unfold chv
    by_cases d : tkS b tl e < tl
    · have := hb _ d
      rw [if_pos d]; omega
    · rw [if_neg d]; omega
theorem r_wnum (hb : ∀ j, j < tl → 0 ≤ b j ∧ b j < 256) (he : e ≤ tl) (hk : RTk M b tl e) (hl : 0 ≤ lo ∧ lo ≤ 1000) (hh : -1 ≤ hi ∧ hi ≤ 1000) :
    r_X8_wantNumber M (iI lo) (iI hi) = iI (tkV b tl e) ∧ (M.1 600 21 = 1 → numOk b tl e lo hi → (p_X8_advance (wi M 600 21 1) → p_X8_wantNumber M (iI lo) (iI hi)) ∧ w_X8_wantNumber M (iI lo) (iI hi) = w_X8_advance (wi M 600 21 1)) ∧ (M.1 600 21 = 0 ∨ (M.1 600 21 = 1 ∧ ¬ numOk b tl e lo hi) → p_X8_wantNumber M (iI lo) (iI hi) ∧ w_X8_wantNumber M (iI lo) (iI hi) = wi M 600 21 0) := by
  obtain ⟨k6, -, -, -, k0⟩ := hk
  have kb := tkK_b b tl e
  have vb := tkV_b hb he
  have kk : (iI (tkK b tl e) = (2 : Int32)) ↔ tkK b tl e = 2 := by rw [cl2, iI_eq (by omega) (by omega) (by omega) (by omega)]
  have kr : (iI lo ≤ iI (tkV b tl e) ∧ iI (tkV b tl e) ≤ iI hi) ↔ (lo ≤ tkV b tl e ∧ tkV b tl e ≤ hi) := by rw [iI_le (by omega) (by omega) (by omega) (by omega), iI_le (by omega) (by omega) (by omega) (by omega)]
  have w0 : (wi M 600 21 0).1 600 21 = 0 := rd_same ..
  have w1 : ¬ (wi M 600 21 1).1 600 21 = 0 := by rw [rd_same]; decide
  unfold p_X8_wantNumber r_X8_wantNumber w_X8_wantNumber r_X8_wantNumber_38
  rw [k6, k0]
  refine ⟨by split <;> (try split) <;> (try split) <;> rfl, fun f h => ?_, fun h => ?_⟩
  · have g0 : ¬ M.1 600 21 = 0 := by rw [f]; decide
    have g2 := not_not_intro (kk.mpr h.1)
    have g3 := b2i_1.mpr (kr.mpr h.2)
    unfold p_X8_wantNumber_38 w_X8_wantNumber_38
    rw [if_neg g0, if_neg g0, if_neg g2, if_neg g2, if_neg g3, if_neg g3, if_neg w1, if_neg w1]
    exact ⟨fun u => ⟨u, trivial⟩, rfl⟩
  · unfold p_X8_wantNumber_38 w_X8_wantNumber_38
    rw [if_pos w0, if_pos w0]
    by_cases g0 : M.1 600 21 = 0
    · rw [if_pos g0, if_pos g0]
      exact ⟨trivial, rfl⟩
    · rw [if_neg g0, if_neg g0]
      have no := (h.resolve_left g0).2
      by_cases c : tkK b tl e = 2
      · have g2 := not_not_intro (kk.mpr c)
        have g3 := b2i_0.mpr (fun u => no ⟨c, kr.mp u⟩)
        rw [if_neg g2, if_neg g2, if_pos g3, if_pos g3]
        exact ⟨trivial, rfl⟩
      · have g2 : ¬ iI (tkK b tl e) = 2 := fun u => c (kk.mp u)
        rw [if_pos g2, if_pos g2]
        exact ⟨trivial, rfl⟩
theorem wcd_p {b : Nat → Int} {s : Nat} : ∀ n, (∀ j, j < n → 97 ≤ b (s + j) ∧ b (s + j) ≤ 122) → 0 ≤ wcd b s n ∧ (0 < n → 0 < wcd b s n)
  | 0, _ => ⟨Int.le_refl 0, fun h => absurd h (Nat.lt_irrefl 0)⟩
  | n + 1, h => by
    have ih := wcd_p n (fun j hj => h j (by omega))
    have := h n (by omega)
    show 0 ≤ 27 * wcd b s n + b (s + n) - 96 ∧ (0 < n + 1 → 0 < 27 * wcd b s n + b (s + n) - 96)
    omega
theorem wcd_inj {b c : Nat → Int} {s t : Nat} : ∀ n m, (∀ j, j < n → 97 ≤ b (s + j) ∧ b (s + j) ≤ 122) → (∀ j, j < m → 97 ≤ c (t + j) ∧ c (t + j) ≤ 122) → wcd b s n = wcd c t m → n = m ∧ ∀ j, j < n → b (s + j) = c (t + j)
  | 0, 0, _, _, _ => ⟨rfl, fun j h => absurd h (Nat.not_lt_zero j)⟩
  | 0, m + 1, _, h2, e => by
    have := (wcd_p (m + 1) h2).2 (by omega)
    have e' : (0 : Int) = wcd c t (m + 1) := e
    omega
  | n + 1, 0, h1, _, e => by
    have := (wcd_p (n + 1) h1).2 (by omega)
    have e' : wcd b s (n + 1) = 0 := e
    omega
  | n + 1, m + 1, h1, h2, e => by
    have e' : 27 * wcd b s n + b (s + n) - 96 = 27 * wcd c t m + c (t + m) - 96 := e
    have a1 := h1 n (by omega)
    have a2 := h2 m (by omega)
    obtain ⟨i1, i2⟩ := wcd_inj n m (fun j hj => h1 j (by omega)) (fun j hj => h2 j (by omega)) (by omega)
    have eb : b (s + n) = c (t + m) := by omega
    refine ⟨by omega, fun j hj => ?_⟩
    by_cases q : j = n
    · rw [q, eb, i1]
    · exact i2 j (by omega)
end P96
