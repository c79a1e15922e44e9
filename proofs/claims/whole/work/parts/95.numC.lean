/-! a number wanted: the class -/
def CTk (M : Mm) (b : Nat → Int) (tl e : Nat) : Prop := M.1 500 2 = iI (tkK b tl e) ∧ M.1 500 3 = iI ((tkS b tl e : Nat) : Int) ∧ M.1 500 4 = iI ((tkE b tl e : Nat) : Int)
def numOk (b : Nat → Int) (tl e : Nat) (lo hi : Int) : Prop := tkK b tl e = 2 ∧ lo ≤ tkV b tl e ∧ tkV b tl e ≤ hi
theorem kd2 (z : Int) : (kd z = 2) ↔ (48 ≤ z ∧ z ≤ 57) := by
  unfold kd
  by_cases c : 97 ≤ z ∧ z ≤ 122
  · rw [if_pos c]; exact ⟨fun u => absurd u (by decide), fun u => by omega⟩
  · rw [if_neg c]
    by_cases d : 48 ≤ z ∧ z ≤ 57
    · rw [if_pos d]; exact ⟨fun _ => d, fun _ => rfl⟩
    · rw [if_neg d]; exact ⟨fun u => absurd u (by decide), fun u => absurd u d⟩
theorem ncd_b {b : Nat → Int} {s : Nat} : ∀ k, (∀ j, s ≤ j → j < s + k → kd (b j) = 2) → 0 ≤ ncd b s k ∧ ncd b s k ≤ 10 ^ k - 1
  | 0, _ => by show (0 : Int) ≤ 0 ∧ (0 : Int) ≤ 10 ^ 0 - 1; decide
  | k + 1, h => by
    have ih := ncd_b k (fun j h1 h2 => h j h1 (by omega))
    have d := (kd2 _).mp (h (s + k) (by omega) (by omega))
    show 0 ≤ 10 * ncd b s k + b (s + k) - 48 ∧ 10 * ncd b s k + b (s + k) - 48 ≤ 10 ^ (k + 1) - 1
    rw [Int.pow_succ]
    omega
section P95
variable {M : Mm} {b : Nat → Int} {tl e : Nat} {lo hi : Int}
theorem c_num (hX : CX M b tl) (he : e ≤ tl) (hk : CTk M b tl e) (h5 : M.1 500 5 = -1) (hl : 0 ≤ lo ∧ lo ≤ 1000) (hh : -1 ≤ hi ∧ hi ≤ 1000) :
    (numOk b tl e lo hi → p_X4_advance M → p_X4_readNumber M (iI lo) (iI hi)) ∧ (numOk b tl e lo hi → r_X4_readNumber M (iI lo) (iI hi) = iI (tkV b tl e) ∧ w_X4_readNumber M (iI lo) (iI hi) = w_X4_advance M) ∧ (¬ numOk b tl e lo hi → p_X4_readNumber M (iI lo) (iI hi) ∧ r_X4_readNumber M (iI lo) (iI hi) = iI lo ∧ w_X4_readNumber M (iI lo) (iI hi) = wi M 500 5 (iI ((tkS b tl e : Nat) : Int))) := by
  obtain ⟨k2, k3, k4⟩ := hk
  obtain ⟨q1, q2, q3, q4, q5⟩ := tkE_s b he
  have t1 := hX.1
  have kb := tkK_b b tl e
  have f5 : ¬ 0 ≤ M.1 500 5 := by rw [h5]; decide
  have wf : w_X4_fail M = wi M 500 5 (iI ((tkS b tl e : Nat) : Int)) := by unfold w_X4_fail; rw [if_neg f5, k3]
  have kk : (iI (tkK b tl e) = (2 : Int32)) ↔ tkK b tl e = 2 := by rw [cl2, iI_eq (by omega) (by omega) (by omega) (by omega)]
  unfold p_X4_readNumber r_X4_readNumber w_X4_readNumber
  rw [if_neg f5, if_neg f5, if_neg f5, k2, k3, k4, wf]
  by_cases c : tkK b tl e = 2
  · obtain ⟨a1, a2, a3⟩ := q3 2 (Or.inr rfl) c
    have g := not_not_intro (kk.mpr c)
    rw [if_neg g, if_neg g, if_neg g, iI_sub]
    obtain ⟨n, hn⟩ : ∃ n, n = tkE b tl e - tkS b tl e := ⟨_, rfl⟩
    have kn : (iI (((tkE b tl e : Nat) : Int) - ((tkS b tl e : Nat) : Int)) ≤ (3 : Int32)) ↔ n ≤ 3 := by rw [cl3, iI_le (by omega) (by omega) (by omega) (by omega)]; omega
    have eV : tkV b tl e = ncv b (tkS b tl e) n := by unfold tkV; rw [if_pos c, hn]
    by_cases d : n ≤ 3
    · rw [if_pos (kn.mpr d), if_pos (kn.mpr d), if_pos (kn.mpr d)]
      have eV' : tkV b tl e = ncd b (tkS b tl e) n := by rw [eV]; exact if_pos d
      have step : ∀ k : Nat, k < n → c_X4_readNumber_42 M (iI lo) (iI hi) (iI (ncd b (tkS b tl e) k), iI ((tkS b tl e + k : Nat) : Int)) ∧ q_X4_readNumber_42 M (iI lo) (iI hi) (iI (ncd b (tkS b tl e) k), iI ((tkS b tl e + k : Nat) : Int)) ∧ s_X4_readNumber_42 M (iI lo) (iI hi) (iI (ncd b (tkS b tl e) k), iI ((tkS b tl e + k : Nat) : Int)) = (iI (ncd b (tkS b tl e) (k + 1)), iI ((tkS b tl e + (k + 1) : Nat) : Int)) := by
        intro k hk
        have g4 : ¬ iI ((tkE b tl e : Nat) : Int) ≤ iI ((tkS b tl e + k : Nat) : Int) := by rw [iI_le (by omega) (by omega) (by omega) (by omega)]; omega
        have nk : Int32.toNatClampNeg (iI ((tkS b tl e + k : Nat) : Int)) = tkS b tl e + k := natk rfl (by omega)
        have vk : vp_in (iI ((tkS b tl e + k : Nat) : Int)) 240 := vin_iI (by omega) (by omega) (by omega)
        obtain ⟨z1, z2⟩ := hX.2.2 (tkS b tl e + k) (by omega)
        have dg := (kd2 _).mp (a2 (tkS b tl e + k) (by omega) (by omega))
        have es : sb (b (tkS b tl e + k)) = b (tkS b tl e + k) := if_pos (by omega)
        unfold c_X4_readNumber_42 q_X4_readNumber_42 s_X4_readNumber_42
        dsimp only
        rw [k4, if_neg g4, if_neg g4, if_neg g4, nk, z2, es, k1_iI, show (10 : Int32) = iI 10 by decide, show (48 : Int32) = iI 48 by decide, iI_mul, iI_add, iI_sub]
        refine ⟨trivial, ⟨vk, trivial⟩, Prod.ext ?_ rfl⟩
        show iI _ = iI (10 * ncd b (tkS b tl e) k + b (tkS b tl e + k) - 48)
        congr 1
        omega
      have key : ∀ k : Nat, k ≤ n → l_X4_readNumber_42 M (iI lo) (iI hi) (0, iI ((tkS b tl e : Nat) : Int)) k = (iI (ncd b (tkS b tl e) k), iI ((tkS b tl e + k : Nat) : Int)) := by
        intro k
        induction k with
        | zero => intro _; rfl
        | succ k ih =>
          intro hk
          show s_X4_readNumber_42 M (iI lo) (iI hi) (l_X4_readNumber_42 M (iI lo) (iI hi) (0, iI ((tkS b tl e : Nat) : Int)) k) = _
          rw [ih (by omega)]; exact (step k (by omega)).2.2
      have last := key n (Nat.le_refl _)
      have ee : tkS b tl e + n = tkE b tl e := by omega
      rw [ee] at last
      have gE : iI ((tkE b tl e : Nat) : Int) ≤ iI ((tkE b tl e : Nat) : Int) := Int32.le_refl _
      have nc : ¬ c_X4_readNumber_42 M (iI lo) (iI hi) (l_X4_readNumber_42 M (iI lo) (iI hi) (0, iI ((tkS b tl e : Nat) : Int)) n) := by
        rw [last]
        unfold c_X4_readNumber_42
        dsimp only
        rw [k4, if_pos gE]
        exact fun h => h
      have cs : ∀ k, k < n → c_X4_readNumber_42 M (iI lo) (iI hi) (l_X4_readNumber_42 M (iI lo) (iI hi) (0, iI ((tkS b tl e : Nat) : Int)) k) := fun k hk => by rw [key k (by omega)]; exact (step k hk).1
      have qs : ∀ k, k < n → q_X4_readNumber_42 M (iI lo) (iI hi) (l_X4_readNumber_42 M (iI lo) (iI hi) (0, iI ((tkS b tl e : Nat) : Int)) k) := fun k hk => by rw [key k (by omega)]; exact (step k hk).2.1
      have cn : cntN (fun k => c_X4_readNumber_42 M (iI lo) (iI hi) (l_X4_readNumber_42 M (iI lo) (iI hi) (0, iI ((tkS b tl e : Nat) : Int)) k)) 4 = n := cntN_eq (by omega) cs nc
      rw [cn]
      rw [last] at nc ⊢
      dsimp only
      rw [if_pos gE, if_pos gE, if_pos gE, ← eV']
      have nb := ncd_b (b := b) (s := tkS b tl e) n (fun j h1 h2 => a2 j h1 (by omega))
      have p3 : (10 : Int) ^ n ≤ 1000 := by
        rcases Nat.lt_or_ge n 1 with q | q
        · rw [show n = 0 by omega]; decide
        · rcases Nat.lt_or_ge n 2 with q' | q'
          · rw [show n = 1 by omega]; decide
          · rcases Nat.lt_or_ge n 3 with q'' | q''
            · rw [show n = 2 by omega]; decide
            · rw [show n = 3 by omega]; decide
      rw [← eV'] at nb
      generalize (10 : Int) ^ n = pw at nb p3
      have u1 : (iI (tkV b tl e) < iI lo) ↔ tkV b tl e < lo := by rw [iI_lt (by omega) (by omega) (by omega) (by omega)]
      have u2 : (iI (tkV b tl e) ≤ iI hi) ↔ tkV b tl e ≤ hi := by rw [iI_le (by omega) (by omega) (by omega) (by omega)]
      by_cases v1 : tkV b tl e < lo
      · have no : ¬ numOk b tl e lo hi := fun h => by have := h.2.1; omega
        rw [if_pos (u1.mpr v1), if_pos (u1.mpr v1), if_pos (u1.mpr v1)]
        exact ⟨fun h => absurd h no, fun h => absurd h no, fun _ => ⟨⟨cs, qs, nc, trivial⟩, rfl, rfl⟩⟩
      · have g1 : ¬ iI (tkV b tl e) < iI lo := fun u => v1 (u1.mp u)
        rw [if_neg g1, if_neg g1, if_neg g1]
        by_cases v2 : tkV b tl e ≤ hi
        · have ok : numOk b tl e lo hi := ⟨c, by omega, v2⟩
          rw [if_pos (u2.mpr v2), if_pos (u2.mpr v2), if_pos (u2.mpr v2)]
          exact ⟨fun _ hp => ⟨cs, qs, nc, hp, trivial⟩, fun _ => ⟨rfl, rfl⟩, fun h => absurd ok h⟩
        · have no : ¬ numOk b tl e lo hi := fun h => v2 h.2.2
          have g2 : ¬ iI (tkV b tl e) ≤ iI hi := fun u => v2 (u2.mp u)
          rw [if_neg g2, if_neg g2, if_neg g2]
          exact ⟨fun h => absurd h no, fun h => absurd h no, fun _ => ⟨⟨cs, qs, nc, trivial⟩, rfl, rfl⟩⟩
    · have gn : ¬ iI (((tkE b tl e : Nat) : Int) - ((tkS b tl e : Nat) : Int)) ≤ 3 := fun u => d (kn.mp u)
      have no : ¬ numOk b tl e lo hi := fun h => by
        have := h.2.1
        rw [eV] at this
        unfold ncv at this
        rw [if_neg d] at this
        omega
      rw [if_neg gn, if_neg gn, if_neg gn]
      exact ⟨fun h => absurd h no, fun h => absurd h no, fun _ => ⟨trivial, rfl, rfl⟩⟩
  · have g : ¬ iI (tkK b tl e) = 2 := fun u => c (kk.mp u)
    have no : ¬ numOk b tl e lo hi := fun h => c h.1
    rw [if_pos g, if_pos g, if_pos g]
    exact ⟨fun h => absurd h no, fun h => absurd h no, fun _ => ⟨trivial, rfl, rfl⟩⟩
end P95
