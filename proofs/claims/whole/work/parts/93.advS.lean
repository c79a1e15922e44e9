/-! tokens: the reference goes on -/
section P93
variable {M D : Mm} {b : Nat → Int} {tl e : Nat}
theorem r_207n (x1 : Int32) (h : ¬ M.1 600 16 = 2) : p_X8_advance_207 M x1 ∧ w_X8_advance_207 M x1 = M := by
  have nc : ¬ c_X8_advance_207 x1 (l_X8_advance_207 x1 M 0) := by
    show ¬ c_X8_advance_207 x1 M
    unfold c_X8_advance_207
    rw [if_pos h]
    exact fun u => u
  have cn : cntN (fun k => c_X8_advance_207 x1 (l_X8_advance_207 x1 M k)) 241 = 0 := cntN_eq (by omega) (fun k hk => absurd hk (Nat.not_lt_zero k)) nc
  have l0 : l_X8_advance_207 x1 M 0 = M := rfl
  unfold p_X8_advance_207 w_X8_advance_207
  rw [cn]
  rw [l0] at nc ⊢
  rw [if_pos h, if_pos h]
  exact ⟨⟨fun k hk => absurd hk (Nat.not_lt_zero k), fun k hk => absurd hk (Nat.not_lt_zero k), nc, trivial⟩, rfl⟩
theorem r_126n (x1 : Int32) (h : ¬ M.1 600 16 = 1) : (p_X8_advance_207 M x1 → p_X8_advance_126 M x1) ∧ w_X8_advance_126 M x1 = w_X8_advance_207 M x1 := by
  have nc : ¬ c_X8_advance_126 x1 (l_X8_advance_126 x1 M 0) := by
    show ¬ c_X8_advance_126 x1 M
    unfold c_X8_advance_126
    rw [if_pos h]
    exact fun u => u
  have cn : cntN (fun k => c_X8_advance_126 x1 (l_X8_advance_126 x1 M k)) 241 = 0 := cntN_eq (by omega) (fun k hk => absurd hk (Nat.not_lt_zero k)) nc
  have l0 : l_X8_advance_126 x1 M 0 = M := rfl
  unfold p_X8_advance_126 w_X8_advance_126
  rw [cn]
  rw [l0] at nc ⊢
  rw [if_pos h, if_pos h]
  exact ⟨fun u => ⟨fun k hk => absurd hk (Nat.not_lt_zero k), fun k hk => absurd hk (Nat.not_lt_zero k), nc, u⟩, rfl⟩
theorem r_tailW (x1 : Int32) {s s' : Nat} (hX : RX M b tl) (h6 : M.1 600 16 = 1) (h7 : M.1 600 17 = iI (s : Int)) (h8 : M.1 600 18 = iI (s : Int)) (h9 : M.2 600 19 = 0) (hs : s ≤ s' ∧ s' ≤ tl) (h1 : ∀ j, s ≤ j → j < s' → kd (b j) = 1) (h2 : s' = tl ∨ ¬ kd (b s') = 1) :
    p_X8_advance_126 M x1 ∧ (w_X8_advance_126 M x1).1 600 18 = iI (s' : Int) ∧ (w_X8_advance_126 M x1).2 600 19 = jI (wcv b s (s' - s)) ∧ Fq (fun a k => a = 600 ∧ k = 18) M (w_X8_advance_126 M x1) := by
  obtain ⟨N, n1, n2, n3, n4, n5, n6, n7, n8⟩ := r_word x1 hX h6 h7 h8 h9 hs h1 h2
  have cn : cntN (fun k => c_X8_advance_126 x1 (l_X8_advance_126 x1 M k)) 241 = N := cntN_eq (by omega) n2 n4
  have nc := n4
  unfold c_X8_advance_126 at nc
  unfold q_X8_advance_126 at n5
  unfold p_X8_advance_126 w_X8_advance_126
  rw [cn]
  generalize l_X8_advance_126 x1 M N = L at n4 n5 n6 n7 n8 nc ⊢
  have e6 : L.1 600 16 = 1 := by rw [n8.1 _ _ (by omega)]; exact h6
  have g : ¬ ¬ L.1 600 16 = 1 := not_not_intro e6
  obtain ⟨w1, w2⟩ := r_207n (M := L) x1 (by rw [e6]; decide)
  rw [if_neg g] at nc n5 ⊢
  rw [if_neg g]
  by_cases d : b2i (97 ≤ (if (L.1 600 18) < L.1 600 15 then L.1 609 (Int32.toNatClampNeg (L.1 600 18)) else -1) ∧ (if (L.1 600 18) < L.1 600 15 then L.1 609 (Int32.toNatClampNeg (L.1 600 18)) else -1) ≤ 122) = 0
  · rw [if_pos d, if_pos d, w2]
    exact ⟨⟨n2, n3, n4, n5.1, w1⟩, n6, n7, n8⟩
  · rw [if_neg d] at nc
    exact absurd trivial nc
theorem r_tailN (x1 : Int32) {s s' : Nat} (hX : RX M b tl) (h6 : M.1 600 16 = 2) (h7 : M.1 600 17 = iI (s : Int)) (h8 : M.1 600 18 = iI (s : Int)) (h9 : M.1 600 20 = 0) (hs : s ≤ s' ∧ s' ≤ tl) (h1 : ∀ j, s ≤ j → j < s' → kd (b j) = 2) (h2 : s' = tl ∨ ¬ kd (b s') = 2) :
    p_X8_advance_126 M x1 ∧ (w_X8_advance_126 M x1).1 600 18 = iI (s' : Int) ∧ (w_X8_advance_126 M x1).1 600 20 = iI (ncv b s (s' - s)) ∧ Fq (fun a k => a = 600 ∧ (k = 18 ∨ k = 20)) M (w_X8_advance_126 M x1) := by
  obtain ⟨o1, o2⟩ := r_126n (M := M) x1 (by rw [h6]; decide)
  rw [o2]
  obtain ⟨N, n1, n2, n3, n4, n5, n6, n7, n8⟩ := r_num x1 hX h6 h7 h8 h9 hs h1 h2
  have cn : cntN (fun k => c_X8_advance_207 x1 (l_X8_advance_207 x1 M k)) 241 = N := cntN_eq (by omega) n2 n4
  have nc := n4
  unfold c_X8_advance_207 at nc
  unfold q_X8_advance_207 at n5
  have pp : p_X8_advance_207 M x1 ∧ w_X8_advance_207 M x1 = l_X8_advance_207 x1 M N := by
    unfold p_X8_advance_207 w_X8_advance_207
    rw [cn]
    generalize l_X8_advance_207 x1 M N = L at n4 n5 n6 n7 n8 nc ⊢
    have e6 : L.1 600 16 = 2 := by rw [n8.1 _ _ (by omega)]; exact h6
    have g : ¬ ¬ L.1 600 16 = 2 := not_not_intro e6
    rw [if_neg g] at nc n5 ⊢
    rw [if_neg g]
    by_cases d : b2i (48 ≤ (if (L.1 600 18) < L.1 600 15 then L.1 609 (Int32.toNatClampNeg (L.1 600 18)) else -1) ∧ (if (L.1 600 18) < L.1 600 15 then L.1 609 (Int32.toNatClampNeg (L.1 600 18)) else -1) ≤ 57) = 0
    · rw [if_pos d, if_pos d]
      exact ⟨⟨n2, n3, n4, n5.1, trivial⟩, rfl⟩
    · rw [if_neg d] at nc
      exact absurd trivial nc
  rw [pp.2]
  exact ⟨o1 pp.1, n6, n7, n8⟩
theorem r_tail0 (x1 : Int32) (h1 : ¬ M.1 600 16 = 1) (h2 : ¬ M.1 600 16 = 2) : p_X8_advance_126 M x1 ∧ w_X8_advance_126 M x1 = M := by
  obtain ⟨o1, o2⟩ := r_126n (M := M) x1 h1
  obtain ⟨w1, w2⟩ := r_207n (M := M) x1 h2
  exact ⟨o1 w1, by rw [o2, w2]⟩
/-- what a token's word and value are -/
def tkW (b : Nat → Int) (tl e : Nat) : Int := if tkK b tl e = 1 then wcv b (tkS b tl e) (tkE b tl e - tkS b tl e) else 0
def tkV (b : Nat → Int) (tl e : Nat) : Int := if tkK b tl e = 2 then ncv b (tkS b tl e) (tkE b tl e - tkS b tl e) else chv b tl (tkS b tl e)
theorem tkE_s (b : Nat → Int) {tl e : Nat} (he : e ≤ tl) : tkS b tl e ≤ tkE b tl e ∧ tkE b tl e ≤ tl ∧ (∀ kk, kk = 1 ∨ kk = 2 → tkK b tl e = kk → tkS b tl e < tl ∧ (∀ j, tkS b tl e ≤ j → j < tkE b tl e → kd (b j) = kk) ∧ (tkE b tl e = tl ∨ ¬ kd (b (tkE b tl e)) = kk)) ∧ (tkK b tl e = 3 → tkE b tl e = tkS b tl e + 1 ∧ tkS b tl e < tl) ∧ (tkK b tl e = 0 → tkE b tl e = tkS b tl e) := by
  obtain ⟨s1, s2, -, -⟩ := rn_s (fun i => b i = 32) tl tl e he (by omega)
  change e ≤ tkS b tl e at s1
  change tkS b tl e ≤ tl at s2
  by_cases c : tkS b tl e < tl
  · have eK : tkK b tl e = kd (b (tkS b tl e)) := if_pos c
    have kb := kd_b (b (tkS b tl e))
    by_cases d : tkK b tl e = 3
    · have eE : tkE b tl e = tkS b tl e + 1 := by unfold tkE; rw [if_pos c, if_pos d]
      exact ⟨by omega, by omega, fun kk h h' => by omega, fun _ => ⟨eE, c⟩, fun h => by omega⟩
    · have eE : tkE b tl e = rn (fun i => kd (b i) = tkK b tl e) tl tl (tkS b tl e + 1) := by unfold tkE; rw [if_pos c, if_neg d]
      obtain ⟨q1, q2, q3, q4⟩ := rn_s (fun i => kd (b i) = tkK b tl e) tl tl (tkS b tl e + 1) (by omega) (by omega)
      rw [← eE] at q1 q2 q3 q4
      refine ⟨by omega, q2, fun kk h h' => ⟨c, fun j h1 h2 => ?_, ?_⟩, fun h => absurd h d, fun h => by omega⟩
      · by_cases q : j = tkS b tl e
        · rw [q, ← eK]; exact h'
        · rw [← h']; exact q3 j (by omega) h2
      · rw [← h']; exact q4
  · have eK : tkK b tl e = 0 := if_neg c
    have eE : tkE b tl e = tkS b tl e := if_neg c
    exact ⟨by omega, by omega, fun kk h h' => by omega, fun h => by omega, fun _ => eE⟩
end P93
