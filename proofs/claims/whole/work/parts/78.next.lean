/-! the next order: the reference's own -/
theorem pv_s (a : Nat → Nat) : ∀ n, pv a n ≤ n ∧ (∀ i, pv a n ≤ i → i < n → ¬ a i ≤ a (i + 1)) ∧ (pv a n ≠ 0 → a (pv a n - 1) ≤ a (pv a n - 1 + 1))
  | 0 => ⟨Nat.le_refl 0, fun i _ h => absurd h (Nat.not_lt_zero i), fun h => absurd rfl h⟩
  | n + 1 => by
    show (if a n ≤ a (n + 1) then n + 1 else pv a n) ≤ n + 1 ∧ (∀ i, (if a n ≤ a (n + 1) then n + 1 else pv a n) ≤ i → i < n + 1 → ¬ a i ≤ a (i + 1)) ∧ ((if a n ≤ a (n + 1) then n + 1 else pv a n) ≠ 0 → a ((if a n ≤ a (n + 1) then n + 1 else pv a n) - 1) ≤ a ((if a n ≤ a (n + 1) then n + 1 else pv a n) - 1 + 1))
    obtain ⟨h1, h2, h3⟩ := pv_s a n
    by_cases c : a n ≤ a (n + 1)
    · rw [if_pos c]
      exact ⟨Nat.le_refl _, fun i h h' => by omega, fun _ => c⟩
    · rw [if_neg c]
      refine ⟨by omega, fun i h h' => ?_, h3⟩
      by_cases q : i = n
      · rw [q]; exact c
      · exact h2 i h (by omega)
theorem sc_s (a : Nat → Nat) (x : Nat) : ∀ n i, i < n → x ≤ a i → sc a x n < n ∧ i ≤ sc a x n ∧ x ≤ a (sc a x n) ∧ ∀ j, sc a x n < j → j < n → ¬ x ≤ a j
  | 0, i, h, _ => absurd h (Nat.not_lt_zero i)
  | n + 1, i, h, hx => by
    show (if x ≤ a n then n else sc a x n) < n + 1 ∧ i ≤ (if x ≤ a n then n else sc a x n) ∧ x ≤ a (if x ≤ a n then n else sc a x n) ∧ ∀ j, (if x ≤ a n then n else sc a x n) < j → j < n + 1 → ¬ x ≤ a j
    by_cases c : x ≤ a n
    · rw [if_pos c]
      exact ⟨by omega, by omega, c, fun j h h' => by omega⟩
    · rw [if_neg c]
      have q : i ≠ n := fun e => c (by rw [← e]; exact hx)
      obtain ⟨h1, h2, h3, h4⟩ := sc_s a x n i (by omega) hx
      refine ⟨by omega, h2, h3, fun j h h' => ?_⟩
      by_cases q : j = n
      · rw [q]; exact c
      · exact h4 j h (by omega)
theorem sw_lt {a : Nat → Nat} {i j len : Nat} (hi : i < len) (hj : j < len) (h : ∀ k, k < len → a k < 8) : ∀ k, k < len → sw a i j k < 8 := fun k hk => by
  unfold sw
  split
  · exact h i hi
  · split
    · exact h j hj
    · exact h k hk
section P78
variable {M : Mm} {a : Nat → Nat} {len : Nat}
theorem r_swaps {i j : Nat} (hi : i < len) (hj : j < len) (hl : len ≤ 6) (h : ∀ k, k < len → M.1 614 k = iI ((a k : Nat) : Int)) : p_X8_swaps M (iI (i : Int)) (iI (j : Int)) ∧ (∀ k, k < len → (w_X8_swaps M (iI (i : Int)) (iI (j : Int))).1 614 k = iI ((sw a i j k : Nat) : Int)) ∧ Fq (fun a k => a = 614 ∧ k < len) M (w_X8_swaps M (iI (i : Int)) (iI (j : Int))) := by
  have ni : Int32.toNatClampNeg (iI (i : Int)) = i := natk rfl (by omega)
  have nj : Int32.toNatClampNeg (iI (j : Int)) = j := natk rfl (by omega)
  have vi : vp_in (iI (i : Int)) 6 := vin_iI (by omega) (by omega) (by omega)
  have vj : vp_in (iI (j : Int)) 6 := vin_iI (by omega) (by omega) (by omega)
  unfold p_X8_swaps w_X8_swaps
  rw [ni, nj]
  refine ⟨⟨vi, vj, vi, vj, trivial⟩, fun k hk => ?_, Fq.wi (Fq.wi Fq.rf (by omega)) (by omega)⟩
  unfold sw
  by_cases c : k = j
  · rw [if_pos c, c, rd_same]; exact h i hi
  · rw [if_neg c, rd_ne (Or.inr c)]
    by_cases d : k = i
    · rw [if_pos d, d, rd_same]; exact h j hj
    · rw [if_neg d, rd_ne (Or.inr d)]; exact h k hk
theorem l73_s (a1 x3 : Int32) (σ : Mm × Int32 × Int32) : ∀ k, l_X8_nextOrder_73 a1 x3 (s_X8_nextOrder_73 a1 x3 σ) k = l_X8_nextOrder_73 a1 x3 σ (k + 1)
  | 0 => rfl
  | k + 1 => by
    show s_X8_nextOrder_73 a1 x3 (l_X8_nextOrder_73 a1 x3 (s_X8_nextOrder_73 a1 x3 σ) k) = s_X8_nextOrder_73 a1 x3 (l_X8_nextOrder_73 a1 x3 σ (k + 1))
    rw [l73_s a1 x3 σ k]
theorem r_rev (a1 x3 : Int32) (hl : len ≤ 6) : ∀ (f : Nat) (M : Mm) (a : Nat → Nat) (lo hi : Nat), hi < len → hi ≤ lo + f → (∀ k, k < len → M.1 614 k = iI ((a k : Nat) : Int)) → lo < 6 →
    ∃ N, N ≤ f ∧ (∀ k, k < N → c_X8_nextOrder_73 a1 x3 (l_X8_nextOrder_73 a1 x3 (M, iI (lo : Int), iI (hi : Int)) k)) ∧ (∀ k, k < N → q_X8_nextOrder_73 a1 x3 (l_X8_nextOrder_73 a1 x3 (M, iI (lo : Int), iI (hi : Int)) k)) ∧ ∃ M' lo' hi', l_X8_nextOrder_73 a1 x3 (M, iI (lo : Int), iI (hi : Int)) N = (M', lo', hi') ∧ hi' ≤ lo' + 1 ∧ (∀ k, k < len → M'.1 614 k = iI ((rv f a lo hi k : Nat) : Int)) ∧ Fq (fun a k => a = 614 ∧ k < len) M M'
  | 0, M, a, lo, hi, h1, h2, h3, h4 => ⟨0, Nat.le_refl 0, fun k hk => absurd hk (Nat.not_lt_zero k), fun k hk => absurd hk (Nat.not_lt_zero k), M, _, _, rfl, by rw [cl1, iI_add, iI_le (by omega) (by omega) (by omega) (by omega)]; omega, h3, Fq.rf⟩
  | f + 1, M, a, lo, hi, h1, h2, h3, h4 => by
    by_cases c : hi ≤ lo + 1
    · refine ⟨0, by omega, fun k hk => absurd hk (Nat.not_lt_zero k), fun k hk => absurd hk (Nat.not_lt_zero k), M, _, _, rfl, ?_, fun k hk => ?_, Fq.rf⟩
      · rw [cl1, iI_add, iI_le (by omega) (by omega) (by omega) (by omega)]; omega
      · show _ = iI (((if hi ≤ lo + 1 then a else rv f (sw a (lo + 1) hi) (lo + 1) (hi - 1)) k : Nat) : Int)
        rw [if_pos c]; exact h3 k hk
    · have g : ¬ iI (hi : Int) ≤ iI (lo : Int) + 1 := by rw [cl1, iI_add, iI_le (by omega) (by omega) (by omega) (by omega)]; omega
      have e1 : iI (lo : Int) + 1 = iI ((lo + 1 : Nat) : Int) := by rw [cl1, iI_add]; rfl
      have e2 : iI (hi : Int) + -1 = iI ((hi - 1 : Nat) : Int) := by rw [show (-1 : Int32) = iI (-1) by decide, iI_add]; congr 1; omega
      obtain ⟨s1, s2, s3⟩ := r_swaps (M := M) (a := a) (i := lo + 1) (j := hi) (by omega) h1 hl h3
      have es : s_X8_nextOrder_73 a1 x3 (M, iI (lo : Int), iI (hi : Int)) = (w_X8_swaps M (iI ((lo + 1 : Nat) : Int)) (iI (hi : Int)), iI ((lo + 1 : Nat) : Int), iI ((hi - 1 : Nat) : Int)) := by
        unfold s_X8_nextOrder_73
        dsimp only
        rw [if_neg g, e1, e2]
      obtain ⟨N, n1, n2, n3, M', lo', hi', n4, n5, n6, n7⟩ := r_rev a1 x3 hl f _ _ (lo + 1) (hi - 1) (by omega) (by omega) s2 (by omega)
      rw [← es] at n2 n3 n4
      refine ⟨N + 1, by omega, fun k hk => ?_, fun k hk => ?_, M', lo', hi', ?_, n5, fun k hk => ?_, s3.tr n7⟩
      · cases k with
        | zero =>
          show c_X8_nextOrder_73 a1 x3 (M, iI (lo : Int), iI (hi : Int))
          unfold c_X8_nextOrder_73
          dsimp only
          rw [if_neg g]
          trivial
        | succ k => rw [← l73_s]; exact n2 k (by omega)
      · cases k with
        | zero =>
          show q_X8_nextOrder_73 a1 x3 (M, iI (lo : Int), iI (hi : Int))
          unfold q_X8_nextOrder_73
          dsimp only
          rw [if_neg g, e1]
          exact ⟨s1, trivial⟩
        | succ k => rw [← l73_s]; exact n3 k (by omega)
      · rw [← l73_s]; exact n4
      · show _ = iI (((if hi ≤ lo + 1 then a else rv f (sw a (lo + 1) hi) (lo + 1) (hi - 1)) k : Nat) : Int)
        rw [if_neg c]; exact n6 k hk
theorem r_nextO (hl : len ≤ 6) (ha : ∀ k, k < len → a k < 8) (h : ∀ k, k < len → M.1 614 k = iI ((a k : Nat) : Int)) :
    p_X8_nextOrder M (iI (len : Int)) ∧ (nx a len = none → r_X8_nextOrder M (iI (len : Int)) = 0 ∧ w_X8_nextOrder M (iI (len : Int)) = M) ∧ (∀ b, nx a len = some b → r_X8_nextOrder M (iI (len : Int)) = 1 ∧ (∀ k, k < len → (w_X8_nextOrder M (iI (len : Int))).1 614 k = iI ((b k : Nat) : Int)) ∧ Fq (fun a k => a = 614 ∧ k < len) M (w_X8_nextOrder M (iI (len : Int)))) := by
  obtain ⟨p1, p2, p3⟩ := pv_s a (len - 1)
  obtain ⟨P, hP⟩ : ∃ P, P = pv a (len - 1) := ⟨_, rfl⟩
  rw [← hP] at p1 p2 p3
  have rd : ∀ i : Int, 0 ≤ i → i < len → M.1 614 (Int32.toNatClampNeg (iI i)) = iI ((a i.toNat : Nat) : Int) := fun i h0 h1 => by rw [iI_nat (by omega) (by omega)]; exact h _ (by omega)
  have one : ∀ k : Nat, k < len - 1 - P → c_X8_nextOrder_4 M (iI (len : Int)) (iI ((len : Int) - 2 - (k : Int))) ∧ q_X8_nextOrder_4 M (iI (len : Int)) (iI ((len : Int) - 2 - (k : Int))) ∧ s_X8_nextOrder_4 M (iI (len : Int)) (iI ((len : Int) - 2 - (k : Int))) = iI ((len : Int) - 2 - ((k + 1 : Nat) : Int)) := by
    intro k hk
    have np := p2 (len - 2 - k) (by omega) (by omega)
    have a1 := ha (len - 2 - k) (by omega)
    have a2 := ha (len - 2 - k + 1) (by omega)
    have g0 : ¬ iI ((len : Int) - 2 - (k : Int)) < 0 := by rw [cl0, iI_lt (by omega) (by omega) (by omega) (by omega)]; omega
    have e1 := rd ((len : Int) - 2 - (k : Int)) (by omega) (by omega)
    have e2 := rd ((len : Int) - 2 - (k : Int) + 1) (by omega) (by omega)
    rw [show ((len : Int) - 2 - (k : Int)).toNat = len - 2 - k by omega] at e1
    rw [show ((len : Int) - 2 - (k : Int) + 1).toNat = len - 2 - k + 1 by omega] at e2
    have g1 : ¬ iI ((a (len - 2 - k) : Nat) : Int) ≤ iI ((a (len - 2 - k + 1) : Nat) : Int) := by rw [iI_le (by omega) (by omega) (by omega) (by omega)]; omega
    have ep : iI ((len : Int) - 2 - (k : Int)) + 1 = iI ((len : Int) - 2 - (k : Int) + 1) := by rw [cl1, iI_add]
    have em : iI ((len : Int) - 2 - (k : Int)) + -1 = iI ((len : Int) - 2 - ((k + 1 : Nat) : Int)) := by rw [show (-1 : Int32) = iI (-1) by decide, iI_add]; congr 1; omega
    unfold c_X8_nextOrder_4 q_X8_nextOrder_4 s_X8_nextOrder_4
    rw [ep, em, e1, e2, if_neg g0, if_neg g0, if_neg g0, if_neg g1, if_neg g1, if_neg g1]
    exact ⟨trivial, ⟨vin_iI (by omega) (by omega) (by omega), vin_iI (by omega) (by omega) (by omega), trivial⟩, rfl⟩
  have key : ∀ k : Nat, k ≤ len - 1 - P → l_X8_nextOrder_4 M (iI (len : Int)) (iI (len : Int) - 2) k = iI ((len : Int) - 2 - (k : Int)) := by
    intro k
    induction k with
    | zero =>
      intro _
      show iI (len : Int) - 2 = iI ((len : Int) - 2 - ((0 : Nat) : Int))
      rw [cl2, iI_sub]
      congr 1
      omega
    | succ k ih =>
      intro hk
      show s_X8_nextOrder_4 M (iI (len : Int)) (l_X8_nextOrder_4 M (iI (len : Int)) (iI (len : Int) - 2) k) = _
      rw [ih (by omega)]; exact (one k (by omega)).2.2
  have cs : ∀ k, k < len - 1 - P → c_X8_nextOrder_4 M (iI (len : Int)) (l_X8_nextOrder_4 M (iI (len : Int)) (iI (len : Int) - 2) k) := fun k hk => by rw [key k (by omega)]; exact (one k hk).1
  have qs : ∀ k, k < len - 1 - P → q_X8_nextOrder_4 M (iI (len : Int)) (l_X8_nextOrder_4 M (iI (len : Int)) (iI (len : Int) - 2) k) := fun k hk => by rw [key k (by omega)]; exact (one k hk).2.1
  have last := key (len - 1 - P) (Nat.le_refl _)
  unfold p_X8_nextOrder r_X8_nextOrder w_X8_nextOrder
  by_cases z : P = 0
  · have g : iI ((len : Int) - 2 - ((len - 1 - P : Nat) : Int)) < 0 := by rw [cl0, iI_lt (by omega) (by omega) (by omega) (by omega)]; omega
    have g' : ¬ 0 ≤ iI ((len : Int) - 2 - ((len - 1 - P : Nat) : Int)) := by rw [cl0, iI_le (by omega) (by omega) (by omega) (by omega)]; omega
    have nc : ¬ c_X8_nextOrder_4 M (iI (len : Int)) (l_X8_nextOrder_4 M (iI (len : Int)) (iI (len : Int) - 2) (len - 1 - P)) := by
      rw [last]
      unfold c_X8_nextOrder_4
      rw [if_pos g]
      exact fun h => h
    have cn : cntN (fun k => c_X8_nextOrder_4 M (iI (len : Int)) (l_X8_nextOrder_4 M (iI (len : Int)) (iI (len : Int) - 2) k)) 7 = len - 1 - P := cntN_eq (by omega) cs nc
    rw [cn]
    rw [last] at nc ⊢
    unfold p_X8_nextOrder_31 r_X8_nextOrder_31 w_X8_nextOrder_31
    rw [if_pos g, if_pos g, if_pos g, if_neg g', if_neg g', if_neg g']
    refine ⟨⟨cs, qs, nc, trivial⟩, fun _ => ⟨rfl, rfl⟩, fun b hb => ?_⟩
    unfold nx at hb
    rw [← hP, if_pos z] at hb
    exact absurd hb (by intro u; cases u)
  · have e0 : (len : Int) - 2 - ((len - 1 - P : Nat) : Int) = ((P - 1 : Nat) : Int) := by omega
    rw [e0] at last
    have b1 := ha (P - 1) (by omega)
    have b2 := ha (P - 1 + 1) (by omega)
    have np : Int32.toNatClampNeg (iI ((P - 1 : Nat) : Int)) = P - 1 := natk rfl (by omega)
    have ep : iI ((P - 1 : Nat) : Int) + 1 = iI ((P - 1 + 1 : Nat) : Int) := by rw [cl1, iI_add]; rfl
    have np1 : Int32.toNatClampNeg (iI ((P - 1 + 1 : Nat) : Int)) = P - 1 + 1 := natk rfl (by omega)
    have vp : vp_in (iI ((P - 1 : Nat) : Int)) 6 := vin_iI (by omega) (by omega) (by omega)
    have vp1 : vp_in (iI ((P - 1 + 1 : Nat) : Int)) 6 := vin_iI (by omega) (by omega) (by omega)
    have g : ¬ iI ((P - 1 : Nat) : Int) < 0 := by rw [cl0, iI_lt (by omega) (by omega) (by omega) (by omega)]; omega
    have g' : 0 ≤ iI ((P - 1 : Nat) : Int) := by rw [cl0, iI_le (by omega) (by omega) (by omega) (by omega)]; omega
    have f1 := h (P - 1) (by omega)
    have f2 := h (P - 1 + 1) (by omega)
    have le := p3 z
    have gl : iI ((a (P - 1) : Nat) : Int) ≤ iI ((a (P - 1 + 1) : Nat) : Int) := by rw [iI_le (by omega) (by omega) (by omega) (by omega)]; omega
    have nc : ¬ c_X8_nextOrder_4 M (iI (len : Int)) (l_X8_nextOrder_4 M (iI (len : Int)) (iI (len : Int) - 2) (len - 1 - P)) := by
      rw [last]
      unfold c_X8_nextOrder_4
      rw [if_neg g, ep, np, np1, f1, f2, if_pos gl]
      exact fun h => h
    have cn : cntN (fun k => c_X8_nextOrder_4 M (iI (len : Int)) (l_X8_nextOrder_4 M (iI (len : Int)) (iI (len : Int) - 2) k)) 7 = len - 1 - P := cntN_eq (by omega) cs nc
    rw [cn]
    rw [last] at nc ⊢
    rw [if_neg g, if_neg g, if_neg g, ep, np, np1, f1, f2, if_pos gl, if_pos gl, if_pos gl]
    unfold p_X8_nextOrder_31 r_X8_nextOrder_31 w_X8_nextOrder_31
    rw [if_pos g', if_pos g', if_pos g']
    unfold p_X8_nextOrder_37 r_X8_nextOrder_37 w_X8_nextOrder_37
    -- the second loop
    obtain ⟨q1, q2, q3, q4⟩ := sc_s a (a (P - 1)) len (P - 1) (by omega) (Nat.le_refl _)
    obtain ⟨Q, hQ⟩ : ∃ Q, Q = sc a (a (P - 1)) len := ⟨_, rfl⟩
    rw [← hQ] at q1 q2 q3 q4
    have one' : ∀ k : Nat, k < len - 1 - Q → c_X8_nextOrder_41 M (iI (len : Int)) (iI ((P - 1 : Nat) : Int)) (iI ((len - 1 - k : Nat) : Int)) ∧ q_X8_nextOrder_41 M (iI (len : Int)) (iI ((P - 1 : Nat) : Int)) (iI ((len - 1 - k : Nat) : Int)) ∧ s_X8_nextOrder_41 M (iI (len : Int)) (iI ((P - 1 : Nat) : Int)) (iI ((len - 1 - k : Nat) : Int)) = iI ((len - 1 - (k + 1) : Nat) : Int) := by
      intro k hk
      have nq := q4 (len - 1 - k) (by omega) (by omega)
      have a2 := ha (len - 1 - k) (by omega)
      have nk : Int32.toNatClampNeg (iI ((len - 1 - k : Nat) : Int)) = len - 1 - k := natk rfl (by omega)
      have g1 : ¬ iI ((a (P - 1) : Nat) : Int) ≤ iI ((a (len - 1 - k) : Nat) : Int) := by rw [iI_le (by omega) (by omega) (by omega) (by omega)]; omega
      have em : iI ((len - 1 - k : Nat) : Int) + -1 = iI ((len - 1 - (k + 1) : Nat) : Int) := by rw [show (-1 : Int32) = iI (-1) by decide, iI_add]; congr 1; omega
      unfold c_X8_nextOrder_41 q_X8_nextOrder_41 s_X8_nextOrder_41
      rw [em, np, nk, f1, h _ (by omega), if_neg g1, if_neg g1, if_neg g1]
      exact ⟨trivial, ⟨vin_iI (by omega) (by omega) (by omega), vp, trivial⟩, rfl⟩
    have key' : ∀ k : Nat, k ≤ len - 1 - Q → l_X8_nextOrder_41 M (iI (len : Int)) (iI ((P - 1 : Nat) : Int)) (iI (len : Int) - 1) k = iI ((len - 1 - k : Nat) : Int) := by
      intro k
      induction k with
      | zero =>
        intro _
        show iI (len : Int) - 1 = _
        rw [cl1, iI_sub]
        congr 1
        omega
      | succ k ih =>
        intro hk
        show s_X8_nextOrder_41 M (iI (len : Int)) (iI ((P - 1 : Nat) : Int)) (l_X8_nextOrder_41 M (iI (len : Int)) (iI ((P - 1 : Nat) : Int)) (iI (len : Int) - 1) k) = _
        rw [ih (by omega)]; exact (one' k (by omega)).2.2
    have cs' : ∀ k, k < len - 1 - Q → c_X8_nextOrder_41 M (iI (len : Int)) (iI ((P - 1 : Nat) : Int)) (l_X8_nextOrder_41 M (iI (len : Int)) (iI ((P - 1 : Nat) : Int)) (iI (len : Int) - 1) k) := fun k hk => by rw [key' k (by omega)]; exact (one' k hk).1
    have qs' : ∀ k, k < len - 1 - Q → q_X8_nextOrder_41 M (iI (len : Int)) (iI ((P - 1 : Nat) : Int)) (l_X8_nextOrder_41 M (iI (len : Int)) (iI ((P - 1 : Nat) : Int)) (iI (len : Int) - 1) k) := fun k hk => by rw [key' k (by omega)]; exact (one' k hk).2.1
    have last' := key' (len - 1 - Q) (Nat.le_refl _)
    rw [show len - 1 - (len - 1 - Q) = Q by omega] at last'
    have nq : Int32.toNatClampNeg (iI (Q : Int)) = Q := natk rfl (by omega)
    have vq : vp_in (iI (Q : Int)) 6 := vin_iI (by omega) (by omega) (by omega)
    have fq := h Q (by omega)
    have bq := ha Q (by omega)
    have gq : iI ((a (P - 1) : Nat) : Int) ≤ iI ((a Q : Nat) : Int) := by rw [iI_le (by omega) (by omega) (by omega) (by omega)]; omega
    have nc' : ¬ c_X8_nextOrder_41 M (iI (len : Int)) (iI ((P - 1 : Nat) : Int)) (l_X8_nextOrder_41 M (iI (len : Int)) (iI ((P - 1 : Nat) : Int)) (iI (len : Int) - 1) (len - 1 - Q)) := by
      rw [last']
      unfold c_X8_nextOrder_41
      rw [np, nq, f1, fq, if_pos gq]
      exact fun h => h
    have cn' : cntN (fun k => c_X8_nextOrder_41 M (iI (len : Int)) (iI ((P - 1 : Nat) : Int)) (l_X8_nextOrder_41 M (iI (len : Int)) (iI ((P - 1 : Nat) : Int)) (iI (len : Int) - 1) k)) 7 = len - 1 - Q := cntN_eq (by omega) cs' nc'
    rw [cn']
    rw [last'] at nc' ⊢
    rw [np, nq, f1, fq, if_pos gq, if_pos gq, if_pos gq]
    unfold p_X8_nextOrder_62 r_X8_nextOrder_62 w_X8_nextOrder_62
    obtain ⟨s1, s2, s3⟩ := r_swaps (M := M) (a := a) (i := P - 1) (j := Q) (by omega) q1 hl h
    generalize w_X8_swaps M (iI ((P - 1 : Nat) : Int)) (iI (Q : Int)) = M1 at s2 s3 ⊢
    unfold p_X8_nextOrder_68 r_X8_nextOrder_68 w_X8_nextOrder_68
    have el : iI (len : Int) - 1 = iI ((len - 1 : Nat) : Int) := by rw [cl1, iI_sub]; congr 1; omega
    rw [el] at cs' qs' ⊢
    obtain ⟨N, n1, n2, n3, M', lo', hi', n4, n5, n6, n7⟩ := r_rev (iI (len : Int)) (iI (Q : Int)) hl 7 M1 (sw a (P - 1) Q) (P - 1) (len - 1) (by omega) (by omega) s2 (by omega)
    have nn : ¬ c_X8_nextOrder_73 (iI (len : Int)) (iI (Q : Int)) (l_X8_nextOrder_73 (iI (len : Int)) (iI (Q : Int)) (M1, iI ((P - 1 : Nat) : Int), iI ((len - 1 : Nat) : Int)) N) := by
      rw [n4]
      unfold c_X8_nextOrder_73
      dsimp only
      rw [if_pos n5]
      exact fun h => h
    have c3 : cntN (fun k => c_X8_nextOrder_73 (iI (len : Int)) (iI (Q : Int)) (l_X8_nextOrder_73 (iI (len : Int)) (iI (Q : Int)) (M1, iI ((P - 1 : Nat) : Int), iI ((len - 1 : Nat) : Int)) k)) 7 = N := cntN_eq n1 n2 nn
    rw [c3]
    rw [n4] at nn ⊢
    dsimp only
    rw [if_pos n5, if_pos n5, if_pos n5]
    refine ⟨⟨cs, qs, nc, vp, vp1, cs', qs', nc', vq, vp, s1, n2, n3, nn, trivial⟩, fun hb => ?_, fun b hb => ?_⟩
    · unfold nx at hb
      rw [← hP, if_neg z] at hb
      exact absurd hb (by intro u; cases u)
    · unfold nx at hb
      rw [← hP, if_neg z, ← hQ] at hb
      have := Option.some.inj hb
      rw [← this]
      exact ⟨rfl, n6, s3.tr n7⟩
end P78
