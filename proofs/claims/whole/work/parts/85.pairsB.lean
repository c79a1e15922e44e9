/-! best, fewest, shortest -/
section P85
variable {M : Mm} {T S : Tw} {mb : Int} {len n : Nat}
theorem c_search (hT : CT M 100 T) (hS : CSt M 1000 T S) (hI : InvT T) (hJ : InvS T S mb) (hm : mb ≤ 700000) (hlen : len = aOpn S (T 0 2).toNat) :
    p_X2_search M ∧ KR (w_X2_search M) (dfs T (T 0 2).toNat len b00 (S, 0, 0) []) len ∧ (w_X2_search M).1 510 5 = 1 ∧ Fq Qz M (w_X2_search M) := by
  have hc := hI.1
  have l6 : len ≤ 6 := by have := aOpn_le S (T 0 2).toNat; omega
  unfold p_X2_search w_X2_search
  have F0 : Fq Qz M (wi M 510 5 0) := Fq.wi Fq.rf (by omega)
  have f0 : (wi M 510 5 0).1 510 5 = 0 := rd_same ..
  have T0 : CT (wi M 510 5 0) 100 T := hT.fq hI F0 (fun a k h1 h2 => by omega)
  have S0 : CSt (wi M 510 5 0) 1000 T S := hS.fq F0 (fun a k h1 h2 => by omega)
  generalize wi M 510 5 0 = M0 at F0 f0 T0 S0 ⊢
  obtain ⟨b1, b2, b3, b4⟩ := c_begin (A := M0) (s := 1030) (s1 := 1000) (Or.inr (by omega)) hI S0
  have F1 : Fq Qz M (w_X3_beginFrom M0 1030 1000) := F0.tr (b4.q (fun a k h => by omega) (fun a h => by omega))
  have f1 : (w_X3_beginFrom M0 1030 1000).1 510 5 = 0 := by rw [b4.at (by omega)]; exact f0
  generalize w_X3_beginFrom M0 1030 1000 = M1 at b1 b2 b3 F1 f1 ⊢
  obtain ⟨y1, y2, y3, y4⟩ := c_sf0 (M := M1) (x := (S, 0, 0)) (pre := []) (b := b00) (k := len) (len := len) (mb := mb) (hT.fq hI F1 (fun a k h1 h2 => by omega)) b1 b2 b3 hI (hJ.mono (by omega) (by omega)) hm (show (0 : Int) ≤ 0 ∧ (0 : Int) ≤ 99 * 0 by decide) (show (0 : Int) ≤ 0 ∧ (0 : Int) ≤ 0 by decide) hlen.symm (by omega) l6 rfl (fun i hi => absurd hi (Nat.not_lt_zero i)) (Or.inl ⟨f1, rfl⟩)
  exact ⟨⟨y1, trivial⟩, y2, y3, F1.tr (y4.mono (fun a k h => by omega))⟩
/-- what both searches find -/
theorem search2 (h : Rel M n) (hn : n < 64) : ∃ (T S : Tw) (b : Bt) (len : Nat), len = aOpn S (T 0 2).toNat ∧ b = dfs T (T 0 2).toNat len b00 (S, 0, 0) [] ∧ (CT M 100 T ∧ CSt M 1000 T S ∧ InvT T ∧ InvS T S (4000 * n) ∧ RT M T ∧ RS M 0 T S ∧ RA M 0) ∧ len ≤ 6 ∧
    (p_X2_search M ∧ (0 ≤ b.1 ∧ (w_X2_search M).1 510 6 = iI b.1 ∧ (w_X2_search M).1 510 7 = dOf (fun i => iI ((toF b.2.1 i : Nat) : Int)) len ∧ (w_X2_search M).1 510 8 = iI b.2.2.1 ∧ (w_X2_search M).1 510 9 = iI b.2.2.2) ∧ Fq Qz M (w_X2_search M)) ∧
    (∀ M1, Fq Qz M M1 → p_X8_findBest M1 ∧ r_X8_findBest M1 = iI (len : Int) ∧ RB (w_X8_findBest M1) b len ∧ Fq Qz M1 (w_X8_findBest M1)) := by
  obtain ⟨T, S, g, ⟨c1, c2, c3, c4⟩, ⟨r1, r2, r3, r4, r5⟩, i1, i2, i3, i4, i5⟩ := h.1
  have hc := i1.1
  have l6 : aOpn S (T 0 2).toNat ≤ 6 := by have := aOpn_le S (T 0 2).toNat; omega
  obtain ⟨y1, y2, y3, y4⟩ := c_search c1 c2 i1 i3 (by omega) rfl
  refine ⟨T, S, _, _, rfl, rfl, ⟨c1, c2, i1, i3, r1, r2, r3⟩, l6, ⟨y1, ?_, y4⟩, fun M1 F => ?_⟩
  · rcases y2 with ⟨u, -⟩ | ⟨-, u1, u2, u3, u4, -, u6, -⟩
    · rw [y3] at u
      exact absurd u (by decide)
    · exact ⟨u1.1, u2, u3, u4, u6⟩
  · exact r_find (r1.fq F (fun a k h => by omega)) (r3.fq F (by omega)) (r2.fq i1 F (fun k h1 h2 => by omega)) i1 i3 (by omega) rfl
theorem pair_best (h : Rel M n) (hn : n < 64) (a1 : Int32) : PairI (p_X7_best M a1) (p_X8_best (w_X7_best M a1) a1) (r_X7_best M a1) (r_X8_best (w_X7_best M a1) a1) (w_X8_best (w_X7_best M a1) a1) n := by
  unfold p_X7_best r_X7_best w_X7_best p_X8_best r_X8_best w_X8_best
  by_cases c : b2i ((0 : Int32) ≤ a1 ∧ a1 ≤ (1 : Int32)) = 0
  · have c' := not_not_intro c
    simp only [if_neg c']
    exact ⟨trivial, trivial, rfl, h.up (by omega)⟩
  · simp only [if_pos c]
    obtain ⟨T, S, b, len, -, -, -, l6, ⟨y1, ⟨y0, y2, y3, y4, y5⟩, y6⟩, z⟩ := search2 h hn
    obtain ⟨z1, z2, ⟨⟨z3, z4, z5⟩, z6, -⟩, z7⟩ := z _ y6
    have rel := h.scr (by omega) (y6.tr z7)
    rw [y2, y3, z2]
    obtain ⟨d1, d2⟩ := r_dig5 (M := w_X8_findBest (w_X2_search M)) l6
    rw [d2, z3]
    by_cases d : a1 = 0
    · have d' := not_not_intro d
      simp only [if_neg d']
      exact ⟨⟨y1, trivial⟩, ⟨z1, trivial⟩, rfl, rel⟩
    · simp only [if_pos d]
      exact ⟨⟨y1, trivial⟩, ⟨z1, d1, trivial⟩, (dOf_c len (fun i hi => z6 y0 i hi)).symm, rel⟩
theorem pair_fewest (h : Rel M n) (hn : n < 64) : PairI (p_X7_fewest M) (p_X8_fewest (w_X7_fewest M)) (r_X7_fewest M) (r_X8_fewest (w_X7_fewest M)) (w_X8_fewest (w_X7_fewest M)) n := by
  unfold p_X7_fewest r_X7_fewest w_X7_fewest p_X8_fewest r_X8_fewest w_X8_fewest
  obtain ⟨T, S, b, len, -, -, -, l6, ⟨y1, ⟨y0, y2, y3, y4, y5⟩, y6⟩, z⟩ := search2 h hn
  obtain ⟨z1, z2, ⟨⟨z3, z4, z5⟩, z6, -⟩, z7⟩ := z _ y6
  exact ⟨⟨y1, trivial⟩, ⟨z1, trivial⟩, by rw [y4, z4], h.scr (by omega) (y6.tr z7)⟩
theorem pair_shortest (h : Rel M n) (hn : n < 64) : PairI (p_X7_shortest M) (p_X8_shortest (w_X7_shortest M)) (r_X7_shortest M) (r_X8_shortest (w_X7_shortest M)) (w_X8_shortest (w_X7_shortest M)) n := by
  unfold p_X7_shortest r_X7_shortest w_X7_shortest p_X8_shortest r_X8_shortest w_X8_shortest
  obtain ⟨T, S, b, len, -, -, -, l6, ⟨y1, ⟨y0, y2, y3, y4, y5⟩, y6⟩, z⟩ := search2 h hn
  obtain ⟨z1, z2, ⟨⟨z3, z4, z5⟩, z6, -⟩, z7⟩ := z _ y6
  exact ⟨⟨y1, trivial⟩, ⟨z1, trivial⟩, by rw [y5, z5], h.scr (by omega) (y6.tr z7)⟩
end P85
