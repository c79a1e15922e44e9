/-! act: the pair -/
def actV (y ki n a x : Int32) : Int32 := if y = 0 then mvV ki n x else if y = 1 then clV ki n a x else if y = 2 then shV ki n a x else tlV ki n a x
def actT (y ki n a : Int32) (l : Tc) : Tc := if y = 0 then mvT ki l else if y = 1 then clT ki l else if y = 2 then shT ki n a l else tlT ki n a l
def actB (y ki n a : Int32) : Int32 := if y = 0 then 0 else if y = 1 then 0 else if y = 2 then shB n a else tlB ki n a
section P45
variable {M : Mm} {l : Tc} {n ki a : Int32}
theorem c_body (hk : ki = 1 ∨ ki = 2 ∨ ki = 3 ∨ ki = 4 ∨ ki = 5) (h : cA M l 0 n ki a) (y x : Int32) : p_X0_bodyOf M y x ∧ (actB y ki n a = 0 → r_X0_bodyOf M y x = actV y ki n a x) ∧ cA (w_X0_bodyOf M y x) (actT y ki n a l) (actB y ki n a) n ki a ∧ cF M (w_X0_bodyOf M y x) := by
  have b0 : shB n a = 0 → ¬ a = n := fun u c => by unfold shB at u; rw [if_pos c] at u; exact absurd u (by decide)
  unfold p_X0_bodyOf r_X0_bodyOf w_X0_bodyOf actV actT actB
  rw [h.2.2.2.1]
  by_cases c0 : y = 0
  · simp only [if_pos c0]
    obtain ⟨m1, m2, m3, m4⟩ := c_mv hk h x
    exact ⟨⟨m1, trivial⟩, fun _ => m2, m3, m4⟩
  · by_cases c1 : y = 1
    · simp only [if_neg c0, if_pos c1]
      obtain ⟨m1, m2, m3, m4⟩ := c_cl hk h x
      exact ⟨⟨m1, trivial⟩, fun _ => m2, m3, m4⟩
    · by_cases c2 : y = 2
      · simp only [if_neg c0, if_neg c1, if_pos c2]
        obtain ⟨m1, m2, m3, m4⟩ := c_sh hk h x
        exact ⟨⟨m1, trivial⟩, fun u => m2 (b0 u), m3, m4⟩
      · simp only [if_neg c0, if_neg c1, if_neg c2]
        obtain ⟨m1, m2, m3, m4⟩ := c_tl hk h x
        exact ⟨⟨m1, trivial⟩, m2, m3, m4⟩
theorem r_body (hk : ki = 1 ∨ ki = 2 ∨ ki = 3 ∨ ki = 4 ∨ ki = 5) (h : rA M l 0 n ki a) (a1 y x x4 : Int32) : p_X8_act_82 M a1 y x x4 ∧ r_X8_act_82 M a1 y x x4 = (if actB y ki n a = 0 then actV y ki n a x else -15) ∧ rA (w_X8_act_82 M a1 y x x4) (actT y ki n a l) (actB y ki n a) n ki a ∧ rF M (w_X8_act_82 M a1 y x x4) := by
  have b0 : shB n a = 0 → ¬ a = n := fun u c => by unfold shB at u; rw [if_pos c] at u; exact absurd u (by decide)
  unfold p_X8_act_82 r_X8_act_82 w_X8_act_82 r_X8_act_127 w_X8_act_127 actV actT actB
  by_cases c0 : y = 0
  · obtain ⟨m1, m2, m3, m4⟩ := r_mv hk h x
    simp only [if_neg (not_not_intro c0), if_pos c0]
    refine ⟨⟨m1, trivial⟩, ?_, m3, m4⟩
    rw [m3.2.1, m2, if_pos rfl, if_pos trivial]
  · by_cases c1 : y = 1
    · obtain ⟨m1, m2, m3, m4⟩ := r_cl hk h x
      simp only [if_pos c0, if_neg c0, if_neg (not_not_intro c1), if_pos c1]
      refine ⟨⟨m1, trivial⟩, ?_, m3, m4⟩
      rw [m3.2.1, m2, if_pos rfl, if_pos trivial]
    · by_cases c2 : y = 2
      · obtain ⟨m1, m2, m3, m4⟩ := r_sh hk h x
        simp only [if_pos c0, if_neg c0, if_pos c1, if_neg c1, if_neg (not_not_intro c2), if_pos c2]
        refine ⟨⟨m1, trivial⟩, ?_, m3, m4⟩
        rw [m3.2.1]
        by_cases q : shB n a = 0
        · rw [if_pos q, if_pos q, m2 (b0 q)]
        · rw [if_neg q, if_neg q]
      · obtain ⟨m1, m2, m3, m4⟩ := r_tl hk h x
        simp only [if_pos c0, if_neg c0, if_pos c1, if_neg c1, if_pos c2, if_neg c2]
        refine ⟨⟨m1, trivial⟩, ?_, m3, m4⟩
        rw [m3.2.1]
        by_cases q : tlB ki n a = 0
        · rw [if_pos q, if_pos q, m2 q]
        · rw [if_neg q, if_neg q]
end P45
section P45b
variable {M M' : Mm} {n : Nat}
theorem kindOn_fr (h1 : ∀ k, M'.1 623 k = M.1 623 k) (h2 : ∀ k, M'.1 624 k = M.1 624 k) (h3 : M'.1 600 12 = M.1 600 12) (h4 : ∀ k, M'.1 608 k = M.1 608 k) (x : Int32) : r_X8_kindOn M' x = r_X8_kindOn M x ∧ (p_X8_kindOn M x → p_X8_kindOn M' x) := by
  refine ⟨by unfold r_X8_kindOn; simp only [h1, h2, h3, h4], fun hp => ?_⟩
  unfold p_X8_kindOn at hp ⊢
  simp only [h1, h2, h3, h4]
  exact hp
theorem holdsNow_fr (h1 : ∀ k, M'.1 538 k = M.1 538 k) (h2 : ∀ k, M'.1 539 k = M.1 539 k) (h3 : M'.1 100 3 = M.1 100 3) (x : Int32) : r_X7_holdsNow M' x = r_X7_holdsNow M x ∧ (p_X7_holdsNow M x → p_X7_holdsNow M' x) := by
  refine ⟨by unfold r_X7_holdsNow; simp only [h1, h2, h3], fun hp => ?_⟩
  unfold p_X7_holdsNow at hp ⊢
  simp only [h1, h2, h3]
  exact hp
/-- nothing is done -/
theorem act_no (h : Rel M n) (hn : n < 64) : Rel (wi (wi M 520 1 0) 600 53 0) (n + 1) := by
  have F : Fp (fun a k => (a = 520 ∧ k = 1) ∨ (a = 600 ∧ k = 53)) M (wi (wi M 520 1 0) 600 53 0) := Fp.wi (Fp.wi Fp.rf (by omega)) (by omega)
  refine h.of (by omega) F (Or.inl fun a k h => by omega) (Or.inl fun a k h => by omega) (Or.inl fun a k h => by omega) (Or.inr ?_) (Or.inl fun a k h => by omega) (Or.inl fun a k h => by omega) (Or.inl fun a k h => by omega) (fun a k h => by omega)
  refine ⟨0, by omega, ?_, ?_, fun j hj => absurd hj (by omega)⟩
  · rw [rd_ne (Or.inl (by omega)), rd_same]; rfl
  · rw [rd_same]; rfl
theorem pair_act (h : Rel M n) (hn : n < 64) (a1 a2 a3 : Int32) : PairI (p_X7_act M a1 a2 a3) (p_X8_act (w_X7_act M a1 a2 a3) a1 a2 a3) (r_X7_act M a1 a2 a3) (r_X8_act (w_X7_act M a1 a2 a3) a1 a2 a3) (w_X8_act (w_X7_act M a1 a2 a3) a1 a2 a3) n := by
  obtain ⟨x, rfl, x1, x2⟩ := ex_iI a1
  obtain ⟨y, rfl, y1, y2⟩ := ex_iI a2
  have c7 : (0 ≤ iI x ∧ iI x < 4) ↔ (0 ≤ x ∧ x ≤ 3) := by rw [cl0, cl4, iI_le (by omega) (by omega) (by omega) (by omega), iI_lt (by omega) (by omega) (by omega) (by omega)]; omega
  have c8 : (0 ≤ iI x ∧ iI x ≤ 3) ↔ (0 ≤ x ∧ x ≤ 3) := by rw [cl0, cl3]; exact wb x1 x2 (by omega) (by omega) (by omega) (by omega)
  have cy : (0 ≤ iI y ∧ iI y ≤ 3) ↔ (0 ≤ y ∧ y ≤ 3) := by rw [cl0, cl3]; exact wb y1 y2 (by omega) (by omega) (by omega) (by omega)
  have m1 : ¬ ¬ b2i ((1 : Int32) ≤ -1 ∧ (-1 : Int32) ≤ 5) = 0 := not_not_intro (b2i_0.mpr (by decide))
  have m9 : ¬ ¬ b2i ((1 : Int32) ≤ 9 ∧ (9 : Int32) ≤ 5) = 0 := not_not_intro (b2i_0.mpr (by decide))
  unfold p_X7_act p_X8_act r_X7_act r_X8_act w_X8_act w_X7_act
  by_cases c : 0 ≤ x ∧ x ≤ 3
  · obtain ⟨k, rfl⟩ : ∃ k : Nat, x = (k : Int) := ⟨x.toNat, by omega⟩
    have q7 := b2i_1.mpr (c7.mpr c)
    have q8 := b2i_1.mpr (c8.mpr c)
    have nk : Int32.toNatClampNeg (iI (k : Int)) = k := natk rfl (by omega)
    have vk : vp_in (iI (k : Int)) 4 := vin_iI (by omega) (by omega) (by omega)
    obtain ⟨p7, p8, s1, s2, hv⟩ := holds_v h (k := k) (by omega)
    obtain ⟨g1, g2⟩ := holdsNow_fr (M := M) (M' := wi M 520 1 0) (fun k => rd_ne (Or.inl (by omega))) (fun k => rd_ne (Or.inl (by omega))) (rd_ne (Or.inl (by omega))) (iI (k : Int))
    by_cases d : 0 ≤ y ∧ y ≤ 3
    · have qy := b2i_1.mpr (cy.mpr d)
      simp only [if_neg q7, if_neg q8, if_neg qy, nk, g1]
      have e539 : (wi M 520 1 0).1 539 k = M.1 539 k := rd_ne (Or.inl (by omega))
      have no : ∀ v : Int32, r_X7_holdsNow M (iI (k : Int)) = v → ¬ v = 0 → (¬ ¬ b2i ((1 : Int32) ≤ r_X8_kindOn M (iI (k : Int)) ∧ r_X8_kindOn M (iI (k : Int)) ≤ 5) = 0) → PairI (p_X7_holdsNow (wi M 520 1 0) (iI (k : Int)) ∧ (if r_X7_holdsNow M (iI (k : Int)) = 0 then vp_in (iI (k : Int)) 4 ∧ vp_in ((wi M 520 1 0).1 539 k) 4 ∧ vp_in ((wi M 520 1 0).1 539 k) 4 ∧ p_X0_perform (wi M 520 1 0) ((wi M 520 1 0).1 539 k) ((wi M 520 1 0).1 105 (Int32.toNatClampNeg ((wi M 520 1 0).1 539 k))) ((wi M 520 1 0).1 106 (Int32.toNatClampNeg ((wi M 520 1 0).1 539 k))) (iI y) a3 ∧ True else True)) (p_X8_kindOn (wi (if r_X7_holdsNow M (iI (k : Int)) = 0 then w_X0_perform (wi M 520 1 0) ((wi M 520 1 0).1 539 k) ((wi M 520 1 0).1 105 (Int32.toNatClampNeg ((wi M 520 1 0).1 539 k))) ((wi M 520 1 0).1 106 (Int32.toNatClampNeg ((wi M 520 1 0).1 539 k))) (iI y) a3 else wi M 520 1 0) 600 53 0) (iI (k : Int)) ∧ p_X8_act_23 (wi (if r_X7_holdsNow M (iI (k : Int)) = 0 then w_X0_perform (wi M 520 1 0) ((wi M 520 1 0).1 539 k) ((wi M 520 1 0).1 105 (Int32.toNatClampNeg ((wi M 520 1 0).1 539 k))) ((wi M 520 1 0).1 106 (Int32.toNatClampNeg ((wi M 520 1 0).1 539 k))) (iI y) a3 else wi M 520 1 0) 600 53 0) (iI (k : Int)) (iI y) a3 (r_X8_kindOn (wi (if r_X7_holdsNow M (iI (k : Int)) = 0 then w_X0_perform (wi M 520 1 0) ((wi M 520 1 0).1 539 k) ((wi M 520 1 0).1 105 (Int32.toNatClampNeg ((wi M 520 1 0).1 539 k))) ((wi M 520 1 0).1 106 (Int32.toNatClampNeg ((wi M 520 1 0).1 539 k))) (iI y) a3 else wi M 520 1 0) 600 53 0) (iI (k : Int)))) (if r_X7_holdsNow M (iI (k : Int)) = 0 then r_X0_perform (wi M 520 1 0) ((wi M 520 1 0).1 539 k) ((wi M 520 1 0).1 105 (Int32.toNatClampNeg ((wi M 520 1 0).1 539 k))) ((wi M 520 1 0).1 106 (Int32.toNatClampNeg ((wi M 520 1 0).1 539 k))) (iI y) a3 else 0) (r_X8_act_23 (wi (if r_X7_holdsNow M (iI (k : Int)) = 0 then w_X0_perform (wi M 520 1 0) ((wi M 520 1 0).1 539 k) ((wi M 520 1 0).1 105 (Int32.toNatClampNeg ((wi M 520 1 0).1 539 k))) ((wi M 520 1 0).1 106 (Int32.toNatClampNeg ((wi M 520 1 0).1 539 k))) (iI y) a3 else wi M 520 1 0) 600 53 0) (iI (k : Int)) (iI y) a3 (r_X8_kindOn (wi (if r_X7_holdsNow M (iI (k : Int)) = 0 then w_X0_perform (wi M 520 1 0) ((wi M 520 1 0).1 539 k) ((wi M 520 1 0).1 105 (Int32.toNatClampNeg ((wi M 520 1 0).1 539 k))) ((wi M 520 1 0).1 106 (Int32.toNatClampNeg ((wi M 520 1 0).1 539 k))) (iI y) a3 else wi M 520 1 0) 600 53 0) (iI (k : Int)))) (w_X8_act_23 (wi (if r_X7_holdsNow M (iI (k : Int)) = 0 then w_X0_perform (wi M 520 1 0) ((wi M 520 1 0).1 539 k) ((wi M 520 1 0).1 105 (Int32.toNatClampNeg ((wi M 520 1 0).1 539 k))) ((wi M 520 1 0).1 106 (Int32.toNatClampNeg ((wi M 520 1 0).1 539 k))) (iI y) a3 else wi M 520 1 0) 600 53 0) (iI (k : Int)) (iI y) a3 (r_X8_kindOn (wi (if r_X7_holdsNow M (iI (k : Int)) = 0 then w_X0_perform (wi M 520 1 0) ((wi M 520 1 0).1 539 k) ((wi M 520 1 0).1 105 (Int32.toNatClampNeg ((wi M 520 1 0).1 539 k))) ((wi M 520 1 0).1 106 (Int32.toNatClampNeg ((wi M 520 1 0).1 539 k))) (iI y) a3 else wi M 520 1 0) 600 53 0) (iI (k : Int)))) n := by
        intro v e1 e2 e3
        rw [e1]
        obtain ⟨u1, u2⟩ := kindOn_fr (M := M) (M' := wi (wi M 520 1 0) 600 53 0) (fun k => by rw [rd_ne (Or.inl (by omega)), rd_ne (Or.inl (by omega))]) (fun k => by rw [rd_ne (Or.inl (by omega)), rd_ne (Or.inl (by omega))]) (by rw [rd_ne (Or.inr (by omega)), rd_ne (Or.inl (by omega))]) (fun k => by rw [rd_ne (Or.inl (by omega)), rd_ne (Or.inl (by omega))]) (iI (k : Int))
        unfold p_X8_act_23 r_X8_act_23 w_X8_act_23
        simp only [if_neg e2, u1, if_neg qy, if_neg e3]
        exact ⟨⟨g2 p7, trivial⟩, ⟨u2 p8, trivial⟩, rfl, act_no h hn⟩
      rcases hv with ⟨v1, v2⟩ | ⟨v1, v2, nu, v3, v4, v5⟩ | ⟨v1, nu, ki, a, ⟨v2, v3, v4⟩, v5, v6, v7, v8, v9⟩
      · exact no 2 v1 (by decide) (by rw [v2]; exact m1)
      · exact no 1 v1 (by decide) (by rw [v2]; exact m9)
      · have nn : Int32.toNatClampNeg (iI nu) = nu.toNat := iI_nat (by omega) (by omega)
        have vn : vp_in (iI nu) 4 := vin_iI (by omega) (by omega) (by omega)
        have hk : iI ki = 1 ∨ iI ki = 2 ∨ iI ki = 3 ∨ iI ki = 4 ∨ iI ki = 5 := by
          have : ki = 1 ∨ ki = 2 ∨ ki = 3 ∨ ki = 4 ∨ ki = 5 := by omega
          rcases this with r | r | r | r | r <;> rw [r] <;> decide
        have e105 : (wi M 520 1 0).1 105 nu.toNat = iI ki := by rw [rd_ne (Or.inl (by omega))]; exact v8.1
        have e106 : (wi M 520 1 0).1 106 nu.toNat = iI a := by rw [rd_ne (Or.inl (by omega))]; exact v8.2
        rw [e539, v2, nn, e105, e106]
        simp only [if_pos v1]
        unfold p_X0_perform w_X0_perform r_X0_perform
        obtain ⟨Mc, hMc⟩ : ∃ Mc, Mc = wi (wi (wi (wi (wi M 520 1 0) 520 2 0) 520 3 (iI nu)) 520 4 (iI ki)) 520 5 (iI a) := ⟨_, rfl⟩
        rw [← hMc]
        have cS : cA Mc (0, fun _ => 0) 0 (iI nu) (iI ki) (iI a) := by
          rw [hMc]
          refine ⟨⟨by decide, ?_, fun j hj => absurd hj (Nat.not_lt_zero j)⟩, ?_, ?_, ?_, ?_⟩
          · rw [rd_ne (Or.inr (by omega)), rd_ne (Or.inr (by omega)), rd_ne (Or.inr (by omega)), rd_ne (Or.inr (by omega)), rd_same]; rfl
          · rw [rd_ne (Or.inr (by omega)), rd_ne (Or.inr (by omega)), rd_ne (Or.inr (by omega)), rd_same]
          · rw [rd_ne (Or.inr (by omega)), rd_ne (Or.inr (by omega)), rd_same]
          · rw [rd_ne (Or.inr (by omega)), rd_same]
          · rw [rd_same]
        have cF0 : cF M Mc := by rw [hMc]; exact Fr.wi (Fr.wi (Fr.wi (Fr.wi (Fr.wi Fr.rf (Or.inl rfl)) (Or.inl rfl)) (Or.inl rfl)) (Or.inl rfl)) (Or.inl rfl)
        obtain ⟨b1, b2, b3, b4⟩ := c_body hk cS (iI y) a3
        have cF1 := cF0.tr b4
        have fin7 : (if (w_X0_bodyOf Mc (iI y) a3).1 520 2 = 0 then r_X0_bodyOf Mc (iI y) a3 else -15) = if actB (iI y) (iI ki) (iI nu) (iI a) = 0 then actV (iI y) (iI ki) (iI nu) (iI a) a3 else -15 := by
          rw [b3.2.1]
          by_cases q : actB (iI y) (iI ki) (iI nu) (iI a) = 0
          · rw [if_pos q, if_pos q, b2 q]
          · rw [if_neg q, if_neg q]
        rw [fin7]
        generalize w_X0_bodyOf Mc (iI y) a3 = M1 at b3 b4 cF1 ⊢
        have rd1 : ∀ a k, a ≠ 520 → a ≠ 521 → (wi M1 600 53 0).1 a k = if a = 600 ∧ k = 53 then 0 else M.1 a k := fun a k h1 h2 => by
          rw [wi_1]
          by_cases q : a = 600 ∧ k = 53
          · rw [if_pos q, if_pos q]
          · rw [if_neg q, if_neg q, cF1.at (by omega)]
        obtain ⟨u1, u2⟩ := kindOn_fr (M := M) (M' := wi M1 600 53 0) (fun k => by rw [rd1 _ _ (by omega) (by omega), if_neg (by omega)]) (fun k => by rw [rd1 _ _ (by omega) (by omega), if_neg (by omega)]) (by rw [rd1 _ _ (by omega) (by omega), if_neg (by omega)]) (fun k => by rw [rd1 _ _ (by omega) (by omega), if_neg (by omega)]) (iI (k : Int))
        rw [u1, v7]
        have qk : ¬ b2i ((1 : Int32) ≤ iI ki ∧ iI ki ≤ 5) = 0 := b2i_1.mpr (by rw [cl1, cl5, wb (by omega) (by omega) (by omega) (by omega) (by omega) (by omega)]; exact v5)
        unfold p_X8_act_23 r_X8_act_23 w_X8_act_23
        simp only [if_neg qy, if_pos qk]
        unfold p_X8_act_44 r_X8_act_44 w_X8_act_44
        have e624 : (wi (wi M1 600 53 0) 600 49 (iI ki)).1 624 k = iI nu := by rw [rd_ne (Or.inl (by omega)), rd1 _ _ (by omega) (by omega), if_neg (by omega), ← s1]; exact v2
        rw [nk, e624]
        have e50 : (wi (wi (wi M1 600 53 0) 600 49 (iI ki)) 600 50 (iI nu)).1 600 50 = iI nu := rd_same _ _ _ _
        have n2 : Int32.toNatClampNeg ((2 : Int32) * iI nu + 1) = 2 * nu.toNat + 1 := by rw [cl2, cl1, iI_mul, iI_add]; exact natk (by omega) (by omega)
        have w2 : vp_in ((2 : Int32) * iI nu + 1) 8 := by rw [cl2, cl1, iI_mul, iI_add]; exact vin_iI (by omega) (by omega) (by omega)
        have e608 : (wi (wi (wi M1 600 53 0) 600 49 (iI ki)) 600 50 (iI nu)).1 608 (2 * nu.toNat + 1) = iI a := by rw [rd_ne (Or.inl (by omega)), rd_ne (Or.inl (by omega)), rd1 _ _ (by omega) (by omega), if_neg (by omega)]; exact v9
        rw [e50, n2, e608]
        obtain ⟨Mr, hMr⟩ : ∃ Mr, Mr = wi (wi (wi (wi (wi M1 600 53 0) 600 49 (iI ki)) 600 50 (iI nu)) 600 51 (iI a)) 600 54 0 := ⟨_, rfl⟩
        rw [← hMr]
        have rS : rA Mr (0, fun _ => 0) 0 (iI nu) (iI ki) (iI a) := by
          rw [hMr]
          refine ⟨⟨by decide, ?_, fun j hj => absurd hj (Nat.not_lt_zero j)⟩, ?_, ?_, ?_, ?_⟩
          · rw [rd_ne (Or.inr (by omega)), rd_ne (Or.inr (by omega)), rd_ne (Or.inr (by omega)), rd_ne (Or.inr (by omega)), rd_same]; rfl
          · rw [rd_same]
          · rw [rd_ne (Or.inr (by omega)), rd_ne (Or.inr (by omega)), rd_same]
          · rw [rd_ne (Or.inr (by omega)), rd_ne (Or.inr (by omega)), rd_ne (Or.inr (by omega)), rd_same]
          · rw [rd_ne (Or.inr (by omega)), rd_same]
        have rF0 : rF M1 Mr := by rw [hMr]; exact Fp.wi (Fp.wi (Fp.wi (Fp.wi (Fp.wi Fp.rf (by omega)) (by omega)) (by omega)) (by omega)) (by omega)
        obtain ⟨t1, t2, t3, t4⟩ := r_body hk rS (iI (k : Int)) (iI y) a3 (iI ki)
        have rF1 := rF0.tr t4
        rw [t2]
        generalize w_X8_act_82 Mr (iI (k : Int)) (iI y) a3 (iI ki) = M2 at t3 t4 rF1 ⊢
        refine ⟨⟨g2 p7, vk, vn, vn, ⟨b1, by split <;> trivial⟩, trivial⟩, ⟨u2 p8, vk, w2, t1⟩, rfl, ?_⟩
        have F : Fp (fun a k => a = 520 ∨ a = 521 ∨ (a = 600 ∧ 49 ≤ k ∧ k ≤ 54) ∨ a = 626) M M2 := (cF1.p (fun a k h => by omega)).tr (rF1.mono (fun a k h => by omega))
        refine h.of (by omega) F (Or.inl fun a k h => by omega) (Or.inl fun a k h => by omega) (Or.inl fun a k h => by omega) (Or.inr ?_) (Or.inl fun a k h => by omega) (Or.inl fun a k h => by omega) (Or.inl fun a k h => by omega) (fun a k h => by omega)
        refine ⟨(actT (iI y) (iI ki) (iI nu) (iI a) (0, fun _ => 0)).1, t3.1.1, ?_, t3.1.2.1, fun j hj => ?_⟩
        · rw [(rF1 _ _ (by omega)).1]; exact b3.1.2.1
        · rw [(rF1 521 _ (by omega)).1, b3.1.2.2 j hj, t3.1.2.2 j hj]
    · have qy := b2i_0.mpr (fun u => d (cy.mp u))
      obtain ⟨u1, u2⟩ := kindOn_fr (M := M) (M' := wi (wi M 520 1 0) 600 53 0) (fun k => by rw [rd_ne (Or.inl (by omega)), rd_ne (Or.inl (by omega))]) (fun k => by rw [rd_ne (Or.inl (by omega)), rd_ne (Or.inl (by omega))]) (by rw [rd_ne (Or.inr (by omega)), rd_ne (Or.inl (by omega))]) (fun k => by rw [rd_ne (Or.inl (by omega)), rd_ne (Or.inl (by omega))]) (iI (k : Int))
      unfold p_X8_act_23 r_X8_act_23 w_X8_act_23
      simp only [if_neg q7, if_neg q8, if_pos qy]
      exact ⟨trivial, ⟨u2 p8, trivial⟩, rfl, act_no h hn⟩
  · have q7 := b2i_0.mpr (fun u => c (c7.mp u))
    have q8 := b2i_0.mpr (fun u => c (c8.mp u))
    unfold p_X8_act_23 r_X8_act_23 w_X8_act_23
    simp only [if_pos q7, if_pos q8, if_neg m1]
    refine ⟨trivial, ?_, ?_, ?_⟩
    · split <;> trivial
    · split <;> rfl
    · split <;> exact act_no h hn
end P45b
