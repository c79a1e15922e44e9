/-! the actor: act -/
theorem cl30 : (30 : Int32) = iI 30 := by decide
theorem ka12 : ((1 : Int32) = 2) = False := eq_false (by decide)
theorem ka13 : ((1 : Int32) = 3) = False := eq_false (by decide)
theorem ka14 : ((1 : Int32) = 4) = False := eq_false (by decide)
theorem ka15 : ((1 : Int32) = 5) = False := eq_false (by decide)
theorem ka21 : ((2 : Int32) = 1) = False := eq_false (by decide)
theorem ka23 : ((2 : Int32) = 3) = False := eq_false (by decide)
theorem ka24 : ((2 : Int32) = 4) = False := eq_false (by decide)
theorem ka25 : ((2 : Int32) = 5) = False := eq_false (by decide)
theorem ka31 : ((3 : Int32) = 1) = False := eq_false (by decide)
theorem ka32 : ((3 : Int32) = 2) = False := eq_false (by decide)
theorem ka34 : ((3 : Int32) = 4) = False := eq_false (by decide)
theorem ka35 : ((3 : Int32) = 5) = False := eq_false (by decide)
theorem ka41 : ((4 : Int32) = 1) = False := eq_false (by decide)
theorem ka42 : ((4 : Int32) = 2) = False := eq_false (by decide)
theorem ka43 : ((4 : Int32) = 3) = False := eq_false (by decide)
theorem ka45 : ((4 : Int32) = 5) = False := eq_false (by decide)
theorem ka51 : ((5 : Int32) = 1) = False := eq_false (by decide)
theorem ka52 : ((5 : Int32) = 2) = False := eq_false (by decide)
theorem ka53 : ((5 : Int32) = 3) = False := eq_false (by decide)
theorem ka54 : ((5 : Int32) = 4) = False := eq_false (by decide)
abbrev Tc : Type := Nat × (Nat → Int32)
def apL (l : Tc) (b : Int32) : Tc := if l.1 < 30 then (l.1 + 1, fun j => if j = l.1 then b else l.2 j) else l
def cA (M : Mm) (l : Tc) (br n ki a : Int32) : Prop := (l.1 ≤ 30 ∧ M.1 520 1 = iI (l.1 : Int) ∧ ∀ j, j < l.1 → M.1 521 j = l.2 j) ∧ M.1 520 2 = br ∧ M.1 520 3 = n ∧ M.1 520 4 = ki ∧ M.1 520 5 = a
def rA (M : Mm) (l : Tc) (br n ki a : Int32) : Prop := (l.1 ≤ 30 ∧ M.1 600 53 = iI (l.1 : Int) ∧ ∀ j, j < l.1 → M.1 626 j = l.2 j) ∧ M.1 600 54 = br ∧ M.1 600 50 = n ∧ M.1 600 49 = ki ∧ M.1 600 51 = a
abbrev cF (M M' : Mm) : Prop := Fr (fun a => a = 520 ∨ a = 521) M M'
abbrev rF (M M' : Mm) : Prop := Fp (fun a k => (a = 600 ∧ 49 ≤ k ∧ k ≤ 54) ∨ a = 626) M M'
def mvV (ki n x : Int32) : Int32 := if ki = 2 then (x + n) * 3 else if ki = 3 then 0 - (x + n) * 3 else if ki = 4 then (x + n) - n else x + n
def mvT (ki : Int32) (l : Tc) : Tc := if ki = 2 then apL (apL l 30) 10 else if ki = 3 then apL (apL (apL l 40) 30) 10 else if ki = 4 then apL (apL l 51) 10 else apL l 10
def clV (ki n a x : Int32) : Int32 := if ki = 1 ∨ ki = 4 then mvV ki n x * 2 - a else if ki = 3 then mvV ki n x * 2 + mvV ki n n else mvV ki n x * 2
def clT (ki : Int32) (l : Tc) : Tc := if ki = 1 ∨ ki = 4 then mvT ki (apL (apL l 20) 11) else if ki = 3 then mvT ki (mvT ki (apL (apL l 41) 11)) else mvT ki (apL l 11)
def shV (ki n a x : Int32) : Int32 := if ki = 4 then ((x + 2) / (a - n)) ^^^ 1 else if ki = 5 then x / (a - n) + mvV ki n a else x / (a - n)
def shT (ki n a : Int32) (l : Tc) : Tc := if ki = 4 then apL (apL l 50) 12 else if ki = 5 then (if a = n then apL (apL l 61) 12 else mvT ki (apL (apL l 61) 12)) else apL l 12
def shB (n a : Int32) : Int32 := if a = n then 1 else 0
def tlV (ki n a x : Int32) : Int32 := if ki = 2 ∨ ki = 3 then (clV ki n a x ^^^ a) + shV ki n a n else if ki = 5 then (clV ki n a x ^^^ a) * 2 else clV ki n a x ^^^ a
def tlT (ki n a : Int32) (l : Tc) : Tc := if ki = 2 ∨ ki = 3 then shT ki n a (clT ki (apL (apL l 31) 13)) else if ki = 5 then clT ki (apL (apL l 60) 13) else clT ki (apL l 13)
def tlB (ki n a : Int32) : Int32 := if ki = 2 ∨ ki = 3 then shB n a else 0
theorem sub0 (a n : Int32) : a - n = 0 ↔ a = n := by
  constructor
  · intro h
    have e := Int32.sub_add_cancel a n
    rw [h, Int32.zero_add] at e
    exact e.symm
  · intro h
    rw [h, Int32.sub_self]
section P44
variable {M : Mm} {l : Tc} {br n ki a : Int32}
theorem c_beg (h : cA M l 0 n ki a) (b : Int32) : p_X0_begin M b ∧ cA (w_X0_begin M b) (apL l b) 0 n ki a ∧ cF M (w_X0_begin M b) := by
  obtain ⟨⟨h1, h2, h3⟩, h4, h5, h6, h7⟩ := h
  unfold p_X0_begin w_X0_begin apL
  have e0 : ¬ ¬ M.1 520 2 = 0 := not_not_intro h4
  rw [if_neg e0, if_neg e0, h2]
  by_cases c : l.1 < 30
  · have e1 : ¬ (30 : Int32) ≤ iI (l.1 : Int) := by rw [cl30, iI_le (by omega) (by omega) (by omega) (by omega)]; omega
    rw [if_neg e1, if_neg e1, if_pos c, natk (n := l.1) rfl (by omega)]
    refine ⟨⟨vin_iI (by omega) (by omega) (by omega), trivial⟩, ⟨⟨?_, ?_, ?_⟩, ?_, ?_, ?_, ?_⟩, Fr.wi (Fr.wi Fr.rf (Or.inr rfl)) (Or.inl rfl)⟩
    · exact c
    · rw [rd_same, k1_iI]
    · intro j hj
      have hj' : j < l.1 + 1 := hj
      rw [rd_ne (Or.inl (by omega))]
      show _ = if j = l.1 then b else l.2 j
      by_cases q : j = l.1
      · rw [if_pos q, q, rd_same]
      · rw [if_neg q, rd_ne (Or.inr q)]; exact h3 j (by omega)
    · rw [rd_ne (Or.inr (by omega)), rd_ne (Or.inl (by omega))]; exact h4
    · rw [rd_ne (Or.inr (by omega)), rd_ne (Or.inl (by omega))]; exact h5
    · rw [rd_ne (Or.inr (by omega)), rd_ne (Or.inl (by omega))]; exact h6
    · rw [rd_ne (Or.inr (by omega)), rd_ne (Or.inl (by omega))]; exact h7
  · have e1 : (30 : Int32) ≤ iI (l.1 : Int) := by rw [cl30, iI_le (by omega) (by omega) (by omega) (by omega)]; omega
    rw [if_pos e1, if_pos e1, if_neg c]
    exact ⟨trivial, ⟨⟨h1, h2, h3⟩, h4, h5, h6, h7⟩, Fr.rf⟩
theorem c_beg1 (h : M.1 520 2 = 1) (b : Int32) : p_X0_begin M b ∧ w_X0_begin M b = M := by
  unfold p_X0_begin w_X0_begin
  have e0 : ¬ M.1 520 2 = 0 := by rw [h]; decide
  rw [if_pos e0, if_pos e0]
  exact ⟨trivial, rfl⟩
theorem r_ran (h : rA M l br n ki a) (b : Int32) : p_X8_ran M b ∧ rA (w_X8_ran M b) (apL l b) br n ki a ∧ rF M (w_X8_ran M b) := by
  obtain ⟨⟨h1, h2, h3⟩, h4, h5, h6, h7⟩ := h
  unfold p_X8_ran w_X8_ran apL
  rw [h2]
  by_cases c : l.1 < 30
  · have e1 : ¬ (30 : Int32) ≤ iI (l.1 : Int) := by rw [cl30, iI_le (by omega) (by omega) (by omega) (by omega)]; omega
    rw [if_neg e1, if_neg e1, if_pos c, natk (n := l.1) rfl (by omega)]
    refine ⟨⟨vin_iI (by omega) (by omega) (by omega), trivial⟩, ⟨⟨?_, ?_, ?_⟩, ?_, ?_, ?_, ?_⟩, Fp.wi (Fp.wi Fp.rf (by omega)) (by omega)⟩
    · exact c
    · rw [rd_same, k1_iI]
    · intro j hj
      have hj' : j < l.1 + 1 := hj
      rw [rd_ne (Or.inl (by omega))]
      show _ = if j = l.1 then b else l.2 j
      by_cases q : j = l.1
      · rw [if_pos q, q, rd_same]
      · rw [if_neg q, rd_ne (Or.inr q)]; exact h3 j (by omega)
    · rw [rd_ne (Or.inr (by omega)), rd_ne (Or.inl (by omega))]; exact h4
    · rw [rd_ne (Or.inr (by omega)), rd_ne (Or.inl (by omega))]; exact h5
    · rw [rd_ne (Or.inr (by omega)), rd_ne (Or.inl (by omega))]; exact h6
    · rw [rd_ne (Or.inr (by omega)), rd_ne (Or.inl (by omega))]; exact h7
  · have e1 : (30 : Int32) ≤ iI (l.1 : Int) := by rw [cl30, iI_le (by omega) (by omega) (by omega) (by omega)]; omega
    rw [if_pos e1, if_pos e1, if_neg c]
    exact ⟨trivial, ⟨⟨h1, h2, h3⟩, h4, h5, h6, h7⟩, Fp.rf⟩
theorem c_mv0 (h : cA M l 0 n ki a) (x : Int32) : p_X0_movesAs_0 M x ∧ r_X0_movesAs_0 M x = x + n ∧ cA (w_X0_movesAs_0 M x) (apL l 10) 0 n ki a ∧ cF M (w_X0_movesAs_0 M x) := by
  obtain ⟨b1, b2, b3⟩ := c_beg h 10
  exact ⟨⟨b1, trivial⟩, by unfold r_X0_movesAs_0; rw [b2.2.2.1], b2, b3⟩
theorem c_mv2 (h : cA M l 0 n ki a) (x : Int32) : p_X0_movesAs_2 M x ∧ r_X0_movesAs_2 M x = (x + n) * 3 ∧ cA (w_X0_movesAs_2 M x) (apL (apL l 30) 10) 0 n ki a ∧ cF M (w_X0_movesAs_2 M x) := by
  obtain ⟨b1, b2, b3⟩ := c_beg h 30
  obtain ⟨d1, d2, d3, d4⟩ := c_mv0 b2 x
  exact ⟨⟨b1, d1, trivial⟩, by unfold r_X0_movesAs_2; rw [d2], d3, b3.tr d4⟩
theorem c_mv (hk : ki = 1 ∨ ki = 2 ∨ ki = 3 ∨ ki = 4 ∨ ki = 5) (h : cA M l 0 n ki a) (x : Int32) : p_X0_movesAs M ki x ∧ r_X0_movesAs M ki x = mvV ki n x ∧ cA (w_X0_movesAs M ki x) (mvT ki l) 0 n ki a ∧ cF M (w_X0_movesAs M ki x) := by
  unfold p_X0_movesAs r_X0_movesAs w_X0_movesAs mvV mvT
  rcases hk with rfl | rfl | rfl | rfl | rfl
  · simp only [ka12, ka13, ka14, ka15, ka21, ka23, ka24, ka25, ka31, ka32, ka34, ka35, ka41, ka42, ka43, ka45, ka51, ka52, ka53, ka54, if_true, if_false, not_true, not_false_eq_true, or_false, false_or, or_true, true_or, and_true, false_and, true_and]
    obtain ⟨b1, b2, b3⟩ := c_beg h 10
    exact ⟨b1, by rw [b2.2.2.1], b2, b3⟩
  · simp only [ka12, ka13, ka14, ka15, ka21, ka23, ka24, ka25, ka31, ka32, ka34, ka35, ka41, ka42, ka43, ka45, ka51, ka52, ka53, ka54, if_true, if_false, not_true, not_false_eq_true, or_false, false_or, or_true, true_or, and_true, false_and, true_and]
    obtain ⟨b1, b2, b3⟩ := c_beg h 30
    obtain ⟨d1, d2, d3, d4⟩ := c_mv0 b2 x
    exact ⟨⟨b1, d1⟩, by rw [d2], d3, b3.tr d4⟩
  · simp only [ka12, ka13, ka14, ka15, ka21, ka23, ka24, ka25, ka31, ka32, ka34, ka35, ka41, ka42, ka43, ka45, ka51, ka52, ka53, ka54, if_true, if_false, not_true, not_false_eq_true, or_false, false_or, or_true, true_or, and_true, false_and, true_and]
    obtain ⟨b1, b2, b3⟩ := c_beg h 40
    obtain ⟨d1, d2, d3, d4⟩ := c_mv2 b2 x
    exact ⟨⟨b1, d1⟩, by rw [d2], d3, b3.tr d4⟩
  · simp only [ka12, ka13, ka14, ka15, ka21, ka23, ka24, ka25, ka31, ka32, ka34, ka35, ka41, ka42, ka43, ka45, ka51, ka52, ka53, ka54, if_true, if_false, not_true, not_false_eq_true, or_false, false_or, or_true, true_or, and_true, false_and, true_and]
    obtain ⟨b1, b2, b3⟩ := c_beg h 51
    obtain ⟨d1, d2, d3, d4⟩ := c_mv0 b2 x
    exact ⟨⟨b1, d1⟩, by rw [d2, d3.2.2.1], d3, b3.tr d4⟩
  · simp only [ka12, ka13, ka14, ka15, ka21, ka23, ka24, ka25, ka31, ka32, ka34, ka35, ka41, ka42, ka43, ka45, ka51, ka52, ka53, ka54, if_true, if_false, not_true, not_false_eq_true, or_false, false_or, or_true, true_or, and_true, false_and, true_and]
    obtain ⟨b1, b2, b3⟩ := c_beg h 10
    exact ⟨b1, by rw [b2.2.2.1], b2, b3⟩
theorem c_mvB (h : M.1 520 2 = 1) (x : Int32) : p_X0_movesAs M ki x ∧ w_X0_movesAs M ki x = M := by
  have P := fun b => (c_beg1 h b).1
  have Q := fun b => (c_beg1 h b).2
  unfold p_X0_movesAs w_X0_movesAs p_X0_movesAs_2 w_X0_movesAs_2 p_X0_movesAs_0 w_X0_movesAs_0
  simp only [Q, ite_self]
  refine ⟨?_, trivial⟩
  split
  · exact ⟨P _, ⟨P _, trivial⟩, trivial⟩
  · split
    · exact ⟨P _, ⟨P _, ⟨P _, trivial⟩, trivial⟩, trivial⟩
    · split
      · exact ⟨P _, ⟨P _, trivial⟩, trivial⟩
      · exact ⟨P _, trivial⟩
theorem r_mv0 (h : rA M l br n ki a) (x : Int32) : p_X8_plainMoves M x ∧ r_X8_plainMoves M x = x + n ∧ rA (w_X8_plainMoves M x) (apL l 10) br n ki a ∧ rF M (w_X8_plainMoves M x) := by
  obtain ⟨b1, b2, b3⟩ := r_ran h 10
  exact ⟨⟨b1, trivial⟩, by unfold r_X8_plainMoves; rw [b2.2.2.1], b2, b3⟩
theorem r_mv2 (h : rA M l br n ki a) (x : Int32) : p_X8_soonMoves M x ∧ r_X8_soonMoves M x = (x + n) * 3 ∧ rA (w_X8_soonMoves M x) (apL (apL l 30) 10) br n ki a ∧ rF M (w_X8_soonMoves M x) := by
  obtain ⟨b1, b2, b3⟩ := r_ran h 30
  obtain ⟨d1, d2, d3, d4⟩ := r_mv0 b2 x
  exact ⟨⟨b1, d1, trivial⟩, by unfold r_X8_soonMoves; rw [d2], d3, b3.tr d4⟩
theorem r_mv (hk : ki = 1 ∨ ki = 2 ∨ ki = 3 ∨ ki = 4 ∨ ki = 5) (h : rA M l br n ki a) (x : Int32) : p_X8_movesIt M x ∧ r_X8_movesIt M x = mvV ki n x ∧ rA (w_X8_movesIt M x) (mvT ki l) br n ki a ∧ rF M (w_X8_movesIt M x) := by
  unfold p_X8_movesIt r_X8_movesIt w_X8_movesIt mvV mvT
  rw [h.2.2.2.1]
  rcases hk with rfl | rfl | rfl | rfl | rfl
  · simp only [ka12, ka13, ka14, ka15, ka21, ka23, ka24, ka25, ka31, ka32, ka34, ka35, ka41, ka42, ka43, ka45, ka51, ka52, ka53, ka54, if_true, if_false, not_true, not_false_eq_true, or_false, false_or, or_true, true_or, and_true, false_and, true_and]
    obtain ⟨b1, b2, b3, b4⟩ := r_mv0 h x
    exact ⟨b1, b2, b3, b4⟩
  · simp only [ka12, ka13, ka14, ka15, ka21, ka23, ka24, ka25, ka31, ka32, ka34, ka35, ka41, ka42, ka43, ka45, ka51, ka52, ka53, ka54, if_true, if_false, not_true, not_false_eq_true, or_false, false_or, or_true, true_or, and_true, false_and, true_and]
    obtain ⟨b1, b2, b3, b4⟩ := r_mv2 h x
    exact ⟨b1, b2, b3, b4⟩
  · simp only [ka12, ka13, ka14, ka15, ka21, ka23, ka24, ka25, ka31, ka32, ka34, ka35, ka41, ka42, ka43, ka45, ka51, ka52, ka53, ka54, if_true, if_false, not_true, not_false_eq_true, or_false, false_or, or_true, true_or, and_true, false_and, true_and]
    obtain ⟨b1, b2, b3⟩ := r_ran h 40
    obtain ⟨d1, d2, d3, d4⟩ := r_mv2 b2 x
    exact ⟨⟨b1, d1⟩, by rw [d2], d3, b3.tr d4⟩
  · simp only [ka12, ka13, ka14, ka15, ka21, ka23, ka24, ka25, ka31, ka32, ka34, ka35, ka41, ka42, ka43, ka45, ka51, ka52, ka53, ka54, if_true, if_false, not_true, not_false_eq_true, or_false, false_or, or_true, true_or, and_true, false_and, true_and]
    obtain ⟨b1, b2, b3⟩ := r_ran h 51
    obtain ⟨d1, d2, d3, d4⟩ := r_mv0 b2 x
    exact ⟨⟨b1, d1⟩, by rw [d2, d3.2.2.1], d3, b3.tr d4⟩
  · simp only [ka12, ka13, ka14, ka15, ka21, ka23, ka24, ka25, ka31, ka32, ka34, ka35, ka41, ka42, ka43, ka45, ka51, ka52, ka53, ka54, if_true, if_false, not_true, not_false_eq_true, or_false, false_or, or_true, true_or, and_true, false_and, true_and]
    obtain ⟨b1, b2, b3, b4⟩ := r_mv0 h x
    exact ⟨b1, b2, b3, b4⟩
theorem c_cl0 (hk : ki = 1 ∨ ki = 2 ∨ ki = 3 ∨ ki = 4 ∨ ki = 5) (h : cA M l 0 n ki a) (x : Int32) : p_X0_callsAs_0 M x ∧ r_X0_callsAs_0 M x = mvV ki n x * 2 ∧ cA (w_X0_callsAs_0 M x) (mvT ki (apL l 11)) 0 n ki a ∧ cF M (w_X0_callsAs_0 M x) := by
  obtain ⟨b1, b2, b3⟩ := c_beg h 11
  obtain ⟨m1, m2, m3, m4⟩ := c_mv hk b2 x
  unfold p_X0_callsAs_0 r_X0_callsAs_0 w_X0_callsAs_0
  rw [b2.2.2.2.1]
  exact ⟨⟨b1, m1, trivial⟩, by rw [m2], m3, b3.tr m4⟩
theorem c_cl (hk : ki = 1 ∨ ki = 2 ∨ ki = 3 ∨ ki = 4 ∨ ki = 5) (h : cA M l 0 n ki a) (x : Int32) : p_X0_callsAs M ki x ∧ r_X0_callsAs M ki x = clV ki n a x ∧ cA (w_X0_callsAs M ki x) (clT ki l) 0 n ki a ∧ cF M (w_X0_callsAs M ki x) := by
  unfold p_X0_callsAs r_X0_callsAs w_X0_callsAs clV clT
  rcases hk with rfl | rfl | rfl | rfl | rfl
  · simp only [ka12, ka13, ka14, ka15, ka21, ka23, ka24, ka25, ka31, ka32, ka34, ka35, ka41, ka42, ka43, ka45, ka51, ka52, ka53, ka54, if_true, if_false, not_true, not_false_eq_true, or_false, false_or, or_true, true_or, and_true, false_and, true_and]
    obtain ⟨b1, b2, b3⟩ := c_beg h 20
    obtain ⟨d1, d2, d3, d4⟩ := c_cl0 (by simp) b2 x
    exact ⟨⟨b1, d1⟩, by rw [d2, d3.2.2.2.2], d3, b3.tr d4⟩
  · simp only [ka12, ka13, ka14, ka15, ka21, ka23, ka24, ka25, ka31, ka32, ka34, ka35, ka41, ka42, ka43, ka45, ka51, ka52, ka53, ka54, if_true, if_false, not_true, not_false_eq_true, or_false, false_or, or_true, true_or, and_true, false_and, true_and]
    obtain ⟨b1, b2, b3⟩ := c_beg h 11
    obtain ⟨m1, m2, m3, m4⟩ := c_mv (by simp) b2 x
    rw [b2.2.2.2.1]
    exact ⟨⟨b1, m1⟩, by rw [m2], m3, b3.tr m4⟩
  · simp only [ka12, ka13, ka14, ka15, ka21, ka23, ka24, ka25, ka31, ka32, ka34, ka35, ka41, ka42, ka43, ka45, ka51, ka52, ka53, ka54, if_true, if_false, not_true, not_false_eq_true, or_false, false_or, or_true, true_or, and_true, false_and, true_and]
    obtain ⟨b1, b2, b3⟩ := c_beg h 41
    obtain ⟨d1, d2, d3, d4⟩ := c_cl0 (by simp) b2 x
    obtain ⟨m1, m2, m3, m4⟩ := c_mv (by simp) d3 n
    rw [d3.2.2.2.1, d3.2.2.1]
    exact ⟨⟨b1, d1, m1⟩, by rw [d2, m2], m3, b3.tr (d4.tr m4)⟩
  · simp only [ka12, ka13, ka14, ka15, ka21, ka23, ka24, ka25, ka31, ka32, ka34, ka35, ka41, ka42, ka43, ka45, ka51, ka52, ka53, ka54, if_true, if_false, not_true, not_false_eq_true, or_false, false_or, or_true, true_or, and_true, false_and, true_and]
    obtain ⟨b1, b2, b3⟩ := c_beg h 20
    obtain ⟨d1, d2, d3, d4⟩ := c_cl0 (by simp) b2 x
    exact ⟨⟨b1, d1⟩, by rw [d2, d3.2.2.2.2], d3, b3.tr d4⟩
  · simp only [ka12, ka13, ka14, ka15, ka21, ka23, ka24, ka25, ka31, ka32, ka34, ka35, ka41, ka42, ka43, ka45, ka51, ka52, ka53, ka54, if_true, if_false, not_true, not_false_eq_true, or_false, false_or, or_true, true_or, and_true, false_and, true_and]
    obtain ⟨b1, b2, b3⟩ := c_beg h 11
    obtain ⟨m1, m2, m3, m4⟩ := c_mv (by simp) b2 x
    rw [b2.2.2.2.1]
    exact ⟨⟨b1, m1⟩, by rw [m2], m3, b3.tr m4⟩
theorem r_cl0 (hk : ki = 1 ∨ ki = 2 ∨ ki = 3 ∨ ki = 4 ∨ ki = 5) (h : rA M l br n ki a) (x : Int32) : p_X8_plainCalls M x ∧ r_X8_plainCalls M x = mvV ki n x * 2 ∧ rA (w_X8_plainCalls M x) (mvT ki (apL l 11)) br n ki a ∧ rF M (w_X8_plainCalls M x) := by
  obtain ⟨b1, b2, b3⟩ := r_ran h 11
  obtain ⟨m1, m2, m3, m4⟩ := r_mv hk b2 x
  exact ⟨⟨b1, m1, trivial⟩, by unfold r_X8_plainCalls; rw [m2], m3, b3.tr m4⟩
theorem r_cl (hk : ki = 1 ∨ ki = 2 ∨ ki = 3 ∨ ki = 4 ∨ ki = 5) (h : rA M l br n ki a) (x : Int32) : p_X8_callsIt M x ∧ r_X8_callsIt M x = clV ki n a x ∧ rA (w_X8_callsIt M x) (clT ki l) br n ki a ∧ rF M (w_X8_callsIt M x) := by
  unfold p_X8_callsIt r_X8_callsIt w_X8_callsIt clV clT
  rw [h.2.2.2.1]
  rcases hk with rfl | rfl | rfl | rfl | rfl
  · simp only [ka12, ka13, ka14, ka15, ka21, ka23, ka24, ka25, ka31, ka32, ka34, ka35, ka41, ka42, ka43, ka45, ka51, ka52, ka53, ka54, if_true, if_false, not_true, not_false_eq_true, or_false, false_or, or_true, true_or, and_true, false_and, true_and]
    obtain ⟨b1, b2, b3⟩ := r_ran h 20
    obtain ⟨d1, d2, d3, d4⟩ := r_cl0 (by simp) b2 x
    exact ⟨⟨b1, d1⟩, by rw [d2, d3.2.2.2.2], d3, b3.tr d4⟩
  · simp only [ka12, ka13, ka14, ka15, ka21, ka23, ka24, ka25, ka31, ka32, ka34, ka35, ka41, ka42, ka43, ka45, ka51, ka52, ka53, ka54, if_true, if_false, not_true, not_false_eq_true, or_false, false_or, or_true, true_or, and_true, false_and, true_and]
    obtain ⟨d1, d2, d3, d4⟩ := r_cl0 (by simp) h x
    exact ⟨d1, d2, d3, d4⟩
  · simp only [ka12, ka13, ka14, ka15, ka21, ka23, ka24, ka25, ka31, ka32, ka34, ka35, ka41, ka42, ka43, ka45, ka51, ka52, ka53, ka54, if_true, if_false, not_true, not_false_eq_true, or_false, false_or, or_true, true_or, and_true, false_and, true_and]
    obtain ⟨b1, b2, b3⟩ := r_ran h 41
    obtain ⟨d1, d2, d3, d4⟩ := r_cl0 (by simp) b2 x
    obtain ⟨m1, m2, m3, m4⟩ := r_mv (by simp) d3 n
    rw [d3.2.2.1]
    exact ⟨⟨b1, d1, m1⟩, by rw [d2, m2], m3, b3.tr (d4.tr m4)⟩
  · simp only [ka12, ka13, ka14, ka15, ka21, ka23, ka24, ka25, ka31, ka32, ka34, ka35, ka41, ka42, ka43, ka45, ka51, ka52, ka53, ka54, if_true, if_false, not_true, not_false_eq_true, or_false, false_or, or_true, true_or, and_true, false_and, true_and]
    obtain ⟨b1, b2, b3⟩ := r_ran h 20
    obtain ⟨d1, d2, d3, d4⟩ := r_cl0 (by simp) b2 x
    exact ⟨⟨b1, d1⟩, by rw [d2, d3.2.2.2.2], d3, b3.tr d4⟩
  · simp only [ka12, ka13, ka14, ka15, ka21, ka23, ka24, ka25, ka31, ka32, ka34, ka35, ka41, ka42, ka43, ka45, ka51, ka52, ka53, ka54, if_true, if_false, not_true, not_false_eq_true, or_false, false_or, or_true, true_or, and_true, false_and, true_and]
    obtain ⟨d1, d2, d3, d4⟩ := r_cl0 (by simp) h x
    exact ⟨d1, d2, d3, d4⟩
theorem c_part (h : cA M l 0 n ki a) (x : Int32) : p_X0_part M x (a - n) ∧ (¬ a = n → r_X0_part M x (a - n) = x / (a - n)) ∧ cA (w_X0_part M x (a - n)) l (shB n a) n ki a ∧ cF M (w_X0_part M x (a - n)) := by
  unfold p_X0_part r_X0_part w_X0_part shB
  by_cases c : a = n
  · have e : ¬ ¬ a - n = 0 := not_not_intro ((sub0 a n).mpr c)
    rw [if_neg e, if_neg e, if_neg e, if_pos c]
    obtain ⟨⟨h1, h2, h3⟩, h4, h5, h6, h7⟩ := h
    refine ⟨trivial, fun u => absurd c u, ⟨⟨h1, ?_, fun j hj => ?_⟩, rd_same _ _ _ _, ?_, ?_, ?_⟩, Fr.wi Fr.rf (Or.inl rfl)⟩
    · rw [rd_ne (Or.inr (by omega))]; exact h2
    · rw [rd_ne (Or.inl (by omega))]; exact h3 j hj
    · rw [rd_ne (Or.inr (by omega))]; exact h5
    · rw [rd_ne (Or.inr (by omega))]; exact h6
    · rw [rd_ne (Or.inr (by omega))]; exact h7
  · have e : ¬ a - n = 0 := fun u => c ((sub0 a n).mp u)
    rw [if_pos e, if_pos e, if_pos e, if_neg c]
    exact ⟨⟨e, trivial⟩, fun _ => rfl, h, Fr.rf⟩
theorem c_sh0 (h : cA M l 0 n ki a) (x : Int32) : p_X0_sharesAs_0 M x ∧ (¬ a = n → r_X0_sharesAs_0 M x = x / (a - n)) ∧ cA (w_X0_sharesAs_0 M x) (apL l 12) (shB n a) n ki a ∧ cF M (w_X0_sharesAs_0 M x) := by
  obtain ⟨b1, b2, b3⟩ := c_beg h 12
  obtain ⟨d1, d2, d3, d4⟩ := c_part b2 x
  unfold p_X0_sharesAs_0 r_X0_sharesAs_0 w_X0_sharesAs_0
  rw [b2.2.2.2.2, b2.2.2.1]
  exact ⟨⟨b1, d1, trivial⟩, d2, d3, b3.tr d4⟩
theorem c_sh (hk : ki = 1 ∨ ki = 2 ∨ ki = 3 ∨ ki = 4 ∨ ki = 5) (h : cA M l 0 n ki a) (x : Int32) : p_X0_sharesAs M ki x ∧ (¬ a = n → r_X0_sharesAs M ki x = shV ki n a x) ∧ cA (w_X0_sharesAs M ki x) (shT ki n a l) (shB n a) n ki a ∧ cF M (w_X0_sharesAs M ki x) := by
  unfold p_X0_sharesAs r_X0_sharesAs w_X0_sharesAs shV shT
  have dflt : ∀ ki : Int32, cA M l 0 n ki a → (p_X0_begin M (12 : Int32) ∧ p_X0_part (w_X0_begin M (12 : Int32)) x (((w_X0_begin M (12 : Int32)).1 520 5) - ((w_X0_begin M (12 : Int32)).1 520 3))) ∧ (¬ a = n → r_X0_part (w_X0_begin M (12 : Int32)) x (((w_X0_begin M (12 : Int32)).1 520 5) - ((w_X0_begin M (12 : Int32)).1 520 3)) = x / (a - n)) ∧ cA (w_X0_part (w_X0_begin M (12 : Int32)) x (((w_X0_begin M (12 : Int32)).1 520 5) - ((w_X0_begin M (12 : Int32)).1 520 3))) (apL l 12) (shB n a) n ki a ∧ cF M (w_X0_part (w_X0_begin M (12 : Int32)) x (((w_X0_begin M (12 : Int32)).1 520 5) - ((w_X0_begin M (12 : Int32)).1 520 3))) := by
    intro ki h
    obtain ⟨b1, b2, b3⟩ := c_beg h 12
    obtain ⟨d1, d2, d3, d4⟩ := c_part b2 x
    rw [b2.2.2.2.2, b2.2.2.1]
    exact ⟨⟨b1, d1⟩, d2, d3, b3.tr d4⟩
  rcases hk with rfl | rfl | rfl | rfl | rfl
  · simp only [ka12, ka13, ka14, ka15, ka21, ka23, ka24, ka25, ka31, ka32, ka34, ka35, ka41, ka42, ka43, ka45, ka51, ka52, ka53, ka54, if_true, if_false, not_true, not_false_eq_true, or_false, false_or, or_true, true_or, and_true, false_and, true_and]
    exact dflt 1 h
  · simp only [ka12, ka13, ka14, ka15, ka21, ka23, ka24, ka25, ka31, ka32, ka34, ka35, ka41, ka42, ka43, ka45, ka51, ka52, ka53, ka54, if_true, if_false, not_true, not_false_eq_true, or_false, false_or, or_true, true_or, and_true, false_and, true_and]
    exact dflt 2 h
  · simp only [ka12, ka13, ka14, ka15, ka21, ka23, ka24, ka25, ka31, ka32, ka34, ka35, ka41, ka42, ka43, ka45, ka51, ka52, ka53, ka54, if_true, if_false, not_true, not_false_eq_true, or_false, false_or, or_true, true_or, and_true, false_and, true_and]
    exact dflt 3 h
  · simp only [ka12, ka13, ka14, ka15, ka21, ka23, ka24, ka25, ka31, ka32, ka34, ka35, ka41, ka42, ka43, ka45, ka51, ka52, ka53, ka54, if_true, if_false, not_true, not_false_eq_true, or_false, false_or, or_true, true_or, and_true, false_and, true_and]
    obtain ⟨b1, b2, b3⟩ := c_beg h 50
    obtain ⟨d1, d2, d3, d4⟩ := c_sh0 b2 (x + 2)
    exact ⟨⟨b1, d1⟩, fun u => by rw [d2 u], d3, b3.tr d4⟩
  · simp only [ka12, ka13, ka14, ka15, ka21, ka23, ka24, ka25, ka31, ka32, ka34, ka35, ka41, ka42, ka43, ka45, ka51, ka52, ka53, ka54, if_true, if_false, not_true, not_false_eq_true, or_false, false_or, or_true, true_or, and_true, false_and, true_and]
    obtain ⟨b1, b2, b3⟩ := c_beg h 61
    obtain ⟨d1, d2, d3, d4⟩ := c_sh0 b2 x
    rw [d3.2.2.2.1, d3.2.2.2.2]
    by_cases c : a = n
    · have e : (w_X0_sharesAs_0 (w_X0_begin M 61) x).1 520 2 = 1 := by rw [d3.2.1]; unfold shB; rw [if_pos c]
      obtain ⟨m1, m2⟩ := c_mvB (ki := 5) e a
      rw [m2, if_pos c]
      exact ⟨⟨b1, d1, m1⟩, fun u => absurd c u, d3, b3.tr d4⟩
    · have e : shB n a = 0 := by unfold shB; rw [if_neg c]
      rw [e] at d3 ⊢
      obtain ⟨m1, m2, m3, m4⟩ := c_mv (by simp) d3 a
      rw [if_neg c]
      exact ⟨⟨b1, d1, m1⟩, fun u => by rw [d2 u, m2], m3, b3.tr (d4.tr m4)⟩
theorem r_sh0 (h : rA M l 0 n ki a) (x : Int32) : p_X8_plainShares M x ∧ (¬ a = n → r_X8_plainShares M x = x / (a - n)) ∧ rA (w_X8_plainShares M x) (apL l 12) (shB n a) n ki a ∧ rF M (w_X8_plainShares M x) := by
  obtain ⟨b1, b2, b3⟩ := r_ran h 12
  unfold p_X8_plainShares r_X8_plainShares w_X8_plainShares shB
  rw [b2.2.2.2.2, b2.2.2.1]
  by_cases c : a = n
  · have e : ¬ ¬ a = n := not_not_intro c
    rw [if_neg e, if_neg e, if_neg e, if_pos c]
    obtain ⟨⟨h1, h2, h3⟩, h4, h5, h6, h7⟩ := b2
    refine ⟨⟨b1, trivial⟩, fun u => absurd c u, ⟨⟨h1, ?_, fun j hj => ?_⟩, rd_same _ _ _ _, ?_, ?_, ?_⟩, Fp.wi b3 (by omega)⟩
    · rw [rd_ne (Or.inr (by omega))]; exact h2
    · rw [rd_ne (Or.inl (by omega))]; exact h3 j hj
    · rw [rd_ne (Or.inr (by omega))]; exact h5
    · rw [rd_ne (Or.inr (by omega))]; exact h6
    · rw [rd_ne (Or.inr (by omega))]; exact h7
  · rw [if_pos c, if_pos c, if_pos c, if_neg c]
    exact ⟨⟨b1, fun u => c ((sub0 a n).mp u), trivial⟩, fun _ => rfl, b2, b3⟩
theorem r_sh (hk : ki = 1 ∨ ki = 2 ∨ ki = 3 ∨ ki = 4 ∨ ki = 5) (h : rA M l 0 n ki a) (x : Int32) : p_X8_sharesIt M x ∧ (¬ a = n → r_X8_sharesIt M x = shV ki n a x) ∧ rA (w_X8_sharesIt M x) (shT ki n a l) (shB n a) n ki a ∧ rF M (w_X8_sharesIt M x) := by
  unfold p_X8_sharesIt r_X8_sharesIt w_X8_sharesIt shV shT
  rw [h.2.2.2.1]
  rcases hk with rfl | rfl | rfl | rfl | rfl
  · simp only [ka12, ka13, ka14, ka15, ka21, ka23, ka24, ka25, ka31, ka32, ka34, ka35, ka41, ka42, ka43, ka45, ka51, ka52, ka53, ka54, if_true, if_false, not_true, not_false_eq_true, or_false, false_or, or_true, true_or, and_true, false_and, true_and]
    exact r_sh0 h x
  · simp only [ka12, ka13, ka14, ka15, ka21, ka23, ka24, ka25, ka31, ka32, ka34, ka35, ka41, ka42, ka43, ka45, ka51, ka52, ka53, ka54, if_true, if_false, not_true, not_false_eq_true, or_false, false_or, or_true, true_or, and_true, false_and, true_and]
    exact r_sh0 h x
  · simp only [ka12, ka13, ka14, ka15, ka21, ka23, ka24, ka25, ka31, ka32, ka34, ka35, ka41, ka42, ka43, ka45, ka51, ka52, ka53, ka54, if_true, if_false, not_true, not_false_eq_true, or_false, false_or, or_true, true_or, and_true, false_and, true_and]
    exact r_sh0 h x
  · simp only [ka12, ka13, ka14, ka15, ka21, ka23, ka24, ka25, ka31, ka32, ka34, ka35, ka41, ka42, ka43, ka45, ka51, ka52, ka53, ka54, if_true, if_false, not_true, not_false_eq_true, or_false, false_or, or_true, true_or, and_true, false_and, true_and]
    obtain ⟨b1, b2, b3⟩ := r_ran h 50
    obtain ⟨d1, d2, d3, d4⟩ := r_sh0 b2 (x + 2)
    exact ⟨⟨b1, d1⟩, fun u => by rw [d2 u], d3, b3.tr d4⟩
  · simp only [ka12, ka13, ka14, ka15, ka21, ka23, ka24, ka25, ka31, ka32, ka34, ka35, ka41, ka42, ka43, ka45, ka51, ka52, ka53, ka54, if_true, if_false, not_true, not_false_eq_true, or_false, false_or, or_true, true_or, and_true, false_and, true_and]
    obtain ⟨b1, b2, b3⟩ := r_ran h 61
    obtain ⟨d1, d2, d3, d4⟩ := r_sh0 b2 x
    rw [d3.2.1, d3.2.2.2.2]
    by_cases c : a = n
    · have e : ¬ shB n a = 0 := by unfold shB; rw [if_pos c]; decide
      rw [if_neg e, if_neg e, if_neg e, if_pos c]
      exact ⟨⟨b1, d1, trivial⟩, fun u => absurd c u, d3, b3.tr d4⟩
    · have e : shB n a = 0 := by unfold shB; rw [if_neg c]
      rw [if_pos e, if_pos e, if_pos e, if_neg c]
      rw [e] at d3 ⊢
      obtain ⟨m1, m2, m3, m4⟩ := r_mv (by simp) d3 a
      exact ⟨⟨b1, d1, m1⟩, fun u => by rw [d2 u, m2], m3, b3.tr (d4.tr m4)⟩
theorem c_tl0 (hk : ki = 1 ∨ ki = 2 ∨ ki = 3 ∨ ki = 4 ∨ ki = 5) (h : cA M l 0 n ki a) (x : Int32) : p_X0_tellsAs_0 M x ∧ r_X0_tellsAs_0 M x = clV ki n a x ^^^ a ∧ cA (w_X0_tellsAs_0 M x) (clT ki (apL l 13)) 0 n ki a ∧ cF M (w_X0_tellsAs_0 M x) := by
  obtain ⟨b1, b2, b3⟩ := c_beg h 13
  obtain ⟨m1, m2, m3, m4⟩ := c_cl hk b2 x
  unfold p_X0_tellsAs_0 r_X0_tellsAs_0 w_X0_tellsAs_0
  rw [b2.2.2.2.1]
  exact ⟨⟨b1, m1, trivial⟩, by rw [m2, m3.2.2.2.2], m3, b3.tr m4⟩
theorem c_tl (hk : ki = 1 ∨ ki = 2 ∨ ki = 3 ∨ ki = 4 ∨ ki = 5) (h : cA M l 0 n ki a) (x : Int32) : p_X0_tellsAs M ki x ∧ (tlB ki n a = 0 → r_X0_tellsAs M ki x = tlV ki n a x) ∧ cA (w_X0_tellsAs M ki x) (tlT ki n a l) (tlB ki n a) n ki a ∧ cF M (w_X0_tellsAs M ki x) := by
  unfold p_X0_tellsAs r_X0_tellsAs w_X0_tellsAs tlV tlT tlB
  have b0 : shB n a = 0 → ¬ a = n := fun u c => by unfold shB at u; rw [if_pos c] at u; exact absurd u (by decide)
  rcases hk with rfl | rfl | rfl | rfl | rfl
  · simp only [ka12, ka13, ka14, ka15, ka21, ka23, ka24, ka25, ka31, ka32, ka34, ka35, ka41, ka42, ka43, ka45, ka51, ka52, ka53, ka54, if_true, if_false, not_true, not_false_eq_true, or_false, false_or, or_true, true_or, and_true, false_and, true_and]
    obtain ⟨b1, b2, b3⟩ := c_beg h 13
    obtain ⟨m1, m2, m3, m4⟩ := c_cl (by simp) b2 x
    rw [b2.2.2.2.1]
    exact ⟨⟨b1, m1⟩, fun _ => by rw [m2, m3.2.2.2.2], m3, b3.tr m4⟩
  · simp only [ka12, ka13, ka14, ka15, ka21, ka23, ka24, ka25, ka31, ka32, ka34, ka35, ka41, ka42, ka43, ka45, ka51, ka52, ka53, ka54, if_true, if_false, not_true, not_false_eq_true, or_false, false_or, or_true, true_or, and_true, false_and, true_and]
    obtain ⟨b1, b2, b3⟩ := c_beg h 31
    obtain ⟨d1, d2, d3, d4⟩ := c_tl0 (by simp) b2 x
    obtain ⟨m1, m2, m3, m4⟩ := c_sh (by simp) d3 n
    rw [d3.2.2.2.1, d3.2.2.1]
    exact ⟨⟨b1, d1, m1⟩, fun u => by rw [d2, m2 (b0 u)], m3, b3.tr (d4.tr m4)⟩
  · simp only [ka12, ka13, ka14, ka15, ka21, ka23, ka24, ka25, ka31, ka32, ka34, ka35, ka41, ka42, ka43, ka45, ka51, ka52, ka53, ka54, if_true, if_false, not_true, not_false_eq_true, or_false, false_or, or_true, true_or, and_true, false_and, true_and]
    obtain ⟨b1, b2, b3⟩ := c_beg h 31
    obtain ⟨d1, d2, d3, d4⟩ := c_tl0 (by simp) b2 x
    obtain ⟨m1, m2, m3, m4⟩ := c_sh (by simp) d3 n
    rw [d3.2.2.2.1, d3.2.2.1]
    exact ⟨⟨b1, d1, m1⟩, fun u => by rw [d2, m2 (b0 u)], m3, b3.tr (d4.tr m4)⟩
  · simp only [ka12, ka13, ka14, ka15, ka21, ka23, ka24, ka25, ka31, ka32, ka34, ka35, ka41, ka42, ka43, ka45, ka51, ka52, ka53, ka54, if_true, if_false, not_true, not_false_eq_true, or_false, false_or, or_true, true_or, and_true, false_and, true_and]
    obtain ⟨b1, b2, b3⟩ := c_beg h 13
    obtain ⟨m1, m2, m3, m4⟩ := c_cl (by simp) b2 x
    rw [b2.2.2.2.1]
    exact ⟨⟨b1, m1⟩, fun _ => by rw [m2, m3.2.2.2.2], m3, b3.tr m4⟩
  · simp only [ka12, ka13, ka14, ka15, ka21, ka23, ka24, ka25, ka31, ka32, ka34, ka35, ka41, ka42, ka43, ka45, ka51, ka52, ka53, ka54, if_true, if_false, not_true, not_false_eq_true, or_false, false_or, or_true, true_or, and_true, false_and, true_and]
    obtain ⟨b1, b2, b3⟩ := c_beg h 60
    obtain ⟨d1, d2, d3, d4⟩ := c_tl0 (by simp) b2 x
    exact ⟨⟨b1, d1⟩, fun _ => by rw [d2], d3, b3.tr d4⟩
theorem r_tl0 (hk : ki = 1 ∨ ki = 2 ∨ ki = 3 ∨ ki = 4 ∨ ki = 5) (h : rA M l br n ki a) (x : Int32) : p_X8_plainTells M x ∧ r_X8_plainTells M x = clV ki n a x ^^^ a ∧ rA (w_X8_plainTells M x) (clT ki (apL l 13)) br n ki a ∧ rF M (w_X8_plainTells M x) := by
  obtain ⟨b1, b2, b3⟩ := r_ran h 13
  obtain ⟨m1, m2, m3, m4⟩ := r_cl hk b2 x
  exact ⟨⟨b1, m1, trivial⟩, by unfold r_X8_plainTells; rw [m2, m3.2.2.2.2], m3, b3.tr m4⟩
theorem r_tl (hk : ki = 1 ∨ ki = 2 ∨ ki = 3 ∨ ki = 4 ∨ ki = 5) (h : rA M l 0 n ki a) (x : Int32) : p_X8_tellsIt M x ∧ (tlB ki n a = 0 → r_X8_tellsIt M x = tlV ki n a x) ∧ rA (w_X8_tellsIt M x) (tlT ki n a l) (tlB ki n a) n ki a ∧ rF M (w_X8_tellsIt M x) := by
  unfold p_X8_tellsIt r_X8_tellsIt w_X8_tellsIt tlV tlT tlB
  have b0 : shB n a = 0 → ¬ a = n := fun u c => by unfold shB at u; rw [if_pos c] at u; exact absurd u (by decide)
  rw [h.2.2.2.1]
  rcases hk with rfl | rfl | rfl | rfl | rfl
  · simp only [ka12, ka13, ka14, ka15, ka21, ka23, ka24, ka25, ka31, ka32, ka34, ka35, ka41, ka42, ka43, ka45, ka51, ka52, ka53, ka54, if_true, if_false, not_true, not_false_eq_true, or_false, false_or, or_true, true_or, and_true, false_and, true_and]
    obtain ⟨m1, m2, m3, m4⟩ := r_tl0 (by simp) h x
    exact ⟨m1, fun _ => m2, m3, m4⟩
  · simp only [ka12, ka13, ka14, ka15, ka21, ka23, ka24, ka25, ka31, ka32, ka34, ka35, ka41, ka42, ka43, ka45, ka51, ka52, ka53, ka54, if_true, if_false, not_true, not_false_eq_true, or_false, false_or, or_true, true_or, and_true, false_and, true_and]
    obtain ⟨b1, b2, b3⟩ := r_ran h 31
    obtain ⟨d1, d2, d3, d4⟩ := r_tl0 (by simp) b2 x
    obtain ⟨m1, m2, m3, m4⟩ := r_sh (by simp) d3 n
    rw [d3.2.2.1]
    exact ⟨⟨b1, d1, m1⟩, fun u => by rw [d2, m2 (b0 u)], m3, b3.tr (d4.tr m4)⟩
  · simp only [ka12, ka13, ka14, ka15, ka21, ka23, ka24, ka25, ka31, ka32, ka34, ka35, ka41, ka42, ka43, ka45, ka51, ka52, ka53, ka54, if_true, if_false, not_true, not_false_eq_true, or_false, false_or, or_true, true_or, and_true, false_and, true_and]
    obtain ⟨b1, b2, b3⟩ := r_ran h 31
    obtain ⟨d1, d2, d3, d4⟩ := r_tl0 (by simp) b2 x
    obtain ⟨m1, m2, m3, m4⟩ := r_sh (by simp) d3 n
    rw [d3.2.2.1]
    exact ⟨⟨b1, d1, m1⟩, fun u => by rw [d2, m2 (b0 u)], m3, b3.tr (d4.tr m4)⟩
  · simp only [ka12, ka13, ka14, ka15, ka21, ka23, ka24, ka25, ka31, ka32, ka34, ka35, ka41, ka42, ka43, ka45, ka51, ka52, ka53, ka54, if_true, if_false, not_true, not_false_eq_true, or_false, false_or, or_true, true_or, and_true, false_and, true_and]
    obtain ⟨m1, m2, m3, m4⟩ := r_tl0 (by simp) h x
    exact ⟨m1, fun _ => m2, m3, m4⟩
  · simp only [ka12, ka13, ka14, ka15, ka21, ka23, ka24, ka25, ka31, ka32, ka34, ka35, ka41, ka42, ka43, ka45, ka51, ka52, ka53, ka54, if_true, if_false, not_true, not_false_eq_true, or_false, false_or, or_true, true_or, and_true, false_and, true_and]
    obtain ⟨b1, b2, b3⟩ := r_ran h 60
    obtain ⟨d1, d2, d3, d4⟩ := r_tl0 (by simp) b2 x
    exact ⟨⟨b1, d1⟩, fun _ => by rw [d2], d3, b3.tr d4⟩
end P44
