/-! pairs of calls: minute, pass, had, mover, thing, rule, ruleOf -/
theorem ex_iI (a : Int32) : ∃ x : Int, a = iI x ∧ -2147483648 ≤ x ∧ x < 2147483648 := ⟨a.toInt, iI_of a, by have := a.le_toInt; omega, by have := a.toInt_lt; omega⟩
/-- what a pair of calls must show -/
def PairI (p7 p8 : Prop) (r7 r8 : Int32) (M2 : Mm) (n : Nat) : Prop := p7 ∧ p8 ∧ r7 = r8 ∧ Rel M2 (n + 1)
def tU (T : Tw) (i k : Nat) (v : Int) : Tw := fun a b => if a = i ∧ b = k then v else T a b
theorem tU_s (T : Tw) (i k : Nat) (v : Int) : tU T i k v i k = v := by unfold tU; rw [if_pos ⟨rfl, rfl⟩]
theorem tU_n {T : Tw} {i k a b : Nat} {v : Int} (h : a ≠ i ∨ b ≠ k) : tU T i k v a b = T a b := by
  unfold tU
  rw [if_neg]
  rintro ⟨h1, h2⟩
  rcases h with h | h
  · exact h h1
  · exact h h2
theorem wb {a l h : Int} (b1 : -2147483648 ≤ a) (b2 : a < 2147483648) (c1 : -2147483648 ≤ l) (c2 : l < 2147483648) (d1 : -2147483648 ≤ h) (d2 : h < 2147483648) : (iI l ≤ iI a ∧ iI a ≤ iI h) ↔ (l ≤ a ∧ a ≤ h) := by
  rw [iI_le c1 c2 b1 b2, iI_le b1 b2 d1 d2]
section P32
variable {M : Mm} {n : Nat}
theorem pair_minute (h : Rel M n) (hn : n < 64) : PairI True True (r_X7_minute M) (r_X8_minute M) M n := by
  obtain ⟨T, S, g, h1, h2, h3⟩ := h.1
  refine ⟨trivial, trivial, ?_, h.up (by omega)⟩
  unfold r_X7_minute r_X8_minute
  rw [h1.2.1.2.2.2.2, ← h2.2.1.2.2.2.2]
theorem pair_had (h : Rel M n) (hn : n < 64) : PairI True True (r_X7_had M) (r_X8_had M) M n := by
  obtain ⟨T, S, g, h1, h2, h3⟩ := h.1
  refine ⟨trivial, trivial, ?_, h.up (by omega)⟩
  unfold r_X7_had r_X8_had
  rw [h1.2.2.1, ← h2.2.2.2.1]
theorem pair_pass (h : Rel M n) (hn : n < 64) (a1 : Int32) : PairI True True (r_X7_pass M a1) (r_X8_pass (w_X7_pass M a1) a1) (w_X8_pass (w_X7_pass M a1) a1) n := by
  obtain ⟨x, rfl, x1, x2⟩ := ex_iI a1
  obtain ⟨T, S, g, ⟨c1, c2, c3, c4⟩, ⟨r1, r2, r3, r4, r5⟩, i1, i2, i3, i4, i5⟩ := h.1
  have e7 : M.1 1000 4 = iI (S 4 0) := c2.2.2.2.2
  have e8 : M.1 607 21 = iI (S 4 0) := r2.2.2.2.2
  have bm := i3.2.2.2.2
  unfold r_X7_pass w_X7_pass r_X8_pass w_X8_pass
  have hb : (0 ≤ iI x ∧ iI x ≤ 999) ↔ (0 ≤ x ∧ x ≤ 999) := by rw [cl0, cl999]; exact wb x1 x2 (by omega) (by omega) (by omega) (by omega)
  by_cases c : 0 ≤ x ∧ x ≤ 999
  · have q := b2i_1.mpr (hb.mpr c)
    simp only [if_pos q, e7]
    have f8 : (wi M 1000 4 (iI (S 4 0) + iI x)).1 607 21 = iI (S 4 0) := by rw [rd_ne (Or.inl (by omega))]; exact e8
    rw [f8, iI_add]
    refine ⟨trivial, trivial, rfl, ?_⟩
    have F : Fp (fun a k => (a = 1000 ∧ k = 4) ∨ (a = 607 ∧ k = 21)) M (wi (wi M 1000 4 (iI (S 4 0 + x))) 607 21 (iI (S 4 0 + x))) := Fp.wi (Fp.wi Fp.rf (by omega)) (by omega)
    refine h.of (by omega) F (Or.inr ⟨T, tU S 4 0 (S 4 0 + x), g, ?_⟩) (Or.inl fun a k h => by omega) (Or.inl fun a k h => by omega) (Or.inl fun a k h => by omega) (Or.inl fun a k h => by omega) (Or.inl fun a k h => by omega) (Or.inl fun a k h => by omega) (fun a k h => by omega)
    refine ⟨⟨c1.fp i1 (fun a k h1 h2 => (F a k (by omega)).1), ⟨fun x h0 h1 => ?_, fun x h0 h1 => ?_, fun x h0 h1 => ?_, fun x h0 h1 => ?_, ?_⟩, ?_, c4.fp (fun a k h1 h2 => (F a k (by omega)).1)⟩, ⟨r1.fp (fun a k h1 => (F a k (by omega)).1), ⟨fun x h0 h1 => ?_, fun x h0 h1 => ?_, fun x h0 h1 => ?_, fun x h0 h1 => ?_, ?_⟩, ⟨?_, r3.2⟩, ?_, r5.fp (fun a k h1 => (F a k (by omega)).1)⟩, i1, i2, ?_, i4, by omega⟩
    · rw [(F _ _ (by omega)).1, tU_n (by omega)]; exact c2.1 x h0 h1
    · rw [(F _ _ (by omega)).1, tU_n (by omega)]; exact c2.2.1 x h0 h1
    · rw [(F _ _ (by omega)).1, tU_n (by omega)]; exact c2.2.2.1 x h0 h1
    · rw [(F _ _ (by omega)).1, tU_n (by omega)]; exact c2.2.2.2.1 x h0 h1
    · rw [rd_ne (Or.inl (by omega)), rd_same, tU_s]
    · rw [(F _ _ (by omega)).1]; exact c3
    · have := i1.1
      rw [(F _ _ (by omega)).1, tU_n (by omega)]; exact r2.1 x h0 h1
    · have := i1.1
      rw [(F _ _ (by omega)).1, tU_n (by omega)]; exact r2.2.1 x h0 h1
    · have := i1.1
      rw [(F _ _ (by omega)).1, tU_n (by omega)]; exact r2.2.2.1 x h0 h1
    · have := i1.1
      rw [(F _ _ (by omega)).1, tU_n (by omega)]; exact r2.2.2.2.1 x h0 h1
    · rw [tU_s]; exact rd_same _ _ _ _
    · rw [(F _ _ (by omega)).1]; exact r3.1
    · rw [(F _ _ (by omega)).1]; exact r4
    · obtain ⟨j1, j2, j3, j4, j5, j6⟩ := i3
      refine ⟨fun y h0 h1 => ?_, fun y h0 h1 => ?_, fun y h0 h1 => ?_, fun y h0 h1 => ?_, ?_, by omega⟩
      · rw [tU_n (by omega)]; exact j1 y h0 h1
      · rw [tU_n (by omega)]; exact j2 y h0 h1
      · rw [tU_n (by omega)]; exact j3 y h0 h1
      · rw [tU_n (by omega)]
        have := j4 y h0 h1
        omega
      · rw [tU_s]; omega
  · have q : ¬ ¬ b2i (0 ≤ iI x ∧ iI x ≤ 999) = 0 := fun z => c (hb.mp (b2i_1.mp z))
    simp only [if_neg q]
    exact ⟨trivial, trivial, rfl, h.up (by omega)⟩
/-- a mover, a thing more -/
theorem InvT.addM {T : Tw} {pc : Int} (hI : InvT T) (hm : T 0 0 < 3) (hp : 1 ≤ pc ∧ pc ≤ 5) : InvT (tU (tU T 1 (T 0 0).toNat pc) 0 0 (T 0 0 + 1)) := by
  obtain ⟨⟨h1, h2, h3⟩, h4, h5, h6, h7⟩ := hI
  have e : ∀ i k, i ≠ 0 → i ≠ 1 → tU (tU T 1 (T 0 0).toNat pc) 0 0 (T 0 0 + 1) i k = T i k := fun i k a b => by rw [tU_n (Or.inl a), tU_n (Or.inl b)]
  have e0 : tU (tU T 1 (T 0 0).toNat pc) 0 0 (T 0 0 + 1) 0 0 = T 0 0 + 1 := tU_s _ _ _ _
  have e1 : ∀ k, k ≠ 0 → tU (tU T 1 (T 0 0).toNat pc) 0 0 (T 0 0 + 1) 0 k = T 0 k := fun k a => by rw [tU_n (Or.inr a), tU_n (Or.inl (by omega))]
  refine ⟨⟨by rw [e0]; omega, by rw [e1 1 (by omega)]; exact h2, by rw [e1 2 (by omega)]; exact h3⟩, fun x h0 hx => ?_, fun x h0 hx => ?_, by simp only [e 3 _ (by omega) (by omega)]; exact h6, fun w hw => ?_⟩
  · rw [e0] at hx
    rw [tU_n (Or.inl (by omega))]
    by_cases q : x.toNat = (T 0 0).toNat
    · rw [q, tU_s]; exact hp
    · rw [tU_n (Or.inr q)]; exact h4 x h0 (by omega)
  · rw [e1 1 (by omega)] at hx
    rw [e _ _ (by omega) (by omega)]; exact h5 x h0 hx
  · rw [e1 2 (by omega)] at hw
    obtain ⟨k0, k1, k2, k3, k4, k5, k6, k7⟩ := h7 w hw
    unfold WkI
    simp only [e (10 + w) _ (by omega) (by omega), e0, e1 1 (by omega)]
    exact ⟨k0, ⟨k1.1, by omega⟩, k2, k3, k4, k5, k6, k7⟩
theorem InvT.addT {T : Tw} {pc : Int} (hI : InvT T) (hm : T 0 1 < 6) (hp : 1 ≤ pc ∧ pc ≤ 9) : InvT (tU (tU T 2 (T 0 1).toNat pc) 0 1 (T 0 1 + 1)) := by
  obtain ⟨⟨h1, h2, h3⟩, h4, h5, h6, h7⟩ := hI
  have e : ∀ i k, i ≠ 0 → i ≠ 2 → tU (tU T 2 (T 0 1).toNat pc) 0 1 (T 0 1 + 1) i k = T i k := fun i k a b => by rw [tU_n (Or.inl a), tU_n (Or.inl b)]
  have e0 : tU (tU T 2 (T 0 1).toNat pc) 0 1 (T 0 1 + 1) 0 1 = T 0 1 + 1 := tU_s _ _ _ _
  have e1 : ∀ k, k ≠ 1 → tU (tU T 2 (T 0 1).toNat pc) 0 1 (T 0 1 + 1) 0 k = T 0 k := fun k a => by rw [tU_n (Or.inr a), tU_n (Or.inl (by omega))]
  refine ⟨⟨by rw [e1 0 (by omega)]; exact h1, by rw [e0]; omega, by rw [e1 2 (by omega)]; exact h3⟩, fun x h0 hx => ?_, fun x h0 hx => ?_, by simp only [e 3 _ (by omega) (by omega)]; exact h6, fun w hw => ?_⟩
  · rw [e1 0 (by omega)] at hx
    rw [e _ _ (by omega) (by omega)]; exact h4 x h0 hx
  · rw [e0] at hx
    rw [tU_n (Or.inl (by omega))]
    by_cases q : x.toNat = (T 0 1).toNat
    · rw [q, tU_s]; exact hp
    · rw [tU_n (Or.inr q)]; exact h5 x h0 (by omega)
  · rw [e1 2 (by omega)] at hw
    obtain ⟨k0, k1, k2, k3, k4, k5, k6, k7⟩ := h7 w hw
    unfold WkI
    simp only [e (10 + w) _ (by omega) (by omega), e0, e1 0 (by omega)]
    exact ⟨k0, k1, ⟨k2.1, by omega⟩, k3, k4, k5, k6, k7⟩
end P32
