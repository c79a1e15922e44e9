/-! minutes: the class's and the reference's are aMin -/
theorem abs_iI {a b : Int} (h1 : 0 ≤ a) (h2 : a ≤ 9) (h3 : 0 ≤ b) (h4 : b ≤ 9) : (if 0 ≤ iI a - iI b then iI a - iI b else 0 - (iI a - iI b)) = iI (aAbs (a - b)) := by
  unfold aAbs
  rw [cl0, iI_sub, iI_sub, iteLE (by omega) (by omega) (by omega) (by omega), iI_ite]
theorem far_iI {a b : Int} (h1 : 0 ≤ a) (h2 : a ≤ 9) (h3 : 0 ≤ b) (h4 : b ≤ 9) : (if iI a < iI b then iI b - iI a else iI a - iI b) = iI (aAbs (a - b)) := by
  unfold aAbs
  rw [iI_sub, iI_sub, iteLT (by omega) (by omega) (by omega) (by omega), iI_ite]
  congr 1
  split <;> split <;> omega
theorem up_iI {x p : Int} (h1 : 0 ≤ x) (h2 : x ≤ 1000) (h3 : 1 ≤ p) (h4 : p ≤ 9) : (iI x + iI p - 1) / iI p = iI (aUp x p) := by
  unfold aUp
  rw [cl1, iI_add, iI_sub, iI_div (by omega) (by omega) (by omega) (by omega)]
theorem parts_iI {x p : Int} (h1 : 0 ≤ x) (h2 : x ≤ 1000) (h3 : 1 ≤ p) (h4 : p ≤ 9) : (if iI p < 1 then iI x else (iI x + iI p - 1) / iI p) = iI (aUp x p) := by
  rw [if_neg, up_iI h1 h2 h3 h4]
  rw [cl1, iI_lt (by omega) (by omega) (by omega) (by omega)]
  omega
theorem aOth_s (S : Tw) (t n : Nat) : aOth S t (n + 1) = aOth S t n + (if n ≠ t ∧ S 1 n = S 1 t then 1 else 0) := rfl
section CM
variable {A B : Mm} {T S : Tw} {s o : Nat} {mb : Int}
theorem c_beside (hT : CT A 100 T) (hS : CSt A s T S) (hI : InvT T) (hJ : InvS T S mb) {x : Int} (h0 : 0 ≤ x) (h1 : x < T 0 1) : p_X5_thingsBeside A s (iI x) ∧ r_X5_thingsBeside A s (iI x) = iI (aOth S x.toNat (T 0 1).toNat) := by
  have hc := hI.1
  have hN : Int32.toNatClampNeg (A.1 100 1) = (T 0 1).toNat := by rw [hT.1.2.1, iI_nat (by omega) (by omega)]
  have bx := hJ.2.1 x h0 h1
  have key : ∀ k, k ≤ (T 0 1).toNat → l_X5_thingsBeside_5 A s (iI x) (0, 0) k = (iI (aOth S x.toNat k), iI (k : Int)) := by
    refine it_for _ rfl (fun k hk => ?_)
    have bk := hJ.2.1 (k : Int) (by omega) (by omega)
    have rk := hS.thing (x := (k : Int)) (by omega) (by omega) hI
    rw [Int.toNat_natCast] at bk rk
    have bo := aOth_le S x.toNat k
    show s_X5_thingsBeside_5 A s (iI x) (iI (aOth S x.toNat k), iI (k : Int)) = _
    unfold s_X5_thingsBeside_5
    dsimp only
    rw [hT.1.2.1, rk, hS.thing h0 h1 hI]
    simp (disch := omega) only [iI_le, iI_eq]
    rw [if_neg (show ¬ T 0 1 ≤ (k : Int) by omega), cl1, iI_add, iI_add]
    rw [aOth_s]
    by_cases c1 : (k : Int) = x
    · rw [if_pos c1, if_neg (show ¬ (k ≠ x.toNat ∧ S 1 k = S 1 x.toNat) by omega)]
      simp
    · rw [if_neg c1]
      by_cases c2 : S 1 k = S 1 x.toNat
      · rw [if_neg (not_not_intro c2), if_pos ⟨by omega, c2⟩]
        simp
      · rw [if_pos c2, if_neg (show ¬ (k ≠ x.toNat ∧ S 1 k = S 1 x.toNat) from fun h => c2 h.2)]
        simp
  have kN := key _ (Nat.le_refl _)
  have fin : (A.1 100 1 ≤ (l_X5_thingsBeside_5 A s (iI x) (0, 0) (Int32.toNatClampNeg (A.1 100 1))).2) := by
    rw [hN, kN, hT.1.2.1]
    dsimp only
    rw [iI_le (by omega) (by omega) (by omega) (by omega)]
    omega
  refine ⟨⟨fun k hk => ?_, fun k hk => ?_, ?_, ?_⟩, ?_⟩
  · rw [hN] at hk
    rw [key k (by omega)]
    unfold c_X5_thingsBeside_5
    dsimp only
    rw [hT.1.2.1, iteLE (by omega) (by omega) (by omega) (by omega), if_neg (by omega)]
    trivial
  · rw [hN] at hk
    rw [key k (by omega)]
    unfold q_X5_thingsBeside_5
    dsimp only
    rw [hT.1.2.1, iteLE (by omega) (by omega) (by omega) (by omega), if_neg (by omega)]
    split
    · trivial
    · exact ⟨vin_iI (by omega) (by omega) (by omega), vin_iI (by omega) (by omega) (by omega), by split <;> trivial⟩
  · unfold c_X5_thingsBeside_5
    rw [if_pos fin]
    exact fun h => h
  · rw [if_pos fin]
    trivial
  · unfold r_X5_thingsBeside
    rw [if_pos fin, hN, kN]
theorem c_next (hT : CT A 100 T) (hI : InvT T) {w : Nat} (hw : (w : Int) < T 0 2) : r_X5_nextMover A (iI (T (10 + w) 1)) = iI (aNext T w) := by
  have hc := hI.1
  have k1 := (hI.2.2.2.2 w hw).2.1
  unfold r_X5_nextMover aNext
  rw [hT.1.1, cl1, cl0, iI_add, iteLE (by omega) (by omega) (by omega) (by omega), iI_ite]
theorem c_min (hT : CT A 100 T) (hS : CSt A s T S) (hI : InvT T) (hJ : InvS T S mb) {w : Nat} (hw : (w : Int) < T 0 2) : p_X5_minutesOf A s (iI (w : Int)) ∧ r_X5_minutesOf A s (iI (w : Int)) = iI (aMin T S w) ∧ w_X5_minutesOf A s (iI (w : Int)) = A := by
  have hc := hI.1
  obtain ⟨k0, k1, k2, k3, k4, k5, k6, k7⟩ := hI.2.2.2.2 w hw
  obtain ⟨⟨a1, a2⟩, ⟨b1, b2⟩, ⟨c1, c2⟩, ⟨d1, d2⟩⟩ := aMin_parts hI hJ hw
  have hn := aNext_in hI hw
  have hp := hI.2.1 _ k1.1 k1.2
  have e0 := hT.wk hw hI (f := 0) (by omega)
  have e1 := hT.wk hw hI (f := 1) (by omega)
  have e2 := hT.wk hw hI (f := 2) (by omega)
  have e3 := hT.wk hw hI (f := 3) (by omega)
  have m0 := hS.mover k1.1 k1.2 hI
  have t0 := hS.thing k2.1 k2.2 hI
  have pa := hT.pace k1.1 k1.2 hI
  have wt := hT.weight k2.1 k2.2 hI
  have nx := c_next hT hI hw
  have mn := hS.mover hn.1 hn.2 hI
  have bs := c_beside hT hS hI hJ k2.1 k2.2
  have s0 := hJ.1 _ k1.1 k1.2
  have s1 := hJ.2.1 _ k2.1 k2.2
  have sn := hJ.1 _ hn.1 hn.2
  have q1 := abs_iI s1.1 s1.2 k3.1 k3.2
  have q2 := abs_iI s0.1 s0.2 s1.1 s1.2
  have q3 := abs_iI sn.1 sn.2 s1.1 s1.2
  have eL : aAbs (S 1 (T (10 + w) 2).toNat - T (10 + w) 3) * T 2 (T (10 + w) 2).toNat = aLoad T S w := rfl
  have qp := parts_iI (x := aLoad T S w) (p := T 1 (T (10 + w) 1).toNat) a1 (by omega) hp.1 (by omega)
  have eP : aAbs (S 0 (T (10 + w) 1).toNat - S 1 (T (10 + w) 2).toNat) + aUp (aLoad T S w) (T 1 (T (10 + w) 1).toNat) = aPlain T S w := rfl
  have eW : aAbs (S 0 (aNext T w).toNat - S 1 (T (10 + w) 2).toNat) = aWalkN T S w := rfl
  have q2' := up_iI (x := aPlain T S w + aOth S (T (10 + w) 2).toNat (T 0 1).toNat) (p := 2) (by omega) (by omega) (by omega) (by omega)
  refine ⟨?_, ?_, ?_⟩
  · unfold p_X5_minutesOf
    simp only [e0, e1, e2, nx]
    exact ⟨vin_iI (by omega) (by omega) (by omega), vin_iI (by omega) (by omega) (by omega), vin_iI (by omega) (by omega) (by omega), vin_iI (by omega) (by omega) (by omega), vin_iI (by omega) (by omega) (by omega), vin_iI (by omega) (by omega) (by omega), by simp only [bs.1, and_self, ite_self]⟩
  · unfold r_X5_minutesOf
    rw [← cl2] at q2'
    simp only [e0, e1, e2, e3, m0, t0, pa, wt, nx, mn, bs.2, q1, q2, q3, iI_mul, eL, qp]
    rw [iI_add, eP, iI_add, iI_add, eW, q2', if_neg (show ¬ (2 : Nat) < 1 by decide)]
    unfold aMin
    simp (disch := omega) only [cl1, cl2, cl3, cl4, cl5, iI_eq, iI_mul, iI_ite]
  · unfold w_X5_minutesOf
    simp only [ite_self]
theorem r_walk (hT : RT B T) (ha : RA B o) (hS : RS B o T S) (hI : InvT T) (hJ : InvS T S mb) {w : Nat} (hw : (w : Int) < T 0 2) {x : Int} (h0 : 0 ≤ x) (h1 : x < T 0 0) : p_X8_walk B (iI x) (iI (w : Int)) ∧ r_X8_walk B (iI x) (iI (w : Int)) = iI (aAbs (S 0 x.toNat - S 1 (T (10 + w) 2).toNat)) := by
  have k2 := (hI.2.2.2.2 w hw).2.2.1
  have s0 := hJ.1 _ h0 h1
  have s1 := hJ.2.1 _ k2.1 k2.2
  have e2 := hT.w2 hw hI
  have m0 := hS.mover ha h0 h1 hI
  have t0 := hS.thing ha k2.1 k2.2 hI
  constructor
  · unfold p_X8_walk
    rw [e2]
    exact ⟨ha.vm h0 h1 hI, vw2 hw hI, ha.vt k2.1 k2.2 hI, trivial⟩
  · unfold r_X8_walk
    rw [e2, m0, t0]
    exact far_iI s0.1 s0.2 s1.1 s1.2
theorem r_carry (hT : RT B T) (ha : RA B o) (hS : RS B o T S) (hI : InvT T) (hJ : InvS T S mb) {w : Nat} (hw : (w : Int) < T 0 2) {p : Int} (h0 : 1 ≤ p) (h1 : p ≤ 9) : p_X8_carry B (iI (w : Int)) (iI p) ∧ r_X8_carry B (iI (w : Int)) (iI p) = iI (aUp (aLoad T S w) p) := by
  obtain ⟨k0, k1, k2, k3, k4, k5, k6, k7⟩ := hI.2.2.2.2 w hw
  obtain ⟨⟨a1, a2⟩, -⟩ := aMin_parts hI hJ hw
  have hc := hI.1
  have s1 := hJ.2.1 _ k2.1 k2.2
  have e2 := hT.w2 hw hI
  have e3 := hT.w3 hw hI
  have t0 := hS.thing ha k2.1 k2.2 hI
  have wt := hT.weight k2.1 k2.2 hI
  constructor
  · unfold p_X8_carry
    rw [e2]
    refine ⟨vw2 hw hI, ha.vt k2.1 k2.2 hI, vw3 hw hI, vin_iI (by omega) (by omega) (by omega), ?_, trivial⟩
    rw [cl0, iI_eq (by omega) (by omega) (by omega) (by omega)]
    omega
  · unfold r_X8_carry
    rw [e2, e3, t0, wt, far_iI s1.1 s1.2 k3.1 k3.2, iI_mul]
    exact up_iI (x := aLoad T S w) a1 (by omega) h0 h1
theorem r_next (hT : RT B T) (hI : InvT T) {w : Nat} (hw : (w : Int) < T 0 2) : p_X8_nextMover B (iI (w : Int)) ∧ r_X8_nextMover B (iI (w : Int)) = iI (aNext T w) := by
  have hc := hI.1
  have k1 := (hI.2.2.2.2 w hw).2.1
  have e1 := hT.w1 hw hI
  constructor
  · unfold p_X8_nextMover
    refine ⟨vw1 hw hI, ?_, trivial⟩
    rw [hT.1.1, cl0, iI_eq (by omega) (by omega) (by omega) (by omega)]
    omega
  · unfold r_X8_nextMover aNext
    rw [e1, hT.1.1, cl1, iI_add, iI_div (by omega) (by omega) (by omega) (by omega), iI_mul, iI_sub]
    congr 1
    generalize T (10 + w) 1 = y at k1 ⊢
    have h : T 0 0 = 1 ∨ T 0 0 = 2 ∨ T 0 0 = 3 := by omega
    rcases h with h | h | h <;> rw [h] at k1 ⊢ <;> split <;> omega
theorem r_others (hT : RT B T) (ha : RA B o) (hS : RS B o T S) (hI : InvT T) (hJ : InvS T S mb) {w : Nat} (hw : (w : Int) < T 0 2) : p_X8_othersThere B (iI (w : Int)) ∧ r_X8_othersThere B (iI (w : Int)) = iI (aOth S (T (10 + w) 2).toNat (T 0 1).toNat) := by
  have hc := hI.1
  have hN : Int32.toNatClampNeg (B.1 600 1) = (T 0 1).toNat := by rw [hT.1.2.1, iI_nat (by omega) (by omega)]
  have k2 := (hI.2.2.2.2 w hw).2.2.1
  have bx := hJ.2.1 _ k2.1 k2.2
  have e2 := hT.w2 hw hI
  have t0 := hS.thing ha k2.1 k2.2 hI
  have key : ∀ k, k ≤ (T 0 1).toNat → l_X8_othersThere_4 B (iI (w : Int)) (0, 0) k = (iI (aOth S (T (10 + w) 2).toNat k), iI (k : Int)) := by
    refine it_for _ rfl (fun k hk => ?_)
    have bk := hJ.2.1 (k : Int) (by omega) (by omega)
    have rk := hS.thing ha (x := (k : Int)) (by omega) (by omega) hI
    rw [Int.toNat_natCast] at bk rk
    have bo := aOth_le S (T (10 + w) 2).toNat k
    show s_X8_othersThere_4 B (iI (w : Int)) (iI (aOth S (T (10 + w) 2).toNat k), iI (k : Int)) = _
    unfold s_X8_othersThere_4
    dsimp only
    rw [hT.1.2.1, e2, rk, t0]
    simp (disch := omega) only [iI_le, iI_eq]
    rw [if_neg (show ¬ T 0 1 ≤ (k : Int) by omega), cl1, cl0, iI_add, iI_add, iI_add]
    rw [aOth_s]
    by_cases c1 : (k : Int) = T (10 + w) 2
    · rw [if_pos c1, if_neg (show ¬ (k ≠ (T (10 + w) 2).toNat ∧ S 1 k = S 1 (T (10 + w) 2).toNat) by omega)]
      simp
    · rw [if_neg c1]
      by_cases c2 : S 1 k = S 1 (T (10 + w) 2).toNat
      · rw [if_neg (not_not_intro c2), if_pos ⟨by omega, c2⟩]
        simp
      · rw [if_pos c2, if_neg (show ¬ (k ≠ (T (10 + w) 2).toNat ∧ S 1 k = S 1 (T (10 + w) 2).toNat) from fun h => c2 h.2)]
        simp
  have kN := key _ (Nat.le_refl _)
  have fin : (B.1 600 1 ≤ (l_X8_othersThere_4 B (iI (w : Int)) (0, 0) (Int32.toNatClampNeg (B.1 600 1))).2) := by
    rw [hN, kN, hT.1.2.1]
    dsimp only
    rw [iI_le (by omega) (by omega) (by omega) (by omega)]
    omega
  refine ⟨⟨fun k hk => ?_, fun k hk => ?_, ?_, ?_⟩, ?_⟩
  · rw [hN] at hk
    rw [key k (by omega)]
    unfold c_X8_othersThere_4
    dsimp only
    rw [hT.1.2.1, iteLE (by omega) (by omega) (by omega) (by omega), if_neg (by omega)]
    trivial
  · rw [hN] at hk
    rw [key k (by omega)]
    unfold q_X8_othersThere_4
    dsimp only
    rw [hT.1.2.1, iteLE (by omega) (by omega) (by omega) (by omega), if_neg (by omega), e2]
    refine ⟨vw2 hw hI, ?_⟩
    split
    · trivial
    · exact ⟨ha.vt (x := (k : Int)) (by omega) (by omega) hI, vw2 hw hI, ha.vt k2.1 k2.2 hI, by split <;> trivial⟩
  · unfold c_X8_othersThere_4
    rw [if_pos fin]
    exact fun h => h
  · rw [if_pos fin]
    trivial
  · unfold r_X8_othersThere
    rw [if_pos fin, hN, kN]
theorem r_plain (hT : RT B T) (ha : RA B o) (hS : RS B o T S) (hI : InvT T) (hJ : InvS T S mb) {w : Nat} (hw : (w : Int) < T 0 2) : p_X8_plainMinutes B (iI (w : Int)) ∧ r_X8_plainMinutes B (iI (w : Int)) = iI (aPlain T S w) := by
  have hc := hI.1
  have k1 := (hI.2.2.2.2 w hw).2.1
  have hp := hI.2.1 _ k1.1 k1.2
  have e1 := hT.w1 hw hI
  have pa := hT.pace k1.1 k1.2 hI
  have wk := r_walk hT ha hS hI hJ hw k1.1 k1.2
  have cy := r_carry hT ha hS hI hJ hw hp.1 (by omega)
  constructor
  · unfold p_X8_plainMinutes
    rw [e1, pa]
    exact ⟨vw1 hw hI, wk.1, vw1 hw hI, vin_iI (by omega) (by omega) (by omega), cy.1, trivial⟩
  · unfold r_X8_plainMinutes
    rw [e1, pa, wk.2, cy.2, iI_add]
    rfl
theorem r_heavy (hT : RT B T) (ha : RA B o) (hS : RS B o T S) (hI : InvT T) (hJ : InvS T S mb) {w : Nat} (hw : (w : Int) < T 0 2) : p_X8_heavyMinutes B (iI (w : Int)) ∧ r_X8_heavyMinutes B (iI (w : Int)) = iI (aPlain T S w + aWalkN T S w) := by
  have hn := aNext_in hI hw
  have nx := r_next hT hI hw
  have pl := r_plain hT ha hS hI hJ hw
  have wk := r_walk hT ha hS hI hJ hw hn.1 hn.2
  constructor
  · unfold p_X8_heavyMinutes
    rw [nx.2]
    exact ⟨pl.1, nx.1, wk.1, trivial⟩
  · unfold r_X8_heavyMinutes
    rw [nx.2, pl.2, wk.2, iI_add]
    rfl
theorem r_min (hT : RT B T) (ha : RA B o) (hS : RS B o T S) (hI : InvT T) (hJ : InvS T S mb) {w : Nat} (hw : (w : Int) < T 0 2) : p_X8_minutesOf B (iI (w : Int)) ∧ r_X8_minutesOf B (iI (w : Int)) = iI (aMin T S w) ∧ w_X8_minutesOf B (iI (w : Int)) = B := by
  have k0 := (hI.2.2.2.2 w hw).1
  obtain ⟨⟨a1, a2⟩, ⟨b1, b2⟩, ⟨c1, c2⟩, ⟨d1, d2⟩⟩ := aMin_parts hI hJ hw
  have e0 := hT.w0 hw hI
  have pl := r_plain hT ha hS hI hJ hw
  have hv := r_heavy hT ha hS hI hJ hw
  have ot := r_others hT ha hS hI hJ hw
  have cy := r_carry hT ha hS hI hJ hw (p := 1) (by omega) (by omega)
  have el : aUp (aLoad T S w) 1 = aLoad T S w := by unfold aUp; omega
  rw [el, ← cl1] at cy
  have q2' := up_iI (x := aPlain T S w + aOth S (T (10 + w) 2).toNat (T 0 1).toNat) (p := 2) (by omega) (by omega) (by omega) (by omega)
  rw [← cl2] at q2'
  refine ⟨?_, ?_, ?_⟩
  · unfold p_X8_minutesOf
    refine ⟨vw0 hw hI, ?_⟩
    simp only [pl.1, hv.1, ot.1, cy.1, and_self, show ¬ (2 : Int32) = 0 by decide, not_false_eq_true, ite_self]
  · unfold r_X8_minutesOf
    rw [e0, hv.2, pl.2, ot.2, cy.2, iI_add, q2']
    unfold aMin
    simp (disch := omega) only [cl1, cl2, cl3, cl4, cl5, iI_eq, iI_mul, iI_ite]
  · unfold w_X8_minutesOf
    simp only [ite_self]
end CM
