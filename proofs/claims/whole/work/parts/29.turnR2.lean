/-! a work's turn in the reference -/
section CT2
variable {A B M : Mm} {T S : Tw} {s o w : Nat} {mb : Int}
theorem r_mv58 (hT : RT B T) (ha : RA B o) (hI : InvT T) (hw : (w : Int) < T 0 2) {fr to : Int32} : p_X8_moves_58 B (iI (w : Int)) (iI (T (10 + w) 0)) to fr ∧
    w_X8_moves_58 B (iI (w : Int)) (iI (T (10 + w) 0)) to fr = rmv (if T (10 + w) 0 = 1 ∨ T (10 + w) 0 = 3 then wi B 607 (o + (aNext T w).toNat) to else B) o (decide (T (10 + w) 0 = 2 ∨ T (10 + w) 0 = 4)) fr to (T (10 + w) 2).toNat (T 0 1).toNat := by
  have hc := hI.1
  have k0 := (hI.2.2.2.2 w hw).1
  have hn := aNext_in hI hw
  obtain ⟨n1, n2⟩ := r_next hT hI hw
  have ixn : Int32.toNatClampNeg (B.1 600 10 + 0 + iI (aNext T w)) = o + (aNext T w).toNat := by
    rw [cl0, (ha.ix hn.1 (c := 0) (by omega) (by omega)).1]
    omega
  have vn := ha.vm hn.1 hn.2 hI
  have x1 : (iI (T (10 + w) 0) = 1) ↔ T (10 + w) 0 = 1 := by rw [cl1, iI_eq (by omega) (by omega) (by omega) (by omega)]
  have x3 : (iI (T (10 + w) 0) = 3) ↔ T (10 + w) 0 = 3 := by rw [cl3, iI_eq (by omega) (by omega) (by omega) (by omega)]
  have F : FrR o B (wi B 607 (o + (aNext T w).toNat) to) := FrR.rf.wi (by omega)
  have q := r_mv86 (hT.fr F) (ha.fr F) hI hw (fr := fr) (to := to)
  have q' := r_mv86 hT ha hI hw (fr := fr) (to := to)
  unfold p_X8_moves_58 w_X8_moves_58
  rw [n2, ixn]
  by_cases c1 : T (10 + w) 0 = 1
  · rw [if_pos (x1.mpr c1), if_pos (x1.mpr c1), if_pos (Or.inl c1)]
    exact ⟨⟨n1, vn, q.1⟩, q.2⟩
  · rw [if_neg (fun h => c1 (x1.mp h)), if_neg (fun h => c1 (x1.mp h))]
    by_cases c3 : T (10 + w) 0 = 3
    · rw [if_neg (not_not_intro (x3.mpr c3)), if_neg (not_not_intro (x3.mpr c3)), if_pos (Or.inr c3)]
      exact ⟨⟨n1, vn, q.1⟩, q.2⟩
    · rw [if_pos (fun h => c3 (x3.mp h)), if_pos (fun h => c3 (x3.mp h)), if_neg (by omega)]
      exact q'
theorem r_moves (hT : RT B T) (ha : RA B o) (hS : RS B o T S) (hI : InvT T) (hJ : InvS T S mb) (hw : (w : Int) < T 0 2) : p_X8_moves B (iI (w : Int)) ∧ RS (w_X8_moves B (iI (w : Int))) o T (aMove T S w) ∧ FrR o B (w_X8_moves B (iI (w : Int))) := by
  have hc := hI.1
  obtain ⟨k0, k1, k2, k3, k4, k5, k6, k7⟩ := hI.2.2.2.2 w hw
  have hn := aNext_in hI hw
  have e0 := hT.w0 hw hI
  have e1 := hT.w1 hw hI
  have e2 := hT.w2 hw hI
  have e3 := hT.w3 hw hI
  have t0 := hS.thing ha k2.1 k2.2 hI
  have bx := hJ.2.1 _ k2.1 k2.2
  have x5 : (iI (T (10 + w) 0) = 5) ↔ T (10 + w) 0 = 5 := by rw [cl5, iI_eq (by omega) (by omega) (by omega) (by omega)]
  have ixm : Int32.toNatClampNeg (B.1 600 10 + 0 + iI (T (10 + w) 1)) = o + (T (10 + w) 1).toNat := by
    rw [cl0, (ha.ix k1.1 (c := 0) (by omega) (by omega)).1]
    omega
  have vm := ha.vm k1.1 k1.2 hI
  have vt := ha.vt k2.1 k2.2 hI
  have F : FrR o B (wi B 607 (o + (T (10 + w) 1).toNat) (iI (T (10 + w) 3))) := FrR.rf.wi (by omega)
  have q := r_mv58 (hT.fr F) (ha.fr F) hI hw (fr := iI (S 1 (T (10 + w) 2).toNat)) (to := iI (T (10 + w) 3))
  have q' := r_mv58 hT ha hI hw (fr := iI (S 1 (T (10 + w) 2).toNat)) (to := iI (T (10 + w) 3))
  -- the memory behind the movers
  have fin : ∀ B2 : Mm, (∀ j, B2.1 607 j = if (T (10 + w) 0 ≠ 5 ∧ j = o + (T (10 + w) 1).toNat) ∨ ((T (10 + w) 0 = 1 ∨ T (10 + w) 0 = 3) ∧ j = o + (aNext T w).toNat) then iI (T (10 + w) 3) else B.1 607 j) → Fr (fun a => a = 607) B B2 →
      RS (rmv B2 o (decide (T (10 + w) 0 = 2 ∨ T (10 + w) 0 = 4)) (iI (S 1 (T (10 + w) 2).toNat)) (iI (T (10 + w) 3)) (T (10 + w) 2).toNat (T 0 1).toNat) o T (aMove T S w) ∧ FrR o B (rmv B2 o (decide (T (10 + w) 0 = 2 ∨ T (10 + w) 0 = 4)) (iI (S 1 (T (10 + w) 2).toNat)) (iI (T (10 + w) 3)) (T (10 + w) 2).toNat (T 0 1).toNat) := by
    intro B2 h2 f2
    have rd : ∀ j, (rmv B2 o (decide (T (10 + w) 0 = 2 ∨ T (10 + w) 0 = 4)) (iI (S 1 (T (10 + w) 2).toNat)) (iI (T (10 + w) 3)) (T (10 + w) 2).toNat (T 0 1).toNat).1 607 j = if 607 = 607 ∧ o + 3 ≤ j ∧ j < o + 3 + (T 0 1).toNat ∧ ((decide (T (10 + w) 0 = 2 ∨ T (10 + w) 0 = 4) = true ∧ B2.1 607 j = iI (S 1 (T (10 + w) 2).toNat)) ∨ j = o + 3 + (T (10 + w) 2).toNat) then iI (T (10 + w) 3) else B2.1 607 j := fun j => rfl
    have hi : ∀ j, o + 3 ≤ j → B2.1 607 j = B.1 607 j := fun j hj => by rw [h2, if_neg (by omega)]
    refine ⟨⟨fun x h0 h1 => ?_, fun x h0 h1 => ?_, fun x h0 h1 => ?_, fun x h0 h1 => ?_, ?_⟩, ⟨fun a h => ?_, fun j hj => ?_⟩⟩
    · rw [rd, if_neg (by omega), h2, hS.1 x h0 h1]
      show _ = iI (if (T (10 + w) 0 ≠ 5 ∧ x.toNat = (T (10 + w) 1).toNat) ∨ ((T (10 + w) 0 = 1 ∨ T (10 + w) 0 = 3) ∧ x.toNat = (aNext T w).toNat) then T (10 + w) 3 else S 0 x.toNat)
      rw [iI_ite]
      congr 1
      split <;> split <;> omega
    · rw [rd]
      show _ = iI (if x.toNat = (T (10 + w) 2).toNat ∨ ((T (10 + w) 0 = 2 ∨ T (10 + w) 0 = 4) ∧ S 1 x.toNat = S 1 (T (10 + w) 2).toNat) then T (10 + w) 3 else S 1 x.toNat)
      rw [hi _ (by omega), hS.2.1 x h0 h1]
      have b2 := hJ.2.1 x h0 h1
      have e := iI_eq (a := S 1 x.toNat) (b := S 1 (T (10 + w) 2).toNat) (by omega) (by omega) (by omega) (by omega)
      by_cases j1 : x.toNat = (T (10 + w) 2).toNat
      · rw [if_pos ⟨rfl, by omega, by omega, Or.inr (by omega)⟩, if_pos (Or.inl j1)]
      · by_cases j2 : (T (10 + w) 0 = 2 ∨ T (10 + w) 0 = 4) ∧ S 1 x.toNat = S 1 (T (10 + w) 2).toNat
        · rw [if_pos ⟨rfl, by omega, by omega, Or.inl ⟨decide_eq_true_iff.mpr j2.1, by rw [j2.2]⟩⟩, if_pos (Or.inr j2)]
        · rw [if_neg, if_neg (fun h => by rcases h with h | h; exact j1 h; exact j2 h)]
          rintro ⟨-, z1, z2, z3⟩
          rcases z3 with z3 | z3
          · exact j2 ⟨decide_eq_true_iff.mp z3.1, e.mp z3.2⟩
          · omega
    · rw [rd, if_neg (by omega), hi _ (by omega)]
      exact hS.2.2.1 x h0 h1
    · rw [rd, if_neg (by omega), hi _ (by omega)]
      exact hS.2.2.2.1 x h0 h1
    · rw [rd, if_neg (by omega), hi _ (by omega)]
      exact hS.2.2.2.2
    · refine ⟨?_, (f2 a h).2⟩
      funext j
      rw [rmv_o _ _ _ _ _ _ _ _ _ h]
      exact congrFun (f2 a h).1 j
    · rw [rd, if_neg (by omega), h2, if_neg (by omega)]
  unfold p_X8_moves w_X8_moves
  rw [e0, e1, e2, e3, t0, ixm]
  by_cases c5 : T (10 + w) 0 = 5
  · rw [if_pos (x5.mpr c5), if_pos (x5.mpr c5), q'.2]
    refine ⟨⟨vw0 hw hI, vw3 hw hI, vw2 hw hI, vt, q'.1⟩, ?_⟩
    rw [if_neg (by omega)]
    exact fin B (fun j => by rw [if_neg (by omega)]) Fr.rf
  · rw [if_neg (fun h => c5 (x5.mp h)), if_neg (fun h => c5 (x5.mp h)), q.2]
    refine ⟨⟨vw0 hw hI, vw3 hw hI, vw2 hw hI, vt, vw1 hw hI, vm, q.1⟩, ?_⟩
    by_cases cn : T (10 + w) 0 = 1 ∨ T (10 + w) 0 = 3
    · rw [if_pos cn]
      refine fin _ (fun j => ?_) (Fr.wi (P := fun a => a = 607) (Fr.wi (P := fun a => a = 607) Fr.rf rfl) rfl)
      by_cases j1 : j = o + (aNext T w).toNat
      · rw [if_pos (Or.inr ⟨cn, j1⟩), j1, rd_same]
      · rw [rd_ne (Or.inr j1)]
        by_cases j2 : j = o + (T (10 + w) 1).toNat
        · rw [if_pos (Or.inl ⟨c5, j2⟩), j2, rd_same]
        · rw [if_neg (by omega), rd_ne (Or.inr j2)]
    · rw [if_neg cn]
      refine fin _ (fun j => ?_) (Fr.wi (P := fun a => a = 607) Fr.rf rfl)
      by_cases j2 : j = o + (T (10 + w) 1).toNat
      · rw [if_pos (Or.inl ⟨c5, j2⟩), j2, rd_same]
      · rw [if_neg (by omega), rd_ne (Or.inr j2)]
theorem r_worthBy (hT : RT B T) (hI : InvT T) (hw : (w : Int) < T 0 2) {m : Int} (b1 : 0 ≤ m ∧ m ≤ 1000000) : p_X8_worthBy B (iI (w : Int)) (iI m) ∧ r_X8_worthBy B (iI (w : Int)) (iI m) = iI (max 0 (T (10 + w) 5 - max 0 (m - T (10 + w) 4))) := by
  obtain ⟨k0, k1, k2, k3, k4, k5, k6, k7⟩ := hI.2.2.2.2 w hw
  have e4 := hT.w4 hw hI
  have e5 := hT.w5 hw hI
  unfold p_X8_worthBy r_X8_worthBy
  rw [e4, e5]
  refine ⟨⟨vw4 hw hI, ?_⟩, ?_⟩
  · split
    · exact ⟨vw5 hw hI, by split <;> trivial⟩
    · exact ⟨vw5 hw hI, by split <;> trivial⟩
  · simp (disch := omega) only [cl0, iI_sub, iI_le, iI_ite]
    congr 1
    split
    · split <;> omega
    · split <;> omega
theorem r_turns (hT : RT B T) (ha : RA B o) (hS : RS B o T S) (hI : InvT T) (hJ : InvS T S mb) (hmb : mb ≤ 900000) (hw : (w : Int) < T 0 2) : p_X8_turns B (iI (w : Int)) ∧ r_X8_turns B (iI (w : Int)) = iI (aWorth T S w) ∧ RS (w_X8_turns B (iI (w : Int))) o T (aTurn T S w) ∧ FrR o B (w_X8_turns B (iI (w : Int))) := by
  have hc := hI.1
  obtain ⟨k0, k1, k2, k3, k4, k5, k6, k7⟩ := hI.2.2.2.2 w hw
  obtain ⟨m1, m2, m3⟩ := r_min hT ha hS hI hJ hw
  have hmin := aMin_le hI hJ hw
  have h4 := hJ.2.2.2.2.1
  have hb2 := aMin2_b hI hJ hw
  obtain ⟨f1, f2⟩ := r_passes hT ha hI (m := S 4 0) (n := aMin T S w) hS.2.2.2.2 h4.1 (by omega) hmin.1 (by omega)
  obtain ⟨s1, s2⟩ := r_spoilt hT ha hS hI hJ hw
  have i9 : ∀ B' : Mm, RA B' o → Int32.toNatClampNeg (B'.1 600 10 + 9 + iI (w : Int)) = o + 9 + w ∧ vp_in (B'.1 600 10 + 9 + iI (w : Int)) 44 := by
    intro B' h
    rw [cl9]
    obtain ⟨q1, q2⟩ := h.ix (x := (w : Int)) (c := 9) (by omega) (by omega) (by omega)
    exact ⟨by rw [q1]; omega, q2⟩
  have i15 : ∀ B' : Mm, RA B' o → Int32.toNatClampNeg (B'.1 600 10 + 15 + iI (w : Int)) = o + 15 + w ∧ vp_in (B'.1 600 10 + 15 + iI (w : Int)) 44 := by
    intro B' h
    rw [cl15]
    obtain ⟨q1, q2⟩ := h.ix (x := (w : Int)) (c := 15) (by omega) (by omega) (by omega)
    exact ⟨by rw [q1]; omega, q2⟩
  unfold p_X8_turns r_X8_turns w_X8_turns
  by_cases c : aSpoil T S w
  · rw [if_pos c] at s2
    simp only [s2, show ¬ (1 : Int32) = 0 by decide, if_false]
    have ew : aWorth T S w = 0 := by unfold aWorth; rw [if_pos c]
    rw [ew, (i9 B ha).1]
    refine ⟨⟨s1, (i9 B ha).2, trivial⟩, cl0, ⟨fun x h0 h1 => ?_, fun x h0 h1 => ?_, fun x h0 h1 => ?_, fun x h0 h1 => ?_, ?_⟩, FrR.rf.wi (by omega)⟩
    · rw [rd_ne (Or.inr (by omega)), aTurn_S c, if_neg (by omega)]
      exact hS.1 x h0 h1
    · rw [rd_ne (Or.inr (by omega)), aTurn_S c, if_neg (by omega)]
      exact hS.2.1 x h0 h1
    · rw [aTurn_S c]
      by_cases q : x.toNat = w
      · rw [if_pos ⟨rfl, q⟩, q, rd_same]
        exact cl2
      · rw [if_neg (fun z => q z.2), rd_ne (Or.inr (by omega))]
        exact hS.2.2.1 x h0 h1
    · rw [rd_ne (Or.inr (by omega)), aTurn_S c, if_neg (by omega)]
      exact hS.2.2.2.1 x h0 h1
    · rw [rd_ne (Or.inr (by omega)), aTurn_S c, if_neg (by omega)]
      exact hS.2.2.2.2
  · rw [if_neg c] at s2
    have ew : aWorth T S w = max 0 (T (10 + w) 5 - max 0 (aMin2 T S w - T (10 + w) 4)) := by unfold aWorth; rw [if_neg c]
    have f2' : w_X8_passes B (iI (aMin T S w)) = wi B 607 (o + 21) (iI (aMin2 T S w)) := f2
    simp only [s2, if_true, m3, m2, f2']
    have F1 : FrR o B (wi B 607 (o + 21) (iI (aMin2 T S w))) := FrR.rf.wi (by omega)
    have B1s : RS (wi B 607 (o + 21) (iI (aMin2 T S w))) o T (fun i k => if i = 4 then aMin2 T S w else S i k) := by
      refine ⟨fun x h0 h1 => ?_, fun x h0 h1 => ?_, fun x h0 h1 => ?_, fun x h0 h1 => ?_, ?_⟩
      · rw [rd_ne (Or.inr (by omega))]; exact hS.1 x h0 h1
      · rw [rd_ne (Or.inr (by omega))]; exact hS.2.1 x h0 h1
      · rw [rd_ne (Or.inr (by omega))]; exact hS.2.2.1 x h0 h1
      · rw [rd_ne (Or.inr (by omega))]; exact hS.2.2.2.1 x h0 h1
      · rw [rd_same]; rfl
    have J1 : InvS T (fun i k => if i = 4 then aMin2 T S w else S i k) (mb + 2000) := by
      obtain ⟨a, b, c, d, e, f⟩ := hJ
      exact ⟨a, b, c, fun x h0 h1 => by have := d x h0 h1; show 0 ≤ S 3 x.toNat ∧ S 3 x.toNat ≤ mb + 2000; omega, by show 0 ≤ aMin2 T S w ∧ aMin2 T S w ≤ mb + 2000; omega, by omega⟩
    generalize wi B 607 (o + 21) (iI (aMin2 T S w)) = B1 at *
    obtain ⟨v1, v2, v3⟩ := r_moves (hT.fr F1) (ha.fr F1) B1s hI J1 hw
    have F2 := F1.tr v3
    generalize w_X8_moves B1 (iI (w : Int)) = B2 at *
    have a2 := ha.fr F2
    rw [(i9 B2 a2).1, (i15 B2 a2).1, a2.x21.1]
    have B2m : B2.1 607 (o + 21) = iI (aMin2 T S w) := v2.2.2.2.2
    have r3 : (wi B2 607 (o + 9 + w) 1).1 607 (o + 21) = iI (aMin2 T S w) := by rw [rd_ne (Or.inr (by omega))]; exact B2m
    rw [r3]
    have r4 : (wi (wi B2 607 (o + 9 + w) 1) 607 (o + 15 + w) (iI (aMin2 T S w))).1 607 (o + 21) = iI (aMin2 T S w) := by rw [rd_ne (Or.inr (by omega))]; exact r3
    rw [r4]
    have F4 : FrR o B (wi (wi B2 607 (o + 9 + w) 1) 607 (o + 15 + w) (iI (aMin2 T S w))) := (F2.wi (by omega)).wi (by omega)
    obtain ⟨w1, w2⟩ := r_worthBy (hT.fr F4) hI hw (m := aMin2 T S w) (by omega)
    rw [w2, ← ew]
    refine ⟨⟨s1, m1, f1, v1, (i9 B2 a2).2, a2.x21.2, (i15 B2 a2).2, a2.x21.2, w1, trivial⟩, rfl, ⟨fun x h0 h1 => ?_, fun x h0 h1 => ?_, fun x h0 h1 => ?_, fun x h0 h1 => ?_, ?_⟩, F4⟩
    · rw [rd_ne (Or.inr (by omega)), rd_ne (Or.inr (by omega)), aTurn_0 c]
      exact v2.1 x h0 h1
    · rw [rd_ne (Or.inr (by omega)), rd_ne (Or.inr (by omega)), aTurn_1 c]
      exact v2.2.1 x h0 h1
    · rw [rd_ne (Or.inr (by omega)), aTurn_2 c]
      by_cases q : x.toNat = w
      · rw [if_pos q, q, rd_same]
        exact cl1
      · rw [if_neg q, rd_ne (Or.inr (by omega))]
        exact v2.2.2.1 x h0 h1
    · rw [aTurn_3 c]
      by_cases q : x.toNat = w
      · rw [if_pos q, q, rd_same]
      · rw [if_neg q, rd_ne (Or.inr (by omega)), rd_ne (Or.inr (by omega))]
        exact v2.2.2.2.1 x h0 h1
    · rw [rd_ne (Or.inr (by omega)), rd_ne (Or.inr (by omega)), aTurn_4 c]
      exact B2m
end CT2
