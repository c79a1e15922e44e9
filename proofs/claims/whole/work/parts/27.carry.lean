/-! a work's turn in the class -/
theorem CT.fr {A A' : Mm} {b : Nat} {T : Tw} {P : Nat → Prop} (h : CT A b T) (hI : InvT T) (hF : Fr P A A') (hP : ∀ a, b ≤ a → a ≤ b + 15 → ¬ P a) : CT A' b T := by
  have hc := hI.1
  refine ⟨⟨?_, ?_, ?_⟩, fun x h0 h1 => ?_, fun x h0 h1 => ?_, fun k hk => ?_, fun w f hw hf => ?_⟩
  · rw [hF.at (hP b (by omega) (by omega))]; exact h.1.1
  · rw [hF.at (hP b (by omega) (by omega))]; exact h.1.2.1
  · rw [hF.at (hP b (by omega) (by omega))]; exact h.1.2.2
  · rw [hF.at (hP (b + 1) (by omega) (by omega))]; exact h.2.1 x h0 h1
  · rw [hF.at (hP (b + 2) (by omega) (by omega))]; exact h.2.2.1 x h0 h1
  · rw [hF.at (hP (b + 4) (by omega) (by omega))]; exact h.2.2.2.1 k hk
  · rw [hF.at (hP (b + 10 + w) (by omega) (by omega))]; exact h.2.2.2.2 w f hw hf
theorem CSt.fr {A A' : Mm} {s : Nat} {T S : Tw} {P : Nat → Prop} (h : CSt A s T S) (hF : Fr P A A') (hP : ∀ a, s ≤ a → a ≤ s + 4 → ¬ P a) : CSt A' s T S := by
  refine ⟨fun x h0 h1 => ?_, fun x h0 h1 => ?_, fun x h0 h1 => ?_, fun x h0 h1 => ?_, ?_⟩
  · rw [hF.at (hP (s + 1) (by omega) (by omega))]; exact h.1 x h0 h1
  · rw [hF.at (hP (s + 2) (by omega) (by omega))]; exact h.2.1 x h0 h1
  · rw [hF.at (hP (s + 3) (by omega) (by omega))]; exact h.2.2.1 x h0 h1
  · rw [hF.at (hP (s + 4) (by omega) (by omega))]; exact h.2.2.2.1 x h0 h1
  · rw [hF.at (hP s (by omega) (by omega))]; exact h.2.2.2.2
section CC
variable {A B M : Mm} {T S : Tw} {s o w : Nat} {mb : Int}
theorem aTurn_0 (c : ¬ aSpoil T S w) (k : Nat) : aTurn T S w 0 k = aMove T S w 0 k := by unfold aTurn; rw [if_neg c]; simp
theorem aTurn_1 (c : ¬ aSpoil T S w) (k : Nat) : aTurn T S w 1 k = aMove T S w 1 k := by unfold aTurn; rw [if_neg c]; simp
theorem aTurn_2 (c : ¬ aSpoil T S w) (k : Nat) : aTurn T S w 2 k = if k = w then 1 else S 2 k := by unfold aTurn; rw [if_neg c]; simp [aMove]
theorem aTurn_3 (c : ¬ aSpoil T S w) (k : Nat) : aTurn T S w 3 k = if k = w then aMin2 T S w else S 3 k := by unfold aTurn; rw [if_neg c]; simp [aMove]
theorem aTurn_4 (c : ¬ aSpoil T S w) : aTurn T S w 4 0 = aMin2 T S w := by unfold aTurn; rw [if_neg c]; simp
theorem aTurn_S (c : aSpoil T S w) (i k : Nat) : aTurn T S w i k = if i = 2 ∧ k = w then 2 else S i k := by unfold aTurn; rw [if_pos c]
theorem aMin2_b (hI : InvT T) (hJ : InvS T S mb) (hw : (w : Int) < T 0 2) : S 4 0 ≤ aMin2 T S w ∧ aMin2 T S w ≤ S 4 0 + 2000 := by
  have hm := aMin_le hI hJ hw
  have hl := hI.2.2.2.1.1
  have h4 := hJ.2.2.2.2.1
  unfold aMin2
  by_cases h : 1 ≤ aMin T S w
  · have := aAfter_b hl.1 hl.2 h4.1 h
    omega
  · rw [aAfter_le (by omega)]
    omega
theorem aWorth_b (hI : InvT T) (hw : (w : Int) < T 0 2) : 0 ≤ aWorth T S w ∧ aWorth T S w ≤ 99 := by
  have k5 := (hI.2.2.2.2 w hw).2.2.2.2.2.1
  unfold aWorth
  split <;> omega
theorem aLate_b : 0 ≤ aLate T S w ∧ aLate T S w ≤ 1 := by
  unfold aLate
  split
  · omega
  · split <;> omega
theorem InvS.mono {mc : Int} (h : InvS T S mb) (h1 : mb ≤ mc) (h2 : mc ≤ 1000000) : InvS T S mc := by
  obtain ⟨a, b, c, d, e, f⟩ := h
  exact ⟨a, b, c, fun x h0 h1 => by have := d x h0 h1; omega, by omega, h2⟩
theorem InvS.turn (hI : InvT T) (hJ : InvS T S mb) (hw : (w : Int) < T 0 2) (hm : mb + 2000 ≤ 1000000) : InvS T (aTurn T S w) (mb + 2000) := by
  obtain ⟨k0, k1, k2, k3, k4, k5, k6, k7⟩ := hI.2.2.2.2 w hw
  have hb := aMin2_b hI hJ hw
  obtain ⟨a, b, c, d, e, f⟩ := hJ
  by_cases cs : aSpoil T S w
  · refine ⟨fun x h0 h1 => ?_, fun x h0 h1 => ?_, fun x h0 h1 => ?_, fun x h0 h1 => ?_, ?_, hm⟩
    · rw [aTurn_S cs, if_neg (by omega)]; exact a x h0 h1
    · rw [aTurn_S cs, if_neg (by omega)]; exact b x h0 h1
    · rw [aTurn_S cs]
      have := c x h0 h1
      split <;> omega
    · rw [aTurn_S cs, if_neg (by omega)]
      have := d x h0 h1
      omega
    · rw [aTurn_S cs, if_neg (by omega)]; omega
  · refine ⟨fun x h0 h1 => ?_, fun x h0 h1 => ?_, fun x h0 h1 => ?_, fun x h0 h1 => ?_, ?_, hm⟩
    · rw [aTurn_0 cs]
      have := a x h0 h1
      unfold aMove
      rw [if_pos rfl]
      split <;> omega
    · rw [aTurn_1 cs]
      have := b x h0 h1
      unfold aMove
      rw [if_neg (by omega), if_pos rfl]
      split <;> omega
    · rw [aTurn_2 cs]
      have := c x h0 h1
      split <;> omega
    · rw [aTurn_3 cs]
      have := d x h0 h1
      split <;> omega
    · rw [aTurn_4 cs]; omega
theorem worth_iI {wk : Nat} {m du wo : Int} (h4 : M.1 wk 4 = iI du) (h5 : M.1 wk 5 = iI wo) (b1 : 0 ≤ m ∧ m ≤ 1000000) (b2 : 0 ≤ du ∧ du ≤ 999) (b3 : 0 ≤ wo ∧ wo ≤ 99) : r_X6_worthAt M wk (iI m) = iI (max 0 (wo - max 0 (m - du))) := by
  have e1 : (if 0 < iI m - iI du then iI m - iI du else 0) = iI (max 0 (m - du)) := by
    rw [cl0, iI_sub, iteLT (by omega) (by omega) (by omega) (by omega), iI_ite]
    congr 1
    split <;> omega
  unfold r_X6_worthAt
  simp only [h4, h5, e1]
  rw [cl0, iI_sub, iteLT (by omega) (by omega) (by omega) (by omega), iI_ite]
  congr 1
  split <;> omega
theorem c_carry (hs : 1000 ≤ s) (hT : CT A 100 T) (hS : CSt A s T S) {g l : Int} (hg : A.1 s 5 = iI g) (hl : A.1 s 6 = iI l) (hI : InvT T) (hJ : InvS T S mb) (hmb : mb ≤ 900000) (hw : (w : Int) < T 0 2) (hb : aNoB T S w) :
    p_X5_carryOut A s (iI (w : Int)) ∧ r_X5_carryOut A s (iI (w : Int)) = iI (aWorth T S w) ∧ CSt (w_X5_carryOut A s (iI (w : Int))) s T (aTurn T S w) ∧ (w_X5_carryOut A s (iI (w : Int))).1 s 5 = iI (g + aWorth T S w) ∧ (w_X5_carryOut A s (iI (w : Int))).1 s 6 = iI (l + aLate T S w) ∧ Fr (fun a => s ≤ a ∧ a ≤ s + 4) A (w_X5_carryOut A s (iI (w : Int))) := by
  have hc := hI.1
  obtain ⟨k0, k1, k2, k3, k4, k5, k6, k7⟩ := hI.2.2.2.2 w hw
  obtain ⟨m1, m2, m3⟩ := c_min hT hS hI hJ hw
  have hmin := aMin_le hI hJ hw
  have h4 := hJ.2.2.2.2.1
  have hb2 := aMin2_b hI hJ hw
  obtain ⟨f1, f2⟩ := c_after hT hI (m := S 4 0) (n := aMin T S w) h4.1 (by omega) hmin.1 (by omega)
  obtain ⟨s1, s2⟩ := c_spoils hT hS hI hJ hw hb
  have hv : vp_in (iI (w : Int)) 6 := vin_iI (by omega) (by omega) (by omega)
  have hwk : 110 + Int32.toNatClampNeg (iI (w : Int)) < 1000 := by rw [natk rfl (by omega)]; omega
  have e4 := hT.wk hw hI (f := 4) (by omega)
  have e5 := hT.wk hw hI (f := 5) (by omega)
  have nw : Int32.toNatClampNeg (iI (w : Int)) = w := natk rfl (by omega)
  unfold p_X5_carryOut r_X5_carryOut w_X5_carryOut
  by_cases c : aSpoil T S w
  · rw [if_pos c] at s2
    simp only [s2, show ¬ (1 : Int32) = 0 by decide, if_false]
    rw [nw]
    have ew : aWorth T S w = 0 := by unfold aWorth; rw [if_pos c]
    have el : aLate T S w = 1 := by unfold aLate; rw [if_pos c]
    rw [ew, el]
    rw [nw] at s1
    refine ⟨⟨hv, s1, hv, trivial⟩, cl0, ⟨fun x h0 h1 => ?_, fun x h0 h1 => ?_, fun x h0 h1 => ?_, fun x h0 h1 => ?_, ?_⟩, ?_, ?_, ?_⟩
    · rw [rd_ne (Or.inl (by omega)), rd_ne (Or.inl (by omega)), aTurn_S c, if_neg (by omega)]
      exact hS.1 x h0 h1
    · rw [rd_ne (Or.inl (by omega)), rd_ne (Or.inl (by omega)), aTurn_S c, if_neg (by omega)]
      exact hS.2.1 x h0 h1
    · rw [rd_ne (Or.inl (by omega)), aTurn_S c]
      by_cases q : x.toNat = w
      · rw [if_pos ⟨rfl, q⟩, q, rd_same]
        exact cl2
      · rw [if_neg (fun z => q z.2), rd_ne (Or.inr q)]
        exact hS.2.2.1 x h0 h1
    · rw [rd_ne (Or.inl (by omega)), rd_ne (Or.inl (by omega)), aTurn_S c, if_neg (by omega)]
      exact hS.2.2.2.1 x h0 h1
    · rw [rd_ne (Or.inr (by omega)), rd_ne (Or.inl (by omega)), aTurn_S c, if_neg (by omega)]
      exact hS.2.2.2.2
    · rw [rd_ne (Or.inr (by omega)), rd_ne (Or.inl (by omega)), hg]
      congr 1
      omega
    · rw [rd_same, rd_ne (Or.inl (by omega)), hl, cl1, iI_add]
    · exact (Fr.rf.wi (by omega)).wi (by omega)
  · rw [if_neg c] at s2
    have ew : aWorth T S w = max 0 (T (10 + w) 5 - max 0 (aMin2 T S w - T (10 + w) 4)) := by unfold aWorth; rw [if_neg c]
    have el : aLate T S w = if aMin2 T S w ≤ T (10 + w) 4 then 0 else 1 := by unfold aLate; rw [if_neg c]
    have f2' : r_X5_after A (iI (S 4 0)) (iI (aMin T S w)) = iI (aMin2 T S w) := f2
    simp only [s2, if_true, m3, m2, hS.2.2.2.2, f2']
    -- the minute
    have A1s : CSt (wi A s 4 (iI (aMin2 T S w))) s T (fun i k => if i = 4 then aMin2 T S w else S i k) := by
      refine ⟨fun x h0 h1 => ?_, fun x h0 h1 => ?_, fun x h0 h1 => ?_, fun x h0 h1 => ?_, ?_⟩
      · rw [rd_ne (Or.inl (by omega))]; exact hS.1 x h0 h1
      · rw [rd_ne (Or.inl (by omega))]; exact hS.2.1 x h0 h1
      · rw [rd_ne (Or.inl (by omega))]; exact hS.2.2.1 x h0 h1
      · rw [rd_ne (Or.inl (by omega))]; exact hS.2.2.2.1 x h0 h1
      · rw [rd_same]; rfl
    have A1f : Fr (fun a => s ≤ a ∧ a ≤ s + 4) A (wi A s 4 (iI (aMin2 T S w))) := Fr.rf.wi (by omega)
    have A1g : (wi A s 4 (iI (aMin2 T S w))).1 s 5 = iI g := by rw [rd_ne (Or.inr (by omega))]; exact hg
    have A1l : (wi A s 4 (iI (aMin2 T S w))).1 s 6 = iI l := by rw [rd_ne (Or.inr (by omega))]; exact hl
    have A1t : CT (wi A s 4 (iI (aMin2 T S w))) 100 T := hT.fr hI A1f (fun a h1 h2 => by omega)
    have J1 : InvS T (fun i k => if i = 4 then aMin2 T S w else S i k) (mb + 2000) := by
      obtain ⟨a, b, c, d, e, f⟩ := hJ
      exact ⟨a, b, c, fun x h0 h1 => by have := d x h0 h1; show 0 ≤ S 3 x.toNat ∧ S 3 x.toNat ≤ mb + 2000; omega, by show 0 ≤ aMin2 T S w ∧ aMin2 T S w ≤ mb + 2000; omega, by omega⟩
    generalize wi A s 4 (iI (aMin2 T S w)) = A1 at *
    obtain ⟨v1, v2, v3⟩ := c_moveAll hs A1t A1s hI J1 hw
    have A2g : (w_X5_moveAll A1 s (110 + Int32.toNatClampNeg (iI (w : Int)))).1 s 5 = iI g := by rw [v3.at (by omega)]; exact A1g
    have A2l : (w_X5_moveAll A1 s (110 + Int32.toNatClampNeg (iI (w : Int)))).1 s 6 = iI l := by rw [v3.at (by omega)]; exact A1l
    have A2f : Fr (fun a => s ≤ a ∧ a ≤ s + 4) A (w_X5_moveAll A1 s (110 + Int32.toNatClampNeg (iI (w : Int)))) := A1f.tr (v3.mono (fun a h => by omega))
    generalize w_X5_moveAll A1 s (110 + Int32.toNatClampNeg (iI (w : Int))) = A2 at *
    have A2m : A2.1 s 4 = iI (aMin2 T S w) := v2.2.2.2.2
    have A2d : A2.1 (110 + Int32.toNatClampNeg (iI (w : Int))) 4 = iI (T (10 + w) 4) := by rw [A2f.at (by omega)]; exact e4
    have A2w : A2.1 (110 + Int32.toNatClampNeg (iI (w : Int))) 5 = iI (T (10 + w) 5) := by rw [A2f.at (by omega)]; exact e5
    generalize hW : 110 + Int32.toNatClampNeg (iI (w : Int)) = wk at *
    rw [nw]
    have r4 : (wi A2 (s + 3) w 1).1 s 4 = iI (aMin2 T S w) := by rw [rd_ne (Or.inl (by omega))]; exact A2m
    rw [r4]
    have A4s : CSt (wi (wi A2 (s + 3) w 1) (s + 4) w (iI (aMin2 T S w))) s T (aTurn T S w) := by
      refine ⟨fun x h0 h1 => ?_, fun x h0 h1 => ?_, fun x h0 h1 => ?_, fun x h0 h1 => ?_, ?_⟩
      · rw [rd_ne (Or.inl (by omega)), rd_ne (Or.inl (by omega)), aTurn_0 c]
        exact v2.1 x h0 h1
      · rw [rd_ne (Or.inl (by omega)), rd_ne (Or.inl (by omega)), aTurn_1 c]
        exact v2.2.1 x h0 h1
      · rw [rd_ne (Or.inl (by omega)), aTurn_2 c]
        by_cases q : x.toNat = w
        · rw [if_pos q, q, rd_same]
          exact cl1
        · rw [if_neg q, rd_ne (Or.inr q)]
          exact v2.2.2.1 x h0 h1
      · rw [aTurn_3 c]
        by_cases q : x.toNat = w
        · rw [if_pos q, q, rd_same]
        · rw [if_neg q, rd_ne (Or.inr q), rd_ne (Or.inl (by omega))]
          exact v2.2.2.2.1 x h0 h1
      · rw [rd_ne (Or.inl (by omega)), rd_ne (Or.inl (by omega)), aTurn_4 c]
        exact A2m
    have A4g : (wi (wi A2 (s + 3) w 1) (s + 4) w (iI (aMin2 T S w))).1 s 5 = iI g := by rw [rd_ne (Or.inl (by omega)), rd_ne (Or.inl (by omega))]; exact A2g
    have A4l : (wi (wi A2 (s + 3) w 1) (s + 4) w (iI (aMin2 T S w))).1 s 6 = iI l := by rw [rd_ne (Or.inl (by omega)), rd_ne (Or.inl (by omega))]; exact A2l
    have A4m : (wi (wi A2 (s + 3) w 1) (s + 4) w (iI (aMin2 T S w))).1 s 4 = iI (aMin2 T S w) := by rw [rd_ne (Or.inl (by omega)), rd_ne (Or.inl (by omega))]; exact A2m
    have A4d : (wi (wi A2 (s + 3) w 1) (s + 4) w (iI (aMin2 T S w))).1 wk 4 = iI (T (10 + w) 4) := by rw [rd_ne (Or.inl (by omega)), rd_ne (Or.inl (by omega))]; exact A2d
    have A4w : (wi (wi A2 (s + 3) w 1) (s + 4) w (iI (aMin2 T S w))).1 wk 5 = iI (T (10 + w) 5) := by rw [rd_ne (Or.inl (by omega)), rd_ne (Or.inl (by omega))]; exact A2w
    have A4f : Fr (fun a => s ≤ a ∧ a ≤ s + 4) A (wi (wi A2 (s + 3) w 1) (s + 4) w (iI (aMin2 T S w))) := (A2f.wi (by omega)).wi (by omega)
    generalize wi (wi A2 (s + 3) w 1) (s + 4) w (iI (aMin2 T S w)) = A4 at *
    rw [A4m, A4d, A4l]
    have wi4 := worth_iI (M := A4) (m := aMin2 T S w) A4d A4w (by omega) k4 k5
    have wi5 := worth_iI (M := wi A4 s 6 (iI l + 1)) (wk := wk) (m := aMin2 T S w) (du := T (10 + w) 4) (wo := T (10 + w) 5) (by rw [rd_ne (Or.inl (by omega))]; exact A4d) (by rw [rd_ne (Or.inl (by omega))]; exact A4w) (by omega) k4 k5
    have r5m : (wi A4 s 6 (iI l + 1)).1 s 4 = iI (aMin2 T S w) := by rw [rd_ne (Or.inr (by omega))]; exact A4m
    have r5g : (wi A4 s 6 (iI l + 1)).1 s 5 = iI g := by rw [rd_ne (Or.inr (by omega))]; exact A4g
    rw [r5m, r5g, A4g, wi4, wi5, ← ew, iI_add]
    rw [el]
    have hle := iI_le (a := aMin2 T S w) (b := T (10 + w) 4) (by omega) (by omega) (by omega) (by omega)
    simp only [hle, ite_self]
    refine ⟨⟨hv, s1, m1, f1, v1, hv, hv, trivial⟩, trivial, ?_⟩
    by_cases q : aMin2 T S w ≤ T (10 + w) 4
    · simp only [if_pos q]
      have F6 : Fr (fun a => a = s) A4 (wi A4 s 5 (iI (g + aWorth T S w))) := Fr.rf.wi rfl
      refine ⟨⟨fun x h0 h1 => ?_, fun x h0 h1 => ?_, fun x h0 h1 => ?_, fun x h0 h1 => ?_, ?_⟩, rd_same _ _ _ _, ?_, A4f.wi (by omega)⟩
      · rw [rd_ne (Or.inl (by omega))]; exact A4s.1 x h0 h1
      · rw [rd_ne (Or.inl (by omega))]; exact A4s.2.1 x h0 h1
      · rw [rd_ne (Or.inl (by omega))]; exact A4s.2.2.1 x h0 h1
      · rw [rd_ne (Or.inl (by omega))]; exact A4s.2.2.2.1 x h0 h1
      · rw [rd_ne (Or.inr (by omega))]; exact A4s.2.2.2.2
      · rw [rd_ne (Or.inr (by omega)), A4l]
        congr 1
        omega
    · simp only [if_neg q]
      refine ⟨⟨fun x h0 h1 => ?_, fun x h0 h1 => ?_, fun x h0 h1 => ?_, fun x h0 h1 => ?_, ?_⟩, rd_same _ _ _ _, ?_, (A4f.wi (by omega)).wi (by omega)⟩
      · rw [rd_ne (Or.inl (by omega)), rd_ne (Or.inl (by omega))]; exact A4s.1 x h0 h1
      · rw [rd_ne (Or.inl (by omega)), rd_ne (Or.inl (by omega))]; exact A4s.2.1 x h0 h1
      · rw [rd_ne (Or.inl (by omega)), rd_ne (Or.inl (by omega))]; exact A4s.2.2.1 x h0 h1
      · rw [rd_ne (Or.inl (by omega)), rd_ne (Or.inl (by omega))]; exact A4s.2.2.2.1 x h0 h1
      · rw [rd_ne (Or.inr (by omega)), rd_ne (Or.inr (by omega))]; exact A4s.2.2.2.2
      · rw [rd_ne (Or.inr (by omega)), rd_same, cl1, iI_add]
end CC
