/-! judge -/
def jOk (T S : Tw) (f : Nat → Int32) (j : Nat) : Prop := ∃ w : Nat, (w : Int) < T 0 2 ∧ f (3 * j) = iI (w : Int) ∧ aFree T S w ∧ f (3 * j + 1) = iI (aTurn T S w 4 0) ∧ f (3 * j + 2) = iI (aWorth T S w)
def jS (T S : Tw) (f : Nat → Int32) : Nat → Tw
  | 0 => S
  | k + 1 => aTurn T (jS T S f k) (Int32.toNatClampNeg (f (3 * k)))
section P75
variable {M D : Mm} {T S : Tw} {mb : Int} {f : Nat → Int32} {rc j0 j n : Nat}
theorem jS_s {w k : Nat} (h : f (3 * k) = iI (w : Int)) (hw : w < 100) : jS T S f (k + 1) = aTurn T (jS T S f k) w := by
  show aTurn T (jS T S f k) (Int32.toNatClampNeg (f (3 * k))) = _
  rw [h, natk rfl (by omega)]
theorem jS_inv (hI : InvT T) (hJ : InvS T S mb) (hm : mb ≤ 800000) : ∀ k : Nat, k ≤ 6 → (∀ i, i < k → jOk T (jS T S f i) f i) → InvS T (jS T S f k) (mb + 2000 * (k : Int))
  | 0, _, _ => hJ.mono (by omega) (by omega)
  | k + 1, h, hp => by
    have hc := hI.1
    have ih := jS_inv hI hJ hm k (by omega) (fun i hi => hp i (by omega))
    obtain ⟨w, w1, w2, -⟩ := hp k (by omega)
    rw [jS_s w2 (by omega)]
    exact (InvS.turn hI ih w1 (by omega)).mono (by omega) (by omega)
theorem c_row (hT : CT D 100 T) (hS : CSt D 1030 T S) (hI : InvT T) (hJ : InvS T S mb) (hm : mb ≤ 850000) (x : Int32) :
    (b2i (cFree D 1030 x) = 0 ∧ ∀ w : Nat, (w : Int) < T 0 2 → x = iI (w : Int) → ¬ aFree T S w) ∨ (∃ w : Nat, x = iI (w : Int) ∧ (w : Int) < T 0 2 ∧ aFree T S w ∧ ¬ b2i (cFree D 1030 x) = 0 ∧ p_X5_carryOut D 1030 x ∧ r_X5_carryOut D 1030 x = iI (aWorth T S w) ∧ CSt (w_X5_carryOut D 1030 x) 1030 T (aTurn T S w) ∧ Fr (fun a => 1030 ≤ a ∧ a ≤ 1034) D (w_X5_carryOut D 1030 x)) := by
  have hc := hI.1
  obtain ⟨v, rfl, x1, x2⟩ := ex_iI x
  by_cases c : cFree D 1030 (iI v)
  · have c0 : cOpen D 1030 (iI v) := by unfold cFree at c; exact c.1
    obtain ⟨⟨q1, q2⟩, -⟩ := (c_open hT hS hI hJ x1 x2).mp c0
    obtain ⟨w, rfl⟩ : ∃ w : Nat, v = (w : Int) := ⟨v.toNat, by omega⟩
    have q3 := (c_free hT hS hI hJ q2).mp c
    obtain ⟨g5, hg5, -, -⟩ := ex_iI (D.1 1030 5)
    obtain ⟨g6, hg6, -, -⟩ := ex_iI (D.1 1030 6)
    obtain ⟨y1, y2, y3, -, -, y6⟩ := c_carry (s := 1030) (by omega) hT hS hg5 hg6 hI hJ (by omega) q2 q3.2
    exact Or.inr ⟨w, rfl, q2, q3, b2i_1.mpr c, y1, y2, y3, y6⟩
  · refine Or.inl ⟨b2i_0.mpr c, fun w w1 w2 w3 => c ?_⟩
    rw [w2]
    exact (c_free hT hS hI hJ w1).mpr w3
theorem jn3 {j : Nat} (h : j < 6) : Int32.toNatClampNeg (iI (j : Int) * 3) = 3 * j ∧ Int32.toNatClampNeg (iI (j : Int) * 3 + 1) = 3 * j + 1 ∧ Int32.toNatClampNeg (iI (j : Int) * 3 + 2) = 3 * j + 2 ∧ vp_in (iI (j : Int) * 3) 18 ∧ vp_in (iI (j : Int) * 3 + 1) 18 ∧ vp_in (iI (j : Int) * 3 + 2) 18 := by
  rw [cl3, iI_mul, cl1, cl2, iI_add, iI_add]
  exact ⟨natk (by omega) (by omega), natk (by omega) (by omega), natk (by omega) (by omega), vin_iI (by omega) (by omega) (by omega), vin_iI (by omega) (by omega) (by omega), vin_iI (by omega) (by omega) (by omega)⟩
theorem jm3 {j : Nat} (h : j < 6) : Int32.toNatClampNeg ((3 : Int32) * iI (j : Int)) = 3 * j ∧ Int32.toNatClampNeg ((3 : Int32) * iI (j : Int) + 1) = 3 * j + 1 ∧ Int32.toNatClampNeg ((3 : Int32) * iI (j : Int) + 2) = 3 * j + 2 ∧ vp_in ((3 : Int32) * iI (j : Int)) 18 ∧ vp_in ((3 : Int32) * iI (j : Int) + 1) 18 ∧ vp_in ((3 : Int32) * iI (j : Int) + 2) 18 := by
  rw [cl3, iI_mul, cl1, cl2, iI_add, iI_add]
  exact ⟨natk (by omega) (by omega), natk (by omega) (by omega), natk (by omega) (by omega), vin_iI (by omega) (by omega) (by omega), vin_iI (by omega) (by omega) (by omega), vin_iI (by omega) (by omega) (by omega)⟩
theorem c_judge (hT : CT M 100 T) (hS : CSt M 1000 T S) (hI : InvT T) (hJ : InvS T S mb) (hm : mb ≤ 700000) (hrc : rc ≤ 6) (hf : ∀ i, i < 3 * rc → M.1 550 i = f i) (h1 : j0 ≤ rc) (h2 : ∀ k, k < j0 → jOk T (jS T S f k) f k) (h3 : j0 = rc ∨ ¬ jOk T (jS T S f j0) f j0) :
    p_X2_firstWrongRow M (iI (rc : Int)) ∧ r_X2_firstWrongRow M (iI (rc : Int)) = (if j0 = rc then (if aOpn (jS T S f j0) (T 0 2).toNat = 0 then 0 else 222) else iI (j0 : Int) + 1) ∧ Fq Qz M (w_X2_firstWrongRow M (iI (rc : Int))) := by
  have hc := hI.1
  unfold p_X2_firstWrongRow r_X2_firstWrongRow w_X2_firstWrongRow
  obtain ⟨b1, -, -, b4⟩ := c_begin (A := M) (s := 1030) (s1 := 1000) (Or.inr (by omega)) hI hS
  have F0 : Fq Qz M (w_X3_beginFrom M 1030 1000) := b4.q (fun a k h => by omega) (fun a h => by omega)
  generalize w_X3_beginFrom M 1030 1000 = M0 at b1 b4 F0 ⊢
  have T0 : CT M0 100 T := hT.fq hI F0 (fun a k h1 h2 => by omega)
  have f0 : ∀ i, i < 3 * rc → M0.1 550 i = f i := fun i hi => by rw [b4.at (by omega)]; exact hf i hi
  clear b4
  have six : ∀ D : Mm, CT D 100 T → (D.1 100 2).toInt ≤ 6 := fun D h => by rw [h.1.2.2, iI_toInt (by omega) (by omega)]; omega
  have step : ∀ (k : Nat) (D : Mm), k < j0 → CSt D 1030 T (jS T S f k) → Fr (fun a => 1030 ≤ a ∧ a ≤ 1034) M0 D →
      c_X2_firstWrongRow_21 (iI (rc : Int)) (D, iI (k : Int)) ∧ q_X2_firstWrongRow_21 (iI (rc : Int)) (D, iI (k : Int)) ∧ ∃ D', s_X2_firstWrongRow_21 (iI (rc : Int)) (D, iI (k : Int)) = (D', iI ((k + 1 : Nat) : Int)) ∧ CSt D' 1030 T (jS T S f (k + 1)) ∧ Fr (fun a => 1030 ≤ a ∧ a ≤ 1034) M0 D' := by
    intro k D hk k1 k3
    have kT : CT D 100 T := T0.fp hI (fun a j h1 h2 => k3.at (by omega) j)
    have iv := jS_inv (f := f) hI hJ (by omega) k (by omega) (fun i hi => h2 i (by omega))
    obtain ⟨w, w1, w2, w3, w4, w5⟩ := h2 k hk
    obtain ⟨n0, n1, n2, v0, v1, v2⟩ := jn3 (j := k) (by omega)
    have g : ¬ iI (rc : Int) ≤ iI (k : Int) := by rw [iI_le (by omega) (by omega) (by omega) (by omega)]; omega
    have e0 : D.1 550 (3 * k) = f (3 * k) := by rw [k3.at (by omega)]; exact f0 _ (by omega)
    unfold c_X2_firstWrongRow_21 q_X2_firstWrongRow_21 s_X2_firstWrongRow_21
    dsimp only
    rw [if_neg g, if_neg g, if_neg g, n0, n1, n2, e0]
    rcases c_row kT k1 hI iv (by omega) (f (3 * k)) with ⟨y1, y2⟩ | ⟨w', y0, y1, y2, y3, y4, y5, y6, y7⟩
    · exact absurd w3 (y2 w w1 w2)
    · have ew : w' = w := by
        have := y0.symm.trans w2
        rw [iI_eq (by omega) (by omega) (by omega) (by omega)] at this
        omega
      subst ew
      have e1 : (w_X5_carryOut D 1030 (f (3 * k))).1 550 (3 * k + 1) = iI (aTurn T (jS T S f k) w' 4 0) := by rw [y7.at (by omega), k3.at (by omega), f0 _ (by omega)]; exact w4
      have e2 : (w_X5_carryOut D 1030 (f (3 * k))).1 550 (3 * k + 2) = iI (aWorth T (jS T S f k) w') := by rw [y7.at (by omega), k3.at (by omega), f0 _ (by omega)]; exact w5
      have e3 : (w_X5_carryOut D 1030 (f (3 * k))).1 1030 4 = iI (aTurn T (jS T S f k) w' 4 0) := y6.2.2.2.2
      rw [if_pos y3, if_pos y3, if_pos y3, e1, e2, e3, y5, if_neg (not_not_intro rfl), if_neg (not_not_intro rfl), if_neg (not_not_intro rfl), if_pos rfl, if_pos rfl, if_pos rfl, k1_iI]
      refine ⟨trivial, ⟨v0, six D kT, y4, v1, v2, trivial⟩, _, rfl, ?_, k3.tr y7⟩
      rw [jS_s w2 (by omega)]
      exact y6
  have key : ∀ k, k ≤ j0 → ∃ D, l_X2_firstWrongRow_21 (iI (rc : Int)) (M0, 0) k = (D, iI (k : Int)) ∧ CSt D 1030 T (jS T S f k) ∧ Fr (fun a => 1030 ≤ a ∧ a ≤ 1034) M0 D := by
    intro k
    induction k with
    | zero => intro _; exact ⟨M0, rfl, b1, Fr.rf⟩
    | succ k ih =>
      intro hk
      obtain ⟨D, d1, d2, d3⟩ := ih (by omega)
      obtain ⟨-, -, D', g1, g2⟩ := step k D (by omega) d2 d3
      refine ⟨D', ?_, g2⟩
      show s_X2_firstWrongRow_21 (iI (rc : Int)) (l_X2_firstWrongRow_21 (iI (rc : Int)) (M0, 0) k) = _
      rw [d1]; exact g1
  have cs : ∀ k, k < j0 → c_X2_firstWrongRow_21 (iI (rc : Int)) (l_X2_firstWrongRow_21 (iI (rc : Int)) (M0, 0) k) := fun k hk => by
    obtain ⟨E, g1, g2, g3⟩ := key k (by omega)
    rw [g1]
    exact (step k E hk g2 g3).1
  have qs : ∀ k, k < j0 → q_X2_firstWrongRow_21 (iI (rc : Int)) (l_X2_firstWrongRow_21 (iI (rc : Int)) (M0, 0) k) := fun k hk => by
    obtain ⟨E, g1, g2, g3⟩ := key k (by omega)
    rw [g1]
    exact (step k E hk g2 g3).2.1
  obtain ⟨D, d1, d2, d3⟩ := key j0 (Nat.le_refl _)
  have kT : CT D 100 T := T0.fp hI (fun a j h1 h2 => d3.at (by omega) j)
  have iv := jS_inv (f := f) hI hJ (by omega) j0 (by omega) h2
  have FD : Fq Qz M D := F0.tr (d3.q (fun a k h => by omega) (fun a h => by omega))
  by_cases q : j0 = rc
  · subst q
    have g : iI (j0 : Int) ≤ iI (j0 : Int) := Int32.le_refl _
    have nc : ¬ c_X2_firstWrongRow_21 (iI (j0 : Int)) (l_X2_firstWrongRow_21 (iI (j0 : Int)) (M0, 0) j0) := by
      rw [d1]
      unfold c_X2_firstWrongRow_21
      dsimp only
      rw [if_pos g]
      exact fun h => h
    have cn : cntN (fun k => c_X2_firstWrongRow_21 (iI (j0 : Int)) (l_X2_firstWrongRow_21 (iI (j0 : Int)) (M0, 0) k)) 7 = j0 := cntN_eq (by omega) cs nc
    rw [cn]
    rw [d1] at nc ⊢
    dsimp only
    obtain ⟨o1, o2⟩ := c_opn kT d2 hI iv
    have ol := aOpn_le (jS T S f j0) (T 0 2).toNat
    have z : (iI ((aOpn (jS T S f j0) (T 0 2).toNat : Nat) : Int) ≤ 0) ↔ aOpn (jS T S f j0) (T 0 2).toNat = 0 := by rw [cl0, iI_le (by omega) (by omega) (by omega) (by omega)]; omega
    rw [if_pos g, if_pos g, if_pos g, if_pos rfl, o2]
    refine ⟨⟨cs, qs, nc, o1, by split <;> trivial⟩, ?_, FD⟩
    by_cases d : aOpn (jS T S f j0) (T 0 2).toNat = 0
    · rw [if_pos (z.mpr d), if_pos d]
    · rw [if_neg (fun u => d (z.mp u)), if_neg d]
  · have no := h3.resolve_left q
    have g : ¬ iI (rc : Int) ≤ iI (j0 : Int) := by rw [iI_le (by omega) (by omega) (by omega) (by omega)]; omega
    obtain ⟨n0, n1, n2, v0, v1, v2⟩ := jn3 (j := j0) (by omega)
    have e0 : D.1 550 (3 * j0) = f (3 * j0) := by rw [d3.at (by omega)]; exact f0 _ (by omega)
    rw [if_neg q]
    rcases c_row kT d2 hI iv (by omega) (f (3 * j0)) with ⟨y1, y2⟩ | ⟨w, y0, y1, y2, y3, y4, y5, y6, y7⟩
    · have y1' := not_not_intro y1
      have nc : ¬ c_X2_firstWrongRow_21 (iI (rc : Int)) (l_X2_firstWrongRow_21 (iI (rc : Int)) (M0, 0) j0) := by
        rw [d1]
        unfold c_X2_firstWrongRow_21
        dsimp only
        rw [if_neg g, n0, e0, if_neg y1']
        exact fun h => h
      have cn : cntN (fun k => c_X2_firstWrongRow_21 (iI (rc : Int)) (l_X2_firstWrongRow_21 (iI (rc : Int)) (M0, 0) k)) 7 = j0 := cntN_eq (by omega) cs nc
      rw [cn]
      rw [d1] at nc ⊢
      dsimp only
      rw [if_neg g, if_neg g, if_neg g, n0, e0, if_neg y1', if_neg y1', if_neg y1']
      exact ⟨⟨cs, qs, nc, v0, six D kT, trivial⟩, rfl, FD⟩
    · have e1 : (w_X5_carryOut D 1030 (f (3 * j0))).1 550 (3 * j0 + 1) = f (3 * j0 + 1) := by rw [y7.at (by omega), d3.at (by omega), f0 _ (by omega)]
      have e2 : (w_X5_carryOut D 1030 (f (3 * j0))).1 550 (3 * j0 + 2) = f (3 * j0 + 2) := by rw [y7.at (by omega), d3.at (by omega), f0 _ (by omega)]
      have e3 : (w_X5_carryOut D 1030 (f (3 * j0))).1 1030 4 = iI (aTurn T (jS T S f j0) w 4 0) := y6.2.2.2.2
      have FE : Fq Qz M (w_X5_carryOut D 1030 (f (3 * j0))) := FD.tr (y7.q (fun a k h => by omega) (fun a h => by omega))
      by_cases m1 : f (3 * j0 + 1) = iI (aTurn T (jS T S f j0) w 4 0)
      · have m2 : ¬ f (3 * j0 + 2) = iI (aWorth T (jS T S f j0) w) := fun u => no ⟨w, y1, y0, y2, m1, u⟩
        have m1' := not_not_intro m1
        have nc : ¬ c_X2_firstWrongRow_21 (iI (rc : Int)) (l_X2_firstWrongRow_21 (iI (rc : Int)) (M0, 0) j0) := by
          rw [d1]
          unfold c_X2_firstWrongRow_21
          dsimp only
          rw [if_neg g, n0, n1, n2, e0, if_pos y3, e1, e2, e3, y5, if_neg m1', if_neg m2]
          exact fun h => h
        have cn : cntN (fun k => c_X2_firstWrongRow_21 (iI (rc : Int)) (l_X2_firstWrongRow_21 (iI (rc : Int)) (M0, 0) k)) 7 = j0 := cntN_eq (by omega) cs nc
        rw [cn]
        rw [d1] at nc ⊢
        dsimp only
        rw [if_neg g, if_neg g, if_neg g, n0, n1, n2, e0, if_pos y3, if_pos y3, if_pos y3, e1, e2, e3, y5, if_neg m1', if_neg m1', if_neg m1', if_neg m2, if_neg m2, if_neg m2]
        exact ⟨⟨cs, qs, nc, v0, six D kT, y4, v1, v2, trivial⟩, rfl, FE⟩
      · have nc : ¬ c_X2_firstWrongRow_21 (iI (rc : Int)) (l_X2_firstWrongRow_21 (iI (rc : Int)) (M0, 0) j0) := by
          rw [d1]
          unfold c_X2_firstWrongRow_21
          dsimp only
          rw [if_neg g, n0, n1, n2, e0, if_pos y3, e1, e2, e3, y5, if_pos m1]
          exact fun h => h
        have cn : cntN (fun k => c_X2_firstWrongRow_21 (iI (rc : Int)) (l_X2_firstWrongRow_21 (iI (rc : Int)) (M0, 0) k)) 7 = j0 := cntN_eq (by omega) cs nc
        rw [cn]
        rw [d1] at nc ⊢
        dsimp only
        rw [if_neg g, if_neg g, if_neg g, n0, n1, n2, e0, if_pos y3, if_pos y3, if_pos y3, e1, e2, e3, y5, if_pos m1, if_pos m1, if_pos m1]
        exact ⟨⟨cs, qs, nc, v0, six D kT, y4, v1, trivial⟩, rfl, FE⟩
end P75
