/-! the reference goes through an order -/
section P60
variable {M B : Mm} {T S : Tw} {mb : Int}
theorem RS.pass (hS : RS B 22 T S) (hI : InvT T) {v : Int} : RS (wi B 607 (22 + 21) (iI v)) 22 T (tU S 4 0 v) := by
  have hc := hI.1
  refine ⟨fun x a b => ?_, fun x a b => ?_, fun x a b => ?_, fun x a b => ?_, ?_⟩
  · rw [rd_ne (Or.inr (by omega)), tU_n (by omega)]; exact hS.1 x a b
  · rw [rd_ne (Or.inr (by omega)), tU_n (by omega)]; exact hS.2.1 x a b
  · rw [rd_ne (Or.inr (by omega)), tU_n (by omega)]; exact hS.2.2.1 x a b
  · rw [rd_ne (Or.inr (by omega)), tU_n (by omega)]; exact hS.2.2.2.1 x a b
  · rw [rd_same, tU_s]
theorem aTurn_22 (T S : Tw) (w : Nat) : (aTurn T S w 2 w = 2 ↔ aSpoil T S w) ∧ (aTurn T S w 2 w = 1 ∨ aTurn T S w 2 w = 2) := by
  by_cases c : aSpoil T S w
  · rw [aTurn_S c, if_pos ⟨rfl, rfl⟩]
    exact ⟨⟨fun _ => c, fun _ => rfl⟩, Or.inr rfl⟩
  · rw [aTurn_2 c, if_pos rfl]
    exact ⟨⟨fun u => absurd u (by decide), fun u => absurd u c⟩, Or.inl rfl⟩
/-- one work of the order -/
theorem r_go1 {w : Nat} {g l : Int} (y1 y2 y3 : Int32) (hT : RT B T) (ha : RA B 22) (hS : RS B 22 T S) (hI : InvT T) (hJ : InvS T S mb) (hm : mb ≤ 800000) (hw : (w : Int) < T 0 2) (h31 : B.1 600 31 = iI g) (h32 : B.1 600 32 = iI l) :
    q_X8_goesThrough_16_48 B y1 y2 y3 (iI (w : Int)) ∧ ∃ B', s_X8_goesThrough_16_48 B y1 y2 y3 (iI (w : Int)) = (B', y3 + 1) ∧ RS B' 22 T (aTurn T S w) ∧ B'.1 600 31 = iI (g + aWorth T S w) ∧ B'.1 600 32 = iI (l + aLate T S w) ∧ B'.1 616 w = iI (aTurn T S w 4 0) ∧ B'.1 617 w = iI (aWorth T S w) ∧
      Fq (fun a k => (a = 600 ∧ (k = 31 ∨ k = 32)) ∨ (a = 607 ∧ 22 ≤ k) ∨ (a = 616 ∧ k = w) ∨ (a = 617 ∧ k = w)) B B' := by
  have hc := hI.1
  obtain ⟨p1, p2, p3, p4⟩ := r_turns hT ha hS hI hJ (by omega) hw
  have nw : Int32.toNatClampNeg (iI (w : Int)) = w := natk rfl (by omega)
  have vw : vp_in (iI (w : Int)) 6 := vin_iI (by omega) (by omega) (by omega)
  have it := InvS.turn hI hJ hw (by omega)
  have k4 := (hI.2.2.2.2 w hw).2.2.2.2.1
  have n21 : Int32.toNatClampNeg (iI 22 + 21) = 22 + 21 := by decide
  have v21 : vp_in (iI 22 + 21) 44 := by rw [cl21, iI_add]; exact vin_iI (by omega) (by omega) (by omega)
  have n9 : Int32.toNatClampNeg (iI 22 + 9 + iI (w : Int)) = 22 + 9 + w := by rw [cl9, iI_add, iI_add]; exact natk (by omega) (by omega)
  have v9 : vp_in (iI 22 + 9 + iI (w : Int)) 44 := by rw [cl9, iI_add, iI_add]; exact vin_iI (by omega) (by omega) (by omega)
  have v8 := vw4 hw hI
  unfold q_X8_goesThrough_16_48 s_X8_goesThrough_16_48
  rw [nw, p2]
  have Ft : Fq (fun a k => a = 607 ∧ 22 ≤ k) B (w_X8_turns B (iI (w : Int))) := p4.q (fun k h1 h2 => ⟨rfl, h1⟩)
  generalize w_X8_turns B (iI (w : Int)) = Bt at p3 Ft ⊢
  obtain ⟨A1, hA1⟩ : ∃ A1, A1 = wi Bt 617 w (iI (aWorth T S w)) := ⟨_, rfl⟩
  rw [← hA1]
  have a10 : A1.1 600 10 = iI 22 := by rw [hA1, rd_ne (Or.inl (by omega)), Ft.1 _ _ (by omega)]; exact ha.1
  have a21 : A1.1 607 (22 + 21) = iI (aTurn T S w 4 0) := by rw [hA1, rd_ne (Or.inl (by omega))]; exact p3.2.2.2.2
  rw [a10, n21, a21]
  obtain ⟨A2, hA2⟩ : ∃ A2, A2 = wi A1 616 w (iI (aTurn T S w 4 0)) := ⟨_, rfl⟩
  rw [← hA2]
  have b31 : A2.1 600 31 = iI g := by rw [hA2, rd_ne (Or.inl (by omega)), hA1, rd_ne (Or.inl (by omega)), Ft.1 _ _ (by omega)]; exact h31
  have b17 : A2.1 617 w = iI (aWorth T S w) := by rw [hA2, rd_ne (Or.inl (by omega)), hA1, rd_same]
  rw [b31, b17, iI_add]
  obtain ⟨A3, hA3⟩ : ∃ A3, A3 = wi A2 600 31 (iI (g + aWorth T S w)) := ⟨_, rfl⟩
  rw [← hA3]
  have F3 : Fq (fun a k => (a = 600 ∧ (k = 31 ∨ k = 32)) ∨ (a = 607 ∧ 22 ≤ k) ∨ (a = 616 ∧ k = w) ∨ (a = 617 ∧ k = w)) B A3 := by
    rw [hA3, hA2, hA1]
    exact Fq.wi (Fq.wi (Fq.wi (Ft.mono (fun a k h => by omega)) (by omega)) (by omega)) (by omega)
  have c7 : ∀ k, A3.1 607 k = Bt.1 607 k := fun k => by rw [hA3, rd_ne (Or.inl (by omega)), hA2, rd_ne (Or.inl (by omega)), hA1, rd_ne (Or.inl (by omega))]
  have c10 : A3.1 600 10 = iI 22 := by rw [F3.1 _ _ (by omega)]; exact ha.1
  have c32 : A3.1 600 32 = iI l := by rw [hA3, rd_ne (Or.inr (by omega)), hA2, rd_ne (Or.inl (by omega)), hA1, rd_ne (Or.inl (by omega)), Ft.1 _ _ (by omega)]; exact h32
  have c31 : A3.1 600 31 = iI (g + aWorth T S w) := by rw [hA3, rd_same]
  have c16 : A3.1 616 w = iI (aTurn T S w 4 0) := by rw [hA3, rd_ne (Or.inl (by omega)), hA2, rd_same]
  have c17 : A3.1 617 w = iI (aWorth T S w) := by rw [hA3, rd_ne (Or.inl (by omega))]; exact b17
  have e9 : A3.1 607 (22 + 9 + w) = iI (aTurn T S w 2 w) := by
    rw [c7]
    have := p3.2.2.1 (w : Int) (by omega) hw
    rw [Int.toNat_natCast] at this
    exact this
  have e21 : A3.1 607 (22 + 21) = iI (aTurn T S w 4 0) := by rw [c7]; exact p3.2.2.2.2
  have R3 : RT A3 T := hT.fq F3 (fun a k h => by omega)
  have e4 := R3.w4 hw hI
  rw [c10, n9, e9, n21, e21, e4, c32]
  clear hA1 hA2 hA3
  obtain ⟨t1, t2⟩ := aTurn_22 T S w
  have x2 : (iI (aTurn T S w 2 w) = 2) ↔ aTurn T S w 2 w = 2 := by rw [cl2, iI_eq (by omega) (by omega) (by omega) (by omega)]
  have m4 := it.2.2.2.2.1
  have x4 : (iI (aTurn T S w 4 0) ≤ iI (T (10 + w) 4)) ↔ aTurn T S w 4 0 ≤ T (10 + w) 4 := by rw [iI_le (by omega) (by omega) (by omega) (by omega)]
  refine ⟨⟨p1, vw, v21, vw, vw, v9, ?_⟩, ?_⟩
  · split
    · trivial
    · exact ⟨v21, v8, by split <;> trivial⟩
  · have done : ∀ v : Int, v = l + aLate T S w → RS (wi A3 600 32 (iI v)) 22 T (aTurn T S w) ∧ (wi A3 600 32 (iI v)).1 600 31 = iI (g + aWorth T S w) ∧ (wi A3 600 32 (iI v)).1 600 32 = iI (l + aLate T S w) ∧ (wi A3 600 32 (iI v)).1 616 w = iI (aTurn T S w 4 0) ∧ (wi A3 600 32 (iI v)).1 617 w = iI (aWorth T S w) ∧ Fq (fun a k => (a = 600 ∧ (k = 31 ∨ k = 32)) ∨ (a = 607 ∧ 22 ≤ k) ∨ (a = 616 ∧ k = w) ∨ (a = 617 ∧ k = w)) B (wi A3 600 32 (iI v)) := fun v hv => by
      refine ⟨p3.fp hI (fun k h1 h2 => by rw [rd_ne (Or.inl (by omega)), c7]), ?_, ?_, ?_, ?_, F3.wi (by omega)⟩
      · rw [rd_ne (Or.inr (by omega))]; exact c31
      · rw [rd_same, hv]
      · rw [rd_ne (Or.inl (by omega))]; exact c16
      · rw [rd_ne (Or.inl (by omega))]; exact c17
    by_cases d1 : aSpoil T S w
    · have e := t1.mpr d1
      rw [if_pos (x2.mpr e), cl1, iI_add]
      exact ⟨_, rfl, done (l + 1) (by unfold aLate; rw [if_pos d1])⟩
    · have e : ¬ iI (aTurn T S w 2 w) = 2 := fun u => d1 (t1.mp (x2.mp u))
      have e40 : aTurn T S w 4 0 = aMin2 T S w := aTurn_4 d1
      rw [if_neg e]
      by_cases d2 : aTurn T S w 4 0 ≤ T (10 + w) 4
      · rw [if_pos (x4.mpr d2), cl0, iI_add]
        exact ⟨_, rfl, done (l + 0) (by unfold aLate; rw [if_neg d1, if_pos (by omega)])⟩
      · rw [if_neg (fun u => d2 (x4.mp u)), cl1, iI_add]
        exact ⟨_, rfl, done (l + 1) (by unfold aLate; rw [if_neg d1, if_neg (by omega)])⟩
theorem r_run (hT : RT M T) (hS : RS M 0 T S) (hI : InvT T) (hJ : InvS T S mb) (hm : mb ≤ 700000) {ord : Nat → Nat} {len calls : Nat} (hl : len ≤ 6) (hc : calls < 64) (ho : ∀ i, i < len → ((ord i : Nat) : Int) < T 0 2 ∧ M.1 614 i = iI ((ord i : Nat) : Int)) (hd : ∀ i j, i < j → j < len → ord i ≠ ord j) :
    p_X8_goesThrough M (iI (len : Int)) (iI (calls : Int)) ∧ RA (w_X8_goesThrough M (iI (len : Int)) (iI (calls : Int))) 22 ∧ RS (w_X8_goesThrough M (iI (len : Int)) (iI (calls : Int))) 22 T (aRun T S ord calls len) ∧ (w_X8_goesThrough M (iI (len : Int)) (iI (calls : Int))).1 600 31 = iI (aSum T S ord calls len) ∧ (w_X8_goesThrough M (iI (len : Int)) (iI (calls : Int))).1 600 32 = iI (aBad T S ord calls len) ∧
    (∀ i, i < len → (w_X8_goesThrough M (iI (len : Int)) (iI (calls : Int))).1 616 (ord i) = iI (aRun T S ord calls (i + 1) 4 0) ∧ (w_X8_goesThrough M (iI (len : Int)) (iI (calls : Int))).1 617 (ord i) = iI (aWorth T (aPre T (aRun T S ord calls i) calls i) (ord i))) ∧
    Fq (fun a k => (a = 600 ∧ (k = 10 ∨ k = 31 ∨ k = 32)) ∨ (a = 607 ∧ 22 ≤ k) ∨ a = 616 ∨ a = 617) M (w_X8_goesThrough M (iI (len : Int)) (iI (calls : Int))) := by
  obtain ⟨L1, L2, L3, L4, L5, -⟩ := r_lends hT hS hI
  have LQ := lends_q hT hS hI
  have nl : Int32.toNatClampNeg (iI (len : Int)) = len := natk rfl (by omega)
  unfold p_X8_goesThrough w_X8_goesThrough
  rw [nl]
  generalize w_X8_lends M = ML at L2 L3 L4 L5 LQ ⊢
  obtain ⟨M0, hM0⟩ : ∃ M0, M0 = wi (wi ML 600 31 0) 600 32 0 := ⟨_, rfl⟩
  rw [← hM0]
  have F0 : Fq (fun a k => (a = 600 ∧ (k = 10 ∨ k = 31 ∨ k = 32)) ∨ (a = 607 ∧ 22 ≤ k) ∨ a = 616 ∨ a = 617) M M0 := by rw [hM0]; exact Fq.wi (Fq.wi (LQ.mono (fun a k h => by omega)) (by omega)) (by omega)
  have a0 : RA M0 22 := ⟨by rw [hM0, rd_ne (Or.inr (by omega)), rd_ne (Or.inr (by omega))]; exact L3.1, L3.2⟩
  have s0 : RS M0 22 T S := L4.fp hI (fun k h1 h2 => by rw [hM0, rd_ne (Or.inl (by omega)), rd_ne (Or.inl (by omega))])
  have g0 : M0.1 600 31 = iI 0 := by rw [hM0, rd_ne (Or.inr (by omega)), rd_same]; rfl
  have h0 : M0.1 600 32 = iI 0 := by rw [hM0, rd_same]; rfl
  clear hM0 L1 L2 L3 L4 L5 LQ
  have step : ∀ (k : Nat) (A : Mm), k < len → RA A 22 → RS A 22 T (aRun T S ord calls k) → A.1 600 31 = iI (aSum T S ord calls k) → A.1 600 32 = iI (aBad T S ord calls k) → (∀ i, i < k → A.1 616 (ord i) = iI (aRun T S ord calls (i + 1) 4 0) ∧ A.1 617 (ord i) = iI (aWorth T (aPre T (aRun T S ord calls i) calls i) (ord i))) → Fq (fun a k => (a = 600 ∧ (k = 10 ∨ k = 31 ∨ k = 32)) ∨ (a = 607 ∧ 22 ≤ k) ∨ a = 616 ∨ a = 617) M A →
      q_X8_goesThrough_16 (iI (len : Int)) (iI (calls : Int)) (A, iI (k : Int)) ∧ ∃ A', s_X8_goesThrough_16 (iI (len : Int)) (iI (calls : Int)) (A, iI (k : Int)) = (A', iI ((k + 1 : Nat) : Int)) ∧ RA A' 22 ∧ RS A' 22 T (aRun T S ord calls (k + 1)) ∧ A'.1 600 31 = iI (aSum T S ord calls (k + 1)) ∧ A'.1 600 32 = iI (aBad T S ord calls (k + 1)) ∧ (∀ i, i < k + 1 → A'.1 616 (ord i) = iI (aRun T S ord calls (i + 1) 4 0) ∧ A'.1 617 (ord i) = iI (aWorth T (aPre T (aRun T S ord calls i) calls i) (ord i))) ∧ Fq (fun a k => (a = 600 ∧ (k = 10 ∨ k = 31 ∨ k = 32)) ∨ (a = 607 ∧ 22 ≤ k) ∨ a = 616 ∨ a = 617) M A' := by
    intro k A hk k1 k2 k3 k5 k6 k4
    have kT : RT A T := hT.fq k4 (fun a j h => by omega)
    have hlt : ¬ iI (len : Int) ≤ iI (k : Int) := by rw [iI_le (by omega) (by omega) (by omega) (by omega)]; omega
    have iv := InvS.run hI hJ (by omega) (ord := ord) calls k (by omega) (fun i hi => (ho i (by omega)).1)
    have ip := iv.pre hI calls k (by omega)
    have nk : Int32.toNatClampNeg (iI (k : Int)) = k := natk rfl (by omega)
    have vk : vp_in (iI (k : Int)) 6 := vin_iI (by omega) (by omega) (by omega)
    have bt := msk_in1 calls hc k (by omega)
    have e14 : A.1 614 k = iI ((ord k : Nat) : Int) := by rw [k4.1 _ _ (by omega)]; exact (ho k hk).2
    have hok := (ho k hk).1
    unfold q_X8_goesThrough_16 s_X8_goesThrough_16
    dsimp only
    rw [if_neg hlt, if_neg hlt, nk, e14]
    have wrap : ∀ A1 : Mm, Fq (fun a j => a = 607 ∧ 22 ≤ j) A A1 → RS A1 22 T (aPre T (aRun T S ord calls k) calls k) → q_X8_goesThrough_16_48 A1 (iI (len : Int)) (iI (calls : Int)) (iI (k : Int)) (iI ((ord k : Nat) : Int)) ∧ ∃ A', s_X8_goesThrough_16_48 A1 (iI (len : Int)) (iI (calls : Int)) (iI (k : Int)) (iI ((ord k : Nat) : Int)) = (A', iI ((k + 1 : Nat) : Int)) ∧ RA A' 22 ∧ RS A' 22 T (aRun T S ord calls (k + 1)) ∧ A'.1 600 31 = iI (aSum T S ord calls (k + 1)) ∧ A'.1 600 32 = iI (aBad T S ord calls (k + 1)) ∧ (∀ i, i < k + 1 → A'.1 616 (ord i) = iI (aRun T S ord calls (i + 1) 4 0) ∧ A'.1 617 (ord i) = iI (aWorth T (aPre T (aRun T S ord calls i) calls i) (ord i))) ∧ Fq (fun a k => (a = 600 ∧ (k = 10 ∨ k = 31 ∨ k = 32)) ∨ (a = 607 ∧ 22 ≤ k) ∨ a = 616 ∨ a = 617) M A' := by
      intro A1 f1 f2
      have T1 : RT A1 T := kT.fq f1 (fun a j h => by omega)
      have ra1 : RA A1 22 := k1.fq f1 (by omega)
      obtain ⟨z1, A', z2, z3, z4, z5, z6, z7, z8⟩ := r_go1 (iI (len : Int)) (iI (calls : Int)) (iI (k : Int)) T1 ra1 f2 hI ip (by omega) hok (by rw [f1.1 _ _ (by omega)]; exact k3) (by rw [f1.1 _ _ (by omega)]; exact k5)
      rw [k1_iI] at z2
      refine ⟨z1, A', z2, ra1.fq z8 (by omega), z3, z4, z5, fun i hi => ?_, (k4.tr (f1.mono (fun a j h => by omega))).tr (z8.mono (fun a j h => by omega))⟩
      by_cases q : i = k
      · rw [q]; exact ⟨z6, z7⟩
      · have ne := hd i k (by omega) hk
        have o := k6 i (by omega)
        rw [z8.1 616 _ (by omega), z8.1 617 _ (by omega), f1.1 616 _ (by omega), f1.1 617 _ (by omega)]
        exact o
    by_cases c : calls.testBit k = true
    · rw [if_neg (not_not_intro (bt.mpr c)), if_neg (not_not_intro (bt.mpr c))]
      have t2 := hI.2.2.2.1.2.2.1
      have m0 := iv.2.2.2.2.1
      have l2 : A.1 604 2 = iI (T 3 2) := kT.2.2.2.1 2 (by omega)
      obtain ⟨p1, p2⟩ := r_passes kT k1 hI (n := T 3 2) k2.2.2.2.2 m0.1 (by omega) (by omega) (by omega)
      rw [l2, p2]
      have ep : aPre T (aRun T S ord calls k) calls k = tU (aRun T S ord calls k) 4 0 (aAfter (T 3 0) (aRun T S ord calls k 4 0) (T 3 2)) := by unfold aPre aPass; rw [if_pos c]
      obtain ⟨w1, w2⟩ := wrap (wi A 607 (22 + 21) (iI (aAfter (T 3 0) (aRun T S ord calls k 4 0) (T 3 2)))) (Fq.wi Fq.rf (by omega)) (by rw [ep]; exact k2.pass hI)
      exact ⟨⟨vk, p1, w1⟩, w2⟩
    · have g : ¬ (iI (calls : Int) >>> (iI (k : Int) &&& 31)) &&& 1 = (1 : Int32) := fun u => c (bt.mp u)
      rw [if_pos g, if_pos g]
      have ep : aPre T (aRun T S ord calls k) calls k = aRun T S ord calls k := by unfold aPre; rw [if_neg c]
      obtain ⟨w1, w2⟩ := wrap A Fq.rf (by rw [ep]; exact k2)
      exact ⟨⟨vk, w1⟩, w2⟩
  have key : ∀ k, k ≤ len → ∃ A, l_X8_goesThrough_16 (iI (len : Int)) (iI (calls : Int)) (M0, 0) k = (A, iI (k : Int)) ∧ RA A 22 ∧ RS A 22 T (aRun T S ord calls k) ∧ A.1 600 31 = iI (aSum T S ord calls k) ∧ A.1 600 32 = iI (aBad T S ord calls k) ∧ (∀ i, i < k → A.1 616 (ord i) = iI (aRun T S ord calls (i + 1) 4 0) ∧ A.1 617 (ord i) = iI (aWorth T (aPre T (aRun T S ord calls i) calls i) (ord i))) ∧ Fq (fun a k => (a = 600 ∧ (k = 10 ∨ k = 31 ∨ k = 32)) ∨ (a = 607 ∧ 22 ≤ k) ∨ a = 616 ∨ a = 617) M A := by
    intro k
    induction k with
    | zero => intro _; exact ⟨M0, rfl, a0, s0, g0, h0, fun i hi => absurd hi (Nat.not_lt_zero i), F0⟩
    | succ k ih =>
      intro hk
      obtain ⟨A, h1, h2, h3, h5, h6, h7, h8⟩ := ih (by omega)
      obtain ⟨-, A', g1, g2⟩ := step k A (by omega) h2 h3 h5 h6 h7 h8
      refine ⟨A', ?_, g2⟩
      show s_X8_goesThrough_16 (iI (len : Int)) (iI (calls : Int)) (l_X8_goesThrough_16 (iI (len : Int)) (iI (calls : Int)) (M0, 0) k) = _
      rw [h1]; exact g1
  obtain ⟨A, h1, h2⟩ := key len (Nat.le_refl _)
  have fin : iI (len : Int) ≤ (l_X8_goesThrough_16 (iI (len : Int)) (iI (calls : Int)) (M0, 0) len).2 := by
    rw [h1]
    dsimp only
    rw [iI_le (by omega) (by omega) (by omega) (by omega)]
    omega
  have pl := (r_lends hT hS hI).1
  rw [if_pos fin, if_pos fin]
  refine ⟨⟨pl, fun k hk => ?_, fun k hk => ?_, ?_, trivial⟩, ?_⟩
  · obtain ⟨B, g1, -⟩ := key k (by omega)
    rw [g1]
    unfold c_X8_goesThrough_16
    dsimp only
    rw [iteLE (by omega) (by omega) (by omega) (by omega), if_neg (by omega)]
    trivial
  · obtain ⟨B, g1, g2, g3, g5, g6, g7, g8⟩ := key k (by omega)
    rw [g1]
    exact (step k B hk g2 g3 g5 g6 g7 g8).1
  · unfold c_X8_goesThrough_16
    rw [if_pos fin]
    exact fun h => h
  · rw [h1]
    exact h2
end P60
