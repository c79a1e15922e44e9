/-! the reference takes an order -/
section P63
variable {M A : Mm} {T S : Tw} {mb : Int}
theorem r_take (hT : RT M T) (ha : RA M 0) (hS : RS M 0 T S) (hI : InvT T) (hJ : InvS T S mb) (a : Int32) {len : Nat} (hlen : len = aOpn S (T 0 2).toNat) :
    p_X8_takesOrder M a ∧ Fq (fun x k => x = 614 ∧ k < 6) M (w_X8_takesOrder M a) ∧ (¬ DG T S a len → r_X8_takesOrder M a = -1) ∧
    (DG T S a len → (∀ i, i < len → (w_X8_takesOrder M a).1 614 i = iI ((dgt a i : Nat) : Int)) ∧ ((∀ i, i < len → okA T S (dgt a) i) → r_X8_takesOrder M a = 0) ∧ ((¬ ∀ i, i < len → okA T S (dgt a) i) → r_X8_takesOrder M a = -4)) := by
  have hc := hI.1
  obtain ⟨f1, f2⟩ := r_opn hT ha hS hI hJ
  rw [← hlen] at f2
  have l6 : len ≤ 6 := by
    have := aOpn_le S (T 0 2).toNat
    omega
  unfold p_X8_takesOrder r_X8_takesOrder w_X8_takesOrder
  rw [f2]
  by_cases d1 : a < 0
  · rw [if_pos d1, if_pos d1, if_pos d1]
    exact ⟨⟨f1, trivial⟩, Fq.rf, fun _ => rfl, fun h => absurd d1 h.1⟩
  rw [if_neg d1, if_neg d1, if_neg d1]
  by_cases d2 : a >>> (((3 : Int32) * iI (len : Int)) &&& 31) = 0
  · rw [if_pos d2, if_pos d2, if_pos d2]
    obtain ⟨j, j1, j2, j3⟩ := fst_ex (okD T S a) len
    obtain ⟨R, hR⟩ : ∃ R : Nat → Mm, R = fun k => runI M 614 0 k (fun i => iI ((dgt a i : Nat) : Int)) := ⟨_, rfl⟩
    have RF : ∀ k, k ≤ 6 → Fq (fun x k => x = 614 ∧ k < 6) M (R k) := fun k hk => by rw [hR]; exact Fq.rf.run (fun i h1 h2 => by omega)
    have RT' : ∀ k, k ≤ 6 → RT (R k) T := fun k hk => hT.fq (RF k hk) (fun x i h => by omega)
    have RA' : ∀ k, k ≤ 6 → RA (R k) 0 := fun k hk => ha.fq (RF k hk) (by omega)
    have RS' : ∀ k, k ≤ 6 → RS (R k) 0 T S := fun k hk => hS.fq hI (RF k hk) (fun i h1 h2 => by omega)
    have Rs : ∀ k, wi (R k) 614 k (iI ((dgt a k : Nat) : Int)) = R (k + 1) := fun k => by rw [hR]; exact runI_s0 M 614 k (fun i => iI ((dgt a i : Nat) : Int))
    have Rr : ∀ k i, i < k → (R k).1 614 i = iI ((dgt a i : Nat) : Int) := fun k i hi => by
      rw [hR]
      show (runI M 614 0 k (fun i => iI ((dgt a i : Nat) : Int))).1 614 i = _
      rw [runI_y (by omega) (by omega)]
      rfl
    have o6 : ∀ k, k ≤ j → aTold (dgt a) k < 64 := fun k hk => aTold_lt k (fun i hi => by have := (j2 i (by omega)).1; omega)
    have isW : ∀ k, k < 6 → ((0 ≤ iI ((dgt a k : Nat) : Int) ∧ iI ((dgt a k : Nat) : Int) ≤ (R (k + 1)).1 600 2 - 1) ↔ ((dgt a k : Nat) : Int) < T 0 2) := fun k hk => by
      have d8 := (dgt_s a k).1
      rw [r_isWork (RT' (k + 1) (by omega)) hI (by omega) (by omega)]
      omega
    have isO : ∀ k, k < 6 → ((dgt a k : Nat) : Int) < T 0 2 → (((R (k + 1)).1 607 (Int32.toNatClampNeg ((R (k + 1)).1 600 10 + 9 + iI ((dgt a k : Nat) : Int))) = 0) ↔ S 2 (dgt a k) = 0) := fun k hk h => by
      have := r_open (RA' (k + 1) (by omega)) (RS' (k + 1) (by omega)) hI hJ (x := ((dgt a k : Nat) : Int)) (by omega) h
      rw [Int.toNat_natCast] at this
      exact this
    have hlt : ∀ k, k < len → ¬ iI (len : Int) ≤ iI (k : Int) := fun k hk => by rw [iI_le (by omega) (by omega) (by omega) (by omega)]; omega
    have step : ∀ k, k < j →
        c_X8_takesOrder_24 a (iI (len : Int)) (R k, iI ((aTold (dgt a) k : Nat) : Int), iI (k : Int)) ∧ q_X8_takesOrder_24 a (iI (len : Int)) (R k, iI ((aTold (dgt a) k : Nat) : Int), iI (k : Int)) ∧
        s_X8_takesOrder_24 a (iI (len : Int)) (R k, iI ((aTold (dgt a) k : Nat) : Int), iI (k : Int)) = (R (k + 1), iI ((aTold (dgt a) (k + 1) : Nat) : Int), iI ((k + 1 : Nat) : Int)) := by
      intro k hk
      obtain ⟨w1, w2, w3⟩ := j2 k hk
      have vk : vp_in (iI (k : Int)) 6 := vin_iI (by omega) (by omega) (by omega)
      have g1 : ¬ b2i (0 ≤ iI ((dgt a k : Nat) : Int) ∧ iI ((dgt a k : Nat) : Int) ≤ (R (k + 1)).1 600 2 - 1) = 0 := b2i_1.mpr ((isW k (by omega)).mpr w1)
      have g2 : ¬ b2i ((R (k + 1)).1 607 (Int32.toNatClampNeg ((R (k + 1)).1 600 10 + 9 + iI ((dgt a k : Nat) : Int))) = 0) = 0 := b2i_1.mpr ((isO k (by omega) w1).mpr w2)
      have g3 : ¬ ((iI ((aTold (dgt a) k : Nat) : Int) >>> (iI ((dgt a k : Nat) : Int) &&& 31)) &&& 1) = 1 := fun u => by
        have := (msk_in1 _ (o6 k (by omega)) (dgt a k) (dgt_s a k).1).mp u
        rw [this] at w3
        exact absurd w3 (by decide)
      have v9 := (RA' (k + 1) (by omega)).vs (x := ((dgt a k : Nat) : Int)) (T := T) (by omega) w1 hI
      unfold c_X8_takesOrder_24 q_X8_takesOrder_24 s_X8_takesOrder_24
      dsimp only
      rw [(dgt_s a k).2, natk (n := k) rfl (by omega), Rs, Rr (k + 1) k (by omega), if_neg (hlt k (by omega)), if_neg (hlt k (by omega)), if_neg (hlt k (by omega)), if_neg g1, if_neg g1, if_neg g1, if_neg g2, if_neg g2, if_neg g2, if_pos g3, if_pos g3, if_pos g3, k1_iI, msk_or _ (o6 k (by omega)) _ (by omega)]
      exact ⟨trivial, ⟨vk, vk, vk, v9, vk, vk, trivial⟩, rfl⟩
    have key : ∀ k, k ≤ j → l_X8_takesOrder_24 a (iI (len : Int)) (M, 0, 0) k = (R k, iI ((aTold (dgt a) k : Nat) : Int), iI (k : Int)) := by
      refine it_for _ ?_ (fun k hk => (step k hk).2.2)
      have : R 0 = M := by rw [hR]; exact runI_0 M 614 0 _
      rw [this]; rfl
    have stop : ¬ c_X8_takesOrder_24 a (iI (len : Int)) (R j, iI ((aTold (dgt a) j : Nat) : Int), iI (j : Int)) := by
      unfold c_X8_takesOrder_24
      dsimp only
      by_cases q : j = len
      · rw [if_pos (by rw [iI_le (by omega) (by omega) (by omega) (by omega)]; omega)]
        exact fun h => h
      · have nok := j3.resolve_left q
        rw [if_neg (hlt j (by omega)), (dgt_s a j).2, natk (n := j) rfl (by omega), Rs, Rr (j + 1) j (by omega)]
        by_cases c1 : ((dgt a j : Nat) : Int) < T 0 2
        · rw [if_neg (b2i_1.mpr ((isW j (by omega)).mpr c1))]
          by_cases c2 : S 2 (dgt a j) = 0
          · rw [if_neg (b2i_1.mpr ((isO j (by omega) c1).mpr c2))]
            have c3 : (aTold (dgt a) j).testBit (dgt a j) = true := by
              cases hb : (aTold (dgt a) j).testBit (dgt a j) with
              | true => rfl
              | false => exact absurd ⟨c1, c2, hb⟩ nok
            rw [if_neg (not_not_intro ((msk_in1 _ (o6 j (by omega)) (dgt a j) (dgt_s a j).1).mpr c3))]
            exact fun h => h
          · rw [if_pos (b2i_0.mpr (fun u => c2 ((isO j (by omega) c1).mp u)))]
            exact fun h => h
        · rw [if_pos (b2i_0.mpr (fun u => c1 ((isW j (by omega)).mp u)))]
          exact fun h => h
    have cn : cntN (fun k => c_X8_takesOrder_24 a (iI (len : Int)) (l_X8_takesOrder_24 a (iI (len : Int)) (M, 0, 0) k)) 7 = j := by
      refine cntN_eq (by omega) (fun k hk => ?_) ?_
      · show c_X8_takesOrder_24 _ _ _
        rw [key k (by omega)]
        exact (step k hk).1
      · show ¬ c_X8_takesOrder_24 _ _ _
        rw [key j (Nat.le_refl _)]
        exact stop
    rw [cn, key j (Nat.le_refl _)]
    dsimp only
    have pr : (∀ k, k < j → c_X8_takesOrder_24 a (iI (len : Int)) (l_X8_takesOrder_24 a (iI (len : Int)) (M, 0, 0) k)) ∧ (∀ k, k < j → q_X8_takesOrder_24 a (iI (len : Int)) (l_X8_takesOrder_24 a (iI (len : Int)) (M, 0, 0) k)) := by
      refine ⟨fun k hk => ?_, fun k hk => ?_⟩
      · rw [key k (by omega)]
        exact (step k hk).1
      · rw [key k (by omega)]
        exact (step k hk).2.1
    by_cases q : j = len
    · have g : iI (len : Int) ≤ iI (j : Int) := by rw [iI_le (by omega) (by omega) (by omega) (by omega)]; omega
      rw [if_pos g, if_pos g, if_pos g]
      obtain ⟨w1, w2, w3⟩ := r_allow (RT' j (by omega)) (RA' j (by omega)) (RS' j (by omega)) hI hJ (ord := dgt a) (n := len) l6 (fun i hi => ⟨(j2 i (by omega)).1, Rr j i (by omega)⟩)
      refine ⟨⟨f1, pr.1, pr.2, stop, w1, by split <;> trivial⟩, RF j (by omega), fun h => absurd ⟨d1, d2, fun k hk => j2 k (by omega)⟩ h, fun h => ⟨fun i hi => Rr j i (by omega), fun h2 => ?_, fun h2 => ?_⟩⟩
      · rw [w2 h2, if_neg (by decide)]
      · rw [w3 h2, if_pos rfl]
    · have nok := j3.resolve_left q
      have vj : vp_in (iI (j : Int)) 6 := vin_iI (by omega) (by omega) (by omega)
      rw [if_neg (hlt j (by omega)), if_neg (hlt j (by omega)), if_neg (hlt j (by omega)), (dgt_s a j).2, natk (n := j) rfl (by omega), Rs, Rr (j + 1) j (by omega)]
      have nDG : ¬ DG T S a len := fun h => nok (h.2.2 j (by omega))
      by_cases c1 : ((dgt a j : Nat) : Int) < T 0 2
      · have g1 : ¬ b2i (0 ≤ iI ((dgt a j : Nat) : Int) ∧ iI ((dgt a j : Nat) : Int) ≤ (R (j + 1)).1 600 2 - 1) = 0 := b2i_1.mpr ((isW j (by omega)).mpr c1)
        have v9 := (RA' (j + 1) (by omega)).vs (x := ((dgt a j : Nat) : Int)) (T := T) (by omega) c1 hI
        rw [if_neg g1, if_neg g1, if_neg g1]
        by_cases c2 : S 2 (dgt a j) = 0
        · have g2 : ¬ b2i ((R (j + 1)).1 607 (Int32.toNatClampNeg ((R (j + 1)).1 600 10 + 9 + iI ((dgt a j : Nat) : Int))) = 0) = 0 := b2i_1.mpr ((isO j (by omega) c1).mpr c2)
          have c3 : (aTold (dgt a) j).testBit (dgt a j) = true := by
            cases hb : (aTold (dgt a) j).testBit (dgt a j) with
            | true => rfl
            | false => exact absurd ⟨c1, c2, hb⟩ nok
          have g3 := not_not_intro ((msk_in1 _ (o6 j (by omega)) (dgt a j) (dgt_s a j).1).mpr c3)
          rw [if_neg g2, if_neg g2, if_neg g2, if_neg g3, if_neg g3, if_neg g3]
          exact ⟨⟨f1, pr.1, pr.2, stop, vj, vj, vj, v9, vj, trivial⟩, RF (j + 1) (by omega), fun _ => rfl, fun h => absurd h nDG⟩
        · have g2 := b2i_0.mpr (fun u => c2 ((isO j (by omega) c1).mp u))
          rw [if_pos g2, if_pos g2, if_pos g2]
          exact ⟨⟨f1, pr.1, pr.2, stop, vj, vj, vj, v9, trivial⟩, RF (j + 1) (by omega), fun _ => rfl, fun h => absurd h nDG⟩
      · have g1 := b2i_0.mpr (fun u => c1 ((isW j (by omega)).mp u))
        rw [if_pos g1, if_pos g1, if_pos g1]
        exact ⟨⟨f1, pr.1, pr.2, stop, vj, vj, trivial⟩, RF (j + 1) (by omega), fun _ => rfl, fun h => absurd h nDG⟩
  · rw [if_neg d2, if_neg d2, if_neg d2]
    exact ⟨⟨f1, trivial⟩, Fq.rf, fun _ => rfl, fun h => absurd h.2.1 d2⟩
end P63
