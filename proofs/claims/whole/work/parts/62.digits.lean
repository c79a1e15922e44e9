/-! digits read -/
def okD (T S : Tw) (a : Int32) (k : Nat) : Prop := ((dgt a k : Nat) : Int) < T 0 2 ∧ S 2 (dgt a k) = 0 ∧ (aTold (dgt a) k).testBit (dgt a k) = false
def DG (T S : Tw) (a : Int32) (len : Nat) : Prop := ¬ a < 0 ∧ a >>> (((3 : Int32) * iI (len : Int)) &&& 31) = 0 ∧ ∀ k, k < len → okD T S a k
theorem Fq.run {Q : Nat → Nat → Prop} {M M' : Mm} {A t j : Nat} {f : Nat → Int32} (h : Fq Q M M') (hq : ∀ k, t ≤ k → k < t + j → Q A k) : Fq Q M (runI M' A t j f) := ⟨fun a k hk => by
  have hne : ¬ (a = A ∧ t ≤ k ∧ k < t + j) := fun e => hk (by rw [e.1]; exact hq k e.2.1 e.2.2)
  rw [runI_1, if_neg hne]
  exact h.1 a k hk, fun a k hk => h.2 a k hk⟩
theorem okD_ne {T S : Tw} {a : Int32} {len : Nat} (h : ∀ k, k < len → okD T S a k) : ∀ i j, i < j → j < len → dgt a i ≠ dgt a j := fun i j hij hj e => by
  have := (h j hj).2.2
  have b := (aTold_bit (ord := dgt a) j (dgt a j)).mpr ⟨i, hij, e⟩
  rw [b] at this
  exact absurd this (by decide)
section P62
variable {M A : Mm} {T S : Tw} {mb : Int}
theorem c_openI {s : Nat} (hT : CT A 100 T) (hS : CSt A s T S) (hI : InvT T) (hJ : InvS T S mb) {x : Int} (x1 : -2147483648 ≤ x) (x2 : x < 2147483648) : cOpen A s (iI x) ↔ (0 ≤ x ∧ x < T 0 2) ∧ S 2 x.toNat = 0 := by
  have hc := hI.1
  have h1 := c_has hT hI x1 x2
  constructor
  · rintro ⟨u, v⟩
    have w := h1.mp u
    refine ⟨w, ?_⟩
    rw [hS.state w.1 w.2 hI] at v
    have b := hJ.2.2.1 x w.1 w.2
    rw [cl0, iI_eq (by omega) (by omega) (by omega) (by omega)] at v
    exact v
  · rintro ⟨u, v⟩
    refine ⟨h1.mpr u, ?_⟩
    rw [hS.state u.1 u.2 hI, v]
    rfl
theorem c_read (hT : CT M 100 T) (hS : CSt M 1000 T S) (hI : InvT T) (hJ : InvS T S mb) (a : Int32) {len : Nat} (hlen : len = aOpn S (T 0 2).toNat) :
    p_X2_readDigits M a ∧ Fq (fun x k => (x = 510 ∧ k = 4) ∨ (x = 512 ∧ k < 6)) M (w_X2_readDigits M a) ∧ (¬ DG T S a len → r_X2_readDigits M a = -1) ∧
    (DG T S a len → (w_X2_readDigits M a).1 510 4 = iI (len : Int) ∧ (∀ i, i < len → (w_X2_readDigits M a).1 512 i = iI ((dgt a i : Nat) : Int)) ∧ ((∀ i, i < len → okA T S (dgt a) i) → r_X2_readDigits M a = 0) ∧ ((¬ ∀ i, i < len → okA T S (dgt a) i) → r_X2_readDigits M a = -4)) := by
  have hc := hI.1
  obtain ⟨f1, f2⟩ := c_opn hT hS hI hJ
  rw [← hlen] at f2
  have l6 : len ≤ 6 := by
    have := aOpn_le S (T 0 2).toNat
    omega
  have h6 : (M.1 100 2).toInt ≤ 6 := by rw [hT.1.2.2, iI_toInt (by omega) (by omega)]; omega
  unfold p_X2_readDigits r_X2_readDigits w_X2_readDigits
  rw [f2]
  obtain ⟨M0, hM0⟩ : ∃ M0, M0 = wi M 510 4 (iI (len : Int)) := ⟨_, rfl⟩
  rw [← hM0]
  have F0 : Fq (fun x k => (x = 510 ∧ k = 4) ∨ (x = 512 ∧ k < 6)) M M0 := by rw [hM0]; exact Fq.wi Fq.rf (by omega)
  have e4 : M0.1 510 4 = iI (len : Int) := by rw [hM0]; exact rd_same _ _ _ _
  clear hM0
  by_cases d1 : a < 0
  · rw [if_pos d1, if_pos d1, if_pos d1]
    exact ⟨⟨f1, trivial⟩, F0, fun _ => rfl, fun h => absurd d1 h.1⟩
  rw [if_neg d1, if_neg d1, if_neg d1]
  by_cases d2 : a >>> (((3 : Int32) * iI (len : Int)) &&& 31) = 0
  · rw [if_pos d2, if_pos d2, if_pos d2]
    obtain ⟨j, j1, j2, j3⟩ := fst_ex (okD T S a) len
    obtain ⟨R, hR⟩ : ∃ R : Nat → Mm, R = fun k => runI M0 512 0 k (fun i => iI ((dgt a i : Nat) : Int)) := ⟨_, rfl⟩
    have RF : ∀ k, k ≤ 6 → Fq (fun x k => (x = 510 ∧ k = 4) ∨ (x = 512 ∧ k < 6)) M (R k) := fun k hk => by rw [hR]; exact F0.run (fun i h1 h2 => by omega)
    have R4 : ∀ k, (R k).1 510 4 = iI (len : Int) := fun k => by rw [hR]; show (runI _ _ _ _ _).1 510 4 = _; rw [runI_n (Or.inl (by omega))]; exact e4
    have RT' : ∀ k, k ≤ 6 → CT (R k) 100 T := fun k hk => hT.fq hI (RF k hk) (fun x i h1 h2 => by omega)
    have RS' : ∀ k, k ≤ 6 → CSt (R k) 1000 T S := fun k hk => hS.fq (RF k hk) (fun x i h1 h2 => by omega)
    have Rs : ∀ k, wi (R k) 512 k (iI ((dgt a k : Nat) : Int)) = R (k + 1) := fun k => by rw [hR]; exact runI_s0 M0 512 k (fun i => iI ((dgt a i : Nat) : Int))
    have o6 : ∀ k, k ≤ j → aTold (dgt a) k < 64 := fun k hk => aTold_lt k (fun i hi => by have := (j2 i (by omega)).1; omega)
    have bt : ∀ k b, k ≤ j → b < 8 → ((b2i (¬ (iI ((aTold (dgt a) k : Nat) : Int) >>> (iI ((b : Nat) : Int) &&& 31)) &&& 1 = 0) = 0) ↔ (aTold (dgt a) k).testBit b = false) := fun k b hk hb => by
      rw [b2i_0, Classical.not_not]
      exact msk_in _ (o6 k hk) b hb
    have opn : ∀ k, k < 7 → (cOpen (R k) 1000 (iI ((dgt a k : Nat) : Int)) ↔ ((dgt a k : Nat) : Int) < T 0 2 ∧ S 2 (dgt a k) = 0) := fun k hk => by
      have d8 := (dgt_s a k).1
      by_cases q : k ≤ 6
      · rw [c_openI (RT' k q) (RS' k q) hI hJ (by omega) (by omega), Int.toNat_natCast]
        constructor
        · rintro ⟨u, v⟩; exact ⟨u.2, v⟩
        · rintro ⟨u, v⟩; exact ⟨⟨by omega, u⟩, v⟩
      · omega
    have hlt : ∀ k, k < len → ∀ k', ¬ (R k').1 510 4 ≤ iI (k : Int) := fun k hk k' => by rw [R4, iI_le (by omega) (by omega) (by omega) (by omega)]; omega
    have step : ∀ k (al : Int32), k < j → ((∀ i, i < k → okA T S (dgt a) i) → al = 1) → ((¬ ∀ i, i < k → okA T S (dgt a) i) → al = 0) →
        c_X2_readDigits_42 a (R k, iI ((aTold (dgt a) k : Nat) : Int), al, iI (k : Int)) ∧ q_X2_readDigits_42 a (R k, iI ((aTold (dgt a) k : Nat) : Int), al, iI (k : Int)) ∧
        ∃ al' : Int32, s_X2_readDigits_42 a (R k, iI ((aTold (dgt a) k : Nat) : Int), al, iI (k : Int)) = (R (k + 1), iI ((aTold (dgt a) (k + 1) : Nat) : Int), al', iI ((k + 1 : Nat) : Int)) ∧ ((∀ i, i < k + 1 → okA T S (dgt a) i) → al' = 1) ∧ ((¬ ∀ i, i < k + 1 → okA T S (dgt a) i) → al' = 0) := by
      intro k al hk al1 al0
      obtain ⟨w1, w2, w3⟩ := j2 k hk
      have vd : vp_in (iI ((dgt a k : Nat) : Int)) 6 := vin_iI (by omega) (by omega) (by omega)
      have vk : vp_in (iI (k : Int)) 6 := vin_iI (by omega) (by omega) (by omega)
      have g1 : ¬ b2i (cOpen (R k) 1000 (iI ((dgt a k : Nat) : Int))) = 0 := b2i_1.mpr ((opn k (by omega)).mpr ⟨w1, w2⟩)
      have g2 := (bt k (dgt a k) (by omega) (by omega)).mpr w3
      have k6 := (hI.2.2.2.2 (dgt a k) w1).2.2.2.2.2.2.1
      have e6 : (R k).1 (110 + Int32.toNatClampNeg (iI ((dgt a k : Nat) : Int))) 6 = iI (T (10 + dgt a k) 6) := (RT' k (by omega)).wk w1 hI (by omega)
      have hr : ((R k).1 100 2).toInt ≤ 6 := by rw [(RF k (by omega)).1 _ _ (by omega)]; exact h6
      have ob := c_openI (RT' k (by omega)) (RS' k (by omega)) hI hJ (x := T (10 + dgt a k) 6) (by omega) (by omega)
      unfold c_X2_readDigits_42 q_X2_readDigits_42 s_X2_readDigits_42
      dsimp only
      rw [(dgt_s a k).2, if_neg (hlt k (by omega) k), if_neg (hlt k (by omega) k), if_neg (hlt k (by omega) k), if_neg g1, if_neg g1, if_neg g1, if_pos g2, if_pos g2, if_pos g2, e6]
      unfold q_X2_readDigits_42_137 s_X2_readDigits_42_137
      rw [natk (n := k) rfl (by omega), Rs, k1_iI, msk_or _ (o6 k (by omega)) _ (by omega)]
      have keep : okA T S (dgt a) k → ((∀ i, i < k + 1 → okA T S (dgt a) i) → al = 1) ∧ ((¬ ∀ i, i < k + 1 → okA T S (dgt a) i) → al = 0) := fun ok => ⟨fun h => al1 (fun i hi => h i (by omega)), fun h => al0 (fun h' => h (fun i hi => by
        by_cases q : i = k
        · rw [q]; exact ok
        · exact h' i (by omega)))⟩
      by_cases c1 : (0 ≤ T (10 + dgt a k) 6 ∧ T (10 + dgt a k) 6 < T 0 2) ∧ S 2 (T (10 + dgt a k) 6).toNat = 0
      · have g3 : ¬ b2i (cOpen (R k) 1000 (iI (T (10 + dgt a k) 6))) = 0 := b2i_1.mpr (ob.mpr c1)
        rw [if_neg g3, if_neg g3]
        have bb := bt k (T (10 + dgt a k) 6).toNat (by omega) (by omega)
        rw [show (((T (10 + dgt a k) 6).toNat : Nat) : Int) = T (10 + dgt a k) 6 by omega] at bb
        by_cases c2 : (aTold (dgt a) k).testBit (T (10 + dgt a k) 6).toNat = false
        · have g4 := not_not_intro (bb.mpr c2)
          rw [if_neg g4, if_neg g4]
          have nok : ¬ okA T S (dgt a) k := fun u => u ⟨c1.1.1, c1.2, c2⟩
          exact ⟨trivial, ⟨hr, vd, hr, vk, trivial⟩, 0, rfl, fun h => absurd (h k (by omega)) nok, fun _ => rfl⟩
        · have g4 : ¬ b2i (¬ (iI ((aTold (dgt a) k : Nat) : Int) >>> (iI (T (10 + dgt a k) 6) &&& 31)) &&& 1 = 0) = 0 := fun u => c2 (bb.mp u)
          rw [if_pos g4, if_pos g4]
          exact ⟨trivial, ⟨hr, vd, hr, vk, trivial⟩, al, rfl, keep (fun u => c2 u.2.2)⟩
      · have g3 := b2i_0.mpr (fun u => c1 (ob.mp u))
        rw [if_pos g3, if_pos g3]
        exact ⟨trivial, ⟨hr, vd, hr, vk, trivial⟩, al, rfl, keep (fun u => c1 ⟨⟨u.1, by omega⟩, u.2.1⟩)⟩
    have key : ∀ k, k ≤ j → ∃ al : Int32, l_X2_readDigits_42 a (M0, 0, 1, 0) k = (R k, iI ((aTold (dgt a) k : Nat) : Int), al, iI (k : Int)) ∧ ((∀ i, i < k → okA T S (dgt a) i) → al = 1) ∧ ((¬ ∀ i, i < k → okA T S (dgt a) i) → al = 0) := by
      intro k
      induction k with
      | zero =>
        intro _
        refine ⟨1, ?_, fun _ => rfl, fun h => absurd (fun i hi => absurd hi (Nat.not_lt_zero i)) h⟩
        have : R 0 = M0 := by rw [hR]; exact runI_0 M0 512 0 _
        rw [this]; rfl
      | succ k ih =>
        intro hk
        obtain ⟨al, h1, h2, h3⟩ := ih (by omega)
        obtain ⟨-, -, al', h4, h5⟩ := step k al (by omega) h2 h3
        refine ⟨al', ?_, h5⟩
        show s_X2_readDigits_42 a (l_X2_readDigits_42 a (M0, 0, 1, 0) k) = _
        rw [h1]; exact h4
    obtain ⟨al, k1, k2, k3⟩ := key j (Nat.le_refl _)
    have stop : ¬ c_X2_readDigits_42 a (R j, iI ((aTold (dgt a) j : Nat) : Int), al, iI (j : Int)) := by
      unfold c_X2_readDigits_42
      dsimp only
      by_cases q : j = len
      · rw [if_pos (by rw [R4, iI_le (by omega) (by omega) (by omega) (by omega)]; omega)]
        exact fun h => h
      · have nok := j3.resolve_left q
        rw [if_neg (hlt j (by omega) j), (dgt_s a j).2]
        by_cases c1 : ((dgt a j : Nat) : Int) < T 0 2 ∧ S 2 (dgt a j) = 0
        · rw [if_neg (b2i_1.mpr ((opn j (by omega)).mpr c1))]
          have c3 : ¬ (aTold (dgt a) j).testBit (dgt a j) = false := fun u => nok ⟨c1.1, c1.2, u⟩
          rw [if_neg (fun u => c3 ((bt j (dgt a j) (by omega) (dgt_s a j).1).mp u))]
          exact fun h => h
        · rw [if_pos (b2i_0.mpr (fun u => c1 ((opn j (by omega)).mp u)))]
          exact fun h => h
    have cn : cntN (fun k => c_X2_readDigits_42 a (l_X2_readDigits_42 a (M0, 0, 1, 0) k)) 7 = j := by
      refine cntN_eq (by omega) (fun k hk => ?_) ?_
      · show c_X2_readDigits_42 _ _
        obtain ⟨al, k1, k2, k3⟩ := key k (by omega)
        rw [k1]
        exact (step k al hk k2 k3).1
      · show ¬ c_X2_readDigits_42 _ _
        rw [k1]
        exact stop
    rw [cn, k1]
    dsimp only
    have pr : (∀ k, k < j → c_X2_readDigits_42 a (l_X2_readDigits_42 a (M0, 0, 1, 0) k)) ∧ (∀ k, k < j → q_X2_readDigits_42 a (l_X2_readDigits_42 a (M0, 0, 1, 0) k)) := by
      refine ⟨fun k hk => ?_, fun k hk => ?_⟩
      · obtain ⟨al, k1, k2, k3⟩ := key k (by omega)
        rw [k1]
        exact (step k al hk k2 k3).1
      · obtain ⟨al, k1, k2, k3⟩ := key k (by omega)
        rw [k1]
        exact (step k al hk k2 k3).2.1
    by_cases q : j = len
    · have g : (R j).1 510 4 ≤ iI (j : Int) := by rw [R4, iI_le (by omega) (by omega) (by omega) (by omega)]; omega
      rw [if_pos g, if_pos g, if_pos g]
      refine ⟨⟨f1, pr.1, pr.2, stop, by split <;> trivial⟩, RF j (by omega), fun h => absurd ⟨d1, d2, fun k hk => j2 k (by omega)⟩ h, fun h => ⟨R4 j, fun i hi => ?_, fun h2 => ?_, fun h2 => ?_⟩⟩
      · rw [hR]
        show (runI M0 512 0 j (fun i => iI ((dgt a i : Nat) : Int))).1 512 i = _
        rw [runI_y (by omega) (by omega)]
        rfl
      · rw [k2 (fun i hi => h2 i (by omega)), if_neg (by decide)]
      · rw [k3 (fun u => h2 (fun i hi => u i (by omega))), if_pos rfl]
    · have nok := j3.resolve_left q
      have hr : ((R j).1 100 2).toInt ≤ 6 := by rw [(RF j (by omega)).1 _ _ (by omega)]; exact h6
      rw [if_neg (hlt j (by omega) j), if_neg (hlt j (by omega) j), if_neg (hlt j (by omega) j), (dgt_s a j).2]
      have nDG : ¬ DG T S a len := fun h => nok (h.2.2 j (by omega))
      by_cases c1 : ((dgt a j : Nat) : Int) < T 0 2 ∧ S 2 (dgt a j) = 0
      · have g1 : ¬ b2i (cOpen (R j) 1000 (iI ((dgt a j : Nat) : Int))) = 0 := b2i_1.mpr ((opn j (by omega)).mpr c1)
        have c3 : ¬ (aTold (dgt a) j).testBit (dgt a j) = false := fun u => nok ⟨c1.1, c1.2, u⟩
        have g2 : ¬ b2i (¬ (iI ((aTold (dgt a) j : Nat) : Int) >>> (iI ((dgt a j : Nat) : Int) &&& 31)) &&& 1 = 0) = 0 := fun u => c3 ((bt j (dgt a j) (by omega) (dgt_s a j).1).mp u)
        rw [if_neg g1, if_neg g1, if_neg g1, if_neg g2, if_neg g2, if_neg g2]
        exact ⟨⟨f1, pr.1, pr.2, stop, hr, trivial⟩, RF j (by omega), fun _ => rfl, fun h => absurd h nDG⟩
      · have g1 := b2i_0.mpr (fun u => c1 ((opn j (by omega)).mp u))
        rw [if_pos g1, if_pos g1, if_pos g1]
        exact ⟨⟨f1, pr.1, pr.2, stop, hr, trivial⟩, RF j (by omega), fun _ => rfl, fun h => absurd h nDG⟩
  · rw [if_neg d2, if_neg d2, if_neg d2]
    exact ⟨⟨f1, trivial⟩, F0, fun _ => rfl, fun h => absurd h.2.1 d2⟩
end P62
