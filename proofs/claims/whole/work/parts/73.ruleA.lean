/-! an order by a rule -/
def gCh (T S : Tw) (r : Nat) : Int := aCh T S (aMask T S (T 0 2).toNat) (T 4 r) (T 5 r).toNat
def gR (T S : Tw) (r : Nat) : Nat → Tw
  | 0 => S
  | k + 1 => if 0 ≤ gCh T (gR T S r k) r then aTurn T (gR T S r k) (gCh T (gR T S r k) r).toNat else gR T S r k
theorem aOpn_ex {S : Tw} : ∀ n, 0 < aOpn S n → ∃ w, w < n ∧ S 2 w = 0
  | 0, h => absurd h (Nat.lt_irrefl 0)
  | n + 1, h => by
    rw [aOpn_s] at h
    by_cases c : S 2 n = 0
    · exact ⟨n, by omega, c⟩
    · rw [if_neg c] at h
      obtain ⟨w, h1, h2⟩ := aOpn_ex n h
      exact ⟨w, by omega, h2⟩
theorem aOpn_z {S : Tw} : ∀ n, aOpn S n = 0 → ∀ w, w < n → S 2 w ≠ 0
  | 0, _, w, h => absurd h (Nat.not_lt_zero w)
  | n + 1, h, w, hw => by
    rw [aOpn_s] at h
    by_cases c : S 2 n = 0
    · rw [if_pos c] at h; omega
    · rw [if_neg c] at h
      by_cases q : w = n
      · rw [q]; exact c
      · exact aOpn_z n h w (by omega)
theorem aMask_z {T S : Tw} : ∀ n, (∀ w, w < n → S 2 w ≠ 0) → aMask T S n = 0
  | 0, _ => rfl
  | n + 1, h => by
    rw [aMask_s, if_neg (fun u => h n (by omega) u.1)]
    exact aMask_z n (fun w hw => h w (by omega))
theorem aMask_pos {T S : Tw} (hI : InvT T) (h : 0 < aOpn S (T 0 2).toNat) : 0 < aMask T S (T 0 2).toNat := by
  have hc := hI.1
  obtain ⟨v, v1, v2⟩ := aOpn_ex _ h
  obtain ⟨j, j1, j2, j3⟩ := fst_ex (fun j => S 2 j ≠ 0) (T 0 2).toNat
  have jn : j < (T 0 2).toNat := by
    rcases Nat.lt_or_ge j (T 0 2).toNat with q | q
    · exact q
    · exact absurd v2 (j2 v (by omega))
  have j0 : S 2 j = 0 := by
    rcases j3 with j3 | j3
    · omega
    · exact Decidable.not_not.mp j3
  have k6 := (hI.2.2.2.2 j (by omega)).2.2.2.2.2.2.1
  have fr : aFree T S j := ⟨j0, fun u => j2 _ (by omega) u.2⟩
  have b := (aMask_bit T S (T 0 2).toNat (by omega) j (by omega)).mpr ⟨jn, fr⟩
  rcases Nat.eq_zero_or_pos (aMask T S (T 0 2).toNat) with z | z
  · rw [z, Nat.zero_testBit] at b
    exact absurd b (by decide)
  · exact z
theorem aOpn_turn {T S : Tw} {w : Nat} (h0 : S 2 w = 0) : ∀ n, (n ≤ w → aOpn (aTurn T S w) n = aOpn S n) ∧ (w < n → aOpn (aTurn T S w) n + 1 = aOpn S n)
  | 0 => ⟨fun _ => rfl, fun h => absurd h (Nat.not_lt_zero w)⟩
  | n + 1 => by
    obtain ⟨i1, i2⟩ := aOpn_turn (T := T) h0 n
    obtain ⟨t1, t2⟩ := aTurn_2w T S w n
    rw [aOpn_s, aOpn_s]
    refine ⟨fun h => ?_, fun h => ?_⟩
    · rw [t2 (by omega), i1 (by omega)]
    · by_cases q : n = w
      · have g1 := t1 q
        have g2 : S 2 n = 0 := by rw [q]; exact h0
        rw [if_neg g1, if_pos g2, i1 (by omega)]
      · rw [t2 q]
        have := i2 (by omega)
        split <;> omega
theorem gCh_in {T S : Tw} {r : Nat} (hI : InvT T) (h : 0 ≤ gCh T S r) : ∃ w : Nat, (w : Int) < T 0 2 ∧ gCh T S r = (w : Int) ∧ aFree T S w := by
  have hc := hI.1
  obtain ⟨w, h1, h2, h3⟩ := aCh_in hI (aMask_p T S _) h
  exact ⟨w, by omega, h2, ((aMask_bit T S (T 0 2).toNat (by omega) w (by omega)).mp h3).2⟩
theorem gR_s {T S : Tw} {r k w : Nat} (h : gCh T (gR T S r k) r = (w : Int)) : gR T S r (k + 1) = aTurn T (gR T S r k) w := by
  show (if 0 ≤ gCh T (gR T S r k) r then aTurn T (gR T S r k) (gCh T (gR T S r k) r).toNat else gR T S r k) = _
  rw [if_pos (by omega), h, Int.toNat_natCast]
theorem gR_n {T S : Tw} {r k : Nat} (h : ¬ 0 ≤ gCh T (gR T S r k) r) : gR T S r (k + 1) = gR T S r k := by
  show (if 0 ≤ gCh T (gR T S r k) r then _ else gR T S r k) = _
  rw [if_neg h]
theorem gR_opn {T S : Tw} {r len : Nat} (hI : InvT T) (hlen : len = aOpn S (T 0 2).toNat) : ∀ k, k ≤ len → (∀ i, i < k → 0 ≤ gCh T (gR T S r i) r) → aOpn (gR T S r k) (T 0 2).toNat + k = len
  | 0, _, _ => hlen.symm
  | k + 1, h, hp => by
    have hc := hI.1
    have ih := gR_opn hI hlen k (by omega) (fun i hi => hp i (by omega))
    obtain ⟨w, w1, w2, w3⟩ := gCh_in hI (hp k (by omega))
    rw [gR_s w2]
    have := (aOpn_turn (T := T) w3.1 (T 0 2).toNat).2 (by omega)
    omega
theorem gR_end {T S : Tw} {r len : Nat} (hI : InvT T) (hlen : len = aOpn S (T 0 2).toNat) (hp : ∀ i, i < len → 0 ≤ gCh T (gR T S r i) r) : ∀ k, len ≤ k → gR T S r k = gR T S r len ∧ gCh T (gR T S r k) r = -3 := by
  have z := gR_opn hI hlen len (Nat.le_refl _) hp
  have m0 : gCh T (gR T S r len) r = -3 := by
    unfold gCh
    rw [aMask_z _ (aOpn_z _ (by omega)), aCh_0]
  intro k
  induction k with
  | zero =>
    intro h
    have : len = 0 := by omega
    rw [← this]
    exact ⟨rfl, m0⟩
  | succ k ih =>
    intro h
    by_cases q : len ≤ k
    · obtain ⟨e1, e2⟩ := ih q
      rw [gR_n (by rw [e2]; decide), e1]
      exact ⟨rfl, m0⟩
    · have : k + 1 = len := by omega
      rw [this]
      exact ⟨rfl, m0⟩
theorem gR_inv {T S : Tw} {r : Nat} {mb : Int} (hI : InvT T) (hJ : InvS T S mb) (hm : mb ≤ 800000) : ∀ k : Nat, k ≤ 6 → InvS T (gR T S r k) (mb + 2000 * (k : Int))
  | 0, _ => hJ.mono (by omega) (by omega)
  | k + 1, h => by
    have ih := gR_inv (r := r) hI hJ hm k (by omega)
    by_cases c : 0 ≤ gCh T (gR T S r k) r
    · obtain ⟨w, w1, w2, -⟩ := gCh_in hI c
      rw [gR_s w2]
      exact (InvS.turn hI ih w1 (by omega)).mono (by omega) (by omega)
    · rw [gR_n c]
      exact ih.mono (by omega) (by omega)
/-! digits -/
noncomputable def dOf (f : Nat → Int32) : Nat → Int32
  | 0 => 0
  | k + 1 => dOf f k ||| (f k <<< (((3 : Int32) * iI (k : Int)) &&& 31))
theorem dOf_c {f g : Nat → Int32} : ∀ n, (∀ i, i < n → f i = g i) → dOf f n = dOf g n
  | 0, _ => rfl
  | k + 1, h => by
    show dOf f k ||| (f k <<< _) = dOf g k ||| (g k <<< _)
    rw [dOf_c k (fun i hi => h i (by omega)), h k (by omega)]
theorem c_dig {M : Mm} {len : Nat} (hl : len ≤ 6) : p_X2_digitsOf M (iI (len : Int)) ∧ r_X2_digitsOf M (iI (len : Int)) = dOf (fun i => M.1 512 i) len := by
  have nl : Int32.toNatClampNeg (iI (len : Int)) = len := natk rfl (by omega)
  have step : ∀ k : Nat, k < len → c_X2_digitsOf_4 M (iI (len : Int)) (dOf (fun i => M.1 512 i) k, iI (k : Int)) ∧ q_X2_digitsOf_4 M (iI (len : Int)) (dOf (fun i => M.1 512 i) k, iI (k : Int)) ∧ s_X2_digitsOf_4 M (iI (len : Int)) (dOf (fun i => M.1 512 i) k, iI (k : Int)) = (dOf (fun i => M.1 512 i) (k + 1), iI ((k + 1 : Nat) : Int)) := by
    intro k hk
    have nk : Int32.toNatClampNeg (iI (k : Int)) = k := natk rfl (by omega)
    have vk : vp_in (iI (k : Int)) 6 := vin_iI (by omega) (by omega) (by omega)
    have g : ¬ iI (len : Int) ≤ iI (k : Int) := by rw [iI_le (by omega) (by omega) (by omega) (by omega)]; omega
    unfold c_X2_digitsOf_4 q_X2_digitsOf_4 s_X2_digitsOf_4
    dsimp only
    rw [if_neg g, if_neg g, if_neg g, nk, k1_iI]
    exact ⟨trivial, ⟨vk, trivial⟩, rfl⟩
  have key : ∀ k : Nat, k ≤ len → l_X2_digitsOf_4 M (iI (len : Int)) (0, 0) k = (dOf (fun i => M.1 512 i) k, iI (k : Int)) := by
    intro k
    induction k with
    | zero => intro _; rfl
    | succ k ih =>
      intro hk
      show s_X2_digitsOf_4 M (iI (len : Int)) (l_X2_digitsOf_4 M (iI (len : Int)) (0, 0) k) = _
      rw [ih (by omega)]; exact (step k (by omega)).2.2
  unfold p_X2_digitsOf r_X2_digitsOf
  rw [nl, key len (Nat.le_refl _)]
  dsimp only
  have g : iI (len : Int) ≤ iI (len : Int) := Int32.le_refl _
  rw [if_pos g, if_pos g]
  refine ⟨⟨fun k hk => ?_, fun k hk => ?_, ?_, trivial⟩, rfl⟩
  · rw [key k (by omega)]; exact (step k hk).1
  · rw [key k (by omega)]; exact (step k hk).2.1
  · unfold c_X2_digitsOf_4
    dsimp only
    rw [if_pos g]
    exact fun h => h
theorem r_dig4 {M : Mm} {len : Nat} (hl : len ≤ 6) : p_X8_digitsOf_614 M (iI (len : Int)) ∧ r_X8_digitsOf_614 M (iI (len : Int)) = dOf (fun i => M.1 614 i) len := by
  have nl : Int32.toNatClampNeg (iI (len : Int)) = len := natk rfl (by omega)
  have step : ∀ k : Nat, k < len → c_X8_digitsOf_614_4 M (iI (len : Int)) (dOf (fun i => M.1 614 i) k, iI (k : Int)) ∧ q_X8_digitsOf_614_4 M (iI (len : Int)) (dOf (fun i => M.1 614 i) k, iI (k : Int)) ∧ s_X8_digitsOf_614_4 M (iI (len : Int)) (dOf (fun i => M.1 614 i) k, iI (k : Int)) = (dOf (fun i => M.1 614 i) (k + 1), iI ((k + 1 : Nat) : Int)) := by
    intro k hk
    have nk : Int32.toNatClampNeg (iI (k : Int)) = k := natk rfl (by omega)
    have vk : vp_in (iI (k : Int)) 6 := vin_iI (by omega) (by omega) (by omega)
    have g : ¬ iI (len : Int) ≤ iI (k : Int) := by rw [iI_le (by omega) (by omega) (by omega) (by omega)]; omega
    unfold c_X8_digitsOf_614_4 q_X8_digitsOf_614_4 s_X8_digitsOf_614_4
    dsimp only
    rw [if_neg g, if_neg g, if_neg g, nk, k1_iI]
    exact ⟨trivial, ⟨vk, trivial⟩, rfl⟩
  have key : ∀ k : Nat, k ≤ len → l_X8_digitsOf_614_4 M (iI (len : Int)) (0, 0) k = (dOf (fun i => M.1 614 i) k, iI (k : Int)) := by
    intro k
    induction k with
    | zero => intro _; rfl
    | succ k ih =>
      intro hk
      show s_X8_digitsOf_614_4 M (iI (len : Int)) (l_X8_digitsOf_614_4 M (iI (len : Int)) (0, 0) k) = _
      rw [ih (by omega)]; exact (step k (by omega)).2.2
  unfold p_X8_digitsOf_614 r_X8_digitsOf_614
  rw [nl, key len (Nat.le_refl _)]
  dsimp only
  have g : iI (len : Int) ≤ iI (len : Int) := Int32.le_refl _
  rw [if_pos g, if_pos g]
  refine ⟨⟨fun k hk => ?_, fun k hk => ?_, ?_, trivial⟩, rfl⟩
  · rw [key k (by omega)]; exact (step k hk).1
  · rw [key k (by omega)]; exact (step k hk).2.1
  · unfold c_X8_digitsOf_614_4
    dsimp only
    rw [if_pos g]
    exact fun h => h
theorem r_dig5 {M : Mm} {len : Nat} (hl : len ≤ 6) : p_X8_digitsOf_615 M (iI (len : Int)) ∧ r_X8_digitsOf_615 M (iI (len : Int)) = dOf (fun i => M.1 615 i) len := by
  have nl : Int32.toNatClampNeg (iI (len : Int)) = len := natk rfl (by omega)
  have step : ∀ k : Nat, k < len → c_X8_digitsOf_615_4 M (iI (len : Int)) (dOf (fun i => M.1 615 i) k, iI (k : Int)) ∧ q_X8_digitsOf_615_4 M (iI (len : Int)) (dOf (fun i => M.1 615 i) k, iI (k : Int)) ∧ s_X8_digitsOf_615_4 M (iI (len : Int)) (dOf (fun i => M.1 615 i) k, iI (k : Int)) = (dOf (fun i => M.1 615 i) (k + 1), iI ((k + 1 : Nat) : Int)) := by
    intro k hk
    have nk : Int32.toNatClampNeg (iI (k : Int)) = k := natk rfl (by omega)
    have vk : vp_in (iI (k : Int)) 6 := vin_iI (by omega) (by omega) (by omega)
    have g : ¬ iI (len : Int) ≤ iI (k : Int) := by rw [iI_le (by omega) (by omega) (by omega) (by omega)]; omega
    unfold c_X8_digitsOf_615_4 q_X8_digitsOf_615_4 s_X8_digitsOf_615_4
    dsimp only
    rw [if_neg g, if_neg g, if_neg g, nk, k1_iI]
    exact ⟨trivial, ⟨vk, trivial⟩, rfl⟩
  have key : ∀ k : Nat, k ≤ len → l_X8_digitsOf_615_4 M (iI (len : Int)) (0, 0) k = (dOf (fun i => M.1 615 i) k, iI (k : Int)) := by
    intro k
    induction k with
    | zero => intro _; rfl
    | succ k ih =>
      intro hk
      show s_X8_digitsOf_615_4 M (iI (len : Int)) (l_X8_digitsOf_615_4 M (iI (len : Int)) (0, 0) k) = _
      rw [ih (by omega)]; exact (step k (by omega)).2.2
  unfold p_X8_digitsOf_615 r_X8_digitsOf_615
  rw [nl, key len (Nat.le_refl _)]
  dsimp only
  have g : iI (len : Int) ≤ iI (len : Int) := Int32.le_refl _
  rw [if_pos g, if_pos g]
  refine ⟨⟨fun k hk => ?_, fun k hk => ?_, ?_, trivial⟩, rfl⟩
  · rw [key k (by omega)]; exact (step k hk).1
  · rw [key k (by omega)]; exact (step k hk).2.1
  · unfold c_X8_digitsOf_615_4
    dsimp only
    rw [if_pos g]
    exact fun h => h
