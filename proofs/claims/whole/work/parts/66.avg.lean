/-! the mean, the odds: the class -/
def aWt (T : Tw) (calls : Nat) : Nat → Int
  | 0 => 1
  | k + 1 => aWt T calls k * (if calls.testBit k then T 3 1 else 8 - T 3 1)
def aVal (T S : Tw) (ord : Nat → Nat) (len : Nat) (o : Int32) (calls : Nat) : Int := if o = 0 then aSum T S ord calls len else if aBad T S ord calls len = 0 then 1 else 0
def aAll (T S : Tw) (ord : Nat → Nat) (len : Nat) (o : Int32) : Nat → Int
  | 0 => 0
  | k + 1 => aAll T S ord len o k + aWt T k len * aVal T S ord len o k
theorem aWt_b {T : Tw} (hI : InvT T) (calls : Nat) : ∀ k, 0 ≤ aWt T calls k ∧ aWt T calls k ≤ ((8 ^ k : Nat) : Int)
  | 0 => ⟨by show (0 : Int) ≤ 1; omega, by show (1 : Int) ≤ ((8 ^ 0 : Nat) : Int); decide⟩
  | k + 1 => by
    have ih := aWt_b hI calls k
    have t := hI.2.2.2.1.2.1
    have c : 0 ≤ (if calls.testBit k then T 3 1 else 8 - T 3 1) ∧ (if calls.testBit k then T 3 1 else 8 - T 3 1) ≤ 8 := by split <;> omega
    refine ⟨Int.mul_nonneg ih.1 c.1, ?_⟩
    show aWt T calls k * _ ≤ _
    rw [Nat.pow_succ, Int.natCast_mul]
    exact Int.mul_le_mul ih.2 c.2 c.1 (by omega)
theorem p8 : ∀ k, k < 7 → 8 ^ k ≤ 262144 := by decide
theorem aVal_b {T S : Tw} (hI : InvT T) {ord : Nat → Nat} {len : Nat} (hl : len ≤ 6) (o : Int32) (calls : Nat) (ho : ∀ i, i < len → ((ord i : Nat) : Int) < T 0 2) : 0 ≤ aVal T S ord len o calls ∧ aVal T S ord len o calls ≤ 594 := by
  have b := aSum_b (S := S) hI calls len ho
  unfold aVal
  split
  · omega
  · split <;> omega
theorem aAll_b {T S : Tw} (hI : InvT T) {ord : Nat → Nat} {len : Nat} (hl : len ≤ 6) (o : Int32) (ho : ∀ i, i < len → ((ord i : Nat) : Int) < T 0 2) : ∀ k, 0 ≤ aAll T S ord len o k ∧ aAll T S ord len o k ≤ 155713536 * (k : Int)
  | 0 => ⟨Int.le_refl _, by show (0 : Int) ≤ 155713536 * ((0 : Nat) : Int); omega⟩
  | k + 1 => by
    have ih := aAll_b (S := S) hI hl o ho k
    have w := aWt_b hI k len
    have p := p8 len (by omega)
    have v := aVal_b (S := S) hI hl o k ho
    have m0 : 0 ≤ aWt T k len * aVal T S ord len o k := Int.mul_nonneg w.1 v.1
    have m1 : aWt T k len * aVal T S ord len o k ≤ 262144 * 594 := Int.mul_le_mul (by omega) v.2 v.1 (by omega)
    show 0 ≤ aAll T S ord len o k + _ ∧ aAll T S ord len o k + _ ≤ _
    omega
theorem wl_same (M : Mm) (a k : Nat) (v : Int64) : (wl M a k v).2 a k = v := by rw [wl_2, if_pos ⟨rfl, rfl⟩]
theorem wl_neq {M : Mm} {a k b j : Nat} {v : Int64} (h : b ≠ a ∨ j ≠ k) : (wl M a k v).2 b j = M.2 b j := by rw [wl_2, if_neg (by omega)]
theorem jI_half {x : Nat} (h : x < 4000000000000000000) : jI (x : Int) / 2 = jI ((x / 2 : Nat) : Int) := by
  rw [jl2, jI_div (by omega) (by omega) (by omega) (by omega)]
  rfl
section P66
variable {M A : Mm} {T S : Tw} {mb : Int}
theorem c_weight (hT : CT A 100 T) (hI : InvT T) {len calls : Nat} (hl : len ≤ 6) (hc : calls < 64) (h4 : A.1 510 4 = iI (len : Int)) : p_X2_weightOf A (iI (calls : Int)) ∧ r_X2_weightOf A (iI (calls : Int)) = jI (aWt T calls len) := by
  have t := hI.2.2.2.1.2.1
  have nl : Int32.toNatClampNeg (iI (len : Int)) = len := natk rfl (by omega)
  have l1 : A.1 104 1 = iI (T 3 1) := hT.2.2.2.1 1 (by omega)
  have key : ∀ k, k ≤ len → l_X2_weightOf_5 A (iI (calls : Int)) (1, 0) k = (jI (aWt T calls k), iI (k : Int)) := by
    refine it_for _ rfl (fun k hk => ?_)
    show s_X2_weightOf_5 A (iI (calls : Int)) (jI (aWt T calls k), iI (k : Int)) = _
    unfold s_X2_weightOf_5
    dsimp only
    have bt := msk_in calls hc k (by omega)
    have hlt : ¬ A.1 510 4 ≤ iI (k : Int) := by rw [h4, iI_le (by omega) (by omega) (by omega) (by omega)]; omega
    rw [if_neg hlt, k1_iI, l1, cl8, iI_sub, i2j (by omega) (by omega), i2j (by omega) (by omega), jI_mul, jI_mul]
    by_cases c : calls.testBit k = true
    · have g : ¬ b2i (¬ (iI (calls : Int) >>> (iI (k : Int) &&& 31)) &&& 1 = 0) = 0 := b2i_1.mpr (fun u => by rw [bt.mp u] at c; exact absurd c (by decide))
      rw [if_neg g]
      show _ = (jI (aWt T calls k * (if calls.testBit k then T 3 1 else 8 - T 3 1)), _)
      rw [if_pos c]
    · have cf : calls.testBit k = false := by simpa using c
      rw [if_pos (b2i_0.mpr (not_not_intro (bt.mpr cf)))]
      show _ = (jI (aWt T calls k * (if calls.testBit k then T 3 1 else 8 - T 3 1)), _)
      rw [if_neg c]
  have kN := key len (Nat.le_refl _)
  have fin : A.1 510 4 ≤ (l_X2_weightOf_5 A (iI (calls : Int)) (1, 0) len).2 := by
    rw [kN, h4]
    show iI (len : Int) ≤ iI (len : Int)
    rw [iI_le (by omega) (by omega) (by omega) (by omega)]
    omega
  unfold p_X2_weightOf r_X2_weightOf
  rw [h4, nl]
  rw [h4] at fin
  rw [if_pos fin, if_pos fin]
  refine ⟨⟨fun k hk => ?_, ?_, trivial⟩, by rw [kN]⟩
  · rw [key k (by omega)]
    unfold c_X2_weightOf_5
    dsimp only
    rw [h4, iteLE (by omega) (by omega) (by omega) (by omega), if_neg (by omega)]
    trivial
  · unfold c_X2_weightOf_5
    rw [h4, if_pos fin]
    exact fun h => h
theorem c_avg (hT : CT M 100 T) (hS : CSt M 1000 T S) (hI : InvT T) (hJ : InvS T S mb) (hm : mb ≤ 800000) {ord : Nat → Nat} {len : Nat} (hl : len ≤ 6) (h4 : M.1 510 4 = iI (len : Int)) (ho : ∀ i, i < len → ((ord i : Nat) : Int) < T 0 2 ∧ M.1 512 i = iI ((ord i : Nat) : Int)) (hb : ∀ k, k < len → okA T S ord k) {o : Int32} (ho1 : o = 0 ∨ o = 1) :
    p_X2_average M o ∧ (w_X2_average M o).2 510 10 = jI (((aAll T S ord len o (2 ^ len)).toNat / Nat.gcd (aAll T S ord len o (2 ^ len)).toNat (2 ^ (3 * len)) : Nat) : Int) ∧ (w_X2_average M o).2 510 11 = jI ((2 ^ (3 * len) / Nat.gcd (aAll T S ord len o (2 ^ len)).toNat (2 ^ (3 * len)) : Nat) : Int) ∧ Fq (fun a k => 1030 ≤ a ∧ a ≤ 1034) M (w_X2_average M o) := by
  have pl := p_le len (by omega)
  have od : ∀ i, i < len → ((ord i : Nat) : Int) < T 0 2 := fun i hi => (ho i hi).1
  have e4 : ∀ B : Mm, Fq (fun a k => 1030 ≤ a ∧ a ≤ 1034) M B → B.1 510 4 = iI (len : Int) := fun B F => by rw [F.1 _ _ (by omega)]; exact h4
  have n2 : Int32.toNatClampNeg (iI ((2 ^ len : Nat) : Int)) = 2 ^ len := natk rfl (by omega)
  have st : Int32.toNatClampNeg ((1 : Int32) <<< ((wl (wl M 510 10 0) 510 11 (1 <<< (Int32.toInt64 ((3 : Int32) * (M.1 510 4)) &&& 63))).1 510 4 &&& 31)) = 2 ^ len := by
    show Int32.toNatClampNeg ((1 : Int32) <<< (M.1 510 4 &&& 31)) = 2 ^ len
    rw [h4, sh_n len (by omega), n2]
  unfold p_X2_average w_X2_average
  rw [st, h4, sh_b len (by omega)]
  obtain ⟨M0, hM0⟩ : ∃ M0, M0 = wl (wl M 510 10 0) 510 11 (jI ((2 ^ (3 * len) : Nat) : Int)) := ⟨_, rfl⟩
  rw [← hM0]
  have F0 : Fq (fun a k => 1030 ≤ a ∧ a ≤ 1034) M M0 := by rw [hM0]; exact Fq.wl (Fq.wl Fq.rf (by omega)) (by omega)
  have a0 : M0.2 510 10 = jI 0 := by rw [hM0, wl_neq (Or.inr (by omega)), wl_same]; rfl
  have b0 : M0.2 510 11 = jI ((2 ^ (3 * len) : Nat) : Int) := by rw [hM0, wl_same]
  clear hM0
  have step : ∀ (k : Nat) (B : Mm), k < 2 ^ len → B.2 510 10 = jI (aAll T S ord len o k) → B.2 510 11 = jI ((2 ^ (3 * len) : Nat) : Int) → Fq (fun a k => 1030 ≤ a ∧ a ≤ 1034) M B →
      q_X2_average_19 o (B, iI (k : Int)) ∧ ∃ B', s_X2_average_19 o (B, iI (k : Int)) = (B', iI ((k + 1 : Nat) : Int)) ∧ B'.2 510 10 = jI (aAll T S ord len o (k + 1)) ∧ B'.2 510 11 = jI ((2 ^ (3 * len) : Nat) : Int) ∧ Fq (fun a k => 1030 ≤ a ∧ a ≤ 1034) M B' := by
    intro k B hk k1 k2 k3
    have kT : CT B 100 T := hT.fq hI k3 (fun a j h1 h2 => by omega)
    have kS : CSt B 1000 T S := hS.fq k3 (fun a j h1 h2 => by omega)
    obtain ⟨w1, w2⟩ := c_weight kT hI hl (calls := k) (by omega) (e4 B k3)
    have wb := aWt_b hI k len
    have p := p8 len (by omega)
    have z : (lg_cmp (jI (aWt T k len)) 0 = 0) ↔ aWt T k len = 0 := by rw [lg_cmp_eq, jl0, jI_eq (by omega) (by omega) (by omega) (by omega)]
    have hlt : ¬ (1 : Int32) <<< (iI (len : Int) &&& 31) ≤ iI (k : Int) := by rw [sh_n len (by omega), iI_le (by omega) (by omega) (by omega) (by omega)]; omega
    unfold q_X2_average_19 s_X2_average_19
    dsimp only
    rw [e4 B k3, if_neg hlt, if_neg hlt, w2, k1_iI]
    by_cases c : aWt T k len = 0
    · rw [if_pos (z.mpr c), if_pos (z.mpr c)]
      refine ⟨⟨w1, trivial⟩, B, rfl, ?_, k2, k3⟩
      rw [k1]
      show _ = jI (aAll T S ord len o k + aWt T k len * aVal T S ord len o k)
      rw [c, Int.zero_mul, Int.add_zero]
    · have g : ¬ lg_cmp (jI (aWt T k len)) 0 = 0 := fun u => c (z.mp u)
      rw [if_neg g, if_neg g]
      obtain ⟨r1, r2, r3, r4, r5⟩ := c_run (M := B) (ord := ord) (calls := k) kT kS hI hJ hm hl (by omega) (e4 B k3) (fun i hi => ⟨od i hi, by rw [k3.1 _ _ (by omega)]; exact (ho i hi).2⟩) (fun i hi => okA_no (hb i hi))
      generalize w_X2_runCalled B (iI (k : Int)) = B1 at r2 r3 r4 r5 ⊢
      have sb := aSum_b (S := S) hI k len od
      have l10 : B1.2 510 10 = jI (aAll T S ord len o k) := by rw [r5.at2 (by omega)]; exact k1
      have l11 : B1.2 510 11 = jI ((2 ^ (3 * len) : Nat) : Int) := by rw [r5.at2 (by omega)]; exact k2
      have F1 : Fq (fun a k => 1030 ≤ a ∧ a ≤ 1034) M B1 := k3.tr (r5.q (fun a j h => h) (fun a h => by omega))
      have z6 : (iI (aBad T S ord k len) = 0) ↔ aBad T S ord k len = 0 := by rw [cl0, iI_eq (by omega) (by omega) (by omega) (by omega)]
      rw [r3, r4, l10, i2j (by omega) (by omega)]
      have ev : (if ¬ iI (aBad T S ord k len) = 0 then (if o = 0 then (wl B1 510 10 (jI (aAll T S ord len o k) + jI (aWt T k len) * jI (aSum T S ord k len)), iI ((k + 1 : Nat) : Int)) else (wl B1 510 10 (jI (aAll T S ord len o k) + jI (aWt T k len) * Int32.toInt64 0), iI ((k + 1 : Nat) : Int))) else if o = 0 then (wl B1 510 10 (jI (aAll T S ord len o k) + jI (aWt T k len) * jI (aSum T S ord k len)), iI ((k + 1 : Nat) : Int)) else (wl B1 510 10 (jI (aAll T S ord len o k) + jI (aWt T k len) * Int32.toInt64 1), iI ((k + 1 : Nat) : Int))) = (wl B1 510 10 (jI (aAll T S ord len o (k + 1))), iI ((k + 1 : Nat) : Int)) := by
        show _ = (wl B1 510 10 (jI (aAll T S ord len o k + aWt T k len * aVal T S ord len o k)), iI ((k + 1 : Nat) : Int))
        have x0 : Int32.toInt64 0 = jI 0 := by decide
        have x1 : Int32.toInt64 1 = jI 1 := by decide
        rw [x0, x1, jI_mul, jI_mul, jI_mul, jI_add, jI_add, jI_add]
        unfold aVal
        by_cases d0 : o = 0
        · rw [if_pos d0, if_pos d0]
          split <;> rfl
        · rw [if_neg d0, if_neg d0, if_neg d0]
          by_cases d1 : aBad T S ord k len = 0
          · rw [if_neg (not_not_intro (z6.mpr d1)), if_pos d1]
          · rw [if_pos (fun u => d1 (z6.mp u)), if_neg d1]
      refine ⟨⟨w1, r1, ?_⟩, wl B1 510 10 (jI (aAll T S ord len o (k + 1))), ev, wl_same _ _ _ _, by rw [wl_neq (Or.inr (by omega))]; exact l11, F1.wl (by omega)⟩
      repeat' split
      all_goals trivial
  have key : ∀ k, k ≤ 2 ^ len → ∃ B, l_X2_average_19 o (M0, 0) k = (B, iI (k : Int)) ∧ B.2 510 10 = jI (aAll T S ord len o k) ∧ B.2 510 11 = jI ((2 ^ (3 * len) : Nat) : Int) ∧ Fq (fun a k => 1030 ≤ a ∧ a ≤ 1034) M B := by
    intro k
    induction k with
    | zero => intro _; exact ⟨M0, rfl, a0, b0, F0⟩
    | succ k ih =>
      intro hk
      obtain ⟨B, h1, h2, h3, h5⟩ := ih (by omega)
      obtain ⟨-, B', g1, g2⟩ := step k B (by omega) h2 h3 h5
      refine ⟨B', ?_, g2⟩
      show s_X2_average_19 o (l_X2_average_19 o (M0, 0) k) = _
      rw [h1]; exact g1
  obtain ⟨B, h1, h2, h3, h5⟩ := key (2 ^ len) (Nat.le_refl _)
  have lp : ∀ B' : Mm, Fq (fun a k => 1030 ≤ a ∧ a ≤ 1034) M B' → (1 : Int32) <<< (B'.1 510 4 &&& 31) = iI ((2 ^ len : Nat) : Int) := fun B' F => by rw [e4 B' F, sh_n len (by omega)]
  have fin : (1 : Int32) <<< ((l_X2_average_19 o (M0, 0) (2 ^ len)).1.1 510 4 &&& 31) ≤ (l_X2_average_19 o (M0, 0) (2 ^ len)).2 := by
    rw [h1]
    dsimp only
    rw [lp B h5, iI_le (by omega) (by omega) (by omega) (by omega)]
    omega
  have pr : (∀ k, k < 2 ^ len → c_X2_average_19 o (l_X2_average_19 o (M0, 0) k)) ∧ (∀ k, k < 2 ^ len → q_X2_average_19 o (l_X2_average_19 o (M0, 0) k)) ∧ ¬ c_X2_average_19 o (l_X2_average_19 o (M0, 0) (2 ^ len)) := by
    refine ⟨fun k hk => ?_, fun k hk => ?_, ?_⟩
    · obtain ⟨C, g1, -, -, g5⟩ := key k (by omega)
      rw [g1]
      unfold c_X2_average_19
      dsimp only
      rw [lp C g5, iteLE (by omega) (by omega) (by omega) (by omega), if_neg (by omega)]
      trivial
    · obtain ⟨C, g1, g2, g3, g5⟩ := key k (by omega)
      rw [g1]
      exact (step k C hk g2 g3 g5).1
    · unfold c_X2_average_19
      rw [if_pos fin]
      exact fun h => h
  rw [if_pos fin, if_pos fin, h1]
  dsimp only
  clear key step a0 b0 F0
  have ab := aAll_b (S := S) hI hl o od (2 ^ len)
  obtain ⟨Q, hQ⟩ : ∃ Q : Nat, Q = (aAll T S ord len o (2 ^ len)).toNat := ⟨_, rfl⟩
  have h2' : B.2 510 10 = jI (Q : Int) := by rw [h2]; congr 1; omega
  rw [← hQ]
  have Qb : Q < 4000000000000000000 := by omega
  obtain ⟨h, y1, y2, y3, y4⟩ := half_f (3 * len) Q
  rw [y4]
  obtain ⟨R, hR⟩ : ∃ R : Nat → Mm, R = fun k => wl (wl B 510 10 (jI ((Q / 2 ^ k : Nat) : Int))) 510 11 (jI ((2 ^ (3 * len - k) : Nat) : Int)) := ⟨_, rfl⟩
  have R10 : ∀ k, (R k).2 510 10 = jI ((Q / 2 ^ k : Nat) : Int) := fun k => by rw [hR]; show (wl (wl B _ _ _) _ _ _).2 510 10 = _; rw [wl_neq (Or.inr (by omega)), wl_same]
  have R11 : ∀ k, (R k).2 510 11 = jI ((2 ^ (3 * len - k) : Nat) : Int) := fun k => by rw [hR]; exact wl_same _ _ _ _
  have Rn : ∀ k x y, wl (wl (R k) 510 10 x) 510 11 y = wl (wl B 510 10 x) 510 11 y := fun k x y => by
    rw [hR]
    refine Prod.ext rfl ?_
    funext b j
    show (if b = 510 ∧ j = 11 then y else if b = 510 ∧ j = 10 then x else if b = 510 ∧ j = 11 then _ else if b = 510 ∧ j = 10 then _ else B.2 b j) = (if b = 510 ∧ j = 11 then y else if b = 510 ∧ j = 10 then x else B.2 b j)
    by_cases q1 : b = 510 ∧ j = 11
    · simp only [if_pos q1]
    · by_cases q2 : b = 510 ∧ j = 10
      · simp only [if_neg q1, if_pos q2]
      · simp only [if_neg q1, if_neg q2]
  have R0 : B = R 0 := by
    rw [hR]
    refine Prod.ext rfl ?_
    funext b j
    show B.2 b j = (if b = 510 ∧ j = 11 then jI ((2 ^ (3 * len - 0) : Nat) : Int) else if b = 510 ∧ j = 10 then jI ((Q / 2 ^ 0 : Nat) : Int) else B.2 b j)
    by_cases q1 : b = 510 ∧ j = 11
    · rw [if_pos q1, q1.1, q1.2, h3]; rfl
    · rw [if_neg q1]
      by_cases q2 : b = 510 ∧ j = 10
      · rw [if_pos q2, q2.1, q2.2, h2', Nat.pow_zero, Nat.div_one]
      · rw [if_neg q2]
  have dl : ∀ k, Q / 2 ^ k ≤ Q := fun k => Nat.div_le_self _ _
  have pk : ∀ k, 2 ^ (3 * len - k) ≤ 262144 := fun k => by
    have : 2 ^ (3 * len - k) ≤ 2 ^ (3 * len) := Nat.pow_le_pow_right (by decide) (by omega)
    omega
  have lc : ∀ k, k ≤ 18 → ((lg_cmp ((R k).2 510 11) 1 ≤ 0) ↔ 2 ^ (3 * len - k) ≤ 1) := fun k hk => by
    have := pk k
    rw [R11, lg_cmp_le, jl1]
    generalize 2 ^ (3 * len - k) = P at this ⊢
    rw [jI_le (by omega) (by omega) (by omega) (by omega)]
    omega
  have ev : ∀ k, (lg_cmp ((R k).2 510 10 - (R k).2 510 10 / 2 * 2) 0 = 0) ↔ (Q / 2 ^ k) % 2 = 0 := fun k => by
    have := dl k
    rw [R10, lg_cmp_eq, jl0, jl2, show jI 2 = jI ((2 : Nat) : Int) from rfl]
    generalize Q / 2 ^ k = P at this ⊢
    rw [modJ (by omega) (by omega) (by omega), jI_eq (by omega) (by omega) (by omega) (by omega)]
    omega
  have s18 : ∀ k : Nat, k < 18 → ¬ (18 : Int32) ≤ iI (k : Int) := fun k hk => by rw [show (18 : Int32) = iI 18 by decide, iI_le (by omega) (by omega) (by omega) (by omega)]; omega
  have goes : ∀ k, k < h → ¬ (18 : Int32) ≤ iI (k : Int) ∧ ¬ lg_cmp ((R k).2 510 11) 1 ≤ 0 ∧ ¬ ¬ lg_cmp ((R k).2 510 10 - (R k).2 510 10 / 2 * 2) 0 = 0 := fun k hk => by
    refine ⟨s18 k (by omega), fun u => ?_, not_not_intro ((ev k).mpr (y2 k hk))⟩
    have := (lc k (by omega)).mp u
    have p2 : 2 ^ 1 ≤ 2 ^ (3 * len - k) := Nat.pow_le_pow_right (by decide) (by omega)
    omega
  have key2 : ∀ k, k ≤ h → l_X2_average_97 o (B, 0) k = (R k, iI (k : Int)) := by
    refine it_for _ (by rw [R0]; rfl) (fun k hk => ?_)
    show s_X2_average_97 o (R k, iI (k : Int)) = _
    unfold s_X2_average_97
    dsimp only
    obtain ⟨g1, g2, g3⟩ := goes k hk
    rw [if_neg g1, if_neg g2, if_neg g3, k1_iI, Rn, R10, R11, jI_half (Nat.lt_of_le_of_lt (dl k) Qb), jI_half (Nat.lt_of_le_of_lt (pk k) (by decide))]
    refine Prod.ext ?_ rfl
    show wl (wl B 510 10 _) 510 11 _ = R (k + 1)
    rw [hR]
    show _ = wl (wl B 510 10 (jI ((Q / 2 ^ (k + 1) : Nat) : Int))) 510 11 (jI ((2 ^ (3 * len - (k + 1)) : Nat) : Int))
    have x1 : Q / 2 ^ (k + 1) = Q / 2 ^ k / 2 := by rw [Nat.pow_succ, Nat.div_div_eq_div_mul]
    have x2 : 2 ^ (3 * len - (k + 1)) = 2 ^ (3 * len - k) / 2 := by
      rw [show 3 * len - k = (3 * len - (k + 1)) + 1 by omega, Nat.pow_succ, Nat.mul_div_cancel _ (by decide)]
    rw [x1, x2]
  have cT : ∀ k, k < h → c_X2_average_97 o (R k, iI (k : Int)) := fun k hk => by
    unfold c_X2_average_97
    dsimp only
    obtain ⟨g1, g2, g3⟩ := goes k hk
    rw [if_neg g1, if_neg g2, if_neg g3]
    trivial
  have stop : ¬ c_X2_average_97 o (R h, iI (h : Int)) := by
    unfold c_X2_average_97
    dsimp only
    by_cases q : h = 18
    · rw [if_pos (by rw [q]; decide)]
      exact fun h => h
    · rw [if_neg (s18 h (by omega))]
      by_cases q2 : lg_cmp ((R h).2 510 11) 1 ≤ 0
      · rw [if_pos q2]
        exact fun h => h
      · rw [if_neg q2]
        rcases y3 with y3 | y3
        · exact absurd ((lc h (by omega)).mpr (by rw [y3, Nat.sub_self]; decide)) q2
        · rw [if_pos (fun u => by have := (ev h).mp u; omega)]
          exact fun h => h
  have cn : cntN (fun k => c_X2_average_97 o (l_X2_average_97 o (B, 0) k)) 19 = h := by
    refine cntN_eq (by omega) (fun k hk => ?_) ?_
    · show c_X2_average_97 _ _
      rw [key2 k (by omega)]
      exact cT k hk
    · show ¬ c_X2_average_97 _ _
      rw [key2 h (Nat.le_refl _)]
      exact stop
  rw [h1] at pr
  rw [cn, key2 h (Nat.le_refl _)]
  dsimp only
  have last : (if (18 : Int32) ≤ iI (h : Int) then R h else if lg_cmp ((R h).2 510 11) 1 ≤ 0 then R h else if ¬ lg_cmp ((R h).2 510 10 - (R h).2 510 10 / 2 * 2) 0 = 0 then R h else M) = R h := by
    by_cases q : (18 : Int32) ≤ iI (h : Int)
    · rw [if_pos q]
    · rw [if_neg q]
      by_cases q2 : lg_cmp ((R h).2 510 11) 1 ≤ 0
      · rw [if_pos q2]
      · rw [if_neg q2]
        by_cases q3 : ¬ lg_cmp ((R h).2 510 10 - (R h).2 510 10 / 2 * 2) 0 = 0
        · rw [if_pos q3]
        · refine absurd ?_ stop
          unfold c_X2_average_97
          dsimp only
          rw [if_neg q, if_neg q2, if_neg q3]
          trivial
  rw [last]
  refine ⟨⟨pr.1, pr.2.1, pr.2.2, fun k hk => by rw [key2 k (by omega)]; exact cT k hk, stop, ?_⟩, R10 h, ?_, ?_⟩
  · repeat' split
    all_goals trivial
  · rw [R11, Nat.pow_div y1 (by decide)]
  · rw [hR]
    exact Fq.wl (Fq.wl h5 (by omega)) (by omega)
end P66
