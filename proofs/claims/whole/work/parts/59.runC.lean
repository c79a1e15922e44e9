/-! an order gone through, the doctor called ahead of some -/
def aPass (T S : Tw) (n : Int) : Tw := tU S 4 0 (aAfter (T 3 0) (S 4 0) n)
def aPre (T S : Tw) (calls k : Nat) : Tw := if calls.testBit k then aPass T S (T 3 2) else S
def aRun (T S : Tw) (ord : Nat → Nat) (calls : Nat) : Nat → Tw
  | 0 => S
  | k + 1 => aTurn T (aPre T (aRun T S ord calls k) calls k) (ord k)
def aSum (T S : Tw) (ord : Nat → Nat) (calls : Nat) : Nat → Int
  | 0 => 0
  | k + 1 => aSum T S ord calls k + aWorth T (aPre T (aRun T S ord calls k) calls k) (ord k)
def aBad (T S : Tw) (ord : Nat → Nat) (calls : Nat) : Nat → Int
  | 0 => 0
  | k + 1 => aBad T S ord calls k + aLate T (aPre T (aRun T S ord calls k) calls k) (ord k)
theorem aPre_2 (T S : Tw) (calls k j : Nat) : aPre T S calls k 2 j = S 2 j := by
  unfold aPre aPass
  split
  · rw [tU_n (by omega)]
  · rfl
theorem aPre_no {T S : Tw} {calls k w : Nat} (h : aNoB T S w) : aNoB T (aPre T S calls k) w := by
  unfold aNoB
  rw [aPre_2]
  exact h
theorem InvS.pre {T S : Tw} {mb : Int} (hI : InvT T) (h : InvS T S mb) (calls k : Nat) (hm : mb ≤ 900000) : InvS T (aPre T S calls k) (mb + 400) := by
  obtain ⟨j1, j2, j3, j4, j5, j6⟩ := h
  unfold aPre
  split
  · unfold aPass
    have t0 := hI.2.2.2.1
    have ab := aAfter_b (wt := T 3 0) (m := S 4 0) (n := T 3 2) t0.1.1 t0.1.2 j5.1 t0.2.2.1.1
    refine ⟨fun x a b => ?_, fun x a b => ?_, fun x a b => ?_, fun x a b => ?_, ?_, by omega⟩
    · rw [tU_n (by omega)]; exact j1 x a b
    · rw [tU_n (by omega)]; exact j2 x a b
    · rw [tU_n (by omega)]; exact j3 x a b
    · rw [tU_n (by omega)]
      have := j4 x a b
      omega
    · rw [tU_s]
      omega
  · exact InvS.mono ⟨j1, j2, j3, j4, j5, j6⟩ (by omega) (by omega)
theorem InvS.run {T S : Tw} {mb : Int} (hI : InvT T) (h : InvS T S mb) (hm : mb ≤ 800000) {ord : Nat → Nat} (calls : Nat) : ∀ k, k ≤ 6 → (∀ i, i < k → ((ord i : Nat) : Int) < T 0 2) → InvS T (aRun T S ord calls k) (mb + 2400 * (k : Int))
  | 0, _, _ => h.mono (by omega) (by omega)
  | k + 1, hk, ho => by
    have ih := InvS.run hI h hm calls k (by omega) (fun i hi => ho i (by omega))
    have p := ih.pre hI calls k (by omega)
    exact (InvS.turn hI p (ho k (by omega)) (by omega)).mono (by omega) (by omega)
theorem aSum_b {T S : Tw} (hI : InvT T) {ord : Nat → Nat} (calls : Nat) : ∀ k, (∀ i, i < k → ((ord i : Nat) : Int) < T 0 2) → (0 ≤ aSum T S ord calls k ∧ aSum T S ord calls k ≤ 99 * (k : Int)) ∧ (0 ≤ aBad T S ord calls k ∧ aBad T S ord calls k ≤ (k : Int))
  | 0, _ => ⟨⟨Int.le_refl _, by show (0 : Int) ≤ 99 * ((0 : Nat) : Int); omega⟩, ⟨Int.le_refl _, by show (0 : Int) ≤ ((0 : Nat) : Int); omega⟩⟩
  | k + 1, ho => by
    have ih := aSum_b (S := S) hI calls k (fun i hi => ho i (by omega))
    have w := aWorth_b (S := aPre T (aRun T S ord calls k) calls k) hI (ho k (by omega))
    have l := aLate_b (T := T) (S := aPre T (aRun T S ord calls k) calls k) (w := ord k)
    show (0 ≤ aSum T S ord calls k + _ ∧ aSum T S ord calls k + _ ≤ _) ∧ (0 ≤ aBad T S ord calls k + _ ∧ aBad T S ord calls k + _ ≤ _)
    omega
section P59
variable {M : Mm} {T S : Tw} {mb : Int}
theorem c_pass {A : Mm} {s : Nat} (hS : CSt A s T S) {v : Int} : CSt (wi A s 4 (iI v)) s T (tU S 4 0 v) := by
  refine ⟨fun x a b => ?_, fun x a b => ?_, fun x a b => ?_, fun x a b => ?_, ?_⟩
  · rw [rd_ne (Or.inl (by omega)), tU_n (by omega)]; exact hS.1 x a b
  · rw [rd_ne (Or.inl (by omega)), tU_n (by omega)]; exact hS.2.1 x a b
  · rw [rd_ne (Or.inl (by omega)), tU_n (by omega)]; exact hS.2.2.1 x a b
  · rw [rd_ne (Or.inl (by omega)), tU_n (by omega)]; exact hS.2.2.2.1 x a b
  · rw [rd_same, tU_s]
theorem c_run (hT : CT M 100 T) (hS : CSt M 1000 T S) (hI : InvT T) (hJ : InvS T S mb) (hm : mb ≤ 800000) {ord : Nat → Nat} {len calls : Nat} (hl : len ≤ 6) (hc : calls < 64) (h4 : M.1 510 4 = iI (len : Int)) (ho : ∀ i, i < len → ((ord i : Nat) : Int) < T 0 2 ∧ M.1 512 i = iI ((ord i : Nat) : Int)) (hb : ∀ k, k < len → aNoB T (aRun T S ord calls k) (ord k)) :
    p_X2_runCalled M (iI (calls : Int)) ∧ CSt (w_X2_runCalled M (iI (calls : Int))) 1030 T (aRun T S ord calls len) ∧ (w_X2_runCalled M (iI (calls : Int))).1 1030 5 = iI (aSum T S ord calls len) ∧ (w_X2_runCalled M (iI (calls : Int))).1 1030 6 = iI (aBad T S ord calls len) ∧ Fr (fun a => 1030 ≤ a ∧ a ≤ 1034) M (w_X2_runCalled M (iI (calls : Int))) := by
  obtain ⟨b1, b2, b3, b4⟩ := c_begin (A := M) (s := 1030) (s1 := 1000) (by omega) hI hS
  have e4 : (w_X3_beginFrom M 1030 1000).1 510 4 = iI (len : Int) := by rw [b4.at (by omega)]; exact h4
  have nl : Int32.toNatClampNeg (iI (len : Int)) = len := natk rfl (by omega)
  unfold p_X2_runCalled w_X2_runCalled
  rw [e4, nl]
  generalize w_X3_beginFrom M 1030 1000 = M0 at b1 b2 b3 b4 e4 ⊢
  have step : ∀ (k : Nat) (A : Mm), k < len → CSt A 1030 T (aRun T S ord calls k) → A.1 1030 5 = iI (aSum T S ord calls k) → A.1 1030 6 = iI (aBad T S ord calls k) → Fr (fun a => 1030 ≤ a ∧ a ≤ 1034) M A →
      q_X2_runCalled_20 (iI (calls : Int)) (A, iI (k : Int)) ∧ ∃ A', s_X2_runCalled_20 (iI (calls : Int)) (A, iI (k : Int)) = (A', iI ((k + 1 : Nat) : Int)) ∧ CSt A' 1030 T (aRun T S ord calls (k + 1)) ∧ A'.1 1030 5 = iI (aSum T S ord calls (k + 1)) ∧ A'.1 1030 6 = iI (aBad T S ord calls (k + 1)) ∧ Fr (fun a => 1030 ≤ a ∧ a ≤ 1034) M A' := by
    intro k A hk k1 k2 k3 k4
    have kT : CT A 100 T := hT.fp hI (fun a j h1 h2 => k4.at (by omega) j)
    have hlt : ¬ A.1 510 4 ≤ iI (k : Int) := by rw [k4.at (by omega), h4, iI_le (by omega) (by omega) (by omega) (by omega)]; omega
    have iv := InvS.run hI hJ hm (ord := ord) calls k (by omega) (fun i hi => (ho i (by omega)).1)
    have ip := iv.pre hI calls k (by omega)
    have nk : Int32.toNatClampNeg (iI (k : Int)) = k := natk rfl (by omega)
    have vk : vp_in (iI (k : Int)) 6 := vin_iI (by omega) (by omega) (by omega)
    have bt := msk_in calls hc k (by omega)
    unfold q_X2_runCalled_20 s_X2_runCalled_20
    dsimp only
    rw [if_neg hlt, if_neg hlt]
    by_cases c : calls.testBit k = true
    · have g : ¬ b2i (¬ (iI (calls : Int) >>> (iI (k : Int) &&& 31)) &&& 1 = 0) = 0 := b2i_1.mpr (fun u => by rw [bt.mp u] at c; exact absurd c (by decide))
      rw [if_neg g, if_neg g]
      have t2 := hI.2.2.2.1.2.2.1
      have m0 := iv.2.2.2.2.1
      have l2 : A.1 104 2 = iI (T 3 2) := kT.2.2.2.1 2 (by omega)
      obtain ⟨p1, p2⟩ := c_after kT hI (m := aRun T S ord calls k 4 0) (n := T 3 2) m0.1 (by omega) (by omega) (by omega)
      rw [l2, k1.2.2.2.2, p2]
      obtain ⟨A1, hA1⟩ : ∃ A1, A1 = wi A 1030 4 (iI (aAfter (T 3 0) (aRun T S ord calls k 4 0) (T 3 2))) := ⟨_, rfl⟩
      rw [← hA1]
      have ep : aPre T (aRun T S ord calls k) calls k = tU (aRun T S ord calls k) 4 0 (aAfter (T 3 0) (aRun T S ord calls k 4 0) (T 3 2)) := by unfold aPre aPass; rw [if_pos c]
      have F1 : Fr (fun a => 1030 ≤ a ∧ a ≤ 1034) A A1 := by rw [hA1]; exact Fr.wi Fr.rf (by omega)
      have s1 : CSt A1 1030 T (aPre T (aRun T S ord calls k) calls k) := by rw [hA1, ep]; exact c_pass k1
      have q5 : A1.1 1030 5 = iI (aSum T S ord calls k) := by rw [hA1, rd_ne (Or.inr (by omega))]; exact k2
      have q6 : A1.1 1030 6 = iI (aBad T S ord calls k) := by rw [hA1, rd_ne (Or.inr (by omega))]; exact k3
      have q4 := k4.tr F1
      clear hA1
      have T1 : CT A1 100 T := hT.fp hI (fun a j h1 h2 => q4.at (by omega) j)
      have e12 : A1.1 512 k = iI ((ord k : Nat) : Int) := by rw [q4.at (by omega)]; exact (ho k hk).2
      obtain ⟨r1, r2, r3, r4, r5, r6⟩ := c_carry (s := 1030) (by omega) T1 s1 q5 q6 hI ip (by omega) (ho k hk).1 (aPre_no (hb k hk))
      unfold q_X2_runCalled_20_60 s_X2_runCalled_20_60
      rw [nk, e12, k1_iI]
      exact ⟨⟨p1, vk, r1, trivial⟩, _, rfl, r3, r4, r5, q4.tr r6⟩
    · have cf : calls.testBit k = false := by simpa using c
      have g := b2i_0.mpr (not_not_intro (bt.mpr cf))
      rw [if_pos g, if_pos g]
      have ep : aPre T (aRun T S ord calls k) calls k = aRun T S ord calls k := by unfold aPre; rw [if_neg c]
      have e12 : A.1 512 k = iI ((ord k : Nat) : Int) := by rw [k4.at (by omega)]; exact (ho k hk).2
      obtain ⟨r1, r2, r3, r4, r5, r6⟩ := c_carry (s := 1030) (by omega) kT k1 k2 k3 hI iv (by omega) (ho k hk).1 (hb k hk)
      unfold q_X2_runCalled_20_60 s_X2_runCalled_20_60
      rw [nk, e12, k1_iI]
      refine ⟨⟨vk, r1, trivial⟩, _, rfl, ?_, ?_, ?_, k4.tr r6⟩
      · show CSt _ 1030 T (aTurn T (aPre T (aRun T S ord calls k) calls k) (ord k))
        rw [ep]; exact r3
      · rw [r4]
        show _ = iI (aSum T S ord calls k + aWorth T (aPre T (aRun T S ord calls k) calls k) (ord k))
        rw [ep]
      · rw [r5]
        show _ = iI (aBad T S ord calls k + aLate T (aPre T (aRun T S ord calls k) calls k) (ord k))
        rw [ep]
  have key : ∀ k, k ≤ len → ∃ A, l_X2_runCalled_20 (iI (calls : Int)) (M0, 0) k = (A, iI (k : Int)) ∧ CSt A 1030 T (aRun T S ord calls k) ∧ A.1 1030 5 = iI (aSum T S ord calls k) ∧ A.1 1030 6 = iI (aBad T S ord calls k) ∧ Fr (fun a => 1030 ≤ a ∧ a ≤ 1034) M A := by
    intro k
    induction k with
    | zero => intro _; exact ⟨M0, rfl, b1, b2, b3, b4⟩
    | succ k ih =>
      intro hk
      obtain ⟨A, h1, h2, h3, h5, h6⟩ := ih (by omega)
      obtain ⟨-, A', g1, g2⟩ := step k A (by omega) h2 h3 h5 h6
      refine ⟨A', ?_, g2⟩
      show s_X2_runCalled_20 (iI (calls : Int)) (l_X2_runCalled_20 (iI (calls : Int)) (M0, 0) k) = _
      rw [h1]; exact g1
  obtain ⟨A, h1, h2, h3, h5, h6⟩ := key len (Nat.le_refl _)
  have fin : (l_X2_runCalled_20 (iI (calls : Int)) (M0, 0) len).1.1 510 4 ≤ (l_X2_runCalled_20 (iI (calls : Int)) (M0, 0) len).2 := by
    rw [h1]
    dsimp only
    rw [h6.at (by omega), h4, iI_le (by omega) (by omega) (by omega) (by omega)]
    omega
  rw [if_pos fin, if_pos fin]
  refine ⟨⟨fun k hk => ?_, fun k hk => ?_, ?_, trivial⟩, ?_⟩
  · obtain ⟨B, g1, g2, g3, g5, g6⟩ := key k (by omega)
    rw [g1]
    unfold c_X2_runCalled_20
    dsimp only
    rw [g6.at (by omega), h4, iteLE (by omega) (by omega) (by omega) (by omega), if_neg (by omega)]
    trivial
  · obtain ⟨B, g1, g2, g3, g5, g6⟩ := key k (by omega)
    rw [g1]
    exact (step k B hk g2 g3 g5 g6).1
  · unfold c_X2_runCalled_20
    rw [if_pos fin]
    exact fun h => h
  · rw [h1]
    exact ⟨h2, h3, h5, h6⟩
end P59
