/-! which are free, how many are open; copies of Stands; the lent row -/
def aMask (T S : Tw) : Nat → Nat
  | 0 => 0
  | n + 1 => if aFree T S n then aMask T S n ||| 2 ^ n else aMask T S n
def aOpn (S : Tw) : Nat → Nat
  | 0 => 0
  | n + 1 => if S 2 n = 0 then aOpn S n + 1 else aOpn S n
theorem aMask_s (T S : Tw) (n : Nat) : aMask T S (n + 1) = if aFree T S n then aMask T S n ||| 2 ^ n else aMask T S n := rfl
theorem aOpn_s (S : Tw) (n : Nat) : aOpn S (n + 1) = if S 2 n = 0 then aOpn S n + 1 else aOpn S n := rfl
theorem aMask_lt (T S : Tw) : ∀ n, n ≤ 6 → aMask T S n < 64
  | 0, _ => by show 0 < 64; omega
  | n + 1, h => by
    have ih := aMask_lt T S n (by omega)
    rw [aMask_s]
    split
    · exact msk_lt _ ih n (by omega)
    · exact ih
theorem aOpn_le (S : Tw) : ∀ n, aOpn S n ≤ n
  | 0 => Nat.le_refl 0
  | n + 1 => by
    have ih := aOpn_le S n
    rw [aOpn_s]
    split <;> omega
theorem orbit : ∀ m, m < 64 → ∀ n, n < 6 → ∀ w, w < 8 → (m ||| 2 ^ n).testBit w = (m.testBit w || decide (w = n)) := by decide +kernel
theorem aMask_bit (T S : Tw) : ∀ n, n ≤ 6 → ∀ w, w < 8 → ((aMask T S n).testBit w = true ↔ w < n ∧ aFree T S w)
  | 0, _, w, _ => by
    show (Nat.testBit 0 w = true) ↔ _
    simp
  | n + 1, h, w, hw => by
    have ih := aMask_bit T S n (by omega) w hw
    rw [aMask_s]
    split
    next hf =>
      rw [orbit _ (aMask_lt T S n (by omega)) n (by omega) w hw, Bool.or_eq_true, ih, decide_eq_true_iff]
      constructor
      · rintro (⟨h1, h2⟩ | h1)
        · exact ⟨by omega, h2⟩
        · exact ⟨by omega, h1 ▸ hf⟩
      · rintro ⟨h1, h2⟩
        by_cases e : w = n
        · exact Or.inr e
        · exact Or.inl ⟨by omega, h2⟩
    next hf =>
      rw [ih]
      constructor
      · rintro ⟨h1, h2⟩
        exact ⟨by omega, h2⟩
      · rintro ⟨h1, h2⟩
        refine ⟨?_, h2⟩
        by_cases e : w = n
        · exact absurd (e ▸ h2) hf
        · omega
section C30
variable {A B M : Mm} {T S : Tw} {s o w : Nat} {mb : Int}
theorem k1_iI (k : Nat) : iI (k : Int) + 1 = iI ((k + 1 : Nat) : Int) := by rw [cl1, iI_add]; rfl
theorem c_may (hT : CT A 100 T) (hS : CSt A s T S) (hI : InvT T) (hJ : InvS T S mb) : p_X5_freeOnes A s ∧ r_X5_freeOnes A s = iI ((aMask T S (T 0 2).toNat : Nat) : Int) := by
  have hc := hI.1
  have hN : Int32.toNatClampNeg (A.1 100 2) = (T 0 2).toNat := by rw [hT.1.2.2, iI_nat (by omega) (by omega)]
  have h6 : (A.1 100 2).toInt ≤ 6 := by rw [hT.1.2.2, iI_toInt (by omega) (by omega)]; omega
  have key : ∀ k, k ≤ (T 0 2).toNat → l_X5_freeOnes_4 A s (0, 0) k = (iI ((aMask T S k : Nat) : Int), iI (k : Int)) := by
    refine it_for _ rfl (fun k hk => ?_)
    have cf := c_free hT hS hI hJ (w := k) (by omega)
    show s_X5_freeOnes_4 A s (iI ((aMask T S k : Nat) : Int), iI (k : Int)) = _
    unfold s_X5_freeOnes_4
    dsimp only
    have hlt : ¬ A.1 100 2 ≤ iI (k : Int) := by rw [hT.1.2.2, iI_le (by omega) (by omega) (by omega) (by omega)]; omega
    rw [if_neg hlt, k1_iI, aMask_s]
    by_cases c : aFree T S k
    · rw [if_neg (b2i_1.mpr (cf.mpr c)), if_pos c, msk_or _ (aMask_lt T S k (by omega)) k (by omega)]
    · rw [if_pos (b2i_0.mpr (fun h => c (cf.mp h))), if_neg c]
  have kN := key _ (Nat.le_refl _)
  have fin : (A.1 100 2 ≤ (l_X5_freeOnes_4 A s (0, 0) (Int32.toNatClampNeg (A.1 100 2))).2) := by
    rw [hN, kN, hT.1.2.2]
    dsimp only
    rw [iI_le (by omega) (by omega) (by omega) (by omega)]
    omega
  refine ⟨⟨fun k hk => ?_, fun k hk => ?_, ?_, ?_⟩, ?_⟩
  · rw [hN] at hk
    rw [key k (by omega)]
    unfold c_X5_freeOnes_4
    dsimp only
    rw [hT.1.2.2, iteLE (by omega) (by omega) (by omega) (by omega), if_neg (by omega)]
    trivial
  · unfold q_X5_freeOnes_4
    split
    · trivial
    · exact ⟨h6, by split <;> trivial⟩
  · unfold c_X5_freeOnes_4
    rw [if_pos fin]
    exact fun h => h
  · rw [if_pos fin]
    trivial
  · unfold r_X5_freeOnes
    rw [if_pos fin, hN, kN]
theorem c_opn (hT : CT A 100 T) (hS : CSt A s T S) (hI : InvT T) (hJ : InvS T S mb) : p_X5_openOnes A s ∧ r_X5_openOnes A s = iI ((aOpn S (T 0 2).toNat : Nat) : Int) := by
  have hc := hI.1
  have hN : Int32.toNatClampNeg (A.1 100 2) = (T 0 2).toNat := by rw [hT.1.2.2, iI_nat (by omega) (by omega)]
  have h6 : (A.1 100 2).toInt ≤ 6 := by rw [hT.1.2.2, iI_toInt (by omega) (by omega)]; omega
  have key : ∀ k, k ≤ (T 0 2).toNat → l_X5_openOnes_4 A s (0, 0) k = (iI ((aOpn S k : Nat) : Int), iI (k : Int)) := by
    refine it_for _ rfl (fun k hk => ?_)
    have cf := c_open hT hS hI hJ (x := (k : Int)) (by omega) (by omega)
    rw [Int.toNat_natCast] at cf
    show s_X5_openOnes_4 A s (iI ((aOpn S k : Nat) : Int), iI (k : Int)) = _
    unfold s_X5_openOnes_4
    dsimp only
    have hlt : ¬ A.1 100 2 ≤ iI (k : Int) := by rw [hT.1.2.2, iI_le (by omega) (by omega) (by omega) (by omega)]; omega
    rw [if_neg hlt, k1_iI, k1_iI, aOpn_s]
    by_cases c : S 2 k = 0
    · rw [if_neg (b2i_1.mpr (cf.mpr ⟨⟨by omega, by omega⟩, c⟩)), if_pos c]
    · rw [if_pos (b2i_0.mpr (fun h => c (cf.mp h).2)), if_neg c]
  have kN := key _ (Nat.le_refl _)
  have fin : (A.1 100 2 ≤ (l_X5_openOnes_4 A s (0, 0) (Int32.toNatClampNeg (A.1 100 2))).2) := by
    rw [hN, kN, hT.1.2.2]
    dsimp only
    rw [iI_le (by omega) (by omega) (by omega) (by omega)]
    omega
  refine ⟨⟨fun k hk => ?_, fun k hk => ?_, ?_, ?_⟩, ?_⟩
  · rw [hN] at hk
    rw [key k (by omega)]
    unfold c_X5_openOnes_4
    dsimp only
    rw [hT.1.2.2, iteLE (by omega) (by omega) (by omega) (by omega), if_neg (by omega)]
    trivial
  · unfold q_X5_openOnes_4
    split
    · trivial
    · exact ⟨h6, by split <;> trivial⟩
  · unfold c_X5_openOnes_4
    rw [if_pos fin]
    exact fun h => h
  · rw [if_pos fin]
    trivial
  · unfold r_X5_openOnes
    rw [if_pos fin, hN, kN]
theorem r_may (hT : RT B T) (ha : RA B o) (hS : RS B o T S) (hI : InvT T) (hJ : InvS T S mb) : p_X8_maySet B ∧ r_X8_maySet B = iI ((aMask T S (T 0 2).toNat : Nat) : Int) := by
  have hc := hI.1
  have hN : Int32.toNatClampNeg (B.1 600 2) = (T 0 2).toNat := by rw [hT.1.2.2, iI_nat (by omega) (by omega)]
  have key : ∀ k, k ≤ (T 0 2).toNat → l_X8_maySet_4 B (0, 0) k = (iI ((aMask T S k : Nat) : Int), iI (k : Int)) := by
    refine it_for _ rfl (fun k hk => ?_)
    have cf := (r_free hT ha hS hI hJ (w := k) (by omega)).2
    have ml := aMask_lt T S k (by omega)
    show s_X8_maySet_4 B (iI ((aMask T S k : Nat) : Int), iI (k : Int)) = _
    unfold s_X8_maySet_4
    dsimp only
    rw [hT.1.2.2, iteLE (by omega) (by omega) (by omega) (by omega), if_neg (show ¬ T 0 2 ≤ (k : Int) by omega), k1_iI, aMask_s, cf]
    by_cases c : aFree T S k
    · rw [if_pos c, if_neg (by decide), if_pos c, msk_or _ ml k (by omega)]
    · rw [if_neg c, if_pos rfl, if_neg c, msk_or0 _ ml]
  have kN := key _ (Nat.le_refl _)
  have fin : (B.1 600 2 ≤ (l_X8_maySet_4 B (0, 0) (Int32.toNatClampNeg (B.1 600 2))).2) := by
    rw [hN, kN, hT.1.2.2]
    dsimp only
    rw [iI_le (by omega) (by omega) (by omega) (by omega)]
    omega
  refine ⟨⟨fun k hk => ?_, fun k hk => ?_, ?_, ?_⟩, ?_⟩
  · rw [hN] at hk
    rw [key k (by omega)]
    unfold c_X8_maySet_4
    dsimp only
    rw [hT.1.2.2, iteLE (by omega) (by omega) (by omega) (by omega), if_neg (by omega)]
    trivial
  · rw [hN] at hk
    rw [key k (by omega)]
    unfold q_X8_maySet_4
    dsimp only
    split
    · trivial
    · exact ⟨(r_free hT ha hS hI hJ (w := k) (by omega)).1, by split <;> trivial⟩
  · unfold c_X8_maySet_4
    rw [if_pos fin]
    exact fun h => h
  · rw [if_pos fin]
    trivial
  · unfold r_X8_maySet
    rw [if_pos fin, hN, kN]
theorem r_opn (hT : RT B T) (ha : RA B o) (hS : RS B o T S) (hI : InvT T) (hJ : InvS T S mb) : p_X8_openMany B ∧ r_X8_openMany B = iI ((aOpn S (T 0 2).toNat : Nat) : Int) := by
  have hc := hI.1
  have hN : Int32.toNatClampNeg (B.1 600 2) = (T 0 2).toNat := by rw [hT.1.2.2, iI_nat (by omega) (by omega)]
  have key : ∀ k, k ≤ (T 0 2).toNat → l_X8_openMany_4 B (0, 0) k = (iI ((aOpn S k : Nat) : Int), iI (k : Int)) := by
    refine it_for _ rfl (fun k hk => ?_)
    have cf := r_open ha hS hI hJ (x := (k : Int)) (by omega) (by omega)
    rw [Int.toNat_natCast] at cf
    show s_X8_openMany_4 B (iI ((aOpn S k : Nat) : Int), iI (k : Int)) = _
    unfold s_X8_openMany_4
    dsimp only
    rw [hT.1.2.2, iteLE (by omega) (by omega) (by omega) (by omega), if_neg (show ¬ T 0 2 ≤ (k : Int) by omega), k1_iI, k1_iI, aOpn_s]
    by_cases c : S 2 k = 0
    · rw [if_neg (b2i_1.mpr (cf.mpr c)), if_pos c]
    · rw [if_pos (b2i_0.mpr (fun h => c (cf.mp h))), if_neg c, cl0, iI_add]
      simp
  have kN := key _ (Nat.le_refl _)
  have fin : (B.1 600 2 ≤ (l_X8_openMany_4 B (0, 0) (Int32.toNatClampNeg (B.1 600 2))).2) := by
    rw [hN, kN, hT.1.2.2]
    dsimp only
    rw [iI_le (by omega) (by omega) (by omega) (by omega)]
    omega
  refine ⟨⟨fun k hk => ?_, fun k hk => ?_, ?_, ?_⟩, ?_⟩
  · rw [hN] at hk
    rw [key k (by omega)]
    unfold c_X8_openMany_4
    dsimp only
    rw [hT.1.2.2, iteLE (by omega) (by omega) (by omega) (by omega), if_neg (by omega)]
    trivial
  · rw [hN] at hk
    rw [key k (by omega)]
    unfold q_X8_openMany_4
    dsimp only
    split
    · trivial
    · exact ⟨ha.vs (x := (k : Int)) (by omega) (by omega) hI, by split <;> trivial⟩
  · unfold c_X8_openMany_4
    rw [if_pos fin]
    exact fun h => h
  · rw [if_pos fin]
    trivial
  · unfold r_X8_openMany
    rw [if_pos fin, hN, kN]
/-- a Stand takes another one -/
theorem cpi_r {a b c n j : Nat} : (cpi M a b 0 0 n).1 c j = if c = b ∧ j < n then M.1 a j else M.1 c j := by
  show (if c = b then va_cpy (M.1 a) (M.1 b) 0 0 n j else M.1 c j) = _
  unfold va_cpy
  by_cases h : c = b
  · subst h
    rw [if_pos rfl]
    by_cases hj : j < n
    · rw [if_pos ⟨Nat.zero_le _, by omega⟩, if_pos ⟨rfl, hj⟩, show 0 + (j - 0) = j by omega]
    · rw [if_neg (by omega), if_neg (by omega)]
  · rw [if_neg h, if_neg (fun q => h q.1)]
theorem take_rd {s1 : Nat} (h : s + 5 ≤ s1 ∨ s1 + 5 ≤ s) : (∀ j, j < 3 → (w_X3_take M s s1).1 (s + 1) j = M.1 (s1 + 1) j) ∧ (∀ j, j < 6 → (w_X3_take M s s1).1 (s + 2) j = M.1 (s1 + 2) j) ∧ (∀ j, j < 6 → (w_X3_take M s s1).1 (s + 3) j = M.1 (s1 + 3) j) ∧ (∀ j, j < 6 → (w_X3_take M s s1).1 (s + 4) j = M.1 (s1 + 4) j) ∧ ((w_X3_take M s s1).1 s 4 = M.1 s1 4 ∧ (w_X3_take M s s1).1 s 5 = M.1 s1 5 ∧ (w_X3_take M s s1).1 s 6 = M.1 s1 6) ∧ Fr (fun a => s ≤ a ∧ a ≤ s + 4) M (w_X3_take M s s1) := by
  have F : Fr (fun a => s ≤ a ∧ a ≤ s + 4) M (cpi (cpi (cpi (cpi M (s1 + 1) (s + 1) 0 0 3) (s1 + 2) (s + 2) 0 0 6) (s1 + 3) (s + 3) 0 0 6) (s1 + 4) (s + 4) 0 0 6) :=
    Fr.cpi (Fr.cpi (Fr.cpi (Fr.cpi Fr.rf (by omega)) (by omega)) (by omega)) (by omega)
  have q1 : ∀ j, j < 3 → (cpi (cpi (cpi (cpi M (s1 + 1) (s + 1) 0 0 3) (s1 + 2) (s + 2) 0 0 6) (s1 + 3) (s + 3) 0 0 6) (s1 + 4) (s + 4) 0 0 6).1 (s + 1) j = M.1 (s1 + 1) j := by
    intro j hj
    rw [cpi_r, if_neg (by omega), cpi_r, if_neg (by omega), cpi_r, if_neg (by omega), cpi_r, if_pos ⟨rfl, hj⟩]
  have q2 : ∀ j, j < 6 → (cpi (cpi (cpi (cpi M (s1 + 1) (s + 1) 0 0 3) (s1 + 2) (s + 2) 0 0 6) (s1 + 3) (s + 3) 0 0 6) (s1 + 4) (s + 4) 0 0 6).1 (s + 2) j = M.1 (s1 + 2) j := by
    intro j hj
    rw [cpi_r, if_neg (by omega), cpi_r, if_neg (by omega), cpi_r, if_pos ⟨rfl, hj⟩, cpi_r, if_neg (by omega)]
  have q3 : ∀ j, j < 6 → (cpi (cpi (cpi (cpi M (s1 + 1) (s + 1) 0 0 3) (s1 + 2) (s + 2) 0 0 6) (s1 + 3) (s + 3) 0 0 6) (s1 + 4) (s + 4) 0 0 6).1 (s + 3) j = M.1 (s1 + 3) j := by
    intro j hj
    rw [cpi_r, if_neg (by omega), cpi_r, if_pos ⟨rfl, hj⟩, cpi_r, if_neg (by omega), cpi_r, if_neg (by omega)]
  have q4 : ∀ j, j < 6 → (cpi (cpi (cpi (cpi M (s1 + 1) (s + 1) 0 0 3) (s1 + 2) (s + 2) 0 0 6) (s1 + 3) (s + 3) 0 0 6) (s1 + 4) (s + 4) 0 0 6).1 (s + 4) j = M.1 (s1 + 4) j := by
    intro j hj
    rw [cpi_r, if_pos ⟨rfl, hj⟩, cpi_r, if_neg (by omega), cpi_r, if_neg (by omega), cpi_r, if_neg (by omega)]
  have q0 : ∀ j, (cpi (cpi (cpi (cpi M (s1 + 1) (s + 1) 0 0 3) (s1 + 2) (s + 2) 0 0 6) (s1 + 3) (s + 3) 0 0 6) (s1 + 4) (s + 4) 0 0 6).1 s1 j = M.1 s1 j := fun j => F.at (by omega) j
  unfold w_X3_take
  generalize cpi (cpi (cpi (cpi M (s1 + 1) (s + 1) 0 0 3) (s1 + 2) (s + 2) 0 0 6) (s1 + 3) (s + 3) 0 0 6) (s1 + 4) (s + 4) 0 0 6 = N at *
  have r5 : ∀ v, (wi N s 4 v).1 s1 5 = M.1 s1 5 := fun v => by rw [rd_ne (Or.inl (by omega))]; exact q0 5
  have r6 : ∀ v v', (wi (wi N s 4 v) s 5 v').1 s1 6 = M.1 s1 6 := fun v v' => by rw [rd_ne (Or.inl (by omega)), rd_ne (Or.inl (by omega))]; exact q0 6
  rw [r6, r5, q0]
  refine ⟨fun j hj => ?_, fun j hj => ?_, fun j hj => ?_, fun j hj => ?_, ⟨?_, ?_, ?_⟩, Fr.wi (Fr.wi (Fr.wi F (by omega)) (by omega)) (by omega)⟩
  · rw [rd_ne (Or.inl (by omega)), rd_ne (Or.inl (by omega)), rd_ne (Or.inl (by omega))]; exact q1 j hj
  · rw [rd_ne (Or.inl (by omega)), rd_ne (Or.inl (by omega)), rd_ne (Or.inl (by omega))]; exact q2 j hj
  · rw [rd_ne (Or.inl (by omega)), rd_ne (Or.inl (by omega)), rd_ne (Or.inl (by omega))]; exact q3 j hj
  · rw [rd_ne (Or.inl (by omega)), rd_ne (Or.inl (by omega)), rd_ne (Or.inl (by omega))]; exact q4 j hj
  · rw [rd_ne (Or.inr (by omega)), rd_ne (Or.inr (by omega)), rd_same]
  · rw [rd_ne (Or.inr (by omega)), rd_same]
  · rw [rd_same]
theorem c_take {s1 : Nat} (h : s + 5 ≤ s1 ∨ s1 + 5 ≤ s) (hI : InvT T) (hS : CSt A s1 T S) : CSt (w_X3_take A s s1) s T S ∧ (w_X3_take A s s1).1 s 5 = A.1 s1 5 ∧ (w_X3_take A s s1).1 s 6 = A.1 s1 6 ∧ Fr (fun a => s ≤ a ∧ a ≤ s + 4) A (w_X3_take A s s1) := by
  have hc := hI.1
  obtain ⟨t1, t2, t3, t4, ⟨t5, t6, t7⟩, t8⟩ := take_rd (M := A) h
  refine ⟨⟨fun x h0 h1 => ?_, fun x h0 h1 => ?_, fun x h0 h1 => ?_, fun x h0 h1 => ?_, ?_⟩, t6, t7, t8⟩
  · rw [t1 _ (by omega)]; exact hS.1 x h0 h1
  · rw [t2 _ (by omega)]; exact hS.2.1 x h0 h1
  · rw [t3 _ (by omega)]; exact hS.2.2.1 x h0 h1
  · rw [t4 _ (by omega)]; exact hS.2.2.2.1 x h0 h1
  · rw [t5]; exact hS.2.2.2.2
theorem c_begin {s1 : Nat} (h : s + 5 ≤ s1 ∨ s1 + 5 ≤ s) (hI : InvT T) (hS : CSt A s1 T S) : CSt (w_X3_beginFrom A s s1) s T S ∧ (w_X3_beginFrom A s s1).1 s 5 = iI 0 ∧ (w_X3_beginFrom A s s1).1 s 6 = iI 0 ∧ Fr (fun a => s ≤ a ∧ a ≤ s + 4) A (w_X3_beginFrom A s s1) := by
  obtain ⟨t1, t2, t3, t4⟩ := c_take h hI hS
  unfold w_X3_beginFrom
  refine ⟨⟨fun x h0 h1 => ?_, fun x h0 h1 => ?_, fun x h0 h1 => ?_, fun x h0 h1 => ?_, ?_⟩, ?_, ?_, Fr.wi (Fr.wi t4 (by omega)) (by omega)⟩
  · rw [rd_ne (Or.inl (by omega)), rd_ne (Or.inl (by omega))]; exact t1.1 x h0 h1
  · rw [rd_ne (Or.inl (by omega)), rd_ne (Or.inl (by omega))]; exact t1.2.1 x h0 h1
  · rw [rd_ne (Or.inl (by omega)), rd_ne (Or.inl (by omega))]; exact t1.2.2.1 x h0 h1
  · rw [rd_ne (Or.inl (by omega)), rd_ne (Or.inl (by omega))]; exact t1.2.2.2.1 x h0 h1
  · rw [rd_ne (Or.inr (by omega)), rd_ne (Or.inr (by omega))]; exact t1.2.2.2.2
  · rw [rd_ne (Or.inr (by omega)), rd_same]; exact cl0
  · rw [rd_same]; exact cl0
/-- the row is lent: row 0 .. 21 stands at 22 .. 43 too, at = 22 -/
def lent (B : Mm) (k : Nat) : Mm := (fun a j => if a = 607 ∧ 22 ≤ j ∧ j < 22 + k then B.1 607 (j - 22) else B.1 a j, B.2)
theorem r_lends (hT : RT B T) (hS : RS B 0 T S) (hI : InvT T) : p_X8_lends B ∧ RT (w_X8_lends B) T ∧ RA (w_X8_lends B) 22 ∧ RS (w_X8_lends B) 22 T S ∧ RS (w_X8_lends B) 0 T S ∧ (∀ j, j < 22 → (w_X8_lends B).1 607 j = B.1 607 j) ∧ (∀ k, k ≠ 10 → (w_X8_lends B).1 600 k = B.1 600 k) ∧ (∀ a, a ≠ 600 → a ≠ 607 → (w_X8_lends B).1 a = B.1 a) ∧ (w_X8_lends B).2 = B.2 := by
  have hc := hI.1
  have key : ∀ k, k ≤ 22 → l_X8_lends_7 (wi B 600 10 0, 0) k = (lent (wi B 600 10 0) k, iI (k : Int)) := by
    refine it_for _ ?_ (fun k hk => ?_)
    · unfold lent
      refine Prod.ext (Prod.ext ?_ rfl) rfl
      funext a j
      show _ = (if a = 607 ∧ 22 ≤ j ∧ j < 22 + 0 then _ else _)
      rw [if_neg (by omega)]
    · show s_X8_lends_7 (lent (wi B 600 10 0) k, iI (k : Int)) = _
      unfold s_X8_lends_7
      dsimp only
      rw [cl22, iteLE (by omega) (by omega) (by omega) (by omega), if_neg (by omega), k1_iI, iI_add, natk (n := 22 + k) (by omega) (by omega), natk (n := k) rfl (by omega)]
      refine Prod.ext (Prod.ext ?_ rfl) rfl
      funext a j
      show (if a = 607 ∧ j = 22 + k then (lent (wi B 600 10 0) k).1 607 k else (lent (wi B 600 10 0) k).1 a j) = (lent (wi B 600 10 0) (k + 1)).1 a j
      have e1 : (lent (wi B 600 10 0) k).1 607 k = (wi B 600 10 0).1 607 k := by
        show (if 607 = 607 ∧ 22 ≤ k ∧ k < 22 + k then _ else _) = _
        rw [if_neg (by omega)]
      rw [e1]
      show _ = (if a = 607 ∧ 22 ≤ j ∧ j < 22 + (k + 1) then (wi B 600 10 0).1 607 (j - 22) else (wi B 600 10 0).1 a j)
      by_cases h : a = 607 ∧ j = 22 + k
      · rw [if_pos h, if_pos (by omega), show j - 22 = k by omega]
      · rw [if_neg h]
        show (if a = 607 ∧ 22 ≤ j ∧ j < 22 + k then (wi B 600 10 0).1 607 (j - 22) else (wi B 600 10 0).1 a j) = _
        by_cases h2 : a = 607 ∧ 22 ≤ j ∧ j < 22 + k
        · rw [if_pos h2, if_pos (by omega)]
        · rw [if_neg h2, if_neg (by omega)]
  have kN := key 22 (Nat.le_refl _)
  have fin : (22 : Int32) ≤ iI ((22 : Nat) : Int) := by decide
  have ew : w_X8_lends B = wi (lent (wi B 600 10 0) 22) 600 10 22 := by
    unfold w_X8_lends
    rw [n22_eq, kN]
    dsimp only
    rw [if_pos fin]
  have rd : ∀ j, (w_X8_lends B).1 607 j = if 22 ≤ j ∧ j < 44 then B.1 607 (j - 22) else B.1 607 j := by
    intro j
    rw [ew, rd_ne (Or.inl (by omega))]
    show (if 607 = 607 ∧ 22 ≤ j ∧ j < 22 + 22 then (wi B 600 10 0).1 607 (j - 22) else (wi B 600 10 0).1 607 j) = _
    rw [rd_ne (Or.inl (by omega)), rd_ne (Or.inl (by omega))]
    by_cases h : 22 ≤ j ∧ j < 44
    · rw [if_pos h, if_pos ⟨rfl, h⟩]
    · rw [if_neg h, if_neg (fun q => h q.2)]
  have ro : ∀ a j, a ≠ 600 → a ≠ 607 → (w_X8_lends B).1 a j = B.1 a j := by
    intro a j h1 h2
    rw [ew, rd_ne (Or.inl h1)]
    show (if a = 607 ∧ 22 ≤ j ∧ j < 22 + 22 then (wi B 600 10 0).1 607 (j - 22) else (wi B 600 10 0).1 a j) = _
    rw [if_neg (fun q => h2 q.1), rd_ne (Or.inl h1)]
  have r6 : ∀ k, k ≠ 10 → (w_X8_lends B).1 600 k = B.1 600 k := by
    intro k hk
    rw [ew, rd_ne (Or.inr hk)]
    show (if 600 = 607 ∧ 22 ≤ k ∧ k < 22 + 22 then (wi B 600 10 0).1 607 (k - 22) else (wi B 600 10 0).1 600 k) = _
    rw [if_neg (by omega), rd_ne (Or.inr hk)]
  refine ⟨?_, ⟨⟨?_, ?_, ?_⟩, fun x h0 h1 => ?_, fun x h0 h1 => ?_, fun k hk => ?_, fun w g hw hg => ?_⟩, ⟨?_, by omega⟩, ⟨fun x h0 h1 => ?_, fun x h0 h1 => ?_, fun x h0 h1 => ?_, fun x h0 h1 => ?_, ?_⟩, ⟨fun x h0 h1 => ?_, fun x h0 h1 => ?_, fun x h0 h1 => ?_, fun x h0 h1 => ?_, ?_⟩, fun j hj => ?_, r6, fun a h1 h2 => ?_, ?_⟩
  · unfold p_X8_lends
    rw [n22_eq]
    refine ⟨fun k hk => ?_, fun k hk => ?_, ?_, ?_⟩
    · rw [key k (by omega)]
      unfold c_X8_lends_7
      dsimp only
      rw [cl22, iteLE (by omega) (by omega) (by omega) (by omega), if_neg (by omega)]
      trivial
    · rw [key k (by omega)]
      unfold q_X8_lends_7
      dsimp only
      rw [cl22, iteLE (by omega) (by omega) (by omega) (by omega), if_neg (by omega), iI_add]
      exact ⟨vin_iI (by omega) (by omega) (by omega), vin_iI (by omega) (by omega) (by omega), trivial⟩
    · rw [kN]
      unfold c_X8_lends_7
      dsimp only
      rw [if_pos fin]
      exact fun h => h
    · rw [kN]
      dsimp only
      rw [if_pos fin]
      trivial
  · rw [r6 _ (by omega)]; exact hT.1.1
  · rw [r6 _ (by omega)]; exact hT.1.2.1
  · rw [r6 _ (by omega)]; exact hT.1.2.2
  · rw [ro _ _ (by omega) (by omega)]; exact hT.2.1 x h0 h1
  · rw [ro _ _ (by omega) (by omega)]; exact hT.2.2.1 x h0 h1
  · rw [ro _ _ (by omega) (by omega)]; exact hT.2.2.2.1 k hk
  · rw [ro _ _ (by omega) (by omega)]; exact hT.2.2.2.2 w g hw hg
  · rw [ew, rd_same]; exact cl22
  · rw [rd, if_pos (by omega), show 22 + x.toNat - 22 = 0 + x.toNat by omega]
    exact hS.1 x h0 h1
  · rw [rd, if_pos (by omega), show 22 + 3 + x.toNat - 22 = 0 + 3 + x.toNat by omega]
    exact hS.2.1 x h0 h1
  · rw [rd, if_pos (by omega), show 22 + 9 + x.toNat - 22 = 0 + 9 + x.toNat by omega]
    exact hS.2.2.1 x h0 h1
  · rw [rd, if_pos (by omega), show 22 + 15 + x.toNat - 22 = 0 + 15 + x.toNat by omega]
    exact hS.2.2.2.1 x h0 h1
  · rw [rd, if_pos (by omega)]
    exact hS.2.2.2.2
  · rw [rd, if_neg (by omega)]; exact hS.1 x h0 h1
  · rw [rd, if_neg (by omega)]; exact hS.2.1 x h0 h1
  · rw [rd, if_neg (by omega)]; exact hS.2.2.1 x h0 h1
  · rw [rd, if_neg (by omega)]; exact hS.2.2.2.1 x h0 h1
  · rw [rd, if_neg (by omega)]; exact hS.2.2.2.2
  · rw [rd, if_neg (by omega)]
  · funext j; exact ro a j h1 h2
  · rw [ew]; rfl
end C30
