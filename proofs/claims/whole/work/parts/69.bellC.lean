/-! the bell: the class -/
theorem sumN_le {f : Nat → Int} : ∀ n k, k < n → (∀ j, 0 ≤ f j) → f k ≤ sumN f n
  | 0, k, h, _ => absurd h (Nat.not_lt_zero k)
  | m + 1, k, h, h0 => by
    show f k ≤ sumN f m + f m
    by_cases q : k = m
    · have := sumN_0 m (fun j _ => h0 j)
      rw [q]; omega
    · have := sumN_le m k (by omega) h0
      have := h0 m
      omega
section P69
variable {M A : Mm} {T S : Tw} {mb C : Int} {p : Bs} {k : Nat}
theorem BI.nd (h : BI T C p) (hC : C ≤ 900000) (hk : k < (T 0 2).toNat) : 0 ≤ p.2 k ∧ p.2 k ≤ 900000 := by
  have := sumN_le _ _ hk h.2.1
  have := h.2.1 k
  have := h.1.2.2.2.2.1
  have := h.2.2
  omega
theorem c_ring (hT : CT A 100 T) (hS : CSt A 1030 T p.1) (hI : InvT T) (hB : BI T C p) (hC : C ≤ 900000) (h13 : ∀ j, j < (T 0 2).toNat → A.1 513 j = iI (p.2 j)) (hk : k < (T 0 2).toNat) (hf : aFree T p.1 k) :
    p_X2_ringFor A 1030 (iI (k : Int)) ∧ CSt (w_X2_ringFor A 1030 (iI (k : Int))) 1030 T (bStep false T p k).1 ∧ (∀ j, j < (T 0 2).toNat → (w_X2_ringFor A 1030 (iI (k : Int))).1 513 j = iI ((bStep false T p k).2 j)) ∧ Fr (fun a => (1030 ≤ a ∧ a ≤ 1034) ∨ a = 513) A (w_X2_ringFor A 1030 (iI (k : Int))) := by
  have hc := hI.1
  have nk : Int32.toNatClampNeg (iI (k : Int)) = k := natk rfl (by omega)
  have vk : vp_in (iI (k : Int)) 6 := vin_iI (by omega) (by omega) (by omega)
  have nb := bN_b (k := k) hI hB.2.1
  have ndb := hB.nd hC hk
  have t3 := hI.2.2.2.1.2.2.2
  have l3 : A.1 104 3 = iI (T 3 3) := hT.2.2.2.1 3 (by omega)
  have e13 := h13 k hk
  have eN : (if A.1 513 k < A.1 104 3 then A.1 513 k else A.1 104 3) = iI (bN T p.2 k) := by
    rw [e13, l3]
    unfold bN
    rw [iteLT (by omega) (by omega) (by omega) (by omega), iI_ite]
  have m4 := hB.1.2.2.2.2.1
  obtain ⟨a1, a2⟩ := c_after hT hI (m := p.1 4 0) (n := bN T p.2 k) m4.1 (by omega) nb.1 (by omega)
  have e4 : A.1 1030 4 = iI (p.1 4 0) := hS.2.2.2.2
  unfold p_X2_ringFor w_X2_ringFor
  rw [nk, eN, e4, a2]
  show _ ∧ _
  obtain ⟨A1, hA1⟩ : ∃ A1, A1 = wi A 1030 4 (iI (aAfter (T 3 0) (p.1 4 0) (bN T p.2 k))) := ⟨_, rfl⟩
  rw [← hA1]
  have e1 : A1.1 513 k = iI (p.2 k) := by rw [hA1, rd_ne (Or.inl (by omega))]; exact e13
  rw [e1, iI_sub]
  obtain ⟨A2, hA2⟩ : ∃ A2, A2 = wi A1 513 k (iI (p.2 k - bN T p.2 k)) := ⟨_, rfl⟩
  rw [← hA2]
  have e2 : A2.1 513 k = iI (p.2 k - bN T p.2 k) := by rw [hA2, rd_same]
  have e24 : A2.1 1030 4 = iI (bM T p k) := by rw [hA2, rd_ne (Or.inl (by omega)), hA1, rd_same]; rfl
  rw [e2]
  have z : (iI (p.2 k - bN T p.2 k) = 0) ↔ p.2 k - bN T p.2 k = 0 := by rw [cl0, iI_eq (by omega) (by omega) (by omega) (by omega)]
  have r2 : ∀ a j, a ≠ 513 → (a ≠ 1030 ∨ j ≠ 4) → A2.1 a j = A.1 a j := fun a j h1 h2 => by rw [hA2, rd_ne (Or.inl h1), hA1, rd_ne h2]
  have F2 : Fr (fun a => (1030 ≤ a ∧ a ≤ 1034) ∨ a = 513) A A2 := by rw [hA2, hA1]; exact Fr.wi (Fr.wi Fr.rf (by omega)) (by omega)
  have d13 : ∀ j, j < (T 0 2).toNat → A2.1 513 j = iI ((bStep false T p k).2 j) := fun j hj => by
    rw [bStep_2 hf]
    show _ = iI (if j = k then p.2 k - bN T p.2 k else p.2 j)
    by_cases q : j = k
    · rw [if_pos q, q]; exact e2
    · rw [if_neg q, hA2, rd_ne (Or.inr q), hA1, rd_ne (Or.inl (by omega))]; exact h13 j hj
  clear hA1 hA2
  by_cases c : p.2 k - bN T p.2 k = 0
  · have g := not_not_intro (z.mpr c)
    rw [if_neg g, if_neg g]
    have e34 : (wi A2 (1030 + 3) k 1).1 1030 4 = iI (bM T p k) := by rw [rd_ne (Or.inl (by omega))]; exact e24
    rw [e34]
    refine ⟨⟨vk, a1, vk, vk, vk, vk, vk, trivial⟩, ⟨fun x a b => ?_, fun x a b => ?_, fun x a b => ?_, fun x a b => ?_, ?_⟩, fun j hj => ?_, Fr.wi (Fr.wi F2 (by omega)) (by omega)⟩
    · rw [rd_ne (Or.inl (by omega)), rd_ne (Or.inl (by omega)), r2 _ _ (by omega) (by omega), bStep_1 hf]
      simp only [show ¬ (0 : Nat) = 4 by omega, show ¬ (0 : Nat) = 2 by omega, show ¬ (0 : Nat) = 3 by omega, false_and, if_false]
      exact hS.1 x a b
    · rw [rd_ne (Or.inl (by omega)), rd_ne (Or.inl (by omega)), r2 _ _ (by omega) (by omega), bStep_1 hf]
      simp only [show ¬ (1 : Nat) = 4 by omega, show ¬ (1 : Nat) = 2 by omega, show ¬ (1 : Nat) = 3 by omega, false_and, if_false]
      exact hS.2.1 x a b
    · rw [rd_ne (Or.inl (by omega)), bStep_s2 hf, if_pos c]
      by_cases q : x.toNat = k
      · rw [if_pos q, q, rd_same]; rfl
      · rw [if_neg q, rd_ne (Or.inr q), r2 _ _ (by omega) (by omega)]; exact hS.2.2.1 x a b
    · rw [bStep_1 hf]
      show _ = iI (if 3 = 4 ∧ x.toNat = 0 then _ else if 3 = 2 ∧ x.toNat = k then _ else if (3 = 3 ∧ x.toNat = k) ∧ (false = true ∨ p.2 k - bN T p.2 k = 0) then bM T p k else p.1 3 x.toNat)
      have g1 : ¬ ((3 : Nat) = 4 ∧ x.toNat = 0) := by omega
      have g2 : ¬ ((3 : Nat) = 2 ∧ x.toNat = k) := by omega
      rw [if_neg g1, if_neg g2]
      by_cases q : x.toNat = k
      · rw [if_pos ⟨⟨rfl, q⟩, Or.inr c⟩, q, rd_same]
      · rw [if_neg (fun u => q u.1.2), rd_ne (Or.inr q), rd_ne (Or.inl (by omega)), r2 _ _ (by omega) (by omega)]; exact hS.2.2.2.1 x a b
    · rw [rd_ne (Or.inl (by omega)), rd_ne (Or.inl (by omega)), e24, bStep_1 hf]
      show _ = iI (if 4 = 4 ∧ 0 = 0 then _ else _)
      rw [if_pos ⟨rfl, rfl⟩]
    · rw [rd_ne (Or.inl (by omega)), rd_ne (Or.inl (by omega))]; exact d13 j hj
  · have g : ¬ iI (p.2 k - bN T p.2 k) = 0 := fun u => c (z.mp u)
    rw [if_pos g, if_pos g]
    refine ⟨⟨vk, a1, vk, vk, vk, trivial⟩, ⟨fun x a b => ?_, fun x a b => ?_, fun x a b => ?_, fun x a b => ?_, ?_⟩, d13, F2⟩
    · rw [r2 _ _ (by omega) (by omega), bStep_1 hf]
      simp only [show ¬ (0 : Nat) = 4 by omega, show ¬ (0 : Nat) = 2 by omega, show ¬ (0 : Nat) = 3 by omega, false_and, if_false]
      exact hS.1 x a b
    · rw [r2 _ _ (by omega) (by omega), bStep_1 hf]
      simp only [show ¬ (1 : Nat) = 4 by omega, show ¬ (1 : Nat) = 2 by omega, show ¬ (1 : Nat) = 3 by omega, false_and, if_false]
      exact hS.2.1 x a b
    · rw [r2 _ _ (by omega) (by omega), bStep_s2 hf, if_neg c]
      by_cases q : x.toNat = k
      · rw [if_pos q]
        have := hS.2.2.1 x a b
        rw [q, hf.1] at this
        rw [q]; exact this
      · rw [if_neg q]; exact hS.2.2.1 x a b
    · rw [r2 _ _ (by omega) (by omega), bStep_1 hf]
      show _ = iI (if 3 = 4 ∧ x.toNat = 0 then _ else if 3 = 2 ∧ x.toNat = k then _ else if (3 = 3 ∧ x.toNat = k) ∧ (false = true ∨ p.2 k - bN T p.2 k = 0) then bM T p k else p.1 3 x.toNat)
      have g1 : ¬ ((3 : Nat) = 4 ∧ x.toNat = 0) := by omega
      have g2 : ¬ ((3 : Nat) = 2 ∧ x.toNat = k) := by omega
      have g3 : ¬ (((3 : Nat) = 3 ∧ x.toNat = k) ∧ (false = true ∨ p.2 k - bN T p.2 k = 0)) := fun u => u.2.elim (by decide) c
      rw [if_neg g1, if_neg g2, if_neg g3]; exact hS.2.2.2.1 x a b
    · rw [e24, bStep_1 hf]
      show _ = iI (if 4 = 4 ∧ 0 = 0 then _ else _)
      rw [if_pos ⟨rfl, rfl⟩]
/-- one round -/
theorem c_round (hT : CT A 100 T) (hS : CSt A 1030 T p.1) (hI : InvT T) (hB : BI T C p) (hC : C ≤ 900000) (h13 : ∀ j, j < (T 0 2).toNat → A.1 513 j = iI (p.2 j)) (a1 x3 : Int32) :
    (∀ k, k < Int32.toNatClampNeg (A.1 100 2) → c_X2_endByTheBell_70 a1 x3 (l_X2_endByTheBell_70 a1 x3 (A, 0) k)) ∧ (∀ k, k < Int32.toNatClampNeg (A.1 100 2) → q_X2_endByTheBell_70 a1 x3 (l_X2_endByTheBell_70 a1 x3 (A, 0) k)) ∧ (¬ c_X2_endByTheBell_70 a1 x3 (l_X2_endByTheBell_70 a1 x3 (A, 0) (Int32.toNatClampNeg (A.1 100 2)))) ∧
    ∃ A', l_X2_endByTheBell_70 a1 x3 (A, 0) (Int32.toNatClampNeg (A.1 100 2)) = (A', iI (T 0 2)) ∧ A'.1 100 2 = iI (T 0 2) ∧ CSt A' 1030 T (bRnd false T p (T 0 2).toNat).1 ∧ (∀ j, j < (T 0 2).toNat → A'.1 513 j = iI ((bRnd false T p (T 0 2).toNat).2 j)) ∧ Fr (fun a => (1030 ≤ a ∧ a ≤ 1034) ∨ a = 513) A A' := by
  have hc := hI.1
  have hN : Int32.toNatClampNeg (A.1 100 2) = (T 0 2).toNat := by rw [hT.1.2.2, iI_nat (by omega) (by omega)]
  rw [hN]
  have step : ∀ (k : Nat) (D : Mm), k < (T 0 2).toNat → CSt D 1030 T (bRnd false T p k).1 → (∀ j, j < (T 0 2).toNat → D.1 513 j = iI ((bRnd false T p k).2 j)) → Fr (fun a => (1030 ≤ a ∧ a ≤ 1034) ∨ a = 513) A D →
      c_X2_endByTheBell_70 a1 x3 (D, iI (k : Int)) ∧ q_X2_endByTheBell_70 a1 x3 (D, iI (k : Int)) ∧ ∃ D', s_X2_endByTheBell_70 a1 x3 (D, iI (k : Int)) = (D', iI ((k + 1 : Nat) : Int)) ∧ CSt D' 1030 T (bRnd false T p (k + 1)).1 ∧ (∀ j, j < (T 0 2).toNat → D'.1 513 j = iI ((bRnd false T p (k + 1)).2 j)) ∧ Fr (fun a => (1030 ≤ a ∧ a ≤ 1034) ∨ a = 513) A D' := by
    intro k D hk k1 k2 k3
    have kT : CT D 100 T := hT.fp hI (fun a j h1 h2 => k3.at (by omega) j)
    have w2 := kT.1.2.2
    have h6 : (D.1 100 2).toInt ≤ 6 := by rw [w2, iI_toInt (by omega) (by omega)]; omega
    have hlt : ¬ D.1 100 2 ≤ iI (k : Int) := by rw [w2, iI_le (by omega) (by omega) (by omega) (by omega)]; omega
    have kB := hB.rnd (r := false) hI k (by omega)
    have fr := c_free kT k1 hI kB.1 (w := k) (by omega)
    unfold c_X2_endByTheBell_70 q_X2_endByTheBell_70 s_X2_endByTheBell_70
    dsimp only
    rw [if_neg hlt, if_neg hlt, if_neg hlt, k1_iI]
    by_cases c : aFree T (bRnd false T p k).1 k
    · have g : ¬ b2i (cFree D 1030 (iI (k : Int))) = 0 := b2i_1.mpr (fr.mpr c)
      rw [if_neg g, if_neg g]
      obtain ⟨y1, y2, y3, y4⟩ := c_ring kT k1 hI kB hC k2 hk c
      exact ⟨trivial, ⟨h6, y1, trivial⟩, _, rfl, y2, y3, k3.tr y4⟩
    · have g := b2i_0.mpr (fun u => c (fr.mp u))
      rw [if_pos g, if_pos g]
      refine ⟨trivial, ⟨h6, trivial⟩, D, rfl, ?_, ?_, k3⟩
      · show CSt D 1030 T (bStep false T (bRnd false T p k) k).1
        rw [bStep_no c]; exact k1
      · show ∀ j, j < (T 0 2).toNat → D.1 513 j = iI ((bStep false T (bRnd false T p k) k).2 j)
        rw [bStep_no c]; exact k2
  have key : ∀ k, k ≤ (T 0 2).toNat → ∃ D, l_X2_endByTheBell_70 a1 x3 (A, 0) k = (D, iI (k : Int)) ∧ CSt D 1030 T (bRnd false T p k).1 ∧ (∀ j, j < (T 0 2).toNat → D.1 513 j = iI ((bRnd false T p k).2 j)) ∧ Fr (fun a => (1030 ≤ a ∧ a ≤ 1034) ∨ a = 513) A D := by
    intro k
    induction k with
    | zero => intro _; exact ⟨A, rfl, hS, h13, Fr.rf⟩
    | succ k ih =>
      intro hk
      obtain ⟨D, h1, h2, h3, h5⟩ := ih (by omega)
      obtain ⟨-, -, D', g1, g2⟩ := step k D (by omega) h2 h3 h5
      refine ⟨D', ?_, g2⟩
      show s_X2_endByTheBell_70 a1 x3 (l_X2_endByTheBell_70 a1 x3 (A, 0) k) = _
      rw [h1]; exact g1
  obtain ⟨D, h1, h2, h3, h5⟩ := key _ (Nat.le_refl _)
  have w2 : D.1 100 2 = iI (T 0 2) := by rw [h5.at (by omega)]; exact hT.1.2.2
  refine ⟨fun k hk => ?_, fun k hk => ?_, ?_, D, ?_, w2, h2, h3, h5⟩
  · obtain ⟨E, g1, g2, g3, g5⟩ := key k (by omega)
    rw [g1]
    exact (step k E hk g2 g3 g5).1
  · obtain ⟨E, g1, g2, g3, g5⟩ := key k (by omega)
    rw [g1]
    exact (step k E hk g2 g3 g5).2.1
  · rw [h1]
    unfold c_X2_endByTheBell_70
    dsimp only
    rw [w2, iteLE (by omega) (by omega) (by omega) (by omega), if_pos (by omega)]
    exact fun h => h
  · rw [h1]
    refine Prod.ext rfl ?_
    show iI _ = iI _
    congr 1
    omega
def nd0 (T S : Tw) : Nat → Int := fun j => if j < (T 0 2).toNat then aMin T S j else 0
theorem nd0_BI (hI : InvT T) (hJ : InvS T S mb) (hC : C ≤ 900000) (hmC : mb + 23760 ≤ C) : BI T C (S, nd0 T S) ∧ bMu (S, nd0 T S) (T 0 2).toNat ≤ ((1194 : Nat) : Int) := by
  have hc := hI.1
  have b : ∀ j, 0 ≤ nd0 T S j ∧ nd0 T S j ≤ 198 := fun j => by
    unfold nd0
    split
    · exact aMin_le hI hJ (by omega)
    · omega
  have s1 := sumN_b (f := nd0 T S) (c := 198) (T 0 2).toNat (fun j _ => (b j).2)
  have m := hJ.2.2.2.2.1
  refine ⟨⟨hJ.mono (by omega) (by omega), fun j => (b j).1, ?_⟩, ?_⟩
  · show S 4 0 + 20 * sumN (nd0 T S) (T 0 2).toNat ≤ C
    omega
  · have s2 := sumN_b (f := fun j => if S 2 j = 0 then nd0 T S j + 1 else 0) (c := 199) (T 0 2).toNat (fun j _ => by
      have := b j
      show (if S 2 j = 0 then nd0 T S j + 1 else 0) ≤ 199
      split <;> omega)
    show sumN (fun j => if S 2 j = 0 then nd0 T S j + 1 else 0) (T 0 2).toNat ≤ _
    omega
end P69
