/-! the bell: the reference's rounds; the pair -/
def nd1 (T S : Tw) : Nat → Int := fun j => if j < (T 0 2).toNat ∧ S 2 j = 0 then aMin T S j else 0
section P72
variable {M B : Mm} {T S : Tw} {mb C : Int} {p : Bs} {w k n : Nat}
theorem nd1_BI (hI : InvT T) (hJ : InvS T S mb) (hC : C ≤ 900000) (hmC : mb + 23760 ≤ C) : BI T C (S, nd1 T S) := by
  have hc := hI.1
  have b : ∀ j, 0 ≤ nd1 T S j ∧ nd1 T S j ≤ 198 := fun j => by
    unfold nd1
    split
    · exact aMin_le hI hJ (by omega)
    · omega
  have s1 := sumN_b (f := nd1 T S) (c := 198) (T 0 2).toNat (fun j _ => (b j).2)
  have m := hJ.2.2.2.2.1
  refine ⟨hJ.mono (by omega) (by omega), fun j => (b j).1, ?_⟩
  show S 4 0 + 20 * sumN (nd1 T S) (T 0 2).toNat ≤ C
  omega
theorem nd_eqv : eqv (S, nd0 T S) (S, nd1 T S) := ⟨fun _ _ _ => rfl, fun _ _ => rfl, fun j hj => by
  show nd0 T S j = nd1 T S j
  have hj' : S 2 j = 0 := hj
  unfold nd0 nd1
  by_cases c : j < (T 0 2).toNat
  · rw [if_pos c, if_pos ⟨c, hj'⟩]
  · rw [if_neg c, if_neg (fun u => c u.1)]⟩
theorem r_rounds (hT : RT M T) (ha : RA M 22) (hS : RS M 22 T p.1) (hI : InvT T) (hB : BI T C p) (hC : C ≤ 900000) (h18 : ∀ j, j < (T 0 2).toNat → M.1 618 j = iI (p.2 j)) (hw : (w : Int) < T 0 2) {m : Nat} (lo : ∀ j, j < m → (bRun true T (T 0 2).toNat p j).1 2 w = 0) (hi : (bRun true T (T 0 2).toNat p m).1 2 w ≠ 0) :
    (∀ k, k < m → c_X8_bell_61 (iI (w : Int)) (l_X8_bell_61 (iI (w : Int)) (M, iI (T 0 2)) k)) ∧ (∀ k, k < m → q_X8_bell_61 (iI (w : Int)) (l_X8_bell_61 (iI (w : Int)) (M, iI (T 0 2)) k)) ∧ (¬ c_X8_bell_61 (iI (w : Int)) (l_X8_bell_61 (iI (w : Int)) (M, iI (T 0 2)) m)) ∧
    ∃ D, l_X8_bell_61 (iI (w : Int)) (M, iI (T 0 2)) m = (D, iI (T 0 2)) ∧ RS D 22 T (bRun true T (T 0 2).toNat p m).1 ∧ Fq (fun a k => (a = 607 ∧ 22 ≤ k) ∨ a = 618) M D := by
  have hc := hI.1
  have n9 : Int32.toNatClampNeg (iI 22 + 9 + iI (w : Int)) = 22 + 9 + w := by rw [cl9, iI_add, iI_add]; exact natk (by omega) (by omega)
  have v9 : vp_in (iI 22 + 9 + iI (w : Int)) 44 := by rw [cl9, iI_add, iI_add]; exact vin_iI (by omega) (by omega) (by omega)
  have one : ∀ (k : Nat) (D : Mm), k ≤ m → RS D 22 T (bRun true T (T 0 2).toNat p k).1 → (∀ j, j < (T 0 2).toNat → D.1 618 j = iI ((bRun true T (T 0 2).toNat p k).2 j)) → Fq (fun a k => (a = 607 ∧ 22 ≤ k) ∨ a = 618) M D →
      (c_X8_bell_61 (iI (w : Int)) (D, iI (T 0 2)) ↔ k < m) ∧ (k < m → q_X8_bell_61 (iI (w : Int)) (D, iI (T 0 2)) ∧ ∃ D', s_X8_bell_61 (iI (w : Int)) (D, iI (T 0 2)) = (D', iI (T 0 2)) ∧ RS D' 22 T (bRun true T (T 0 2).toNat p (k + 1)).1 ∧ (∀ j, j < (T 0 2).toNat → D'.1 618 j = iI ((bRun true T (T 0 2).toNat p (k + 1)).2 j)) ∧ Fq (fun a k => (a = 607 ∧ 22 ≤ k) ∨ a = 618) M D') := by
    intro k D hk k1 k2 k3
    have kT : RT D T := hT.fq k3 (fun a k h => by omega)
    have kA : RA D 22 := ha.fq k3 (by omega)
    have a10 : D.1 600 10 = iI 22 := kA.1
    have kB := hB.run (r := true) hI k
    have s3 := k1.2.2.1 (w : Int) (by omega) hw
    rw [Int.toNat_natCast] at s3
    have b3 := kB.1.2.2.1 (w : Int) (by omega) hw
    rw [Int.toNat_natCast] at b3
    have z : (iI ((bRun true T (T 0 2).toNat p k).1 2 w) = (0 : Int32)) ↔ k < m := by
      rw [cl0, iI_eq (by omega) (by omega) (by omega) (by omega)]
      refine ⟨fun u => ?_, fun u => lo k u⟩
      rcases Nat.lt_or_ge k m with q | q
      · exact q
      · have : k = m := by omega
        rw [this] at u
        exact absurd u hi
    unfold c_X8_bell_61 q_X8_bell_61 s_X8_bell_61
    dsimp only
    rw [a10, n9, s3]
    refine ⟨?_, fun q => ?_⟩
    · by_cases q : k < m
      · rw [if_neg (not_not_intro (z.mpr q))]
        exact ⟨fun _ => q, fun _ => trivial⟩
      · rw [if_pos (fun u => q (z.mp u))]
        exact ⟨fun u => u.elim, fun u => absurd u q⟩
    · have g := not_not_intro (z.mpr q)
      rw [if_neg g, if_neg g]
      obtain ⟨y1, y2, y3, E, e1, e2, e3, e4, e5⟩ := r_round kT kA k1 hI kB hC k2 (iI (w : Int))
      rw [e1] at y3
      have gE : E.1 600 2 ≤ iI (T 0 2) := by rw [e2]; exact Int32.le_refl _
      rw [e1]
      dsimp only
      rw [if_pos gE, if_pos gE]
      exact ⟨⟨v9, y1, y2, y3, trivial⟩, E, rfl, e3, e4, k3.tr e5⟩
  have key : ∀ k, k ≤ m → ∃ D, l_X8_bell_61 (iI (w : Int)) (M, iI (T 0 2)) k = (D, iI (T 0 2)) ∧ RS D 22 T (bRun true T (T 0 2).toNat p k).1 ∧ (∀ j, j < (T 0 2).toNat → D.1 618 j = iI ((bRun true T (T 0 2).toNat p k).2 j)) ∧ Fq (fun a k => (a = 607 ∧ 22 ≤ k) ∨ a = 618) M D := by
    intro k
    induction k with
    | zero => intro _; exact ⟨M, rfl, hS, h18, Fq.rf⟩
    | succ k ih =>
      intro hk
      obtain ⟨D, h1, h2, h3, h5⟩ := ih (by omega)
      obtain ⟨D', g1, g2⟩ := ((one k D (by omega) h2 h3 h5).2 (by omega)).2
      refine ⟨D', ?_, g2⟩
      show s_X8_bell_61 (iI (w : Int)) (l_X8_bell_61 (iI (w : Int)) (M, iI (T 0 2)) k) = _
      rw [h1]; exact g1
  refine ⟨fun k hk => ?_, fun k hk => ?_, ?_, ?_⟩
  · obtain ⟨D, h1, h2, h3, h5⟩ := key k (by omega)
    rw [h1]; exact (one k D (by omega) h2 h3 h5).1.mpr hk
  · obtain ⟨D, h1, h2, h3, h5⟩ := key k (by omega)
    rw [h1]; exact ((one k D (by omega) h2 h3 h5).2 hk).1
  · obtain ⟨D, h1, h2, h3, h5⟩ := key m (Nat.le_refl _)
    rw [h1]; exact fun u => absurd ((one m D (Nat.le_refl _) h2 h3 h5).1.mp u) (Nat.lt_irrefl _)
  · obtain ⟨D, h1, h2, h3, h5⟩ := key m (Nat.le_refl _)
    exact ⟨D, h1, h2, h5⟩
theorem r_fill (hT : RT M T) (ha : RA M 0) (hS : RS M 0 T S) (hI : InvT T) (hJ : InvS T S mb) (a1 : Int32) :
    (∀ k, k < Int32.toNatClampNeg (M.1 600 2) → c_X8_bell_20 a1 (l_X8_bell_20 a1 (M, 0) k)) ∧ (∀ k, k < Int32.toNatClampNeg (M.1 600 2) → q_X8_bell_20 a1 (l_X8_bell_20 a1 (M, 0) k)) ∧ (¬ c_X8_bell_20 a1 (l_X8_bell_20 a1 (M, 0) (Int32.toNatClampNeg (M.1 600 2)))) ∧
    l_X8_bell_20 a1 (M, 0) (Int32.toNatClampNeg (M.1 600 2)) = (runI M 618 0 (T 0 2).toNat (fun j => iI (nd1 T S j)), iI (T 0 2)) := by
  have hc := hI.1
  have hN : Int32.toNatClampNeg (M.1 600 2) = (T 0 2).toNat := by rw [hT.1.2.2, iI_nat (by omega) (by omega)]
  rw [hN]
  have w2 : ∀ k, (runI M 618 0 k (fun j => iI (nd1 T S j))).1 600 2 = iI (T 0 2) := fun k => by rw [runI_n (Or.inl (by omega))]; exact hT.1.2.2
  have step : ∀ k : Nat, k < (T 0 2).toNat → c_X8_bell_20 a1 (runI M 618 0 k (fun j => iI (nd1 T S j)), iI (k : Int)) ∧ q_X8_bell_20 a1 (runI M 618 0 k (fun j => iI (nd1 T S j)), iI (k : Int)) ∧ s_X8_bell_20 a1 (runI M 618 0 k (fun j => iI (nd1 T S j)), iI (k : Int)) = (runI M 618 0 (k + 1) (fun j => iI (nd1 T S j)), iI ((k + 1 : Nat) : Int)) := by
    intro k hk
    have F : Fq (fun a k => a = 618) M (runI M 618 0 k (fun j => iI (nd1 T S j))) := Fq.run Fq.rf (fun k h1 h2 => rfl)
    have kT : RT (runI M 618 0 k (fun j => iI (nd1 T S j))) T := hT.fq F (fun a k h => by omega)
    have kA : RA (runI M 618 0 k (fun j => iI (nd1 T S j))) 0 := ha.fq F (by omega)
    have kS : RS (runI M 618 0 k (fun j => iI (nd1 T S j))) 0 T S := hS.fq hI F (fun k h1 h2 => by omega)
    have nk : Int32.toNatClampNeg (iI (k : Int)) = k := natk rfl (by omega)
    have vk : vp_in (iI (k : Int)) 6 := vin_iI (by omega) (by omega) (by omega)
    have hlt : ¬ (runI M 618 0 k (fun j => iI (nd1 T S j))).1 600 2 ≤ iI (k : Int) := by rw [w2, iI_le (by omega) (by omega) (by omega) (by omega)]; omega
    have op := r_open kA kS hI hJ (x := (k : Int)) (by omega) (by omega)
    rw [Int.toNat_natCast] at op
    have v9 := kA.vs (x := (k : Int)) (by omega) (by omega) hI
    have this := runI_s M 618 0 k (fun j => iI (nd1 T S j))
    rw [Nat.zero_add] at this
    obtain ⟨m1, m2, m3⟩ := r_min kT kA kS hI hJ (w := k) (by omega)
    generalize runI M 618 0 k (fun j => iI (nd1 T S j)) = Z at *
    unfold c_X8_bell_20 q_X8_bell_20 s_X8_bell_20
    dsimp only
    rw [if_neg hlt, if_neg hlt, if_neg hlt, k1_iI, nk]
    by_cases c : S 2 k = 0
    · have g := b2i_1.mpr (op.mpr c)
      have e : nd1 T S k = aMin T S k := by unfold nd1; rw [if_pos ⟨hk, c⟩]
      rw [if_neg g, if_neg g, m2, m3]
      refine ⟨trivial, ⟨v9, m1, vk, trivial⟩, ?_⟩
      rw [← this, e]
    · have g := b2i_0.mpr (fun u => c (op.mp u))
      have e : nd1 T S k = 0 := by unfold nd1; rw [if_neg (fun u => c u.2)]
      rw [if_pos g, if_pos g]
      refine ⟨trivial, ⟨v9, vk, trivial⟩, ?_⟩
      rw [← this, e]
      rfl
  have key : ∀ k : Nat, k ≤ (T 0 2).toNat → l_X8_bell_20 a1 (M, 0) k = (runI M 618 0 k (fun j => iI (nd1 T S j)), iI (k : Int)) := by
    intro k
    induction k with
    | zero => intro _; rw [runI_0]; rfl
    | succ k ih =>
      intro hk
      show s_X8_bell_20 a1 (l_X8_bell_20 a1 (M, 0) k) = _
      rw [ih (by omega)]; exact (step k (by omega)).2.2
  have e : (((T 0 2).toNat : Nat) : Int) = T 0 2 := by omega
  have last := key _ (Nat.le_refl _)
  rw [e] at last
  refine ⟨fun k hk => ?_, fun k hk => ?_, ?_, last⟩
  · rw [key k (by omega)]; exact (step k hk).1
  · rw [key k (by omega)]; exact (step k hk).2.1
  · rw [last]
    unfold c_X8_bell_20
    dsimp only
    rw [w2, if_pos (Int32.le_refl _)]
    exact fun h => h
theorem r_bell (hT : RT M T) (ha : RA M 0) (hS : RS M 0 T S) (hI : InvT T) (hJ : InvS T S mb) (hmb : mb ≤ 800000) (hw : (w : Int) < T 0 2) (h0 : S 2 w = 0) {m : Nat} (hm : m < 2000) (lo : ∀ j, j < m → (bRun true T (T 0 2).toNat (S, nd1 T S) j).1 2 w = 0) (hi : (bRun true T (T 0 2).toNat (S, nd1 T S) m).1 2 w ≠ 0) :
    p_X8_bell M (iI (w : Int)) ∧ r_X8_bell M (iI (w : Int)) = iI ((bRun true T (T 0 2).toNat (S, nd1 T S) m).1 3 w) ∧ Fq Qz M (w_X8_bell M (iI (w : Int))) := by
  have hc := hI.1
  have w1 : ¬ b2i (0 ≤ iI (w : Int) ∧ iI (w : Int) ≤ M.1 600 2 - 1) = 0 := b2i_1.mpr ((r_isWork hT hI (by omega) (by omega)).mpr ⟨by omega, hw⟩)
  have w2 : ¬ b2i (M.1 607 (Int32.toNatClampNeg (M.1 600 10 + 9 + iI (w : Int))) = 0) = 0 := b2i_1.mpr ((r_open ha hS hI hJ (by omega) hw).mpr (by rw [Int.toNat_natCast]; exact h0))
  have v0 := ha.vs (x := (w : Int)) (by omega) hw hI
  unfold p_X8_bell r_X8_bell w_X8_bell
  rw [if_neg w1, if_neg w1, if_neg w1, if_pos w2, if_pos w2, if_pos w2]
  obtain ⟨f1, f2, f3, f4⟩ := r_fill hT ha hS hI hJ (iI (w : Int))
  rw [f4] at f3 ⊢
  dsimp only
  have F1 : Fq (fun a k => a = 618) M (runI M 618 0 (T 0 2).toNat (fun j => iI (nd1 T S j))) := Fq.run Fq.rf (fun k h1 h2 => rfl)
  have t18 : ∀ j, j < (T 0 2).toNat → (runI M 618 0 (T 0 2).toNat (fun j => iI (nd1 T S j))).1 618 j = iI (nd1 T S j) := fun j hj => by
    rw [runI_y (by omega) (by omega)]
    rfl
  generalize runI M 618 0 (T 0 2).toNat (fun j => iI (nd1 T S j)) = M1 at f3 F1 t18 ⊢
  have T1 : RT M1 T := hT.fq F1 (fun a k h => by omega)
  have S1 : RS M1 0 T S := hS.fq hI F1 (fun k h1 h2 => by omega)
  have g1 : M1.1 600 2 ≤ iI (T 0 2) := by rw [T1.1.2.2]; exact Int32.le_refl _
  rw [if_pos g1, if_pos g1, if_pos g1]
  obtain ⟨l1, l2, l3, l4, -, -, -, l8, -⟩ := r_lends T1 S1 hI
  have F2 := lends_q T1 S1 hI
  have t18' : ∀ j, j < (T 0 2).toNat → (w_X8_lends M1).1 618 j = iI (nd1 T S j) := fun j hj => by rw [l8 618 (by omega) (by omega)]; exact t18 j hj
  generalize w_X8_lends M1 = M2 at l2 l3 l4 F2 t18' ⊢
  obtain ⟨r1, r2, r3, D, d1, d3, d5⟩ := r_rounds (p := (S, nd1 T S)) l2 l3 l4 hI (nd1_BI (C := 900000) hI hJ (by omega) (by omega)) (by omega) t18' hw lo hi
  have cn : cntN (fun k => c_X8_bell_61 (iI (w : Int)) (l_X8_bell_61 (iI (w : Int)) (M2, iI (T 0 2)) k)) 2001 = m := cntN_eq (by omega) r1 r3
  rw [cn, d1]
  rw [d1] at r3
  dsimp only
  have n9 : Int32.toNatClampNeg (iI 22 + 9 + iI (w : Int)) = 22 + 9 + w := by rw [cl9, iI_add, iI_add]; exact natk (by omega) (by omega)
  have v9 : vp_in (iI 22 + 9 + iI (w : Int)) 44 := by rw [cl9, iI_add, iI_add]; exact vin_iI (by omega) (by omega) (by omega)
  have n15 : Int32.toNatClampNeg (iI 22 + 15 + iI (w : Int)) = 22 + 15 + w := by rw [cl15, iI_add, iI_add]; exact natk (by omega) (by omega)
  have v15 : vp_in (iI 22 + 15 + iI (w : Int)) 44 := by rw [cl15, iI_add, iI_add]; exact vin_iI (by omega) (by omega) (by omega)
  have a10 : D.1 600 10 = iI 22 := (l3.fq d5 (by omega)).1
  have s3 := d3.2.2.1 (w : Int) (by omega) hw
  have s4 := d3.2.2.2.1 (w : Int) (by omega) hw
  rw [Int.toNat_natCast] at s3 s4
  have b3 := ((nd1_BI (C := 900000) hI hJ (by omega) (by omega)).run (r := true) hI m).1.2.2.1 (w : Int) (by omega) hw
  rw [Int.toNat_natCast] at b3
  have z : ¬ (iI ((bRun true T (T 0 2).toNat (S, nd1 T S) m).1 2 w) = (0 : Int32)) := by
    rw [cl0, iI_eq (by omega) (by omega) (by omega) (by omega)]
    exact hi
  rw [a10, n9, n15, s3, s4, if_pos z, if_pos z, if_pos z]
  exact ⟨⟨v0, f1, f2, f3, l1, r1, r2, r3, v9, v15, trivial⟩, rfl, fq_at0 (((F1.mono (fun a k h => by omega)).tr (F2.mono (fun a k h => by omega))).tr (d5.mono (fun a k h => by omega))) ha.1⟩
theorem pair_bell (h : Rel M n) (hn : n < 64) (a1 : Int32) : PairI (p_X7_bell M a1) (p_X8_bell (w_X7_bell M a1) a1) (r_X7_bell M a1) (r_X8_bell (w_X7_bell M a1) a1) (w_X8_bell (w_X7_bell M a1) a1) n := by
  obtain ⟨x, rfl, x1, x2⟩ := ex_iI a1
  obtain ⟨T, S, g, ⟨c1, c2, c3, c4⟩, ⟨r1, r2, r3, r4, r5⟩, i1, i2, i3, i4, i5⟩ := h.1
  have hc := i1.1
  have h6 : (M.1 100 2).toInt ≤ 6 := by rw [c1.1.2.2, iI_toInt (by omega) (by omega)]; omega
  have op := c_open c1 c2 i1 i3 x1 x2
  by_cases c : (0 ≤ x ∧ x < T 0 2) ∧ S 2 x.toNat = 0
  · obtain ⟨w, rfl⟩ : ∃ w : Nat, x = (w : Int) := ⟨x.toNat, by omega⟩
    have h0 : S 2 w = 0 := by have := c.2; rw [Int.toNat_natCast] at this; exact this
    have q7 := b2i_1.mpr (op.mpr c)
    obtain ⟨-, hB⟩ := nd0_BI (C := 900000) i1 i3 (by omega) (by omega)
    have nn : ∀ j, 0 ≤ (S, nd0 T S).2 j := fun j => by
      show 0 ≤ nd0 T S j
      unfold nd0
      split
      · exact (aMin_le i1 i3 (by omega)).1
      · omega
    obtain ⟨j0, j1, j2, j3, j4⟩ := bell_ends (r := false) i1 nn rfl (w := w) (by omega) h0 hB
    have ev := fun j => eqv.run (T := T) (n := (T 0 2).toNat) (nd_eqv (T := T) (S := S)) j
    obtain ⟨m, rfl⟩ : ∃ m, j0 = m + 1 := ⟨j0 - 1, by omega⟩
    obtain ⟨y1, y2, y3⟩ := c_bell c1 c2 i1 i3 (by omega) c.1.2 (m := m) (by omega) (fun j hj => j3 j (by omega)) j4
    unfold p_X7_bell r_X7_bell w_X7_bell
    rw [if_neg q7, if_neg q7, if_neg q7]
    generalize w_X2_endByTheBell M (iI (w : Int)) = M1 at y3 ⊢
    obtain ⟨z1, z2, z3⟩ := r_bell (r1.fq y3 (fun a k h => by omega)) (r3.fq y3 (by omega)) (r2.fq i1 y3 (fun k h1 h2 => by omega)) i1 i3 (by omega) c.1.2 h0 (m := m + 1) (by omega) (fun j hj => by rw [← (ev j).1 2 w (by omega)]; exact j3 j hj) (by rw [← (ev (m + 1)).1 2 w (by omega)]; exact j4)
    exact ⟨⟨h6, y1, trivial⟩, z1, by rw [y2, z2, (ev (m + 1)).2.1 w j4], h.scr (by omega) (y3.tr z3)⟩
  · have q7 := b2i_0.mpr (fun u => c (op.mp u))
    unfold p_X7_bell r_X7_bell w_X7_bell p_X8_bell r_X8_bell w_X8_bell
    rw [if_pos q7, if_pos q7, if_pos q7]
    by_cases e : 0 ≤ x ∧ x < T 0 2
    · have w1 : ¬ b2i (0 ≤ iI x ∧ iI x ≤ M.1 600 2 - 1) = 0 := b2i_1.mpr ((r_isWork r1 i1 x1 x2).mpr e)
      have w2 := not_not_intro (b2i_0.mpr (fun u => c ⟨e, (r_open r3 r2 i1 i3 e.1 e.2).mp u⟩))
      rw [if_neg w1, if_neg w1, if_neg w1, if_neg w2, if_neg w2, if_neg w2]
      exact ⟨⟨h6, trivial⟩, ⟨r3.vs e.1 e.2 i1, trivial⟩, rfl, h.up (by omega)⟩
    · have w1 := b2i_0.mpr (fun u => e ((r_isWork r1 i1 x1 x2).mp u))
      rw [if_pos w1, if_pos w1, if_pos w1]
      exact ⟨⟨h6, trivial⟩, trivial, rfl, h.up (by omega)⟩
end P72
