/-! the bell: the class's rounds -/
section P70
variable {M A : Mm} {T S : Tw} {mb C : Int} {p : Bs} {w : Nat}
theorem cl2000 : (2000 : Int32) = iI 2000 := by decide
/-- the rounds until the work ends -/
theorem c_rounds (hT : CT M 100 T) (hS : CSt M 1030 T p.1) (hI : InvT T) (hB : BI T C p) (hC : C ≤ 900000) (h13 : ∀ j, j < (T 0 2).toNat → M.1 513 j = iI (p.2 j)) (hw : (w : Int) < T 0 2) {m : Nat} (hm : m < 2000) (lo : ∀ j, j ≤ m → (bRun false T (T 0 2).toNat p j).1 2 w = 0) (hi : (bRun false T (T 0 2).toNat p (m + 1)).1 2 w ≠ 0) :
    (∀ k, k < m → c_X2_endByTheBell_60 (iI (w : Int)) (l_X2_endByTheBell_60 (iI (w : Int)) (M, 0) k)) ∧ (∀ k, k < m → q_X2_endByTheBell_60 (iI (w : Int)) (l_X2_endByTheBell_60 (iI (w : Int)) (M, 0) k)) ∧ (¬ c_X2_endByTheBell_60 (iI (w : Int)) (l_X2_endByTheBell_60 (iI (w : Int)) (M, 0) m)) ∧
    ∃ D, l_X2_endByTheBell_60 (iI (w : Int)) (M, 0) m = (D, iI (m : Int)) ∧ CT D 100 T ∧ CSt D 1030 T (bRun false T (T 0 2).toNat p m).1 ∧ (∀ j, j < (T 0 2).toNat → D.1 513 j = iI ((bRun false T (T 0 2).toNat p m).2 j)) ∧ Fr (fun a => (1030 ≤ a ∧ a ≤ 1034) ∨ a = 513) M D := by
  have hc := hI.1
  have nw : Int32.toNatClampNeg (iI (w : Int)) = w := natk rfl (by omega)
  have vw : vp_in (iI (w : Int)) 6 := vin_iI (by omega) (by omega) (by omega)
  have one : ∀ (k : Nat) (D : Mm), k ≤ m → CSt D 1030 T (bRun false T (T 0 2).toNat p k).1 → (∀ j, j < (T 0 2).toNat → D.1 513 j = iI ((bRun false T (T 0 2).toNat p k).2 j)) → Fr (fun a => (1030 ≤ a ∧ a ≤ 1034) ∨ a = 513) M D →
      (c_X2_endByTheBell_60 (iI (w : Int)) (D, iI (k : Int)) ↔ k < m) ∧ q_X2_endByTheBell_60 (iI (w : Int)) (D, iI (k : Int)) ∧ (k < m → ∃ D', s_X2_endByTheBell_60 (iI (w : Int)) (D, iI (k : Int)) = (D', iI ((k + 1 : Nat) : Int)) ∧ CSt D' 1030 T (bRun false T (T 0 2).toNat p (k + 1)).1 ∧ (∀ j, j < (T 0 2).toNat → D'.1 513 j = iI ((bRun false T (T 0 2).toNat p (k + 1)).2 j)) ∧ Fr (fun a => (1030 ≤ a ∧ a ≤ 1034) ∨ a = 513) M D') := by
    intro k D hk k1 k2 k3
    have kT : CT D 100 T := hT.fp hI (fun a j h1 h2 => k3.at (by omega) j)
    have kB := hB.run (r := false) hI k
    obtain ⟨y1, y2, y3, E, e1, e2, e3, e4, e5⟩ := c_round kT k1 hI kB hC k2 (iI (w : Int)) (iI (k : Int))
    have g0 : ¬ (2000 : Int32) ≤ iI (k : Int) := by rw [cl2000, iI_le (by omega) (by omega) (by omega) (by omega)]; omega
    have gE : E.1 100 2 ≤ iI (T 0 2) := by rw [e2]; exact Int32.le_refl _
    have s3 := e3.2.2.1 (w : Int) (by omega) hw
    rw [Int.toNat_natCast] at s3
    have s3' : E.1 1033 w = iI ((bRun false T (T 0 2).toNat p (k + 1)).1 2 w) := s3
    have b3 := (hB.run (r := false) hI (k + 1)).1.2.2.1 (w : Int) (by omega) hw
    rw [Int.toNat_natCast] at b3
    have z : (iI ((bRun false T (T 0 2).toNat p (k + 1)).1 2 w) = (0 : Int32)) ↔ k < m := by
      rw [cl0, iI_eq (by omega) (by omega) (by omega) (by omega)]
      refine ⟨fun u => ?_, fun u => lo (k + 1) (by omega)⟩
      rcases Nat.lt_or_ge k m with q | q
      · exact q
      · have : k = m := by omega
        rw [this] at u
        exact absurd u hi
    unfold c_X2_endByTheBell_60 q_X2_endByTheBell_60 s_X2_endByTheBell_60
    dsimp only
    rw [e1] at y3
    rw [if_neg g0, if_neg g0, if_neg g0, e1]
    dsimp only
    rw [if_pos gE, if_pos gE, if_pos gE, nw, s3']
    refine ⟨?_, ⟨y1, y2, y3, vw, by split <;> trivial⟩, fun q => ⟨E, ?_, e3, e4, k3.tr e5⟩⟩
    · by_cases q : k < m
      · rw [if_pos (z.mpr q)]
        exact ⟨fun _ => q, fun _ => trivial⟩
      · rw [if_neg (fun u => q (z.mp u))]
        exact ⟨fun u => u.elim, fun u => absurd u q⟩
    · rw [if_pos (z.mpr q), k1_iI]
  have key : ∀ k, k ≤ m → ∃ D, l_X2_endByTheBell_60 (iI (w : Int)) (M, 0) k = (D, iI (k : Int)) ∧ CSt D 1030 T (bRun false T (T 0 2).toNat p k).1 ∧ (∀ j, j < (T 0 2).toNat → D.1 513 j = iI ((bRun false T (T 0 2).toNat p k).2 j)) ∧ Fr (fun a => (1030 ≤ a ∧ a ≤ 1034) ∨ a = 513) M D := by
    intro k
    induction k with
    | zero => intro _; exact ⟨M, rfl, hS, h13, Fr.rf⟩
    | succ k ih =>
      intro hk
      obtain ⟨D, h1, h2, h3, h5⟩ := ih (by omega)
      obtain ⟨D', g1, g2⟩ := (one k D (by omega) h2 h3 h5).2.2 (by omega)
      refine ⟨D', ?_, g2⟩
      show s_X2_endByTheBell_60 (iI (w : Int)) (l_X2_endByTheBell_60 (iI (w : Int)) (M, 0) k) = _
      rw [h1]; exact g1
  refine ⟨fun k hk => ?_, fun k hk => ?_, ?_, ?_⟩
  · obtain ⟨D, h1, h2, h3, h5⟩ := key k (by omega)
    rw [h1]; exact (one k D (by omega) h2 h3 h5).1.mpr hk
  · obtain ⟨D, h1, h2, h3, h5⟩ := key k (by omega)
    rw [h1]; exact (one k D (by omega) h2 h3 h5).2.1
  · obtain ⟨D, h1, h2, h3, h5⟩ := key m (Nat.le_refl _)
    rw [h1]; exact fun u => absurd ((one m D (Nat.le_refl _) h2 h3 h5).1.mp u) (Nat.lt_irrefl _)
  · obtain ⟨D, h1, h2, h3, h5⟩ := key m (Nat.le_refl _)
    exact ⟨D, h1, hT.fp hI (fun a j h1 h2 => h5.at (by omega) j), h2, h3, h5⟩
/-- the minutes, filled in -/
theorem c_fill (hT : CT M 100 T) (hS : CSt M 1000 T S) (hI : InvT T) (hJ : InvS T S mb) (a1 : Int32) :
    (∀ k, k < Int32.toNatClampNeg (M.1 100 2) → c_X2_endByTheBell_2 a1 (l_X2_endByTheBell_2 a1 (M, 0) k)) ∧ (∀ k, k < Int32.toNatClampNeg (M.1 100 2) → q_X2_endByTheBell_2 a1 (l_X2_endByTheBell_2 a1 (M, 0) k)) ∧ (¬ c_X2_endByTheBell_2 a1 (l_X2_endByTheBell_2 a1 (M, 0) (Int32.toNatClampNeg (M.1 100 2)))) ∧
    l_X2_endByTheBell_2 a1 (M, 0) (Int32.toNatClampNeg (M.1 100 2)) = (runI M 513 0 (T 0 2).toNat (fun j => iI (aMin T S j)), iI (T 0 2)) := by
  have hc := hI.1
  have hN : Int32.toNatClampNeg (M.1 100 2) = (T 0 2).toNat := by rw [hT.1.2.2, iI_nat (by omega) (by omega)]
  rw [hN]
  have w2 : ∀ k, (runI M 513 0 k (fun j => iI (aMin T S j))).1 100 2 = iI (T 0 2) := fun k => by rw [runI_n (Or.inl (by omega))]; exact hT.1.2.2
  have step : ∀ k : Nat, k < (T 0 2).toNat → c_X2_endByTheBell_2 a1 (runI M 513 0 k (fun j => iI (aMin T S j)), iI (k : Int)) ∧ q_X2_endByTheBell_2 a1 (runI M 513 0 k (fun j => iI (aMin T S j)), iI (k : Int)) ∧ s_X2_endByTheBell_2 a1 (runI M 513 0 k (fun j => iI (aMin T S j)), iI (k : Int)) = (runI M 513 0 (k + 1) (fun j => iI (aMin T S j)), iI ((k + 1 : Nat) : Int)) := by
    intro k hk
    have kT : CT (runI M 513 0 k (fun j => iI (aMin T S j))) 100 T := hT.fp hI (fun a j h1 h2 => runI_n (Or.inl (by omega)))
    have kS : CSt (runI M 513 0 k (fun j => iI (aMin T S j))) 1000 T S := hS.fp (fun a j h1 h2 => runI_n (Or.inl (by omega)))
    obtain ⟨m1, m2, m3⟩ := c_min kT kS hI hJ (w := k) (by omega)
    have nk : Int32.toNatClampNeg (iI (k : Int)) = k := natk rfl (by omega)
    have vk : vp_in (iI (k : Int)) 6 := vin_iI (by omega) (by omega) (by omega)
    have hlt : ¬ (runI M 513 0 k (fun j => iI (aMin T S j))).1 100 2 ≤ iI (k : Int) := by rw [w2, iI_le (by omega) (by omega) (by omega) (by omega)]; omega
    unfold c_X2_endByTheBell_2 q_X2_endByTheBell_2 s_X2_endByTheBell_2
    dsimp only
    rw [if_neg hlt, if_neg hlt, if_neg hlt, m2, m3, nk, k1_iI]
    refine ⟨trivial, ⟨m1, vk, trivial⟩, ?_⟩
    have := runI_s M 513 0 k (fun j => iI (aMin T S j))
    rw [Nat.zero_add] at this
    rw [← this]
  have key : ∀ k : Nat, k ≤ (T 0 2).toNat → l_X2_endByTheBell_2 a1 (M, 0) k = (runI M 513 0 k (fun j => iI (aMin T S j)), iI (k : Int)) := by
    intro k
    induction k with
    | zero => intro _; rw [runI_0]; rfl
    | succ k ih =>
      intro hk
      show s_X2_endByTheBell_2 a1 (l_X2_endByTheBell_2 a1 (M, 0) k) = _
      rw [ih (by omega)]; exact (step k (by omega)).2.2
  have e : (((T 0 2).toNat : Nat) : Int) = T 0 2 := by omega
  have last := key _ (Nat.le_refl _)
  rw [e] at last
  refine ⟨fun k hk => ?_, fun k hk => ?_, ?_, last⟩
  · rw [key k (by omega)]; exact (step k hk).1
  · rw [key k (by omega)]; exact (step k hk).2.1
  · rw [last]
    unfold c_X2_endByTheBell_2
    dsimp only
    rw [w2, if_pos (Int32.le_refl _)]
    exact fun h => h
theorem c_bell (hT : CT M 100 T) (hS : CSt M 1000 T S) (hI : InvT T) (hJ : InvS T S mb) (hmb : mb ≤ 800000) (hw : (w : Int) < T 0 2) {m : Nat} (hm : m < 2000) (lo : ∀ j, j ≤ m → (bRun false T (T 0 2).toNat (S, nd0 T S) j).1 2 w = 0) (hi : (bRun false T (T 0 2).toNat (S, nd0 T S) (m + 1)).1 2 w ≠ 0) :
    p_X2_endByTheBell M (iI (w : Int)) ∧ r_X2_endByTheBell M (iI (w : Int)) = iI ((bRun false T (T 0 2).toNat (S, nd0 T S) (m + 1)).1 3 w) ∧ Fq Qz M (w_X2_endByTheBell M (iI (w : Int))) := by
  have hc := hI.1
  have nw : Int32.toNatClampNeg (iI (w : Int)) = w := natk rfl (by omega)
  have vw : vp_in (iI (w : Int)) 6 := vin_iI (by omega) (by omega) (by omega)
  obtain ⟨f1, f2, f3, f4⟩ := c_fill hT hS hI hJ (iI (w : Int))
  unfold p_X2_endByTheBell r_X2_endByTheBell w_X2_endByTheBell
  rw [f4] at f3 ⊢
  dsimp only
  have F1 : Fq Qz M (runI M 513 0 (T 0 2).toNat (fun j => iI (aMin T S j))) := Fq.run Fq.rf (fun k h1 h2 => by omega)
  have t13 : ∀ j, j < (T 0 2).toNat → (runI M 513 0 (T 0 2).toNat (fun j => iI (aMin T S j))).1 513 j = iI (nd0 T S j) := fun j hj => by
    rw [runI_y (by omega) (by omega)]
    unfold nd0
    rw [if_pos hj]
    rfl
  generalize runI M 513 0 (T 0 2).toNat (fun j => iI (aMin T S j)) = M1 at f3 F1 t13 ⊢
  have T1 : CT M1 100 T := hT.fq hI F1 (fun a k h1 h2 => by omega)
  have S1 : CSt M1 1000 T S := hS.fq F1 (fun a k h1 h2 => by omega)
  obtain ⟨b1, -, -, b4⟩ := c_begin (A := M1) (s := 1030) (s1 := 1000) (Or.inr (by omega)) hI S1
  have F2 : Fq Qz M (w_X3_beginFrom M1 1030 1000) := F1.tr (b4.q (fun a k h => by omega) (fun a h => by omega))
  have t13' : ∀ j, j < (T 0 2).toNat → (w_X3_beginFrom M1 1030 1000).1 513 j = iI (nd0 T S j) := fun j hj => by rw [b4.at (by omega)]; exact t13 j hj
  have T2 : CT (w_X3_beginFrom M1 1030 1000) 100 T := hT.fq hI F2 (fun a k h1 h2 => by omega)
  generalize w_X3_beginFrom M1 1030 1000 = M2 at b1 F2 t13' T2 ⊢
  obtain ⟨hB, -⟩ := nd0_BI (C := 900000) hI hJ (by omega) (by omega)
  obtain ⟨r1, r2, r3, D, d1, d2, d3, d4, d5⟩ := c_rounds (p := (S, nd0 T S)) T2 b1 hI hB (by omega) t13' hw hm lo hi
  have cn : cntN (fun k => c_X2_endByTheBell_60 (iI (w : Int)) (l_X2_endByTheBell_60 (iI (w : Int)) (M2, 0) k)) 2001 = m := cntN_eq (by omega) r1 r3
  have g1 : M1.1 100 2 ≤ iI (T 0 2) := by rw [T1.1.2.2]; exact Int32.le_refl _
  rw [if_pos g1, if_pos g1, if_pos g1, cn, d1]
  rw [d1] at r3
  dsimp only
  have g0 : ¬ (2000 : Int32) ≤ iI (m : Int) := by rw [cl2000, iI_le (by omega) (by omega) (by omega) (by omega)]; omega
  rw [if_neg g0, if_neg g0, if_neg g0]
  obtain ⟨y1, y2, y3, E, e1, e2, e3, e4, e5⟩ := c_round d2 d3 hI (hB.run (r := false) hI m) (by omega) d4 (iI (w : Int)) (iI (m : Int))
  rw [e1] at y3
  rw [e1]
  dsimp only
  have gE : E.1 100 2 ≤ iI (T 0 2) := by rw [e2]; exact Int32.le_refl _
  have s3 := e3.2.2.1 (w : Int) (by omega) hw
  have s4 := e3.2.2.2.1 (w : Int) (by omega) hw
  rw [Int.toNat_natCast] at s3 s4
  have s3' : E.1 1033 w = iI ((bRun false T (T 0 2).toNat (S, nd0 T S) (m + 1)).1 2 w) := s3
  have s4' : E.1 1034 w = iI ((bRun false T (T 0 2).toNat (S, nd0 T S) (m + 1)).1 3 w) := s4
  have b3 := (hB.run (r := false) hI (m + 1)).1.2.2.1 (w : Int) (by omega) hw
  rw [Int.toNat_natCast] at b3
  have z : ¬ (iI ((bRun false T (T 0 2).toNat (S, nd0 T S) (m + 1)).1 2 w) = (0 : Int32)) := by
    rw [cl0, iI_eq (by omega) (by omega) (by omega) (by omega)]
    exact hi
  rw [if_pos gE, if_pos gE, if_pos gE, nw, s3', if_neg z, if_neg z, if_neg z]
  exact ⟨⟨f1, f2, f3, r1, r2, r3, y1, y2, y3, vw, vw, trivial⟩, s4', (F2.tr (d5.q (fun a k h => by omega) (fun a h => by omega))).tr (e5.q (fun a k h => by omega) (fun a h => by omega))⟩
end P70
