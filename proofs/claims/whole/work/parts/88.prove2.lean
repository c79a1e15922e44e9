/-! prove: the reference, the pair -/
section P88
variable {M : Mm} {T S : Tw} {mb : Int} {len n : Nat} {ord : Nat → Nat}
theorem r_copy4 {D : Mm} (hl : len ≤ 6) : (∀ k, k < len → c_X8_prove_7 (iI (len : Int)) (l_X8_prove_7 (iI (len : Int)) (D, 0) k)) ∧ (∀ k, k < len → q_X8_prove_7 (iI (len : Int)) (l_X8_prove_7 (iI (len : Int)) (D, 0) k)) ∧ (¬ c_X8_prove_7 (iI (len : Int)) (l_X8_prove_7 (iI (len : Int)) (D, 0) len)) ∧ l_X8_prove_7 (iI (len : Int)) (D, 0) len = (runI D 614 0 len (fun j => D.1 615 j), iI (len : Int)) := by
  have step : ∀ k : Nat, k < len → c_X8_prove_7 (iI (len : Int)) (runI D 614 0 k (fun j => D.1 615 j), iI (k : Int)) ∧ q_X8_prove_7 (iI (len : Int)) (runI D 614 0 k (fun j => D.1 615 j), iI (k : Int)) ∧ s_X8_prove_7 (iI (len : Int)) (runI D 614 0 k (fun j => D.1 615 j), iI (k : Int)) = (runI D 614 0 (k + 1) (fun j => D.1 615 j), iI ((k + 1 : Nat) : Int)) := by
    intro k hk
    have nk : Int32.toNatClampNeg (iI (k : Int)) = k := natk rfl (by omega)
    have vk : vp_in (iI (k : Int)) 6 := vin_iI (by omega) (by omega) (by omega)
    have g : ¬ iI (len : Int) ≤ iI (k : Int) := by rw [iI_le (by omega) (by omega) (by omega) (by omega)]; omega
    have e : (runI D 614 0 k (fun j => D.1 615 j)).1 615 k = D.1 615 k := runI_n (Or.inl (by omega))
    have this := runI_s D 614 0 k (fun j => D.1 615 j)
    rw [Nat.zero_add] at this
    unfold c_X8_prove_7 q_X8_prove_7 s_X8_prove_7
    dsimp only
    rw [if_neg g, if_neg g, if_neg g, nk, k1_iI, e, ← this]
    exact ⟨trivial, ⟨vk, vk, trivial⟩, rfl⟩
  have key : ∀ k : Nat, k ≤ len → l_X8_prove_7 (iI (len : Int)) (D, 0) k = (runI D 614 0 k (fun j => D.1 615 j), iI (k : Int)) := by
    intro k
    induction k with
    | zero => intro _; rw [runI_0]; rfl
    | succ k ih =>
      intro hk
      show s_X8_prove_7 (iI (len : Int)) (l_X8_prove_7 (iI (len : Int)) (D, 0) k) = _
      rw [ih (by omega)]; exact (step k (by omega)).2.2
  refine ⟨fun k hk => ?_, fun k hk => ?_, ?_, key len (Nat.le_refl _)⟩
  · rw [key k (by omega)]; exact (step k hk).1
  · rw [key k (by omega)]; exact (step k hk).2.1
  · rw [key len (Nat.le_refl _)]
    unfold c_X8_prove_7
    dsimp only
    rw [if_pos (Int32.le_refl _)]
    exact fun h => h
theorem r_rows {D : Mm} (hl : len ≤ 6) (ho : ∀ i, i < len → ord i < 6 ∧ D.1 614 i = iI ((ord i : Nat) : Int)) (h16 : ∀ i, i < len → D.1 616 (ord i) = iI (aRun T S ord 0 (i + 1) 4 0) ∧ D.1 617 (ord i) = iI (aWorth T (aRun T S ord 0 i) (ord i))) :
    (∀ k, k < len → c_X8_prove_48 (iI (len : Int)) (l_X8_prove_48 (iI (len : Int)) (D, 0) k)) ∧ (∀ k, k < len → q_X8_prove_48 (iI (len : Int)) (l_X8_prove_48 (iI (len : Int)) (D, 0) k)) ∧ (¬ c_X8_prove_48 (iI (len : Int)) (l_X8_prove_48 (iI (len : Int)) (D, 0) len)) ∧ ∃ E, l_X8_prove_48 (iI (len : Int)) (D, 0) len = (E, iI (len : Int)) ∧ (∀ j, j < 3 * len → E.1 619 j = rw3 T S ord j) ∧ Fq (fun a k => a = 619) D E := by
  have step : ∀ (k : Nat) (E : Mm), k < len → (∀ j, j < 3 * k → E.1 619 j = rw3 T S ord j) → Fq (fun a k => a = 619) D E → c_X8_prove_48 (iI (len : Int)) (E, iI (k : Int)) ∧ q_X8_prove_48 (iI (len : Int)) (E, iI (k : Int)) ∧ ∃ E', s_X8_prove_48 (iI (len : Int)) (E, iI (k : Int)) = (E', iI ((k + 1 : Nat) : Int)) ∧ (∀ j, j < 3 * (k + 1) → E'.1 619 j = rw3 T S ord j) ∧ Fq (fun a k => a = 619) D E' := by
    intro k E hk k2 k3
    obtain ⟨n0, n1, n2, v0, v1, v2⟩ := jm3 (j := k) (by omega)
    obtain ⟨o1, o2⟩ := ho k hk
    obtain ⟨p1, p2⟩ := h16 k hk
    have nk : Int32.toNatClampNeg (iI (k : Int)) = k := natk rfl (by omega)
    have vk : vp_in (iI (k : Int)) 6 := vin_iI (by omega) (by omega) (by omega)
    have no : Int32.toNatClampNeg (iI ((ord k : Nat) : Int)) = ord k := natk rfl (by omega)
    have vo : vp_in (iI ((ord k : Nat) : Int)) 6 := vin_iI (by omega) (by omega) (by omega)
    have g : ¬ iI (len : Int) ≤ iI (k : Int) := by rw [iI_le (by omega) (by omega) (by omega) (by omega)]; omega
    have e4 : E.1 614 k = iI ((ord k : Nat) : Int) := by rw [k3.1 _ _ (by omega)]; exact o2
    have e6 : E.1 616 (ord k) = iI (aRun T S ord 0 (k + 1) 4 0) := by rw [k3.1 _ _ (by omega)]; exact p1
    have e7 : E.1 617 (ord k) = iI (aWorth T (aRun T S ord 0 k) (ord k)) := by rw [k3.1 _ _ (by omega)]; exact p2
    unfold c_X8_prove_48 q_X8_prove_48 s_X8_prove_48
    dsimp only
    rw [if_neg g, if_neg g, if_neg g, nk, e4, no, e6, e7, n0, n1, n2, k1_iI]
    exact ⟨trivial, ⟨vk, v0, vk, vo, v1, vk, vo, v2, trivial⟩, _, rfl, row_w k2, Fq.wi (Fq.wi (Fq.wi k3 (by omega)) (by omega)) (by omega)⟩
  have key : ∀ k : Nat, k ≤ len → ∃ E, l_X8_prove_48 (iI (len : Int)) (D, 0) k = (E, iI (k : Int)) ∧ (∀ j, j < 3 * k → E.1 619 j = rw3 T S ord j) ∧ Fq (fun a k => a = 619) D E := by
    intro k
    induction k with
    | zero => intro _; exact ⟨D, rfl, fun j hj => absurd hj (Nat.not_lt_zero j), Fq.rf⟩
    | succ k ih =>
      intro hk
      obtain ⟨E, d1, d2, d3⟩ := ih (by omega)
      obtain ⟨-, -, E', g1, g2⟩ := step k E (by omega) d2 d3
      refine ⟨E', ?_, g2⟩
      show s_X8_prove_48 (iI (len : Int)) (l_X8_prove_48 (iI (len : Int)) (D, 0) k) = _
      rw [d1]; exact g1
  refine ⟨fun k hk => ?_, fun k hk => ?_, ?_, key len (Nat.le_refl _)⟩
  · obtain ⟨E, g1, g2, g3⟩ := key k (by omega)
    rw [g1]
    exact (step k E hk g2 g3).1
  · obtain ⟨E, g1, g2, g3⟩ := key k (by omega)
    rw [g1]
    exact (step k E hk g2 g3).2.1
  · obtain ⟨E, g1, g2, g3⟩ := key len (Nat.le_refl _)
    rw [g1]
    unfold c_X8_prove_48
    dsimp only
    rw [if_pos (Int32.le_refl _)]
    exact fun h => h
theorem pair_prove (h : Rel M n) (hn : n < 64) : PairI (p_X7_prove M) (p_X8_prove (w_X7_prove M)) (r_X7_prove M) (r_X8_prove (w_X7_prove M)) (w_X8_prove (w_X7_prove M)) n := by
  obtain ⟨T, S, b, len, hlen, eb, ⟨c1, c2, i1, i3, r1, r2, r3⟩, l6, ⟨y1, ⟨y0, y2, y3, y4, y5⟩, y6⟩, z⟩ := search2 h hn
  have hc := i1.1
  rw [eb] at y0
  obtain ⟨gd, ok⟩ := best_ok i1 hlen y0
  rw [← eb] at gd ok y0
  obtain ⟨g1, g2, g3⟩ := gd1_u gd
  have ho : ∀ i, i < len → ((toF b.2.1 i : Nat) : Int) < T 0 2 := fun i hi => by
    obtain ⟨a, -⟩ := (oMask_bit S (T 0 2).toNat _).mp (g2 i hi).2
    omega
  unfold p_X7_prove r_X7_prove w_X7_prove p_X7_prove_7 r_X7_prove_7 w_X7_prove_7
  generalize w_X2_search M = M1 at y2 y3 y4 y5 y6 ⊢
  obtain ⟨q1, q2, q3, q4⟩ := c_rows (M := M1) (ord := toF b.2.1) (c1.fq i1 y6 (fun a k h1 h2 => by omega)) (c2.fq y6 (fun a k h1 h2 => by omega)) i1 i3 (by omega) hlen ho ok y3
  rw [q2]
  have G2 : Fq (fun a k => Qz a k ∨ (a = 1 ∧ k = 8) ∨ (a = 600 ∧ k = 42) ∨ a = 550 ∨ a = 619) M (wi (w_X2_writeBestRows M1) 1 8 (iI (len : Int))) := Fq.wi ((y6.mono (fun a k h => Or.inl h)).tr (q4.mono (fun a k h => by omega))) (by omega)
  have w18 : (wi (w_X2_writeBestRows M1) 1 8 (iI (len : Int))).1 1 8 = iI (len : Int) := rd_same ..
  have w550 : ∀ j, j < 3 * len → (wi (w_X2_writeBestRows M1) 1 8 (iI (len : Int))).1 550 j = rw3 T S (toF b.2.1) j := fun j hj => by rw [rd_ne (Or.inl (by omega))]; exact q3 j hj
  generalize wi (w_X2_writeBestRows M1) 1 8 (iI (len : Int)) = M2 at G2 w18 w550 ⊢
  rw [w18]
  have R1 : RT M2 T := r1.fq G2 (fun a k h => by omega)
  have R2 : RS M2 0 T S := r2.fq i1 G2 (fun k h1 h2 => by omega)
  have R3 : RA M2 0 := r3.fq G2 (by omega)
  obtain ⟨z1, z2, zB, z7⟩ := r_find R1 R3 R2 i1 i3 (by omega) hlen
  rw [← eb] at zB
  obtain ⟨-, z6, -⟩ := zB
  unfold p_X8_prove r_X8_prove w_X8_prove
  have nl : Int32.toNatClampNeg (iI (len : Int)) = len := natk rfl (by omega)
  rw [z2, nl]
  generalize w_X8_findBest M2 = M3 at z6 z7 ⊢
  obtain ⟨k1, k2, k3, k4⟩ := r_copy4 (D := M3) l6
  rw [k4] at k3 ⊢
  dsimp only
  have gE : iI (len : Int) ≤ iI (len : Int) := Int32.le_refl _
  rw [if_pos gE, if_pos gE, if_pos gE]
  have o14 : ∀ i, i < len → (runI M3 614 0 len (fun j => M3.1 615 j)).1 614 i = iI ((toF b.2.1 i : Nat) : Int) := fun i hi => by
    rw [runI_y (by omega) (by omega)]
    show M3.1 615 (i - 0) = _
    rw [Nat.sub_zero]
    exact z6 y0 i hi
  have F4 : Fq Qz M2 (runI M3 614 0 len (fun j => M3.1 615 j)) := Fq.run z7 (fun k h1 h2 => by omega)
  generalize runI M3 614 0 len (fun j => M3.1 615 j) = M4 at k3 k4 o14 F4 ⊢
  obtain ⟨v1, va, v2, v3, v4, v5, F5⟩ := r_run (M := M4) (R1.fq F4 (fun a k h => by omega)) (R2.fq i1 F4 (fun k h1 h2 => by omega)) i1 i3 (by omega) (ord := toF b.2.1) (len := len) (calls := 0) l6 (by omega) (fun i hi => ⟨ho i hi, o14 i hi⟩) g3
  change p_X8_goesThrough M4 (iI (len : Int)) 0 at v1
  change ∀ i, i < len → (w_X8_goesThrough M4 (iI (len : Int)) 0).1 616 _ = _ ∧ (w_X8_goesThrough M4 (iI (len : Int)) 0).1 617 _ = _ at v5
  change Fq _ M4 (w_X8_goesThrough M4 (iI (len : Int)) 0) at F5
  have F6 : Fq (fun a k => Qz a k ∨ (a = 600 ∧ k = 42)) M2 (wi (wi (w_X8_goesThrough M4 (iI (len : Int)) 0) 600 10 0) 600 42 (iI (len : Int))) := Fq.wi ((fq_at0 ((F4.mono (fun a k h => Or.inl h)).tr (F5.mono (fun a k h => by omega))) R3.1).mono (fun a k h => Or.inl h)) (by omega)
  have m14 : ∀ i, i < len → toF b.2.1 i < 6 ∧ (wi (wi (w_X8_goesThrough M4 (iI (len : Int)) 0) 600 10 0) 600 42 (iI (len : Int))).1 614 i = iI ((toF b.2.1 i : Nat) : Int) := fun i hi => ⟨(g2 i hi).1, by rw [rd_ne (Or.inl (by omega)), rd_ne (Or.inl (by omega)), F5.1 _ _ (by omega)]; exact o14 i hi⟩
  have m16 : ∀ i, i < len → (wi (wi (w_X8_goesThrough M4 (iI (len : Int)) 0) 600 10 0) 600 42 (iI (len : Int))).1 616 (toF b.2.1 i) = iI (aRun T S (toF b.2.1) 0 (i + 1) 4 0) ∧ (wi (wi (w_X8_goesThrough M4 (iI (len : Int)) 0) 600 10 0) 600 42 (iI (len : Int))).1 617 (toF b.2.1 i) = iI (aWorth T (aRun T S (toF b.2.1) 0 i) (toF b.2.1 i)) := fun i hi => by
    obtain ⟨u1, u2⟩ := v5 i hi
    rw [aPre_z] at u2
    exact ⟨by rw [rd_ne (Or.inl (by omega)), rd_ne (Or.inl (by omega))]; exact u1, by rw [rd_ne (Or.inl (by omega)), rd_ne (Or.inl (by omega))]; exact u2⟩
  have m42 : (wi (wi (w_X8_goesThrough M4 (iI (len : Int)) 0) 600 10 0) 600 42 (iI (len : Int))).1 600 42 = iI (len : Int) := rd_same ..
  generalize wi (wi (w_X8_goesThrough M4 (iI (len : Int)) 0) 600 10 0) 600 42 (iI (len : Int)) = M5 at F6 m14 m16 m42 ⊢
  obtain ⟨t1, t2, t3, E, t4, t5, t6⟩ := r_rows (D := M5) (T := T) (S := S) l6 m14 m16
  rw [t4] at t3 ⊢
  dsimp only
  rw [if_pos gE, if_pos gE, if_pos gE]
  have e42 : E.1 600 42 = iI (len : Int) := by rw [t6.1 _ _ (by omega)]; exact m42
  have GE : Fq (fun a k => Qz a k ∨ (a = 1 ∧ k = 8) ∨ (a = 600 ∧ k = 42) ∨ a = 550 ∨ a = 619) M E := (G2.tr (F6.mono (fun a k h => by omega))).tr (t6.mono (fun a k h => by omega))
  have e18 : E.1 1 8 = iI (len : Int) := by rw [t6.1 _ _ (by omega), F6.1 _ _ (by omega)]; exact w18
  have e550 : ∀ j, j < 3 * len → E.1 550 j = E.1 619 j := fun j hj => by rw [t5 j hj, t6.1 _ _ (by omega), F6.1 _ _ (by omega)]; exact w550 j hj
  refine ⟨⟨y1, q1, trivial⟩, ⟨z1, k1, k2, k3, v1, t1, t2, t3, trivial⟩, e42.symm, ?_⟩
  exact h.ofq (by omega) GE (Or.inl fun a k h => by omega) (Or.inr ⟨len, l6, e18, e42, e550⟩) (Or.inl fun a k h => by omega) (fun a k h => by omega) (fun a k h => by omega) (fun a k h => by omega) (Or.inl fun a k h => by omega) (fun a k h => by omega)
end P88
