/-! the reference takes the town that was read -/
theorem for_it {s : Mm × Int32 → Mm × Int32} {M : Mm} (P : Nat → Mm → Prop) {N : Nat} (h0 : P 0 M) (hs : ∀ k D, k < N → P k D → ∃ D', s (D, iI (k : Int)) = (D', iI ((k + 1 : Nat) : Int)) ∧ P (k + 1) D') : ∀ k, k ≤ N → ∃ D, itN (fun _ σ => s σ) (M, 0) k = (D, iI (k : Int)) ∧ P k D
  | 0, _ => ⟨M, rfl, h0⟩
  | k + 1, h => by
    obtain ⟨D, h1, h2⟩ := for_it P h0 hs k (by omega)
    obtain ⟨D', h3, h4⟩ := hs k D (by omega) h2
    refine ⟨D', ?_, h4⟩
    show s (itN (fun _ σ => s σ) (M, 0) k) = _
    rw [h1, h3]
section PB0
variable {M : Mm} {b : Nat → Int} {tl e p : Nat} {T S : Tw}
theorem t121 : ∃ D, (p_X8_town_142 D 0 → p_X8_town_121 M 0) ∧ r_X8_town_121 M 0 = r_X8_town_142 D 0 ∧ w_X8_town_121 M 0 = w_X8_town_142 D 0 ∧ (∀ j, j < 22 → D.1 607 j = 0) ∧ Fq (fun a _ => a = 607) M D := by
  have one : ∀ (k : Nat) (D : Mm), k < 22 → ((∀ j, j < k → D.1 607 j = 0) ∧ Fq (fun a _ => a = 607) M D) → (c_X8_town_121 (D, iI (k : Int)) ∧ q_X8_town_121 (D, iI (k : Int))) ∧ s_X8_town_121 (D, iI (k : Int)) = (wi D 607 k 0, iI ((k + 1 : Nat) : Int)) := by
    intro k D hk hP
    have nk : Int32.toNatClampNeg (iI (k : Int)) = k := natk rfl (by omega)

    unfold c_X8_town_121 q_X8_town_121 s_X8_town_121
    dsimp only
    have ng : ¬ (22 : Int32) ≤ iI (k : Int) := by rw [show (22 : Int32) = iI 22 by decide, iI_le (by omega) (by omega) (by omega) (by omega)]; omega
    rw [if_neg ng, if_neg ng, if_neg ng, nk, k1_iI]
    exact ⟨⟨trivial, vin_iI (by omega) (by omega) (by omega), trivial⟩, rfl⟩
  have key := for_it (s := s_X8_town_121) (M := M) (N := 22) (fun k D => (∀ j, j < k → D.1 607 j = 0) ∧ Fq (fun a _ => a = 607) M D) ⟨fun j hj => absurd hj (Nat.not_lt_zero j), Fq.rf⟩ (fun k D hk hP => ⟨_, (one k D hk hP).2, fun j hj => by
    by_cases q : j = k
    · rw [q, rd_same]
    · rw [rd_ne (Or.inr q)]; exact hP.1 j (by omega), hP.2.wi rfl⟩)
  obtain ⟨D, d1, d2⟩ := key (22) (Nat.le_refl _)
  change l_X8_town_121 (M, 0) (22) = (D, iI ((22 : Nat) : Int)) at d1
  have cq : ∀ k, k < 22 → c_X8_town_121 (l_X8_town_121 (M, 0) k) ∧ q_X8_town_121 (l_X8_town_121 (M, 0) k) := fun k hk => by
    obtain ⟨D1, e1, e2⟩ := key k (by omega)
    change l_X8_town_121 (M, 0) k = (D1, iI (k : Int)) at e1
    rw [e1]
    exact (one k D1 hk e2).1
  have fin : (22 : Int32) ≤ iI ((22 : Nat) : Int) := by
    decide
  have nc : ¬ c_X8_town_121 (l_X8_town_121 (M, 0) (22)) := by
    rw [d1]
    unfold c_X8_town_121
    dsimp only
    rw [if_pos fin]
    exact fun h => h
  refine ⟨D, fun hp => ?_, ?_, ?_, d2⟩
  · unfold p_X8_town_121
    rw [n22_eq, d1]
    dsimp only
    rw [if_pos fin]
    rw [d1] at nc
    exact ⟨fun k hk => (cq k hk).1, fun k hk => (cq k hk).2, nc, hp⟩
  · unfold r_X8_town_121
    rw [n22_eq, d1]
    dsimp only
    rw [if_pos fin]
  · unfold w_X8_town_121
    rw [n22_eq, d1]
    dsimp only
    rw [if_pos fin]
theorem t238 : ∃ D, (p_X8_town_264 D 0 → p_X8_town_238 M 0) ∧ r_X8_town_238 M 0 = r_X8_town_264 D 0 ∧ w_X8_town_238 M 0 = w_X8_town_264 D 0 ∧ (∀ j, j < 48 → D.1 603 j = M.1 612 j) ∧ Fq (fun a _ => a = 603) M D := by
  have one : ∀ (k : Nat) (D : Mm), k < 48 → ((∀ j, j < k → D.1 603 j = M.1 612 j) ∧ Fq (fun a _ => a = 603) M D) → (c_X8_town_238 (D, iI (k : Int)) ∧ q_X8_town_238 (D, iI (k : Int))) ∧ s_X8_town_238 (D, iI (k : Int)) = (wi D 603 k (D.1 612 k), iI ((k + 1 : Nat) : Int)) := by
    intro k D hk hP
    have nk : Int32.toNatClampNeg (iI (k : Int)) = k := natk rfl (by omega)

    unfold c_X8_town_238 q_X8_town_238 s_X8_town_238
    dsimp only
    have ng : ¬ (48 : Int32) ≤ iI (k : Int) := by rw [show (48 : Int32) = iI 48 by decide, iI_le (by omega) (by omega) (by omega) (by omega)]; omega
    rw [if_neg ng, if_neg ng, if_neg ng, nk, k1_iI]
    exact ⟨⟨trivial, vin_iI (by omega) (by omega) (by omega), vin_iI (by omega) (by omega) (by omega), trivial⟩, rfl⟩
  have key := for_it (s := s_X8_town_238) (M := M) (N := 48) (fun k D => (∀ j, j < k → D.1 603 j = M.1 612 j) ∧ Fq (fun a _ => a = 603) M D) ⟨fun j hj => absurd hj (Nat.not_lt_zero j), Fq.rf⟩ (fun k D hk hP => ⟨_, (one k D hk hP).2, fun j hj => by
    by_cases q : j = k
    · rw [q, rd_same, hP.2.1 _ _ (by omega)]
    · rw [rd_ne (Or.inr q)]; exact hP.1 j (by omega), hP.2.wi rfl⟩)
  obtain ⟨D, d1, d2⟩ := key (48) (Nat.le_refl _)
  change l_X8_town_238 (M, 0) (48) = (D, iI ((48 : Nat) : Int)) at d1
  have cq : ∀ k, k < 48 → c_X8_town_238 (l_X8_town_238 (M, 0) k) ∧ q_X8_town_238 (l_X8_town_238 (M, 0) k) := fun k hk => by
    obtain ⟨D1, e1, e2⟩ := key k (by omega)
    change l_X8_town_238 (M, 0) k = (D1, iI (k : Int)) at e1
    rw [e1]
    exact (one k D1 hk e2).1
  have fin : (48 : Int32) ≤ iI ((48 : Nat) : Int) := by
    decide
  have nc : ¬ c_X8_town_238 (l_X8_town_238 (M, 0) (48)) := by
    rw [d1]
    unfold c_X8_town_238
    dsimp only
    rw [if_pos fin]
    exact fun h => h
  refine ⟨D, fun hp => ?_, ?_, ?_, d2⟩
  · unfold p_X8_town_238
    rw [n48_eq, d1]
    dsimp only
    rw [if_pos fin]
    rw [d1] at nc
    exact ⟨fun k hk => (cq k hk).1, fun k hk => (cq k hk).2, nc, hp⟩
  · unfold r_X8_town_238
    rw [n48_eq, d1]
    dsimp only
    rw [if_pos fin]
  · unfold w_X8_town_238
    rw [n48_eq, d1]
    dsimp only
    rw [if_pos fin]
theorem t142 (hI : InvT T) (h0 : M.1 600 0 = iI (T 0 0)) (hR : ∀ x : Int, 0 ≤ x → x < T 0 0 → M.1 610 (2 * x.toNat) = iI (S 0 x.toNat) ∧ M.1 610 (2 * x.toNat + 1) = iI (T 1 x.toNat)) : ∃ D, (p_X8_town_190 D 0 → p_X8_town_142 M 0) ∧ r_X8_town_142 M 0 = r_X8_town_190 D 0 ∧ w_X8_town_142 M 0 = w_X8_town_190 D 0 ∧ (∀ j, j < (T 0 0).toNat → D.1 607 (0 + j) = iI (S 0 j) ∧ D.1 601 j = iI (T 1 j)) ∧ (∀ j, ¬ (0 ≤ j ∧ j < 0 + (T 0 0).toNat) → D.1 607 j = M.1 607 j) ∧ Fq (fun a _ => a = 607 ∨ a = 601) M D := by
  have hc := hI.1
  have nn : Int32.toNatClampNeg (iI (T 0 0)) = (T 0 0).toNat := iI_nat (by omega) (by omega)
  have one : ∀ (k : Nat) (D : Mm), k < (T 0 0).toNat → ((∀ j, j < k → D.1 607 (0 + j) = iI (S 0 j) ∧ D.1 601 j = iI (T 1 j)) ∧ (∀ j, ¬ (0 ≤ j ∧ j < 0 + k) → D.1 607 j = M.1 607 j) ∧ Fq (fun a _ => a = 607 ∨ a = 601) M D) → (c_X8_town_142 (D, iI (k : Int)) ∧ q_X8_town_142 (D, iI (k : Int))) ∧ s_X8_town_142 (D, iI (k : Int)) = (wi (wi D 607 (0 + k) (iI (S 0 k))) 601 k (iI (T 1 k)), iI ((k + 1 : Nat) : Int)) := by
    intro k D hk hP
    have nk : Int32.toNatClampNeg (iI (k : Int)) = k := natk rfl (by omega)
    have n0 : Int32.toNatClampNeg ((0 : Int32) + iI (k : Int)) = 0 + k := by rw [show (0 : Int32) = iI 0 by decide, iI_add]; exact natk (by omega) (by omega)
    have n1 : Int32.toNatClampNeg ((2 : Int32) * iI (k : Int)) = 2 * k := by rw [cl2, iI_mul]; exact natk (by omega) (by omega)
    have n2 : Int32.toNatClampNeg ((2 : Int32) * iI (k : Int) + 1) = 2 * k + 1 := by rw [cl2, cl1, iI_mul, iI_add]; exact natk (by omega) (by omega)
    have v0 : vp_in ((0 : Int32) + iI (k : Int)) 44 := by rw [show (0 : Int32) = iI 0 by decide, iI_add]; exact vin_iI (by omega) (by omega) (by omega)
    have v1 : vp_in ((2 : Int32) * iI (k : Int)) 6 := by rw [cl2, iI_mul]; exact vin_iI (by omega) (by omega) (by omega)
    have v2 : vp_in ((2 : Int32) * iI (k : Int) + 1) 6 := by rw [cl2, cl1, iI_mul, iI_add]; exact vin_iI (by omega) (by omega) (by omega)
    have dc : D.1 600 0 = iI (T 0 0) := by rw [hP.2.2.1 _ _ (by omega)]; exact h0
    obtain ⟨y1, y2⟩ := hR (k : Int) (by omega) (by omega)
    rw [Int.toNat_natCast] at y1 y2
    have z1 : D.1 610 (2 * k) = iI (S 0 k) := by rw [hP.2.2.1 _ _ (by omega)]; exact y1
    have z2 : (wi D 607 (0 + k) (iI (S 0 k))).1 610 (2 * k + 1) = iI (T 1 k) := by rw [rd_ne (Or.inl (by omega)), hP.2.2.1 _ _ (by omega)]; exact y2
    unfold c_X8_town_142 q_X8_town_142 s_X8_town_142
    dsimp only
    have ng : ¬ iI (T 0 0) ≤ iI (k : Int) := by rw [iI_le (by omega) (by omega) (by omega) (by omega)]; omega
    rw [dc, if_neg ng, if_neg ng, if_neg ng, n0, n1, n2, nk, k1_iI, z1, z2]
    exact ⟨⟨trivial, v1, v0, v2, vin_iI (by omega) (by omega) (by omega), trivial⟩, rfl⟩
  have key := for_it (s := s_X8_town_142) (M := M) (N := (T 0 0).toNat) (fun k D => (∀ j, j < k → D.1 607 (0 + j) = iI (S 0 j) ∧ D.1 601 j = iI (T 1 j)) ∧ (∀ j, ¬ (0 ≤ j ∧ j < 0 + k) → D.1 607 j = M.1 607 j) ∧ Fq (fun a _ => a = 607 ∨ a = 601) M D) ⟨fun j hj => absurd hj (Nat.not_lt_zero j), fun j _ => rfl, Fq.rf⟩ (fun k D hk hP => ⟨_, (one k D hk hP).2, fun j hj => by
    by_cases q : j = k
    · rw [q, rd_same, rd_ne (Or.inl (by omega)), rd_same]; exact ⟨rfl, rfl⟩
    · rw [rd_ne (Or.inl (by omega)), rd_ne (Or.inr (by omega)), rd_ne (Or.inr q), rd_ne (Or.inl (by omega))]; exact hP.1 j (by omega), fun j hj => by
      rw [rd_ne (Or.inl (by omega)), rd_ne (Or.inr (by omega))]; exact hP.2.1 j (by omega), (hP.2.2.wi (Or.inl rfl)).wi (Or.inr rfl)⟩)
  obtain ⟨D, d1, d2⟩ := key ((T 0 0).toNat) (Nat.le_refl _)
  change l_X8_town_142 (M, 0) ((T 0 0).toNat) = (D, iI (((T 0 0).toNat : Nat) : Int)) at d1
  have cq : ∀ k, k < (T 0 0).toNat → c_X8_town_142 (l_X8_town_142 (M, 0) k) ∧ q_X8_town_142 (l_X8_town_142 (M, 0) k) := fun k hk => by
    obtain ⟨D1, e1, e2⟩ := key k (by omega)
    change l_X8_town_142 (M, 0) k = (D1, iI (k : Int)) at e1
    rw [e1]
    exact (one k D1 hk e2).1
  have fin : (iI (T 0 0)) ≤ iI (((T 0 0).toNat : Nat) : Int) := by
    rw [iI_le (by omega) (by omega) (by omega) (by omega)]; omega
  have dcf : D.1 600 0 = iI (T 0 0) := by rw [d2.2.2.1 _ _ (by omega)]; exact h0
  have nc : ¬ c_X8_town_142 (l_X8_town_142 (M, 0) ((T 0 0).toNat)) := by
    rw [d1]
    unfold c_X8_town_142
    dsimp only
    rw [dcf, if_pos fin]
    exact fun h => h
  refine ⟨D, fun hp => ?_, ?_, ?_, d2⟩
  · unfold p_X8_town_142
    rw [h0, nn, d1]
    dsimp only
    rw [dcf, if_pos fin]
    rw [d1] at nc
    exact ⟨fun k hk => (cq k hk).1, fun k hk => (cq k hk).2, nc, hp⟩
  · unfold r_X8_town_142
    rw [h0, nn, d1]
    dsimp only
    rw [dcf, if_pos fin]
  · unfold w_X8_town_142
    rw [h0, nn, d1]
    dsimp only
    rw [dcf, if_pos fin]
theorem t190 (hI : InvT T) (h0 : M.1 600 1 = iI (T 0 1)) (hR : ∀ x : Int, 0 ≤ x → x < T 0 1 → M.1 611 (2 * x.toNat) = iI (S 1 x.toNat) ∧ M.1 611 (2 * x.toNat + 1) = iI (T 2 x.toNat)) : ∃ D, (p_X8_town_238 D 0 → p_X8_town_190 M 0) ∧ r_X8_town_190 M 0 = r_X8_town_238 D 0 ∧ w_X8_town_190 M 0 = w_X8_town_238 D 0 ∧ (∀ j, j < (T 0 1).toNat → D.1 607 (3 + j) = iI (S 1 j) ∧ D.1 602 j = iI (T 2 j)) ∧ (∀ j, ¬ (3 ≤ j ∧ j < 3 + (T 0 1).toNat) → D.1 607 j = M.1 607 j) ∧ Fq (fun a _ => a = 607 ∨ a = 602) M D := by
  have hc := hI.1
  have nn : Int32.toNatClampNeg (iI (T 0 1)) = (T 0 1).toNat := iI_nat (by omega) (by omega)
  have one : ∀ (k : Nat) (D : Mm), k < (T 0 1).toNat → ((∀ j, j < k → D.1 607 (3 + j) = iI (S 1 j) ∧ D.1 602 j = iI (T 2 j)) ∧ (∀ j, ¬ (3 ≤ j ∧ j < 3 + k) → D.1 607 j = M.1 607 j) ∧ Fq (fun a _ => a = 607 ∨ a = 602) M D) → (c_X8_town_190 (D, iI (k : Int)) ∧ q_X8_town_190 (D, iI (k : Int))) ∧ s_X8_town_190 (D, iI (k : Int)) = (wi (wi D 607 (3 + k) (iI (S 1 k))) 602 k (iI (T 2 k)), iI ((k + 1 : Nat) : Int)) := by
    intro k D hk hP
    have nk : Int32.toNatClampNeg (iI (k : Int)) = k := natk rfl (by omega)
    have n0 : Int32.toNatClampNeg ((3 : Int32) + iI (k : Int)) = 3 + k := by rw [show (3 : Int32) = iI 3 by decide, iI_add]; exact natk (by omega) (by omega)
    have n1 : Int32.toNatClampNeg ((2 : Int32) * iI (k : Int)) = 2 * k := by rw [cl2, iI_mul]; exact natk (by omega) (by omega)
    have n2 : Int32.toNatClampNeg ((2 : Int32) * iI (k : Int) + 1) = 2 * k + 1 := by rw [cl2, cl1, iI_mul, iI_add]; exact natk (by omega) (by omega)
    have v0 : vp_in ((3 : Int32) + iI (k : Int)) 44 := by rw [show (3 : Int32) = iI 3 by decide, iI_add]; exact vin_iI (by omega) (by omega) (by omega)
    have v1 : vp_in ((2 : Int32) * iI (k : Int)) 12 := by rw [cl2, iI_mul]; exact vin_iI (by omega) (by omega) (by omega)
    have v2 : vp_in ((2 : Int32) * iI (k : Int) + 1) 12 := by rw [cl2, cl1, iI_mul, iI_add]; exact vin_iI (by omega) (by omega) (by omega)
    have dc : D.1 600 1 = iI (T 0 1) := by rw [hP.2.2.1 _ _ (by omega)]; exact h0
    obtain ⟨y1, y2⟩ := hR (k : Int) (by omega) (by omega)
    rw [Int.toNat_natCast] at y1 y2
    have z1 : D.1 611 (2 * k) = iI (S 1 k) := by rw [hP.2.2.1 _ _ (by omega)]; exact y1
    have z2 : (wi D 607 (3 + k) (iI (S 1 k))).1 611 (2 * k + 1) = iI (T 2 k) := by rw [rd_ne (Or.inl (by omega)), hP.2.2.1 _ _ (by omega)]; exact y2
    unfold c_X8_town_190 q_X8_town_190 s_X8_town_190
    dsimp only
    have ng : ¬ iI (T 0 1) ≤ iI (k : Int) := by rw [iI_le (by omega) (by omega) (by omega) (by omega)]; omega
    rw [dc, if_neg ng, if_neg ng, if_neg ng, n0, n1, n2, nk, k1_iI, z1, z2]
    exact ⟨⟨trivial, v1, v0, v2, vin_iI (by omega) (by omega) (by omega), trivial⟩, rfl⟩
  have key := for_it (s := s_X8_town_190) (M := M) (N := (T 0 1).toNat) (fun k D => (∀ j, j < k → D.1 607 (3 + j) = iI (S 1 j) ∧ D.1 602 j = iI (T 2 j)) ∧ (∀ j, ¬ (3 ≤ j ∧ j < 3 + k) → D.1 607 j = M.1 607 j) ∧ Fq (fun a _ => a = 607 ∨ a = 602) M D) ⟨fun j hj => absurd hj (Nat.not_lt_zero j), fun j _ => rfl, Fq.rf⟩ (fun k D hk hP => ⟨_, (one k D hk hP).2, fun j hj => by
    by_cases q : j = k
    · rw [q, rd_same, rd_ne (Or.inl (by omega)), rd_same]; exact ⟨rfl, rfl⟩
    · rw [rd_ne (Or.inl (by omega)), rd_ne (Or.inr (by omega)), rd_ne (Or.inr q), rd_ne (Or.inl (by omega))]; exact hP.1 j (by omega), fun j hj => by
      rw [rd_ne (Or.inl (by omega)), rd_ne (Or.inr (by omega))]; exact hP.2.1 j (by omega), (hP.2.2.wi (Or.inl rfl)).wi (Or.inr rfl)⟩)
  obtain ⟨D, d1, d2⟩ := key ((T 0 1).toNat) (Nat.le_refl _)
  change l_X8_town_190 (M, 0) ((T 0 1).toNat) = (D, iI (((T 0 1).toNat : Nat) : Int)) at d1
  have cq : ∀ k, k < (T 0 1).toNat → c_X8_town_190 (l_X8_town_190 (M, 0) k) ∧ q_X8_town_190 (l_X8_town_190 (M, 0) k) := fun k hk => by
    obtain ⟨D1, e1, e2⟩ := key k (by omega)
    change l_X8_town_190 (M, 0) k = (D1, iI (k : Int)) at e1
    rw [e1]
    exact (one k D1 hk e2).1
  have fin : (iI (T 0 1)) ≤ iI (((T 0 1).toNat : Nat) : Int) := by
    rw [iI_le (by omega) (by omega) (by omega) (by omega)]; omega
  have dcf : D.1 600 1 = iI (T 0 1) := by rw [d2.2.2.1 _ _ (by omega)]; exact h0
  have nc : ¬ c_X8_town_190 (l_X8_town_190 (M, 0) ((T 0 1).toNat)) := by
    rw [d1]
    unfold c_X8_town_190
    dsimp only
    rw [dcf, if_pos fin]
    exact fun h => h
  refine ⟨D, fun hp => ?_, ?_, ?_, d2⟩
  · unfold p_X8_town_190
    rw [h0, nn, d1]
    dsimp only
    rw [dcf, if_pos fin]
    rw [d1] at nc
    exact ⟨fun k hk => (cq k hk).1, fun k hk => (cq k hk).2, nc, hp⟩
  · unfold r_X8_town_190
    rw [h0, nn, d1]
    dsimp only
    rw [dcf, if_pos fin]
  · unfold w_X8_town_190
    rw [h0, nn, d1]
    dsimp only
    rw [dcf, if_pos fin]
theorem t264 (x1 : Int32) (hx : x1 = 0) : p_X8_town_264 M x1 ∧ r_X8_town_264 M x1 = (w_X8_town_264 M x1).1 600 2 ∧ (∀ j, j < 4 → (w_X8_town_264 M x1).1 604 j = M.1 613 j) ∧ (w_X8_town_264 M x1).1 600 11 = 0 ∧ (w_X8_town_264 M x1).1 600 42 = 0 ∧ Fq (fun a k => a = 604 ∨ (a = 600 ∧ (k = 11 ∨ k = 42))) M (w_X8_town_264 M x1) := by
  subst hx
  have one : ∀ (k : Nat) (D : Mm), k < 4 → ((∀ j, j < k → D.1 604 j = M.1 613 j) ∧ Fq (fun a _ => a = 604) M D) → (c_X8_town_264 (D, iI (k : Int)) ∧ q_X8_town_264 (D, iI (k : Int))) ∧ s_X8_town_264 (D, iI (k : Int)) = (wi D 604 k (D.1 613 k), iI ((k + 1 : Nat) : Int)) := by
    intro k D hk hP
    have nk : Int32.toNatClampNeg (iI (k : Int)) = k := natk rfl (by omega)
    unfold c_X8_town_264 q_X8_town_264 s_X8_town_264
    dsimp only
    have ng : ¬ (4 : Int32) ≤ iI (k : Int) := by rw [cl4, iI_le (by omega) (by omega) (by omega) (by omega)]; omega
    rw [if_neg ng, if_neg ng, if_neg ng, nk, k1_iI]
    exact ⟨⟨trivial, vin_iI (by omega) (by omega) (by omega), vin_iI (by omega) (by omega) (by omega), trivial⟩, rfl⟩
  have key := for_it (s := s_X8_town_264) (M := M) (N := 4) (fun k D => (∀ j, j < k → D.1 604 j = M.1 613 j) ∧ Fq (fun a _ => a = 604) M D) ⟨fun j hj => absurd hj (Nat.not_lt_zero j), Fq.rf⟩ (fun k D hk hP => ⟨_, (one k D hk hP).2, fun j hj => by
    by_cases q : j = k
    · rw [q, rd_same, hP.2.1 _ _ (by omega)]
    · rw [rd_ne (Or.inr q)]; exact hP.1 j (by omega), hP.2.wi rfl⟩)
  obtain ⟨D, d1, d2⟩ := key 4 (Nat.le_refl _)
  change l_X8_town_264 (M, 0) 4 = (D, iI ((4 : Nat) : Int)) at d1
  have cq : ∀ k, k < 4 → c_X8_town_264 (l_X8_town_264 (M, 0) k) ∧ q_X8_town_264 (l_X8_town_264 (M, 0) k) := fun k hk => by
    obtain ⟨D1, e1, e2⟩ := key k (by omega)
    change l_X8_town_264 (M, 0) k = (D1, iI (k : Int)) at e1
    rw [e1]
    exact (one k D1 hk e2).1
  have fin : (4 : Int32) ≤ iI ((4 : Nat) : Int) := by decide
  have nc : ¬ c_X8_town_264 (l_X8_town_264 (M, 0) 4) := by
    rw [d1]
    unfold c_X8_town_264
    dsimp only
    rw [if_pos fin]
    exact fun h => h
  have ew : w_X8_town_264 M 0 = wi (wi D 600 11 0) 600 42 0 := by
    unfold w_X8_town_264
    rw [n4_eq, d1]
    dsimp only
    rw [if_pos fin]
  have er : r_X8_town_264 M 0 = (wi (wi D 600 11 0) 600 42 0).1 600 2 := by
    unfold r_X8_town_264
    rw [n4_eq, d1]
    dsimp only
    rw [if_pos fin]
  have ep : p_X8_town_264 M 0 := by
    unfold p_X8_town_264
    rw [n4_eq, d1]
    dsimp only
    rw [if_pos fin]
    rw [d1] at nc
    exact ⟨fun k hk => (cq k hk).1, fun k hk => (cq k hk).2, nc, trivial⟩
  rw [ew, er]
  refine ⟨ep, rfl, fun j hj => ?_, ?_, ?_, ?_⟩
  · rw [rd_ne (Or.inl (by omega)), rd_ne (Or.inl (by omega))]; exact d2.1 j hj
  · rw [rd_ne (Or.inr (by omega)), rd_same]
  · rw [rd_same]
  · exact Fq.wi (Fq.wi (d2.2.mono (fun a k u => Or.inl u)) (by omega)) (by omega)
/-- the reference's town becomes what was read -/
theorem rx_take (dd : RDr M T S) (hv : Iv T S) (x1 : Int32) : p_X8_town_95 M x1 ∧ r_X8_town_95 M x1 = iI (T 0 2) ∧ RT (w_X8_town_95 M x1) T ∧ RS (w_X8_town_95 M x1) 0 T S ∧ (w_X8_town_95 M x1).1 600 11 = 0 ∧ (w_X8_town_95 M x1).1 600 42 = 0 ∧ Fq (fun a k => (a = 600 ∧ (k ≤ 2 ∨ k = 11 ∨ k = 42)) ∨ (601 ≤ a ∧ a ≤ 604) ∨ a = 607) M (w_X8_town_95 M x1) := by
  obtain ⟨hI, hJ, hz, hz4⟩ := hv
  have hc := hI.1
  obtain ⟨⟨c0, c1, c2⟩, c3, c4, c5, c6⟩ := dd
  unfold p_X8_town_95 r_X8_town_95 w_X8_town_95
  obtain ⟨M1, hM1⟩ : ∃ M1, M1 = wi (wi (wi M 600 0 (M.1 600 22)) 600 1 ((wi M 600 0 (M.1 600 22)).1 600 23)) 600 2 ((wi (wi M 600 0 (M.1 600 22)) 600 1 ((wi M 600 0 (M.1 600 22)).1 600 23)).1 600 24) := ⟨_, rfl⟩
  rw [← hM1]
  have F1 : Fq (fun a k => a = 600 ∧ k ≤ 2) M M1 := by
    rw [hM1]
    exact Fq.wi (Fq.wi (Fq.wi Fq.rf (by omega)) (by omega)) (by omega)
  have e0 : M1.1 600 0 = iI (T 0 0) := by rw [hM1, rd_ne (Or.inr (by omega)), rd_ne (Or.inr (by omega)), rd_same]; exact c0
  have e1 : M1.1 600 1 = iI (T 0 1) := by rw [hM1, rd_ne (Or.inr (by omega)), rd_same, rd_ne (Or.inr (by omega))]; exact c1
  have e2 : M1.1 600 2 = iI (T 0 2) := by rw [hM1, rd_same, rd_ne (Or.inr (by omega)), rd_ne (Or.inr (by omega))]; exact c2
  clear hM1
  obtain ⟨D1, p1, q1, w1, a1, F2⟩ := t121 (M := M1)
  obtain ⟨D2, p2, q2, w2, a2, b2, F3⟩ := t142 (M := D1) (T := T) (S := S) hI (by rw [F2.1 _ _ (by omega)]; exact e0) (fun x h0 hx => by rw [F2.1 _ _ (by omega), F2.1 _ _ (by omega), F1.1 _ _ (by omega), F1.1 _ _ (by omega)]; exact c3 x h0 hx)
  obtain ⟨D3, p3, q3, w3, a3, b3, F4⟩ := t190 (M := D2) (T := T) (S := S) hI (by rw [F3.1 _ _ (by omega), F2.1 _ _ (by omega)]; exact e1) (fun x h0 hx => by rw [F3.1 _ _ (by omega), F3.1 _ _ (by omega), F2.1 _ _ (by omega), F2.1 _ _ (by omega), F1.1 _ _ (by omega), F1.1 _ _ (by omega)]; exact c4 x h0 hx)
  obtain ⟨D4, p4, q4, w4, a4, F5⟩ := t238 (M := D3)
  obtain ⟨p5, q5, a5, g5, h5, F6⟩ := t264 (M := D4) 0 rfl
  rw [w1, w2, w3, w4, q1, q2, q3, q4, q5]
  generalize w_X8_town_264 D4 0 = W at a5 g5 h5 F6 ⊢
  refine ⟨p1 (p2 (p3 (p4 p5))), ?_, ⟨⟨?_, ?_, ?_⟩, fun x h0 hx => ?_, fun x h0 hx => ?_, fun k hk => ?_, fun w f hw hf => ?_⟩, ⟨fun x h0 hx => ?_, fun x h0 hx => ?_, fun x h0 hx => ?_, fun x h0 hx => ?_, ?_⟩, g5, h5, ?_⟩
  · rw [F6.1 _ _ (by omega), F5.1 _ _ (by omega), F4.1 _ _ (by omega), F3.1 _ _ (by omega), F2.1 _ _ (by omega)]; exact e2
  · rw [F6.1 _ _ (by omega), F5.1 _ _ (by omega), F4.1 _ _ (by omega), F3.1 _ _ (by omega), F2.1 _ _ (by omega)]; exact e0
  · rw [F6.1 _ _ (by omega), F5.1 _ _ (by omega), F4.1 _ _ (by omega), F3.1 _ _ (by omega), F2.1 _ _ (by omega)]; exact e1
  · rw [F6.1 _ _ (by omega), F5.1 _ _ (by omega), F4.1 _ _ (by omega), F3.1 _ _ (by omega), F2.1 _ _ (by omega)]; exact e2
  · rw [F6.1 _ _ (by omega), F5.1 _ _ (by omega), F4.1 _ _ (by omega)]; exact (a2 x.toNat (by omega)).2
  · rw [F6.1 _ _ (by omega), F5.1 _ _ (by omega)]; exact (a3 x.toNat (by omega)).2
  · rw [a5 k hk, F5.1 _ _ (by omega), F4.1 _ _ (by omega), F3.1 _ _ (by omega), F2.1 _ _ (by omega), F1.1 _ _ (by omega)]; exact c5 k hk
  · rw [F6.1 _ _ (by omega), a4 _ (by omega), F4.1 _ _ (by omega), F3.1 _ _ (by omega), F2.1 _ _ (by omega), F1.1 _ _ (by omega)]; exact c6 w f hw hf
  · rw [F6.1 _ _ (by omega), F5.1 _ _ (by omega), b3 _ (by omega)]; exact (a2 x.toNat (by omega)).1
  · rw [F6.1 _ _ (by omega), F5.1 _ _ (by omega), show 0 + 3 + x.toNat = 3 + x.toNat by omega]; exact (a3 x.toNat (by omega)).1
  · rw [F6.1 _ _ (by omega), F5.1 _ _ (by omega), b3 _ (by omega), b2 _ (by omega), a1 _ (by omega), (hz x h0 hx).1]; rfl
  · rw [F6.1 _ _ (by omega), F5.1 _ _ (by omega), b3 _ (by omega), b2 _ (by omega), a1 _ (by omega), (hz x h0 hx).2]; rfl
  · rw [F6.1 _ _ (by omega), F5.1 _ _ (by omega), b3 _ (by omega), b2 _ (by omega), a1 _ (by omega), hz4]; rfl
  · exact ((((((F1.mono (fun a k u => by omega)).tr (F2.mono (fun a k u => by omega))).tr (F3.mono (fun a k u => by omega))).tr (F4.mono (fun a k u => by omega))).tr (F5.mono (fun a k u => by omega))).tr (F6.mono (fun a k u => by omega)))
end PB0
