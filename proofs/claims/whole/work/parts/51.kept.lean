/-! the reference's kept row -/
theorem runI_s0 (M : Mm) (A j : Nat) (f : Nat → Int32) : wi (runI M A 0 j f) A j (f j) = runI M A 0 (j + 1) f := by
  have t := runI_s M A 0 j f
  rw [Nat.zero_add] at t
  exact t
section P51
variable {M : Mm}
theorem mR_628_1 (h : M.1 600 57 = iI ((0 : Nat) : Int)) : p_X8_moveRow_628 M (5 : Int32) (1 : Int32) ∧ w_X8_moveRow_628 M (5 : Int32) (1 : Int32) = wi (runI M 627 0 5 (fun j => M.1 628 j)) 600 57 (iI ((0 + 5 : Nat) : Int)) := by
  have nm : Int32.toNatClampNeg (5 : Int32) = 5 := by decide
  have key : ∀ j, j ≤ 5 → l_X8_moveRow_628_3 (5 : Int32) (1 : Int32) (M, 0) j = (wi (runI M 627 0 j (fun j => M.1 628 j)) 600 57 (iI ((0 + j : Nat) : Int)), iI (j : Int)) := by
    refine it_for _ ?_ (fun j hj => ?_)
    · rw [runI_0, wi_idm (by rw [h])]; rfl
    · show s_X8_moveRow_628_3 (5 : Int32) (1 : Int32) (wi (runI M 627 0 j (fun j => M.1 628 j)) 600 57 (iI ((0 + j : Nat) : Int)), iI (j : Int)) = _
      unfold s_X8_moveRow_628_3
      dsimp only
      have hlt : ¬ (5 : Int32) ≤ iI (j : Int) := by rw [cl5, iI_le (by omega) (by omega) (by omega) (by omega)]; omega
      rw [if_neg hlt, if_neg (show ¬ (1 : Int32) = 0 by decide), k1_iI, rd_same, natk (n := 0 + j) rfl (by omega), natk (n := j) rfl (by omega), rd_ne (Or.inl (by decide)), runI_n (Or.inl (by decide)), k1_iI, wi_ow (by decide)]
      refine Prod.ext ?_ rfl
      exact congrArg (fun u => wi u 600 57 (iI ((0 + (j + 1) : Nat) : Int))) (runI_s M 627 0 j (fun j => M.1 628 j))
  have kN := key 5 (Nat.le_refl _)
  have fin : (5 : Int32) ≤ (l_X8_moveRow_628_3 (5 : Int32) (1 : Int32) (M, 0) 5).2 := by
    rw [kN]
    show (5 : Int32) ≤ iI ((5 : Nat) : Int)
    decide
  unfold p_X8_moveRow_628 w_X8_moveRow_628
  rw [nm]
  refine ⟨⟨fun j hj => ?_, fun j hj => ?_, ?_, ?_⟩, ?_⟩
  · rw [key j (by omega)]
    unfold c_X8_moveRow_628_3
    dsimp only
    rw [cl5, iteLE (by omega) (by omega) (by omega) (by omega), if_neg (by omega)]
    trivial
  · rw [key j (by omega)]
    unfold q_X8_moveRow_628_3
    dsimp only
    have v1 : vp_in (iI ((0 + j : Nat) : Int)) 110 := vin_iI (by omega) (by omega) (by omega)
    have v2 : vp_in (iI (j : Int)) 5 := vin_iI (by omega) (by omega) (by omega)
    rw [rd_same]
    split
    · trivial
    · split
      · exact ⟨v1, v2, trivial⟩
      · exact ⟨v2, v1, trivial⟩
  · unfold c_X8_moveRow_628_3
    rw [if_pos fin]
    exact fun h => h
  · rw [if_pos fin]
    trivial
  · rw [if_pos fin, kN]
theorem mR_628_0 (h : M.1 600 57 = iI ((0 : Nat) : Int)) : p_X8_moveRow_628 M (5 : Int32) (0 : Int32) ∧ w_X8_moveRow_628 M (5 : Int32) (0 : Int32) = wi (runI M 628 0 5 (fun j => M.1 627 (0 + j))) 600 57 (iI ((0 + 5 : Nat) : Int)) := by
  have nm : Int32.toNatClampNeg (5 : Int32) = 5 := by decide
  have key : ∀ j, j ≤ 5 → l_X8_moveRow_628_3 (5 : Int32) (0 : Int32) (M, 0) j = (wi (runI M 628 0 j (fun j => M.1 627 (0 + j))) 600 57 (iI ((0 + j : Nat) : Int)), iI (j : Int)) := by
    refine it_for _ ?_ (fun j hj => ?_)
    · rw [runI_0, wi_idm (by rw [h])]; rfl
    · show s_X8_moveRow_628_3 (5 : Int32) (0 : Int32) (wi (runI M 628 0 j (fun j => M.1 627 (0 + j))) 600 57 (iI ((0 + j : Nat) : Int)), iI (j : Int)) = _
      unfold s_X8_moveRow_628_3
      dsimp only
      have hlt : ¬ (5 : Int32) ≤ iI (j : Int) := by rw [cl5, iI_le (by omega) (by omega) (by omega) (by omega)]; omega
      have rs := runI_s0 M 628 j (fun j => M.1 627 (0 + j))
      rw [if_neg hlt, if_pos (show (0 : Int32) = 0 from rfl), k1_iI, rd_same, natk (n := 0 + j) rfl (by omega), natk (n := j) rfl (by omega), rd_ne (Or.inl (by decide)), runI_n (Or.inl (by decide)), k1_iI, wi_ow (by decide)]
      refine Prod.ext ?_ rfl
      exact congrArg (fun u => wi u 600 57 (iI ((0 + (j + 1) : Nat) : Int))) rs
  have kN := key 5 (Nat.le_refl _)
  have fin : (5 : Int32) ≤ (l_X8_moveRow_628_3 (5 : Int32) (0 : Int32) (M, 0) 5).2 := by
    rw [kN]
    show (5 : Int32) ≤ iI ((5 : Nat) : Int)
    decide
  unfold p_X8_moveRow_628 w_X8_moveRow_628
  rw [nm]
  refine ⟨⟨fun j hj => ?_, fun j hj => ?_, ?_, ?_⟩, ?_⟩
  · rw [key j (by omega)]
    unfold c_X8_moveRow_628_3
    dsimp only
    rw [cl5, iteLE (by omega) (by omega) (by omega) (by omega), if_neg (by omega)]
    trivial
  · rw [key j (by omega)]
    unfold q_X8_moveRow_628_3
    dsimp only
    have v1 : vp_in (iI ((0 + j : Nat) : Int)) 110 := vin_iI (by omega) (by omega) (by omega)
    have v2 : vp_in (iI (j : Int)) 5 := vin_iI (by omega) (by omega) (by omega)
    rw [rd_same]
    split
    · trivial
    · split
      · exact ⟨v1, v2, trivial⟩
      · exact ⟨v2, v1, trivial⟩
  · unfold c_X8_moveRow_628_3
    rw [if_pos fin]
    exact fun h => h
  · rw [if_pos fin]
    trivial
  · rw [if_pos fin, kN]
theorem mR_601_1 (h : M.1 600 57 = iI ((5 : Nat) : Int)) : p_X8_moveRow_601 M (3 : Int32) (1 : Int32) ∧ w_X8_moveRow_601 M (3 : Int32) (1 : Int32) = wi (runI M 627 5 3 (fun j => M.1 601 j)) 600 57 (iI ((5 + 3 : Nat) : Int)) := by
  have nm : Int32.toNatClampNeg (3 : Int32) = 3 := by decide
  have key : ∀ j, j ≤ 3 → l_X8_moveRow_601_3 (3 : Int32) (1 : Int32) (M, 0) j = (wi (runI M 627 5 j (fun j => M.1 601 j)) 600 57 (iI ((5 + j : Nat) : Int)), iI (j : Int)) := by
    refine it_for _ ?_ (fun j hj => ?_)
    · rw [runI_0, wi_idm (by rw [h])]; rfl
    · show s_X8_moveRow_601_3 (3 : Int32) (1 : Int32) (wi (runI M 627 5 j (fun j => M.1 601 j)) 600 57 (iI ((5 + j : Nat) : Int)), iI (j : Int)) = _
      unfold s_X8_moveRow_601_3
      dsimp only
      have hlt : ¬ (3 : Int32) ≤ iI (j : Int) := by rw [cl3, iI_le (by omega) (by omega) (by omega) (by omega)]; omega
      rw [if_neg hlt, if_neg (show ¬ (1 : Int32) = 0 by decide), k1_iI, rd_same, natk (n := 5 + j) rfl (by omega), natk (n := j) rfl (by omega), rd_ne (Or.inl (by decide)), runI_n (Or.inl (by decide)), k1_iI, wi_ow (by decide)]
      refine Prod.ext ?_ rfl
      exact congrArg (fun u => wi u 600 57 (iI ((5 + (j + 1) : Nat) : Int))) (runI_s M 627 5 j (fun j => M.1 601 j))
  have kN := key 3 (Nat.le_refl _)
  have fin : (3 : Int32) ≤ (l_X8_moveRow_601_3 (3 : Int32) (1 : Int32) (M, 0) 3).2 := by
    rw [kN]
    show (3 : Int32) ≤ iI ((3 : Nat) : Int)
    decide
  unfold p_X8_moveRow_601 w_X8_moveRow_601
  rw [nm]
  refine ⟨⟨fun j hj => ?_, fun j hj => ?_, ?_, ?_⟩, ?_⟩
  · rw [key j (by omega)]
    unfold c_X8_moveRow_601_3
    dsimp only
    rw [cl3, iteLE (by omega) (by omega) (by omega) (by omega), if_neg (by omega)]
    trivial
  · rw [key j (by omega)]
    unfold q_X8_moveRow_601_3
    dsimp only
    have v1 : vp_in (iI ((5 + j : Nat) : Int)) 110 := vin_iI (by omega) (by omega) (by omega)
    have v2 : vp_in (iI (j : Int)) 3 := vin_iI (by omega) (by omega) (by omega)
    rw [rd_same]
    split
    · trivial
    · split
      · exact ⟨v1, v2, trivial⟩
      · exact ⟨v2, v1, trivial⟩
  · unfold c_X8_moveRow_601_3
    rw [if_pos fin]
    exact fun h => h
  · rw [if_pos fin]
    trivial
  · rw [if_pos fin, kN]
theorem mR_601_0 (h : M.1 600 57 = iI ((5 : Nat) : Int)) : p_X8_moveRow_601 M (3 : Int32) (0 : Int32) ∧ w_X8_moveRow_601 M (3 : Int32) (0 : Int32) = wi (runI M 601 0 3 (fun j => M.1 627 (5 + j))) 600 57 (iI ((5 + 3 : Nat) : Int)) := by
  have nm : Int32.toNatClampNeg (3 : Int32) = 3 := by decide
  have key : ∀ j, j ≤ 3 → l_X8_moveRow_601_3 (3 : Int32) (0 : Int32) (M, 0) j = (wi (runI M 601 0 j (fun j => M.1 627 (5 + j))) 600 57 (iI ((5 + j : Nat) : Int)), iI (j : Int)) := by
    refine it_for _ ?_ (fun j hj => ?_)
    · rw [runI_0, wi_idm (by rw [h])]; rfl
    · show s_X8_moveRow_601_3 (3 : Int32) (0 : Int32) (wi (runI M 601 0 j (fun j => M.1 627 (5 + j))) 600 57 (iI ((5 + j : Nat) : Int)), iI (j : Int)) = _
      unfold s_X8_moveRow_601_3
      dsimp only
      have hlt : ¬ (3 : Int32) ≤ iI (j : Int) := by rw [cl3, iI_le (by omega) (by omega) (by omega) (by omega)]; omega
      have rs := runI_s0 M 601 j (fun j => M.1 627 (5 + j))
      rw [if_neg hlt, if_pos (show (0 : Int32) = 0 from rfl), k1_iI, rd_same, natk (n := 5 + j) rfl (by omega), natk (n := j) rfl (by omega), rd_ne (Or.inl (by decide)), runI_n (Or.inl (by decide)), k1_iI, wi_ow (by decide)]
      refine Prod.ext ?_ rfl
      exact congrArg (fun u => wi u 600 57 (iI ((5 + (j + 1) : Nat) : Int))) rs
  have kN := key 3 (Nat.le_refl _)
  have fin : (3 : Int32) ≤ (l_X8_moveRow_601_3 (3 : Int32) (0 : Int32) (M, 0) 3).2 := by
    rw [kN]
    show (3 : Int32) ≤ iI ((3 : Nat) : Int)
    decide
  unfold p_X8_moveRow_601 w_X8_moveRow_601
  rw [nm]
  refine ⟨⟨fun j hj => ?_, fun j hj => ?_, ?_, ?_⟩, ?_⟩
  · rw [key j (by omega)]
    unfold c_X8_moveRow_601_3
    dsimp only
    rw [cl3, iteLE (by omega) (by omega) (by omega) (by omega), if_neg (by omega)]
    trivial
  · rw [key j (by omega)]
    unfold q_X8_moveRow_601_3
    dsimp only
    have v1 : vp_in (iI ((5 + j : Nat) : Int)) 110 := vin_iI (by omega) (by omega) (by omega)
    have v2 : vp_in (iI (j : Int)) 3 := vin_iI (by omega) (by omega) (by omega)
    rw [rd_same]
    split
    · trivial
    · split
      · exact ⟨v1, v2, trivial⟩
      · exact ⟨v2, v1, trivial⟩
  · unfold c_X8_moveRow_601_3
    rw [if_pos fin]
    exact fun h => h
  · rw [if_pos fin]
    trivial
  · rw [if_pos fin, kN]
theorem mR_602_1 (h : M.1 600 57 = iI ((8 : Nat) : Int)) : p_X8_moveRow_602 M (6 : Int32) (1 : Int32) ∧ w_X8_moveRow_602 M (6 : Int32) (1 : Int32) = wi (runI M 627 8 6 (fun j => M.1 602 j)) 600 57 (iI ((8 + 6 : Nat) : Int)) := by
  have nm : Int32.toNatClampNeg (6 : Int32) = 6 := by decide
  have key : ∀ j, j ≤ 6 → l_X8_moveRow_602_3 (6 : Int32) (1 : Int32) (M, 0) j = (wi (runI M 627 8 j (fun j => M.1 602 j)) 600 57 (iI ((8 + j : Nat) : Int)), iI (j : Int)) := by
    refine it_for _ ?_ (fun j hj => ?_)
    · rw [runI_0, wi_idm (by rw [h])]; rfl
    · show s_X8_moveRow_602_3 (6 : Int32) (1 : Int32) (wi (runI M 627 8 j (fun j => M.1 602 j)) 600 57 (iI ((8 + j : Nat) : Int)), iI (j : Int)) = _
      unfold s_X8_moveRow_602_3
      dsimp only
      have hlt : ¬ (6 : Int32) ≤ iI (j : Int) := by rw [cl6, iI_le (by omega) (by omega) (by omega) (by omega)]; omega
      rw [if_neg hlt, if_neg (show ¬ (1 : Int32) = 0 by decide), k1_iI, rd_same, natk (n := 8 + j) rfl (by omega), natk (n := j) rfl (by omega), rd_ne (Or.inl (by decide)), runI_n (Or.inl (by decide)), k1_iI, wi_ow (by decide)]
      refine Prod.ext ?_ rfl
      exact congrArg (fun u => wi u 600 57 (iI ((8 + (j + 1) : Nat) : Int))) (runI_s M 627 8 j (fun j => M.1 602 j))
  have kN := key 6 (Nat.le_refl _)
  have fin : (6 : Int32) ≤ (l_X8_moveRow_602_3 (6 : Int32) (1 : Int32) (M, 0) 6).2 := by
    rw [kN]
    show (6 : Int32) ≤ iI ((6 : Nat) : Int)
    decide
  unfold p_X8_moveRow_602 w_X8_moveRow_602
  rw [nm]
  refine ⟨⟨fun j hj => ?_, fun j hj => ?_, ?_, ?_⟩, ?_⟩
  · rw [key j (by omega)]
    unfold c_X8_moveRow_602_3
    dsimp only
    rw [cl6, iteLE (by omega) (by omega) (by omega) (by omega), if_neg (by omega)]
    trivial
  · rw [key j (by omega)]
    unfold q_X8_moveRow_602_3
    dsimp only
    have v1 : vp_in (iI ((8 + j : Nat) : Int)) 110 := vin_iI (by omega) (by omega) (by omega)
    have v2 : vp_in (iI (j : Int)) 6 := vin_iI (by omega) (by omega) (by omega)
    rw [rd_same]
    split
    · trivial
    · split
      · exact ⟨v1, v2, trivial⟩
      · exact ⟨v2, v1, trivial⟩
  · unfold c_X8_moveRow_602_3
    rw [if_pos fin]
    exact fun h => h
  · rw [if_pos fin]
    trivial
  · rw [if_pos fin, kN]
theorem mR_602_0 (h : M.1 600 57 = iI ((8 : Nat) : Int)) : p_X8_moveRow_602 M (6 : Int32) (0 : Int32) ∧ w_X8_moveRow_602 M (6 : Int32) (0 : Int32) = wi (runI M 602 0 6 (fun j => M.1 627 (8 + j))) 600 57 (iI ((8 + 6 : Nat) : Int)) := by
  have nm : Int32.toNatClampNeg (6 : Int32) = 6 := by decide
  have key : ∀ j, j ≤ 6 → l_X8_moveRow_602_3 (6 : Int32) (0 : Int32) (M, 0) j = (wi (runI M 602 0 j (fun j => M.1 627 (8 + j))) 600 57 (iI ((8 + j : Nat) : Int)), iI (j : Int)) := by
    refine it_for _ ?_ (fun j hj => ?_)
    · rw [runI_0, wi_idm (by rw [h])]; rfl
    · show s_X8_moveRow_602_3 (6 : Int32) (0 : Int32) (wi (runI M 602 0 j (fun j => M.1 627 (8 + j))) 600 57 (iI ((8 + j : Nat) : Int)), iI (j : Int)) = _
      unfold s_X8_moveRow_602_3
      dsimp only
      have hlt : ¬ (6 : Int32) ≤ iI (j : Int) := by rw [cl6, iI_le (by omega) (by omega) (by omega) (by omega)]; omega
      have rs := runI_s0 M 602 j (fun j => M.1 627 (8 + j))
      rw [if_neg hlt, if_pos (show (0 : Int32) = 0 from rfl), k1_iI, rd_same, natk (n := 8 + j) rfl (by omega), natk (n := j) rfl (by omega), rd_ne (Or.inl (by decide)), runI_n (Or.inl (by decide)), k1_iI, wi_ow (by decide)]
      refine Prod.ext ?_ rfl
      exact congrArg (fun u => wi u 600 57 (iI ((8 + (j + 1) : Nat) : Int))) rs
  have kN := key 6 (Nat.le_refl _)
  have fin : (6 : Int32) ≤ (l_X8_moveRow_602_3 (6 : Int32) (0 : Int32) (M, 0) 6).2 := by
    rw [kN]
    show (6 : Int32) ≤ iI ((6 : Nat) : Int)
    decide
  unfold p_X8_moveRow_602 w_X8_moveRow_602
  rw [nm]
  refine ⟨⟨fun j hj => ?_, fun j hj => ?_, ?_, ?_⟩, ?_⟩
  · rw [key j (by omega)]
    unfold c_X8_moveRow_602_3
    dsimp only
    rw [cl6, iteLE (by omega) (by omega) (by omega) (by omega), if_neg (by omega)]
    trivial
  · rw [key j (by omega)]
    unfold q_X8_moveRow_602_3
    dsimp only
    have v1 : vp_in (iI ((8 + j : Nat) : Int)) 110 := vin_iI (by omega) (by omega) (by omega)
    have v2 : vp_in (iI (j : Int)) 6 := vin_iI (by omega) (by omega) (by omega)
    rw [rd_same]
    split
    · trivial
    · split
      · exact ⟨v1, v2, trivial⟩
      · exact ⟨v2, v1, trivial⟩
  · unfold c_X8_moveRow_602_3
    rw [if_pos fin]
    exact fun h => h
  · rw [if_pos fin]
    trivial
  · rw [if_pos fin, kN]
theorem mR_603_1 (h : M.1 600 57 = iI ((14 : Nat) : Int)) : p_X8_moveRow_603 M (48 : Int32) (1 : Int32) ∧ w_X8_moveRow_603 M (48 : Int32) (1 : Int32) = wi (runI M 627 14 48 (fun j => M.1 603 j)) 600 57 (iI ((14 + 48 : Nat) : Int)) := by
  have nm : Int32.toNatClampNeg (48 : Int32) = 48 := by decide
  have key : ∀ j, j ≤ 48 → l_X8_moveRow_603_3 (48 : Int32) (1 : Int32) (M, 0) j = (wi (runI M 627 14 j (fun j => M.1 603 j)) 600 57 (iI ((14 + j : Nat) : Int)), iI (j : Int)) := by
    refine it_for _ ?_ (fun j hj => ?_)
    · rw [runI_0, wi_idm (by rw [h])]; rfl
    · show s_X8_moveRow_603_3 (48 : Int32) (1 : Int32) (wi (runI M 627 14 j (fun j => M.1 603 j)) 600 57 (iI ((14 + j : Nat) : Int)), iI (j : Int)) = _
      unfold s_X8_moveRow_603_3
      dsimp only
      have hlt : ¬ (48 : Int32) ≤ iI (j : Int) := by rw [cl48, iI_le (by omega) (by omega) (by omega) (by omega)]; omega
      rw [if_neg hlt, if_neg (show ¬ (1 : Int32) = 0 by decide), k1_iI, rd_same, natk (n := 14 + j) rfl (by omega), natk (n := j) rfl (by omega), rd_ne (Or.inl (by decide)), runI_n (Or.inl (by decide)), k1_iI, wi_ow (by decide)]
      refine Prod.ext ?_ rfl
      exact congrArg (fun u => wi u 600 57 (iI ((14 + (j + 1) : Nat) : Int))) (runI_s M 627 14 j (fun j => M.1 603 j))
  have kN := key 48 (Nat.le_refl _)
  have fin : (48 : Int32) ≤ (l_X8_moveRow_603_3 (48 : Int32) (1 : Int32) (M, 0) 48).2 := by
    rw [kN]
    show (48 : Int32) ≤ iI ((48 : Nat) : Int)
    decide
  unfold p_X8_moveRow_603 w_X8_moveRow_603
  rw [nm]
  refine ⟨⟨fun j hj => ?_, fun j hj => ?_, ?_, ?_⟩, ?_⟩
  · rw [key j (by omega)]
    unfold c_X8_moveRow_603_3
    dsimp only
    rw [cl48, iteLE (by omega) (by omega) (by omega) (by omega), if_neg (by omega)]
    trivial
  · rw [key j (by omega)]
    unfold q_X8_moveRow_603_3
    dsimp only
    have v1 : vp_in (iI ((14 + j : Nat) : Int)) 110 := vin_iI (by omega) (by omega) (by omega)
    have v2 : vp_in (iI (j : Int)) 48 := vin_iI (by omega) (by omega) (by omega)
    rw [rd_same]
    split
    · trivial
    · split
      · exact ⟨v1, v2, trivial⟩
      · exact ⟨v2, v1, trivial⟩
  · unfold c_X8_moveRow_603_3
    rw [if_pos fin]
    exact fun h => h
  · rw [if_pos fin]
    trivial
  · rw [if_pos fin, kN]
theorem mR_603_0 (h : M.1 600 57 = iI ((14 : Nat) : Int)) : p_X8_moveRow_603 M (48 : Int32) (0 : Int32) ∧ w_X8_moveRow_603 M (48 : Int32) (0 : Int32) = wi (runI M 603 0 48 (fun j => M.1 627 (14 + j))) 600 57 (iI ((14 + 48 : Nat) : Int)) := by
  have nm : Int32.toNatClampNeg (48 : Int32) = 48 := by decide
  have key : ∀ j, j ≤ 48 → l_X8_moveRow_603_3 (48 : Int32) (0 : Int32) (M, 0) j = (wi (runI M 603 0 j (fun j => M.1 627 (14 + j))) 600 57 (iI ((14 + j : Nat) : Int)), iI (j : Int)) := by
    refine it_for _ ?_ (fun j hj => ?_)
    · rw [runI_0, wi_idm (by rw [h])]; rfl
    · show s_X8_moveRow_603_3 (48 : Int32) (0 : Int32) (wi (runI M 603 0 j (fun j => M.1 627 (14 + j))) 600 57 (iI ((14 + j : Nat) : Int)), iI (j : Int)) = _
      unfold s_X8_moveRow_603_3
      dsimp only
      have hlt : ¬ (48 : Int32) ≤ iI (j : Int) := by rw [cl48, iI_le (by omega) (by omega) (by omega) (by omega)]; omega
      have rs := runI_s0 M 603 j (fun j => M.1 627 (14 + j))
      rw [if_neg hlt, if_pos (show (0 : Int32) = 0 from rfl), k1_iI, rd_same, natk (n := 14 + j) rfl (by omega), natk (n := j) rfl (by omega), rd_ne (Or.inl (by decide)), runI_n (Or.inl (by decide)), k1_iI, wi_ow (by decide)]
      refine Prod.ext ?_ rfl
      exact congrArg (fun u => wi u 600 57 (iI ((14 + (j + 1) : Nat) : Int))) rs
  have kN := key 48 (Nat.le_refl _)
  have fin : (48 : Int32) ≤ (l_X8_moveRow_603_3 (48 : Int32) (0 : Int32) (M, 0) 48).2 := by
    rw [kN]
    show (48 : Int32) ≤ iI ((48 : Nat) : Int)
    decide
  unfold p_X8_moveRow_603 w_X8_moveRow_603
  rw [nm]
  refine ⟨⟨fun j hj => ?_, fun j hj => ?_, ?_, ?_⟩, ?_⟩
  · rw [key j (by omega)]
    unfold c_X8_moveRow_603_3
    dsimp only
    rw [cl48, iteLE (by omega) (by omega) (by omega) (by omega), if_neg (by omega)]
    trivial
  · rw [key j (by omega)]
    unfold q_X8_moveRow_603_3
    dsimp only
    have v1 : vp_in (iI ((14 + j : Nat) : Int)) 110 := vin_iI (by omega) (by omega) (by omega)
    have v2 : vp_in (iI (j : Int)) 48 := vin_iI (by omega) (by omega) (by omega)
    rw [rd_same]
    split
    · trivial
    · split
      · exact ⟨v1, v2, trivial⟩
      · exact ⟨v2, v1, trivial⟩
  · unfold c_X8_moveRow_603_3
    rw [if_pos fin]
    exact fun h => h
  · rw [if_pos fin]
    trivial
  · rw [if_pos fin, kN]
theorem mR_604_1 (h : M.1 600 57 = iI ((62 : Nat) : Int)) : p_X8_moveRow_604 M (4 : Int32) (1 : Int32) ∧ w_X8_moveRow_604 M (4 : Int32) (1 : Int32) = wi (runI M 627 62 4 (fun j => M.1 604 j)) 600 57 (iI ((62 + 4 : Nat) : Int)) := by
  have nm : Int32.toNatClampNeg (4 : Int32) = 4 := by decide
  have key : ∀ j, j ≤ 4 → l_X8_moveRow_604_3 (4 : Int32) (1 : Int32) (M, 0) j = (wi (runI M 627 62 j (fun j => M.1 604 j)) 600 57 (iI ((62 + j : Nat) : Int)), iI (j : Int)) := by
    refine it_for _ ?_ (fun j hj => ?_)
    · rw [runI_0, wi_idm (by rw [h])]; rfl
    · show s_X8_moveRow_604_3 (4 : Int32) (1 : Int32) (wi (runI M 627 62 j (fun j => M.1 604 j)) 600 57 (iI ((62 + j : Nat) : Int)), iI (j : Int)) = _
      unfold s_X8_moveRow_604_3
      dsimp only
      have hlt : ¬ (4 : Int32) ≤ iI (j : Int) := by rw [cl4, iI_le (by omega) (by omega) (by omega) (by omega)]; omega
      rw [if_neg hlt, if_neg (show ¬ (1 : Int32) = 0 by decide), k1_iI, rd_same, natk (n := 62 + j) rfl (by omega), natk (n := j) rfl (by omega), rd_ne (Or.inl (by decide)), runI_n (Or.inl (by decide)), k1_iI, wi_ow (by decide)]
      refine Prod.ext ?_ rfl
      exact congrArg (fun u => wi u 600 57 (iI ((62 + (j + 1) : Nat) : Int))) (runI_s M 627 62 j (fun j => M.1 604 j))
  have kN := key 4 (Nat.le_refl _)
  have fin : (4 : Int32) ≤ (l_X8_moveRow_604_3 (4 : Int32) (1 : Int32) (M, 0) 4).2 := by
    rw [kN]
    show (4 : Int32) ≤ iI ((4 : Nat) : Int)
    decide
  unfold p_X8_moveRow_604 w_X8_moveRow_604
  rw [nm]
  refine ⟨⟨fun j hj => ?_, fun j hj => ?_, ?_, ?_⟩, ?_⟩
  · rw [key j (by omega)]
    unfold c_X8_moveRow_604_3
    dsimp only
    rw [cl4, iteLE (by omega) (by omega) (by omega) (by omega), if_neg (by omega)]
    trivial
  · rw [key j (by omega)]
    unfold q_X8_moveRow_604_3
    dsimp only
    have v1 : vp_in (iI ((62 + j : Nat) : Int)) 110 := vin_iI (by omega) (by omega) (by omega)
    have v2 : vp_in (iI (j : Int)) 4 := vin_iI (by omega) (by omega) (by omega)
    rw [rd_same]
    split
    · trivial
    · split
      · exact ⟨v1, v2, trivial⟩
      · exact ⟨v2, v1, trivial⟩
  · unfold c_X8_moveRow_604_3
    rw [if_pos fin]
    exact fun h => h
  · rw [if_pos fin]
    trivial
  · rw [if_pos fin, kN]
theorem mR_604_0 (h : M.1 600 57 = iI ((62 : Nat) : Int)) : p_X8_moveRow_604 M (4 : Int32) (0 : Int32) ∧ w_X8_moveRow_604 M (4 : Int32) (0 : Int32) = wi (runI M 604 0 4 (fun j => M.1 627 (62 + j))) 600 57 (iI ((62 + 4 : Nat) : Int)) := by
  have nm : Int32.toNatClampNeg (4 : Int32) = 4 := by decide
  have key : ∀ j, j ≤ 4 → l_X8_moveRow_604_3 (4 : Int32) (0 : Int32) (M, 0) j = (wi (runI M 604 0 j (fun j => M.1 627 (62 + j))) 600 57 (iI ((62 + j : Nat) : Int)), iI (j : Int)) := by
    refine it_for _ ?_ (fun j hj => ?_)
    · rw [runI_0, wi_idm (by rw [h])]; rfl
    · show s_X8_moveRow_604_3 (4 : Int32) (0 : Int32) (wi (runI M 604 0 j (fun j => M.1 627 (62 + j))) 600 57 (iI ((62 + j : Nat) : Int)), iI (j : Int)) = _
      unfold s_X8_moveRow_604_3
      dsimp only
      have hlt : ¬ (4 : Int32) ≤ iI (j : Int) := by rw [cl4, iI_le (by omega) (by omega) (by omega) (by omega)]; omega
      have rs := runI_s0 M 604 j (fun j => M.1 627 (62 + j))
      rw [if_neg hlt, if_pos (show (0 : Int32) = 0 from rfl), k1_iI, rd_same, natk (n := 62 + j) rfl (by omega), natk (n := j) rfl (by omega), rd_ne (Or.inl (by decide)), runI_n (Or.inl (by decide)), k1_iI, wi_ow (by decide)]
      refine Prod.ext ?_ rfl
      exact congrArg (fun u => wi u 600 57 (iI ((62 + (j + 1) : Nat) : Int))) rs
  have kN := key 4 (Nat.le_refl _)
  have fin : (4 : Int32) ≤ (l_X8_moveRow_604_3 (4 : Int32) (0 : Int32) (M, 0) 4).2 := by
    rw [kN]
    show (4 : Int32) ≤ iI ((4 : Nat) : Int)
    decide
  unfold p_X8_moveRow_604 w_X8_moveRow_604
  rw [nm]
  refine ⟨⟨fun j hj => ?_, fun j hj => ?_, ?_, ?_⟩, ?_⟩
  · rw [key j (by omega)]
    unfold c_X8_moveRow_604_3
    dsimp only
    rw [cl4, iteLE (by omega) (by omega) (by omega) (by omega), if_neg (by omega)]
    trivial
  · rw [key j (by omega)]
    unfold q_X8_moveRow_604_3
    dsimp only
    have v1 : vp_in (iI ((62 + j : Nat) : Int)) 110 := vin_iI (by omega) (by omega) (by omega)
    have v2 : vp_in (iI (j : Int)) 4 := vin_iI (by omega) (by omega) (by omega)
    rw [rd_same]
    split
    · trivial
    · split
      · exact ⟨v1, v2, trivial⟩
      · exact ⟨v2, v1, trivial⟩
  · unfold c_X8_moveRow_604_3
    rw [if_pos fin]
    exact fun h => h
  · rw [if_pos fin]
    trivial
  · rw [if_pos fin, kN]
theorem mR_607_1 (h : M.1 600 57 = iI ((66 : Nat) : Int)) : p_X8_moveRow_607 M (22 : Int32) (1 : Int32) ∧ w_X8_moveRow_607 M (22 : Int32) (1 : Int32) = wi (runI M 627 66 22 (fun j => M.1 607 j)) 600 57 (iI ((66 + 22 : Nat) : Int)) := by
  have nm : Int32.toNatClampNeg (22 : Int32) = 22 := by decide
  have key : ∀ j, j ≤ 22 → l_X8_moveRow_607_3 (22 : Int32) (1 : Int32) (M, 0) j = (wi (runI M 627 66 j (fun j => M.1 607 j)) 600 57 (iI ((66 + j : Nat) : Int)), iI (j : Int)) := by
    refine it_for _ ?_ (fun j hj => ?_)
    · rw [runI_0, wi_idm (by rw [h])]; rfl
    · show s_X8_moveRow_607_3 (22 : Int32) (1 : Int32) (wi (runI M 627 66 j (fun j => M.1 607 j)) 600 57 (iI ((66 + j : Nat) : Int)), iI (j : Int)) = _
      unfold s_X8_moveRow_607_3
      dsimp only
      have hlt : ¬ (22 : Int32) ≤ iI (j : Int) := by rw [cl22, iI_le (by omega) (by omega) (by omega) (by omega)]; omega
      rw [if_neg hlt, if_neg (show ¬ (1 : Int32) = 0 by decide), k1_iI, rd_same, natk (n := 66 + j) rfl (by omega), natk (n := j) rfl (by omega), rd_ne (Or.inl (by decide)), runI_n (Or.inl (by decide)), k1_iI, wi_ow (by decide)]
      refine Prod.ext ?_ rfl
      exact congrArg (fun u => wi u 600 57 (iI ((66 + (j + 1) : Nat) : Int))) (runI_s M 627 66 j (fun j => M.1 607 j))
  have kN := key 22 (Nat.le_refl _)
  have fin : (22 : Int32) ≤ (l_X8_moveRow_607_3 (22 : Int32) (1 : Int32) (M, 0) 22).2 := by
    rw [kN]
    show (22 : Int32) ≤ iI ((22 : Nat) : Int)
    decide
  unfold p_X8_moveRow_607 w_X8_moveRow_607
  rw [nm]
  refine ⟨⟨fun j hj => ?_, fun j hj => ?_, ?_, ?_⟩, ?_⟩
  · rw [key j (by omega)]
    unfold c_X8_moveRow_607_3
    dsimp only
    rw [cl22, iteLE (by omega) (by omega) (by omega) (by omega), if_neg (by omega)]
    trivial
  · rw [key j (by omega)]
    unfold q_X8_moveRow_607_3
    dsimp only
    have v1 : vp_in (iI ((66 + j : Nat) : Int)) 110 := vin_iI (by omega) (by omega) (by omega)
    have v2 : vp_in (iI (j : Int)) 44 := vin_iI (by omega) (by omega) (by omega)
    rw [rd_same]
    split
    · trivial
    · split
      · exact ⟨v1, v2, trivial⟩
      · exact ⟨v2, v1, trivial⟩
  · unfold c_X8_moveRow_607_3
    rw [if_pos fin]
    exact fun h => h
  · rw [if_pos fin]
    trivial
  · rw [if_pos fin, kN]
theorem mR_607_0 (h : M.1 600 57 = iI ((66 : Nat) : Int)) : p_X8_moveRow_607 M (22 : Int32) (0 : Int32) ∧ w_X8_moveRow_607 M (22 : Int32) (0 : Int32) = wi (runI M 607 0 22 (fun j => M.1 627 (66 + j))) 600 57 (iI ((66 + 22 : Nat) : Int)) := by
  have nm : Int32.toNatClampNeg (22 : Int32) = 22 := by decide
  have key : ∀ j, j ≤ 22 → l_X8_moveRow_607_3 (22 : Int32) (0 : Int32) (M, 0) j = (wi (runI M 607 0 j (fun j => M.1 627 (66 + j))) 600 57 (iI ((66 + j : Nat) : Int)), iI (j : Int)) := by
    refine it_for _ ?_ (fun j hj => ?_)
    · rw [runI_0, wi_idm (by rw [h])]; rfl
    · show s_X8_moveRow_607_3 (22 : Int32) (0 : Int32) (wi (runI M 607 0 j (fun j => M.1 627 (66 + j))) 600 57 (iI ((66 + j : Nat) : Int)), iI (j : Int)) = _
      unfold s_X8_moveRow_607_3
      dsimp only
      have hlt : ¬ (22 : Int32) ≤ iI (j : Int) := by rw [cl22, iI_le (by omega) (by omega) (by omega) (by omega)]; omega
      have rs := runI_s0 M 607 j (fun j => M.1 627 (66 + j))
      rw [if_neg hlt, if_pos (show (0 : Int32) = 0 from rfl), k1_iI, rd_same, natk (n := 66 + j) rfl (by omega), natk (n := j) rfl (by omega), rd_ne (Or.inl (by decide)), runI_n (Or.inl (by decide)), k1_iI, wi_ow (by decide)]
      refine Prod.ext ?_ rfl
      exact congrArg (fun u => wi u 600 57 (iI ((66 + (j + 1) : Nat) : Int))) rs
  have kN := key 22 (Nat.le_refl _)
  have fin : (22 : Int32) ≤ (l_X8_moveRow_607_3 (22 : Int32) (0 : Int32) (M, 0) 22).2 := by
    rw [kN]
    show (22 : Int32) ≤ iI ((22 : Nat) : Int)
    decide
  unfold p_X8_moveRow_607 w_X8_moveRow_607
  rw [nm]
  refine ⟨⟨fun j hj => ?_, fun j hj => ?_, ?_, ?_⟩, ?_⟩
  · rw [key j (by omega)]
    unfold c_X8_moveRow_607_3
    dsimp only
    rw [cl22, iteLE (by omega) (by omega) (by omega) (by omega), if_neg (by omega)]
    trivial
  · rw [key j (by omega)]
    unfold q_X8_moveRow_607_3
    dsimp only
    have v1 : vp_in (iI ((66 + j : Nat) : Int)) 110 := vin_iI (by omega) (by omega) (by omega)
    have v2 : vp_in (iI (j : Int)) 44 := vin_iI (by omega) (by omega) (by omega)
    rw [rd_same]
    split
    · trivial
    · split
      · exact ⟨v1, v2, trivial⟩
      · exact ⟨v2, v1, trivial⟩
  · unfold c_X8_moveRow_607_3
    rw [if_pos fin]
    exact fun h => h
  · rw [if_pos fin]
    trivial
  · rw [if_pos fin, kN]
theorem mR_608_1 (h : M.1 600 57 = iI ((88 : Nat) : Int)) : p_X8_moveRow_608 M (8 : Int32) (1 : Int32) ∧ w_X8_moveRow_608 M (8 : Int32) (1 : Int32) = wi (runI M 627 88 8 (fun j => M.1 608 j)) 600 57 (iI ((88 + 8 : Nat) : Int)) := by
  have nm : Int32.toNatClampNeg (8 : Int32) = 8 := by decide
  have key : ∀ j, j ≤ 8 → l_X8_moveRow_608_3 (8 : Int32) (1 : Int32) (M, 0) j = (wi (runI M 627 88 j (fun j => M.1 608 j)) 600 57 (iI ((88 + j : Nat) : Int)), iI (j : Int)) := by
    refine it_for _ ?_ (fun j hj => ?_)
    · rw [runI_0, wi_idm (by rw [h])]; rfl
    · show s_X8_moveRow_608_3 (8 : Int32) (1 : Int32) (wi (runI M 627 88 j (fun j => M.1 608 j)) 600 57 (iI ((88 + j : Nat) : Int)), iI (j : Int)) = _
      unfold s_X8_moveRow_608_3
      dsimp only
      have hlt : ¬ (8 : Int32) ≤ iI (j : Int) := by rw [cl8, iI_le (by omega) (by omega) (by omega) (by omega)]; omega
      rw [if_neg hlt, if_neg (show ¬ (1 : Int32) = 0 by decide), k1_iI, rd_same, natk (n := 88 + j) rfl (by omega), natk (n := j) rfl (by omega), rd_ne (Or.inl (by decide)), runI_n (Or.inl (by decide)), k1_iI, wi_ow (by decide)]
      refine Prod.ext ?_ rfl
      exact congrArg (fun u => wi u 600 57 (iI ((88 + (j + 1) : Nat) : Int))) (runI_s M 627 88 j (fun j => M.1 608 j))
  have kN := key 8 (Nat.le_refl _)
  have fin : (8 : Int32) ≤ (l_X8_moveRow_608_3 (8 : Int32) (1 : Int32) (M, 0) 8).2 := by
    rw [kN]
    show (8 : Int32) ≤ iI ((8 : Nat) : Int)
    decide
  unfold p_X8_moveRow_608 w_X8_moveRow_608
  rw [nm]
  refine ⟨⟨fun j hj => ?_, fun j hj => ?_, ?_, ?_⟩, ?_⟩
  · rw [key j (by omega)]
    unfold c_X8_moveRow_608_3
    dsimp only
    rw [cl8, iteLE (by omega) (by omega) (by omega) (by omega), if_neg (by omega)]
    trivial
  · rw [key j (by omega)]
    unfold q_X8_moveRow_608_3
    dsimp only
    have v1 : vp_in (iI ((88 + j : Nat) : Int)) 110 := vin_iI (by omega) (by omega) (by omega)
    have v2 : vp_in (iI (j : Int)) 8 := vin_iI (by omega) (by omega) (by omega)
    rw [rd_same]
    split
    · trivial
    · split
      · exact ⟨v1, v2, trivial⟩
      · exact ⟨v2, v1, trivial⟩
  · unfold c_X8_moveRow_608_3
    rw [if_pos fin]
    exact fun h => h
  · rw [if_pos fin]
    trivial
  · rw [if_pos fin, kN]
theorem mR_608_0 (h : M.1 600 57 = iI ((88 : Nat) : Int)) : p_X8_moveRow_608 M (8 : Int32) (0 : Int32) ∧ w_X8_moveRow_608 M (8 : Int32) (0 : Int32) = wi (runI M 608 0 8 (fun j => M.1 627 (88 + j))) 600 57 (iI ((88 + 8 : Nat) : Int)) := by
  have nm : Int32.toNatClampNeg (8 : Int32) = 8 := by decide
  have key : ∀ j, j ≤ 8 → l_X8_moveRow_608_3 (8 : Int32) (0 : Int32) (M, 0) j = (wi (runI M 608 0 j (fun j => M.1 627 (88 + j))) 600 57 (iI ((88 + j : Nat) : Int)), iI (j : Int)) := by
    refine it_for _ ?_ (fun j hj => ?_)
    · rw [runI_0, wi_idm (by rw [h])]; rfl
    · show s_X8_moveRow_608_3 (8 : Int32) (0 : Int32) (wi (runI M 608 0 j (fun j => M.1 627 (88 + j))) 600 57 (iI ((88 + j : Nat) : Int)), iI (j : Int)) = _
      unfold s_X8_moveRow_608_3
      dsimp only
      have hlt : ¬ (8 : Int32) ≤ iI (j : Int) := by rw [cl8, iI_le (by omega) (by omega) (by omega) (by omega)]; omega
      have rs := runI_s0 M 608 j (fun j => M.1 627 (88 + j))
      rw [if_neg hlt, if_pos (show (0 : Int32) = 0 from rfl), k1_iI, rd_same, natk (n := 88 + j) rfl (by omega), natk (n := j) rfl (by omega), rd_ne (Or.inl (by decide)), runI_n (Or.inl (by decide)), k1_iI, wi_ow (by decide)]
      refine Prod.ext ?_ rfl
      exact congrArg (fun u => wi u 600 57 (iI ((88 + (j + 1) : Nat) : Int))) rs
  have kN := key 8 (Nat.le_refl _)
  have fin : (8 : Int32) ≤ (l_X8_moveRow_608_3 (8 : Int32) (0 : Int32) (M, 0) 8).2 := by
    rw [kN]
    show (8 : Int32) ≤ iI ((8 : Nat) : Int)
    decide
  unfold p_X8_moveRow_608 w_X8_moveRow_608
  rw [nm]
  refine ⟨⟨fun j hj => ?_, fun j hj => ?_, ?_, ?_⟩, ?_⟩
  · rw [key j (by omega)]
    unfold c_X8_moveRow_608_3
    dsimp only
    rw [cl8, iteLE (by omega) (by omega) (by omega) (by omega), if_neg (by omega)]
    trivial
  · rw [key j (by omega)]
    unfold q_X8_moveRow_608_3
    dsimp only
    have v1 : vp_in (iI ((88 + j : Nat) : Int)) 110 := vin_iI (by omega) (by omega) (by omega)
    have v2 : vp_in (iI (j : Int)) 8 := vin_iI (by omega) (by omega) (by omega)
    rw [rd_same]
    split
    · trivial
    · split
      · exact ⟨v1, v2, trivial⟩
      · exact ⟨v2, v1, trivial⟩
  · unfold c_X8_moveRow_608_3
    rw [if_pos fin]
    exact fun h => h
  · rw [if_pos fin]
    trivial
  · rw [if_pos fin, kN]
theorem mA_1 : p_X8_moveAll M (1 : Int32) ∧
    ((w_X8_moveAll M (1 : Int32)).1 627 0 = M.1 600 0 ∧ (w_X8_moveAll M (1 : Int32)).1 627 1 = M.1 600 1 ∧ (w_X8_moveAll M (1 : Int32)).1 627 2 = M.1 600 2 ∧ (w_X8_moveAll M (1 : Int32)).1 627 3 = M.1 600 11 ∧ (w_X8_moveAll M (1 : Int32)).1 627 4 = M.1 600 12) ∧ (∀ j, j < 3 → (w_X8_moveAll M (1 : Int32)).1 627 (5 + j) = M.1 601 j) ∧ (∀ j, j < 6 → (w_X8_moveAll M (1 : Int32)).1 627 (8 + j) = M.1 602 j) ∧ (∀ j, j < 48 → (w_X8_moveAll M (1 : Int32)).1 627 (14 + j) = M.1 603 j) ∧ (∀ j, j < 4 → (w_X8_moveAll M (1 : Int32)).1 627 (62 + j) = M.1 604 j) ∧ (∀ j, j < 22 → (w_X8_moveAll M (1 : Int32)).1 627 (66 + j) = M.1 607 j) ∧ (∀ j, j < 8 → (w_X8_moveAll M (1 : Int32)).1 627 (88 + j) = M.1 608 j) ∧ Fp (fun a k => (a = 600 ∧ k = 57) ∨ a = 627 ∨ a = 628) M (w_X8_moveAll M (1 : Int32)) := by
  unfold p_X8_moveAll w_X8_moveAll
  obtain ⟨M0, hM0⟩ : ∃ M0, M0 = wi (wi (wi (wi (wi (wi M 600 57 0) 628 0 (M.1 600 0)) 628 1 (M.1 600 1)) 628 2 (M.1 600 2)) 628 3 (M.1 600 11)) 628 4 (M.1 600 12) := ⟨_, rfl⟩
  rw [← hM0]
  have a0 : M0.1 600 57 = iI ((0 : Nat) : Int) := by rw [hM0, rd_ne (Or.inl (by decide)), rd_ne (Or.inl (by decide)), rd_ne (Or.inl (by decide)), rd_ne (Or.inl (by decide)), rd_ne (Or.inl (by decide)), rd_same]; rfl
  have F0 : Fp (fun a k => (a = 600 ∧ k = 57) ∨ a = 628) M M0 := by
    rw [hM0]
    exact Fp.wi (Fp.wi (Fp.wi (Fp.wi (Fp.wi (Fp.wi Fp.rf (by omega)) (by omega)) (by omega)) (by omega)) (by omega)) (by omega)
  have b0 : M0.1 628 0 = M.1 600 0 := by rw [hM0, rd_ne (Or.inr (by decide)), rd_ne (Or.inr (by decide)), rd_ne (Or.inr (by decide)), rd_ne (Or.inr (by decide)), rd_same]
  have b1 : M0.1 628 1 = M.1 600 1 := by rw [hM0, rd_ne (Or.inr (by decide)), rd_ne (Or.inr (by decide)), rd_ne (Or.inr (by decide)), rd_same]
  have b2 : M0.1 628 2 = M.1 600 2 := by rw [hM0, rd_ne (Or.inr (by decide)), rd_ne (Or.inr (by decide)), rd_same]
  have b3 : M0.1 628 3 = M.1 600 11 := by rw [hM0, rd_ne (Or.inr (by decide)), rd_same]
  have b4 : M0.1 628 4 = M.1 600 12 := by rw [hM0, rd_same]
  clear hM0
  obtain ⟨p1, w1⟩ := mR_628_1 (M := M0) a0
  obtain ⟨M1, hM1⟩ : ∃ M1, M1 = w_X8_moveRow_628 M0 (5 : Int32) (1 : Int32) := ⟨_, rfl⟩
  rw [← hM1] at w1
  rw [← hM1]
  have a1 : M1.1 600 57 = iI ((5 : Nat) : Int) := by rw [w1]; exact rd_same _ _ _ _
  have u1 : ∀ j, j < 5 → M1.1 627 (0 + j) = M0.1 628 j := fun j hj => by rw [w1, rd_ne (Or.inl (by decide)), runI_y (by omega) (by omega), Nat.add_sub_cancel_left]
  have v1 : ∀ a k, ¬ ((a = 600 ∧ k = 57) ∨ (a = 627 ∧ 0 ≤ k ∧ k < 5)) → M1.1 a k = M0.1 a k := fun a k hq => by rw [w1, rd_ne (by omega), runI_n (by omega)]
  have s1 : M1.2 = M0.2 := by rw [w1]; rfl
  clear hM1 w1
  obtain ⟨p2, w2⟩ := mR_601_1 (M := M1) a1
  obtain ⟨M2, hM2⟩ : ∃ M2, M2 = w_X8_moveRow_601 M1 (3 : Int32) (1 : Int32) := ⟨_, rfl⟩
  rw [← hM2] at w2
  rw [← hM2]
  have a2 : M2.1 600 57 = iI ((8 : Nat) : Int) := by rw [w2]; exact rd_same _ _ _ _
  have u2 : ∀ j, j < 3 → M2.1 627 (5 + j) = M1.1 601 j := fun j hj => by rw [w2, rd_ne (Or.inl (by decide)), runI_y (by omega) (by omega), Nat.add_sub_cancel_left]
  have v2 : ∀ a k, ¬ ((a = 600 ∧ k = 57) ∨ (a = 627 ∧ 5 ≤ k ∧ k < 8)) → M2.1 a k = M1.1 a k := fun a k hq => by rw [w2, rd_ne (by omega), runI_n (by omega)]
  have s2 : M2.2 = M1.2 := by rw [w2]; rfl
  clear hM2 w2
  obtain ⟨p3, w3⟩ := mR_602_1 (M := M2) a2
  obtain ⟨M3, hM3⟩ : ∃ M3, M3 = w_X8_moveRow_602 M2 (6 : Int32) (1 : Int32) := ⟨_, rfl⟩
  rw [← hM3] at w3
  rw [← hM3]
  have a3 : M3.1 600 57 = iI ((14 : Nat) : Int) := by rw [w3]; exact rd_same _ _ _ _
  have u3 : ∀ j, j < 6 → M3.1 627 (8 + j) = M2.1 602 j := fun j hj => by rw [w3, rd_ne (Or.inl (by decide)), runI_y (by omega) (by omega), Nat.add_sub_cancel_left]
  have v3 : ∀ a k, ¬ ((a = 600 ∧ k = 57) ∨ (a = 627 ∧ 8 ≤ k ∧ k < 14)) → M3.1 a k = M2.1 a k := fun a k hq => by rw [w3, rd_ne (by omega), runI_n (by omega)]
  have s3 : M3.2 = M2.2 := by rw [w3]; rfl
  clear hM3 w3
  obtain ⟨p4, w4⟩ := mR_603_1 (M := M3) a3
  obtain ⟨M4, hM4⟩ : ∃ M4, M4 = w_X8_moveRow_603 M3 (48 : Int32) (1 : Int32) := ⟨_, rfl⟩
  rw [← hM4] at w4
  rw [← hM4]
  have a4 : M4.1 600 57 = iI ((62 : Nat) : Int) := by rw [w4]; exact rd_same _ _ _ _
  have u4 : ∀ j, j < 48 → M4.1 627 (14 + j) = M3.1 603 j := fun j hj => by rw [w4, rd_ne (Or.inl (by decide)), runI_y (by omega) (by omega), Nat.add_sub_cancel_left]
  have v4 : ∀ a k, ¬ ((a = 600 ∧ k = 57) ∨ (a = 627 ∧ 14 ≤ k ∧ k < 62)) → M4.1 a k = M3.1 a k := fun a k hq => by rw [w4, rd_ne (by omega), runI_n (by omega)]
  have s4 : M4.2 = M3.2 := by rw [w4]; rfl
  clear hM4 w4
  obtain ⟨p5, w5⟩ := mR_604_1 (M := M4) a4
  obtain ⟨M5, hM5⟩ : ∃ M5, M5 = w_X8_moveRow_604 M4 (4 : Int32) (1 : Int32) := ⟨_, rfl⟩
  rw [← hM5] at w5
  rw [← hM5]
  have a5 : M5.1 600 57 = iI ((66 : Nat) : Int) := by rw [w5]; exact rd_same _ _ _ _
  have u5 : ∀ j, j < 4 → M5.1 627 (62 + j) = M4.1 604 j := fun j hj => by rw [w5, rd_ne (Or.inl (by decide)), runI_y (by omega) (by omega), Nat.add_sub_cancel_left]
  have v5 : ∀ a k, ¬ ((a = 600 ∧ k = 57) ∨ (a = 627 ∧ 62 ≤ k ∧ k < 66)) → M5.1 a k = M4.1 a k := fun a k hq => by rw [w5, rd_ne (by omega), runI_n (by omega)]
  have s5 : M5.2 = M4.2 := by rw [w5]; rfl
  clear hM5 w5
  obtain ⟨p6, w6⟩ := mR_607_1 (M := M5) a5
  obtain ⟨M6, hM6⟩ : ∃ M6, M6 = w_X8_moveRow_607 M5 (22 : Int32) (1 : Int32) := ⟨_, rfl⟩
  rw [← hM6] at w6
  rw [← hM6]
  have a6 : M6.1 600 57 = iI ((88 : Nat) : Int) := by rw [w6]; exact rd_same _ _ _ _
  have u6 : ∀ j, j < 22 → M6.1 627 (66 + j) = M5.1 607 j := fun j hj => by rw [w6, rd_ne (Or.inl (by decide)), runI_y (by omega) (by omega), Nat.add_sub_cancel_left]
  have v6 : ∀ a k, ¬ ((a = 600 ∧ k = 57) ∨ (a = 627 ∧ 66 ≤ k ∧ k < 88)) → M6.1 a k = M5.1 a k := fun a k hq => by rw [w6, rd_ne (by omega), runI_n (by omega)]
  have s6 : M6.2 = M5.2 := by rw [w6]; rfl
  clear hM6 w6
  obtain ⟨p7, w7⟩ := mR_608_1 (M := M6) a6
  obtain ⟨M7, hM7⟩ : ∃ M7, M7 = w_X8_moveRow_608 M6 (8 : Int32) (1 : Int32) := ⟨_, rfl⟩
  rw [← hM7] at w7
  rw [← hM7]
  have a7 : M7.1 600 57 = iI ((96 : Nat) : Int) := by rw [w7]; exact rd_same _ _ _ _
  have u7 : ∀ j, j < 8 → M7.1 627 (88 + j) = M6.1 608 j := fun j hj => by rw [w7, rd_ne (Or.inl (by decide)), runI_y (by omega) (by omega), Nat.add_sub_cancel_left]
  have v7 : ∀ a k, ¬ ((a = 600 ∧ k = 57) ∨ (a = 627 ∧ 88 ≤ k ∧ k < 96)) → M7.1 a k = M6.1 a k := fun a k hq => by rw [w7, rd_ne (by omega), runI_n (by omega)]
  have s7 : M7.2 = M6.2 := by rw [w7]; rfl
  clear hM7 w7
  refine ⟨⟨p1, p2, p3, p4, p5, p6, p7, trivial⟩, ?_, ?_, ?_, ?_, ?_, ?_, ?_, fun a k hq => ⟨?_, ?_⟩⟩
  · refine ⟨?_, ?_, ?_, ?_, ?_⟩
    · rw [v7 _ _ (by omega), v6 _ _ (by omega), v5 _ _ (by omega), v4 _ _ (by omega), v3 _ _ (by omega), v2 _ _ (by omega), show (0 : Nat) = 0 + 0 from rfl, u1 0 (by omega)]; exact b0
    · rw [v7 _ _ (by omega), v6 _ _ (by omega), v5 _ _ (by omega), v4 _ _ (by omega), v3 _ _ (by omega), v2 _ _ (by omega), show (1 : Nat) = 0 + 1 from rfl, u1 1 (by omega)]; exact b1
    · rw [v7 _ _ (by omega), v6 _ _ (by omega), v5 _ _ (by omega), v4 _ _ (by omega), v3 _ _ (by omega), v2 _ _ (by omega), show (2 : Nat) = 0 + 2 from rfl, u1 2 (by omega)]; exact b2
    · rw [v7 _ _ (by omega), v6 _ _ (by omega), v5 _ _ (by omega), v4 _ _ (by omega), v3 _ _ (by omega), v2 _ _ (by omega), show (3 : Nat) = 0 + 3 from rfl, u1 3 (by omega)]; exact b3
    · rw [v7 _ _ (by omega), v6 _ _ (by omega), v5 _ _ (by omega), v4 _ _ (by omega), v3 _ _ (by omega), v2 _ _ (by omega), show (4 : Nat) = 0 + 4 from rfl, u1 4 (by omega)]; exact b4
  · intro j hj
    rw [v7 _ _ (by omega), v6 _ _ (by omega), v5 _ _ (by omega), v4 _ _ (by omega), v3 _ _ (by omega), u2 j hj, v1 _ _ (by omega), (F0 _ _ (by omega)).1]
  · intro j hj
    rw [v7 _ _ (by omega), v6 _ _ (by omega), v5 _ _ (by omega), v4 _ _ (by omega), u3 j hj, v2 _ _ (by omega), v1 _ _ (by omega), (F0 _ _ (by omega)).1]
  · intro j hj
    rw [v7 _ _ (by omega), v6 _ _ (by omega), v5 _ _ (by omega), u4 j hj, v3 _ _ (by omega), v2 _ _ (by omega), v1 _ _ (by omega), (F0 _ _ (by omega)).1]
  · intro j hj
    rw [v7 _ _ (by omega), v6 _ _ (by omega), u5 j hj, v4 _ _ (by omega), v3 _ _ (by omega), v2 _ _ (by omega), v1 _ _ (by omega), (F0 _ _ (by omega)).1]
  · intro j hj
    rw [v7 _ _ (by omega), u6 j hj, v5 _ _ (by omega), v4 _ _ (by omega), v3 _ _ (by omega), v2 _ _ (by omega), v1 _ _ (by omega), (F0 _ _ (by omega)).1]
  · intro j hj
    rw [u7 j hj, v6 _ _ (by omega), v5 _ _ (by omega), v4 _ _ (by omega), v3 _ _ (by omega), v2 _ _ (by omega), v1 _ _ (by omega), (F0 _ _ (by omega)).1]
  · rw [v7 _ _ (by omega), v6 _ _ (by omega), v5 _ _ (by omega), v4 _ _ (by omega), v3 _ _ (by omega), v2 _ _ (by omega), v1 _ _ (by omega), (F0 _ _ (by omega)).1]
  · rw [s7, s6, s5, s4, s3, s2, s1, (F0 a k (by omega)).2]
theorem mA_0 : p_X8_moveAll M (0 : Int32) ∧
    (∀ j, j < 5 → (w_X8_moveAll M (0 : Int32)).1 628 j = M.1 627 j) ∧ (∀ j, j < 3 → (w_X8_moveAll M (0 : Int32)).1 601 j = M.1 627 (5 + j)) ∧ (∀ j, j < 6 → (w_X8_moveAll M (0 : Int32)).1 602 j = M.1 627 (8 + j)) ∧ (∀ j, j < 48 → (w_X8_moveAll M (0 : Int32)).1 603 j = M.1 627 (14 + j)) ∧ (∀ j, j < 4 → (w_X8_moveAll M (0 : Int32)).1 604 j = M.1 627 (62 + j)) ∧ (∀ j, j < 22 → (w_X8_moveAll M (0 : Int32)).1 607 j = M.1 627 (66 + j)) ∧ (∀ j, j < 8 → (w_X8_moveAll M (0 : Int32)).1 608 j = M.1 627 (88 + j)) ∧ Fp (fun a k => (a = 600 ∧ k = 57) ∨ a = 628 ∨ a = 601 ∨ a = 602 ∨ a = 603 ∨ a = 604 ∨ (a = 607 ∧ k < 22) ∨ a = 608) M (w_X8_moveAll M (0 : Int32)) := by
  unfold p_X8_moveAll w_X8_moveAll
  obtain ⟨M0, hM0⟩ : ∃ M0, M0 = wi (wi (wi (wi (wi (wi M 600 57 0) 628 0 (M.1 600 0)) 628 1 (M.1 600 1)) 628 2 (M.1 600 2)) 628 3 (M.1 600 11)) 628 4 (M.1 600 12) := ⟨_, rfl⟩
  rw [← hM0]
  have a0 : M0.1 600 57 = iI ((0 : Nat) : Int) := by rw [hM0, rd_ne (Or.inl (by decide)), rd_ne (Or.inl (by decide)), rd_ne (Or.inl (by decide)), rd_ne (Or.inl (by decide)), rd_ne (Or.inl (by decide)), rd_same]; rfl
  have F0 : Fp (fun a k => (a = 600 ∧ k = 57) ∨ a = 628) M M0 := by
    rw [hM0]
    exact Fp.wi (Fp.wi (Fp.wi (Fp.wi (Fp.wi (Fp.wi Fp.rf (by omega)) (by omega)) (by omega)) (by omega)) (by omega)) (by omega)
  have b0 : M0.1 628 0 = M.1 600 0 := by rw [hM0, rd_ne (Or.inr (by decide)), rd_ne (Or.inr (by decide)), rd_ne (Or.inr (by decide)), rd_ne (Or.inr (by decide)), rd_same]
  have b1 : M0.1 628 1 = M.1 600 1 := by rw [hM0, rd_ne (Or.inr (by decide)), rd_ne (Or.inr (by decide)), rd_ne (Or.inr (by decide)), rd_same]
  have b2 : M0.1 628 2 = M.1 600 2 := by rw [hM0, rd_ne (Or.inr (by decide)), rd_ne (Or.inr (by decide)), rd_same]
  have b3 : M0.1 628 3 = M.1 600 11 := by rw [hM0, rd_ne (Or.inr (by decide)), rd_same]
  have b4 : M0.1 628 4 = M.1 600 12 := by rw [hM0, rd_same]
  clear hM0
  obtain ⟨p1, w1⟩ := mR_628_0 (M := M0) a0
  obtain ⟨M1, hM1⟩ : ∃ M1, M1 = w_X8_moveRow_628 M0 (5 : Int32) (0 : Int32) := ⟨_, rfl⟩
  rw [← hM1] at w1
  rw [← hM1]
  have a1 : M1.1 600 57 = iI ((5 : Nat) : Int) := by rw [w1]; exact rd_same _ _ _ _
  have u1 : ∀ j, j < 5 → M1.1 628 j = M0.1 627 (0 + j) := fun j hj => by rw [w1, rd_ne (Or.inl (by decide)), runI_y (by omega) (by omega), Nat.sub_zero]
  have v1 : ∀ a k, ¬ ((a = 600 ∧ k = 57) ∨ (a = 628 ∧ k < 5)) → M1.1 a k = M0.1 a k := fun a k hq => by rw [w1, rd_ne (by omega), runI_n (by omega)]
  have s1 : M1.2 = M0.2 := by rw [w1]; rfl
  clear hM1 w1
  obtain ⟨p2, w2⟩ := mR_601_0 (M := M1) a1
  obtain ⟨M2, hM2⟩ : ∃ M2, M2 = w_X8_moveRow_601 M1 (3 : Int32) (0 : Int32) := ⟨_, rfl⟩
  rw [← hM2] at w2
  rw [← hM2]
  have a2 : M2.1 600 57 = iI ((8 : Nat) : Int) := by rw [w2]; exact rd_same _ _ _ _
  have u2 : ∀ j, j < 3 → M2.1 601 j = M1.1 627 (5 + j) := fun j hj => by rw [w2, rd_ne (Or.inl (by decide)), runI_y (by omega) (by omega), Nat.sub_zero]
  have v2 : ∀ a k, ¬ ((a = 600 ∧ k = 57) ∨ (a = 601 ∧ k < 3)) → M2.1 a k = M1.1 a k := fun a k hq => by rw [w2, rd_ne (by omega), runI_n (by omega)]
  have s2 : M2.2 = M1.2 := by rw [w2]; rfl
  clear hM2 w2
  obtain ⟨p3, w3⟩ := mR_602_0 (M := M2) a2
  obtain ⟨M3, hM3⟩ : ∃ M3, M3 = w_X8_moveRow_602 M2 (6 : Int32) (0 : Int32) := ⟨_, rfl⟩
  rw [← hM3] at w3
  rw [← hM3]
  have a3 : M3.1 600 57 = iI ((14 : Nat) : Int) := by rw [w3]; exact rd_same _ _ _ _
  have u3 : ∀ j, j < 6 → M3.1 602 j = M2.1 627 (8 + j) := fun j hj => by rw [w3, rd_ne (Or.inl (by decide)), runI_y (by omega) (by omega), Nat.sub_zero]
  have v3 : ∀ a k, ¬ ((a = 600 ∧ k = 57) ∨ (a = 602 ∧ k < 6)) → M3.1 a k = M2.1 a k := fun a k hq => by rw [w3, rd_ne (by omega), runI_n (by omega)]
  have s3 : M3.2 = M2.2 := by rw [w3]; rfl
  clear hM3 w3
  obtain ⟨p4, w4⟩ := mR_603_0 (M := M3) a3
  obtain ⟨M4, hM4⟩ : ∃ M4, M4 = w_X8_moveRow_603 M3 (48 : Int32) (0 : Int32) := ⟨_, rfl⟩
  rw [← hM4] at w4
  rw [← hM4]
  have a4 : M4.1 600 57 = iI ((62 : Nat) : Int) := by rw [w4]; exact rd_same _ _ _ _
  have u4 : ∀ j, j < 48 → M4.1 603 j = M3.1 627 (14 + j) := fun j hj => by rw [w4, rd_ne (Or.inl (by decide)), runI_y (by omega) (by omega), Nat.sub_zero]
  have v4 : ∀ a k, ¬ ((a = 600 ∧ k = 57) ∨ (a = 603 ∧ k < 48)) → M4.1 a k = M3.1 a k := fun a k hq => by rw [w4, rd_ne (by omega), runI_n (by omega)]
  have s4 : M4.2 = M3.2 := by rw [w4]; rfl
  clear hM4 w4
  obtain ⟨p5, w5⟩ := mR_604_0 (M := M4) a4
  obtain ⟨M5, hM5⟩ : ∃ M5, M5 = w_X8_moveRow_604 M4 (4 : Int32) (0 : Int32) := ⟨_, rfl⟩
  rw [← hM5] at w5
  rw [← hM5]
  have a5 : M5.1 600 57 = iI ((66 : Nat) : Int) := by rw [w5]; exact rd_same _ _ _ _
  have u5 : ∀ j, j < 4 → M5.1 604 j = M4.1 627 (62 + j) := fun j hj => by rw [w5, rd_ne (Or.inl (by decide)), runI_y (by omega) (by omega), Nat.sub_zero]
  have v5 : ∀ a k, ¬ ((a = 600 ∧ k = 57) ∨ (a = 604 ∧ k < 4)) → M5.1 a k = M4.1 a k := fun a k hq => by rw [w5, rd_ne (by omega), runI_n (by omega)]
  have s5 : M5.2 = M4.2 := by rw [w5]; rfl
  clear hM5 w5
  obtain ⟨p6, w6⟩ := mR_607_0 (M := M5) a5
  obtain ⟨M6, hM6⟩ : ∃ M6, M6 = w_X8_moveRow_607 M5 (22 : Int32) (0 : Int32) := ⟨_, rfl⟩
  rw [← hM6] at w6
  rw [← hM6]
  have a6 : M6.1 600 57 = iI ((88 : Nat) : Int) := by rw [w6]; exact rd_same _ _ _ _
  have u6 : ∀ j, j < 22 → M6.1 607 j = M5.1 627 (66 + j) := fun j hj => by rw [w6, rd_ne (Or.inl (by decide)), runI_y (by omega) (by omega), Nat.sub_zero]
  have v6 : ∀ a k, ¬ ((a = 600 ∧ k = 57) ∨ (a = 607 ∧ k < 22)) → M6.1 a k = M5.1 a k := fun a k hq => by rw [w6, rd_ne (by omega), runI_n (by omega)]
  have s6 : M6.2 = M5.2 := by rw [w6]; rfl
  clear hM6 w6
  obtain ⟨p7, w7⟩ := mR_608_0 (M := M6) a6
  obtain ⟨M7, hM7⟩ : ∃ M7, M7 = w_X8_moveRow_608 M6 (8 : Int32) (0 : Int32) := ⟨_, rfl⟩
  rw [← hM7] at w7
  rw [← hM7]
  have a7 : M7.1 600 57 = iI ((96 : Nat) : Int) := by rw [w7]; exact rd_same _ _ _ _
  have u7 : ∀ j, j < 8 → M7.1 608 j = M6.1 627 (88 + j) := fun j hj => by rw [w7, rd_ne (Or.inl (by decide)), runI_y (by omega) (by omega), Nat.sub_zero]
  have v7 : ∀ a k, ¬ ((a = 600 ∧ k = 57) ∨ (a = 608 ∧ k < 8)) → M7.1 a k = M6.1 a k := fun a k hq => by rw [w7, rd_ne (by omega), runI_n (by omega)]
  have s7 : M7.2 = M6.2 := by rw [w7]; rfl
  clear hM7 w7
  refine ⟨⟨p1, p2, p3, p4, p5, p6, p7, trivial⟩, ?_, ?_, ?_, ?_, ?_, ?_, ?_, fun a k hq => ⟨?_, ?_⟩⟩
  · intro j hj
    rw [v7 _ _ (by omega), v6 _ _ (by omega), v5 _ _ (by omega), v4 _ _ (by omega), v3 _ _ (by omega), v2 _ _ (by omega), u1 j hj, (F0 _ _ (by omega)).1, Nat.zero_add]
  · intro j hj
    rw [v7 _ _ (by omega), v6 _ _ (by omega), v5 _ _ (by omega), v4 _ _ (by omega), v3 _ _ (by omega), u2 j hj, v1 _ _ (by omega), (F0 _ _ (by omega)).1]
  · intro j hj
    rw [v7 _ _ (by omega), v6 _ _ (by omega), v5 _ _ (by omega), v4 _ _ (by omega), u3 j hj, v2 _ _ (by omega), v1 _ _ (by omega), (F0 _ _ (by omega)).1]
  · intro j hj
    rw [v7 _ _ (by omega), v6 _ _ (by omega), v5 _ _ (by omega), u4 j hj, v3 _ _ (by omega), v2 _ _ (by omega), v1 _ _ (by omega), (F0 _ _ (by omega)).1]
  · intro j hj
    rw [v7 _ _ (by omega), v6 _ _ (by omega), u5 j hj, v4 _ _ (by omega), v3 _ _ (by omega), v2 _ _ (by omega), v1 _ _ (by omega), (F0 _ _ (by omega)).1]
  · intro j hj
    rw [v7 _ _ (by omega), u6 j hj, v5 _ _ (by omega), v4 _ _ (by omega), v3 _ _ (by omega), v2 _ _ (by omega), v1 _ _ (by omega), (F0 _ _ (by omega)).1]
  · intro j hj
    rw [u7 j hj, v6 _ _ (by omega), v5 _ _ (by omega), v4 _ _ (by omega), v3 _ _ (by omega), v2 _ _ (by omega), v1 _ _ (by omega), (F0 _ _ (by omega)).1]
  · rw [v7 _ _ (by omega), v6 _ _ (by omega), v5 _ _ (by omega), v4 _ _ (by omega), v3 _ _ (by omega), v2 _ _ (by omega), v1 _ _ (by omega), (F0 _ _ (by omega)).1]
  · rw [s7, s6, s5, s4, s3, s2, s1, (F0 a k (by omega)).2]
end P51
