/-! copies of towns -/
theorem cl48 : (48 : Int32) = iI 48 := by decide
def cp1 (M : Mm) (d s f : Nat) : Mm := wi M d f (M.1 s f)
def cpN (M : Mm) (d s : Nat) : Nat → Mm
  | 0 => M
  | n + 1 => cp1 (cpN M d s n) d s n
theorem cpN_r {M : Mm} {d s : Nat} (h : d ≠ s) : ∀ n, (∀ f, (cpN M d s n).1 d f = if f < n then M.1 s f else M.1 d f) ∧ (∀ a, a ≠ d → (cpN M d s n).1 a = M.1 a) ∧ (cpN M d s n).2 = M.2
  | 0 => ⟨fun f => by rw [if_neg (Nat.not_lt_zero f)]; rfl, fun a _ => rfl, rfl⟩
  | n + 1 => by
    obtain ⟨h1, h2, h3⟩ := cpN_r (M := M) h n
    refine ⟨fun f => ?_, fun a ha => ?_, h3⟩
    · show (if d = d ∧ f = n then (cpN M d s n).1 s n else (cpN M d s n).1 d f) = _
      rw [h2 s (Ne.symm h), h1]
      by_cases q : f = n
      · rw [if_pos ⟨rfl, q⟩, if_pos (by omega), q]
      · rw [if_neg (by omega)]
        by_cases q2 : f < n
        · rw [if_pos q2, if_pos (by omega)]
        · rw [if_neg q2, if_neg (by omega)]
    · funext k
      show (if a = d ∧ k = n then (cpN M d s n).1 s n else (cpN M d s n).1 a k) = _
      rw [if_neg (fun q => ha q.1), h2 a ha]
theorem x6_take (M : Mm) (d s : Nat) : w_X6_take M d s = cpN M d s 8 := rfl
section P50
variable {M : Mm}
theorem tT_200_100 : p_X5_takeTown_200_100 M ∧ (∀ k, k < 3 → (w_X5_takeTown_200_100 M).1 200 k = M.1 100 k) ∧ (∀ j, j < 3 → (w_X5_takeTown_200_100 M).1 201 j = M.1 101 j) ∧ (∀ j, j < 6 → (w_X5_takeTown_200_100 M).1 202 j = M.1 102 j) ∧ (∀ j, j < 4 → (w_X5_takeTown_200_100 M).1 204 j = M.1 104 j) ∧ (∀ w f, w < 6 → f < 8 → (w_X5_takeTown_200_100 M).1 (210 + w) f = M.1 (110 + w) f) ∧
    ((∀ j, j < 3 → (w_X5_takeTown_200_100 M).1 1011 j = M.1 1001 j) ∧ (∀ j, j < 6 → (w_X5_takeTown_200_100 M).1 1012 j = M.1 1002 j) ∧ (∀ j, j < 6 → (w_X5_takeTown_200_100 M).1 1013 j = M.1 1003 j) ∧ (∀ j, j < 6 → (w_X5_takeTown_200_100 M).1 1014 j = M.1 1004 j) ∧ (w_X5_takeTown_200_100 M).1 1010 4 = M.1 1000 4 ∧ (w_X5_takeTown_200_100 M).1 1010 5 = M.1 1000 5) ∧
    Fp (fun a k => (a = 200 ∧ k < 3) ∨ a = 201 ∨ a = 202 ∨ a = 204 ∨ (210 ≤ a ∧ a ≤ 215) ∨ (1010 ≤ a ∧ a ≤ 1014)) M (w_X5_takeTown_200_100 M) := by
  unfold p_X5_takeTown_200_100 w_X5_takeTown_200_100 w_X5_takeTown_200_100_82 w_X5_takeLaws_200_100
  rw [n6_eq]
  obtain ⟨M5, hM5⟩ : ∃ M5, M5 = cpi (cpi (wi (wi (wi M 200 0 (M.1 100 0)) 200 1 ((wi M 200 0 (M.1 100 0)).1 100 1)) 200 2 ((wi (wi M 200 0 (M.1 100 0)) 200 1 ((wi M 200 0 (M.1 100 0)).1 100 1)).1 100 2)) 101 201 0 0 3) 102 202 0 0 6 := ⟨_, rfl⟩
  rw [← hM5]
  have e5 : M5 = cpi (cpi (cpN M 200 100 3) 101 201 0 0 3) 102 202 0 0 6 := hM5
  clear hM5
  obtain ⟨z1, z2, z3⟩ := cpN_r (M := M) (d := 200) (s := 100) (by decide) 3
  generalize cpN M 200 100 3 = M3 at z1 z2 z3 e5
  have g1 : ∀ a k, a ≠ 200 → a ≠ 201 → a ≠ 202 → M5.1 a k = M.1 a k := fun a k h1 h2 h3 => by
    rw [e5, cpi_r, if_neg (fun q => h3 q.1), cpi_r, if_neg (fun q => h2 q.1), z2 a h1]
  have g2 : ∀ k, M5.1 200 k = if k < 3 then M.1 100 k else M.1 200 k := fun k => by
    rw [e5, cpi_r, if_neg (by omega), cpi_r, if_neg (by omega), z1]
  have g3 : ∀ k, k < 3 → M5.1 201 k = M.1 101 k := fun k hk => by
    rw [e5, cpi_r, if_neg (by omega), cpi_r, if_pos ⟨rfl, hk⟩, z2 _ (by decide)]
  have g4 : ∀ k, k < 6 → M5.1 202 k = M.1 102 k := fun k hk => by
    rw [e5, cpi_r, if_pos ⟨rfl, hk⟩, cpi_r, if_neg (by omega), z2 _ (by decide)]
  have g5 : M5.2 = M.2 := by rw [e5]; exact z3
  clear e5 z1 z2 z3
  have key : ∀ j, j ≤ 6 → (l_X5_takeTown_200_100_55 (M5, 0) j).2 = iI (j : Int) ∧ (∀ w f, w < j → f < 8 → (l_X5_takeTown_200_100_55 (M5, 0) j).1.1 (210 + w) f = M5.1 (110 + w) f) ∧ (∀ a, ¬ (210 ≤ a ∧ a < 210 + j) → (l_X5_takeTown_200_100_55 (M5, 0) j).1.1 a = M5.1 a) ∧ (l_X5_takeTown_200_100_55 (M5, 0) j).1.2 = M5.2 := by
    refine itN_inv (fun (j : Nat) (σ : Mm × Int32) => σ.2 = iI (j : Int) ∧ (∀ w f, w < j → f < 8 → σ.1.1 (210 + w) f = M5.1 (110 + w) f) ∧ (∀ a, ¬ (210 ≤ a ∧ a < 210 + j) → σ.1.1 a = M5.1 a) ∧ σ.1.2 = M5.2) ⟨rfl, fun w f h => absurd h (Nat.not_lt_zero w), fun a _ => rfl, rfl⟩ (fun j σ hj hp => ?_)
    obtain ⟨h1, h2, h3, h4⟩ := hp
    have hlt : ¬ (6 : Int32) ≤ σ.2 := by rw [h1, cl6, iI_le (by omega) (by omega) (by omega) (by omega)]; omega
    obtain ⟨y1, y2, y3⟩ := cpN_r (M := σ.1) (d := 210 + j) (s := 110 + j) (by omega) 8
    have es : s_X5_takeTown_200_100_55 σ = (cpN σ.1 (210 + j) (110 + j) 8, iI ((j + 1 : Nat) : Int)) := by
      unfold s_X5_takeTown_200_100_55
      rw [if_neg hlt, h1, k1_iI, natk (n := j) rfl (by omega), x6_take]
    show (s_X5_takeTown_200_100_55 σ).2 = _ ∧ _
    rw [es]
    refine ⟨rfl, fun w f hw hf => ?_, fun a ha => ?_, y3.trans h4⟩
    · show (cpN σ.1 (210 + j) (110 + j) 8).1 (210 + w) f = _
      by_cases q : w = j
      · rw [q, y1, if_pos hf, h3 _ (by omega)]
      · rw [y2 _ (by omega)]; exact h2 w f (by omega) hf
    · show (cpN σ.1 (210 + j) (110 + j) 8).1 a = _
      rw [y2 _ (by omega)]; exact h3 a (by omega)
  obtain ⟨k1, k2, k3, k4⟩ := key 6 (Nat.le_refl _)
  have fin : (6 : Int32) ≤ (l_X5_takeTown_200_100_55 (M5, 0) 6).2 := by rw [k1]; decide
  have P : (∀ j, j < 6 → c_X5_takeTown_200_100_55 (l_X5_takeTown_200_100_55 (M5, 0) j)) ∧ (∀ j, j < 6 → q_X5_takeTown_200_100_55 (l_X5_takeTown_200_100_55 (M5, 0) j)) ∧ ¬ c_X5_takeTown_200_100_55 (l_X5_takeTown_200_100_55 (M5, 0) 6) := by
    refine ⟨fun j hj => ?_, fun j hj => ?_, ?_⟩
    · unfold c_X5_takeTown_200_100_55
      rw [(key j (by omega)).1, cl6, iteLE (by omega) (by omega) (by omega) (by omega), if_neg (by omega)]
      trivial
    · unfold q_X5_takeTown_200_100_55
      rw [(key j (by omega)).1]
      have v : vp_in (iI (j : Int)) 6 := vin_iI (by omega) (by omega) (by omega)
      split
      · trivial
      · exact ⟨v, v, trivial⟩
    · unfold c_X5_takeTown_200_100_55
      rw [if_pos fin]
      exact fun h => h
  simp only [if_pos fin]
  generalize (l_X5_takeTown_200_100_55 (M5, 0) 6).1 = M6 at k2 k3 k4 ⊢
  obtain ⟨t1, t2, t3, t4, ⟨t5, t6, t7⟩, t8⟩ := take_rd (M := cpi M6 104 204 0 0 4) (s := 1010) (s1 := 1000) (by decide)
  have cc : ∀ a k, a ≠ 204 → (cpi M6 104 204 0 0 4).1 a k = M6.1 a k := fun a k h => by rw [cpi_r, if_neg (fun q => h q.1)]
  have c4 : ∀ k, k < 4 → (cpi M6 104 204 0 0 4).1 204 k = M.1 104 k := fun k h => by rw [cpi_r, if_pos ⟨rfl, h⟩, k3 _ (by omega), g1 _ _ (by decide) (by decide) (by decide)]
  have c2 : (cpi M6 104 204 0 0 4).2 = M.2 := k4.trans g5
  generalize cpi M6 104 204 0 0 4 = M7 at t1 t2 t3 t4 t5 t6 t7 t8 cc c4 c2 ⊢
  have src : ∀ a k, a ≠ 200 → a ≠ 201 → a ≠ 202 → a ≠ 204 → ¬ (210 ≤ a ∧ a < 210 + 6) → M7.1 a k = M.1 a k := fun a k h1 h2 h3 h4 h5 => by rw [cc a k h4, k3 a h5, g1 a k h1 h2 h3]
  refine ⟨⟨P.1, P.2.1, P.2.2, trivial⟩, fun k hk => ?_, fun j hj => ?_, fun j hj => ?_, fun j hj => ?_, fun w f hw hf => ?_, ⟨fun j hj => ?_, fun j hj => ?_, fun j hj => ?_, fun j hj => ?_, ?_, ?_⟩, fun a k hq => ⟨?_, ?_⟩⟩
  · rw [t8.at (by omega), cc _ _ (by omega), k3 _ (by omega), g2, if_pos hk]
  · rw [t8.at (by omega), cc _ _ (by omega), k3 _ (by omega)]; exact g3 j hj
  · rw [t8.at (by omega), cc _ _ (by omega), k3 _ (by omega)]; exact g4 j hj
  · rw [t8.at (by omega)]; exact c4 j hj
  · rw [t8.at (by omega), cc _ _ (by omega), k2 w f hw hf, g1 _ _ (by omega) (by omega) (by omega)]
  · rw [t1 j hj, src _ _ (by omega) (by omega) (by omega) (by omega) (by omega)]
  · rw [t2 j hj, src _ _ (by omega) (by omega) (by omega) (by omega) (by omega)]
  · rw [t3 j hj, src _ _ (by omega) (by omega) (by omega) (by omega) (by omega)]
  · rw [t4 j hj, src _ _ (by omega) (by omega) (by omega) (by omega) (by omega)]
  · rw [t5, src _ _ (by omega) (by omega) (by omega) (by omega) (by omega)]
  · rw [t6, src _ _ (by omega) (by omega) (by omega) (by omega) (by omega)]
  · rw [t8.at (by omega)]
    by_cases q : a = 200
    · rw [q, cc _ _ (by omega), k3 _ (by omega), g2, if_neg (by omega)]
    · exact src _ _ q (by omega) (by omega) (by omega) (by omega)
  · rw [t8.at2 (by omega), c2]
theorem tT_100_200 : p_X5_takeTown_100_200 M ∧ (∀ k, k < 3 → (w_X5_takeTown_100_200 M).1 100 k = M.1 200 k) ∧ (∀ j, j < 3 → (w_X5_takeTown_100_200 M).1 101 j = M.1 201 j) ∧ (∀ j, j < 6 → (w_X5_takeTown_100_200 M).1 102 j = M.1 202 j) ∧ (∀ j, j < 4 → (w_X5_takeTown_100_200 M).1 104 j = M.1 204 j) ∧ (∀ w f, w < 6 → f < 8 → (w_X5_takeTown_100_200 M).1 (110 + w) f = M.1 (210 + w) f) ∧
    ((∀ j, j < 3 → (w_X5_takeTown_100_200 M).1 1001 j = M.1 1011 j) ∧ (∀ j, j < 6 → (w_X5_takeTown_100_200 M).1 1002 j = M.1 1012 j) ∧ (∀ j, j < 6 → (w_X5_takeTown_100_200 M).1 1003 j = M.1 1013 j) ∧ (∀ j, j < 6 → (w_X5_takeTown_100_200 M).1 1004 j = M.1 1014 j) ∧ (w_X5_takeTown_100_200 M).1 1000 4 = M.1 1010 4 ∧ (w_X5_takeTown_100_200 M).1 1000 5 = M.1 1010 5) ∧
    Fp (fun a k => (a = 100 ∧ k < 3) ∨ a = 101 ∨ a = 102 ∨ a = 104 ∨ (110 ≤ a ∧ a ≤ 115) ∨ (1000 ≤ a ∧ a ≤ 1004)) M (w_X5_takeTown_100_200 M) := by
  unfold p_X5_takeTown_100_200 w_X5_takeTown_100_200 w_X5_takeTown_100_200_82 w_X5_takeLaws_100_200
  rw [n6_eq]
  obtain ⟨M5, hM5⟩ : ∃ M5, M5 = cpi (cpi (wi (wi (wi M 100 0 (M.1 200 0)) 100 1 ((wi M 100 0 (M.1 200 0)).1 200 1)) 100 2 ((wi (wi M 100 0 (M.1 200 0)) 100 1 ((wi M 100 0 (M.1 200 0)).1 200 1)).1 200 2)) 201 101 0 0 3) 202 102 0 0 6 := ⟨_, rfl⟩
  rw [← hM5]
  have e5 : M5 = cpi (cpi (cpN M 100 200 3) 201 101 0 0 3) 202 102 0 0 6 := hM5
  clear hM5
  obtain ⟨z1, z2, z3⟩ := cpN_r (M := M) (d := 100) (s := 200) (by decide) 3
  generalize cpN M 100 200 3 = M3 at z1 z2 z3 e5
  have g1 : ∀ a k, a ≠ 100 → a ≠ 101 → a ≠ 102 → M5.1 a k = M.1 a k := fun a k h1 h2 h3 => by
    rw [e5, cpi_r, if_neg (fun q => h3 q.1), cpi_r, if_neg (fun q => h2 q.1), z2 a h1]
  have g2 : ∀ k, M5.1 100 k = if k < 3 then M.1 200 k else M.1 100 k := fun k => by
    rw [e5, cpi_r, if_neg (by omega), cpi_r, if_neg (by omega), z1]
  have g3 : ∀ k, k < 3 → M5.1 101 k = M.1 201 k := fun k hk => by
    rw [e5, cpi_r, if_neg (by omega), cpi_r, if_pos ⟨rfl, hk⟩, z2 _ (by decide)]
  have g4 : ∀ k, k < 6 → M5.1 102 k = M.1 202 k := fun k hk => by
    rw [e5, cpi_r, if_pos ⟨rfl, hk⟩, cpi_r, if_neg (by omega), z2 _ (by decide)]
  have g5 : M5.2 = M.2 := by rw [e5]; exact z3
  clear e5 z1 z2 z3
  have key : ∀ j, j ≤ 6 → (l_X5_takeTown_100_200_55 (M5, 0) j).2 = iI (j : Int) ∧ (∀ w f, w < j → f < 8 → (l_X5_takeTown_100_200_55 (M5, 0) j).1.1 (110 + w) f = M5.1 (210 + w) f) ∧ (∀ a, ¬ (110 ≤ a ∧ a < 110 + j) → (l_X5_takeTown_100_200_55 (M5, 0) j).1.1 a = M5.1 a) ∧ (l_X5_takeTown_100_200_55 (M5, 0) j).1.2 = M5.2 := by
    refine itN_inv (fun (j : Nat) (σ : Mm × Int32) => σ.2 = iI (j : Int) ∧ (∀ w f, w < j → f < 8 → σ.1.1 (110 + w) f = M5.1 (210 + w) f) ∧ (∀ a, ¬ (110 ≤ a ∧ a < 110 + j) → σ.1.1 a = M5.1 a) ∧ σ.1.2 = M5.2) ⟨rfl, fun w f h => absurd h (Nat.not_lt_zero w), fun a _ => rfl, rfl⟩ (fun j σ hj hp => ?_)
    obtain ⟨h1, h2, h3, h4⟩ := hp
    have hlt : ¬ (6 : Int32) ≤ σ.2 := by rw [h1, cl6, iI_le (by omega) (by omega) (by omega) (by omega)]; omega
    obtain ⟨y1, y2, y3⟩ := cpN_r (M := σ.1) (d := 110 + j) (s := 210 + j) (by omega) 8
    have es : s_X5_takeTown_100_200_55 σ = (cpN σ.1 (110 + j) (210 + j) 8, iI ((j + 1 : Nat) : Int)) := by
      unfold s_X5_takeTown_100_200_55
      rw [if_neg hlt, h1, k1_iI, natk (n := j) rfl (by omega), x6_take]
    show (s_X5_takeTown_100_200_55 σ).2 = _ ∧ _
    rw [es]
    refine ⟨rfl, fun w f hw hf => ?_, fun a ha => ?_, y3.trans h4⟩
    · show (cpN σ.1 (110 + j) (210 + j) 8).1 (110 + w) f = _
      by_cases q : w = j
      · rw [q, y1, if_pos hf, h3 _ (by omega)]
      · rw [y2 _ (by omega)]; exact h2 w f (by omega) hf
    · show (cpN σ.1 (110 + j) (210 + j) 8).1 a = _
      rw [y2 _ (by omega)]; exact h3 a (by omega)
  obtain ⟨k1, k2, k3, k4⟩ := key 6 (Nat.le_refl _)
  have fin : (6 : Int32) ≤ (l_X5_takeTown_100_200_55 (M5, 0) 6).2 := by rw [k1]; decide
  have P : (∀ j, j < 6 → c_X5_takeTown_100_200_55 (l_X5_takeTown_100_200_55 (M5, 0) j)) ∧ (∀ j, j < 6 → q_X5_takeTown_100_200_55 (l_X5_takeTown_100_200_55 (M5, 0) j)) ∧ ¬ c_X5_takeTown_100_200_55 (l_X5_takeTown_100_200_55 (M5, 0) 6) := by
    refine ⟨fun j hj => ?_, fun j hj => ?_, ?_⟩
    · unfold c_X5_takeTown_100_200_55
      rw [(key j (by omega)).1, cl6, iteLE (by omega) (by omega) (by omega) (by omega), if_neg (by omega)]
      trivial
    · unfold q_X5_takeTown_100_200_55
      rw [(key j (by omega)).1]
      have v : vp_in (iI (j : Int)) 6 := vin_iI (by omega) (by omega) (by omega)
      split
      · trivial
      · exact ⟨v, v, trivial⟩
    · unfold c_X5_takeTown_100_200_55
      rw [if_pos fin]
      exact fun h => h
  simp only [if_pos fin]
  generalize (l_X5_takeTown_100_200_55 (M5, 0) 6).1 = M6 at k2 k3 k4 ⊢
  obtain ⟨t1, t2, t3, t4, ⟨t5, t6, t7⟩, t8⟩ := take_rd (M := cpi M6 204 104 0 0 4) (s := 1000) (s1 := 1010) (by decide)
  have cc : ∀ a k, a ≠ 104 → (cpi M6 204 104 0 0 4).1 a k = M6.1 a k := fun a k h => by rw [cpi_r, if_neg (fun q => h q.1)]
  have c4 : ∀ k, k < 4 → (cpi M6 204 104 0 0 4).1 104 k = M.1 204 k := fun k h => by rw [cpi_r, if_pos ⟨rfl, h⟩, k3 _ (by omega), g1 _ _ (by decide) (by decide) (by decide)]
  have c2 : (cpi M6 204 104 0 0 4).2 = M.2 := k4.trans g5
  generalize cpi M6 204 104 0 0 4 = M7 at t1 t2 t3 t4 t5 t6 t7 t8 cc c4 c2 ⊢
  have src : ∀ a k, a ≠ 100 → a ≠ 101 → a ≠ 102 → a ≠ 104 → ¬ (110 ≤ a ∧ a < 110 + 6) → M7.1 a k = M.1 a k := fun a k h1 h2 h3 h4 h5 => by rw [cc a k h4, k3 a h5, g1 a k h1 h2 h3]
  refine ⟨⟨P.1, P.2.1, P.2.2, trivial⟩, fun k hk => ?_, fun j hj => ?_, fun j hj => ?_, fun j hj => ?_, fun w f hw hf => ?_, ⟨fun j hj => ?_, fun j hj => ?_, fun j hj => ?_, fun j hj => ?_, ?_, ?_⟩, fun a k hq => ⟨?_, ?_⟩⟩
  · rw [t8.at (by omega), cc _ _ (by omega), k3 _ (by omega), g2, if_pos hk]
  · rw [t8.at (by omega), cc _ _ (by omega), k3 _ (by omega)]; exact g3 j hj
  · rw [t8.at (by omega), cc _ _ (by omega), k3 _ (by omega)]; exact g4 j hj
  · rw [t8.at (by omega)]; exact c4 j hj
  · rw [t8.at (by omega), cc _ _ (by omega), k2 w f hw hf, g1 _ _ (by omega) (by omega) (by omega)]
  · rw [t1 j hj, src _ _ (by omega) (by omega) (by omega) (by omega) (by omega)]
  · rw [t2 j hj, src _ _ (by omega) (by omega) (by omega) (by omega) (by omega)]
  · rw [t3 j hj, src _ _ (by omega) (by omega) (by omega) (by omega) (by omega)]
  · rw [t4 j hj, src _ _ (by omega) (by omega) (by omega) (by omega) (by omega)]
  · rw [t5, src _ _ (by omega) (by omega) (by omega) (by omega) (by omega)]
  · rw [t6, src _ _ (by omega) (by omega) (by omega) (by omega) (by omega)]
  · rw [t8.at (by omega)]
    by_cases q : a = 100
    · rw [q, cc _ _ (by omega), k3 _ (by omega), g2, if_neg (by omega)]
    · exact src _ _ q (by omega) (by omega) (by omega) (by omega)
  · rw [t8.at2 (by omega), c2]
theorem tT_100_300 : p_X5_takeTown_100_300 M ∧ (∀ k, k < 3 → (w_X5_takeTown_100_300 M).1 100 k = M.1 300 k) ∧ (∀ j, j < 3 → (w_X5_takeTown_100_300 M).1 101 j = M.1 301 j) ∧ (∀ j, j < 6 → (w_X5_takeTown_100_300 M).1 102 j = M.1 302 j) ∧ (∀ j, j < 4 → (w_X5_takeTown_100_300 M).1 104 j = M.1 304 j) ∧ (∀ w f, w < 6 → f < 8 → (w_X5_takeTown_100_300 M).1 (110 + w) f = M.1 (310 + w) f) ∧
    ((∀ j, j < 3 → (w_X5_takeTown_100_300 M).1 1001 j = M.1 1021 j) ∧ (∀ j, j < 6 → (w_X5_takeTown_100_300 M).1 1002 j = M.1 1022 j) ∧ (∀ j, j < 6 → (w_X5_takeTown_100_300 M).1 1003 j = M.1 1023 j) ∧ (∀ j, j < 6 → (w_X5_takeTown_100_300 M).1 1004 j = M.1 1024 j) ∧ (w_X5_takeTown_100_300 M).1 1000 4 = M.1 1020 4 ∧ (w_X5_takeTown_100_300 M).1 1000 5 = M.1 1020 5) ∧
    Fp (fun a k => (a = 100 ∧ k < 3) ∨ a = 101 ∨ a = 102 ∨ a = 104 ∨ (110 ≤ a ∧ a ≤ 115) ∨ (1000 ≤ a ∧ a ≤ 1004)) M (w_X5_takeTown_100_300 M) := by
  unfold p_X5_takeTown_100_300 w_X5_takeTown_100_300 w_X5_takeTown_100_300_82 w_X5_takeLaws_100_300
  rw [n6_eq]
  obtain ⟨M5, hM5⟩ : ∃ M5, M5 = cpi (cpi (wi (wi (wi M 100 0 (M.1 300 0)) 100 1 ((wi M 100 0 (M.1 300 0)).1 300 1)) 100 2 ((wi (wi M 100 0 (M.1 300 0)) 100 1 ((wi M 100 0 (M.1 300 0)).1 300 1)).1 300 2)) 301 101 0 0 3) 302 102 0 0 6 := ⟨_, rfl⟩
  rw [← hM5]
  have e5 : M5 = cpi (cpi (cpN M 100 300 3) 301 101 0 0 3) 302 102 0 0 6 := hM5
  clear hM5
  obtain ⟨z1, z2, z3⟩ := cpN_r (M := M) (d := 100) (s := 300) (by decide) 3
  generalize cpN M 100 300 3 = M3 at z1 z2 z3 e5
  have g1 : ∀ a k, a ≠ 100 → a ≠ 101 → a ≠ 102 → M5.1 a k = M.1 a k := fun a k h1 h2 h3 => by
    rw [e5, cpi_r, if_neg (fun q => h3 q.1), cpi_r, if_neg (fun q => h2 q.1), z2 a h1]
  have g2 : ∀ k, M5.1 100 k = if k < 3 then M.1 300 k else M.1 100 k := fun k => by
    rw [e5, cpi_r, if_neg (by omega), cpi_r, if_neg (by omega), z1]
  have g3 : ∀ k, k < 3 → M5.1 101 k = M.1 301 k := fun k hk => by
    rw [e5, cpi_r, if_neg (by omega), cpi_r, if_pos ⟨rfl, hk⟩, z2 _ (by decide)]
  have g4 : ∀ k, k < 6 → M5.1 102 k = M.1 302 k := fun k hk => by
    rw [e5, cpi_r, if_pos ⟨rfl, hk⟩, cpi_r, if_neg (by omega), z2 _ (by decide)]
  have g5 : M5.2 = M.2 := by rw [e5]; exact z3
  clear e5 z1 z2 z3
  have key : ∀ j, j ≤ 6 → (l_X5_takeTown_100_300_55 (M5, 0) j).2 = iI (j : Int) ∧ (∀ w f, w < j → f < 8 → (l_X5_takeTown_100_300_55 (M5, 0) j).1.1 (110 + w) f = M5.1 (310 + w) f) ∧ (∀ a, ¬ (110 ≤ a ∧ a < 110 + j) → (l_X5_takeTown_100_300_55 (M5, 0) j).1.1 a = M5.1 a) ∧ (l_X5_takeTown_100_300_55 (M5, 0) j).1.2 = M5.2 := by
    refine itN_inv (fun (j : Nat) (σ : Mm × Int32) => σ.2 = iI (j : Int) ∧ (∀ w f, w < j → f < 8 → σ.1.1 (110 + w) f = M5.1 (310 + w) f) ∧ (∀ a, ¬ (110 ≤ a ∧ a < 110 + j) → σ.1.1 a = M5.1 a) ∧ σ.1.2 = M5.2) ⟨rfl, fun w f h => absurd h (Nat.not_lt_zero w), fun a _ => rfl, rfl⟩ (fun j σ hj hp => ?_)
    obtain ⟨h1, h2, h3, h4⟩ := hp
    have hlt : ¬ (6 : Int32) ≤ σ.2 := by rw [h1, cl6, iI_le (by omega) (by omega) (by omega) (by omega)]; omega
    obtain ⟨y1, y2, y3⟩ := cpN_r (M := σ.1) (d := 110 + j) (s := 310 + j) (by omega) 8
    have es : s_X5_takeTown_100_300_55 σ = (cpN σ.1 (110 + j) (310 + j) 8, iI ((j + 1 : Nat) : Int)) := by
      unfold s_X5_takeTown_100_300_55
      rw [if_neg hlt, h1, k1_iI, natk (n := j) rfl (by omega), x6_take]
    show (s_X5_takeTown_100_300_55 σ).2 = _ ∧ _
    rw [es]
    refine ⟨rfl, fun w f hw hf => ?_, fun a ha => ?_, y3.trans h4⟩
    · show (cpN σ.1 (110 + j) (310 + j) 8).1 (110 + w) f = _
      by_cases q : w = j
      · rw [q, y1, if_pos hf, h3 _ (by omega)]
      · rw [y2 _ (by omega)]; exact h2 w f (by omega) hf
    · show (cpN σ.1 (110 + j) (310 + j) 8).1 a = _
      rw [y2 _ (by omega)]; exact h3 a (by omega)
  obtain ⟨k1, k2, k3, k4⟩ := key 6 (Nat.le_refl _)
  have fin : (6 : Int32) ≤ (l_X5_takeTown_100_300_55 (M5, 0) 6).2 := by rw [k1]; decide
  have P : (∀ j, j < 6 → c_X5_takeTown_100_300_55 (l_X5_takeTown_100_300_55 (M5, 0) j)) ∧ (∀ j, j < 6 → q_X5_takeTown_100_300_55 (l_X5_takeTown_100_300_55 (M5, 0) j)) ∧ ¬ c_X5_takeTown_100_300_55 (l_X5_takeTown_100_300_55 (M5, 0) 6) := by
    refine ⟨fun j hj => ?_, fun j hj => ?_, ?_⟩
    · unfold c_X5_takeTown_100_300_55
      rw [(key j (by omega)).1, cl6, iteLE (by omega) (by omega) (by omega) (by omega), if_neg (by omega)]
      trivial
    · unfold q_X5_takeTown_100_300_55
      rw [(key j (by omega)).1]
      have v : vp_in (iI (j : Int)) 6 := vin_iI (by omega) (by omega) (by omega)
      split
      · trivial
      · exact ⟨v, v, trivial⟩
    · unfold c_X5_takeTown_100_300_55
      rw [if_pos fin]
      exact fun h => h
  simp only [if_pos fin]
  generalize (l_X5_takeTown_100_300_55 (M5, 0) 6).1 = M6 at k2 k3 k4 ⊢
  obtain ⟨t1, t2, t3, t4, ⟨t5, t6, t7⟩, t8⟩ := take_rd (M := cpi M6 304 104 0 0 4) (s := 1000) (s1 := 1020) (by decide)
  have cc : ∀ a k, a ≠ 104 → (cpi M6 304 104 0 0 4).1 a k = M6.1 a k := fun a k h => by rw [cpi_r, if_neg (fun q => h q.1)]
  have c4 : ∀ k, k < 4 → (cpi M6 304 104 0 0 4).1 104 k = M.1 304 k := fun k h => by rw [cpi_r, if_pos ⟨rfl, h⟩, k3 _ (by omega), g1 _ _ (by decide) (by decide) (by decide)]
  have c2 : (cpi M6 304 104 0 0 4).2 = M.2 := k4.trans g5
  generalize cpi M6 304 104 0 0 4 = M7 at t1 t2 t3 t4 t5 t6 t7 t8 cc c4 c2 ⊢
  have src : ∀ a k, a ≠ 100 → a ≠ 101 → a ≠ 102 → a ≠ 104 → ¬ (110 ≤ a ∧ a < 110 + 6) → M7.1 a k = M.1 a k := fun a k h1 h2 h3 h4 h5 => by rw [cc a k h4, k3 a h5, g1 a k h1 h2 h3]
  refine ⟨⟨P.1, P.2.1, P.2.2, trivial⟩, fun k hk => ?_, fun j hj => ?_, fun j hj => ?_, fun j hj => ?_, fun w f hw hf => ?_, ⟨fun j hj => ?_, fun j hj => ?_, fun j hj => ?_, fun j hj => ?_, ?_, ?_⟩, fun a k hq => ⟨?_, ?_⟩⟩
  · rw [t8.at (by omega), cc _ _ (by omega), k3 _ (by omega), g2, if_pos hk]
  · rw [t8.at (by omega), cc _ _ (by omega), k3 _ (by omega)]; exact g3 j hj
  · rw [t8.at (by omega), cc _ _ (by omega), k3 _ (by omega)]; exact g4 j hj
  · rw [t8.at (by omega)]; exact c4 j hj
  · rw [t8.at (by omega), cc _ _ (by omega), k2 w f hw hf, g1 _ _ (by omega) (by omega) (by omega)]
  · rw [t1 j hj, src _ _ (by omega) (by omega) (by omega) (by omega) (by omega)]
  · rw [t2 j hj, src _ _ (by omega) (by omega) (by omega) (by omega) (by omega)]
  · rw [t3 j hj, src _ _ (by omega) (by omega) (by omega) (by omega) (by omega)]
  · rw [t4 j hj, src _ _ (by omega) (by omega) (by omega) (by omega) (by omega)]
  · rw [t5, src _ _ (by omega) (by omega) (by omega) (by omega) (by omega)]
  · rw [t6, src _ _ (by omega) (by omega) (by omega) (by omega) (by omega)]
  · rw [t8.at (by omega)]
    by_cases q : a = 100
    · rw [q, cc _ _ (by omega), k3 _ (by omega), g2, if_neg (by omega)]
    · exact src _ _ q (by omega) (by omega) (by omega) (by omega)
  · rw [t8.at2 (by omega), c2]
end P50
