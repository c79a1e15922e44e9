/-! keep, again -/
section P52
variable {M M' : Mm} {T S : Tw} {n : Nat} {g : Int}
theorem cpy_T {b b' s s' : Nat} (hT : CT M b T) (hS : CSt M s T S) (hI : InvT T) (h0 : ∀ k, k < 3 → M'.1 b' k = M.1 b k) (h1 : ∀ j, j < 3 → M'.1 (b' + 1) j = M.1 (b + 1) j) (h2 : ∀ j, j < 6 → M'.1 (b' + 2) j = M.1 (b + 2) j) (h4 : ∀ j, j < 4 → M'.1 (b' + 4) j = M.1 (b + 4) j) (hw : ∀ w f, w < 6 → f < 8 → M'.1 (b' + 10 + w) f = M.1 (b + 10 + w) f)
    (s1 : ∀ j, j < 3 → M'.1 (s' + 1) j = M.1 (s + 1) j) (s2 : ∀ j, j < 6 → M'.1 (s' + 2) j = M.1 (s + 2) j) (s3 : ∀ j, j < 6 → M'.1 (s' + 3) j = M.1 (s + 3) j) (s4 : ∀ j, j < 6 → M'.1 (s' + 4) j = M.1 (s + 4) j) (s5 : M'.1 s' 4 = M.1 s 4) : CT M' b' T ∧ CSt M' s' T S := by
  have hc := hI.1
  refine ⟨⟨⟨?_, ?_, ?_⟩, fun x a b => ?_, fun x a b => ?_, fun k hk => ?_, fun w f a b => ?_⟩, ⟨fun x a b => ?_, fun x a b => ?_, fun x a b => ?_, fun x a b => ?_, ?_⟩⟩
  · rw [h0 0 (by omega)]; exact hT.1.1
  · rw [h0 1 (by omega)]; exact hT.1.2.1
  · rw [h0 2 (by omega)]; exact hT.1.2.2
  · rw [h1 _ (by omega)]; exact hT.2.1 x a b
  · rw [h2 _ (by omega)]; exact hT.2.2.1 x a b
  · rw [h4 _ hk]; exact hT.2.2.2.1 k hk
  · rw [hw w f (by omega) b]; exact hT.2.2.2.2 w f a b
  · rw [s1 _ (by omega)]; exact hS.1 x a b
  · rw [s2 _ (by omega)]; exact hS.2.1 x a b
  · rw [s3 _ (by omega)]; exact hS.2.2.1 x a b
  · rw [s4 _ (by omega)]; exact hS.2.2.2.1 x a b
  · rw [s5]; exact hS.2.2.2.2
theorem tA_200_100 : p_X5_takeAll_200_100 M ∧ (∀ k, k < 4 → (w_X5_takeAll_200_100 M).1 200 k = M.1 100 k) ∧ (∀ j, j < 3 → (w_X5_takeAll_200_100 M).1 201 j = M.1 101 j) ∧ (∀ j, j < 6 → (w_X5_takeAll_200_100 M).1 202 j = M.1 102 j) ∧ (∀ j, j < 4 → (w_X5_takeAll_200_100 M).1 204 j = M.1 104 j) ∧ ((∀ j, j < 4 → (w_X5_takeAll_200_100 M).1 205 j = M.1 105 j) ∧ (∀ j, j < 4 → (w_X5_takeAll_200_100 M).1 206 j = M.1 106 j)) ∧ (∀ w f, w < 6 → f < 8 → (w_X5_takeAll_200_100 M).1 (210 + w) f = M.1 (110 + w) f) ∧
    ((∀ j, j < 3 → (w_X5_takeAll_200_100 M).1 1011 j = M.1 1001 j) ∧ (∀ j, j < 6 → (w_X5_takeAll_200_100 M).1 1012 j = M.1 1002 j) ∧ (∀ j, j < 6 → (w_X5_takeAll_200_100 M).1 1013 j = M.1 1003 j) ∧ (∀ j, j < 6 → (w_X5_takeAll_200_100 M).1 1014 j = M.1 1004 j) ∧ (w_X5_takeAll_200_100 M).1 1010 4 = M.1 1000 4 ∧ (w_X5_takeAll_200_100 M).1 1010 5 = M.1 1000 5) ∧
    Fp (fun a k => (200 ≤ a ∧ a ≤ 215) ∨ (1010 ≤ a ∧ a ≤ 1014)) M (w_X5_takeAll_200_100 M) := by
  obtain ⟨t0, t1, t2, t3, t4, t5, ⟨t6, t7, t8, t9, t10, t11⟩, F⟩ := tT_200_100 (M := M)
  unfold p_X5_takeAll_200_100 w_X5_takeAll_200_100
  generalize w_X5_takeTown_200_100 M = M1 at t1 t2 t3 t4 t5 t6 t7 t8 t9 t10 t11 F ⊢
  have rd : ∀ a k, (cpi (cpi (wi M1 200 3 (M1.1 100 3)) 105 205 0 0 4) 106 206 0 0 4).1 a k = if a = 206 ∧ k < 4 then M.1 106 k else if a = 205 ∧ k < 4 then M.1 105 k else if a = 200 ∧ k = 3 then M.1 100 3 else M1.1 a k := fun a k => by
    rw [cpi_r, cpi_r, cpi_r, wi_1, wi_1]
    have f5 : M1.1 105 k = M.1 105 k := (F _ _ (by omega)).1
    have f6 : M1.1 106 k = M.1 106 k := (F _ _ (by omega)).1
    have f3 : M1.1 100 3 = M.1 100 3 := (F _ _ (by omega)).1
    rw [if_neg (show ¬ ((106 : Nat) = 205 ∧ k < 4) by omega), wi_1, if_neg (show ¬ ((106 : Nat) = 200 ∧ k = 3) by omega), if_neg (show ¬ ((105 : Nat) = 200 ∧ k = 3) by omega), f5, f6, f3]
  have r2 : (cpi (cpi (wi M1 200 3 (M1.1 100 3)) 105 205 0 0 4) 106 206 0 0 4).2 = M1.2 := rfl
  generalize cpi (cpi (wi M1 200 3 (M1.1 100 3)) 105 205 0 0 4) 106 206 0 0 4 = M2 at rd r2 ⊢
  have sm : ∀ a k, a ≠ 206 → a ≠ 205 → a ≠ 200 → M2.1 a k = M1.1 a k := fun a k h1 h2 h3 => by rw [rd, if_neg (by omega), if_neg (by omega), if_neg (by omega)]
  refine ⟨⟨t0, trivial⟩, fun k hk => ?_, fun j hj => ?_, fun j hj => ?_, fun j hj => ?_, ⟨fun j hj => ?_, fun j hj => ?_⟩, fun w f hw hf => ?_, ⟨fun j hj => ?_, fun j hj => ?_, fun j hj => ?_, fun j hj => ?_, ?_, ?_⟩, fun a k hq => ⟨?_, ?_⟩⟩
  · rw [rd, if_neg (by omega), if_neg (by omega)]
    by_cases q : k = 3
    · rw [if_pos ⟨rfl, q⟩, q]
    · rw [if_neg (fun u => q u.2)]; exact t1 k (by omega)
  · rw [sm _ _ (by omega) (by omega) (by omega)]; exact t2 j hj
  · rw [sm _ _ (by omega) (by omega) (by omega)]; exact t3 j hj
  · rw [sm _ _ (by omega) (by omega) (by omega)]; exact t4 j hj
  · rw [rd, if_neg (by omega), if_pos ⟨rfl, hj⟩]
  · rw [rd, if_pos ⟨rfl, hj⟩]
  · rw [sm _ _ (by omega) (by omega) (by omega)]; exact t5 w f hw hf
  · rw [sm _ _ (by omega) (by omega) (by omega)]; exact t6 j hj
  · rw [sm _ _ (by omega) (by omega) (by omega)]; exact t7 j hj
  · rw [sm _ _ (by omega) (by omega) (by omega)]; exact t8 j hj
  · rw [sm _ _ (by omega) (by omega) (by omega)]; exact t9 j hj
  · rw [sm _ _ (by omega) (by omega) (by omega)]; exact t10
  · rw [sm _ _ (by omega) (by omega) (by omega)]; exact t11
  · rw [sm _ _ (by omega) (by omega) (by omega)]; exact (F a k (by omega)).1
  · rw [r2]; exact (F a k (by omega)).2
theorem tA_100_200 : p_X5_takeAll_100_200 M ∧ (∀ k, k < 4 → (w_X5_takeAll_100_200 M).1 100 k = M.1 200 k) ∧ (∀ j, j < 3 → (w_X5_takeAll_100_200 M).1 101 j = M.1 201 j) ∧ (∀ j, j < 6 → (w_X5_takeAll_100_200 M).1 102 j = M.1 202 j) ∧ (∀ j, j < 4 → (w_X5_takeAll_100_200 M).1 104 j = M.1 204 j) ∧ ((∀ j, j < 4 → (w_X5_takeAll_100_200 M).1 105 j = M.1 205 j) ∧ (∀ j, j < 4 → (w_X5_takeAll_100_200 M).1 106 j = M.1 206 j)) ∧ (∀ w f, w < 6 → f < 8 → (w_X5_takeAll_100_200 M).1 (110 + w) f = M.1 (210 + w) f) ∧
    ((∀ j, j < 3 → (w_X5_takeAll_100_200 M).1 1001 j = M.1 1011 j) ∧ (∀ j, j < 6 → (w_X5_takeAll_100_200 M).1 1002 j = M.1 1012 j) ∧ (∀ j, j < 6 → (w_X5_takeAll_100_200 M).1 1003 j = M.1 1013 j) ∧ (∀ j, j < 6 → (w_X5_takeAll_100_200 M).1 1004 j = M.1 1014 j) ∧ (w_X5_takeAll_100_200 M).1 1000 4 = M.1 1010 4 ∧ (w_X5_takeAll_100_200 M).1 1000 5 = M.1 1010 5) ∧
    Fp (fun a k => (100 ≤ a ∧ a ≤ 115) ∨ (1000 ≤ a ∧ a ≤ 1004)) M (w_X5_takeAll_100_200 M) := by
  obtain ⟨t0, t1, t2, t3, t4, t5, ⟨t6, t7, t8, t9, t10, t11⟩, F⟩ := tT_100_200 (M := M)
  unfold p_X5_takeAll_100_200 w_X5_takeAll_100_200
  generalize w_X5_takeTown_100_200 M = M1 at t1 t2 t3 t4 t5 t6 t7 t8 t9 t10 t11 F ⊢
  have rd : ∀ a k, (cpi (cpi (wi M1 100 3 (M1.1 200 3)) 205 105 0 0 4) 206 106 0 0 4).1 a k = if a = 106 ∧ k < 4 then M.1 206 k else if a = 105 ∧ k < 4 then M.1 205 k else if a = 100 ∧ k = 3 then M.1 200 3 else M1.1 a k := fun a k => by
    rw [cpi_r, cpi_r, cpi_r, wi_1, wi_1]
    have f5 : M1.1 205 k = M.1 205 k := (F _ _ (by omega)).1
    have f6 : M1.1 206 k = M.1 206 k := (F _ _ (by omega)).1
    have f3 : M1.1 200 3 = M.1 200 3 := (F _ _ (by omega)).1
    rw [if_neg (show ¬ ((206 : Nat) = 105 ∧ k < 4) by omega), wi_1, if_neg (show ¬ ((206 : Nat) = 100 ∧ k = 3) by omega), if_neg (show ¬ ((205 : Nat) = 100 ∧ k = 3) by omega), f5, f6, f3]
  have r2 : (cpi (cpi (wi M1 100 3 (M1.1 200 3)) 205 105 0 0 4) 206 106 0 0 4).2 = M1.2 := rfl
  generalize cpi (cpi (wi M1 100 3 (M1.1 200 3)) 205 105 0 0 4) 206 106 0 0 4 = M2 at rd r2 ⊢
  have sm : ∀ a k, a ≠ 106 → a ≠ 105 → a ≠ 100 → M2.1 a k = M1.1 a k := fun a k h1 h2 h3 => by rw [rd, if_neg (by omega), if_neg (by omega), if_neg (by omega)]
  refine ⟨⟨t0, trivial⟩, fun k hk => ?_, fun j hj => ?_, fun j hj => ?_, fun j hj => ?_, ⟨fun j hj => ?_, fun j hj => ?_⟩, fun w f hw hf => ?_, ⟨fun j hj => ?_, fun j hj => ?_, fun j hj => ?_, fun j hj => ?_, ?_, ?_⟩, fun a k hq => ⟨?_, ?_⟩⟩
  · rw [rd, if_neg (by omega), if_neg (by omega)]
    by_cases q : k = 3
    · rw [if_pos ⟨rfl, q⟩, q]
    · rw [if_neg (fun u => q u.2)]; exact t1 k (by omega)
  · rw [sm _ _ (by omega) (by omega) (by omega)]; exact t2 j hj
  · rw [sm _ _ (by omega) (by omega) (by omega)]; exact t3 j hj
  · rw [sm _ _ (by omega) (by omega) (by omega)]; exact t4 j hj
  · rw [rd, if_neg (by omega), if_pos ⟨rfl, hj⟩]
  · rw [rd, if_pos ⟨rfl, hj⟩]
  · rw [sm _ _ (by omega) (by omega) (by omega)]; exact t5 w f hw hf
  · rw [sm _ _ (by omega) (by omega) (by omega)]; exact t6 j hj
  · rw [sm _ _ (by omega) (by omega) (by omega)]; exact t7 j hj
  · rw [sm _ _ (by omega) (by omega) (by omega)]; exact t8 j hj
  · rw [sm _ _ (by omega) (by omega) (by omega)]; exact t9 j hj
  · rw [sm _ _ (by omega) (by omega) (by omega)]; exact t10
  · rw [sm _ _ (by omega) (by omega) (by omega)]; exact t11
  · rw [sm _ _ (by omega) (by omega) (by omega)]; exact (F a k (by omega)).1
  · rw [r2]; exact (F a k (by omega)).2
theorem pair_keep (h : Rel M n) (hn : n < 64) : PairI (p_X7_keep M) (p_X8_keep (w_X7_keep M)) (r_X7_keep M) (r_X8_keep (w_X7_keep M)) (w_X8_keep (w_X7_keep M)) n := by
  obtain ⟨T, S, g, ⟨c1, c2, c3, c4⟩, ⟨r1, r2, r3, r4, r5⟩, i1, i2, i3, i4, i5⟩ := h.1
  have hc := i1.1
  have hR := i2.1
  obtain ⟨t0, t1, t2, t3, t4, ⟨t5, t5'⟩, tw, ⟨t6, t7, t8, t9, t10, t11⟩, F⟩ := tA_200_100 (M := M)
  unfold p_X7_keep w_X7_keep p_X8_keep w_X8_keep r_X7_keep r_X8_keep
  generalize w_X5_takeAll_200_100 M = W at t1 t2 t3 t4 t5 t5' tw t6 t7 t8 t9 t10 t11 F ⊢
  obtain ⟨M1, hM1⟩ : ∃ M1, M1 = wi W 1 9 1 := ⟨_, rfl⟩
  rw [← hM1]
  have v1 : ∀ a k, a ≠ 1 → M1.1 a k = W.1 a k := fun a k ha => by rw [hM1, rd_ne (Or.inl ha)]
  have F1 : Fp (fun a k => (200 ≤ a ∧ a ≤ 215) ∨ (1010 ≤ a ∧ a ≤ 1014) ∨ (a = 1 ∧ k = 9)) M M1 := by rw [hM1]; exact Fp.wi (F.mono (fun a k h => by omega)) (by omega)
  have k9 : M1.1 1 9 = 1 := by rw [hM1]; exact rd_same _ _ _ _
  clear hM1
  obtain ⟨m0, ⟨m1, m2, m3, m4, m5⟩, m6, m7, m8, m9, m10, m11, F2⟩ := mA_1 (M := M1)
  generalize w_X8_moveAll M1 (1 : Int32) = W2 at m1 m2 m3 m4 m5 m6 m7 m8 m9 m10 m11 F2 ⊢
  refine ⟨⟨t0, trivial⟩, ⟨m0, trivial⟩, rfl, ?_⟩
  obtain ⟨M2, hM2⟩ : ∃ M2, M2 = wi W2 600 55 1 := ⟨_, rfl⟩
  rw [← hM2]
  have v2 : ∀ a k, a ≠ 600 → M2.1 a k = W2.1 a k := fun a k ha => by rw [hM2, rd_ne (Or.inl ha)]
  have F3 : Fp (fun a k => (a = 600 ∧ (k = 57 ∨ k = 55)) ∨ a = 627 ∨ a = 628) M1 M2 := by rw [hM2]; exact Fp.wi (F2.mono (fun a k h => by omega)) (by omega)
  have k55 : M2.1 600 55 = 1 := by rw [hM2]; exact rd_same _ _ _ _
  clear hM2
  have F4 : Fp (fun a k => (200 ≤ a ∧ a ≤ 215) ∨ (1010 ≤ a ∧ a ≤ 1014) ∨ (a = 1 ∧ k = 9) ∨ (a = 600 ∧ (k = 57 ∨ k = 55)) ∨ a = 627 ∨ a = 628) M M2 := (F1.mono (fun a k h => by omega)).tr (F3.mono (fun a k h => by omega))
  have cw : ∀ a k, a ≠ 1 → a ≠ 600 → a ≠ 627 → a ≠ 628 → M2.1 a k = W.1 a k := fun a k a1 a2 a3 a4 => by rw [(F3 a k (by omega)).1, v1 a k a1]
  have sr : ∀ a k, 600 ≤ a → a < 627 → M1.1 a k = M.1 a k := fun a k a1 a2 => (F1 a k (by omega)).1
  refine h.of (by omega) F4 (Or.inl fun a k h => by omega) (Or.inl fun a k h => by omega) (Or.inl fun a k h => by omega) (Or.inl fun a k h => by omega) (Or.inl fun a k h => by omega) (Or.inr (Or.inr ⟨⟨?_, k55⟩, T, S, g, ?_, ?_, i1, i2, i3.up (Nat.le_succ n) (by omega), i4, by omega⟩)) (Or.inl fun a k h => by omega) (fun a k h => by omega)
  · rw [(F3 _ _ (by omega)).1]; exact k9
  · obtain ⟨x1, x2⟩ := cpy_T (M' := M2) (b' := 200) (s' := 1010) c1 c2 i1 (fun k hk => by rw [cw _ _ (by omega) (by omega) (by omega) (by omega)]; exact t1 k (by omega)) (fun k hk => by rw [cw _ _ (by omega) (by omega) (by omega) (by omega)]; exact t2 k hk) (fun k hk => by rw [cw _ _ (by omega) (by omega) (by omega) (by omega)]; exact t3 k hk) (fun k hk => by rw [cw _ _ (by omega) (by omega) (by omega) (by omega)]; exact t4 k hk) (fun w f hw hf => by rw [cw _ _ (by omega) (by omega) (by omega) (by omega)]; exact tw w f hw hf) (fun k hk => by rw [cw _ _ (by omega) (by omega) (by omega) (by omega)]; exact t6 k hk) (fun k hk => by rw [cw _ _ (by omega) (by omega) (by omega) (by omega)]; exact t7 k hk) (fun k hk => by rw [cw _ _ (by omega) (by omega) (by omega) (by omega)]; exact t8 k hk) (fun k hk => by rw [cw _ _ (by omega) (by omega) (by omega) (by omega)]; exact t9 k hk) (by rw [cw _ _ (by omega) (by omega) (by omega) (by omega)]; exact t10)
    refine ⟨x1, x2, by rw [cw _ _ (by omega) (by omega) (by omega) (by omega), t11]; exact c3, ?_, fun u h0 h1 => ⟨?_, ?_⟩⟩
    · rw [cw _ _ (by omega) (by omega) (by omega) (by omega), t1 3 (by omega)]; exact c4.1
    · rw [cw _ _ (by omega) (by omega) (by omega) (by omega)]; exact (t5 _ (by omega)).trans (c4.2 u h0 h1).1
    · rw [cw _ _ (by omega) (by omega) (by omega) (by omega)]; exact (t5' _ (by omega)).trans (c4.2 u h0 h1).2
  · refine ⟨⟨?_, ?_, ?_, ?_, ?_⟩, fun x h0 h1 => ?_, fun x h0 h1 => ?_, fun w f hw hf => ?_, fun k hk => ?_, ⟨fun x h0 h1 => ?_, fun x h0 h1 => ?_, fun x h0 h1 => ?_, fun x h0 h1 => ?_, ?_⟩, fun x h0 h1 => ⟨?_, ?_⟩⟩
    · rw [v2 _ _ (by omega), m1, sr _ _ (by omega) (by omega)]; exact r1.1.1
    · rw [v2 _ _ (by omega), m2, sr _ _ (by omega) (by omega)]; exact r1.1.2.1
    · rw [v2 _ _ (by omega), m3, sr _ _ (by omega) (by omega)]; exact r1.1.2.2
    · rw [v2 _ _ (by omega), m4, sr _ _ (by omega) (by omega)]; exact r4
    · rw [v2 _ _ (by omega), m5, sr _ _ (by omega) (by omega)]; exact r5.1
    · rw [v2 _ _ (by omega), m6 _ (by omega), sr _ _ (by omega) (by omega)]; exact r1.2.1 x h0 h1
    · rw [v2 _ _ (by omega), m7 _ (by omega), sr _ _ (by omega) (by omega)]; exact r1.2.2.1 x h0 h1
    · rw [v2 _ _ (by omega), m8 _ (by omega), sr _ _ (by omega) (by omega)]; exact r1.2.2.2.2 w f hw hf
    · rw [v2 _ _ (by omega), m9 _ (by omega), sr _ _ (by omega) (by omega)]; exact r1.2.2.2.1 k hk
    · rw [v2 _ _ (by omega), show 66 + x.toNat = 66 + (0 + x.toNat) by omega, m10 _ (by omega), sr _ _ (by omega) (by omega)]; exact r2.1 x h0 h1
    · rw [v2 _ _ (by omega), show 66 + 3 + x.toNat = 66 + (0 + 3 + x.toNat) by omega, m10 _ (by omega), sr _ _ (by omega) (by omega)]; exact r2.2.1 x h0 h1
    · rw [v2 _ _ (by omega), show 66 + 9 + x.toNat = 66 + (0 + 9 + x.toNat) by omega, m10 _ (by omega), sr _ _ (by omega) (by omega)]; exact r2.2.2.1 x h0 h1
    · rw [v2 _ _ (by omega), show 66 + 15 + x.toNat = 66 + (0 + 15 + x.toNat) by omega, m10 _ (by omega), sr _ _ (by omega) (by omega)]; exact r2.2.2.2.1 x h0 h1
    · rw [v2 _ _ (by omega), show 66 + 21 = 66 + (0 + 21) by omega, m10 _ (by omega), sr _ _ (by omega) (by omega)]; exact r2.2.2.2.2
    · rw [v2 _ _ (by omega), m11 _ (by omega), sr _ _ (by omega) (by omega)]; exact (r5.2 x h0 h1).1
    · rw [v2 _ _ (by omega), m11 _ (by omega), sr _ _ (by omega) (by omega)]; exact (r5.2 x h0 h1).2
theorem again15 (W : Mm) : w_X8_again_15 W = wi (wi (wi (wi (wi W 600 0 (W.1 628 0)) 600 1 (W.1 628 1)) 600 2 (W.1 628 2)) 600 11 (W.1 628 3)) 600 12 (W.1 628 4) := by
  unfold w_X8_again_15
  have q : ∀ (M : Mm) (k j : Nat) (v : Int32), (wi M 600 k v).1 628 j = M.1 628 j := fun M k j v => rd_ne (Or.inl (by decide))
  simp only [q]
theorem again15r (W : Mm) : r_X8_again_15 W = (w_X8_again_15 W).1 600 2 := rfl
theorem pair_again (h : Rel M n) (hn : n < 64) : PairI (p_X7_again M) (p_X8_again (w_X7_again M)) (r_X7_again M) (r_X8_again (w_X7_again M)) (w_X8_again (w_X7_again M)) n := by
  have rA0 : RA M 0 := by
    obtain ⟨T, S, g, -, ⟨-, -, r3, -⟩, -⟩ := h.1
    exact r3
  unfold p_X7_again w_X7_again p_X8_again w_X8_again r_X7_again r_X8_again
  rcases h.2.2.2.2.2.1 with ⟨z1, z2⟩ | ⟨⟨z1, z2⟩, T, S, g, ⟨c1, c2, c3, c4⟩, kr, i1, i2, i3, i4, i5⟩
  · have e1 := not_not_intro z1
    have e2 := not_not_intro z2
    simp only [if_neg e1, if_neg e2]
    exact ⟨trivial, trivial, rfl, h.up (by omega)⟩
  · have e1 : ¬ M.1 1 9 = 0 := by rw [z1]; decide
    simp only [if_pos e1]
    have hc := i1.1
    have hR := i2.1
    obtain ⟨t0, t1, t2, t3, t4, ⟨t5, t5'⟩, tw, ⟨t6, t7, t8, t9, t10, t11⟩, F⟩ := tA_100_200 (M := M)
    generalize w_X5_takeAll_100_200 M = M1 at t1 t2 t3 t4 t5 t5' tw t6 t7 t8 t9 t10 t11 F ⊢
    have e2 : ¬ M1.1 600 55 = 0 := by rw [(F _ _ (by omega)).1, z2]; decide
    simp only [if_pos e2]
    obtain ⟨m0, m1, m6, m7, m8, m9, m10, m11, F2⟩ := mA_0 (M := M1)
    rw [again15r, again15]
    generalize w_X8_moveAll M1 (0 : Int32) = W2 at m1 m6 m7 m8 m9 m10 m11 F2 ⊢
    have sr : ∀ k, M1.1 627 k = M.1 627 k := fun k => (F _ _ (by omega)).1
    obtain ⟨⟨k0, k1, k2, k3, k4⟩, kr1, kr2, kr3, kr4, ⟨kr5, kr6, kr7, kr8, kr9⟩, kr10⟩ := kr
    have n0 : W2.1 628 0 = iI (T 0 0) := by rw [m1 0 (by omega), sr]; exact k0
    have n1 : W2.1 628 1 = iI (T 0 1) := by rw [m1 1 (by omega), sr]; exact k1
    have n2 : W2.1 628 2 = iI (T 0 2) := by rw [m1 2 (by omega), sr]; exact k2
    have n3 : W2.1 628 3 = iI g := by rw [m1 3 (by omega), sr]; exact k3
    have n4 : W2.1 628 4 = iI (T 0 3) := by rw [m1 4 (by omega), sr]; exact k4
    rw [n0, n1, n2, n3, n4]
    obtain ⟨M2, hM2⟩ : ∃ M2, M2 = wi (wi (wi (wi (wi W2 600 0 (iI (T 0 0))) 600 1 (iI (T 0 1))) 600 2 (iI (T 0 2))) 600 11 (iI g)) 600 12 (iI (T 0 3)) := ⟨_, rfl⟩
    rw [← hM2]
    have q0 : M2.1 600 0 = iI (T 0 0) := by rw [hM2, rd_ne (Or.inr (by decide)), rd_ne (Or.inr (by decide)), rd_ne (Or.inr (by decide)), rd_ne (Or.inr (by decide)), rd_same]
    have q1 : M2.1 600 1 = iI (T 0 1) := by rw [hM2, rd_ne (Or.inr (by decide)), rd_ne (Or.inr (by decide)), rd_ne (Or.inr (by decide)), rd_same]
    have q2 : M2.1 600 2 = iI (T 0 2) := by rw [hM2, rd_ne (Or.inr (by decide)), rd_ne (Or.inr (by decide)), rd_same]
    have q3 : M2.1 600 11 = iI g := by rw [hM2, rd_ne (Or.inr (by decide)), rd_same]
    have q4 : M2.1 600 12 = iI (T 0 3) := by rw [hM2, rd_same]
    have v2 : ∀ a k, a ≠ 600 → M2.1 a k = W2.1 a k := fun a k ha => by rw [hM2, rd_ne (Or.inl ha), rd_ne (Or.inl ha), rd_ne (Or.inl ha), rd_ne (Or.inl ha), rd_ne (Or.inl ha)]
    have F3 : Fp (fun a k => (a = 600 ∧ (k = 57 ∨ k ≤ 2 ∨ k = 11 ∨ k = 12)) ∨ a = 628 ∨ a = 601 ∨ a = 602 ∨ a = 603 ∨ a = 604 ∨ (a = 607 ∧ k < 22) ∨ a = 608) M1 M2 := by rw [hM2]; exact Fp.wi (Fp.wi (Fp.wi (Fp.wi (Fp.wi (F2.mono (fun a k h => by omega)) (by omega)) (by omega)) (by omega)) (by omega)) (by omega)
    clear hM2
    have F4 : Fp (fun a k => (100 ≤ a ∧ a ≤ 115) ∨ (1000 ≤ a ∧ a ≤ 1004) ∨ (a = 600 ∧ (k = 57 ∨ k ≤ 2 ∨ k = 11 ∨ k = 12)) ∨ a = 628 ∨ a = 601 ∨ a = 602 ∨ a = 603 ∨ a = 604 ∨ (a = 607 ∧ k < 22) ∨ a = 608) M M2 := (F.mono (fun a k h => by omega)).tr (F3.mono (fun a k h => by omega))
    have cw : ∀ a k, (100 ≤ a ∧ a ≤ 115) ∨ (1000 ≤ a ∧ a ≤ 1004) → M2.1 a k = M1.1 a k := fun a k ha => (F3 a k (by omega)).1
    refine ⟨⟨t0, trivial⟩, ⟨m0, trivial⟩, ?_, ?_⟩
    · rw [q2, t1 2 (by omega)]; exact c1.1.2.2
    refine h.of (by omega) F4 (Or.inr ⟨T, S, g, ?_, ⟨⟨⟨q0, q1, q2⟩, fun x h0 h1 => ?_, fun x h0 h1 => ?_, fun k hk => ?_, fun w f hw hf => ?_⟩, ⟨fun x h0 h1 => ?_, fun x h0 h1 => ?_, fun x h0 h1 => ?_, fun x h0 h1 => ?_, ?_⟩, ⟨?_, rA0.2⟩, q3, q4, fun x h0 h1 => ⟨?_, ?_⟩⟩, i1, i2, i3.up (Nat.le_succ n) (by omega), i4, by omega⟩) (Or.inl fun a k h => by omega) (Or.inl fun a k h => by omega) (Or.inl fun a k h => by omega) (Or.inl fun a k h => by omega) (Or.inl fun a k h => by omega) (Or.inl fun a k h => by omega) (fun a k h => by omega)
    · obtain ⟨x1, x2⟩ := cpy_T (M' := M2) (b' := 100) (s' := 1000) c1 c2 i1 (fun k hk => by rw [cw _ _ (by omega)]; exact t1 k (by omega)) (fun k hk => by rw [cw _ _ (by omega)]; exact t2 k hk) (fun k hk => by rw [cw _ _ (by omega)]; exact t3 k hk) (fun k hk => by rw [cw _ _ (by omega)]; exact t4 k hk) (fun w f hw hf => by rw [cw _ _ (by omega)]; exact tw w f hw hf) (fun k hk => by rw [cw _ _ (by omega)]; exact t6 k hk) (fun k hk => by rw [cw _ _ (by omega)]; exact t7 k hk) (fun k hk => by rw [cw _ _ (by omega)]; exact t8 k hk) (fun k hk => by rw [cw _ _ (by omega)]; exact t9 k hk) (by rw [cw _ _ (by omega)]; exact t10)
      refine ⟨x1, x2, by rw [cw _ _ (by omega), t11]; exact c3, ?_, fun u h0 h1 => ⟨?_, ?_⟩⟩
      · rw [cw _ _ (by omega), t1 3 (by omega)]; exact c4.1
      · rw [cw _ _ (by omega)]; exact (t5 _ (by omega)).trans (c4.2 u h0 h1).1
      · rw [cw _ _ (by omega)]; exact (t5' _ (by omega)).trans (c4.2 u h0 h1).2
    · rw [v2 _ _ (by omega), m6 _ (by omega), sr]; exact kr1 x h0 h1
    · rw [v2 _ _ (by omega), m7 _ (by omega), sr]; exact kr2 x h0 h1
    · rw [v2 _ _ (by omega), m9 _ (by omega), sr]; exact kr4 k hk
    · rw [v2 _ _ (by omega), m8 _ (by omega), sr]; exact kr3 w f hw hf
    · rw [v2 _ _ (by omega), m10 _ (by omega), sr, show 66 + (0 + x.toNat) = 66 + x.toNat by omega]; exact kr5 x h0 h1
    · rw [v2 _ _ (by omega), m10 _ (by omega), sr, show 66 + (0 + 3 + x.toNat) = 66 + 3 + x.toNat by omega]; exact kr6 x h0 h1
    · rw [v2 _ _ (by omega), m10 _ (by omega), sr, show 66 + (0 + 9 + x.toNat) = 66 + 9 + x.toNat by omega]; exact kr7 x h0 h1
    · rw [v2 _ _ (by omega), m10 _ (by omega), sr, show 66 + (0 + 15 + x.toNat) = 66 + 15 + x.toNat by omega]; exact kr8 x h0 h1
    · rw [v2 _ _ (by omega), m10 _ (by omega), sr]; exact kr9
    · rw [(F4 _ _ (by omega)).1]; exact rA0.1
    · rw [v2 _ _ (by omega), m11 _ (by omega), sr]; exact (kr10 x h0 h1).1
    · rw [v2 _ _ (by omega), m11 _ (by omega), sr]; exact (kr10 x h0 h1).2
end P52
