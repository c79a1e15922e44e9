/-! the class's search: a comparison -/
def KR (M : Mm) (b : Bt) (len : Nat) : Prop := (M.1 510 5 = 0 ∧ b = b00) ∨ (M.1 510 5 = 1 ∧ (0 ≤ b.1 ∧ b.1 ≤ 1000) ∧ M.1 510 6 = iI b.1 ∧ M.1 510 7 = dOf (fun i => iI ((toF b.2.1 i : Nat) : Int)) len ∧ M.1 510 8 = iI b.2.2.1 ∧ (0 ≤ b.2.2.1 ∧ b.2.2.1 ≤ 99) ∧ M.1 510 9 = iI b.2.2.2 ∧ (0 ≤ b.2.2.2 ∧ b.2.2.2 ≤ 1000000))
theorem KR.fq {M M' : Mm} {b : Bt} {len : Nat} {Q : Nat → Nat → Prop} (h : KR M b len) (F : Fq Q M M') (hq : ∀ k, 5 ≤ k → k ≤ 9 → ¬ Q 510 k) : KR M' b len := by
  have e : ∀ k, 5 ≤ k → k ≤ 9 → M'.1 510 k = M.1 510 k := fun k h1 h2 => F.1 510 k (hq k h1 h2)
  unfold KR
  rw [e 5 (by omega) (by omega), e 6 (by omega) (by omega), e 7 (by omega) (by omega), e 8 (by omega) (by omega), e 9 (by omega) (by omega)]
  exact h
theorem free_ex {T S : Tw} (hI : InvT T) (h : 0 < aOpn S (T 0 2).toNat) : ∃ j, j < (T 0 2).toNat ∧ aFree T S j := by
  have hc := hI.1
  obtain ⟨v, v1, v2⟩ := aOpn_ex _ h
  obtain ⟨j, j1, j2, j3⟩ := fst_ex (fun j => S 2 j ≠ 0) (T 0 2).toNat
  have jn : j < (T 0 2).toNat := by
    rcases Nat.lt_or_ge j (T 0 2).toNat with q | q
    · exact q
    · exact absurd v2 (j2 v (by omega))
  have j0 : S 2 j = 0 := by
    rcases j3 with j3 | j3
    · omega
    · exact Decidable.not_not.mp j3
  have k6 := (hI.2.2.2.2 j (by omega)).2.2.2.2.2.2.1
  exact ⟨j, jn, j0, fun u => j2 _ (by omega) u.2⟩
section P83
variable {M : Mm} {s len : Nat} {x : Xs} {o : List Nat} {b : Bt}
theorem c_64 {m Q : Int} (hs : 1000 ≤ s) (a2 : Int32) (h4 : M.1 s 4 = iI m) (hm : 0 ≤ m ∧ m ≤ 1000000) (hf : M.1 510 5 = 0 ∨ (¬ M.1 510 5 = 0 ∧ M.1 510 9 = iI Q ∧ 0 ≤ Q ∧ Q ≤ 1000000)) : w_X2_compare_64 M s a2 = wi (wi M 510 9 (iI (if M.1 510 5 = 0 then m else if m < Q then m else Q))) 510 5 1 := by
  unfold w_X2_compare_64
  rcases hf with hf | ⟨hf, h9, q1, q2⟩
  · rw [if_pos hf, if_pos hf, h4]
  · rw [if_neg hf, if_neg hf, h4, h9, iteLT (by omega) (by omega) (by omega) (by omega), iI_ite]
theorem c_35 {l L m Q : Int} (hs : 1000 ≤ s) (a2 : Int32) (h4 : M.1 s 4 = iI m) (hm : 0 ≤ m ∧ m ≤ 1000000) (h6 : M.1 s 6 = iI l) (hl : 0 ≤ l ∧ l ≤ 99) (hf : M.1 510 5 = 0 ∨ (¬ M.1 510 5 = 0 ∧ (M.1 510 8 = iI L ∧ 0 ≤ L ∧ L ≤ 99) ∧ M.1 510 9 = iI Q ∧ 0 ≤ Q ∧ Q ≤ 1000000)) : w_X2_compare_35 M s a2 = wi (wi (wi M 510 8 (iI (if M.1 510 5 = 0 then l else if l < L then l else L))) 510 9 (iI (if M.1 510 5 = 0 then m else if m < Q then m else Q))) 510 5 1 := by
  have r5 : ∀ v : Int32, (wi M 510 8 v).1 510 5 = M.1 510 5 := fun v => rd_ne (Or.inr (by omega))
  have r9 : ∀ v : Int32, (wi M 510 8 v).1 510 9 = M.1 510 9 := fun v => rd_ne (Or.inr (by omega))
  have r4 : ∀ v : Int32, (wi M 510 8 v).1 s 4 = M.1 s 4 := fun v => rd_ne (Or.inl (by omega))
  unfold w_X2_compare_35
  rcases hf with hf | ⟨hf, ⟨h8, L1, L2⟩, h9, q1, q2⟩
  · rw [if_pos hf, if_pos hf, h6, c_64 (M := wi M 510 8 (iI l)) (Q := Q) hs a2 (by rw [r4]; exact h4) hm (Or.inl (by rw [r5]; exact hf)), r5]
  · rw [if_neg hf, if_neg hf, h6, h8, iteLT (by omega) (by omega) (by omega) (by omega), iI_ite, c_64 (M := wi M 510 8 _) (Q := Q) hs a2 (by rw [r4]; exact h4) hm (Or.inr ⟨by rw [r5]; exact hf, by rw [r9]; exact h9, q1, q2⟩), r5]
theorem c_cmp (hs : 1000 ≤ s) (h4 : M.1 s 4 = iI (x.1 4 0)) (h5 : M.1 s 5 = iI x.2.1) (h6 : M.1 s 6 = iI x.2.2) (b4 : 0 ≤ x.1 4 0 ∧ x.1 4 0 ≤ 1000000) (b5 : 0 ≤ x.2.1 ∧ x.2.1 ≤ 1000) (b6 : 0 ≤ x.2.2 ∧ x.2.2 ≤ 99) (l6 : len ≤ 6) (h12 : ∀ i, i < len → M.1 512 i = iI ((toF o i : Nat) : Int)) (hB : KR M b len) :
    p_X2_compare M s (iI (len : Int)) ∧ KR (w_X2_compare M s (iI (len : Int))) (bUp b x o) len ∧ (w_X2_compare M s (iI (len : Int))).1 510 5 = 1 ∧ Fq (fun a k => a = 510 ∧ 5 ≤ k ∧ k ≤ 9) M (w_X2_compare M s (iI (len : Int))) := by
  have dg : ∀ v : Int32, p_X2_digitsOf (wi M 510 6 v) (iI (len : Int)) ∧ r_X2_digitsOf (wi M 510 6 v) (iI (len : Int)) = dOf (fun i => iI ((toF o i : Nat) : Int)) len := fun v => by
    obtain ⟨d1, d2⟩ := c_dig (M := wi M 510 6 v) l6
    refine ⟨d1, ?_⟩
    rw [d2]
    exact dOf_c len (fun i hi => by rw [rd_ne (Or.inl (by omega))]; exact h12 i hi)
  obtain ⟨d1, d2⟩ := dg (iI x.2.1)
  -- with the order written
  obtain ⟨N, hN⟩ : ∃ N, N = wi (wi M 510 6 (iI x.2.1)) 510 7 (dOf (fun i => iI ((toF o i : Nat) : Int)) len) := ⟨_, rfl⟩
  have r : ∀ a k, (a ≠ 510 ∨ (k ≠ 6 ∧ k ≠ 7)) → N.1 a k = M.1 a k := fun a k h => by rw [hN, rd_ne (by omega), rd_ne (by omega)]
  have n6 : N.1 510 6 = iI x.2.1 := by rw [hN, rd_ne (Or.inr (by omega)), rd_same]
  have n7 : N.1 510 7 = dOf (fun i => iI ((toF o i : Nat) : Int)) len := by rw [hN, rd_same]
  have FN : Fq (fun a k => a = 510 ∧ 5 ≤ k ∧ k ≤ 9) M N := by rw [hN]; exact Fq.wi (Fq.wi Fq.rf (by omega)) (by omega)
  have fw : ∀ (Z : Mm) (u v : Int32), Fq (fun a k => a = 510 ∧ 5 ≤ k ∧ k ≤ 9) M Z → Fq (fun a k => a = 510 ∧ 5 ≤ k ∧ k ≤ 9) M (wi (wi (wi Z 510 8 u) 510 9 v) 510 5 1) := fun Z u v h => Fq.wi (Fq.wi (Fq.wi h (by omega)) (by omega)) (by omega)
  have rr : ∀ (Z : Mm) (u v : Int32), (wi (wi (wi Z 510 8 u) 510 9 v) 510 5 1).1 510 5 = 1 ∧ (wi (wi (wi Z 510 8 u) 510 9 v) 510 5 1).1 510 6 = Z.1 510 6 ∧ (wi (wi (wi Z 510 8 u) 510 9 v) 510 5 1).1 510 7 = Z.1 510 7 ∧ (wi (wi (wi Z 510 8 u) 510 9 v) 510 5 1).1 510 8 = u ∧ (wi (wi (wi Z 510 8 u) 510 9 v) 510 5 1).1 510 9 = v := fun Z u v => ⟨rd_same .., by rw [rd_ne (Or.inr (by omega)), rd_ne (Or.inr (by omega)), rd_ne (Or.inr (by omega))], by rw [rd_ne (Or.inr (by omega)), rd_ne (Or.inr (by omega)), rd_ne (Or.inr (by omega))], by rw [rd_ne (Or.inr (by omega)), rd_ne (Or.inr (by omega)), rd_same], by rw [rd_ne (Or.inr (by omega)), rd_same]⟩
  unfold p_X2_compare w_X2_compare
  rw [h5, d2, ← hN]
  rcases hB with ⟨f0, rfl⟩ | ⟨f1, g1, g6, g7, g8, g8b, g9, g9b⟩
  · rw [if_pos f0, if_pos f0]
    have n5 : N.1 510 5 = 0 := by rw [r 510 5 (by omega)]; exact f0
    rw [c_35 (M := N) (L := 0) (Q := 0) (m := x.1 4 0) (l := x.2.2) hs _ (by rw [r s 4 (by omega)]; exact h4) b4 (by rw [r s 6 (by omega)]; exact h6) b6 (Or.inl n5), if_pos n5, if_pos n5]
    obtain ⟨q5, q6, q7, q8, q9⟩ := rr N (iI x.2.2) (iI (x.1 4 0))
    refine ⟨⟨d1, trivial⟩, Or.inr ?_, q5, fw _ _ _ FN⟩
    rw [q5, q6, q7, q8, q9, n6, n7]
    have e1 : (bUp b00 x o).1 = x.2.1 := if_neg (by show ¬ x.2.1 ≤ -1; omega)
    have e2 : (bUp b00 x o).2.1 = o := if_neg (by show ¬ x.2.1 ≤ -1; omega)
    have e3 : (bUp b00 x o).2.2.1 = x.2.2 := by
      show (if (99 : Int) ≤ x.2.2 then 99 else x.2.2) = x.2.2
      split <;> omega
    have e4 : (bUp b00 x o).2.2.2 = x.1 4 0 := by
      show (if (-1 : Int) < 0 then x.1 4 0 else if (-1 : Int) ≤ x.1 4 0 then -1 else x.1 4 0) = _
      rw [if_pos (by decide)]
    rw [e1, e2, e3, e4]
    exact ⟨rfl, b5, rfl, rfl, rfl, b6, rfl, b4⟩
  · have f0 : ¬ M.1 510 5 = 0 := by rw [f1]; decide
    rw [if_neg f0, if_neg f0, g6]
    have k : (iI x.2.1 ≤ iI b.1) ↔ x.2.1 ≤ b.1 := by rw [iI_le (by omega) (by omega) (by omega) (by omega)]
    have e3 : (if x.2.2 < b.2.2.1 then x.2.2 else b.2.2.1) = (bUp b x o).2.2.1 := by
      show _ = (if b.2.2.1 ≤ x.2.2 then b.2.2.1 else x.2.2)
      split <;> split <;> omega
    have e4 : (if x.1 4 0 < b.2.2.2 then x.1 4 0 else b.2.2.2) = (bUp b x o).2.2.2 := by
      show _ = (if b.2.2.2 < 0 then x.1 4 0 else if b.2.2.2 ≤ x.1 4 0 then b.2.2.2 else x.1 4 0)
      rw [if_neg (show ¬ b.2.2.2 < 0 by omega)]
      split <;> split <;> omega
    have e3b : 0 ≤ (bUp b x o).2.2.1 ∧ (bUp b x o).2.2.1 ≤ 99 := by rw [← e3]; split <;> omega
    have e4b : 0 ≤ (bUp b x o).2.2.2 ∧ (bUp b x o).2.2.2 ≤ 1000000 := by rw [← e4]; split <;> omega
    by_cases c : x.2.1 ≤ b.1
    · rw [if_pos (k.mpr c), if_pos (k.mpr c)]
      rw [c_35 (M := M) (L := b.2.2.1) (Q := b.2.2.2) (m := x.1 4 0) (l := x.2.2) hs _ h4 b4 h6 b6 (Or.inr ⟨f0, ⟨g8, g8b⟩, g9, g9b⟩), if_neg f0, if_neg f0, e3, e4]
      obtain ⟨q5, q6, q7, q8, q9⟩ := rr M (iI (bUp b x o).2.2.1) (iI (bUp b x o).2.2.2)
      refine ⟨trivial, Or.inr ?_, q5, fw _ _ _ Fq.rf⟩
      rw [q5, q6, q7, q8, q9, g6, g7]
      have e1 : (bUp b x o).1 = b.1 := if_pos c
      have e2 : (bUp b x o).2.1 = b.2.1 := if_pos c
      rw [e1, e2]
      exact ⟨rfl, g1, rfl, rfl, rfl, e3b, rfl, e4b⟩
    · have gc : ¬ iI x.2.1 ≤ iI b.1 := fun u => c (k.mp u)
      have n5 : ¬ N.1 510 5 = 0 := by rw [r 510 5 (by omega)]; exact f0
      rw [if_neg gc, if_neg gc]
      rw [c_35 (M := N) (L := b.2.2.1) (Q := b.2.2.2) (m := x.1 4 0) (l := x.2.2) hs _ (by rw [r s 4 (by omega)]; exact h4) b4 (by rw [r s 6 (by omega)]; exact h6) b6 (Or.inr ⟨n5, ⟨by rw [r 510 8 (by omega)]; exact g8, g8b⟩, by rw [r 510 9 (by omega)]; exact g9, g9b⟩), if_neg n5, if_neg n5, e3, e4]
      obtain ⟨q5, q6, q7, q8, q9⟩ := rr N (iI (bUp b x o).2.2.1) (iI (bUp b x o).2.2.2)
      refine ⟨⟨d1, trivial⟩, Or.inr ?_, q5, fw _ _ _ FN⟩
      rw [q5, q6, q7, q8, q9, n6, n7]
      have e1 : (bUp b x o).1 = x.2.1 := if_neg c
      have e2 : (bUp b x o).2.1 = o := if_neg c
      rw [e1, e2]
      exact ⟨rfl, b5, rfl, rfl, rfl, e3b, rfl, e4b⟩
end P83
