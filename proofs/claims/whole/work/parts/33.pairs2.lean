/-! mover, thing -/
section P33
variable {A A' B B' M : Mm} {T S T' : Tw} {n b s o : Nat} {mb pl pc : Int}
theorem CRu.eq (h : CRu M b T) (h0 : T' 0 3 = T 0 3) (h4 : ∀ k, T' 4 k = T 4 k) (h5 : ∀ k, T' 5 k = T 5 k) : CRu M b T' := by
  unfold CRu at h ⊢
  simp only [h0, h4, h5]
  exact h
theorem RRu.eq (h : RRu M T) (h0 : T' 0 3 = T 0 3) (h4 : ∀ k, T' 4 k = T 4 k) (h5 : ∀ k, T' 5 k = T 5 k) : RRu M T' := by
  unfold RRu at h ⊢
  simp only [h0, h4, h5]
  exact h
theorem InvR.eq (h : InvR T) (h0 : T' 0 3 = T 0 3) (h4 : ∀ k, T' 4 k = T 4 k) (h5 : ∀ k, T' 5 k = T 5 k) : InvR T' := by
  unfold InvR at h ⊢
  simp only [h0, h4, h5]
  exact h
theorem c_addM (hT : CT A b T) (hS : CSt A s T S) (hI : InvT T) (hm : T 0 0 < 3) (hbs : b + 20 ≤ s) (h1 : A'.1 (s + 1) (T 0 0).toNat = iI pl) (h2 : A'.1 (b + 1) (T 0 0).toNat = iI pc) (h3 : A'.1 b 0 = iI (T 0 0 + 1)) (F : ∀ a k, (b ≤ a ∧ a ≤ b + 15) ∨ (s ≤ a ∧ a ≤ s + 4) → ¬ ((a = s + 1 ∧ k = (T 0 0).toNat) ∨ (a = b + 1 ∧ k = (T 0 0).toNat) ∨ (a = b ∧ k = 0)) → A'.1 a k = A.1 a k) :
    CT A' b (tU (tU T 1 (T 0 0).toNat pc) 0 0 (T 0 0 + 1)) ∧ CSt A' s (tU (tU T 1 (T 0 0).toNat pc) 0 0 (T 0 0 + 1)) (tU S 0 (T 0 0).toNat pl) := by
  have hc := hI.1
  have e : ∀ i k, i ≠ 0 → i ≠ 1 → tU (tU T 1 (T 0 0).toNat pc) 0 0 (T 0 0 + 1) i k = T i k := fun i k a b => by rw [tU_n (Or.inl a), tU_n (Or.inl b)]
  have e0 : tU (tU T 1 (T 0 0).toNat pc) 0 0 (T 0 0 + 1) 0 0 = T 0 0 + 1 := tU_s _ _ _ _
  have e1 : ∀ k, k ≠ 0 → tU (tU T 1 (T 0 0).toNat pc) 0 0 (T 0 0 + 1) 0 k = T 0 k := fun k a => by rw [tU_n (Or.inr a), tU_n (Or.inl (by omega))]
  refine ⟨⟨⟨by rw [e0]; exact h3, by rw [e1 _ (by omega), F _ _ (by omega) (by omega)]; exact hT.1.2.1, by rw [e1 _ (by omega), F _ _ (by omega) (by omega)]; exact hT.1.2.2⟩, fun x h0 hx => ?_, fun x h0 hx => ?_, fun k hk => ?_, fun w f hw hf => ?_⟩, ⟨fun x h0 hx => ?_, fun x h0 hx => ?_, fun x h0 hx => ?_, fun x h0 hx => ?_, ?_⟩⟩
  · rw [e0] at hx
    rw [tU_n (Or.inl (by omega))]
    by_cases q : x.toNat = (T 0 0).toNat
    · rw [q, tU_s]; exact h2
    · rw [tU_n (Or.inr q), F _ _ (by omega) (by omega)]; exact hT.2.1 x h0 (by omega)
  · rw [e1 _ (by omega)] at hx
    rw [e _ _ (by omega) (by omega), F _ _ (by omega) (by omega)]; exact hT.2.2.1 x h0 hx
  · rw [e _ _ (by omega) (by omega), F _ _ (by omega) (by omega)]; exact hT.2.2.2.1 k hk
  · rw [e1 _ (by omega)] at hw
    rw [e _ _ (by omega) (by omega), F _ _ (by omega) (by omega)]; exact hT.2.2.2.2 w f hw hf
  · rw [e0] at hx
    by_cases q : x.toNat = (T 0 0).toNat
    · rw [q, tU_s]; exact h1
    · rw [tU_n (Or.inr q), F _ _ (by omega) (by omega)]; exact hS.1 x h0 (by omega)
  · rw [e1 _ (by omega)] at hx
    rw [tU_n (by omega), F _ _ (by omega) (by omega)]; exact hS.2.1 x h0 hx
  · rw [e1 _ (by omega)] at hx
    rw [tU_n (by omega), F _ _ (by omega) (by omega)]; exact hS.2.2.1 x h0 hx
  · rw [e1 _ (by omega)] at hx
    rw [tU_n (by omega), F _ _ (by omega) (by omega)]; exact hS.2.2.2.1 x h0 hx
  · rw [tU_n (by omega), F _ _ (by omega) (by omega)]; exact hS.2.2.2.2
theorem c_addT (hT : CT A b T) (hS : CSt A s T S) (hI : InvT T) (hm : T 0 1 < 6) (hbs : b + 20 ≤ s) (h1 : A'.1 (s + 2) (T 0 1).toNat = iI pl) (h2 : A'.1 (b + 2) (T 0 1).toNat = iI pc) (h3 : A'.1 b 1 = iI (T 0 1 + 1)) (F : ∀ a k, (b ≤ a ∧ a ≤ b + 15) ∨ (s ≤ a ∧ a ≤ s + 4) → ¬ ((a = s + 2 ∧ k = (T 0 1).toNat) ∨ (a = b + 2 ∧ k = (T 0 1).toNat) ∨ (a = b ∧ k = 1)) → A'.1 a k = A.1 a k) :
    CT A' b (tU (tU T 2 (T 0 1).toNat pc) 0 1 (T 0 1 + 1)) ∧ CSt A' s (tU (tU T 2 (T 0 1).toNat pc) 0 1 (T 0 1 + 1)) (tU S 1 (T 0 1).toNat pl) := by
  have hc := hI.1
  have e : ∀ i k, i ≠ 0 → i ≠ 2 → tU (tU T 2 (T 0 1).toNat pc) 0 1 (T 0 1 + 1) i k = T i k := fun i k a b => by rw [tU_n (Or.inl a), tU_n (Or.inl b)]
  have e0 : tU (tU T 2 (T 0 1).toNat pc) 0 1 (T 0 1 + 1) 0 1 = T 0 1 + 1 := tU_s _ _ _ _
  have e1 : ∀ k, k ≠ 1 → tU (tU T 2 (T 0 1).toNat pc) 0 1 (T 0 1 + 1) 0 k = T 0 k := fun k a => by rw [tU_n (Or.inr a), tU_n (Or.inl (by omega))]
  refine ⟨⟨⟨by rw [e1 _ (by omega), F _ _ (by omega) (by omega)]; exact hT.1.1, by rw [e0]; exact h3, by rw [e1 _ (by omega), F _ _ (by omega) (by omega)]; exact hT.1.2.2⟩, fun x h0 hx => ?_, fun x h0 hx => ?_, fun k hk => ?_, fun w f hw hf => ?_⟩, ⟨fun x h0 hx => ?_, fun x h0 hx => ?_, fun x h0 hx => ?_, fun x h0 hx => ?_, ?_⟩⟩
  · rw [e1 _ (by omega)] at hx
    rw [e _ _ (by omega) (by omega), F _ _ (by omega) (by omega)]; exact hT.2.1 x h0 hx
  · rw [e0] at hx
    rw [tU_n (Or.inl (by omega))]
    by_cases q : x.toNat = (T 0 1).toNat
    · rw [q, tU_s]; exact h2
    · rw [tU_n (Or.inr q), F _ _ (by omega) (by omega)]; exact hT.2.2.1 x h0 (by omega)
  · rw [e _ _ (by omega) (by omega), F _ _ (by omega) (by omega)]; exact hT.2.2.2.1 k hk
  · rw [e1 _ (by omega)] at hw
    rw [e _ _ (by omega) (by omega), F _ _ (by omega) (by omega)]; exact hT.2.2.2.2 w f hw hf
  · rw [e1 _ (by omega)] at hx
    rw [tU_n (by omega), F _ _ (by omega) (by omega)]; exact hS.1 x h0 hx
  · rw [e0] at hx
    by_cases q : x.toNat = (T 0 1).toNat
    · rw [q, tU_s]; exact h1
    · rw [tU_n (Or.inr q), F _ _ (by omega) (by omega)]; exact hS.2.1 x h0 (by omega)
  · rw [e1 _ (by omega)] at hx
    rw [tU_n (by omega), F _ _ (by omega) (by omega)]; exact hS.2.2.1 x h0 hx
  · rw [e1 _ (by omega)] at hx
    rw [tU_n (by omega), F _ _ (by omega) (by omega)]; exact hS.2.2.2.1 x h0 hx
  · rw [tU_n (by omega), F _ _ (by omega) (by omega)]; exact hS.2.2.2.2
theorem r_addM (hT : RT B T) (hS : RS B 0 T S) (hI : InvT T) (hm : T 0 0 < 3) (h1 : B'.1 607 (T 0 0).toNat = iI pl) (h2 : B'.1 601 (T 0 0).toNat = iI pc) (h3 : B'.1 600 0 = iI (T 0 0 + 1)) (F : ∀ a k, 600 ≤ a ∧ a < 700 → ¬ ((a = 607 ∧ k = (T 0 0).toNat) ∨ (a = 601 ∧ k = (T 0 0).toNat) ∨ (a = 600 ∧ k = 0)) → B'.1 a k = B.1 a k) :
    RT B' (tU (tU T 1 (T 0 0).toNat pc) 0 0 (T 0 0 + 1)) ∧ RS B' 0 (tU (tU T 1 (T 0 0).toNat pc) 0 0 (T 0 0 + 1)) (tU S 0 (T 0 0).toNat pl) := by
  have hc := hI.1
  have e : ∀ i k, i ≠ 0 → i ≠ 1 → tU (tU T 1 (T 0 0).toNat pc) 0 0 (T 0 0 + 1) i k = T i k := fun i k a b => by rw [tU_n (Or.inl a), tU_n (Or.inl b)]
  have e0 : tU (tU T 1 (T 0 0).toNat pc) 0 0 (T 0 0 + 1) 0 0 = T 0 0 + 1 := tU_s _ _ _ _
  have e1 : ∀ k, k ≠ 0 → tU (tU T 1 (T 0 0).toNat pc) 0 0 (T 0 0 + 1) 0 k = T 0 k := fun k a => by rw [tU_n (Or.inr a), tU_n (Or.inl (by omega))]
  refine ⟨⟨⟨by rw [e0]; exact h3, by rw [e1 _ (by omega), F _ _ (by omega) (by omega)]; exact hT.1.2.1, by rw [e1 _ (by omega), F _ _ (by omega) (by omega)]; exact hT.1.2.2⟩, fun x h0 hx => ?_, fun x h0 hx => ?_, fun k hk => ?_, fun w f hw hf => ?_⟩, ⟨fun x h0 hx => ?_, fun x h0 hx => ?_, fun x h0 hx => ?_, fun x h0 hx => ?_, ?_⟩⟩
  · rw [e0] at hx
    rw [tU_n (Or.inl (by omega))]
    by_cases q : x.toNat = (T 0 0).toNat
    · rw [q, tU_s]; exact h2
    · rw [tU_n (Or.inr q), F _ _ (by omega) (by omega)]; exact hT.2.1 x h0 (by omega)
  · rw [e1 _ (by omega)] at hx
    rw [e _ _ (by omega) (by omega), F _ _ (by omega) (by omega)]; exact hT.2.2.1 x h0 hx
  · rw [e _ _ (by omega) (by omega), F _ _ (by omega) (by omega)]; exact hT.2.2.2.1 k hk
  · rw [e1 _ (by omega)] at hw
    rw [e _ _ (by omega) (by omega), F _ _ (by omega) (by omega)]; exact hT.2.2.2.2 w f hw hf
  · rw [e0] at hx
    by_cases q : x.toNat = (T 0 0).toNat
    · rw [q, tU_s, Nat.zero_add]; exact h1
    · rw [tU_n (Or.inr q), F _ _ (by omega) (by omega)]; exact hS.1 x h0 (by omega)
  · rw [e1 _ (by omega)] at hx
    rw [tU_n (by omega), F _ _ (by omega) (by omega)]; exact hS.2.1 x h0 hx
  · rw [e1 _ (by omega)] at hx
    rw [tU_n (by omega), F _ _ (by omega) (by omega)]; exact hS.2.2.1 x h0 hx
  · rw [e1 _ (by omega)] at hx
    rw [tU_n (by omega), F _ _ (by omega) (by omega)]; exact hS.2.2.2.1 x h0 hx
  · rw [tU_n (by omega), F _ _ (by omega) (by omega)]; exact hS.2.2.2.2
theorem r_addT (hT : RT B T) (hS : RS B 0 T S) (hI : InvT T) (hm : T 0 1 < 6) (h1 : B'.1 607 (3 + (T 0 1).toNat) = iI pl) (h2 : B'.1 602 (T 0 1).toNat = iI pc) (h3 : B'.1 600 1 = iI (T 0 1 + 1)) (F : ∀ a k, 600 ≤ a ∧ a < 700 → ¬ ((a = 607 ∧ k = 3 + (T 0 1).toNat) ∨ (a = 602 ∧ k = (T 0 1).toNat) ∨ (a = 600 ∧ k = 1)) → B'.1 a k = B.1 a k) :
    RT B' (tU (tU T 2 (T 0 1).toNat pc) 0 1 (T 0 1 + 1)) ∧ RS B' 0 (tU (tU T 2 (T 0 1).toNat pc) 0 1 (T 0 1 + 1)) (tU S 1 (T 0 1).toNat pl) := by
  have hc := hI.1
  have e : ∀ i k, i ≠ 0 → i ≠ 2 → tU (tU T 2 (T 0 1).toNat pc) 0 1 (T 0 1 + 1) i k = T i k := fun i k a b => by rw [tU_n (Or.inl a), tU_n (Or.inl b)]
  have e0 : tU (tU T 2 (T 0 1).toNat pc) 0 1 (T 0 1 + 1) 0 1 = T 0 1 + 1 := tU_s _ _ _ _
  have e1 : ∀ k, k ≠ 1 → tU (tU T 2 (T 0 1).toNat pc) 0 1 (T 0 1 + 1) 0 k = T 0 k := fun k a => by rw [tU_n (Or.inr a), tU_n (Or.inl (by omega))]
  refine ⟨⟨⟨by rw [e1 _ (by omega), F _ _ (by omega) (by omega)]; exact hT.1.1, by rw [e0]; exact h3, by rw [e1 _ (by omega), F _ _ (by omega) (by omega)]; exact hT.1.2.2⟩, fun x h0 hx => ?_, fun x h0 hx => ?_, fun k hk => ?_, fun w f hw hf => ?_⟩, ⟨fun x h0 hx => ?_, fun x h0 hx => ?_, fun x h0 hx => ?_, fun x h0 hx => ?_, ?_⟩⟩
  · rw [e1 _ (by omega)] at hx
    rw [e _ _ (by omega) (by omega), F _ _ (by omega) (by omega)]; exact hT.2.1 x h0 hx
  · rw [e0] at hx
    rw [tU_n (Or.inl (by omega))]
    by_cases q : x.toNat = (T 0 1).toNat
    · rw [q, tU_s]; exact h2
    · rw [tU_n (Or.inr q), F _ _ (by omega) (by omega)]; exact hT.2.2.1 x h0 (by omega)
  · rw [e _ _ (by omega) (by omega), F _ _ (by omega) (by omega)]; exact hT.2.2.2.1 k hk
  · rw [e1 _ (by omega)] at hw
    rw [e _ _ (by omega) (by omega), F _ _ (by omega) (by omega)]; exact hT.2.2.2.2 w f hw hf
  · rw [e1 _ (by omega)] at hx
    rw [tU_n (by omega), F _ _ (by omega) (by omega)]; exact hS.1 x h0 hx
  · rw [e0] at hx
    by_cases q : x.toNat = (T 0 1).toNat
    · rw [q, tU_s, show 0 + 3 + (T 0 1).toNat = 3 + (T 0 1).toNat by omega]; exact h1
    · rw [tU_n (Or.inr q), F _ _ (by omega) (by omega)]; exact hS.2.1 x h0 (by omega)
  · rw [e1 _ (by omega)] at hx
    rw [tU_n (by omega), F _ _ (by omega) (by omega)]; exact hS.2.2.1 x h0 hx
  · rw [e1 _ (by omega)] at hx
    rw [tU_n (by omega), F _ _ (by omega) (by omega)]; exact hS.2.2.2.1 x h0 hx
  · rw [tU_n (by omega), F _ _ (by omega) (by omega)]; exact hS.2.2.2.2
theorem InvS.addM (hI : InvT T) (hJ : InvS T S mb) (hp : 0 ≤ pl ∧ pl ≤ 9) : InvS (tU (tU T 1 (T 0 0).toNat pc) 0 0 (T 0 0 + 1)) (tU S 0 (T 0 0).toNat pl) mb := by
  have e0 : tU (tU T 1 (T 0 0).toNat pc) 0 0 (T 0 0 + 1) 0 0 = T 0 0 + 1 := tU_s _ _ _ _
  have e1 : ∀ k, k ≠ 0 → tU (tU T 1 (T 0 0).toNat pc) 0 0 (T 0 0 + 1) 0 k = T 0 k := fun k a => by rw [tU_n (Or.inr a), tU_n (Or.inl (by omega))]
  obtain ⟨j1, j2, j3, j4, j5, j6⟩ := hJ
  refine ⟨fun x h0 hx => ?_, fun x h0 hx => ?_, fun x h0 hx => ?_, fun x h0 hx => ?_, ?_, j6⟩
  · rw [e0] at hx
    have := hI.1
    by_cases q : x.toNat = (T 0 0).toNat
    · rw [q, tU_s]; exact hp
    · rw [tU_n (Or.inr q)]; exact j1 x h0 (by omega)
  · rw [e1 _ (by omega)] at hx
    rw [tU_n (by omega)]; exact j2 x h0 hx
  · rw [e1 _ (by omega)] at hx
    rw [tU_n (by omega)]; exact j3 x h0 hx
  · rw [e1 _ (by omega)] at hx
    rw [tU_n (by omega)]; exact j4 x h0 hx
  · rw [tU_n (by omega)]; exact j5
theorem InvS.addT (hI : InvT T) (hJ : InvS T S mb) (hp : 0 ≤ pl ∧ pl ≤ 9) : InvS (tU (tU T 2 (T 0 1).toNat pc) 0 1 (T 0 1 + 1)) (tU S 1 (T 0 1).toNat pl) mb := by
  have e0 : tU (tU T 2 (T 0 1).toNat pc) 0 1 (T 0 1 + 1) 0 1 = T 0 1 + 1 := tU_s _ _ _ _
  have e1 : ∀ k, k ≠ 1 → tU (tU T 2 (T 0 1).toNat pc) 0 1 (T 0 1 + 1) 0 k = T 0 k := fun k a => by rw [tU_n (Or.inr a), tU_n (Or.inl (by omega))]
  obtain ⟨j1, j2, j3, j4, j5, j6⟩ := hJ
  refine ⟨fun x h0 hx => ?_, fun x h0 hx => ?_, fun x h0 hx => ?_, fun x h0 hx => ?_, ?_, j6⟩
  · rw [e1 _ (by omega)] at hx
    rw [tU_n (by omega)]; exact j1 x h0 hx
  · rw [e0] at hx
    have := hI.1
    by_cases q : x.toNat = (T 0 1).toNat
    · rw [q, tU_s]; exact hp
    · rw [tU_n (Or.inr q)]; exact j2 x h0 (by omega)
  · rw [e1 _ (by omega)] at hx
    rw [tU_n (by omega)]; exact j3 x h0 hx
  · rw [e1 _ (by omega)] at hx
    rw [tU_n (by omega)]; exact j4 x h0 hx
  · rw [tU_n (by omega)]; exact j5
end P33
