/-! tokens: the reference's figures -/
section P92
variable {M D : Mm} {b : Nat → Int} {tl e : Nat}
theorem r_num (x1 : Int32) {s s' : Nat} (hX : RX M b tl) (h6 : M.1 600 16 = 2) (h7 : M.1 600 17 = iI (s : Int)) (h8 : M.1 600 18 = iI (s : Int)) (h9 : M.1 600 20 = 0) (hs : s ≤ s' ∧ s' ≤ tl) (h1 : ∀ j, s ≤ j → j < s' → kd (b j) = 2) (h2 : s' = tl ∨ ¬ kd (b s') = 2) :
    ∃ N, N ≤ 240 ∧ (∀ k, k < N → c_X8_advance_207 x1 (l_X8_advance_207 x1 M k)) ∧ (∀ k, k < N → q_X8_advance_207 x1 (l_X8_advance_207 x1 M k)) ∧ ¬ c_X8_advance_207 x1 (l_X8_advance_207 x1 M N) ∧ q_X8_advance_207 x1 (l_X8_advance_207 x1 M N) ∧ (l_X8_advance_207 x1 M N).1 600 18 = iI (s' : Int) ∧ (l_X8_advance_207 x1 M N).1 600 20 = iI (ncv b s (s' - s)) ∧ Fq (fun a k => a = 600 ∧ (k = 18 ∨ k = 20)) M (l_X8_advance_207 x1 M N) := by
  have t1 := hX.1
  have kl : ∀ z : Int, (kd z = 2) ↔ (48 ≤ z ∧ z ≤ 57) := fun z => by
    unfold kd
    by_cases c : 97 ≤ z ∧ z ≤ 122
    · rw [if_pos c]; exact ⟨fun u => absurd u (by decide), fun u => by omega⟩
    · rw [if_neg c]
      by_cases d : 48 ≤ z ∧ z ≤ 57
      · rw [if_pos d]; exact ⟨fun _ => d, fun _ => rfl⟩
      · rw [if_neg d]; exact ⟨fun u => absurd u (by decide), fun u => absurd u d⟩
  have one : ∀ (i : Nat) (D : Mm), i ≤ s' → s ≤ i → D.1 600 18 = iI (i : Int) → D.1 600 20 = iI (ncv b s (i - s)) → Fq (fun a k => a = 600 ∧ (k = 18 ∨ k = 20)) M D → (c_X8_advance_207 x1 D ↔ i < s') ∧ q_X8_advance_207 x1 D ∧ (i < s' → s_X8_advance_207 x1 D = wi (wi D 600 20 (iI (ncv b s (i + 1 - s)))) 600 18 (iI ((i + 1 : Nat) : Int))) := by
    intro i D hi he' d1 d9 d2
    obtain ⟨r1, r2, r3⟩ := rch (hX.fq d2 (by omega) (fun k => by omega)) d1 (by omega)
    have e6 : D.1 600 16 = 2 := by rw [d2.1 _ _ (by omega)]; exact h6
    have e7 : D.1 600 17 = iI (s : Int) := by rw [d2.1 _ _ (by omega)]; exact h7
    have w8 : ∀ v : Int32, (wi D 600 20 v).1 600 18 = iI (i : Int) := fun v => by rw [rd_ne (Or.inr (by omega))]; exact d1
    have le : ((48 : Int32) ≤ iI (chv b tl i) ∧ iI (chv b tl i) ≤ 57) ↔ (48 ≤ chv b tl i ∧ chv b tl i ≤ 57) := by rw [show (48 : Int32) = iI 48 by decide, show (57 : Int32) = iI 57 by decide, iI_le (by omega) (by omega) (by omega) (by omega), iI_le (by omega) (by omega) (by omega) (by omega)]
    have n1 : ¬ ¬ (2 : Int32) = 2 := not_not_intro rfl
    unfold c_X8_advance_207 q_X8_advance_207 s_X8_advance_207
    rw [r1, e6, e7]
    rw [d1] at r2
    simp only [if_neg n1, w8, d1, d9]
    by_cases q : i < s'
    · have eb : chv b tl i = b i := by unfold chv; rw [if_pos (by omega)]
      have lt := (kl _).mp (h1 i he' q)
      rw [← eb] at lt
      have g2 := b2i_1.mpr (le.mpr lt)
      simp only [if_neg g2]
      refine ⟨⟨fun _ => q, fun _ => trivial⟩, ⟨r2, by split; trivial; exact ⟨r2, trivial⟩⟩, fun _ => ?_⟩
      have k8 : ((3 : Int32) ≤ iI (i : Int) - iI (s : Int)) ↔ 3 ≤ i - s := by rw [show (3 : Int32) = iI 3 by decide, iI_sub, iI_le (by omega) (by omega) (by omega) (by omega)]; omega
      rw [k1_iI]
      by_cases c8 : 3 ≤ i - s
      · rw [if_pos (k8.mpr c8)]
        have : ncv b s (i + 1 - s) = -1 := by unfold ncv; rw [if_neg (by omega)]
        rw [this]
        rfl
      · rw [if_neg (fun u => c8 (k8.mp u)), show (10 : Int32) = iI 10 by decide, show (48 : Int32) = iI 48 by decide, iI_mul, iI_add, iI_sub]
        have : ncv b s (i + 1 - s) = 10 * ncv b s (i - s) + chv b tl i - 48 := by
          unfold ncv
          rw [if_pos (by omega), if_pos (by omega), show i + 1 - s = (i - s) + 1 by omega, eb]
          show 10 * ncd b s (i - s) + b (s + (i - s)) - 48 = _
          rw [show s + (i - s) = i by omega]
        rw [this]
        simp only [not_true_eq_false, if_false]
    · have ei : i = s' := by omega
      have nb : ¬ (48 ≤ chv b tl i ∧ chv b tl i ≤ 57) := by
        unfold chv
        by_cases c : i < tl
        · rw [if_pos c, ← kl]
          rcases h2 with h2 | h2
          · omega
          · rw [ei]; exact h2
        · rw [if_neg c]; decide
      have g2 := b2i_0.mpr (fun u => nb (le.mp u))
      simp only [if_pos g2]
      exact ⟨⟨fun u => u.elim, fun u => absurd u q⟩, ⟨r2, trivial⟩, fun u => absurd u q⟩
  have key : ∀ k, k ≤ s' - s → (l_X8_advance_207 x1 M k).1 600 18 = iI ((s + k : Nat) : Int) ∧ (l_X8_advance_207 x1 M k).1 600 20 = iI (ncv b s k) ∧ Fq (fun a k => a = 600 ∧ (k = 18 ∨ k = 20)) M (l_X8_advance_207 x1 M k) := by
    intro k
    induction k with
    | zero => intro _; exact ⟨h8, h9, Fq.rf⟩
    | succ k ih =>
      intro hk
      obtain ⟨i1, i3, i2⟩ := ih (by omega)
      have e1 : l_X8_advance_207 x1 M (k + 1) = wi (wi (l_X8_advance_207 x1 M k) 600 20 (iI (ncv b s (s + k + 1 - s)))) 600 18 (iI ((s + k + 1 : Nat) : Int)) := (one (s + k) _ (by omega) (by omega) i1 (by rw [show s + k - s = k by omega]; exact i3) i2).2.2 (by omega)
      rw [e1, show s + k + 1 - s = k + 1 by omega]
      exact ⟨rd_same .., by rw [rd_ne (Or.inr (by omega)), rd_same], Fq.wi (Fq.wi i2 (by omega)) (by omega)⟩
  obtain ⟨f1, f3, f2⟩ := key (s' - s) (Nat.le_refl _)
  have es : s + (s' - s) = s' := by omega
  rw [es] at f1
  refine ⟨s' - s, by omega, fun k hk => ?_, fun k hk => ?_, ?_, ?_, f1, f3, f2⟩
  · obtain ⟨i1, i3, i2⟩ := key k (by omega)
    exact (one (s + k) _ (by omega) (by omega) i1 (by rw [show s + k - s = k by omega]; exact i3) i2).1.mpr (by omega)
  · obtain ⟨i1, i3, i2⟩ := key k (by omega)
    exact (one (s + k) _ (by omega) (by omega) i1 (by rw [show s + k - s = k by omega]; exact i3) i2).2.1
  · exact fun u => absurd ((one s' _ (by omega) (by omega) f1 f3 f2).1.mp u) (by omega)
  · exact (one s' _ (by omega) (by omega) f1 f3 f2).2.1
end P92
