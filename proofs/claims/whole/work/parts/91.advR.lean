/-! tokens: the reference -/
def chv (b : Nat → Int) (tl i : Nat) : Int := if i < tl then b i else -1
def RX (M : Mm) (b : Nat → Int) (tl : Nat) : Prop := tl ≤ 240 ∧ M.1 600 15 = iI (tl : Int) ∧ ∀ j, j < tl → (0 ≤ b j ∧ b j < 256) ∧ M.1 609 j = iI (b j)
theorem RX.fq {M M' : Mm} {b : Nat → Int} {tl : Nat} {Q : Nat → Nat → Prop} (h : RX M b tl) (F : Fq Q M M') (h1 : ¬ Q 600 15) (h2 : ∀ k, ¬ Q 609 k) : RX M' b tl := ⟨h.1, by rw [F.1 _ _ h1]; exact h.2.1, fun j hj => ⟨(h.2.2 j hj).1, by rw [F.1 _ _ (h2 j)]; exact (h.2.2 j hj).2⟩⟩
/-- letters told as a number, figures as a number -/
def wcd (b : Nat → Int) (s : Nat) : Nat → Int
  | 0 => 0
  | k + 1 => 27 * wcd b s k + b (s + k) - 96
def ncd (b : Nat → Int) (s : Nat) : Nat → Int
  | 0 => 0
  | k + 1 => 10 * ncd b s k + b (s + k) - 48
def wcv (b : Nat → Int) (s k : Nat) : Int := if k ≤ 8 then wcd b s k else -1
def ncv (b : Nat → Int) (s k : Nat) : Int := if k ≤ 3 then ncd b s k else -1
section P91
variable {M D : Mm} {b : Nat → Int} {tl e : Nat}
theorem rch {x : Int32} {i : Nat} (hX : RX D b tl) (hx : x = iI (i : Int)) (hi : i ≤ 240) : (if x < D.1 600 15 then D.1 609 (Int32.toNatClampNeg x) else (-1 : Int32)) = iI (chv b tl i) ∧ (x < D.1 600 15 → vp_in x 240) ∧ (-1 ≤ chv b tl i ∧ chv b tl i < 256) := by
  have t := hX.1
  rw [hx, hX.2.1]
  have k : (iI (i : Int) < iI (tl : Int)) ↔ i < tl := by rw [iI_lt (by omega) (by omega) (by omega) (by omega)]; omega
  unfold chv
  by_cases c : i < tl
  · obtain ⟨z1, z2⟩ := hX.2.2 i c
    rw [if_pos (k.mpr c), if_pos c, natk (n := i) rfl (by omega)]
    exact ⟨z2, fun _ => vin_iI (by omega) (by omega) (by omega), by omega⟩
  · rw [if_neg (fun u => c (k.mp u)), if_neg c]
    exact ⟨by decide, fun u => absurd (k.mp u) c, by omega⟩
theorem r_skip (hX : RX M b tl) (he : e ≤ tl) (h7 : M.1 600 17 = iI (e : Int)) :
    ∃ N, N ≤ 240 ∧ (∀ k, k < N → c_X8_advance_8 (l_X8_advance_8 M k)) ∧ (∀ k, k < N → q_X8_advance_8 (l_X8_advance_8 M k)) ∧ ¬ c_X8_advance_8 (l_X8_advance_8 M N) ∧ (l_X8_advance_8 M N).1 600 17 = iI ((tkS b tl e : Nat) : Int) ∧ Fq (fun a k => a = 600 ∧ k = 17) M (l_X8_advance_8 M N) := by
  obtain ⟨s1, s2, s3, s4⟩ := rn_s (fun i => b i = 32) tl tl e he (by omega)
  obtain ⟨s, hs⟩ : ∃ s, s = rn (fun i => b i = 32) tl tl e := ⟨_, rfl⟩
  rw [← hs] at s1 s2 s3 s4
  have t1 := hX.1
  have one : ∀ (i : Nat) (D : Mm), i ≤ s → e ≤ i → D.1 600 17 = iI (i : Int) → Fq (fun a k => a = 600 ∧ k = 17) M D → (c_X8_advance_8 D ↔ i < s) ∧ q_X8_advance_8 D ∧ (i < s → s_X8_advance_8 D = wi D 600 17 (iI ((i + 1 : Nat) : Int))) := by
    intro i D hi he' d1 d2
    obtain ⟨r1, r2, r3⟩ := rch (hX.fq d2 (by omega) (fun k => by omega)) d1 (by omega)
    have k32 : (iI (chv b tl i) = (32 : Int32)) ↔ chv b tl i = 32 := by rw [cl32, iI_eq (by omega) (by omega) (by omega) (by omega)]
    unfold c_X8_advance_8 q_X8_advance_8 s_X8_advance_8
    rw [r1, d1, k1_iI]
    rw [d1] at r2
    by_cases q : i < s
    · have : chv b tl i = 32 := by unfold chv; rw [if_pos (by omega)]; exact s3 i he' q
      have g2 := not_not_intro (k32.mpr this)
      rw [if_neg g2, if_neg g2, if_neg g2]
      exact ⟨⟨fun _ => q, fun _ => trivial⟩, ⟨r2, trivial⟩, fun _ => rfl⟩
    · have ei : i = s := by omega
      have nb : ¬ chv b tl i = 32 := by
        unfold chv
        by_cases c : i < tl
        · rw [if_pos c]
          rcases s4 with s4 | s4
          · omega
          · rw [ei]; exact s4
        · rw [if_neg c]; decide
      have g2 : ¬ iI (chv b tl i) = (32 : Int32) := fun u => nb (k32.mp u)
      rw [if_pos g2, if_pos g2]
      exact ⟨⟨fun u => u.elim, fun u => absurd u q⟩, ⟨r2, trivial⟩, fun u => absurd u q⟩
  have key : ∀ k, k ≤ s - e → (l_X8_advance_8 M k).1 600 17 = iI ((e + k : Nat) : Int) ∧ Fq (fun a k => a = 600 ∧ k = 17) M (l_X8_advance_8 M k) := by
    intro k
    induction k with
    | zero => intro _; exact ⟨h7, Fq.rf⟩
    | succ k ih =>
      intro hk
      obtain ⟨i1, i2⟩ := ih (by omega)
      have e1 : l_X8_advance_8 M (k + 1) = wi (l_X8_advance_8 M k) 600 17 (iI ((e + k + 1 : Nat) : Int)) := (one (e + k) _ (by omega) (by omega) i1 i2).2.2 (by omega)
      rw [e1]
      exact ⟨rd_same .., i2.wi (by omega)⟩
  obtain ⟨f1, f2⟩ := key (s - e) (Nat.le_refl _)
  refine ⟨s - e, by omega, fun k hk => ?_, fun k hk => ?_, ?_, ?_, f2⟩
  · obtain ⟨i1, i2⟩ := key k (by omega)
    exact (one (e + k) _ (by omega) (by omega) i1 i2).1.mpr (by omega)
  · obtain ⟨i1, i2⟩ := key k (by omega)
    exact (one (e + k) _ (by omega) (by omega) i1 i2).2.1
  · exact fun u => absurd ((one (e + (s - e)) _ (by omega) (by omega) f1 f2).1.mp u) (by omega)
  · rw [f1]
    unfold tkS
    rw [← hs]
    congr 1
    omega
theorem r_word (x1 : Int32) {s s' : Nat} (hX : RX M b tl) (h6 : M.1 600 16 = 1) (h7 : M.1 600 17 = iI (s : Int)) (h8 : M.1 600 18 = iI (s : Int)) (h9 : M.2 600 19 = 0) (hs : s ≤ s' ∧ s' ≤ tl) (h1 : ∀ j, s ≤ j → j < s' → kd (b j) = 1) (h2 : s' = tl ∨ ¬ kd (b s') = 1) :
    ∃ N, N ≤ 240 ∧ (∀ k, k < N → c_X8_advance_126 x1 (l_X8_advance_126 x1 M k)) ∧ (∀ k, k < N → q_X8_advance_126 x1 (l_X8_advance_126 x1 M k)) ∧ ¬ c_X8_advance_126 x1 (l_X8_advance_126 x1 M N) ∧ q_X8_advance_126 x1 (l_X8_advance_126 x1 M N) ∧ (l_X8_advance_126 x1 M N).1 600 18 = iI (s' : Int) ∧ (l_X8_advance_126 x1 M N).2 600 19 = jI (wcv b s (s' - s)) ∧ Fq (fun a k => a = 600 ∧ k = 18) M (l_X8_advance_126 x1 M N) := by
  have t1 := hX.1
  have kl : ∀ z : Int, (kd z = 1) ↔ (97 ≤ z ∧ z ≤ 122) := fun z => by
    unfold kd
    by_cases c : 97 ≤ z ∧ z ≤ 122
    · rw [if_pos c]; exact ⟨fun _ => c, fun _ => rfl⟩
    · rw [if_neg c]
      refine ⟨fun u => ?_, fun u => absurd u c⟩
      split at u <;> exact absurd u (by decide)
  have one : ∀ (i : Nat) (D : Mm), i ≤ s' → s ≤ i → D.1 600 18 = iI (i : Int) → D.2 600 19 = jI (wcv b s (i - s)) → Fq (fun a k => a = 600 ∧ k = 18) M D → (c_X8_advance_126 x1 D ↔ i < s') ∧ q_X8_advance_126 x1 D ∧ (i < s' → s_X8_advance_126 x1 D = wi (wl D 600 19 (jI (wcv b s (i + 1 - s)))) 600 18 (iI ((i + 1 : Nat) : Int))) := by
    intro i D hi he' d1 d9 d2
    obtain ⟨r1, r2, r3⟩ := rch (hX.fq d2 (by omega) (fun k => by omega)) d1 (by omega)
    have e6 : D.1 600 16 = 1 := by rw [d2.1 _ _ (by omega)]; exact h6
    have e7 : D.1 600 17 = iI (s : Int) := by rw [d2.1 _ _ (by omega)]; exact h7
    have w8 : ∀ v : Int64, (wl D 600 19 v).1 600 18 = iI (i : Int) := fun v => d1
    have le : ((97 : Int32) ≤ iI (chv b tl i) ∧ iI (chv b tl i) ≤ 122) ↔ (97 ≤ chv b tl i ∧ chv b tl i ≤ 122) := by rw [show (97 : Int32) = iI 97 by decide, show (122 : Int32) = iI 122 by decide, iI_le (by omega) (by omega) (by omega) (by omega), iI_le (by omega) (by omega) (by omega) (by omega)]
    have n1 : ¬ ¬ (1 : Int32) = 1 := not_not_intro rfl
    unfold c_X8_advance_126 q_X8_advance_126 s_X8_advance_126
    rw [r1, e6, e7]
    rw [d1] at r2
    simp only [if_neg n1, w8, d1, d9]
    by_cases q : i < s'
    · have eb : chv b tl i = b i := by unfold chv; rw [if_pos (by omega)]
      have lt := (kl _).mp (h1 i he' q)
      rw [← eb] at lt
      have g2 := b2i_1.mpr (le.mpr lt)
      simp only [if_neg g2]
      refine ⟨⟨fun _ => q, fun _ => trivial⟩, ⟨r2, by split; trivial; exact ⟨r2, trivial⟩⟩, fun _ => ?_⟩
      have k8 : ((8 : Int32) ≤ iI (i : Int) - iI (s : Int)) ↔ 8 ≤ i - s := by rw [show (8 : Int32) = iI 8 by decide, iI_sub, iI_le (by omega) (by omega) (by omega) (by omega)]; omega
      rw [k1_iI]
      by_cases c8 : 8 ≤ i - s
      · rw [if_pos (k8.mpr c8)]
        have : wcv b s (i + 1 - s) = -1 := by unfold wcv; rw [if_neg (by omega)]
        rw [this]
        rfl
      · rw [if_neg (fun u => c8 (k8.mp u)), i2j (by omega) (by omega), show (27 : Int64) = jI 27 by decide, show (96 : Int64) = jI 96 by decide, jI_mul, jI_add, jI_sub]
        have : wcv b s (i + 1 - s) = 27 * wcv b s (i - s) + chv b tl i - 96 := by
          unfold wcv
          rw [if_pos (by omega), if_pos (by omega), show i + 1 - s = (i - s) + 1 by omega, eb]
          show 27 * wcd b s (i - s) + b (s + (i - s)) - 96 = _
          rw [show s + (i - s) = i by omega]
        rw [this]
        simp only [not_true_eq_false, if_false]
    · have ei : i = s' := by omega
      have nb : ¬ (97 ≤ chv b tl i ∧ chv b tl i ≤ 122) := by
        unfold chv
        by_cases c : i < tl
        · rw [if_pos c, ← kl]
          rcases h2 with h2 | h2
          · omega
          · rw [ei]; exact h2
        · rw [if_neg c]; decide
      have g2 := b2i_0.mpr (fun u => nb (le.mp u))
      simp only [if_pos g2]
      exact ⟨⟨fun u => u.elim, fun u => absurd u q⟩, ⟨r2, trivial⟩, fun u => absurd u q⟩
  have key : ∀ k, k ≤ s' - s → (l_X8_advance_126 x1 M k).1 600 18 = iI ((s + k : Nat) : Int) ∧ (l_X8_advance_126 x1 M k).2 600 19 = jI (wcv b s k) ∧ Fq (fun a k => a = 600 ∧ k = 18) M (l_X8_advance_126 x1 M k) := by
    intro k
    induction k with
    | zero => intro _; exact ⟨h8, h9, Fq.rf⟩
    | succ k ih =>
      intro hk
      obtain ⟨i1, i3, i2⟩ := ih (by omega)
      have e1 : l_X8_advance_126 x1 M (k + 1) = wi (wl (l_X8_advance_126 x1 M k) 600 19 (jI (wcv b s (s + k + 1 - s)))) 600 18 (iI ((s + k + 1 : Nat) : Int)) := (one (s + k) _ (by omega) (by omega) i1 (by rw [show s + k - s = k by omega]; exact i3) i2).2.2 (by omega)
      rw [e1, show s + k + 1 - s = k + 1 by omega]
      exact ⟨rd_same .., (show (wl (l_X8_advance_126 x1 M k) 600 19 (jI (wcv b s (k + 1)))).2 600 19 = _ from wl_same _ _ _ _), Fq.wi (Fq.wl i2 (by omega)) (by omega)⟩
  obtain ⟨f1, f3, f2⟩ := key (s' - s) (Nat.le_refl _)
  have es : s + (s' - s) = s' := by omega
  rw [es] at f1
  refine ⟨s' - s, by omega, fun k hk => ?_, fun k hk => ?_, ?_, ?_, f1, f3, f2⟩
  · obtain ⟨i1, i3, i2⟩ := key k (by omega)
    exact (one (s + k) _ (by omega) (by omega) i1 (by rw [show s + k - s = k by omega]; exact i3) i2).1.mpr (by omega)
  · obtain ⟨i1, i3, i2⟩ := key k (by omega)
    exact (one (s + k) _ (by omega) (by omega) i1 (by rw [show s + k - s = k by omega]; exact i3) i2).2.1
  · exact fun u => absurd ((one s' _ (by omega) (by omega) f1 f3 f2).1.mp u) (by omega)
  · exact (one s' _ (by omega) (by omega) f1 f3 f2).2.1
end P91
