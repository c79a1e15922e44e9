/-! tokens -/
def kd (z : Int) : Int := if 97 ≤ z ∧ z ≤ 122 then 1 else if 48 ≤ z ∧ z ≤ 57 then 2 else 3
def rn (P : Nat → Prop) [DecidablePred P] (tl : Nat) : Nat → Nat → Nat
  | 0, i => i
  | f + 1, i => if i < tl ∧ P i then rn P tl f (i + 1) else i
theorem rn_s (P : Nat → Prop) [DecidablePred P] (tl : Nat) : ∀ f i, i ≤ tl → tl ≤ i + f → i ≤ rn P tl f i ∧ rn P tl f i ≤ tl ∧ (∀ j, i ≤ j → j < rn P tl f i → P j) ∧ (rn P tl f i = tl ∨ ¬ P (rn P tl f i))
  | 0, i, h1, h2 => ⟨Nat.le_refl _, h1, fun j a c => absurd c (Nat.not_lt.mpr a), Or.inl (show i = tl by omega)⟩
  | f + 1, i, h1, h2 => by
    show i ≤ (if i < tl ∧ P i then rn P tl f (i + 1) else i) ∧ (if i < tl ∧ P i then rn P tl f (i + 1) else i) ≤ tl ∧ (∀ j, i ≤ j → j < (if i < tl ∧ P i then rn P tl f (i + 1) else i) → P j) ∧ ((if i < tl ∧ P i then rn P tl f (i + 1) else i) = tl ∨ ¬ P (if i < tl ∧ P i then rn P tl f (i + 1) else i))
    by_cases c : i < tl ∧ P i
    · rw [if_pos c]
      obtain ⟨a1, a2, a3, a4⟩ := rn_s P tl f (i + 1) (by omega) (by omega)
      refine ⟨by omega, a2, fun j h3 h4 => ?_, a4⟩
      by_cases q : j = i
      · rw [q]; exact c.2
      · exact a3 j (by omega) h4
    · rw [if_neg c]
      refine ⟨Nat.le_refl _, h1, fun j a d => absurd d (Nat.not_lt.mpr a), ?_⟩
      by_cases q : i = tl
      · exact Or.inl q
      · exact Or.inr (fun u => c ⟨by omega, u⟩)
/-- a token: its begin, its kind, its end -/
def tkS (b : Nat → Int) (tl e : Nat) : Nat := rn (fun i => b i = 32) tl tl e
def tkK (b : Nat → Int) (tl e : Nat) : Int := if tkS b tl e < tl then kd (b (tkS b tl e)) else 0
def tkE (b : Nat → Int) (tl e : Nat) : Nat := if tkS b tl e < tl then (if tkK b tl e = 3 then tkS b tl e + 1 else rn (fun i => kd (b i) = tkK b tl e) tl tl (tkS b tl e + 1)) else tkS b tl e
def sb (z : Int) : Int := if z < 128 then z else z - 256
/-- the class's text -/
def CX (M : Mm) (b : Nat → Int) (tl : Nat) : Prop := tl ≤ 240 ∧ M.1 500 1 = iI (tl : Int) ∧ ∀ j, j < tl → (0 ≤ b j ∧ b j < 256) ∧ M.1 501 j = iI (sb (b j))
theorem CX.fq {M M' : Mm} {b : Nat → Int} {tl : Nat} {Q : Nat → Nat → Prop} (h : CX M b tl) (F : Fq Q M M') (h1 : ¬ Q 500 1) (h2 : ∀ k, ¬ Q 501 k) : CX M' b tl := ⟨h.1, by rw [F.1 _ _ h1]; exact h.2.1, fun j hj => ⟨(h.2.2 j hj).1, by rw [F.1 _ _ (h2 j)]; exact (h.2.2 j hj).2⟩⟩
section P89
variable {M D : Mm} {b : Nat → Int} {tl e : Nat}
theorem cl32 : (32 : Int32) = iI 32 := by decide
theorem sb_kd {z : Int} (h : 0 ≤ z ∧ z < 256) : (if (97 : Int32) ≤ iI (sb z) ∧ iI (sb z) ≤ 122 then (1 : Int32) else if (48 : Int32) ≤ iI (sb z) ∧ iI (sb z) ≤ 57 then 2 else 3) = iI (kd z) := by
  have s : -128 ≤ sb z ∧ sb z < 128 ∧ (z < 128 → sb z = z) ∧ (128 ≤ z → sb z < 0) := by unfold sb; split <;> omega
  have k1 : ((97 : Int32) ≤ iI (sb z) ∧ iI (sb z) ≤ 122) ↔ (97 ≤ z ∧ z ≤ 122) := by
    rw [show (97 : Int32) = iI 97 by decide, show (122 : Int32) = iI 122 by decide, iI_le (by omega) (by omega) (by omega) (by omega), iI_le (by omega) (by omega) (by omega) (by omega)]
    omega
  have k2 : ((48 : Int32) ≤ iI (sb z) ∧ iI (sb z) ≤ 57) ↔ (48 ≤ z ∧ z ≤ 57) := by
    rw [show (48 : Int32) = iI 48 by decide, show (57 : Int32) = iI 57 by decide, iI_le (by omega) (by omega) (by omega) (by omega), iI_le (by omega) (by omega) (by omega) (by omega)]
    omega
  unfold kd
  by_cases c1 : 97 ≤ z ∧ z ≤ 122
  · rw [if_pos (k1.mpr c1), if_pos c1]; rfl
  · rw [if_neg (fun u => c1 (k1.mp u)), if_neg c1]
    by_cases c2 : 48 ≤ z ∧ z ≤ 57
    · rw [if_pos (k2.mpr c2), if_pos c2]; rfl
    · rw [if_neg (fun u => c2 (k2.mp u)), if_neg c2]; rfl
theorem kd_b (z : Int) : 1 ≤ kd z ∧ kd z ≤ 3 := by unfold kd; split <;> (try split) <;> omega
theorem c_skip (hX : CX M b tl) (he : e ≤ tl) (h3 : M.1 500 3 = iI (e : Int)) :
    ∃ N, N ≤ 240 ∧ (∀ k, k < N → c_X4_advance_8 (l_X4_advance_8 M k)) ∧ (∀ k, k < N → q_X4_advance_8 (l_X4_advance_8 M k)) ∧ ¬ c_X4_advance_8 (l_X4_advance_8 M N) ∧ (l_X4_advance_8 M N).1 500 3 = iI ((tkS b tl e : Nat) : Int) ∧ Fq (fun a k => a = 500 ∧ k = 3) M (l_X4_advance_8 M N) := by
  obtain ⟨s1, s2, s3, s4⟩ := rn_s (fun i => b i = 32) tl tl e he (by omega)
  obtain ⟨s, hs⟩ : ∃ s, s = rn (fun i => b i = 32) tl tl e := ⟨_, rfl⟩
  rw [← hs] at s1 s2 s3 s4
  have one : ∀ (i : Nat) (D : Mm), i ≤ s → e ≤ i → D.1 500 3 = iI (i : Int) → Fq (fun a k => a = 500 ∧ k = 3) M D → (c_X4_advance_8 D ↔ i < s) ∧ q_X4_advance_8 D ∧ (i < s → s_X4_advance_8 D = wi D 500 3 (iI ((i + 1 : Nat) : Int))) := by
    intro i D hi he' d1 d2
    have kX : CX D b tl := hX.fq d2 (by omega) (fun k => by omega)
    have t1 := kX.1
    unfold c_X4_advance_8 q_X4_advance_8 s_X4_advance_8
    rw [d1, kX.2.1]
    by_cases c : i < tl
    · have g : ¬ iI (tl : Int) ≤ iI (i : Int) := by rw [iI_le (by omega) (by omega) (by omega) (by omega)]; omega
      have ni : Int32.toNatClampNeg (iI (i : Int)) = i := natk rfl (by omega)
      have vi : vp_in (iI (i : Int)) 240 := vin_iI (by omega) (by omega) (by omega)
      obtain ⟨z1, z2⟩ := kX.2.2 i c
      have sbb : -128 ≤ sb (b i) ∧ sb (b i) < 128 ∧ (b i < 128 → sb (b i) = b i) ∧ (128 ≤ b i → sb (b i) < 0) := by unfold sb; split <;> omega
      have k32 : (iI (sb (b i)) = (32 : Int32)) ↔ b i = 32 := by rw [cl32, iI_eq (by omega) (by omega) (by omega) (by omega)]; omega
      rw [if_neg g, if_neg g, if_neg g, ni, z2]
      by_cases q : i < s
      · have := s3 i he' q
        have g2 := not_not_intro (k32.mpr this)
        rw [if_neg g2, if_neg g2, if_neg g2, k1_iI]
        exact ⟨⟨fun _ => q, fun _ => trivial⟩, ⟨vi, trivial⟩, fun _ => rfl⟩
      · have ei : i = s := by omega
        have nb : ¬ b i = 32 := by
          rcases s4 with s4 | s4
          · omega
          · rw [ei]; exact s4
        have g2 : ¬ iI (sb (b i)) = (32 : Int32) := fun u => nb (k32.mp u)
        rw [if_pos g2, if_pos g2]
        exact ⟨⟨fun u => u.elim, fun u => absurd u q⟩, ⟨vi, trivial⟩, fun u => absurd u q⟩
    · have g : iI (tl : Int) ≤ iI (i : Int) := by rw [iI_le (by omega) (by omega) (by omega) (by omega)]; omega
      rw [if_pos g, if_pos g]
      exact ⟨⟨fun u => u.elim, fun u => absurd u (by omega)⟩, trivial, fun u => absurd u (by omega)⟩
  have key : ∀ k, k ≤ s - e → (l_X4_advance_8 M k).1 500 3 = iI ((e + k : Nat) : Int) ∧ Fq (fun a k => a = 500 ∧ k = 3) M (l_X4_advance_8 M k) := by
    intro k
    induction k with
    | zero => intro _; exact ⟨h3, Fq.rf⟩
    | succ k ih =>
      intro hk
      obtain ⟨i1, i2⟩ := ih (by omega)
      have e1 : l_X4_advance_8 M (k + 1) = wi (l_X4_advance_8 M k) 500 3 (iI ((e + k + 1 : Nat) : Int)) := (one (e + k) _ (by omega) (by omega) i1 i2).2.2 (by omega)
      rw [e1]
      exact ⟨rd_same .., i2.wi (by omega)⟩
  have t1 := hX.1
  obtain ⟨f1, f2⟩ := key (s - e) (Nat.le_refl _)
  refine ⟨s - e, by omega, fun k hk => ?_, fun k hk => ?_, ?_, ?_, f2⟩
  · obtain ⟨i1, i2⟩ := key k (by omega)
    exact (one (e + k) _ (by omega) (by omega) i1 i2).1.mpr (by omega)
  · obtain ⟨i1, i2⟩ := key k (by omega)
    exact (one (e + k) _ (by omega) (by omega) i1 i2).2.1
  · exact fun u => absurd ((one (e + (s - e)) _ (by omega) (by omega) f1 f2).1.mp u) (by omega)
  · rw [f1]
    unfold tkS
    rw [← hs]
    congr 1
    omega
end P89
