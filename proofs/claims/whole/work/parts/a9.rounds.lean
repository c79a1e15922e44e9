/-! a text read: rounds -/
theorem fst_not {P : Nat → Prop} : ∀ B, (¬ ∀ k, k ≤ B → P k) → ∃ N, N ≤ B ∧ (∀ k, k < N → P k) ∧ ¬ P N
  | 0, h => ⟨0, Nat.le_refl 0, fun k hk => absurd hk (Nat.not_lt_zero k), fun u => h (fun k hk => by rw [Nat.le_zero.mp hk]; exact u)⟩
  | B + 1, h => by
    by_cases c : ∀ k, k ≤ B → P k
    · exact ⟨B + 1, Nat.le_refl _, fun k hk => c k (by omega), fun u => h (fun k hk => by
        by_cases q : k = B + 1
        · rw [q]; exact u
        · exact c k (by omega))⟩
    · obtain ⟨N, h1, h2, h3⟩ := fst_not B c
      exact ⟨N, by omega, h2, h3⟩
def goOn (b : Nat → Int) (tl : Nat) : Rr → Prop
  | .inl _ => False
  | .inr (e, _, _) => tkK b tl e ≠ 0
def rho (b : Nat → Int) (tl : Nat) (T S : Tw) (k : Nat) : Rr := itN (fun _ r => aRd b tl r) (.inr (0, T, S)) k
section PA9
variable {M M' : Mm} {b : Nat → Int} {tl e p : Nat} {T S T0 : Tw} {r : Rr}
theorem goOn_inr (h : goOn b tl r) : ∃ e T S, r = .inr (e, T, S) ∧ tkK b tl e ≠ 0 := by
  cases r with
  | inl p => exact h.elim
  | inr q =>
    obtain ⟨e, T, S⟩ := q
    exact ⟨e, T, S, rfl, h⟩
theorem gd_rd {e0 : Nat} (h : Gd T0 tl e0 r) (hg : goOn b tl r) : Gd T0 tl (e0 + 1) (aRd b tl r) := by
  obtain ⟨e, T, S, rfl, hk⟩ := goOn_inr hg
  obtain ⟨h1, h2, h3, h4⟩ := h
  have t := tk_st b h2
  have q := t.2.2.2.2 hk
  show Gd T0 tl (e0 + 1) (if tkK b tl e = 0 then .inr (e, T, S) else aEn b tl (ACl b tl T S e))
  rw [if_neg hk]
  exact ((gd_ACl h3 h4 h2).en).mono (by omega)
theorem gd_rho (hv : Iv T S) : ∀ k, (∀ j, j < k → goOn b tl (rho b tl T S j)) → Gd T tl k (rho b tl T S k)
  | 0, _ => ⟨Nat.le_refl 0, Nat.zero_le _, hv, rfl, fun _ => rfl, fun _ => rfl⟩
  | k + 1, h => gd_rd (gd_rho hv k (fun j hj => h j (by omega))) (h k (by omega))
theorem rounds (hv : Iv T S) (ht : tl ≤ 240) : ∃ N, N ≤ 240 ∧ (∀ k, k < N → goOn b tl (rho b tl T S k)) ∧ ¬ goOn b tl (rho b tl T S N) := by
  obtain ⟨B, hB⟩ : ∃ B : Nat, B = 240 := ⟨_, rfl⟩
  have w : ∃ N, N ≤ B ∧ (∀ k, k < N → goOn b tl (rho b tl T S k)) ∧ ¬ goOn b tl (rho b tl T S N) := by
    refine fst_not B (fun h => ?_)
    have g := gd_rho hv B (fun j hj => h j (by omega))
    have q := h B (Nat.le_refl _)
    obtain ⟨e, T', S', e1, hk⟩ := goOn_inr q
    rw [e1] at g
    obtain ⟨h1, h2, -⟩ := g
    have t := tk_st b h2
    have := t.2.2.2.2 hk
    omega
  obtain ⟨N, w1, w2⟩ := w
  exact ⟨N, by omega, w2⟩
theorem c_into_l (g : CG M b tl 0) (dd : CDr M T S) (hv : Iv T S) {N : Nat} (hN : N ≤ 240) (h1 : ∀ k, k < N → goOn b tl (rho b tl T S k)) : ∀ k, k ≤ N → (l_X4_readInto_16 (M, 0) k).2 = iI (k : Int) ∧ CRs (l_X4_readInto_16 (M, 0) k).1 b tl (rho b tl T S k) ∧ Fq qD M (l_X4_readInto_16 (M, 0) k).1 ∧ (k < N → c_X4_readInto_16 (l_X4_readInto_16 (M, 0) k) ∧ q_X4_readInto_16 (l_X4_readInto_16 (M, 0) k)) := by
  have one : ∀ (k : Nat) (σ : Mm × Int32), k ≤ N → σ.2 = iI (k : Int) → CRs σ.1 b tl (rho b tl T S k) → k < N → (c_X4_readInto_16 σ ∧ q_X4_readInto_16 σ) ∧ s_X4_readInto_16 σ = (w_X4_readSentence σ.1, iI ((k + 1 : Nat) : Int)) ∧ CRs (w_X4_readSentence σ.1) b tl (rho b tl T S (k + 1)) ∧ Fq qD σ.1 (w_X4_readSentence σ.1) := by
    intro k σ hk d1 d2 hkN
    obtain ⟨e, T1, S1, e1, hk0⟩ := goOn_inr (h1 k hkN)
    have gd := gd_rho (b := b) (tl := tl) hv k (fun j hj => h1 j (by omega))
    rw [e1] at d2 gd
    obtain ⟨-, -, hv1, hT1⟩ := gd
    obtain ⟨g1, dd1⟩ := d2
    have kb := tkK_b b tl e
    have z1 : ¬ (240 : Int32) ≤ σ.2 := by rw [d1, show (240 : Int32) = iI 240 by decide, iI_le (by omega) (by omega) (by omega) (by omega)]; omega
    have z2 : ¬ σ.1.1 500 2 = 0 := by rw [g1.2.2.1.1, cl0, iI_eq (by omega) (by omega) (by omega) (by omega)]; exact hk0
    obtain ⟨y1, y2, y3⟩ := c_sent g1 dd1 hv1 hT1
    have er : rho b tl T S (k + 1) = aEn b tl (ACl b tl T1 S1 e) := by
      show aRd b tl (rho b tl T S k) = _
      rw [e1]
      show (if tkK b tl e = 0 then .inr (e, T1, S1) else aEn b tl (ACl b tl T1 S1 e)) = _
      rw [if_neg hk0]
    unfold c_X4_readInto_16 q_X4_readInto_16 s_X4_readInto_16
    rw [if_neg z1, if_neg z1, if_neg z1, if_neg z2, if_neg z2, if_neg z2, if_neg g1.neg, if_neg g1.neg, if_neg g1.neg, er, d1, k1_iI]
    exact ⟨⟨trivial, y1, trivial⟩, rfl, y2, y3⟩
  have key : ∀ k, k ≤ N → (l_X4_readInto_16 (M, 0) k).2 = iI (k : Int) ∧ CRs (l_X4_readInto_16 (M, 0) k).1 b tl (rho b tl T S k) ∧ Fq qD M (l_X4_readInto_16 (M, 0) k).1 := by
    intro k
    induction k with
    | zero => intro _; exact ⟨rfl, ⟨g, dd⟩, Fq.rf⟩
    | succ k ih =>
      intro hk
      obtain ⟨i1, i2, i3⟩ := ih (by omega)
      obtain ⟨-, o2, o3, o4⟩ := one k _ (by omega) i1 i2 (by omega)
      show (s_X4_readInto_16 (l_X4_readInto_16 (M, 0) k)).2 = _ ∧ CRs (s_X4_readInto_16 (l_X4_readInto_16 (M, 0) k)).1 b tl _ ∧ Fq qD M (s_X4_readInto_16 (l_X4_readInto_16 (M, 0) k)).1
      rw [o2]
      exact ⟨rfl, o3, i3.tr o4⟩
  intro k hk
  obtain ⟨i1, i2, i3⟩ := key k hk
  exact ⟨i1, i2, i3, fun q => (one k _ hk i1 i2 q).1⟩
theorem c_into (hX : CX M b tl) (dd : CDr M T S) (hv : Iv T S) {N : Nat} (hN : N ≤ 240) (h1 : ∀ k, k < N → goOn b tl (rho b tl T S k)) (h2 : ¬ goOn b tl (rho b tl T S N)) : p_X4_readInto M ∧ r_X4_readInto M = (w_X4_readInto M).1 500 5 ∧ CRs (w_X4_readInto M) b tl (rho b tl T S N) ∧ Fq qD M (w_X4_readInto M) := by
  have F0 : Fq qC M (wi (wi M 500 5 (-1)) 500 4 0) := Fq.wi (Fq.wi Fq.rf ⟨rfl, by omega, by omega⟩) ⟨rfl, by omega, by omega⟩
  have m5 : (wi (wi M 500 5 (-1)) 500 4 0).1 500 5 = -1 := by rw [rd_ne (Or.inr (by omega)), rd_same]
  have m4 : (wi (wi M 500 5 (-1)) 500 4 0).1 500 4 = iI ((0 : Nat) : Int) := rd_same ..
  unfold p_X4_readInto r_X4_readInto w_X4_readInto
  generalize wi (wi M 500 5 (-1)) 500 4 0 = M1 at F0 m5 m4 ⊢
  obtain ⟨a1, a2, a3, a4⟩ := c_advK (hX.fq F0 (by show ¬ (_ ∧ _); omega) (fun k => by show ¬ (_ ∧ _); omega)) (Nat.zero_le tl) m4
  have g : CG (w_X4_advance M1) b tl 0 := ⟨a3, Nat.zero_le _, a2, by rw [a4.1 _ _ (by omega)]; exact m5⟩
  have F1 : Fq qC M (w_X4_advance M1) := F0.tr (a4.mono (fun a k u => ⟨u.1, u.2.1, by omega⟩))
  have d1 := dd.fc hv.1 F1
  generalize w_X4_advance M1 = M2 at g F1 d1 ⊢
  have key := c_into_l g d1 hv hN h1
  obtain ⟨k1, k2, k3, -⟩ := key N (Nat.le_refl _)
  have stop : (l_X4_readInto_16 (M2, 0) N).1.1 500 2 = 0 ∨ 0 ≤ (l_X4_readInto_16 (M2, 0) N).1.1 500 5 := by
    cases hr : rho b tl T S N with
    | inl p =>
      rw [hr] at k2
      have g2 : CF (l_X4_readInto_16 (M2, 0) N).1 b tl p := k2
      exact Or.inr g2.pos
    | inr q =>
      obtain ⟨e, T1, S1⟩ := q
      rw [hr] at k2 h2
      have hk0 : tkK b tl e = 0 := Classical.not_not.mp h2
      refine Or.inl ?_
      rw [k2.1.2.2.1.1, hk0]
      rfl
  have nc : ¬ c_X4_readInto_16 (l_X4_readInto_16 (M2, 0) N) := by
    unfold c_X4_readInto_16
    rcases stop with q | q
    · rw [if_pos q]
      split <;> exact fun h => h
    · rw [if_pos q]
      split
      · exact fun h => h
      · split <;> exact fun h => h
  have cn : cntN (fun k => c_X4_readInto_16 (l_X4_readInto_16 (M2, 0) k)) 241 = N := cntN_eq (by omega) (fun k hk => ((key k (by omega)).2.2.2 hk).1) nc
  have qs : ∀ k, k < N → q_X4_readInto_16 (l_X4_readInto_16 (M2, 0) k) := fun k hk => ((key k (by omega)).2.2.2 hk).2
  have cs : ∀ k, k < N → c_X4_readInto_16 (l_X4_readInto_16 (M2, 0) k) := fun k hk => ((key k (by omega)).2.2.2 hk).1
  have ew : w_X4_readInto_14 M2 = (l_X4_readInto_16 (M2, 0) N).1 := by
    unfold w_X4_readInto_14
    rw [cn]
    by_cases u1 : (240 : Int32) ≤ (l_X4_readInto_16 (M2, 0) N).2
    · rw [if_pos u1]
    · rw [if_neg u1]
      by_cases u2 : (l_X4_readInto_16 (M2, 0) N).1.1 500 2 = 0
      · rw [if_pos u2]
      · rw [if_neg u2, if_pos (stop.resolve_left u2)]
  have er : r_X4_readInto_14 M2 = (l_X4_readInto_16 (M2, 0) N).1.1 500 5 := by
    unfold r_X4_readInto_14
    rw [cn]
    by_cases u1 : (240 : Int32) ≤ (l_X4_readInto_16 (M2, 0) N).2
    · rw [if_pos u1]
    · rw [if_neg u1]
      by_cases u2 : (l_X4_readInto_16 (M2, 0) N).1.1 500 2 = 0
      · rw [if_pos u2]
      · rw [if_neg u2, if_pos (stop.resolve_left u2)]
  have ep : p_X4_readInto_14 M2 := by
    unfold p_X4_readInto_14
    rw [cn]
    refine ⟨cs, qs, nc, ?_⟩
    split
    · trivial
    · split
      · trivial
      · split <;> trivial
  rw [ew, er]
  exact ⟨⟨a1, ep⟩, rfl, k2, (F1.mono qCD).tr k3⟩
theorem r_into_l (x1 : Int32) (g : RG M b tl 0) (dd : RDr M T S) (hC : RCl M) (hv : Iv T S) {N : Nat} (h1 : ∀ k, k < N → goOn b tl (rho b tl T S k)) : ∀ k, k ≤ N → RRs (l_X8_town_54 x1 M k) b tl (rho b tl T S k) ∧ Fq qR M (l_X8_town_54 x1 M k) ∧ (k < N → c_X8_town_54 x1 (l_X8_town_54 x1 M k) ∧ q_X8_town_54 x1 (l_X8_town_54 x1 M k)) := by
  have one : ∀ (k : Nat) (D : Mm), RRs D b tl (rho b tl T S k) → Fq qR M D → k < N → (c_X8_town_54 x1 D ∧ q_X8_town_54 x1 D) ∧ s_X8_town_54 x1 D = w_X8_wantClause D ∧ RRs (w_X8_wantClause D) b tl (rho b tl T S (k + 1)) ∧ Fq qR D (w_X8_wantClause D) := by
    intro k D d2 d3 hkN
    obtain ⟨e, T1, S1, e1, hk0⟩ := goOn_inr (h1 k hkN)
    have gd := gd_rho (b := b) (tl := tl) hv k (fun j hj => h1 j (by omega))
    rw [e1] at d2 gd
    obtain ⟨-, -, hv1, -⟩ := gd
    obtain ⟨g1, dd1⟩ := d2
    have kb := tkK_b b tl e
    have z2 : ¬ D.1 600 16 = 0 := by rw [g1.2.2.1.1, cl0, iI_eq (by omega) (by omega) (by omega) (by omega)]; exact hk0
    obtain ⟨y1, y2, y3⟩ := r_sent g1 dd1 hv1 (hC.fr d3)
    have er : rho b tl T S (k + 1) = aEn b tl (ACl b tl T1 S1 e) := by
      show aRd b tl (rho b tl T S k) = _
      rw [e1]
      show (if tkK b tl e = 0 then .inr (e, T1, S1) else aEn b tl (ACl b tl T1 S1 e)) = _
      rw [if_neg hk0]
    unfold c_X8_town_54 q_X8_town_54 s_X8_town_54
    rw [if_neg g1.flag, if_neg g1.flag, if_neg g1.flag, if_neg z2, if_neg z2, if_neg z2, er]
    exact ⟨⟨trivial, y1, trivial⟩, rfl, y2, y3⟩
  have key : ∀ k, k ≤ N → RRs (l_X8_town_54 x1 M k) b tl (rho b tl T S k) ∧ Fq qR M (l_X8_town_54 x1 M k) := by
    intro k
    induction k with
    | zero => intro _; exact ⟨⟨g, dd⟩, Fq.rf⟩
    | succ k ih =>
      intro hk
      obtain ⟨i1, i2⟩ := ih (by omega)
      obtain ⟨-, o2, o3, o4⟩ := one k _ i1 i2 (by omega)
      show RRs (s_X8_town_54 x1 (l_X8_town_54 x1 M k)) b tl _ ∧ Fq qR M (s_X8_town_54 x1 (l_X8_town_54 x1 M k))
      rw [o2]
      exact ⟨o3, i2.tr o4⟩
  intro k hk
  obtain ⟨i1, i2⟩ := key k hk
  exact ⟨i1, i2, fun q => (one k _ i1 i2 q).1⟩
theorem r_into (x1 : Int32) (g : RG M b tl 0) (dd : RDr M T S) (hC : RCl M) (hv : Iv T S) {N : Nat} (hN : N ≤ 240) (h1 : ∀ k, k < N → goOn b tl (rho b tl T S k)) (h2 : ¬ goOn b tl (rho b tl T S N)) : ∃ D, RRs D b tl (rho b tl T S N) ∧ Fq qR M D ∧ (p_X8_town_75 D x1 → p_X8_town_54 M x1) ∧ r_X8_town_54 M x1 = r_X8_town_75 D x1 ∧ w_X8_town_54 M x1 = w_X8_town_75 D x1 := by
  have key := r_into_l x1 g dd hC hv h1
  obtain ⟨k2, k3, -⟩ := key N (Nat.le_refl _)
  have stop : (l_X8_town_54 x1 M N).1 600 21 = 0 ∨ (l_X8_town_54 x1 M N).1 600 16 = 0 := by
    cases hr : rho b tl T S N with
    | inl p =>
      rw [hr] at k2
      have g2 : RF (l_X8_town_54 x1 M N) p := k2
      exact Or.inl g2.1
    | inr q =>
      obtain ⟨e, T1, S1⟩ := q
      rw [hr] at k2 h2
      have hk0 : tkK b tl e = 0 := Classical.not_not.mp h2
      refine Or.inr ?_
      rw [k2.1.2.2.1.1, hk0]
      rfl
  have nc : ¬ c_X8_town_54 x1 (l_X8_town_54 x1 M N) := by
    unfold c_X8_town_54
    rcases stop with q | q
    · rw [if_pos q]
      exact fun h => h
    · rw [if_pos q]
      split <;> exact fun h => h
  have qs : ∀ k, k < N → q_X8_town_54 x1 (l_X8_town_54 x1 M k) := fun k hk => ((key k (by omega)).2.2 hk).2
  have cs : ∀ k, k < N → c_X8_town_54 x1 (l_X8_town_54 x1 M k) := fun k hk => ((key k (by omega)).2.2 hk).1
  have cn : cntN (fun k => c_X8_town_54 x1 (l_X8_town_54 x1 M k)) 241 = N := cntN_eq (by omega) cs nc
  refine ⟨l_X8_town_54 x1 M N, k2, k3, fun hp => ?_, ?_, ?_⟩
  · unfold p_X8_town_54
    rw [cn]
    refine ⟨cs, qs, nc, ?_⟩
    by_cases u : (l_X8_town_54 x1 M N).1 600 21 = 0
    · rw [if_pos u]; exact hp
    · rw [if_neg u, if_pos (stop.resolve_left u)]; exact hp
  · unfold r_X8_town_54
    rw [cn]
    by_cases u : (l_X8_town_54 x1 M N).1 600 21 = 0
    · rw [if_pos u]
    · rw [if_neg u, if_pos (stop.resolve_left u)]
  · unfold w_X8_town_54
    rw [cn]
    by_cases u : (l_X8_town_54 x1 M N).1 600 21 = 0
    · rw [if_pos u]
    · rw [if_neg u, if_pos (stop.resolve_left u)]
end PA9
