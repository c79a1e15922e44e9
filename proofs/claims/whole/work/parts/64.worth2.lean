/-! worth, ends -/
abbrev Qz (a k : Nat) : Prop := (510 ≤ a ∧ a ≤ 513) ∨ (1030 ≤ a ∧ a ≤ 1099) ∨ (a = 600 ∧ 16 ≤ k ∧ k ≤ 41) ∨ (a = 607 ∧ 22 ≤ k) ∨ (610 ≤ a ∧ a ≤ 618)
theorem Rel.scr {M M' : Mm} {n : Nat} (h : Rel M n) (hn : n < 200) (F : Fq Qz M M') : Rel M' (n + 1) := h.ofq hn F (Or.inl fun a k h => by omega) (Or.inl fun a k h => by omega) (Or.inl fun a k h => by omega) (fun a k h => by omega) (fun a k h => by omega) (fun a k h => by omega) (Or.inl fun a k h => by omega) (fun a k h => by omega)
theorem fq_at0 {Q : Nat → Nat → Prop} {M M' : Mm} (h : Fq (fun a k => Q a k ∨ (a = 600 ∧ k = 10)) M M') (h0 : M.1 600 10 = iI 0) : Fq Q M (wi M' 600 10 0) := ⟨fun a k hk => by
  by_cases q : a = 600 ∧ k = 10
  · rw [q.1, q.2, rd_same, h0]; rfl
  · have hne : ¬ (Q a k ∨ (a = 600 ∧ k = 10)) := fun u => u.elim hk q
    rw [wi_1, if_neg q]
    exact h.1 a k hne, fun a k hk => h.2 a k hk⟩
section P64
variable {M : Mm} {n : Nat}
theorem pair_worth (h : Rel M n) (hn : n < 64) (a1 : Int32) : PairI (p_X7_worth M a1) (p_X8_worth (w_X7_worth M a1) a1) (r_X7_worth M a1) (r_X8_worth (w_X7_worth M a1) a1) (w_X8_worth (w_X7_worth M a1) a1) n := by
  obtain ⟨T, S, g, ⟨c1, c2, c3, c4⟩, ⟨r1, r2, r3, r4, r5⟩, i1, i2, i3, i4, i5⟩ := h.1
  have hc := i1.1
  obtain ⟨len, hlen⟩ : ∃ len, len = aOpn S (T 0 2).toNat := ⟨_, rfl⟩
  have l6 : len ≤ 6 := by have := aOpn_le S (T 0 2).toNat; omega
  obtain ⟨p1, F1, n1, y1⟩ := c_read c1 c2 i1 i3 a1 hlen
  unfold p_X7_worth p_X8_worth r_X7_worth r_X8_worth w_X8_worth w_X7_worth
  generalize w_X2_readDigits M a1 = M1 at F1 y1 ⊢
  by_cases d : DG T S a1 len
  · obtain ⟨y2, y3, y4, y5⟩ := y1 d
    by_cases al : ∀ i, i < len → okA T S (dgt a1) i
    · rw [y4 al]
      have f0 : (0 : Int32) ≤ 0 := by decide
      simp only [if_pos f0]
      have od : ∀ i, i < len → ((dgt a1 i : Nat) : Int) < T 0 2 := fun i hi => (d.2.2 i hi).1
      obtain ⟨p2, s2, g2, b2, F2⟩ := c_run (M := M1) (calls := 0) (c1.fq i1 F1 (fun a k h1 h2 => by omega)) (c2.fq F1 (fun a k h1 h2 => by omega)) i1 i3 (by omega) l6 (by omega) y2 (fun i hi => ⟨od i hi, y3 i hi⟩) (fun k hk => okA_no (al k hk))
      change p_X2_runCalled M1 0 at p2
      change CSt (w_X2_runCalled M1 0) 1030 T _ at s2
      change (w_X2_runCalled M1 0).1 1030 5 = _ at g2
      change Fr _ M1 (w_X2_runCalled M1 0) at F2
      rw [g2]
      have G2 : Fq Qz M (w_X2_runCalled M1 0) := (F1.mono (fun a k h => by omega)).tr (F2.q (fun a k h => by omega) (fun a h => by omega))
      generalize w_X2_runCalled M1 0 = M2 at G2 ⊢
      have R1 : RT M2 T := r1.fq G2 (fun a k h => by omega)
      have R2 : RS M2 0 T S := r2.fq i1 G2 (fun k h1 h2 => by omega)
      have R3 : RA M2 0 := r3.fq G2 (by omega)
      obtain ⟨q1, F3, -, z1⟩ := r_take R1 R3 R2 i1 i3 a1 hlen
      obtain ⟨z2, z3, -⟩ := z1 d
      rw [z3 al]
      have e0 : (0 : Int32) = 0 := rfl
      simp only [if_pos e0]
      generalize w_X8_takesOrder M2 a1 = M3 at F3 z2 ⊢
      have Q1 : RT M3 T := R1.fq F3 (fun a k h => by omega)
      have Q2 : RS M3 0 T S := R2.fq i1 F3 (fun k h1 h2 => by omega)
      have Q3 : RA M3 0 := R3.fq F3 (by omega)
      obtain ⟨o1, o2⟩ := r_opn Q1 Q3 Q2 i1 i3
      rw [← hlen] at o2
      rw [o2]
      obtain ⟨v1, -, v2, v3, v4, v5, F4⟩ := r_run Q1 Q2 i1 i3 (by omega) (ord := dgt a1) (len := len) (calls := 0) l6 (by omega) (fun i hi => ⟨od i hi, z2 i hi⟩) (okD_ne d.2.2)
      change p_X8_goesThrough M3 (iI (len : Int)) 0 at v1
      change (w_X8_goesThrough M3 (iI (len : Int)) 0).1 600 31 = _ at v3
      change Fq _ M3 (w_X8_goesThrough M3 (iI (len : Int)) 0) at F4
      have e31 : (wi (w_X8_goesThrough M3 (iI (len : Int)) 0) 600 10 0).1 600 31 = iI (aSum T S (dgt a1) 0 len) := by rw [rd_ne (Or.inr (by omega))]; exact v3
      rw [e31]
      refine ⟨⟨p1, p2, trivial⟩, ⟨q1, o1, v1, trivial⟩, rfl, h.scr (by omega) (fq_at0 ?_ r3.1)⟩
      exact ((G2.mono (fun a k h => Or.inl h)).tr (F3.mono (fun a k h => by omega))).tr (F4.mono (fun a k h => by omega))
    · rw [y5 al]
      have f0 : ¬ (0 : Int32) ≤ -4 := by decide
      simp only [if_neg f0]
      have G1 : Fq Qz M M1 := F1.mono (fun a k h => by omega)
      obtain ⟨q1, F3, -, z1⟩ := r_take (r1.fq G1 (fun a k h => by omega)) (r3.fq G1 (by omega)) (r2.fq i1 G1 (fun k h1 h2 => by omega)) i1 i3 a1 hlen
      obtain ⟨z2, -, z4⟩ := z1 d
      rw [z4 al]
      have f1 : ¬ (-4 : Int32) = 0 := by decide
      simp only [if_neg f1]
      exact ⟨⟨p1, trivial⟩, ⟨q1, trivial⟩, rfl, h.scr (by omega) (G1.tr (F3.mono (fun a k h => by omega)))⟩
  · rw [n1 d]
    have f0 : ¬ (0 : Int32) ≤ -1 := by decide
    simp only [if_neg f0]
    have G1 : Fq Qz M M1 := F1.mono (fun a k h => by omega)
    obtain ⟨q1, F3, z1, -⟩ := r_take (r1.fq G1 (fun a k h => by omega)) (r3.fq G1 (by omega)) (r2.fq i1 G1 (fun k h1 h2 => by omega)) i1 i3 a1 hlen
    rw [z1 d]
    have f1 : ¬ (-1 : Int32) = 0 := by decide
    simp only [if_neg f1]
    exact ⟨⟨p1, trivial⟩, ⟨q1, trivial⟩, rfl, h.scr (by omega) (G1.tr (F3.mono (fun a k h => by omega)))⟩
theorem pair_ends (h : Rel M n) (hn : n < 64) (a1 a2 : Int32) : PairI (p_X7_ends M a1 a2) (p_X8_ends (w_X7_ends M a1 a2) a1 a2) (r_X7_ends M a1 a2) (r_X8_ends (w_X7_ends M a1 a2) a1 a2) (w_X8_ends (w_X7_ends M a1 a2) a1 a2) n := by
  obtain ⟨x, rfl, x1, x2⟩ := ex_iI a2
  obtain ⟨T, S, g, ⟨c1, c2, c3, c4⟩, ⟨r1, r2, r3, r4, r5⟩, i1, i2, i3, i4, i5⟩ := h.1
  have hc := i1.1
  have h6 : (M.1 100 2).toInt ≤ 6 := by rw [c1.1.2.2, iI_toInt (by omega) (by omega)]; omega
  have op := c_open c1 c2 i1 i3 x1 x2
  have isW : ∀ M' : Mm, RT M' T → ((0 ≤ iI x ∧ iI x ≤ M'.1 600 2 - 1) ↔ 0 ≤ x ∧ x < T 0 2) := fun M' hM => r_isWork hM i1 x1 x2
  have isO : ∀ M' : Mm, RA M' 0 → RS M' 0 T S → 0 ≤ x → x < T 0 2 → ((M'.1 607 (Int32.toNatClampNeg (M'.1 600 10 + 9 + iI x)) = 0) ↔ S 2 x.toNat = 0) := fun M' hA hS h0 h1 => r_open hA hS i1 i3 h0 h1
  unfold p_X7_ends p_X8_ends r_X7_ends r_X8_ends w_X8_ends w_X7_ends
  by_cases c : (0 ≤ x ∧ x < T 0 2) ∧ S 2 x.toNat = 0
  · obtain ⟨w, rfl⟩ : ∃ w : Nat, x = (w : Int) := ⟨x.toNat, by omega⟩
    have q7 := b2i_1.mpr (op.mpr c)
    have nw : Int32.toNatClampNeg (iI (w : Int)) = w := natk rfl (by omega)
    have vw : vp_in (iI (w : Int)) 6 := vin_iI (by omega) (by omega) (by omega)
    rw [if_pos q7, if_pos q7, if_pos q7]
    obtain ⟨len, hlen⟩ : ∃ len, len = aOpn S (T 0 2).toNat := ⟨_, rfl⟩
    have l6 : len ≤ 6 := by have := aOpn_le S (T 0 2).toNat; omega
    obtain ⟨p1, F1, n1, y1⟩ := c_read c1 c2 i1 i3 a1 hlen
    generalize w_X2_readDigits M a1 = M1 at F1 y1 ⊢
    have wr : ∀ M' : Mm, RT M' T → RA M' 0 → RS M' 0 T S → ¬ b2i (0 ≤ iI (w : Int) ∧ iI (w : Int) ≤ M'.1 600 2 - 1) = 0 ∧ ¬ b2i (M'.1 607 (Int32.toNatClampNeg (M'.1 600 10 + 9 + iI (w : Int))) = 0) = 0 ∧ vp_in (M'.1 600 10 + 9 + iI (w : Int)) 44 := fun M' a b d => ⟨b2i_1.mpr ((isW M' a).mpr c.1), b2i_1.mpr ((isO M' b d c.1.1 c.1.2).mpr c.2), b.vs c.1.1 c.1.2 i1⟩
    by_cases d : DG T S a1 len
    · obtain ⟨y2, y3, y4, y5⟩ := y1 d
      by_cases al : ∀ i, i < len → okA T S (dgt a1) i
      · rw [y4 al]
        have f0 : (0 : Int32) ≤ 0 := by decide
        simp only [if_pos f0]
        have od : ∀ i, i < len → ((dgt a1 i : Nat) : Int) < T 0 2 := fun i hi => (d.2.2 i hi).1
        obtain ⟨p2, s2, g2, b2, F2⟩ := c_run (M := M1) (calls := 0) (c1.fq i1 F1 (fun a k h1 h2 => by omega)) (c2.fq F1 (fun a k h1 h2 => by omega)) i1 i3 (by omega) l6 (by omega) y2 (fun i hi => ⟨od i hi, y3 i hi⟩) (fun k hk => okA_no (al k hk))
        change p_X2_runCalled M1 0 at p2
        change CSt (w_X2_runCalled M1 0) 1030 T _ at s2
        change Fr _ M1 (w_X2_runCalled M1 0) at F2
        have iv := InvS.run i1 i3 (by omega) (ord := dgt a1) 0 len l6 od
        have G2 : Fq Qz M (w_X2_runCalled M1 0) := (F1.mono (fun a k h => by omega)).tr (F2.q (fun a k h => by omega) (fun a h => by omega))
        generalize w_X2_runCalled M1 0 = M2 at G2 s2 ⊢
        have R1 : RT M2 T := r1.fq G2 (fun a k h => by omega)
        have R2 : RS M2 0 T S := r2.fq i1 G2 (fun k h1 h2 => by omega)
        have R3 : RA M2 0 := r3.fq G2 (by omega)
        obtain ⟨w1, w2, w3⟩ := wr M2 R1 R3 R2
        rw [if_neg w1, if_neg w1, if_neg w1, if_neg w2, if_neg w2, if_neg w2]
        obtain ⟨q1, F3, -, z1⟩ := r_take R1 R3 R2 i1 i3 a1 hlen
        obtain ⟨z2, z3, -⟩ := z1 d
        rw [z3 al]
        have e0 : (0 : Int32) = 0 := rfl
        simp only [if_pos e0]
        generalize w_X8_takesOrder M2 a1 = M3 at F3 z2 ⊢
        have Q1 : RT M3 T := R1.fq F3 (fun a k h => by omega)
        have Q2 : RS M3 0 T S := R2.fq i1 F3 (fun k h1 h2 => by omega)
        have Q3 : RA M3 0 := R3.fq F3 (by omega)
        obtain ⟨o1, o2⟩ := r_opn Q1 Q3 Q2 i1 i3
        rw [← hlen] at o2
        rw [o2]
        obtain ⟨v1, va, v2, v3, v4, v5, F4⟩ := r_run Q1 Q2 i1 i3 (by omega) (ord := dgt a1) (len := len) (calls := 0) l6 (by omega) (fun i hi => ⟨od i hi, z2 i hi⟩) (okD_ne d.2.2)
        change p_X8_goesThrough M3 (iI (len : Int)) 0 at v1
        change RA (w_X8_goesThrough M3 (iI (len : Int)) 0) 22 at va
        change RS (w_X8_goesThrough M3 (iI (len : Int)) 0) 22 T _ at v2
        change Fq _ M3 (w_X8_goesThrough M3 (iI (len : Int)) 0) at F4
        generalize w_X8_goesThrough M3 (iI (len : Int)) 0 = M4 at va v2 F4 ⊢
        unfold p_X8_ends_41 r_X8_ends_41 w_X8_ends_41
        have n9 : Int32.toNatClampNeg (iI 22 + 9 + iI (w : Int)) = 22 + 9 + w := by rw [cl9, iI_add, iI_add]; exact natk (by omega) (by omega)
        have v9 : vp_in (iI 22 + 9 + iI (w : Int)) 44 := by rw [cl9, iI_add, iI_add]; exact vin_iI (by omega) (by omega) (by omega)
        have n15 : Int32.toNatClampNeg (iI 22 + 15 + iI (w : Int)) = 22 + 15 + w := by rw [cl15, iI_add, iI_add]; exact natk (by omega) (by omega)
        have v15 : vp_in (iI 22 + 15 + iI (w : Int)) 44 := by rw [cl15, iI_add, iI_add]; exact vin_iI (by omega) (by omega) (by omega)
        have s3 := s2.2.2.1 (w : Int) (by omega) c.1.2
        have s4 := s2.2.2.2.1 (w : Int) (by omega) c.1.2
        have t3 := v2.2.2.1 (w : Int) (by omega) c.1.2
        have t4 := v2.2.2.2.1 (w : Int) (by omega) c.1.2
        rw [Int.toNat_natCast] at s3 s4 t3 t4
        have s3' : M2.1 1033 w = iI (aRun T S (dgt a1) 0 len 2 w) := s3
        have s4' : M2.1 1034 w = iI (aRun T S (dgt a1) 0 len 3 w) := s4
        have va' : M4.1 600 10 = iI 22 := va.1
        rw [nw, s3', s4', va', n9, n15, t3, t4]
        have bs := iv.2.2.1 (w : Int) (by omega) c.1.2
        rw [Int.toNat_natCast] at bs
        have st : aRun T S (dgt a1) 0 len 2 w = 1 ∨ aRun T S (dgt a1) 0 len 2 w = 2 := by
          have nz : aRun T S (dgt a1) 0 len 2 w ≠ 0 := by
            refine (aRun_2 T S (dgt a1) 0 len w).1 ?_
            have c2w : S 2 w = 0 := by have := c.2; rw [Int.toNat_natCast] at this; exact this
            exact dgt_all i1 hlen d (by omega) c2w
          omega
        have k1 : (iI (aRun T S (dgt a1) 0 len 2 w) = (1 : Int32)) ↔ aRun T S (dgt a1) 0 len 2 w = 1 := by rw [cl1, iI_eq (by omega) (by omega) (by omega) (by omega)]
        have k2 : (iI (aRun T S (dgt a1) 0 len 2 w) = (2 : Int32)) ↔ aRun T S (dgt a1) 0 len 2 w = 2 := by rw [cl2, iI_eq (by omega) (by omega) (by omega) (by omega)]
        have fin : Rel (wi M4 600 10 0) (n + 1) := h.scr (by omega) (fq_at0 (((G2.mono (fun a k h => Or.inl h)).tr (F3.mono (fun a k h => by omega))).tr (F4.mono (fun a k h => by omega))) r3.1)
        rcases st with st | st
        · have e1 := not_not_intro (k1.mpr st)
          have e2 : ¬ iI (aRun T S (dgt a1) 0 len 2 w) = (2 : Int32) := fun u => by have := k2.mp u; omega
          rw [if_neg e1, if_neg e1, if_pos e2, if_pos e2]
          exact ⟨⟨h6, p1, p2, vw, vw, trivial⟩, ⟨w3, q1, o1, v1, v9, v15, trivial⟩, rfl, fin⟩
        · have e1 : ¬ iI (aRun T S (dgt a1) 0 len 2 w) = (1 : Int32) := fun u => by have := k1.mp u; omega
          have e2 := not_not_intro (k2.mpr st)
          rw [if_pos e1, if_pos e1, if_neg e2, if_neg e2]
          exact ⟨⟨h6, p1, p2, vw, trivial⟩, ⟨w3, q1, o1, v1, v9, trivial⟩, rfl, fin⟩
      · rw [y5 al]
        have f0 : ¬ (0 : Int32) ≤ -4 := by decide
        simp only [if_neg f0]
        have G1 : Fq Qz M M1 := F1.mono (fun a k h => by omega)
        have R1 : RT M1 T := r1.fq G1 (fun a k h => by omega)
        have R2 : RS M1 0 T S := r2.fq i1 G1 (fun k h1 h2 => by omega)
        have R3 : RA M1 0 := r3.fq G1 (by omega)
        obtain ⟨w1, w2, w3⟩ := wr M1 R1 R3 R2
        rw [if_neg w1, if_neg w1, if_neg w1, if_neg w2, if_neg w2, if_neg w2]
        obtain ⟨q1, F3, -, z1⟩ := r_take R1 R3 R2 i1 i3 a1 hlen
        obtain ⟨z2, -, z4⟩ := z1 d
        rw [z4 al]
        have f1 : ¬ (-4 : Int32) = 0 := by decide
        simp only [if_neg f1]
        exact ⟨⟨h6, p1, trivial⟩, ⟨w3, q1, trivial⟩, rfl, h.scr (by omega) (G1.tr (F3.mono (fun a k h => by omega)))⟩
    · rw [n1 d]
      have f0 : ¬ (0 : Int32) ≤ -1 := by decide
      simp only [if_neg f0]
      have G1 : Fq Qz M M1 := F1.mono (fun a k h => by omega)
      have R1 : RT M1 T := r1.fq G1 (fun a k h => by omega)
      have R2 : RS M1 0 T S := r2.fq i1 G1 (fun k h1 h2 => by omega)
      have R3 : RA M1 0 := r3.fq G1 (by omega)
      obtain ⟨w1, w2, w3⟩ := wr M1 R1 R3 R2
      rw [if_neg w1, if_neg w1, if_neg w1, if_neg w2, if_neg w2, if_neg w2]
      obtain ⟨q1, F3, z1, -⟩ := r_take R1 R3 R2 i1 i3 a1 hlen
      rw [z1 d]
      have f1 : ¬ (-1 : Int32) = 0 := by decide
      simp only [if_neg f1]
      exact ⟨⟨h6, p1, trivial⟩, ⟨w3, q1, trivial⟩, rfl, h.scr (by omega) (G1.tr (F3.mono (fun a k h => by omega)))⟩
  · have q7 : ¬ ¬ b2i (cOpen M 1000 (iI x)) = 0 := not_not_intro (b2i_0.mpr (fun u => c (op.mp u)))
    rw [if_neg q7, if_neg q7, if_neg q7]
    by_cases e : 0 ≤ x ∧ x < T 0 2
    · have w1 : ¬ b2i (0 ≤ iI x ∧ iI x ≤ M.1 600 2 - 1) = 0 := b2i_1.mpr ((isW M r1).mpr e)
      have w2 := b2i_0.mpr (fun u => c ⟨e, (isO M r3 r2 e.1 e.2).mp u⟩)
      rw [if_neg w1, if_neg w1, if_neg w1, if_pos w2, if_pos w2, if_pos w2]
      exact ⟨⟨h6, trivial⟩, ⟨r3.vs e.1 e.2 i1, trivial⟩, rfl, h.up (by omega)⟩
    · have w1 := b2i_0.mpr (fun u => e ((isW M r1).mp u))
      rw [if_pos w1, if_pos w1, if_pos w1]
      exact ⟨⟨h6, trivial⟩, trivial, rfl, h.up (by omega)⟩
end P64
