/-! reading goes on or faults: words, signs, what stays -/
abbrev isW (b : Nat → Int) (tl e : Nat) (w : Int) : Prop := tkK b tl e = 1 ∧ tkW b tl e = w
abbrev isE (b : Nat → Int) (tl e : Nat) : Prop := tkK b tl e = 3 ∧ tkV b tl e = 59
abbrev qC (a k : Nat) : Prop := a = 500 ∧ 2 ≤ k ∧ k ≤ 5
abbrev qV (a k : Nat) : Prop := a = 600 ∧ 16 ≤ k ∧ k ≤ 21
section PA3
variable {M M' : Mm} {b : Nat → Int} {tl e p : Nat} {Q : Nat → Nat → Prop}
theorem CG.fq (h : CG M b tl e) (F : Fq Q M M') (h1 : ∀ k, ¬ Q 500 k) (h2 : ∀ k, ¬ Q 501 k) : CG M' b tl e := by
  obtain ⟨g1, g2, ⟨g3, g4, g5⟩, g6⟩ := h
  refine ⟨g1.fq F (h1 1) h2, g2, ⟨?_, ?_, ?_⟩, ?_⟩
  · rw [F.1 _ _ (h1 2)]; exact g3
  · rw [F.1 _ _ (h1 3)]; exact g4
  · rw [F.1 _ _ (h1 4)]; exact g5
  · rw [F.1 _ _ (h1 5)]; exact g6
theorem CF.fq (h : CF M b tl p) (F : Fq Q M M') (h1 : ∀ k, ¬ Q 500 k) (h2 : ∀ k, ¬ Q 501 k) : CF M' b tl p := by
  obtain ⟨g1, g2, g3⟩ := h
  exact ⟨g1.fq F (h1 1) h2, g2, by rw [F.1 _ _ (h1 5)]; exact g3⟩
theorem RG.of (h : RG M b tl e) (F : ∀ a k, (a = 600 ∧ 15 ≤ k ∧ k ≤ 21) ∨ a = 609 → M'.1 a k = M.1 a k) (F2 : M'.2 600 19 = M.2 600 19) : RG M' b tl e := by
  obtain ⟨⟨x1, x2, x3⟩, g2, ⟨g3, g4, g5, g6, g7⟩, g8⟩ := h
  refine ⟨⟨x1, ?_, fun j hj => ⟨(x3 j hj).1, ?_⟩⟩, g2, ⟨?_, ?_, ?_, ?_, ?_⟩, ?_⟩
  · rw [F _ _ (by omega)]; exact x2
  · rw [F _ _ (by omega)]; exact (x3 j hj).2
  · rw [F _ _ (by omega)]; exact g3
  · rw [F _ _ (by omega)]; exact g4
  · rw [F _ _ (by omega)]; exact g5
  · rw [F2]; exact g6
  · rw [F _ _ (by omega)]; exact g7
  · rw [F _ _ (by omega)]; exact g8
theorem RF.of (h : RF M p) (F : ∀ k, 16 ≤ k → k ≤ 21 → M'.1 600 k = M.1 600 k) : RF M' p := ⟨by rw [F _ (by omega) (by omega)]; exact h.1, by rw [F _ (by omega) (by omega)]; exact h.2⟩
theorem CF.pos (h : CF M b tl p) : 0 ≤ M.1 500 5 := by
  have := h.2.1
  rw [h.2.2, cl0, iI_le (by omega) (by omega) (by omega) (by omega)]
  omega
theorem CG.neg (h : CG M b tl e) : ¬ 0 ≤ M.1 500 5 := by rw [h.2.2.2]; decide
theorem CF.num (h : CF M b tl p) (lo hi : Int32) : p_X4_readNumber M lo hi ∧ w_X4_readNumber M lo hi = M := by
  have g := h.pos
  unfold p_X4_readNumber w_X4_readNumber w_X4_fail
  rw [if_pos g, if_pos g, if_pos g]
  exact ⟨trivial, rfl⟩
theorem CF.wd5 (h : CF M b tl p) : p_X4_readWord_5 M ∧ w_X4_readWord_5 M = M := by
  have g := h.pos
  unfold p_X4_readWord_5 w_X4_readWord_5 w_X4_fail
  rw [if_pos g, if_pos g, if_pos g]
  exact ⟨trivial, rfl⟩
theorem CF.wd12 (h : CF M b tl p) : p_X4_readWord_12 M ∧ w_X4_readWord_12 M = M := by
  have g := h.pos
  unfold p_X4_readWord_12 w_X4_readWord_12 w_X4_fail
  rw [if_pos g, if_pos g, if_pos g]
  exact ⟨trivial, rfl⟩
theorem CF.wd13 (h : CF M b tl p) : p_X4_readWord_13 M ∧ w_X4_readWord_13 M = M := by
  have g := h.pos
  unfold p_X4_readWord_13 w_X4_readWord_13 w_X4_fail
  rw [if_pos g, if_pos g, if_pos g]
  exact ⟨trivial, rfl⟩
theorem CF.wd14 (h : CF M b tl p) : p_X4_readWord_14 M ∧ w_X4_readWord_14 M = M := by
  have g := h.pos
  unfold p_X4_readWord_14 w_X4_readWord_14 w_X4_fail
  rw [if_pos g, if_pos g, if_pos g]
  exact ⟨trivial, rfl⟩
/-- the class faults here -/
theorem CG.fl (h : CG M b tl e) : CF (wi M 500 5 (iI ((tkS b tl e : Nat) : Int))) b tl (tkS b tl e) ∧ Fq qC M (wi M 500 5 (iI ((tkS b tl e : Nat) : Int))) := by
  obtain ⟨h1, h2, h3, h4⟩ := h
  obtain ⟨q1, q2, -⟩ := tkE_s b h2
  have t1 := h1.1
  have F : Fq qC M (wi M 500 5 (iI ((tkS b tl e : Nat) : Int))) := Fq.wi Fq.rf ⟨rfl, by omega, by omega⟩
  exact ⟨⟨h1.fq F (by show ¬ (_ ∧ _); omega) (fun k => by show ¬ (_ ∧ _); omega), by omega, rd_same ..⟩, F⟩
theorem CG.fail (h : CG M b tl e) : w_X4_fail M = wi M 500 5 (iI ((tkS b tl e : Nat) : Int)) := by
  unfold w_X4_fail
  rw [if_neg h.neg, h.2.2.1.2.1]
theorem CG.wd5 (h : CG M b tl e) : p_X4_readWord_5 M ∧ (isE b tl e → CG (w_X4_readWord_5 M) b tl (tkE b tl e)) ∧ (¬ isE b tl e → CF (w_X4_readWord_5 M) b tl (tkS b tl e)) ∧ Fq qC M (w_X4_readWord_5 M) := by
  obtain ⟨a1, a2, a3⟩ := h.adv
  obtain ⟨f1, f2⟩ := h.fl
  obtain ⟨y1, y2, -⟩ := c_wd5 h.1 h.2.1 h.2.2.1
  by_cases c : isE b tl e
  · obtain ⟨z1, z2⟩ := y1 h.2.2.2 c
    rw [z2]
    exact ⟨z1 a1, fun _ => a2, fun u => absurd c u, a3⟩
  · obtain ⟨z1, z2⟩ := y2 h.2.2.2 c
    rw [z2]
    exact ⟨z1, fun u => absurd u c, fun _ => f1, f2⟩
theorem CG.wd12 (h : CG M b tl e) : p_X4_readWord_12 M ∧ (isW b tl e 555 → CG (w_X4_readWord_12 M) b tl (tkE b tl e)) ∧ (¬ isW b tl e 555 → CF (w_X4_readWord_12 M) b tl (tkS b tl e)) ∧ Fq qC M (w_X4_readWord_12 M) := by
  obtain ⟨a1, a2, a3⟩ := h.adv
  obtain ⟨f1, f2⟩ := h.fl
  obtain ⟨y1, y2, -⟩ := c_wd12 h.1 h.2.1 h.2.2.1
  rw [wdv_v.2.1] at y1 y2
  by_cases c : isW b tl e 555
  · obtain ⟨z1, z2⟩ := y1 h.2.2.2 c
    rw [z2]
    exact ⟨z1 a1, fun _ => a2, fun u => absurd c u, a3⟩
  · obtain ⟨z1, z2⟩ := y2 h.2.2.2 c
    rw [z2]
    exact ⟨z1, fun u => absurd u c, fun _ => f1, f2⟩
theorem CG.wd13 (h : CG M b tl e) : p_X4_readWord_13 M ∧ (isW b tl e 79 → CG (w_X4_readWord_13 M) b tl (tkE b tl e)) ∧ (¬ isW b tl e 79 → CF (w_X4_readWord_13 M) b tl (tkS b tl e)) ∧ Fq qC M (w_X4_readWord_13 M) := by
  obtain ⟨a1, a2, a3⟩ := h.adv
  obtain ⟨f1, f2⟩ := h.fl
  obtain ⟨y1, y2, -⟩ := c_wd13 h.1 h.2.1 h.2.2.1
  rw [wdv_v.2.2.1] at y1 y2
  by_cases c : isW b tl e 79
  · obtain ⟨z1, z2⟩ := y1 h.2.2.2 c
    rw [z2]
    exact ⟨z1 a1, fun _ => a2, fun u => absurd c u, a3⟩
  · obtain ⟨z1, z2⟩ := y2 h.2.2.2 c
    rw [z2]
    exact ⟨z1, fun u => absurd u c, fun _ => f1, f2⟩
theorem CG.wd14 (h : CG M b tl e) : p_X4_readWord_14 M ∧ (isW b tl e 4797 → CG (w_X4_readWord_14 M) b tl (tkE b tl e)) ∧ (¬ isW b tl e 4797 → CF (w_X4_readWord_14 M) b tl (tkS b tl e)) ∧ Fq qC M (w_X4_readWord_14 M) := by
  obtain ⟨a1, a2, a3⟩ := h.adv
  obtain ⟨f1, f2⟩ := h.fl
  obtain ⟨y1, y2, -⟩ := c_wd14 h.1 h.2.1 h.2.2.1
  rw [wdv_v.2.2.2.1] at y1 y2
  by_cases c : isW b tl e 4797
  · obtain ⟨z1, z2⟩ := y1 h.2.2.2 c
    rw [z2]
    exact ⟨z1 a1, fun _ => a2, fun u => absurd c u, a3⟩
  · obtain ⟨z1, z2⟩ := y2 h.2.2.2 c
    rw [z2]
    exact ⟨z1, fun u => absurd u c, fun _ => f1, f2⟩
/-- a word at hand, in the class -/
theorem CG.isw (h : CG M b tl e) {i : Nat} (hi : i < 17) (h5 : i ≠ 5) : p_X4_isWord M i ∧ ((r_X4_isWord M i = 0) ↔ ¬ isW b tl e (wdv i)) := by
  have c := c_word hi h5 h.1 h.2.1 h.2.2.1
  refine ⟨p_isW hi h.1 h.2.1 h.2.2.1, ?_⟩
  by_cases d : wordIs M i
  · have g : ¬ r_X4_isWord M i = 0 := by rw [r_isWord_t d]; decide
    exact ⟨fun u => absurd u g, fun u => absurd (c.mp d) u⟩
  · exact ⟨fun _ u => d (c.mpr u), fun _ => r_isWord_f d⟩
theorem RF.num (h : RF M p) (lo hi : Int32) : p_X8_wantNumber M lo hi ∧ RF (w_X8_wantNumber M lo hi) p ∧ Fq qV M (w_X8_wantNumber M lo hi) := by
  have w0 : (wi M 600 21 0).1 600 21 = 0 := rd_same ..
  have F : Fq qV M (wi M 600 21 0) := Fq.wi Fq.rf ⟨rfl, by omega, by omega⟩
  unfold p_X8_wantNumber w_X8_wantNumber p_X8_wantNumber_38 w_X8_wantNumber_38
  rw [if_pos h.1, if_pos h.1, if_pos w0, if_pos w0]
  exact ⟨trivial, ⟨w0, by rw [rd_ne (Or.inr (by omega))]; exact h.2⟩, F⟩
theorem RF.word (h : RF M p) (u : Int64) : p_X8_wantWord M u ∧ RF (w_X8_wantWord M u) p ∧ Fq qV M (w_X8_wantWord M u) := by
  have w0 : (wi M 600 21 0).1 600 21 = 0 := rd_same ..
  have F : Fq qV M (wi M 600 21 0) := Fq.wi Fq.rf ⟨rfl, by omega, by omega⟩
  unfold p_X8_wantWord w_X8_wantWord
  rw [if_pos h.1, if_pos h.1, if_pos w0, if_pos w0]
  exact ⟨trivial, ⟨w0, by rw [rd_ne (Or.inr (by omega))]; exact h.2⟩, F⟩
theorem RF.wend (h : RF M p) : p_X8_wantEnd M ∧ RF (w_X8_wantEnd M) p ∧ Fq qV M (w_X8_wantEnd M) := by
  have w0 : (wi M 600 21 0).1 600 21 = 0 := rd_same ..
  have F : Fq qV M (wi M 600 21 0) := Fq.wi Fq.rf ⟨rfl, by omega, by omega⟩
  unfold p_X8_wantEnd w_X8_wantEnd
  rw [if_pos h.1, if_pos h.1, if_pos w0, if_pos w0]
  exact ⟨trivial, ⟨w0, by rw [rd_ne (Or.inr (by omega))]; exact h.2⟩, F⟩
theorem RG.fl (h : RG M b tl e) : RF (wi M 600 21 0) (tkS b tl e) ∧ Fq qV M (wi M 600 21 0) := ⟨⟨rd_same .., by rw [rd_ne (Or.inr (by omega))]; exact h.2.2.1.2.1⟩, Fq.wi Fq.rf ⟨rfl, by omega, by omega⟩⟩
theorem RG.adv1 (h : RG M b tl e) : p_X8_advance (wi M 600 21 1) ∧ RG (w_X8_advance (wi M 600 21 1)) b tl (tkE b tl e) ∧ Fq qV M (w_X8_advance (wi M 600 21 1)) := h.adv (D := wi M 600 21 1) (Fq.wi Fq.rf (by omega)) (rd_same ..)
theorem RG.adv0 (h : RG M b tl e) : p_X8_advance M ∧ RG (w_X8_advance M) b tl (tkE b tl e) ∧ Fq qV M (w_X8_advance M) := h.adv (D := M) Fq.rf h.2.2.2
theorem RG.word (h : RG M b tl e) {w : Int} {u : Int64} (h0 : 0 ≤ w ∧ w ≤ 282429536481) (hu : u = jI w) : p_X8_wantWord M u ∧ (isW b tl e w → RG (w_X8_wantWord M u) b tl (tkE b tl e)) ∧ (¬ isW b tl e w → RF (w_X8_wantWord M u) (tkS b tl e)) ∧ Fq qV M (w_X8_wantWord M u) := by
  obtain ⟨a1, a2, a3⟩ := h.adv1
  obtain ⟨f1, f2⟩ := h.fl
  obtain ⟨y1, y2⟩ := r_wword h.2.1 h.2.2.1 h0 hu
  by_cases c : isW b tl e w
  · obtain ⟨z1, z2⟩ := y1 h.2.2.2 c
    rw [z2]
    exact ⟨z1 a1, fun _ => a2, fun u => absurd c u, a3⟩
  · obtain ⟨z1, z2⟩ := y2 (Or.inr ⟨h.2.2.2, c⟩)
    rw [z2]
    exact ⟨z1, fun u => absurd u c, fun _ => f1, f2⟩
theorem RG.wend (h : RG M b tl e) : p_X8_wantEnd M ∧ (isE b tl e → RG (w_X8_wantEnd M) b tl (tkE b tl e)) ∧ (¬ isE b tl e → RF (w_X8_wantEnd M) (tkS b tl e)) ∧ Fq qV M (w_X8_wantEnd M) := by
  obtain ⟨a1, a2, a3⟩ := h.adv1
  obtain ⟨f1, f2⟩ := h.fl
  obtain ⟨y1, y2⟩ := r_wend (fun j hj => (h.1.2.2 j hj).1) h.2.1 h.2.2.1
  by_cases c : isE b tl e
  · obtain ⟨z1, z2⟩ := y1 h.2.2.2 c
    rw [z2]
    exact ⟨z1 a1, fun _ => a2, fun u => absurd c u, a3⟩
  · obtain ⟨z1, z2⟩ := y2 (Or.inr ⟨h.2.2.2, c⟩)
    rw [z2]
    exact ⟨z1, fun u => absurd u c, fun _ => f1, f2⟩
/-- a word at hand, in the reference -/
theorem RG.isw (h : RG M b tl e) {w : Int} {u : Int64} (h0 : 0 ≤ w ∧ w ≤ 282429536481) (hu : u = jI w) : (b2i (M.1 600 16 = 1 ∧ M.2 600 19 = u) = 0) ↔ ¬ isW b tl e w := by
  have r := r_isW h.2.1 h.2.2.1 h0
  rw [hu, b2i_0, r]
theorem RG.flag (h : RG M b tl e) : ¬ M.1 600 21 = 0 := by rw [h.2.2.2]; decide
end PA3
