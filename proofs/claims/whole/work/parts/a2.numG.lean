/-! reading goes on or faults -/
def CG (M : Mm) (b : Nat → Int) (tl e : Nat) : Prop := CX M b tl ∧ e ≤ tl ∧ CTk M b tl e ∧ M.1 500 5 = -1
def CF (M : Mm) (b : Nat → Int) (tl p : Nat) : Prop := CX M b tl ∧ p ≤ 240 ∧ M.1 500 5 = iI (p : Int)
def RG (M : Mm) (b : Nat → Int) (tl e : Nat) : Prop := RX M b tl ∧ e ≤ tl ∧ RTk M b tl e ∧ M.1 600 21 = 1
def RF (M : Mm) (p : Nat) : Prop := M.1 600 21 = 0 ∧ M.1 600 17 = iI (p : Int)
section PA2
variable {M : Mm} {b : Nat → Int} {tl e : Nat} {lo hi : Int}
theorem CG.adv (h : CG M b tl e) : p_X4_advance M ∧ CG (w_X4_advance M) b tl (tkE b tl e) ∧ Fq (fun a k => a = 500 ∧ 2 ≤ k ∧ k ≤ 5) M (w_X4_advance M) := by
  obtain ⟨h1, h2, h3, h4⟩ := h
  obtain ⟨-, q2, -⟩ := tkE_s b h2
  obtain ⟨y1, y2, y3, y4⟩ := c_advK h1 q2 h3.2.2
  exact ⟨y1, ⟨y3, q2, y2, by rw [y4.1 _ _ (by omega)]; exact h4⟩, y4.mono (fun a k h => by omega)⟩
theorem RG.adv {D : Mm} (h : RG M b tl e) (F : Fq (fun a k => a = 600 ∧ k = 21) M D) (h1 : D.1 600 21 = 1) : p_X8_advance D ∧ RG (w_X8_advance D) b tl (tkE b tl e) ∧ Fq (fun a k => a = 600 ∧ 16 ≤ k ∧ k ≤ 21) M (w_X8_advance D) := by
  obtain ⟨g1, g2, g3, -⟩ := h
  obtain ⟨-, q2, -⟩ := tkE_s b g2
  obtain ⟨y1, y2, y3, y4⟩ := r_advK (M := D) (g1.fq F (by omega) (fun k => by omega)) q2 (by rw [F.1 _ _ (by omega)]; exact g3.2.2.1)
  exact ⟨y1, ⟨y3, q2, y2, by rw [y4.1 _ _ (by omega)]; exact h1⟩, (F.mono (fun a k h => by omega)).tr (y4.mono (fun a k h => by omega))⟩
theorem CG.num (h : CG M b tl e) (hl : 0 ≤ lo ∧ lo ≤ 1000) (hh : -1 ≤ hi ∧ hi ≤ 1000) : p_X4_readNumber M (iI lo) (iI hi) ∧ (numOk b tl e lo hi → r_X4_readNumber M (iI lo) (iI hi) = iI (tkV b tl e) ∧ CG (w_X4_readNumber M (iI lo) (iI hi)) b tl (tkE b tl e)) ∧ (¬ numOk b tl e lo hi → r_X4_readNumber M (iI lo) (iI hi) = iI lo ∧ CF (w_X4_readNumber M (iI lo) (iI hi)) b tl (tkS b tl e)) ∧ Fq (fun a k => a = 500 ∧ 2 ≤ k ∧ k ≤ 5) M (w_X4_readNumber M (iI lo) (iI hi)) := by
  obtain ⟨a1, a2, a3⟩ := h.adv
  obtain ⟨h1, h2, h3, h4⟩ := h
  obtain ⟨y1, y2, y3⟩ := c_num h1 h2 h3 h4 hl hh
  obtain ⟨q1, q2, -⟩ := tkE_s b h2
  have t1 := h1.1
  by_cases c : numOk b tl e lo hi
  · obtain ⟨z1, z2⟩ := y2 c
    rw [z2]
    exact ⟨y1 c a1, fun _ => ⟨z1, a2⟩, fun u => absurd c u, a3⟩
  · obtain ⟨z0, z1, z2⟩ := y3 c
    rw [z2]
    have F : Fq (fun a k => a = 500 ∧ 2 ≤ k ∧ k ≤ 5) M (wi M 500 5 (iI ((tkS b tl e : Nat) : Int))) := Fq.wi Fq.rf (by omega)
    exact ⟨z0, fun u => absurd u c, fun _ => ⟨z1, h1.fq F (by omega) (fun k => by omega), by omega, rd_same ..⟩, F⟩
theorem RG.num (h : RG M b tl e) (hl : 0 ≤ lo ∧ lo ≤ 1000) (hh : -1 ≤ hi ∧ hi ≤ 1000) : p_X8_wantNumber M (iI lo) (iI hi) ∧ r_X8_wantNumber M (iI lo) (iI hi) = iI (tkV b tl e) ∧ (numOk b tl e lo hi → RG (w_X8_wantNumber M (iI lo) (iI hi)) b tl (tkE b tl e)) ∧ (¬ numOk b tl e lo hi → RF (w_X8_wantNumber M (iI lo) (iI hi)) (tkS b tl e)) ∧ Fq (fun a k => a = 600 ∧ 16 ≤ k ∧ k ≤ 21) M (w_X8_wantNumber M (iI lo) (iI hi)) := by
  obtain ⟨a1, a2, a3⟩ := h.adv (D := wi M 600 21 1) (Fq.wi Fq.rf (by omega)) (rd_same ..)
  obtain ⟨h1, h2, h3, h4⟩ := h
  obtain ⟨y1, y2, y3⟩ := r_wnum (fun j hj => (h1.2.2 j hj).1) h2 h3 hl hh
  by_cases c : numOk b tl e lo hi
  · obtain ⟨z1, z2⟩ := y2 h4 c
    rw [z2]
    exact ⟨z1 a1, y1, fun _ => a2, fun u => absurd c u, a3⟩
  · obtain ⟨z1, z2⟩ := y3 (Or.inr ⟨h4, c⟩)
    rw [z2]
    exact ⟨z1, y1, fun u => absurd u c, fun _ => ⟨rd_same .., by rw [rd_ne (Or.inr (by omega))]; exact h3.2.1⟩, Fq.wi Fq.rf (by omega)⟩
end PA2
