/-! both go on to the next token -/
section PA0
variable {M D : Mm} {b : Nat → Int} {tl e : Nat}
theorem c_advK (hX : CX M b tl) (he : e ≤ tl) (h4 : M.1 500 4 = iI (e : Int)) : p_X4_advance M ∧ CTk (w_X4_advance M) b tl e ∧ CX (w_X4_advance M) b tl ∧ Fq (fun a k => a = 500 ∧ 2 ≤ k ∧ k ≤ 4) M (w_X4_advance M) := by
  obtain ⟨y1, y2, y3, y4, y5⟩ := c_adv hX he h4
  exact ⟨y1, ⟨y2, y3, y4⟩, hX.fq y5 (by omega) (fun k => by omega), y5⟩
theorem r_advK (hX : RX M b tl) (he : e ≤ tl) (h8 : M.1 600 18 = iI (e : Int)) : p_X8_advance M ∧ RTk (w_X8_advance M) b tl e ∧ RX (w_X8_advance M) b tl ∧ Fq (fun a k => a = 600 ∧ 16 ≤ k ∧ k ≤ 20) M (w_X8_advance M) := by
  obtain ⟨y1, y2, y3⟩ := r_adv hX he h8
  exact ⟨y1, y2, hX.fq y3 (by omega) (fun k => by omega), y3⟩
/-- a word wanted, by the reference -/
theorem r_wword {w : Int} {u : Int64} (he : e ≤ tl) (hk : RTk M b tl e) (h0 : 0 ≤ w ∧ w ≤ 282429536481) (hu : u = jI w) :
    (M.1 600 21 = 1 → (tkK b tl e = 1 ∧ tkW b tl e = w) → (p_X8_advance (wi M 600 21 1) → p_X8_wantWord M u) ∧ w_X8_wantWord M u = w_X8_advance (wi M 600 21 1)) ∧ (M.1 600 21 = 0 ∨ (M.1 600 21 = 1 ∧ ¬ (tkK b tl e = 1 ∧ tkW b tl e = w)) → p_X8_wantWord M u ∧ w_X8_wantWord M u = wi M 600 21 0) := by
  have r := r_isW he hk h0
  rw [hu]
  have w0 : (wi M 600 21 0).1 600 21 = 0 := rd_same ..
  have w1 : ¬ (wi M 600 21 1).1 600 21 = 0 := by rw [rd_same]; decide
  unfold p_X8_wantWord w_X8_wantWord
  refine ⟨fun f h => ?_, fun h => ?_⟩
  · have g0 : ¬ M.1 600 21 = 0 := by rw [f]; decide
    have g := b2i_1.mpr (r.mpr h)
    rw [if_neg g0, if_neg g0, if_neg g, if_neg g, if_neg w1, if_neg w1]
    exact ⟨fun x => ⟨x, trivial⟩, rfl⟩
  · rw [if_pos w0, if_pos w0]
    by_cases g0 : M.1 600 21 = 0
    · rw [if_pos g0, if_pos g0]
      exact ⟨trivial, rfl⟩
    · have g := b2i_0.mpr (fun x => (h.resolve_left g0).2 (r.mp x))
      rw [if_neg g0, if_neg g0, if_pos g, if_pos g]
      exact ⟨trivial, rfl⟩
theorem r_wend (hb : ∀ j, j < tl → 0 ≤ b j ∧ b j < 256) (he : e ≤ tl) (hk : RTk M b tl e) :
    (M.1 600 21 = 1 → (tkK b tl e = 3 ∧ tkV b tl e = 59) → (p_X8_advance (wi M 600 21 1) → p_X8_wantEnd M) ∧ w_X8_wantEnd M = w_X8_advance (wi M 600 21 1)) ∧ (M.1 600 21 = 0 ∨ (M.1 600 21 = 1 ∧ ¬ (tkK b tl e = 3 ∧ tkV b tl e = 59)) → p_X8_wantEnd M ∧ w_X8_wantEnd M = wi M 600 21 0) := by
  obtain ⟨k6, -, -, -, k0⟩ := hk
  have kb := tkK_b b tl e
  have vb := tkV_b hb he
  have r : (M.1 600 16 = 3 ∧ M.1 600 20 = (59 : Int32)) ↔ (tkK b tl e = 3 ∧ tkV b tl e = 59) := by rw [k6, k0, cl3, show (59 : Int32) = iI 59 by decide, iI_eq (by omega) (by omega) (by omega) (by omega), iI_eq (by omega) (by omega) (by omega) (by omega)]
  have w0 : (wi M 600 21 0).1 600 21 = 0 := rd_same ..
  have w1 : ¬ (wi M 600 21 1).1 600 21 = 0 := by rw [rd_same]; decide
  unfold p_X8_wantEnd w_X8_wantEnd
  refine ⟨fun f h => ?_, fun h => ?_⟩
  · have g0 : ¬ M.1 600 21 = 0 := by rw [f]; decide
    have g := b2i_1.mpr (r.mpr h)
    rw [if_neg g0, if_neg g0, if_neg g, if_neg g, if_neg w1, if_neg w1]
    exact ⟨fun x => ⟨x, trivial⟩, rfl⟩
  · rw [if_pos w0, if_pos w0]
    by_cases g0 : M.1 600 21 = 0
    · rw [if_pos g0, if_pos g0]
      exact ⟨trivial, rfl⟩
    · have g := b2i_0.mpr (fun x => (h.resolve_left g0).2 (r.mp x))
      rw [if_neg g0, if_neg g0, if_pos g, if_pos g]
      exact ⟨trivial, rfl⟩
end PA0
