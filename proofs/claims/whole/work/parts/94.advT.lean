/-! tokens: the reference's advance -/
section P94
variable {M D : Mm} {b : Nat → Int} {tl e : Nat}
theorem l207_2 (x1 : Int32) (M : Mm) : ∀ k, (l_X8_advance_207 x1 M k).2 = M.2
  | 0 => rfl
  | k + 1 => by
    have e : (s_X8_advance_207 x1 (l_X8_advance_207 x1 M k)).2 = (l_X8_advance_207 x1 M k).2 := by
      generalize l_X8_advance_207 x1 M k = D
      unfold s_X8_advance_207
      repeat' (first | rfl | split)
    exact e.trans (l207_2 x1 M k)
theorem w207_2 (x1 : Int32) (M : Mm) : (w_X8_advance_207 M x1).2 = M.2 := by
  unfold w_X8_advance_207
  have l2 := l207_2 x1 M (cntN (fun k => c_X8_advance_207 x1 (l_X8_advance_207 x1 M k)) 241)
  generalize l_X8_advance_207 x1 M (cntN (fun k => c_X8_advance_207 x1 (l_X8_advance_207 x1 M k)) 241) = L at l2 ⊢
  repeat' (first | exact l2 | rfl | split)
/-- what the reference knows of a token -/
def RTk (M : Mm) (b : Nat → Int) (tl e : Nat) : Prop := M.1 600 16 = iI (tkK b tl e) ∧ M.1 600 17 = iI ((tkS b tl e : Nat) : Int) ∧ M.1 600 18 = iI ((tkE b tl e : Nat) : Int) ∧ M.2 600 19 = jI (tkW b tl e) ∧ M.1 600 20 = iI (tkV b tl e)
theorem tkK_b (b : Nat → Int) (tl e : Nat) : 0 ≤ tkK b tl e ∧ tkK b tl e ≤ 3 := by
  unfold tkK
  have := kd_b (b (tkS b tl e))
  split <;> omega
theorem r_86 (hX : RX M b tl) (he : e ≤ tl) (h6 : M.1 600 16 = iI (tkK b tl e)) (h7 : M.1 600 17 = iI ((tkS b tl e : Nat) : Int)) (h8 : M.1 600 18 = iI ((tkS b tl e : Nat) : Int)) :
    p_X8_advance_86 M (iI (chv b tl (tkS b tl e))) ∧ RTk (w_X8_advance_86 M (iI (chv b tl (tkS b tl e)))) b tl e ∧ Fq (fun a k => a = 600 ∧ 16 ≤ k ∧ k ≤ 20) M (w_X8_advance_86 M (iI (chv b tl (tkS b tl e)))) := by
  have kb := tkK_b b tl e
  obtain ⟨q1, q2, q3, q4, q5⟩ := tkE_s b he
  have t1 := hX.1
  have k1 : (iI (tkK b tl e) = (1 : Int32)) ↔ tkK b tl e = 1 := by rw [cl1, iI_eq (by omega) (by omega) (by omega) (by omega)]
  have k2 : (iI (tkK b tl e) = (2 : Int32)) ↔ tkK b tl e = 2 := by rw [cl2, iI_eq (by omega) (by omega) (by omega) (by omega)]
  have k3 : (iI (tkK b tl e) = (3 : Int32)) ↔ tkK b tl e = 3 := by rw [cl3, iI_eq (by omega) (by omega) (by omega) (by omega)]
  obtain ⟨x1, hx⟩ : ∃ x1, x1 = iI (chv b tl (tkS b tl e)) := ⟨_, rfl⟩
  rw [← hx]
  unfold p_X8_advance_86 w_X8_advance_86
  have z9 : (wl M 600 19 0).2 600 19 = 0 := wl_same _ _ _ _
  have z1 : ∀ a k, (wl M 600 19 0).1 a k = M.1 a k := fun _ _ => rfl
  have FW : Fq (fun a k => a = 600 ∧ 16 ≤ k ∧ k ≤ 20) M (wl M 600 19 0) := Fq.wl Fq.rf (by omega)
  generalize wl M 600 19 0 = W at z9 z1 FW ⊢
  rw [z1, h6]
  have r6 : ∀ v : Int32, (wi W 600 20 v).1 600 16 = iI (tkK b tl e) := fun v => by rw [rd_ne (Or.inr (by omega)), z1]; exact h6
  have r7 : ∀ v : Int32, (wi W 600 20 v).1 600 17 = iI ((tkS b tl e : Nat) : Int) := fun v => by rw [rd_ne (Or.inr (by omega)), z1]; exact h7
  have r8 : ∀ v : Int32, (wi W 600 20 v).1 600 18 = iI ((tkS b tl e : Nat) : Int) := fun v => by rw [rd_ne (Or.inr (by omega)), z1]; exact h8
  have r9 : ∀ v : Int32, (wi W 600 20 v).2 600 19 = 0 := fun v => z9
  have r0 : ∀ v : Int32, (wi W 600 20 v).1 600 20 = v := fun v => rd_same ..
  have FV : ∀ v : Int32, Fq (fun a k => a = 600 ∧ 16 ≤ k ∧ k ≤ 20) M (wi W 600 20 v) := fun v => FW.wi (by omega)
  unfold p_X8_advance_108 w_X8_advance_108
  by_cases c2 : tkK b tl e = 2
  · have g2 := not_not_intro (k2.mpr c2)
    have g3 : ¬ iI (tkK b tl e) = 3 := fun u => by have := k3.mp u; omega
    rw [if_neg g2, if_neg g2, r6, if_pos g3, if_pos g3]
    obtain ⟨a1, a2, a3⟩ := q3 2 (Or.inr rfl) c2
    obtain ⟨y1, y2, y3, y4⟩ := r_tailN (M := wi W 600 20 0) x1 (hX.fq (FV 0) (by omega) (fun k => by omega)) (by rw [r6]; exact k2.mpr c2) (r7 0) (r8 0) (r0 0) ⟨q1, q2⟩ a2 a3
    refine ⟨y1, ⟨by rw [y4.1 _ _ (by omega)]; exact r6 0, by rw [y4.1 _ _ (by omega)]; exact r7 0, y2, ?_, ?_⟩, (FV 0).tr (y4.mono (fun a k h => by omega))⟩
    · rw [(r_126n (M := wi W 600 20 0) x1 (by rw [r6]; exact fun u => by have := k1.mp u; omega)).2, w207_2]
      have eW : tkW b tl e = 0 := if_neg (by omega)
      rw [eW]
      exact z9
    · rw [y3]; unfold tkV; rw [if_pos c2]
  · have g2 : ¬ iI (tkK b tl e) = 2 := fun u => c2 (k2.mp u)
    rw [if_pos g2, if_pos g2, r6]
    have eV : tkV b tl e = chv b tl (tkS b tl e) := if_neg c2
    by_cases c1 : tkK b tl e = 1
    · have g3 : ¬ iI (tkK b tl e) = 3 := fun u => by have := k3.mp u; omega
      rw [if_pos g3, if_pos g3]
      obtain ⟨a1, a2, a3⟩ := q3 1 (Or.inl rfl) c1
      obtain ⟨y1, y2, y3, y4⟩ := r_tailW (M := wi W 600 20 x1) x1 (hX.fq (FV x1) (by omega) (fun k => by omega)) (by rw [r6]; exact k1.mpr c1) (r7 x1) (r8 x1) (r9 x1) ⟨q1, q2⟩ a2 a3
      refine ⟨y1, ⟨by rw [y4.1 _ _ (by omega)]; exact r6 x1, by rw [y4.1 _ _ (by omega)]; exact r7 x1, y2, ?_, ?_⟩, (FV x1).tr (y4.mono (fun a k h => by omega))⟩
      · rw [y3]; unfold tkW; rw [if_pos c1]
      · rw [y4.1 _ _ (by omega), r0, eV]; exact hx
    · have g1 : ¬ iI (tkK b tl e) = 1 := fun u => c1 (k1.mp u)
      have eW : tkW b tl e = 0 := if_neg c1
      by_cases c3 : tkK b tl e = 3
      · have g3 := not_not_intro (k3.mpr c3)
        rw [if_neg g3, if_neg g3, r8, k1_iI]
        obtain ⟨y1, y2⟩ := r_tail0 (M := wi (wi W 600 20 x1) 600 18 (iI ((tkS b tl e + 1 : Nat) : Int))) x1 (by rw [rd_ne (Or.inr (by omega)), r6]; exact g1) (by rw [rd_ne (Or.inr (by omega)), r6]; exact g2)
        rw [y2]
        refine ⟨y1, ⟨by rw [rd_ne (Or.inr (by omega))]; exact r6 x1, by rw [rd_ne (Or.inr (by omega))]; exact r7 x1, ?_, ?_, ?_⟩, (FV x1).wi (by omega)⟩
        · rw [rd_same, (q4 c3).1]
        · rw [eW]; exact z9
        · rw [rd_ne (Or.inr (by omega)), r0, eV]; exact hx
      · have g3 : ¬ iI (tkK b tl e) = 3 := fun u => c3 (k3.mp u)
        rw [if_pos g3, if_pos g3]
        obtain ⟨y1, y2⟩ := r_tail0 (M := wi W 600 20 x1) x1 (by rw [r6]; exact g1) (by rw [r6]; exact g2)
        rw [y2]
        refine ⟨y1, ⟨r6 x1, r7 x1, ?_, ?_, ?_⟩, FV x1⟩
        · rw [r8, q5 (by omega)]
        · rw [eW]; exact z9
        · rw [r0, eV]; exact hx
theorem r_adv (hX : RX M b tl) (he : e ≤ tl) (h8 : M.1 600 18 = iI (e : Int)) : p_X8_advance M ∧ RTk (w_X8_advance M) b tl e ∧ Fq (fun a k => a = 600 ∧ 16 ≤ k ∧ k ≤ 20) M (w_X8_advance M) := by
  have t1 := hX.1
  obtain ⟨s1, s2, -, -⟩ := rn_s (fun i => b i = 32) tl tl e he (by omega)
  change e ≤ tkS b tl e at s1
  change tkS b tl e ≤ tl at s2
  unfold p_X8_advance w_X8_advance
  rw [h8]
  have F0 : Fq (fun a k => a = 600 ∧ 16 ≤ k ∧ k ≤ 20) M (wi M 600 17 (iI (e : Int))) := Fq.wi Fq.rf (by omega)
  have m7 : (wi M 600 17 (iI (e : Int))).1 600 17 = iI (e : Int) := rd_same ..
  generalize wi M 600 17 (iI (e : Int)) = M0 at F0 m7 ⊢
  obtain ⟨N, n1, n2, n3, n4, n5, n6⟩ := r_skip (hX.fq F0 (by omega) (fun k => by omega)) he m7
  have cn : cntN (fun k => c_X8_advance_8 (l_X8_advance_8 M0 k)) 241 = N := cntN_eq (by omega) n2 n4
  rw [cn]
  have nc := n4
  unfold c_X8_advance_8 at nc
  have FL : Fq (fun a k => a = 600 ∧ 16 ≤ k ∧ k ≤ 20) M (l_X8_advance_8 M0 N) := F0.tr (n6.mono (fun a k h => by omega))
  generalize l_X8_advance_8 M0 N = L at n4 n5 FL nc ⊢
  clear n6
  have LX : RX L b tl := hX.fq FL (by omega) (fun k => by omega)
  obtain ⟨r1, r2, r3⟩ := rch LX n5 (by omega)
  rw [r1] at nc ⊢
  have g32 : ¬ iI (chv b tl (tkS b tl e)) = 32 := fun u => nc (by rw [if_neg (not_not_intro u)]; trivial)
  rw [if_pos g32, if_pos g32]
  have go : p_X8_advance_34 L ∧ RTk (w_X8_advance_34 L) b tl e ∧ Fq (fun a k => a = 600 ∧ 16 ≤ k ∧ k ≤ 20) L (w_X8_advance_34 L) := by
    unfold p_X8_advance_34 w_X8_advance_34
    rw [n5]
    have F1 : Fq (fun a k => a = 600 ∧ 16 ≤ k ∧ k ≤ 20) L (wi L 600 18 (iI ((tkS b tl e : Nat) : Int))) := Fq.wi Fq.rf (by omega)
    have m7 : (wi L 600 18 (iI ((tkS b tl e : Nat) : Int))).1 600 17 = iI ((tkS b tl e : Nat) : Int) := by rw [rd_ne (Or.inr (by omega))]; exact n5
    have m8 : (wi L 600 18 (iI ((tkS b tl e : Nat) : Int))).1 600 18 = iI ((tkS b tl e : Nat) : Int) := rd_same ..
    generalize wi L 600 18 (iI ((tkS b tl e : Nat) : Int)) = W at F1 m7 m8 ⊢
    obtain ⟨y1, y2, -⟩ := rch (LX.fq F1 (by omega) (fun k => by omega)) m7 (by omega)
    rw [y1]
    have up : ∀ v : Int32, v = iI (tkK b tl e) → p_X8_advance_86 (wi W 600 16 v) (iI (chv b tl (tkS b tl e))) ∧ RTk (w_X8_advance_86 (wi W 600 16 v) (iI (chv b tl (tkS b tl e)))) b tl e ∧ Fq (fun a k => a = 600 ∧ 16 ≤ k ∧ k ≤ 20) L (w_X8_advance_86 (wi W 600 16 v) (iI (chv b tl (tkS b tl e)))) := fun v hv => by
      have F2 : Fq (fun a k => a = 600 ∧ 16 ≤ k ∧ k ≤ 20) L (wi W 600 16 v) := F1.wi (by omega)
      obtain ⟨u1, u2, u3⟩ := r_86 (M := wi W 600 16 v) (LX.fq F2 (by omega) (fun k => by omega)) he (by rw [rd_same]; exact hv) (by rw [rd_ne (Or.inr (by omega))]; exact m7) (by rw [rd_ne (Or.inr (by omega))]; exact m8)
      exact ⟨u1, u2, F2.tr u3⟩
    have l0 : (0 ≤ iI (chv b tl (tkS b tl e))) ↔ 0 ≤ chv b tl (tkS b tl e) := by rw [cl0, iI_le (by omega) (by omega) (by omega) (by omega)]
    have l1 : ((97 : Int32) ≤ iI (chv b tl (tkS b tl e)) ∧ iI (chv b tl (tkS b tl e)) ≤ 122) ↔ (97 ≤ chv b tl (tkS b tl e) ∧ chv b tl (tkS b tl e) ≤ 122) := by rw [show (97 : Int32) = iI 97 by decide, show (122 : Int32) = iI 122 by decide, iI_le (by omega) (by omega) (by omega) (by omega), iI_le (by omega) (by omega) (by omega) (by omega)]
    have l2 : ((48 : Int32) ≤ iI (chv b tl (tkS b tl e)) ∧ iI (chv b tl (tkS b tl e)) ≤ 57) ↔ (48 ≤ chv b tl (tkS b tl e) ∧ chv b tl (tkS b tl e) ≤ 57) := by rw [show (48 : Int32) = iI 48 by decide, show (57 : Int32) = iI 57 by decide, iI_le (by omega) (by omega) (by omega) (by omega), iI_le (by omega) (by omega) (by omega) (by omega)]
    by_cases c : tkS b tl e < tl
    · have ec : chv b tl (tkS b tl e) = b (tkS b tl e) := if_pos c
      have eK : tkK b tl e = kd (chv b tl (tkS b tl e)) := by rw [ec]; exact if_pos c
      have b0 := (LX.2.2 _ c).1
      have g0 := l0.mpr (by omega)
      rw [if_pos g0, if_pos g0]
      by_cases d1 : 97 ≤ chv b tl (tkS b tl e) ∧ chv b tl (tkS b tl e) ≤ 122
      · have g := b2i_1.mpr (l1.mpr d1)
        rw [if_neg g, if_neg g]
        obtain ⟨u1, u2, u3⟩ := up 1 (by rw [eK]; unfold kd; rw [if_pos d1]; rfl)
        exact ⟨⟨y2, u1⟩, u2, u3⟩
      · have g := b2i_0.mpr (fun u => d1 (l1.mp u))
        rw [if_pos g, if_pos g]
        by_cases d2 : 48 ≤ chv b tl (tkS b tl e) ∧ chv b tl (tkS b tl e) ≤ 57
        · have g := b2i_1.mpr (l2.mpr d2)
          rw [if_neg g, if_neg g]
          obtain ⟨u1, u2, u3⟩ := up 2 (by rw [eK]; unfold kd; rw [if_neg d1, if_pos d2]; rfl)
          exact ⟨⟨y2, u1⟩, u2, u3⟩
        · have g := b2i_0.mpr (fun u => d2 (l2.mp u))
          rw [if_pos g, if_pos g]
          obtain ⟨u1, u2, u3⟩ := up 3 (by rw [eK]; unfold kd; rw [if_neg d1, if_neg d2]; rfl)
          exact ⟨⟨y2, u1⟩, u2, u3⟩
    · have ec : chv b tl (tkS b tl e) = -1 := if_neg c
      have eK : tkK b tl e = 0 := if_neg c
      have g0 : ¬ 0 ≤ iI (chv b tl (tkS b tl e)) := fun u => by have := l0.mp u; omega
      rw [if_neg g0, if_neg g0]
      obtain ⟨u1, u2, u3⟩ := up 0 (by rw [eK]; rfl)
      exact ⟨⟨y2, u1⟩, u2, u3⟩
  obtain ⟨g1, g2, g3⟩ := go
  exact ⟨⟨n2, n3, n4, r2, g1⟩, g2, FL.tr g3⟩
end P94
