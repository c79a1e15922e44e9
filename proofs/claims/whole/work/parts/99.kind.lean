/-! the kind told -/
theorem wdv_k : wdv 6 = 464141 ∧ wdv 7 = 4351291 ∧ wdv 8 = 60284 ∧ wdv 9 = 383153 ∧ wdv 10 = 9454493 ∧ wdv 11 = 11570 := by decide +kernel
section P99
variable {M D : Mm} {b : Nat → Int} {tl e : Nat}
/-- a word in both -/
theorem w_both {i : Nat} {w : Int} {u : Int64} (hi : i < 17) (h5 : i ≠ 5) (hw : wdv i = w) (h0 : 0 ≤ w ∧ w ≤ 282429536481) (hu : u = jI w) (hX : CX M b tl) (he : e ≤ tl) (hk : CTk M b tl e) (hr : RTk D b tl e) : (r_X4_isWord M i = 0) ↔ (b2i (D.1 600 16 = 1 ∧ D.2 600 19 = u) = 0) := by
  have c := c_word hi h5 hX he hk
  have r := r_isW he hr h0
  rw [hw] at c
  rw [hu]
  by_cases d : wordIs M i
  · have g1 : ¬ r_X4_isWord M i = 0 := by rw [r_isWord_t d]; decide
    have g2 := b2i_1.mpr (r.mpr (c.mp d))
    exact ⟨fun x => absurd x g1, fun x => absurd x g2⟩
  · have g1 := r_isWord_f d
    have g2 := b2i_0.mpr (fun x => d (c.mpr (r.mp x)))
    exact ⟨fun _ => g2, fun _ => g1⟩
theorem kind_both (hX : CX M b tl) (he : e ≤ tl) (hk : CTk M b tl e) (hr : RTk D b tl e) : r_X4_kindTold M = r_X8_kindHere D := by
  obtain ⟨v6, v7, v8, v9, v10, v11⟩ := wdv_k
  have w6 := w_both (i := 6) (u := 464141) (by omega) (by omega) v6 (by omega) (by decide) hX he hk hr
  have w7 := w_both (i := 7) (u := 4351291) (by omega) (by omega) v7 (by omega) (by decide) hX he hk hr
  have w8 := w_both (i := 8) (u := 60284) (by omega) (by omega) v8 (by omega) (by decide) hX he hk hr
  have w9 := w_both (i := 9) (u := 383153) (by omega) (by omega) v9 (by omega) (by decide) hX he hk hr
  have w10 := w_both (i := 10) (u := 9454493) (by omega) (by omega) v10 (by omega) (by decide) hX he hk hr
  have w11 := w_both (i := 11) (u := 11570) (by omega) (by omega) v11 (by omega) (by decide) hX he hk hr
  unfold r_X4_kindTold r_X8_kindHere
  by_cases d6 : r_X4_isWord M 6 = 0
  · rw [if_pos d6, if_pos (w6.mp d6)]
    by_cases d7 : r_X4_isWord M 7 = 0
    · rw [if_pos d7, if_pos (w7.mp d7)]
      by_cases d8 : r_X4_isWord M 8 = 0
      · rw [if_pos d8, if_pos (w8.mp d8)]
        by_cases d9 : r_X4_isWord M 9 = 0
        · rw [if_pos d9, if_pos (w9.mp d9)]
          by_cases d10 : r_X4_isWord M 10 = 0
          · rw [if_pos d10, if_pos (w10.mp d10)]
            by_cases d11 : r_X4_isWord M 11 = 0
            · rw [if_pos d11, if_pos (w11.mp d11)]
            · rw [if_neg d11, if_neg (fun x => d11 (w11.mpr x))]
          · rw [if_neg d10, if_neg (fun x => d10 (w10.mpr x))]
        · rw [if_neg d9, if_neg (fun x => d9 (w9.mpr x))]
      · rw [if_neg d8, if_neg (fun x => d8 (w8.mpr x))]
    · rw [if_neg d7, if_neg (fun x => d7 (w7.mpr x))]
  · rw [if_neg d6, if_neg (fun x => d6 (w6.mpr x))]
end P99
