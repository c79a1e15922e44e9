theorem b2i_congr {p q : Prop} [Decidable p] [Decidable q] (h : p ↔ q) : b2i p = b2i q := by
  unfold b2i
  by_cases hp : p
  · rw [if_pos hp, if_pos (h.mp hp)]
  · rw [if_neg hp, if_neg (fun z => hp (h.mpr z))]
theorem rnX8_isWord9 {d : Nat} {M : Mm} {w : Int64} : Rn d mX8_isWord [.ref 600, .long w] M (some (.int (b2i (M.1 600 16 = 1 ∧ M.2 600 19 = w)))) M := by
  refine Rn.of [some (.ref 600), some (.long w), none] (by decide +kernel) rfl (Nat.le_of_ble_eq_true rfl) rfl (fun J g hr => ?_)
  refine j_aload_n g (i := 0) (by decide +kernel) rfl ?_
  refine j_gI g f8_125 (by decide +kernel) (by decide +kernel) (by decide +kernel) ?_
  refine j_iconst g (n := 1) (1) (by decide +kernel) rfl ?_
  refine j_icmp_ne g (off := 16) (tgt := 21) (by decide +kernel) (by decide) (fun c5 => ?_) (fun c5 => ?_)
  · skip
    refine j_iconst g (n := 0) (0) (by decide +kernel) rfl ?_
    refine hr.1 _ _ _ _ (by decide +kernel) ⟨_, rfl, ?_⟩ ?_ ?_
    · exact (by decide +kernel)
    · first | exact leafT ⟨Decidable.not_not.mp c5, (lg_cmp_eq _ _).mp (Decidable.not_not.mp c14)⟩ | exact leafF (fun h => c5 h.1) | exact leafF (fun h => c14 ((lg_cmp_eq _ _).mpr h.2))
    · rfl
  · skip
    refine j_aload_n g (i := 0) (by decide +kernel) rfl ?_
    refine j_gJ g f8_128 (by decide +kernel) (by decide +kernel) (by decide +kernel) ?_
    refine j_lload_n g (i := 1) (by decide +kernel) rfl ?_
    refine j_lcmp g (by decide +kernel) ?_
    refine j_if_ne g (off := 7) (tgt := 21) (by decide +kernel) (by decide) (fun c14 => ?_) (fun c14 => ?_)
    · skip
      refine j_iconst g (n := 0) (0) (by decide +kernel) rfl ?_
      refine hr.1 _ _ _ _ (by decide +kernel) ⟨_, rfl, ?_⟩ ?_ ?_
      · exact (by decide +kernel)
      · first | exact leafT ⟨Decidable.not_not.mp c5, (lg_cmp_eq _ _).mp (Decidable.not_not.mp c14)⟩ | exact leafF (fun h => c5 h.1) | exact leafF (fun h => c14 ((lg_cmp_eq _ _).mpr h.2))
      · rfl
    · skip
      refine j_iconst g (n := 1) (1) (by decide +kernel) rfl ?_
      refine j_goto g (off := 4) (tgt := 22) (by decide +kernel) (by decide) ?_
      refine hr.1 _ _ _ _ (by decide +kernel) ⟨_, rfl, ?_⟩ ?_ ?_
      · exact (by decide +kernel)
      · first | exact leafT ⟨Decidable.not_not.mp c5, (lg_cmp_eq _ _).mp (Decidable.not_not.mp c14)⟩ | exact leafF (fun h => c5 h.1) | exact leafF (fun h => c14 ((lg_cmp_eq _ _).mpr h.2))
      · rfl
theorem rnX8_isMoved9 {d : Nat} {M : Mm} {a k : Int32} : Rn (d + 1) mX8_isMoved [.ref 600, .int a, .int k] M (some (.int (b2i ((a = 0 ∧ 0 ≤ k ∧ k ≤ M.1 600 0 - 1) ∨ (a = 1 ∧ 0 ≤ k ∧ k ≤ M.1 600 1 - 1))))) M := by
  refine Rn.of [some (.ref 600), some (.int a), some (.int k)] (by decide +kernel) rfl (Nat.le_of_ble_eq_true rfl) rfl (fun J g hr => ?_)
  refine j_iload_n g (i := 1) (by decide +kernel) rfl ?_
  refine j_if_ne g (off := 17) (tgt := 18) (by decide +kernel) (by decide) (fun c1 => ?_) (fun c1 => ?_)
  · skip
    refine j_iload_n g (i := 1) (by decide +kernel) rfl ?_
    refine j_iconst g (n := 1) (1) (by decide +kernel) rfl ?_
    refine j_icmp_ne g (off := 21) (tgt := 41) (by decide +kernel) (by decide) (fun c20 => ?_) (fun c20 => ?_)
    · skip
      refine j_iconst g (n := 0) (0) (by decide +kernel) rfl ?_
      refine hr.1 _ _ _ _ (by decide +kernel) ⟨_, rfl, ?_⟩ ?_ ?_
      · exact (by first | exact b2i_nar | decide +kernel)
      · first | exact leafT (Or.inr ⟨Decidable.not_not.mp c20, b2i_1.mp c34⟩) | exact leafF (fun h => by rcases h with h | h; exact c1 h.1; exact c20 h.1) | exact leafF (fun h => by rcases h with h | h; exact c1 h.1; exact b2i_0.mp c34 h.2) | exact congrArg (fun z => some (Value.int z)) (b2i_congr ⟨fun h => by rcases h with h | h; exact h.2; exact absurd (h.1.symm.trans (Decidable.not_not.mp c1)) (by decide), fun h => Or.inl ⟨Decidable.not_not.mp c1, h⟩⟩)
      · rfl
    · skip
      refine j_iload_n g (i := 2) (by decide +kernel) rfl ?_
      refine j_iconst g (n := 0) (0) (by decide +kernel) rfl ?_
      refine j_aload_n g (i := 0) (by decide +kernel) rfl ?_
      refine j_gI g f8_228 (by decide +kernel) (by decide +kernel) (by decide +kernel) ?_
      refine j_iconst g (n := 1) (1) (by decide +kernel) rfl ?_
      refine j_isub g (by decide +kernel) ?_
      refine j_cS3r g s8_95 (by decide +kernel) (Nat.le_of_ble_eq_true rfl) (rnX8_in) ?_
      refine j_if_eq g (off := 7) (tgt := 41) (by decide +kernel) (by decide) (fun c34 => ?_) (fun c34 => ?_)
      · skip
        refine j_iconst g (n := 0) (0) (by decide +kernel) rfl ?_
        refine hr.1 _ _ _ _ (by decide +kernel) ⟨_, rfl, ?_⟩ ?_ ?_
        · exact (by first | exact b2i_nar | decide +kernel)
        · first | exact leafT (Or.inr ⟨Decidable.not_not.mp c20, b2i_1.mp c34⟩) | exact leafF (fun h => by rcases h with h | h; exact c1 h.1; exact c20 h.1) | exact leafF (fun h => by rcases h with h | h; exact c1 h.1; exact b2i_0.mp c34 h.2) | exact congrArg (fun z => some (Value.int z)) (b2i_congr ⟨fun h => by rcases h with h | h; exact h.2; exact absurd (h.1.symm.trans (Decidable.not_not.mp c1)) (by decide), fun h => Or.inl ⟨Decidable.not_not.mp c1, h⟩⟩)
        · rfl
      · skip
        refine j_iconst g (n := 1) (1) (by decide +kernel) rfl ?_
        refine j_goto g (off := 4) (tgt := 42) (by decide +kernel) (by decide) ?_
        refine hr.1 _ _ _ _ (by decide +kernel) ⟨_, rfl, ?_⟩ ?_ ?_
        · exact (by first | exact b2i_nar | decide +kernel)
        · first | exact leafT (Or.inr ⟨Decidable.not_not.mp c20, b2i_1.mp c34⟩) | exact leafF (fun h => by rcases h with h | h; exact c1 h.1; exact c20 h.1) | exact leafF (fun h => by rcases h with h | h; exact c1 h.1; exact b2i_0.mp c34 h.2) | exact congrArg (fun z => some (Value.int z)) (b2i_congr ⟨fun h => by rcases h with h | h; exact h.2; exact absurd (h.1.symm.trans (Decidable.not_not.mp c1)) (by decide), fun h => Or.inl ⟨Decidable.not_not.mp c1, h⟩⟩)
        · rfl
  · skip
    refine j_iload_n g (i := 2) (by decide +kernel) rfl ?_
    refine j_iconst g (n := 0) (0) (by decide +kernel) rfl ?_
    refine j_aload_n g (i := 0) (by decide +kernel) rfl ?_
    refine j_gI g f8_225 (by decide +kernel) (by decide +kernel) (by decide +kernel) ?_
    refine j_iconst g (n := 1) (1) (by decide +kernel) rfl ?_
    refine j_isub g (by decide +kernel) ?_
    refine j_cS3r g s8_95 (by decide +kernel) (Nat.le_of_ble_eq_true rfl) (rnX8_in) ?_
    refine j_goto g (off := 27) (tgt := 42) (by decide +kernel) (by decide) ?_
    refine hr.1 _ _ _ _ (by decide +kernel) ⟨_, rfl, ?_⟩ ?_ ?_
    · exact (by first | exact b2i_nar | decide +kernel)
    · first | exact leafT (Or.inr ⟨Decidable.not_not.mp c20, b2i_1.mp c34⟩) | exact leafF (fun h => by rcases h with h | h; exact c1 h.1; exact c20 h.1) | exact leafF (fun h => by rcases h with h | h; exact c1 h.1; exact b2i_0.mp c34 h.2) | exact congrArg (fun z => some (Value.int z)) (b2i_congr ⟨fun h => by rcases h with h | h; exact h.2; exact absurd (h.1.symm.trans (Decidable.not_not.mp c1)) (by decide), fun h => Or.inl ⟨Decidable.not_not.mp c1, h⟩⟩)
    · rfl
