theorem vin_iff {i : Int32} {n : Nat} : vp_in i n ↔ 0 ≤ i ∧ i.toNatClampNeg < n := by
  unfold vp_in
  constructor
  · intro h
    exact ⟨by rw [← Int32.not_lt]; exact fun q => h (Or.inl q), Nat.not_le.mp fun q => h (Or.inr q)⟩
  · intro h q
    rcases q with q | q
    · exact absurd h.1 (by rw [Int32.not_le]; exact q)
    · omega
theorem clamp_int {i : Int32} (h : 0 ≤ i) : (i.toNatClampNeg : Int) = i.toInt := by
  have h0 : (0 : Int) ≤ i.toInt := by simpa using Int32.le_iff_toInt_le.mp h
  show ((i.toInt.toNat : Nat) : Int) = i.toInt
  omega
theorem vin_of {i k : Int32} {n : Nat} (h0 : 0 ≤ i) (h1 : i < k) (h2 : k.toInt ≤ n) : vp_in i n := by
  rw [vin_iff]
  refine ⟨h0, ?_⟩
  have e := clamp_int h0
  have h3 := Int32.lt_iff_toInt_lt.mp h1
  omega
theorem rfW1 {i : Int32} (h : vp_in i 6) : rf 103 i.toNatClampNeg = 110 + i.toNatClampNeg := by
  have key : ∀ k, k < 6 → rf 103 k = 110 + k := by decide +kernel
  exact key _ (vin_iff.mp h).2
theorem gkW1 {i : Int32} (h : vp_in i 6) : gk (110 + i.toNatClampNeg) = 6 := by
  have key : ∀ k, k < 6 → gk (110 + k) = 6 := by decide +kernel
  exact key _ (vin_iff.mp h).2
theorem b2i_0 {p : Prop} [Decidable p] : b2i p = 0 ↔ ¬ p := by unfold b2i; split <;> simp [*]
theorem b2i_1 {p : Prop} [Decidable p] : ¬ b2i p = 0 ↔ p := by unfold b2i; split <;> simp [*]
theorem b2i_t {p : Prop} [Decidable p] (h : p) : b2i p = 1 := by unfold b2i; rw [if_pos h]
theorem b2i_f {p : Prop} [Decidable p] (h : ¬ p) : b2i p = 0 := by unfold b2i; rw [if_neg h]
theorem le_not_lt {a b : Int32} : ¬ a < b ↔ b ≤ a := Int32.not_lt
abbrev cHas (M : Mm) (w : Int32) : Prop := 0 ≤ w ∧ w < M.1 100 2
abbrev cOpen (M : Mm) (s : Nat) (w : Int32) : Prop := cHas M w ∧ M.1 (s + 3) w.toNatClampNeg = 0
abbrev cFree (M : Mm) (s : Nat) (w : Int32) : Prop := cOpen M s w ∧ ¬ cOpen M s (M.1 (110 + w.toNatClampNeg) 6)
theorem leafT {P : Prop} [Decidable P] (h : P) : some (Value.int (b2i P)) = some (Value.int 1) := by rw [b2i_t h]
theorem leafF {P : Prop} [Decidable P] (h : ¬ P) : some (Value.int (b2i P)) = some (Value.int 0) := by rw [b2i_f h]
theorem rnX5_hasWork {d : Nat} {M : Mm} {w : Int32} : Rn d mX5_hasWork [.ref 100, .int w] M (some (.int (b2i (cHas M w)))) M := by
  refine Rn.of [some (.ref 100), some (.int w)] (by decide +kernel) rfl (Nat.le_of_ble_eq_true rfl) rfl (fun J g hr => ?_)
  refine j_iload_n g (i := 1) (by decide +kernel) rfl ?_
  refine j_if_lt g (off := 15) (tgt := 16) (by decide +kernel) (by decide) (fun c1 => ?_) (fun c1 => ?_)
  · skip
    refine j_iconst g (n := 0) (0) (by decide +kernel) rfl ?_
    refine hr.1 _ _ _ _ (by decide +kernel) ⟨_, rfl, ?_⟩ ?_ ?_
    · exact (by decide +kernel)
    · first | exact leafT ⟨Int32.not_lt.mp c1, Int32.not_le.mp c9⟩ | exact leafF (fun h => Int32.not_lt.mpr h.1 c1) | exact leafF (fun h => Int32.not_le.mpr h.2 c9)
    · rfl
  · skip
    refine j_iload_n g (i := 1) (by decide +kernel) rfl ?_
    refine j_aload_n g (i := 0) (by decide +kernel) rfl ?_
    refine j_gI g f5_18 (by decide +kernel) (by decide +kernel) (by decide +kernel) ?_
    refine j_icmp_ge g (off := 7) (tgt := 16) (by decide +kernel) (by decide) (fun c9 => ?_) (fun c9 => ?_)
    · skip
      refine j_iconst g (n := 0) (0) (by decide +kernel) rfl ?_
      refine hr.1 _ _ _ _ (by decide +kernel) ⟨_, rfl, ?_⟩ ?_ ?_
      · exact (by decide +kernel)
      · first | exact leafT ⟨Int32.not_lt.mp c1, Int32.not_le.mp c9⟩ | exact leafF (fun h => Int32.not_lt.mpr h.1 c1) | exact leafF (fun h => Int32.not_le.mpr h.2 c9)
      · rfl
    · skip
      refine j_iconst g (n := 1) (1) (by decide +kernel) rfl ?_
      refine j_goto g (off := 4) (tgt := 17) (by decide +kernel) (by decide) ?_
      refine hr.1 _ _ _ _ (by decide +kernel) ⟨_, rfl, ?_⟩ ?_ ?_
      · exact (by decide +kernel)
      · first | exact leafT ⟨Int32.not_lt.mp c1, Int32.not_le.mp c9⟩ | exact leafF (fun h => Int32.not_lt.mpr h.1 c1) | exact leafF (fun h => Int32.not_le.mpr h.2 c9)
      · rfl
theorem rnX5_hasRule {d : Nat} {M : Mm} {w : Int32} : Rn d mX5_hasRule [.ref 100, .int w] M (some (.int (b2i (0 ≤ w ∧ w < M.1 100 3)))) M := by
  refine Rn.of [some (.ref 100), some (.int w)] (by decide +kernel) rfl (Nat.le_of_ble_eq_true rfl) rfl (fun J g hr => ?_)
  refine j_iload_n g (i := 1) (by decide +kernel) rfl ?_
  refine j_if_lt g (off := 15) (tgt := 16) (by decide +kernel) (by decide) (fun c1 => ?_) (fun c1 => ?_)
  · skip
    refine j_iconst g (n := 0) (0) (by decide +kernel) rfl ?_
    refine hr.1 _ _ _ _ (by decide +kernel) ⟨_, rfl, ?_⟩ ?_ ?_
    · exact (by decide +kernel)
    · first | exact leafT ⟨Int32.not_lt.mp c1, Int32.not_le.mp c9⟩ | exact leafF (fun h => Int32.not_lt.mpr h.1 c1) | exact leafF (fun h => Int32.not_le.mpr h.2 c9)
    · rfl
  · skip
    refine j_iload_n g (i := 1) (by decide +kernel) rfl ?_
    refine j_aload_n g (i := 0) (by decide +kernel) rfl ?_
    refine j_gI g f5_21 (by decide +kernel) (by decide +kernel) (by decide +kernel) ?_
    refine j_icmp_ge g (off := 7) (tgt := 16) (by decide +kernel) (by decide) (fun c9 => ?_) (fun c9 => ?_)
    · skip
      refine j_iconst g (n := 0) (0) (by decide +kernel) rfl ?_
      refine hr.1 _ _ _ _ (by decide +kernel) ⟨_, rfl, ?_⟩ ?_ ?_
      · exact (by decide +kernel)
      · first | exact leafT ⟨Int32.not_lt.mp c1, Int32.not_le.mp c9⟩ | exact leafF (fun h => Int32.not_lt.mpr h.1 c1) | exact leafF (fun h => Int32.not_le.mpr h.2 c9)
      · rfl
    · skip
      refine j_iconst g (n := 1) (1) (by decide +kernel) rfl ?_
      refine j_goto g (off := 4) (tgt := 17) (by decide +kernel) (by decide) ?_
      refine hr.1 _ _ _ _ (by decide +kernel) ⟨_, rfl, ?_⟩ ?_ ?_
      · exact (by decide +kernel)
      · first | exact leafT ⟨Int32.not_lt.mp c1, Int32.not_le.mp c9⟩ | exact leafF (fun h => Int32.not_lt.mpr h.1 c1) | exact leafF (fun h => Int32.not_le.mpr h.2 c9)
      · rfl
theorem rnX5_isOpen {d : Nat} {M : Mm} {s : Nat} {w : Int32} (hT : (M.1 100 2).toInt ≤ 6) (hs : isS s) : Rn (d + 1) mX5_isOpen [.ref 100, .ref s, .int w] M (some (.int (b2i (cOpen M s w)))) M := by
  obtain ⟨⟨g0, g1, g2, g3, g4⟩, ⟨l1, l2, l3, l4⟩, r0, r1, r2, r3⟩ := isS_F hs
  refine Rn.of [some (.ref 100), some (.ref s), some (.int w)] (by decide +kernel) rfl (Nat.le_of_ble_eq_true rfl) rfl (fun J g hr => ?_)
  refine j_aload_n g (i := 0) (by decide +kernel) rfl ?_
  refine j_iload_n g (i := 2) (by decide +kernel) rfl ?_
  refine j_cV1r g v5_113 ⟨rfl, by decide⟩ (by decide +kernel) (by decide +kernel) (by decide) (rnX5_hasWork) ?_
  refine j_if_eq g (off := 16) (tgt := 21) (by decide +kernel) (by decide) (fun c5 => ?_) (fun c5 => ?_)
  · skip
    refine j_iconst g (n := 0) (0) (by decide +kernel) rfl ?_
    refine hr.1 _ _ _ _ (by decide +kernel) ⟨_, rfl, ?_⟩ ?_ ?_
    · exact (by decide +kernel)
    · first | exact leafT ⟨b2i_1.mp c5, Decidable.not_not.mp c14⟩ | exact leafF (fun h => b2i_0.mp c5 h.1) | exact leafF (fun h => c14 h.2)
    · rfl
  · skip
    refine j_aload_n g (i := 1) (by decide +kernel) rfl ?_
    refine j_gA g f5_107 (by decide +kernel) (by decide +kernel) (by first | assumption | omega | simp only [*]) (by assumption) ?_
    refine j_iload_n g (i := 2) (by decide +kernel) rfl ?_
    refine j_ia g 6 (by decide +kernel) (by first | assumption | omega | simp only [*]) (by first | assumption | omega | simp only [*]) (vin_of (b2i_1.mp c5).1 (b2i_1.mp c5).2 hT) ?_
    refine j_if_ne g (off := 7) (tgt := 21) (by decide +kernel) (by decide) (fun c14 => ?_) (fun c14 => ?_)
    · skip
      refine j_iconst g (n := 0) (0) (by decide +kernel) rfl ?_
      refine hr.1 _ _ _ _ (by decide +kernel) ⟨_, rfl, ?_⟩ ?_ ?_
      · exact (by decide +kernel)
      · first | exact leafT ⟨b2i_1.mp c5, Decidable.not_not.mp c14⟩ | exact leafF (fun h => b2i_0.mp c5 h.1) | exact leafF (fun h => c14 h.2)
      · rfl
    · skip
      refine j_iconst g (n := 1) (1) (by decide +kernel) rfl ?_
      refine j_goto g (off := 4) (tgt := 22) (by decide +kernel) (by decide) ?_
      refine hr.1 _ _ _ _ (by decide +kernel) ⟨_, rfl, ?_⟩ ?_ ?_
      · exact (by decide +kernel)
      · first | exact leafT ⟨b2i_1.mp c5, Decidable.not_not.mp c14⟩ | exact leafF (fun h => b2i_0.mp c5 h.1) | exact leafF (fun h => c14 h.2)
      · rfl
theorem rnX5_isFree {d : Nat} {M : Mm} {s : Nat} {w : Int32} (hT : (M.1 100 2).toInt ≤ 6) (hs : isS s) : Rn (d + 2) mX5_isFree [.ref 100, .ref s, .int w] M (some (.int (b2i (cFree M s w)))) M := by
  refine Rn.of [some (.ref 100), some (.ref s), some (.int w)] (by decide +kernel) rfl (Nat.le_of_ble_eq_true rfl) rfl (fun J g hr => ?_)
  refine j_aload_n g (i := 0) (by decide +kernel) rfl ?_
  refine j_aload_n g (i := 1) (by decide +kernel) rfl ?_
  refine j_iload_n g (i := 2) (by decide +kernel) rfl ?_
  refine j_cV2r g v5_117 ⟨rfl, by decide⟩ (by decide +kernel) (by decide +kernel) (by decide) (rnX5_isOpen hT hs) ?_
  refine j_if_eq g (off := 24) (tgt := 30) (by decide +kernel) (by decide) (fun c6 => ?_) (fun c6 => ?_)
  · skip
    refine j_iconst g (n := 0) (0) (by decide +kernel) rfl ?_
    refine hr.1 _ _ _ _ (by decide +kernel) ⟨_, rfl, ?_⟩ ?_ ?_
    · exact (by decide +kernel)
    · first | exact leafT ⟨b2i_1.mp c6, b2i_0.mp (Decidable.not_not.mp c23)⟩ | exact leafF (fun h => b2i_0.mp c6 h.1) | exact leafF (fun h => h.2 (b2i_1.mp c23))
    · rfl
  · skip
    refine j_aload_n g (i := 0) (by decide +kernel) rfl ?_
    refine j_aload_n g (i := 1) (by decide +kernel) rfl ?_
    refine j_aload_n g (i := 0) (by decide +kernel) rfl ?_
    refine j_gA g (b := 103) f5_33 (by decide +kernel) (by decide +kernel) (by decide +kernel) (by decide +kernel) ?_
    refine j_iload_n g (i := 2) (by decide +kernel) rfl ?_
    refine j_aW g 6 (by decide +kernel) (by decide +kernel) (by decide +kernel) (vin_of (b2i_1.mp c6).1.1 (b2i_1.mp c6).1.2 hT) (rfW1 (vin_of (b2i_1.mp c6).1.1 (b2i_1.mp c6).1.2 hT)) ?_
    refine j_gI g f5_101 (by decide +kernel) (by decide +kernel) (gkW1 (vin_of (b2i_1.mp c6).1.1 (b2i_1.mp c6).1.2 hT)) ?_
    refine j_cV2r g v5_117 ⟨rfl, by decide⟩ (by decide +kernel) (by decide +kernel) (by decide) (rnX5_isOpen hT hs) ?_
    refine j_if_ne g (off := 7) (tgt := 30) (by decide +kernel) (by decide) (fun c23 => ?_) (fun c23 => ?_)
    · skip
      refine j_iconst g (n := 0) (0) (by decide +kernel) rfl ?_
      refine hr.1 _ _ _ _ (by decide +kernel) ⟨_, rfl, ?_⟩ ?_ ?_
      · exact (by decide +kernel)
      · first | exact leafT ⟨b2i_1.mp c6, b2i_0.mp (Decidable.not_not.mp c23)⟩ | exact leafF (fun h => b2i_0.mp c6 h.1) | exact leafF (fun h => h.2 (b2i_1.mp c23))
      · rfl
    · skip
      refine j_iconst g (n := 1) (1) (by decide +kernel) rfl ?_
      refine j_goto g (off := 4) (tgt := 31) (by decide +kernel) (by decide) ?_
      refine hr.1 _ _ _ _ (by decide +kernel) ⟨_, rfl, ?_⟩ ?_ ?_
      · exact (by decide +kernel)
      · first | exact leafT ⟨b2i_1.mp c6, b2i_0.mp (Decidable.not_not.mp c23)⟩ | exact leafF (fun h => b2i_0.mp c6 h.1) | exact leafF (fun h => h.2 (b2i_1.mp c23))
      · rfl
