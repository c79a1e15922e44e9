def itN {α : Type} (f : Nat → α → α) (a : α) : Nat → α
  | 0 => a
  | n + 1 => f n (itN f a n)
theorem ex22 : ∃ n : Nat, n = 22 := ⟨22, rfl⟩
theorem ex40 : ∃ n : Nat, n = 40 := ⟨40, rfl⟩
/-- 22 and 40 as numbers that nobody counts out -/
noncomputable def n22 : Nat := Classical.choose ex22
noncomputable def n40 : Nat := Classical.choose ex40
theorem n22_eq : n22 = 22 := Classical.choose_spec ex22
theorem n40_eq : n40 = 40 := Classical.choose_spec ex40
/-- how many of the first B rounds go on -/
noncomputable def cntN (P : Nat → Prop) : Nat → Nat
  | 0 => 0
  | B + 1 => @ite Nat (∀ k, k ≤ cntN P B → P k) (Classical.propDecidable _) (cntN P B + 1) (cntN P B)
def c_X5_freeOnes_4 (M : Mm) (s : Nat) (σ : Int32 × Int32) : Prop := if (M.1 100 2) ≤ σ.2 then False else True
theorem ci_X5_freeOnes_4 {M : Mm} {s : Nat}  {σ : Int32 × Int32} : c_X5_freeOnes_4 M s σ ↔ (if (M.1 100 2) ≤ σ.2 then False else True) := Iff.rfl
noncomputable def s_X5_freeOnes_4 (M : Mm) (s : Nat) (σ : Int32 × Int32) : Int32 × Int32 := if (M.1 100 2) ≤ σ.2 then σ else if (b2i (cFree M s σ.2)) = 0 then (σ.1, σ.2 + 1) else (σ.1 ||| ((1 : Int32) <<< (σ.2 &&& 31)), σ.2 + 1)
def q_X5_freeOnes_4 (M : Mm) (s : Nat) (σ : Int32 × Int32) : Prop := (if (M.1 100 2) ≤ σ.2 then True else ((M.1 100 2).toInt ≤ 6) ∧ (if (b2i (cFree M s σ.2)) = 0 then True else True))
noncomputable def l_X5_freeOnes_4 (M : Mm) (s : Nat) (σ0 : Int32 × Int32) : Nat → Int32 × Int32 := itN (fun _ σ => s_X5_freeOnes_4 M s σ) σ0
theorem ps_X5_freeOnes_4 {d : Nat} {J : Nat → Lc → List Value → Mm → Prop} {M : Mm} {s : Nat}  {σ : Int32 × Int32} (hs : isS s) (g : Good mX5_freeOnes.1 mX5_freeOnes.2.2.1 mX5_freeOnes.2.2.2.1 (d + 3) J) (hc : c_X5_freeOnes_4 M s σ) (hp : q_X5_freeOnes_4 M s σ) (k : J 4 [some (.ref 100), some (.ref s), some (.int ((s_X5_freeOnes_4 M s σ).1)), some (.int ((s_X5_freeOnes_4 M s σ).2))] [] M) : J 4 [some (.ref 100), some (.ref s), some (.int σ.1), some (.int σ.2)] [] M := by
  unfold c_X5_freeOnes_4 at hc
  unfold q_X5_freeOnes_4 at hp
  unfold s_X5_freeOnes_4 at k
  refine j_iload_n g (i := 3) (by decide +kernel) rfl ?_
  refine j_aload_n g (i := 0) (by decide +kernel) rfl ?_
  refine j_gI g f5_18 (by decide +kernel) (by decide +kernel) (by decide +kernel) ?_
  refine j_icmp_ge g (off := 24) (tgt := 33) (by decide +kernel) (by decide) (fun c9 => ?_) (fun c9 => ?_)
  · (try rw [if_pos (show (M.1 100 2) ≤ σ.2 from c9)] at hc); (rw [if_pos (show (M.1 100 2) ≤ σ.2 from c9)] at hp); (try simp only [if_pos (show (M.1 100 2) ≤ σ.2 from c9)] at k)
    exact hc.elim
  · (try rw [if_neg (show ¬ ((M.1 100 2) ≤ σ.2) from c9)] at hc); (rw [if_neg (show ¬ ((M.1 100 2) ≤ σ.2) from c9)] at hp); (try simp only [if_neg (show ¬ ((M.1 100 2) ≤ σ.2) from c9)] at k)
    refine j_aload_n g (i := 0) (by decide +kernel) rfl ?_
    refine j_aload_n g (i := 1) (by decide +kernel) rfl ?_
    refine j_iload_n g (i := 3) (by decide +kernel) rfl ?_
    obtain ⟨h0, hp⟩ := hp
    refine j_cV2r g v5_121 ⟨rfl, by decide⟩ (by decide +kernel) (by decide +kernel) (Nat.le_of_ble_eq_true rfl) (rnX5_isFree h0 (by first | exact hs | (simp [isS]; done))) ?_
    refine j_if_eq g (off := 9) (tgt := 27) (by decide +kernel) (by decide) (fun c18 => ?_) (fun c18 => ?_)
    · (try rw [if_pos (show (b2i (cFree M s σ.2)) = 0 from c18)] at hc); (rw [if_pos (show (b2i (cFree M s σ.2)) = 0 from c18)] at hp); (try simp only [if_pos (show (b2i (cFree M s σ.2)) = 0 from c18)] at k)
      refine j_iinc g (i := 3) (n := 1) (1) (by decide +kernel) rfl (by decide) rfl ?_
      dsimp only [stL, clL, hdL]
      refine j_goto g (off := -26) (tgt := 4) (by decide +kernel) (by decide) ?_
      exact k 
    · (try rw [if_neg (show ¬ ((b2i (cFree M s σ.2)) = 0) from c18)] at hc); (rw [if_neg (show ¬ ((b2i (cFree M s σ.2)) = 0) from c18)] at hp); (try simp only [if_neg (show ¬ ((b2i (cFree M s σ.2)) = 0) from c18)] at k)
      refine j_iload_n g (i := 2) (by decide +kernel) rfl ?_
      refine j_iconst g (n := 1) (1) (by decide +kernel) rfl ?_
      refine j_iload_n g (i := 3) (by decide +kernel) rfl ?_
      refine j_ishl g (by decide +kernel) ?_
      refine j_ior g (by decide +kernel) ?_
      refine j_istore_n g (i := 2) (by decide +kernel) (by decide) ?_
      dsimp only [stL, clL, hdL]
      refine j_iinc g (i := 3) (n := 1) (1) (by decide +kernel) rfl (by decide) rfl ?_
      dsimp only [stL, clL, hdL]
      refine j_goto g (off := -26) (tgt := 4) (by decide +kernel) (by decide) ?_
      exact k 
theorem sh_X5_freeOnes_4 {d : Nat} {J : Nat → Lc → List Value → Mm → Prop} {M : Mm} {s : Nat}  {σ0 : Int32 × Int32} (hs : isS s) (g : Good mX5_freeOnes.1 mX5_freeOnes.2.2.1 mX5_freeOnes.2.2.2.1 (d + 3) J) : ∀ (N : Nat), (∀ k, k < N → c_X5_freeOnes_4 M s (l_X5_freeOnes_4 M s σ0 k)) → (∀ k, k < N → q_X5_freeOnes_4 M s (l_X5_freeOnes_4 M s σ0 k)) → (J 4 [some (.ref 100), some (.ref s), some (.int ((l_X5_freeOnes_4 M s σ0 N).1)), some (.int ((l_X5_freeOnes_4 M s σ0 N).2))] [] M) → J 4 [some (.ref 100), some (.ref s), some (.int σ0.1), some (.int σ0.2)] [] M
  | 0, _, _, k => k
  | N + 1, hc, hp, k => sh_X5_freeOnes_4 hs g N (fun i hi => hc i (Nat.lt_succ_of_lt hi)) (fun i hi => hp i (Nat.lt_succ_of_lt hi)) (ps_X5_freeOnes_4 hs g (hc N (Nat.lt_succ_self N)) (hp N (Nat.lt_succ_self N)) k)
noncomputable def r_X5_freeOnes (M : Mm) (s : Nat) : Int32 := if (M.1 100 2) ≤ ((l_X5_freeOnes_4 M s (0, 0) (Int32.toNatClampNeg (M.1 100 2))).2) then (l_X5_freeOnes_4 M s (0, 0) (Int32.toNatClampNeg (M.1 100 2))).1 else 0
def p_X5_freeOnes (M : Mm) (s : Nat) : Prop := (∀ k, k < (Int32.toNatClampNeg (M.1 100 2)) → c_X5_freeOnes_4 M s (l_X5_freeOnes_4 M s (0, 0) k)) ∧ (∀ k, k < (Int32.toNatClampNeg (M.1 100 2)) → q_X5_freeOnes_4 M s (l_X5_freeOnes_4 M s (0, 0) k)) ∧ (¬ c_X5_freeOnes_4 M s (l_X5_freeOnes_4 M s (0, 0) (Int32.toNatClampNeg (M.1 100 2)))) ∧ (if (M.1 100 2) ≤ ((l_X5_freeOnes_4 M s (0, 0) (Int32.toNatClampNeg (M.1 100 2))).2) then True else ((M.1 100 2).toInt ≤ 6) ∧ (if (b2i (cFree M s ((l_X5_freeOnes_4 M s (0, 0) (Int32.toNatClampNeg (M.1 100 2))).2))) = 0 then True else True))
theorem rnX5_freeOnes {d : Nat} {M : Mm} {s : Nat} (hs : isS s) (hp : p_X5_freeOnes M s) : Rn (d + 3) mX5_freeOnes [.ref 100, .ref s] M (some (.int (r_X5_freeOnes M s))) M := by
  refine Rn.of [some (.ref 100), some (.ref s), none, none] (by decide +kernel) rfl (Nat.le_of_ble_eq_true rfl) rfl (fun J g hr => ?_)
  unfold p_X5_freeOnes at hp
  refine j_iconst g (n := 0) (0) (by decide +kernel) rfl ?_
  refine j_istore_n g (i := 2) (by decide +kernel) (by decide) ?_
  dsimp only [stL, clL, hdL]
  refine j_iconst g (n := 0) (0) (by decide +kernel) rfl ?_
  refine j_istore_n g (i := 3) (by decide +kernel) (by decide) ?_
  dsimp only [stL, clL, hdL]
  obtain ⟨h0, hp⟩ := hp
  have hc_4_1 := h0
  obtain ⟨h0, hp⟩ := hp
  have hq_4_1 := h0
  obtain ⟨h0, hp⟩ := hp
  have hx_4_1 := h0
  refine sh_X5_freeOnes_4  hs g (σ0 := (0, 0)) (Int32.toNatClampNeg (M.1 100 2)) hc_4_1 hq_4_1 ?_ 
  refine j_iload_n g (i := 3) (by decide +kernel) rfl ?_
  refine j_aload_n g (i := 0) (by decide +kernel) rfl ?_
  refine j_gI g f5_18 (by decide +kernel) (by decide +kernel) (by decide +kernel) ?_
  refine j_icmp_ge g (off := 24) (tgt := 33) (by decide +kernel) (by decide) (fun c9 => ?_) (fun c9 => ?_)
  · rw [if_pos (show (M.1 100 2) ≤ ((l_X5_freeOnes_4 M s (0, 0) (Int32.toNatClampNeg (M.1 100 2))).2) from c9)] at hp
    refine j_iload_n g (i := 2) (by decide +kernel) rfl ?_
    refine hr.1 _ _ _ _ (by decide +kernel) ⟨_, rfl, by first | rfl | exact b2i_nar | decide +kernel⟩ ?_ ?_
    · unfold r_X5_freeOnes; first | (simp only [if_pos (show (M.1 100 2) ≤ ((l_X5_freeOnes_4 M s (0, 0) (Int32.toNatClampNeg (M.1 100 2))).2) from c9)]; done) | (simp only [if_pos (show (M.1 100 2) ≤ ((l_X5_freeOnes_4 M s (0, 0) (Int32.toNatClampNeg (M.1 100 2))).2) from c9)]; rfl) | rfl
    · rfl
  · rw [if_neg (show ¬ ((M.1 100 2) ≤ ((l_X5_freeOnes_4 M s (0, 0) (Int32.toNatClampNeg (M.1 100 2))).2)) from c9)] at hp
    refine j_aload_n g (i := 0) (by decide +kernel) rfl ?_
    refine j_aload_n g (i := 1) (by decide +kernel) rfl ?_
    refine j_iload_n g (i := 3) (by decide +kernel) rfl ?_
    obtain ⟨h0, hp⟩ := hp
    refine j_cV2r g v5_121 ⟨rfl, by decide⟩ (by decide +kernel) (by decide +kernel) (Nat.le_of_ble_eq_true rfl) (rnX5_isFree h0 (by first | exact hs | (simp [isS]; done))) ?_
    refine j_if_eq g (off := 9) (tgt := 27) (by decide +kernel) (by decide) (fun c18 => ?_) (fun c18 => ?_)
    · rw [if_pos (show (b2i (cFree M s ((l_X5_freeOnes_4 M s (0, 0) (Int32.toNatClampNeg (M.1 100 2))).2))) = 0 from c18)] at hp
      refine j_iinc g (i := 3) (n := 1) (1) (by decide +kernel) rfl (by decide) rfl ?_
      dsimp only [stL, clL, hdL]
      refine j_goto g (off := -26) (tgt := 4) (by decide +kernel) (by decide) ?_
      refine absurd (ci_X5_freeOnes_4.mpr ?_) hx_4_1
      simp only [if_neg (show ¬ ((M.1 100 2) ≤ ((l_X5_freeOnes_4 M s (0, 0) (Int32.toNatClampNeg (M.1 100 2))).2)) from c9), if_pos (show (b2i (cFree M s ((l_X5_freeOnes_4 M s (0, 0) (Int32.toNatClampNeg (M.1 100 2))).2))) = 0 from c18)]
    · rw [if_neg (show ¬ ((b2i (cFree M s ((l_X5_freeOnes_4 M s (0, 0) (Int32.toNatClampNeg (M.1 100 2))).2))) = 0) from c18)] at hp
      refine j_iload_n g (i := 2) (by decide +kernel) rfl ?_
      refine j_iconst g (n := 1) (1) (by decide +kernel) rfl ?_
      refine j_iload_n g (i := 3) (by decide +kernel) rfl ?_
      refine j_ishl g (by decide +kernel) ?_
      refine j_ior g (by decide +kernel) ?_
      refine j_istore_n g (i := 2) (by decide +kernel) (by decide) ?_
      dsimp only [stL, clL, hdL]
      refine j_iinc g (i := 3) (n := 1) (1) (by decide +kernel) rfl (by decide) rfl ?_
      dsimp only [stL, clL, hdL]
      refine j_goto g (off := -26) (tgt := 4) (by decide +kernel) (by decide) ?_
      refine absurd (ci_X5_freeOnes_4.mpr ?_) hx_4_1
      simp only [if_neg (show ¬ ((M.1 100 2) ≤ ((l_X5_freeOnes_4 M s (0, 0) (Int32.toNatClampNeg (M.1 100 2))).2)) from c9), if_neg (show ¬ ((b2i (cFree M s ((l_X5_freeOnes_4 M s (0, 0) (Int32.toNatClampNeg (M.1 100 2))).2))) = 0) from c18)]
def c_X5_openOnes_4 (M : Mm) (s : Nat) (σ : Int32 × Int32) : Prop := if (M.1 100 2) ≤ σ.2 then False else True
theorem ci_X5_openOnes_4 {M : Mm} {s : Nat}  {σ : Int32 × Int32} : c_X5_openOnes_4 M s σ ↔ (if (M.1 100 2) ≤ σ.2 then False else True) := Iff.rfl
noncomputable def s_X5_openOnes_4 (M : Mm) (s : Nat) (σ : Int32 × Int32) : Int32 × Int32 := if (M.1 100 2) ≤ σ.2 then σ else if (b2i (cOpen M s σ.2)) = 0 then (σ.1, σ.2 + 1) else (σ.1 + 1, σ.2 + 1)
def q_X5_openOnes_4 (M : Mm) (s : Nat) (σ : Int32 × Int32) : Prop := (if (M.1 100 2) ≤ σ.2 then True else ((M.1 100 2).toInt ≤ 6) ∧ (if (b2i (cOpen M s σ.2)) = 0 then True else True))
noncomputable def l_X5_openOnes_4 (M : Mm) (s : Nat) (σ0 : Int32 × Int32) : Nat → Int32 × Int32 := itN (fun _ σ => s_X5_openOnes_4 M s σ) σ0
theorem ps_X5_openOnes_4 {d : Nat} {J : Nat → Lc → List Value → Mm → Prop} {M : Mm} {s : Nat}  {σ : Int32 × Int32} (hs : isS s) (g : Good mX5_openOnes.1 mX5_openOnes.2.2.1 mX5_openOnes.2.2.2.1 (d + 2) J) (hc : c_X5_openOnes_4 M s σ) (hp : q_X5_openOnes_4 M s σ) (k : J 4 [some (.ref 100), some (.ref s), some (.int ((s_X5_openOnes_4 M s σ).1)), some (.int ((s_X5_openOnes_4 M s σ).2))] [] M) : J 4 [some (.ref 100), some (.ref s), some (.int σ.1), some (.int σ.2)] [] M := by
  unfold c_X5_openOnes_4 at hc
  unfold q_X5_openOnes_4 at hp
  unfold s_X5_openOnes_4 at k
  refine j_iload_n g (i := 3) (by decide +kernel) rfl ?_
  refine j_aload_n g (i := 0) (by decide +kernel) rfl ?_
  refine j_gI g f5_18 (by decide +kernel) (by decide +kernel) (by decide +kernel) ?_
  refine j_icmp_ge g (off := 21) (tgt := 30) (by decide +kernel) (by decide) (fun c9 => ?_) (fun c9 => ?_)
  · (try rw [if_pos (show (M.1 100 2) ≤ σ.2 from c9)] at hc); (rw [if_pos (show (M.1 100 2) ≤ σ.2 from c9)] at hp); (try simp only [if_pos (show (M.1 100 2) ≤ σ.2 from c9)] at k)
    exact hc.elim
  · (try rw [if_neg (show ¬ ((M.1 100 2) ≤ σ.2) from c9)] at hc); (rw [if_neg (show ¬ ((M.1 100 2) ≤ σ.2) from c9)] at hp); (try simp only [if_neg (show ¬ ((M.1 100 2) ≤ σ.2) from c9)] at k)
    refine j_aload_n g (i := 0) (by decide +kernel) rfl ?_
    refine j_aload_n g (i := 1) (by decide +kernel) rfl ?_
    refine j_iload_n g (i := 3) (by decide +kernel) rfl ?_
    obtain ⟨h0, hp⟩ := hp
    refine j_cV2r g v5_117 ⟨rfl, by decide⟩ (by decide +kernel) (by decide +kernel) (Nat.le_of_ble_eq_true rfl) (rnX5_isOpen h0 (by first | exact hs | (simp [isS]; done))) ?_
    refine j_if_eq g (off := 6) (tgt := 24) (by decide +kernel) (by decide) (fun c18 => ?_) (fun c18 => ?_)
    · (try rw [if_pos (show (b2i (cOpen M s σ.2)) = 0 from c18)] at hc); (rw [if_pos (show (b2i (cOpen M s σ.2)) = 0 from c18)] at hp); (try simp only [if_pos (show (b2i (cOpen M s σ.2)) = 0 from c18)] at k)
      refine j_iinc g (i := 3) (n := 1) (1) (by decide +kernel) rfl (by decide) rfl ?_
      dsimp only [stL, clL, hdL]
      refine j_goto g (off := -23) (tgt := 4) (by decide +kernel) (by decide) ?_
      exact k 
    · (try rw [if_neg (show ¬ ((b2i (cOpen M s σ.2)) = 0) from c18)] at hc); (rw [if_neg (show ¬ ((b2i (cOpen M s σ.2)) = 0) from c18)] at hp); (try simp only [if_neg (show ¬ ((b2i (cOpen M s σ.2)) = 0) from c18)] at k)
      refine j_iinc g (i := 2) (n := 1) (1) (by decide +kernel) rfl (by decide) rfl ?_
      dsimp only [stL, clL, hdL]
      refine j_iinc g (i := 3) (n := 1) (1) (by decide +kernel) rfl (by decide) rfl ?_
      dsimp only [stL, clL, hdL]
      refine j_goto g (off := -23) (tgt := 4) (by decide +kernel) (by decide) ?_
      exact k 
theorem sh_X5_openOnes_4 {d : Nat} {J : Nat → Lc → List Value → Mm → Prop} {M : Mm} {s : Nat}  {σ0 : Int32 × Int32} (hs : isS s) (g : Good mX5_openOnes.1 mX5_openOnes.2.2.1 mX5_openOnes.2.2.2.1 (d + 2) J) : ∀ (N : Nat), (∀ k, k < N → c_X5_openOnes_4 M s (l_X5_openOnes_4 M s σ0 k)) → (∀ k, k < N → q_X5_openOnes_4 M s (l_X5_openOnes_4 M s σ0 k)) → (J 4 [some (.ref 100), some (.ref s), some (.int ((l_X5_openOnes_4 M s σ0 N).1)), some (.int ((l_X5_openOnes_4 M s σ0 N).2))] [] M) → J 4 [some (.ref 100), some (.ref s), some (.int σ0.1), some (.int σ0.2)] [] M
  | 0, _, _, k => k
  | N + 1, hc, hp, k => sh_X5_openOnes_4 hs g N (fun i hi => hc i (Nat.lt_succ_of_lt hi)) (fun i hi => hp i (Nat.lt_succ_of_lt hi)) (ps_X5_openOnes_4 hs g (hc N (Nat.lt_succ_self N)) (hp N (Nat.lt_succ_self N)) k)
noncomputable def r_X5_openOnes (M : Mm) (s : Nat) : Int32 := if (M.1 100 2) ≤ ((l_X5_openOnes_4 M s (0, 0) (Int32.toNatClampNeg (M.1 100 2))).2) then (l_X5_openOnes_4 M s (0, 0) (Int32.toNatClampNeg (M.1 100 2))).1 else 0
def p_X5_openOnes (M : Mm) (s : Nat) : Prop := (∀ k, k < (Int32.toNatClampNeg (M.1 100 2)) → c_X5_openOnes_4 M s (l_X5_openOnes_4 M s (0, 0) k)) ∧ (∀ k, k < (Int32.toNatClampNeg (M.1 100 2)) → q_X5_openOnes_4 M s (l_X5_openOnes_4 M s (0, 0) k)) ∧ (¬ c_X5_openOnes_4 M s (l_X5_openOnes_4 M s (0, 0) (Int32.toNatClampNeg (M.1 100 2)))) ∧ (if (M.1 100 2) ≤ ((l_X5_openOnes_4 M s (0, 0) (Int32.toNatClampNeg (M.1 100 2))).2) then True else ((M.1 100 2).toInt ≤ 6) ∧ (if (b2i (cOpen M s ((l_X5_openOnes_4 M s (0, 0) (Int32.toNatClampNeg (M.1 100 2))).2))) = 0 then True else True))
theorem rnX5_openOnes {d : Nat} {M : Mm} {s : Nat} (hs : isS s) (hp : p_X5_openOnes M s) : Rn (d + 2) mX5_openOnes [.ref 100, .ref s] M (some (.int (r_X5_openOnes M s))) M := by
  refine Rn.of [some (.ref 100), some (.ref s), none, none] (by decide +kernel) rfl (Nat.le_of_ble_eq_true rfl) rfl (fun J g hr => ?_)
  unfold p_X5_openOnes at hp
  refine j_iconst g (n := 0) (0) (by decide +kernel) rfl ?_
  refine j_istore_n g (i := 2) (by decide +kernel) (by decide) ?_
  dsimp only [stL, clL, hdL]
  refine j_iconst g (n := 0) (0) (by decide +kernel) rfl ?_
  refine j_istore_n g (i := 3) (by decide +kernel) (by decide) ?_
  dsimp only [stL, clL, hdL]
  obtain ⟨h0, hp⟩ := hp
  have hc_4_1 := h0
  obtain ⟨h0, hp⟩ := hp
  have hq_4_1 := h0
  obtain ⟨h0, hp⟩ := hp
  have hx_4_1 := h0
  refine sh_X5_openOnes_4  hs g (σ0 := (0, 0)) (Int32.toNatClampNeg (M.1 100 2)) hc_4_1 hq_4_1 ?_ 
  refine j_iload_n g (i := 3) (by decide +kernel) rfl ?_
  refine j_aload_n g (i := 0) (by decide +kernel) rfl ?_
  refine j_gI g f5_18 (by decide +kernel) (by decide +kernel) (by decide +kernel) ?_
  refine j_icmp_ge g (off := 21) (tgt := 30) (by decide +kernel) (by decide) (fun c9 => ?_) (fun c9 => ?_)
  · rw [if_pos (show (M.1 100 2) ≤ ((l_X5_openOnes_4 M s (0, 0) (Int32.toNatClampNeg (M.1 100 2))).2) from c9)] at hp
    refine j_iload_n g (i := 2) (by decide +kernel) rfl ?_
    refine hr.1 _ _ _ _ (by decide +kernel) ⟨_, rfl, by first | rfl | exact b2i_nar | decide +kernel⟩ ?_ ?_
    · unfold r_X5_openOnes; first | (simp only [if_pos (show (M.1 100 2) ≤ ((l_X5_openOnes_4 M s (0, 0) (Int32.toNatClampNeg (M.1 100 2))).2) from c9)]; done) | (simp only [if_pos (show (M.1 100 2) ≤ ((l_X5_openOnes_4 M s (0, 0) (Int32.toNatClampNeg (M.1 100 2))).2) from c9)]; rfl) | rfl
    · rfl
  · rw [if_neg (show ¬ ((M.1 100 2) ≤ ((l_X5_openOnes_4 M s (0, 0) (Int32.toNatClampNeg (M.1 100 2))).2)) from c9)] at hp
    refine j_aload_n g (i := 0) (by decide +kernel) rfl ?_
    refine j_aload_n g (i := 1) (by decide +kernel) rfl ?_
    refine j_iload_n g (i := 3) (by decide +kernel) rfl ?_
    obtain ⟨h0, hp⟩ := hp
    refine j_cV2r g v5_117 ⟨rfl, by decide⟩ (by decide +kernel) (by decide +kernel) (Nat.le_of_ble_eq_true rfl) (rnX5_isOpen h0 (by first | exact hs | (simp [isS]; done))) ?_
    refine j_if_eq g (off := 6) (tgt := 24) (by decide +kernel) (by decide) (fun c18 => ?_) (fun c18 => ?_)
    · rw [if_pos (show (b2i (cOpen M s ((l_X5_openOnes_4 M s (0, 0) (Int32.toNatClampNeg (M.1 100 2))).2))) = 0 from c18)] at hp
      refine j_iinc g (i := 3) (n := 1) (1) (by decide +kernel) rfl (by decide) rfl ?_
      dsimp only [stL, clL, hdL]
      refine j_goto g (off := -23) (tgt := 4) (by decide +kernel) (by decide) ?_
      refine absurd (ci_X5_openOnes_4.mpr ?_) hx_4_1
      simp only [if_neg (show ¬ ((M.1 100 2) ≤ ((l_X5_openOnes_4 M s (0, 0) (Int32.toNatClampNeg (M.1 100 2))).2)) from c9), if_pos (show (b2i (cOpen M s ((l_X5_openOnes_4 M s (0, 0) (Int32.toNatClampNeg (M.1 100 2))).2))) = 0 from c18)]
    · rw [if_neg (show ¬ ((b2i (cOpen M s ((l_X5_openOnes_4 M s (0, 0) (Int32.toNatClampNeg (M.1 100 2))).2))) = 0) from c18)] at hp
      refine j_iinc g (i := 2) (n := 1) (1) (by decide +kernel) rfl (by decide) rfl ?_
      dsimp only [stL, clL, hdL]
      refine j_iinc g (i := 3) (n := 1) (1) (by decide +kernel) rfl (by decide) rfl ?_
      dsimp only [stL, clL, hdL]
      refine j_goto g (off := -23) (tgt := 4) (by decide +kernel) (by decide) ?_
      refine absurd (ci_X5_openOnes_4.mpr ?_) hx_4_1
      simp only [if_neg (show ¬ ((M.1 100 2) ≤ ((l_X5_openOnes_4 M s (0, 0) (Int32.toNatClampNeg (M.1 100 2))).2)) from c9), if_neg (show ¬ ((b2i (cOpen M s ((l_X5_openOnes_4 M s (0, 0) (Int32.toNatClampNeg (M.1 100 2))).2))) = 0) from c18)]
def c_X5_thingsBeside_5 (M : Mm) (s : Nat) (a2 : Int32) (σ : Int32 × Int32) : Prop := if (M.1 100 1) ≤ σ.2 then False else True
theorem ci_X5_thingsBeside_5 {M : Mm} {s : Nat} {a2 : Int32}  {σ : Int32 × Int32} : c_X5_thingsBeside_5 M s a2 σ ↔ (if (M.1 100 1) ≤ σ.2 then False else True) := Iff.rfl
noncomputable def s_X5_thingsBeside_5 (M : Mm) (s : Nat) (a2 : Int32) (σ : Int32 × Int32) : Int32 × Int32 := if (M.1 100 1) ≤ σ.2 then σ else if σ.2 = a2 then (σ.1, σ.2 + 1) else if ¬ (M.1 (s + 2) (Int32.toNatClampNeg σ.2)) = (M.1 (s + 2) (Int32.toNatClampNeg a2)) then (σ.1, σ.2 + 1) else (σ.1 + 1, σ.2 + 1)
def q_X5_thingsBeside_5 (M : Mm) (s : Nat) (a2 : Int32) (σ : Int32 × Int32) : Prop := (if (M.1 100 1) ≤ σ.2 then True else (if σ.2 = a2 then True else (vp_in σ.2 6) ∧ (vp_in a2 6) ∧ (if ¬ (M.1 (s + 2) (Int32.toNatClampNeg σ.2)) = (M.1 (s + 2) (Int32.toNatClampNeg a2)) then True else True)))
noncomputable def l_X5_thingsBeside_5 (M : Mm) (s : Nat) (a2 : Int32) (σ0 : Int32 × Int32) : Nat → Int32 × Int32 := itN (fun _ σ => s_X5_thingsBeside_5 M s a2 σ) σ0
theorem ps_X5_thingsBeside_5 {d : Nat} {J : Nat → Lc → List Value → Mm → Prop} {M : Mm} {s : Nat} {a2 : Int32}  {σ : Int32 × Int32} (hs : isS s) (g : Good mX5_thingsBeside.1 mX5_thingsBeside.2.2.1 mX5_thingsBeside.2.2.2.1 (d + 0) J) (hc : c_X5_thingsBeside_5 M s a2 σ) (hp : q_X5_thingsBeside_5 M s a2 σ) (k : J 5 [some (.ref 100), some (.ref s), some (.int a2), some (.int ((s_X5_thingsBeside_5 M s a2 σ).1)), some (.int ((s_X5_thingsBeside_5 M s a2 σ).2))] [] M) : J 5 [some (.ref 100), some (.ref s), some (.int a2), some (.int σ.1), some (.int σ.2)] [] M := by
  unfold c_X5_thingsBeside_5 at hc
  unfold q_X5_thingsBeside_5 at hp
  unfold s_X5_thingsBeside_5 at k
  refine j_iload g (i := 4) (by decide +kernel) rfl ?_
  refine j_aload_n g (i := 0) (by decide +kernel) rfl ?_
  refine j_gI g f5_15 (by decide +kernel) (by decide +kernel) (by decide +kernel) ?_
  refine j_icmp_ge g (off := 34) (tgt := 45) (by decide +kernel) (by decide) (fun c11 => ?_) (fun c11 => ?_)
  · (try rw [if_pos (show (M.1 100 1) ≤ σ.2 from c11)] at hc); (rw [if_pos (show (M.1 100 1) ≤ σ.2 from c11)] at hp); (try simp only [if_pos (show (M.1 100 1) ≤ σ.2 from c11)] at k)
    exact hc.elim
  · (try rw [if_neg (show ¬ ((M.1 100 1) ≤ σ.2) from c11)] at hc); (rw [if_neg (show ¬ ((M.1 100 1) ≤ σ.2) from c11)] at hp); (try simp only [if_neg (show ¬ ((M.1 100 1) ≤ σ.2) from c11)] at k)
    refine j_iload g (i := 4) (by decide +kernel) rfl ?_
    refine j_iload_n g (i := 2) (by decide +kernel) rfl ?_
    refine j_icmp_eq g (off := 22) (tgt := 39) (by decide +kernel) (by decide) (fun c17 => ?_) (fun c17 => ?_)
    · (try rw [if_pos (show σ.2 = a2 from c17)] at hc); (rw [if_pos (show σ.2 = a2 from c17)] at hp); (try simp only [if_pos (show σ.2 = a2 from c17)] at k)
      refine j_iinc g (i := 4) (n := 1) (1) (by decide +kernel) rfl (by decide) rfl ?_
      dsimp only [stL, clL, hdL]
      refine j_goto g (off := -37) (tgt := 5) (by decide +kernel) (by decide) ?_
      exact k 
    · (try rw [if_neg (show ¬ (σ.2 = a2) from c17)] at hc); (rw [if_neg (show ¬ (σ.2 = a2) from c17)] at hp); (try simp only [if_neg (show ¬ (σ.2 = a2) from c17)] at k)
      refine j_aload_n g (i := 1) (by decide +kernel) rfl ?_
      refine j_gA g f5_80 (by decide +kernel) (by decide +kernel) (isS_F hs).1.1 (isS_F hs).2.2.2.1 ?_
      refine j_iload g (i := 4) (by decide +kernel) rfl ?_
      obtain ⟨h0, hp⟩ := hp
      refine j_ia g 6 (by decide +kernel) (isS_F hs).1.2.2.1 (isS_F hs).2.1.2.1 h0 ?_
      refine j_aload_n g (i := 1) (by decide +kernel) rfl ?_
      refine j_gA g f5_80 (by decide +kernel) (by decide +kernel) (isS_F hs).1.1 (isS_F hs).2.2.2.1 ?_
      refine j_iload_n g (i := 2) (by decide +kernel) rfl ?_
      obtain ⟨h0, hp⟩ := hp
      refine j_ia g 6 (by decide +kernel) (isS_F hs).1.2.2.1 (isS_F hs).2.1.2.1 h0 ?_
      refine j_icmp_ne g (off := 6) (tgt := 39) (by decide +kernel) (by decide) (fun c33 => ?_) (fun c33 => ?_)
      · (try rw [if_pos (show ¬ (M.1 (s + 2) (Int32.toNatClampNeg σ.2)) = (M.1 (s + 2) (Int32.toNatClampNeg a2)) from c33)] at hc); (rw [if_pos (show ¬ (M.1 (s + 2) (Int32.toNatClampNeg σ.2)) = (M.1 (s + 2) (Int32.toNatClampNeg a2)) from c33)] at hp); (try simp only [if_pos (show ¬ (M.1 (s + 2) (Int32.toNatClampNeg σ.2)) = (M.1 (s + 2) (Int32.toNatClampNeg a2)) from c33)] at k)
        refine j_iinc g (i := 4) (n := 1) (1) (by decide +kernel) rfl (by decide) rfl ?_
        dsimp only [stL, clL, hdL]
        refine j_goto g (off := -37) (tgt := 5) (by decide +kernel) (by decide) ?_
        exact k 
      · (try rw [if_neg (show ¬ (¬ (M.1 (s + 2) (Int32.toNatClampNeg σ.2)) = (M.1 (s + 2) (Int32.toNatClampNeg a2))) from c33)] at hc); (rw [if_neg (show ¬ (¬ (M.1 (s + 2) (Int32.toNatClampNeg σ.2)) = (M.1 (s + 2) (Int32.toNatClampNeg a2))) from c33)] at hp); (try simp only [if_neg (show ¬ (¬ (M.1 (s + 2) (Int32.toNatClampNeg σ.2)) = (M.1 (s + 2) (Int32.toNatClampNeg a2))) from c33)] at k)
        refine j_iinc g (i := 3) (n := 1) (1) (by decide +kernel) rfl (by decide) rfl ?_
        dsimp only [stL, clL, hdL]
        refine j_iinc g (i := 4) (n := 1) (1) (by decide +kernel) rfl (by decide) rfl ?_
        dsimp only [stL, clL, hdL]
        refine j_goto g (off := -37) (tgt := 5) (by decide +kernel) (by decide) ?_
        exact k 
theorem sh_X5_thingsBeside_5 {d : Nat} {J : Nat → Lc → List Value → Mm → Prop} {M : Mm} {s : Nat} {a2 : Int32}  {σ0 : Int32 × Int32} (hs : isS s) (g : Good mX5_thingsBeside.1 mX5_thingsBeside.2.2.1 mX5_thingsBeside.2.2.2.1 (d + 0) J) : ∀ (N : Nat), (∀ k, k < N → c_X5_thingsBeside_5 M s a2 (l_X5_thingsBeside_5 M s a2 σ0 k)) → (∀ k, k < N → q_X5_thingsBeside_5 M s a2 (l_X5_thingsBeside_5 M s a2 σ0 k)) → (J 5 [some (.ref 100), some (.ref s), some (.int a2), some (.int ((l_X5_thingsBeside_5 M s a2 σ0 N).1)), some (.int ((l_X5_thingsBeside_5 M s a2 σ0 N).2))] [] M) → J 5 [some (.ref 100), some (.ref s), some (.int a2), some (.int σ0.1), some (.int σ0.2)] [] M
  | 0, _, _, k => k
  | N + 1, hc, hp, k => sh_X5_thingsBeside_5 hs g N (fun i hi => hc i (Nat.lt_succ_of_lt hi)) (fun i hi => hp i (Nat.lt_succ_of_lt hi)) (ps_X5_thingsBeside_5 hs g (hc N (Nat.lt_succ_self N)) (hp N (Nat.lt_succ_self N)) k)
noncomputable def r_X5_thingsBeside (M : Mm) (s : Nat) (a2 : Int32) : Int32 := if (M.1 100 1) ≤ ((l_X5_thingsBeside_5 M s a2 (0, 0) (Int32.toNatClampNeg (M.1 100 1))).2) then (l_X5_thingsBeside_5 M s a2 (0, 0) (Int32.toNatClampNeg (M.1 100 1))).1 else 0
def p_X5_thingsBeside (M : Mm) (s : Nat) (a2 : Int32) : Prop := (∀ k, k < (Int32.toNatClampNeg (M.1 100 1)) → c_X5_thingsBeside_5 M s a2 (l_X5_thingsBeside_5 M s a2 (0, 0) k)) ∧ (∀ k, k < (Int32.toNatClampNeg (M.1 100 1)) → q_X5_thingsBeside_5 M s a2 (l_X5_thingsBeside_5 M s a2 (0, 0) k)) ∧ (¬ c_X5_thingsBeside_5 M s a2 (l_X5_thingsBeside_5 M s a2 (0, 0) (Int32.toNatClampNeg (M.1 100 1)))) ∧ (if (M.1 100 1) ≤ ((l_X5_thingsBeside_5 M s a2 (0, 0) (Int32.toNatClampNeg (M.1 100 1))).2) then True else (if ((l_X5_thingsBeside_5 M s a2 (0, 0) (Int32.toNatClampNeg (M.1 100 1))).2) = a2 then True else (vp_in ((l_X5_thingsBeside_5 M s a2 (0, 0) (Int32.toNatClampNeg (M.1 100 1))).2) 6) ∧ (vp_in a2 6) ∧ (if ¬ (M.1 (s + 2) (Int32.toNatClampNeg ((l_X5_thingsBeside_5 M s a2 (0, 0) (Int32.toNatClampNeg (M.1 100 1))).2))) = (M.1 (s + 2) (Int32.toNatClampNeg a2)) then True else True)))
theorem rnX5_thingsBeside {d : Nat} {M : Mm} {s : Nat} {a2 : Int32} (hs : isS s) (hp : p_X5_thingsBeside M s a2) : Rn (d + 0) mX5_thingsBeside [.ref 100, .ref s, .int a2] M (some (.int (r_X5_thingsBeside M s a2))) M := by
  refine Rn.of [some (.ref 100), some (.ref s), some (.int a2), none, none] (by decide +kernel) rfl (Nat.le_of_ble_eq_true rfl) rfl (fun J g hr => ?_)
  unfold p_X5_thingsBeside at hp
  refine j_iconst g (n := 0) (0) (by decide +kernel) rfl ?_
  refine j_istore_n g (i := 3) (by decide +kernel) (by decide) ?_
  dsimp only [stL, clL, hdL]
  refine j_iconst g (n := 0) (0) (by decide +kernel) rfl ?_
  refine j_istore g (i := 4) (by decide +kernel) (by decide) ?_
  dsimp only [stL, clL, hdL]
  obtain ⟨h0, hp⟩ := hp
  have hc_5_1 := h0
  obtain ⟨h0, hp⟩ := hp
  have hq_5_1 := h0
  obtain ⟨h0, hp⟩ := hp
  have hx_5_1 := h0
  refine sh_X5_thingsBeside_5  hs g (σ0 := (0, 0)) (Int32.toNatClampNeg (M.1 100 1)) hc_5_1 hq_5_1 ?_ 
  refine j_iload g (i := 4) (by decide +kernel) rfl ?_
  refine j_aload_n g (i := 0) (by decide +kernel) rfl ?_
  refine j_gI g f5_15 (by decide +kernel) (by decide +kernel) (by decide +kernel) ?_
  refine j_icmp_ge g (off := 34) (tgt := 45) (by decide +kernel) (by decide) (fun c11 => ?_) (fun c11 => ?_)
  · rw [if_pos (show (M.1 100 1) ≤ ((l_X5_thingsBeside_5 M s a2 (0, 0) (Int32.toNatClampNeg (M.1 100 1))).2) from c11)] at hp
    refine j_iload_n g (i := 3) (by decide +kernel) rfl ?_
    refine hr.1 _ _ _ _ (by decide +kernel) ⟨_, rfl, by first | rfl | exact b2i_nar | decide +kernel⟩ ?_ ?_
    · unfold r_X5_thingsBeside; first | (simp only [if_pos (show (M.1 100 1) ≤ ((l_X5_thingsBeside_5 M s a2 (0, 0) (Int32.toNatClampNeg (M.1 100 1))).2) from c11)]; done) | (simp only [if_pos (show (M.1 100 1) ≤ ((l_X5_thingsBeside_5 M s a2 (0, 0) (Int32.toNatClampNeg (M.1 100 1))).2) from c11)]; rfl) | rfl
    · rfl
  · rw [if_neg (show ¬ ((M.1 100 1) ≤ ((l_X5_thingsBeside_5 M s a2 (0, 0) (Int32.toNatClampNeg (M.1 100 1))).2)) from c11)] at hp
    refine j_iload g (i := 4) (by decide +kernel) rfl ?_
    refine j_iload_n g (i := 2) (by decide +kernel) rfl ?_
    refine j_icmp_eq g (off := 22) (tgt := 39) (by decide +kernel) (by decide) (fun c17 => ?_) (fun c17 => ?_)
    · rw [if_pos (show ((l_X5_thingsBeside_5 M s a2 (0, 0) (Int32.toNatClampNeg (M.1 100 1))).2) = a2 from c17)] at hp
      refine j_iinc g (i := 4) (n := 1) (1) (by decide +kernel) rfl (by decide) rfl ?_
      dsimp only [stL, clL, hdL]
      refine j_goto g (off := -37) (tgt := 5) (by decide +kernel) (by decide) ?_
      refine absurd (ci_X5_thingsBeside_5.mpr ?_) hx_5_1
      simp only [if_neg (show ¬ ((M.1 100 1) ≤ ((l_X5_thingsBeside_5 M s a2 (0, 0) (Int32.toNatClampNeg (M.1 100 1))).2)) from c11), if_pos (show ((l_X5_thingsBeside_5 M s a2 (0, 0) (Int32.toNatClampNeg (M.1 100 1))).2) = a2 from c17)]
    · rw [if_neg (show ¬ (((l_X5_thingsBeside_5 M s a2 (0, 0) (Int32.toNatClampNeg (M.1 100 1))).2) = a2) from c17)] at hp
      refine j_aload_n g (i := 1) (by decide +kernel) rfl ?_
      refine j_gA g f5_80 (by decide +kernel) (by decide +kernel) (isS_F hs).1.1 (isS_F hs).2.2.2.1 ?_
      refine j_iload g (i := 4) (by decide +kernel) rfl ?_
      obtain ⟨h0, hp⟩ := hp
      refine j_ia g 6 (by decide +kernel) (isS_F hs).1.2.2.1 (isS_F hs).2.1.2.1 h0 ?_
      refine j_aload_n g (i := 1) (by decide +kernel) rfl ?_
      refine j_gA g f5_80 (by decide +kernel) (by decide +kernel) (isS_F hs).1.1 (isS_F hs).2.2.2.1 ?_
      refine j_iload_n g (i := 2) (by decide +kernel) rfl ?_
      obtain ⟨h0, hp⟩ := hp
      refine j_ia g 6 (by decide +kernel) (isS_F hs).1.2.2.1 (isS_F hs).2.1.2.1 h0 ?_
      refine j_icmp_ne g (off := 6) (tgt := 39) (by decide +kernel) (by decide) (fun c33 => ?_) (fun c33 => ?_)
      · rw [if_pos (show ¬ (M.1 (s + 2) (Int32.toNatClampNeg ((l_X5_thingsBeside_5 M s a2 (0, 0) (Int32.toNatClampNeg (M.1 100 1))).2))) = (M.1 (s + 2) (Int32.toNatClampNeg a2)) from c33)] at hp
        refine j_iinc g (i := 4) (n := 1) (1) (by decide +kernel) rfl (by decide) rfl ?_
        dsimp only [stL, clL, hdL]
        refine j_goto g (off := -37) (tgt := 5) (by decide +kernel) (by decide) ?_
        refine absurd (ci_X5_thingsBeside_5.mpr ?_) hx_5_1
        simp only [if_neg (show ¬ ((M.1 100 1) ≤ ((l_X5_thingsBeside_5 M s a2 (0, 0) (Int32.toNatClampNeg (M.1 100 1))).2)) from c11), if_neg (show ¬ (((l_X5_thingsBeside_5 M s a2 (0, 0) (Int32.toNatClampNeg (M.1 100 1))).2) = a2) from c17), if_pos (show ¬ (M.1 (s + 2) (Int32.toNatClampNeg ((l_X5_thingsBeside_5 M s a2 (0, 0) (Int32.toNatClampNeg (M.1 100 1))).2))) = (M.1 (s + 2) (Int32.toNatClampNeg a2)) from c33)]
      · rw [if_neg (show ¬ (¬ (M.1 (s + 2) (Int32.toNatClampNeg ((l_X5_thingsBeside_5 M s a2 (0, 0) (Int32.toNatClampNeg (M.1 100 1))).2))) = (M.1 (s + 2) (Int32.toNatClampNeg a2))) from c33)] at hp
        refine j_iinc g (i := 3) (n := 1) (1) (by decide +kernel) rfl (by decide) rfl ?_
        dsimp only [stL, clL, hdL]
        refine j_iinc g (i := 4) (n := 1) (1) (by decide +kernel) rfl (by decide) rfl ?_
        dsimp only [stL, clL, hdL]
        refine j_goto g (off := -37) (tgt := 5) (by decide +kernel) (by decide) ?_
        refine absurd (ci_X5_thingsBeside_5.mpr ?_) hx_5_1
        simp only [if_neg (show ¬ ((M.1 100 1) ≤ ((l_X5_thingsBeside_5 M s a2 (0, 0) (Int32.toNatClampNeg (M.1 100 1))).2)) from c11), if_neg (show ¬ (((l_X5_thingsBeside_5 M s a2 (0, 0) (Int32.toNatClampNeg (M.1 100 1))).2) = a2) from c17), if_neg (show ¬ (¬ (M.1 (s + 2) (Int32.toNatClampNeg ((l_X5_thingsBeside_5 M s a2 (0, 0) (Int32.toNatClampNeg (M.1 100 1))).2))) = (M.1 (s + 2) (Int32.toNatClampNeg a2))) from c33)]
def c_X8_maySet_4 (M : Mm)  (σ : Int32 × Int32) : Prop := if (M.1 600 2) ≤ σ.2 then False else True
theorem ci_X8_maySet_4 {M : Mm}   {σ : Int32 × Int32} : c_X8_maySet_4 M  σ ↔ (if (M.1 600 2) ≤ σ.2 then False else True) := Iff.rfl
noncomputable def s_X8_maySet_4 (M : Mm)  (σ : Int32 × Int32) : Int32 × Int32 := if (M.1 600 2) ≤ σ.2 then σ else if (r_X8_isFree M σ.2) = 0 then (σ.1 ||| 0, σ.2 + 1) else (σ.1 ||| ((1 : Int32) <<< (σ.2 &&& 31)), σ.2 + 1)
def q_X8_maySet_4 (M : Mm)  (σ : Int32 × Int32) : Prop := (if (M.1 600 2) ≤ σ.2 then True else (p_X8_isFree M σ.2) ∧ (if (r_X8_isFree M σ.2) = 0 then True else True))
noncomputable def l_X8_maySet_4 (M : Mm)  (σ0 : Int32 × Int32) : Nat → Int32 × Int32 := itN (fun _ σ => s_X8_maySet_4 M  σ) σ0
theorem ps_X8_maySet_4 {d : Nat} {J : Nat → Lc → List Value → Mm → Prop} {M : Mm}   {σ : Int32 × Int32}  (g : Good mX8_maySet.1 mX8_maySet.2.2.1 mX8_maySet.2.2.2.1 (d + 2) J) (hc : c_X8_maySet_4 M  σ) (hp : q_X8_maySet_4 M  σ) (k : J 4 [some (.ref 600), some (.int ((s_X8_maySet_4 M  σ).1)), some (.int ((s_X8_maySet_4 M  σ).2))] [] M) : J 4 [some (.ref 600), some (.int σ.1), some (.int σ.2)] [] M := by
  unfold c_X8_maySet_4 at hc
  unfold q_X8_maySet_4 at hp
  unfold s_X8_maySet_4 at k
  refine j_iload_n g (i := 2) (by decide +kernel) rfl ?_
  refine j_aload_n g (i := 0) (by decide +kernel) rfl ?_
  refine j_gI g f8_99 (by decide +kernel) (by decide +kernel) (by decide +kernel) ?_
  refine j_icmp_ge g (off := 27) (tgt := 36) (by decide +kernel) (by decide) (fun c9 => ?_) (fun c9 => ?_)
  · (try rw [if_pos (show (M.1 600 2) ≤ σ.2 from c9)] at hc); (rw [if_pos (show (M.1 600 2) ≤ σ.2 from c9)] at hp); (try simp only [if_pos (show (M.1 600 2) ≤ σ.2 from c9)] at k)
    exact hc.elim
  · (try rw [if_neg (show ¬ ((M.1 600 2) ≤ σ.2) from c9)] at hc); (rw [if_neg (show ¬ ((M.1 600 2) ≤ σ.2) from c9)] at hp); (try simp only [if_neg (show ¬ ((M.1 600 2) ≤ σ.2) from c9)] at k)
    refine j_iload_n g (i := 1) (by decide +kernel) rfl ?_
    refine j_aload_n g (i := 0) (by decide +kernel) rfl ?_
    refine j_iload_n g (i := 2) (by decide +kernel) rfl ?_
    obtain ⟨h0, hp⟩ := hp
    refine j_cV1r g v8_295 ⟨rfl, by decide⟩ (by decide +kernel) (by decide +kernel) (Nat.le_of_ble_eq_true rfl) (rnX8_isFree h0) ?_
    refine j_if_eq g (off := 9) (tgt := 27) (by decide +kernel) (by decide) (fun c18 => ?_) (fun c18 => ?_)
    · (try rw [if_pos (show (r_X8_isFree M σ.2) = 0 from c18)] at hc); (rw [if_pos (show (r_X8_isFree M σ.2) = 0 from c18)] at hp); (try simp only [if_pos (show (r_X8_isFree M σ.2) = 0 from c18)] at k)
      refine j_iconst g (n := 0) (0) (by decide +kernel) rfl ?_
      refine j_ior g (by decide +kernel) ?_
      refine j_istore_n g (i := 1) (by decide +kernel) (by decide) ?_
      dsimp only [stL, clL, hdL]
      refine j_iinc g (i := 2) (n := 1) (1) (by decide +kernel) rfl (by decide) rfl ?_
      dsimp only [stL, clL, hdL]
      refine j_goto g (off := -29) (tgt := 4) (by decide +kernel) (by decide) ?_
      exact k 
    · (try rw [if_neg (show ¬ ((r_X8_isFree M σ.2) = 0) from c18)] at hc); (rw [if_neg (show ¬ ((r_X8_isFree M σ.2) = 0) from c18)] at hp); (try simp only [if_neg (show ¬ ((r_X8_isFree M σ.2) = 0) from c18)] at k)
      refine j_iconst g (n := 1) (1) (by decide +kernel) rfl ?_
      refine j_iload_n g (i := 2) (by decide +kernel) rfl ?_
      refine j_ishl g (by decide +kernel) ?_
      refine j_goto g (off := 4) (tgt := 28) (by decide +kernel) (by decide) ?_
      refine j_ior g (by decide +kernel) ?_
      refine j_istore_n g (i := 1) (by decide +kernel) (by decide) ?_
      dsimp only [stL, clL, hdL]
      refine j_iinc g (i := 2) (n := 1) (1) (by decide +kernel) rfl (by decide) rfl ?_
      dsimp only [stL, clL, hdL]
      refine j_goto g (off := -29) (tgt := 4) (by decide +kernel) (by decide) ?_
      exact k 
theorem sh_X8_maySet_4 {d : Nat} {J : Nat → Lc → List Value → Mm → Prop} {M : Mm}   {σ0 : Int32 × Int32}  (g : Good mX8_maySet.1 mX8_maySet.2.2.1 mX8_maySet.2.2.2.1 (d + 2) J) : ∀ (N : Nat), (∀ k, k < N → c_X8_maySet_4 M  (l_X8_maySet_4 M  σ0 k)) → (∀ k, k < N → q_X8_maySet_4 M  (l_X8_maySet_4 M  σ0 k)) → (J 4 [some (.ref 600), some (.int ((l_X8_maySet_4 M  σ0 N).1)), some (.int ((l_X8_maySet_4 M  σ0 N).2))] [] M) → J 4 [some (.ref 600), some (.int σ0.1), some (.int σ0.2)] [] M
  | 0, _, _, k => k
  | N + 1, hc, hp, k => sh_X8_maySet_4  g N (fun i hi => hc i (Nat.lt_succ_of_lt hi)) (fun i hi => hp i (Nat.lt_succ_of_lt hi)) (ps_X8_maySet_4  g (hc N (Nat.lt_succ_self N)) (hp N (Nat.lt_succ_self N)) k)
noncomputable def r_X8_maySet (M : Mm)  : Int32 := if (M.1 600 2) ≤ ((l_X8_maySet_4 M (0, 0) (Int32.toNatClampNeg (M.1 600 2))).2) then (l_X8_maySet_4 M (0, 0) (Int32.toNatClampNeg (M.1 600 2))).1 else 0
def p_X8_maySet (M : Mm)  : Prop := (∀ k, k < (Int32.toNatClampNeg (M.1 600 2)) → c_X8_maySet_4 M (l_X8_maySet_4 M (0, 0) k)) ∧ (∀ k, k < (Int32.toNatClampNeg (M.1 600 2)) → q_X8_maySet_4 M (l_X8_maySet_4 M (0, 0) k)) ∧ (¬ c_X8_maySet_4 M (l_X8_maySet_4 M (0, 0) (Int32.toNatClampNeg (M.1 600 2)))) ∧ (if (M.1 600 2) ≤ ((l_X8_maySet_4 M (0, 0) (Int32.toNatClampNeg (M.1 600 2))).2) then True else (p_X8_isFree M ((l_X8_maySet_4 M (0, 0) (Int32.toNatClampNeg (M.1 600 2))).2)) ∧ (if (r_X8_isFree M ((l_X8_maySet_4 M (0, 0) (Int32.toNatClampNeg (M.1 600 2))).2)) = 0 then True else True))
theorem rnX8_maySet {d : Nat} {M : Mm}   (hp : p_X8_maySet M ) : Rn (d + 2) mX8_maySet [.ref 600] M (some (.int (r_X8_maySet M ))) M := by
  refine Rn.of [some (.ref 600), none, none] (by decide +kernel) rfl (Nat.le_of_ble_eq_true rfl) rfl (fun J g hr => ?_)
  unfold p_X8_maySet at hp
  refine j_iconst g (n := 0) (0) (by decide +kernel) rfl ?_
  refine j_istore_n g (i := 1) (by decide +kernel) (by decide) ?_
  dsimp only [stL, clL, hdL]
  refine j_iconst g (n := 0) (0) (by decide +kernel) rfl ?_
  refine j_istore_n g (i := 2) (by decide +kernel) (by decide) ?_
  dsimp only [stL, clL, hdL]
  obtain ⟨h0, hp⟩ := hp
  have hc_4_1 := h0
  obtain ⟨h0, hp⟩ := hp
  have hq_4_1 := h0
  obtain ⟨h0, hp⟩ := hp
  have hx_4_1 := h0
  refine sh_X8_maySet_4   g (σ0 := (0, 0)) (Int32.toNatClampNeg (M.1 600 2)) hc_4_1 hq_4_1 ?_ 
  refine j_iload_n g (i := 2) (by decide +kernel) rfl ?_
  refine j_aload_n g (i := 0) (by decide +kernel) rfl ?_
  refine j_gI g f8_99 (by decide +kernel) (by decide +kernel) (by decide +kernel) ?_
  refine j_icmp_ge g (off := 27) (tgt := 36) (by decide +kernel) (by decide) (fun c9 => ?_) (fun c9 => ?_)
  · rw [if_pos (show (M.1 600 2) ≤ ((l_X8_maySet_4 M (0, 0) (Int32.toNatClampNeg (M.1 600 2))).2) from c9)] at hp
    refine j_iload_n g (i := 1) (by decide +kernel) rfl ?_
    refine hr.1 _ _ _ _ (by decide +kernel) ⟨_, rfl, by first | rfl | exact b2i_nar | decide +kernel⟩ ?_ ?_
    · unfold r_X8_maySet; first | (simp only [if_pos (show (M.1 600 2) ≤ ((l_X8_maySet_4 M (0, 0) (Int32.toNatClampNeg (M.1 600 2))).2) from c9)]; done) | (simp only [if_pos (show (M.1 600 2) ≤ ((l_X8_maySet_4 M (0, 0) (Int32.toNatClampNeg (M.1 600 2))).2) from c9)]; rfl) | rfl
    · rfl
  · rw [if_neg (show ¬ ((M.1 600 2) ≤ ((l_X8_maySet_4 M (0, 0) (Int32.toNatClampNeg (M.1 600 2))).2)) from c9)] at hp
    refine j_iload_n g (i := 1) (by decide +kernel) rfl ?_
    refine j_aload_n g (i := 0) (by decide +kernel) rfl ?_
    refine j_iload_n g (i := 2) (by decide +kernel) rfl ?_
    obtain ⟨h0, hp⟩ := hp
    refine j_cV1r g v8_295 ⟨rfl, by decide⟩ (by decide +kernel) (by decide +kernel) (Nat.le_of_ble_eq_true rfl) (rnX8_isFree h0) ?_
    refine j_if_eq g (off := 9) (tgt := 27) (by decide +kernel) (by decide) (fun c18 => ?_) (fun c18 => ?_)
    · rw [if_pos (show (r_X8_isFree M ((l_X8_maySet_4 M (0, 0) (Int32.toNatClampNeg (M.1 600 2))).2)) = 0 from c18)] at hp
      refine j_iconst g (n := 0) (0) (by decide +kernel) rfl ?_
      refine j_ior g (by decide +kernel) ?_
      refine j_istore_n g (i := 1) (by decide +kernel) (by decide) ?_
      dsimp only [stL, clL, hdL]
      refine j_iinc g (i := 2) (n := 1) (1) (by decide +kernel) rfl (by decide) rfl ?_
      dsimp only [stL, clL, hdL]
      refine j_goto g (off := -29) (tgt := 4) (by decide +kernel) (by decide) ?_
      refine absurd (ci_X8_maySet_4.mpr ?_) hx_4_1
      simp only [if_neg (show ¬ ((M.1 600 2) ≤ ((l_X8_maySet_4 M (0, 0) (Int32.toNatClampNeg (M.1 600 2))).2)) from c9), if_pos (show (r_X8_isFree M ((l_X8_maySet_4 M (0, 0) (Int32.toNatClampNeg (M.1 600 2))).2)) = 0 from c18)]
    · rw [if_neg (show ¬ ((r_X8_isFree M ((l_X8_maySet_4 M (0, 0) (Int32.toNatClampNeg (M.1 600 2))).2)) = 0) from c18)] at hp
      refine j_iconst g (n := 1) (1) (by decide +kernel) rfl ?_
      refine j_iload_n g (i := 2) (by decide +kernel) rfl ?_
      refine j_ishl g (by decide +kernel) ?_
      refine j_goto g (off := 4) (tgt := 28) (by decide +kernel) (by decide) ?_
      refine j_ior g (by decide +kernel) ?_
      refine j_istore_n g (i := 1) (by decide +kernel) (by decide) ?_
      dsimp only [stL, clL, hdL]
      refine j_iinc g (i := 2) (n := 1) (1) (by decide +kernel) rfl (by decide) rfl ?_
      dsimp only [stL, clL, hdL]
      refine j_goto g (off := -29) (tgt := 4) (by decide +kernel) (by decide) ?_
      refine absurd (ci_X8_maySet_4.mpr ?_) hx_4_1
      simp only [if_neg (show ¬ ((M.1 600 2) ≤ ((l_X8_maySet_4 M (0, 0) (Int32.toNatClampNeg (M.1 600 2))).2)) from c9), if_neg (show ¬ ((r_X8_isFree M ((l_X8_maySet_4 M (0, 0) (Int32.toNatClampNeg (M.1 600 2))).2)) = 0) from c18)]
def c_X8_openMany_4 (M : Mm)  (σ : Int32 × Int32) : Prop := if (M.1 600 2) ≤ σ.2 then False else True
theorem ci_X8_openMany_4 {M : Mm}   {σ : Int32 × Int32} : c_X8_openMany_4 M  σ ↔ (if (M.1 600 2) ≤ σ.2 then False else True) := Iff.rfl
noncomputable def s_X8_openMany_4 (M : Mm)  (σ : Int32 × Int32) : Int32 × Int32 := if (M.1 600 2) ≤ σ.2 then σ else if (b2i (M.1 607 (Int32.toNatClampNeg (M.1 600 10 + 9 + σ.2)) = 0)) = 0 then (σ.1 + 0, σ.2 + 1) else (σ.1 + 1, σ.2 + 1)
def q_X8_openMany_4 (M : Mm)  (σ : Int32 × Int32) : Prop := (if (M.1 600 2) ≤ σ.2 then True else (vp_in (M.1 600 10 + 9 + σ.2) 44) ∧ (if (b2i (M.1 607 (Int32.toNatClampNeg (M.1 600 10 + 9 + σ.2)) = 0)) = 0 then True else True))
noncomputable def l_X8_openMany_4 (M : Mm)  (σ0 : Int32 × Int32) : Nat → Int32 × Int32 := itN (fun _ σ => s_X8_openMany_4 M  σ) σ0
theorem ps_X8_openMany_4 {d : Nat} {J : Nat → Lc → List Value → Mm → Prop} {M : Mm}   {σ : Int32 × Int32}  (g : Good mX8_openMany.1 mX8_openMany.2.2.1 mX8_openMany.2.2.2.1 (d + 1) J) (hc : c_X8_openMany_4 M  σ) (hp : q_X8_openMany_4 M  σ) (k : J 4 [some (.ref 600), some (.int ((s_X8_openMany_4 M  σ).1)), some (.int ((s_X8_openMany_4 M  σ).2))] [] M) : J 4 [some (.ref 600), some (.int σ.1), some (.int σ.2)] [] M := by
  unfold c_X8_openMany_4 at hc
  unfold q_X8_openMany_4 at hp
  unfold s_X8_openMany_4 at k
  refine j_iload_n g (i := 2) (by decide +kernel) rfl ?_
  refine j_aload_n g (i := 0) (by decide +kernel) rfl ?_
  refine j_gI g f8_99 (by decide +kernel) (by decide +kernel) (by decide +kernel) ?_
  refine j_icmp_ge g (off := 25) (tgt := 34) (by decide +kernel) (by decide) (fun c9 => ?_) (fun c9 => ?_)
  · (try rw [if_pos (show (M.1 600 2) ≤ σ.2 from c9)] at hc); (rw [if_pos (show (M.1 600 2) ≤ σ.2 from c9)] at hp); (try simp only [if_pos (show (M.1 600 2) ≤ σ.2 from c9)] at k)
    exact hc.elim
  · (try rw [if_neg (show ¬ ((M.1 600 2) ≤ σ.2) from c9)] at hc); (rw [if_neg (show ¬ ((M.1 600 2) ≤ σ.2) from c9)] at hp); (try simp only [if_neg (show ¬ ((M.1 600 2) ≤ σ.2) from c9)] at k)
    refine j_iload_n g (i := 1) (by decide +kernel) rfl ?_
    refine j_aload_n g (i := 0) (by decide +kernel) rfl ?_
    refine j_iload_n g (i := 2) (by decide +kernel) rfl ?_
    obtain ⟨h0, hp⟩ := hp
    refine j_cV1r g v8_246 ⟨rfl, by decide⟩ (by decide +kernel) (by decide +kernel) (Nat.le_of_ble_eq_true rfl) (rnX8_isOpen h0) ?_
    refine j_if_eq g (off := 7) (tgt := 25) (by decide +kernel) (by decide) (fun c18 => ?_) (fun c18 => ?_)
    · (try rw [if_pos (show (b2i (M.1 607 (Int32.toNatClampNeg (M.1 600 10 + 9 + σ.2)) = 0)) = 0 from c18)] at hc); (rw [if_pos (show (b2i (M.1 607 (Int32.toNatClampNeg (M.1 600 10 + 9 + σ.2)) = 0)) = 0 from c18)] at hp); (try simp only [if_pos (show (b2i (M.1 607 (Int32.toNatClampNeg (M.1 600 10 + 9 + σ.2)) = 0)) = 0 from c18)] at k)
      refine j_iconst g (n := 0) (0) (by decide +kernel) rfl ?_
      refine j_iadd g (by decide +kernel) ?_
      refine j_istore_n g (i := 1) (by decide +kernel) (by decide) ?_
      dsimp only [stL, clL, hdL]
      refine j_iinc g (i := 2) (n := 1) (1) (by decide +kernel) rfl (by decide) rfl ?_
      dsimp only [stL, clL, hdL]
      refine j_goto g (off := -27) (tgt := 4) (by decide +kernel) (by decide) ?_
      exact k 
    · (try rw [if_neg (show ¬ ((b2i (M.1 607 (Int32.toNatClampNeg (M.1 600 10 + 9 + σ.2)) = 0)) = 0) from c18)] at hc); (rw [if_neg (show ¬ ((b2i (M.1 607 (Int32.toNatClampNeg (M.1 600 10 + 9 + σ.2)) = 0)) = 0) from c18)] at hp); (try simp only [if_neg (show ¬ ((b2i (M.1 607 (Int32.toNatClampNeg (M.1 600 10 + 9 + σ.2)) = 0)) = 0) from c18)] at k)
      refine j_iconst g (n := 1) (1) (by decide +kernel) rfl ?_
      refine j_goto g (off := 4) (tgt := 26) (by decide +kernel) (by decide) ?_
      refine j_iadd g (by decide +kernel) ?_
      refine j_istore_n g (i := 1) (by decide +kernel) (by decide) ?_
      dsimp only [stL, clL, hdL]
      refine j_iinc g (i := 2) (n := 1) (1) (by decide +kernel) rfl (by decide) rfl ?_
      dsimp only [stL, clL, hdL]
      refine j_goto g (off := -27) (tgt := 4) (by decide +kernel) (by decide) ?_
      exact k 
theorem sh_X8_openMany_4 {d : Nat} {J : Nat → Lc → List Value → Mm → Prop} {M : Mm}   {σ0 : Int32 × Int32}  (g : Good mX8_openMany.1 mX8_openMany.2.2.1 mX8_openMany.2.2.2.1 (d + 1) J) : ∀ (N : Nat), (∀ k, k < N → c_X8_openMany_4 M  (l_X8_openMany_4 M  σ0 k)) → (∀ k, k < N → q_X8_openMany_4 M  (l_X8_openMany_4 M  σ0 k)) → (J 4 [some (.ref 600), some (.int ((l_X8_openMany_4 M  σ0 N).1)), some (.int ((l_X8_openMany_4 M  σ0 N).2))] [] M) → J 4 [some (.ref 600), some (.int σ0.1), some (.int σ0.2)] [] M
  | 0, _, _, k => k
  | N + 1, hc, hp, k => sh_X8_openMany_4  g N (fun i hi => hc i (Nat.lt_succ_of_lt hi)) (fun i hi => hp i (Nat.lt_succ_of_lt hi)) (ps_X8_openMany_4  g (hc N (Nat.lt_succ_self N)) (hp N (Nat.lt_succ_self N)) k)
noncomputable def r_X8_openMany (M : Mm)  : Int32 := if (M.1 600 2) ≤ ((l_X8_openMany_4 M (0, 0) (Int32.toNatClampNeg (M.1 600 2))).2) then (l_X8_openMany_4 M (0, 0) (Int32.toNatClampNeg (M.1 600 2))).1 else 0
def p_X8_openMany (M : Mm)  : Prop := (∀ k, k < (Int32.toNatClampNeg (M.1 600 2)) → c_X8_openMany_4 M (l_X8_openMany_4 M (0, 0) k)) ∧ (∀ k, k < (Int32.toNatClampNeg (M.1 600 2)) → q_X8_openMany_4 M (l_X8_openMany_4 M (0, 0) k)) ∧ (¬ c_X8_openMany_4 M (l_X8_openMany_4 M (0, 0) (Int32.toNatClampNeg (M.1 600 2)))) ∧ (if (M.1 600 2) ≤ ((l_X8_openMany_4 M (0, 0) (Int32.toNatClampNeg (M.1 600 2))).2) then True else (vp_in (M.1 600 10 + 9 + ((l_X8_openMany_4 M (0, 0) (Int32.toNatClampNeg (M.1 600 2))).2)) 44) ∧ (if (b2i (M.1 607 (Int32.toNatClampNeg (M.1 600 10 + 9 + ((l_X8_openMany_4 M (0, 0) (Int32.toNatClampNeg (M.1 600 2))).2))) = 0)) = 0 then True else True))
theorem rnX8_openMany {d : Nat} {M : Mm}   (hp : p_X8_openMany M ) : Rn (d + 1) mX8_openMany [.ref 600] M (some (.int (r_X8_openMany M ))) M := by
  refine Rn.of [some (.ref 600), none, none] (by decide +kernel) rfl (Nat.le_of_ble_eq_true rfl) rfl (fun J g hr => ?_)
  unfold p_X8_openMany at hp
  refine j_iconst g (n := 0) (0) (by decide +kernel) rfl ?_
  refine j_istore_n g (i := 1) (by decide +kernel) (by decide) ?_
  dsimp only [stL, clL, hdL]
  refine j_iconst g (n := 0) (0) (by decide +kernel) rfl ?_
  refine j_istore_n g (i := 2) (by decide +kernel) (by decide) ?_
  dsimp only [stL, clL, hdL]
  obtain ⟨h0, hp⟩ := hp
  have hc_4_1 := h0
  obtain ⟨h0, hp⟩ := hp
  have hq_4_1 := h0
  obtain ⟨h0, hp⟩ := hp
  have hx_4_1 := h0
  refine sh_X8_openMany_4   g (σ0 := (0, 0)) (Int32.toNatClampNeg (M.1 600 2)) hc_4_1 hq_4_1 ?_ 
  refine j_iload_n g (i := 2) (by decide +kernel) rfl ?_
  refine j_aload_n g (i := 0) (by decide +kernel) rfl ?_
  refine j_gI g f8_99 (by decide +kernel) (by decide +kernel) (by decide +kernel) ?_
  refine j_icmp_ge g (off := 25) (tgt := 34) (by decide +kernel) (by decide) (fun c9 => ?_) (fun c9 => ?_)
  · rw [if_pos (show (M.1 600 2) ≤ ((l_X8_openMany_4 M (0, 0) (Int32.toNatClampNeg (M.1 600 2))).2) from c9)] at hp
    refine j_iload_n g (i := 1) (by decide +kernel) rfl ?_
    refine hr.1 _ _ _ _ (by decide +kernel) ⟨_, rfl, by first | rfl | exact b2i_nar | decide +kernel⟩ ?_ ?_
    · unfold r_X8_openMany; first | (simp only [if_pos (show (M.1 600 2) ≤ ((l_X8_openMany_4 M (0, 0) (Int32.toNatClampNeg (M.1 600 2))).2) from c9)]; done) | (simp only [if_pos (show (M.1 600 2) ≤ ((l_X8_openMany_4 M (0, 0) (Int32.toNatClampNeg (M.1 600 2))).2) from c9)]; rfl) | rfl
    · rfl
  · rw [if_neg (show ¬ ((M.1 600 2) ≤ ((l_X8_openMany_4 M (0, 0) (Int32.toNatClampNeg (M.1 600 2))).2)) from c9)] at hp
    refine j_iload_n g (i := 1) (by decide +kernel) rfl ?_
    refine j_aload_n g (i := 0) (by decide +kernel) rfl ?_
    refine j_iload_n g (i := 2) (by decide +kernel) rfl ?_
    obtain ⟨h0, hp⟩ := hp
    refine j_cV1r g v8_246 ⟨rfl, by decide⟩ (by decide +kernel) (by decide +kernel) (Nat.le_of_ble_eq_true rfl) (rnX8_isOpen h0) ?_
    refine j_if_eq g (off := 7) (tgt := 25) (by decide +kernel) (by decide) (fun c18 => ?_) (fun c18 => ?_)
    · rw [if_pos (show (b2i (M.1 607 (Int32.toNatClampNeg (M.1 600 10 + 9 + ((l_X8_openMany_4 M (0, 0) (Int32.toNatClampNeg (M.1 600 2))).2))) = 0)) = 0 from c18)] at hp
      refine j_iconst g (n := 0) (0) (by decide +kernel) rfl ?_
      refine j_iadd g (by decide +kernel) ?_
      refine j_istore_n g (i := 1) (by decide +kernel) (by decide) ?_
      dsimp only [stL, clL, hdL]
      refine j_iinc g (i := 2) (n := 1) (1) (by decide +kernel) rfl (by decide) rfl ?_
      dsimp only [stL, clL, hdL]
      refine j_goto g (off := -27) (tgt := 4) (by decide +kernel) (by decide) ?_
      refine absurd (ci_X8_openMany_4.mpr ?_) hx_4_1
      simp only [if_neg (show ¬ ((M.1 600 2) ≤ ((l_X8_openMany_4 M (0, 0) (Int32.toNatClampNeg (M.1 600 2))).2)) from c9), if_pos (show (b2i (M.1 607 (Int32.toNatClampNeg (M.1 600 10 + 9 + ((l_X8_openMany_4 M (0, 0) (Int32.toNatClampNeg (M.1 600 2))).2))) = 0)) = 0 from c18)]
    · rw [if_neg (show ¬ ((b2i (M.1 607 (Int32.toNatClampNeg (M.1 600 10 + 9 + ((l_X8_openMany_4 M (0, 0) (Int32.toNatClampNeg (M.1 600 2))).2))) = 0)) = 0) from c18)] at hp
      refine j_iconst g (n := 1) (1) (by decide +kernel) rfl ?_
      refine j_goto g (off := 4) (tgt := 26) (by decide +kernel) (by decide) ?_
      refine j_iadd g (by decide +kernel) ?_
      refine j_istore_n g (i := 1) (by decide +kernel) (by decide) ?_
      dsimp only [stL, clL, hdL]
      refine j_iinc g (i := 2) (n := 1) (1) (by decide +kernel) rfl (by decide) rfl ?_
      dsimp only [stL, clL, hdL]
      refine j_goto g (off := -27) (tgt := 4) (by decide +kernel) (by decide) ?_
      refine absurd (ci_X8_openMany_4.mpr ?_) hx_4_1
      simp only [if_neg (show ¬ ((M.1 600 2) ≤ ((l_X8_openMany_4 M (0, 0) (Int32.toNatClampNeg (M.1 600 2))).2)) from c9), if_neg (show ¬ ((b2i (M.1 607 (Int32.toNatClampNeg (M.1 600 10 + 9 + ((l_X8_openMany_4 M (0, 0) (Int32.toNatClampNeg (M.1 600 2))).2))) = 0)) = 0) from c18)]
def c_X8_othersThere_4 (M : Mm) (a1 : Int32) (σ : Int32 × Int32) : Prop := if (M.1 600 1) ≤ σ.2 then False else True
theorem ci_X8_othersThere_4 {M : Mm} {a1 : Int32}  {σ : Int32 × Int32} : c_X8_othersThere_4 M a1 σ ↔ (if (M.1 600 1) ≤ σ.2 then False else True) := Iff.rfl
noncomputable def s_X8_othersThere_4 (M : Mm) (a1 : Int32) (σ : Int32 × Int32) : Int32 × Int32 := if (M.1 600 1) ≤ σ.2 then σ else if σ.2 = (M.1 603 (Int32.toNatClampNeg (8 * a1 + 2))) then (σ.1 + 0, σ.2 + 1) else if ¬ (M.1 607 (Int32.toNatClampNeg (((M.1 600 10) + 3) + σ.2))) = (M.1 607 (Int32.toNatClampNeg (((M.1 600 10) + 3) + (M.1 603 (Int32.toNatClampNeg (8 * a1 + 2)))))) then (σ.1 + 0, σ.2 + 1) else (σ.1 + 1, σ.2 + 1)
def q_X8_othersThere_4 (M : Mm) (a1 : Int32) (σ : Int32 × Int32) : Prop := (if (M.1 600 1) ≤ σ.2 then True else (vp_in (8 * a1 + 2) 48) ∧ (if σ.2 = (M.1 603 (Int32.toNatClampNeg (8 * a1 + 2))) then True else (vp_in (((M.1 600 10) + 3) + σ.2) 44) ∧ (vp_in (8 * a1 + 2) 48) ∧ (vp_in (((M.1 600 10) + 3) + (M.1 603 (Int32.toNatClampNeg (8 * a1 + 2)))) 44) ∧ (if ¬ (M.1 607 (Int32.toNatClampNeg (((M.1 600 10) + 3) + σ.2))) = (M.1 607 (Int32.toNatClampNeg (((M.1 600 10) + 3) + (M.1 603 (Int32.toNatClampNeg (8 * a1 + 2)))))) then True else True)))
noncomputable def l_X8_othersThere_4 (M : Mm) (a1 : Int32) (σ0 : Int32 × Int32) : Nat → Int32 × Int32 := itN (fun _ σ => s_X8_othersThere_4 M a1 σ) σ0
theorem ps_X8_othersThere_4 {d : Nat} {J : Nat → Lc → List Value → Mm → Prop} {M : Mm} {a1 : Int32}  {σ : Int32 × Int32}  (g : Good mX8_othersThere.1 mX8_othersThere.2.2.1 mX8_othersThere.2.2.2.1 (d + 1) J) (hc : c_X8_othersThere_4 M a1 σ) (hp : q_X8_othersThere_4 M a1 σ) (k : J 4 [some (.ref 600), some (.int a1), some (.int ((s_X8_othersThere_4 M a1 σ).1)), some (.int ((s_X8_othersThere_4 M a1 σ).2))] [] M) : J 4 [some (.ref 600), some (.int a1), some (.int σ.1), some (.int σ.2)] [] M := by
  unfold c_X8_othersThere_4 at hc
  unfold q_X8_othersThere_4 at hp
  unfold s_X8_othersThere_4 at k
  refine j_iload_n g (i := 3) (by decide +kernel) rfl ?_
  refine j_aload_n g (i := 0) (by decide +kernel) rfl ?_
  refine j_gI g f8_228 (by decide +kernel) (by decide +kernel) (by decide +kernel) ?_
  refine j_icmp_ge g (off := 61) (tgt := 70) (by decide +kernel) (by decide) (fun c9 => ?_) (fun c9 => ?_)
  · (try rw [if_pos (show (M.1 600 1) ≤ σ.2 from c9)] at hc); (rw [if_pos (show (M.1 600 1) ≤ σ.2 from c9)] at hp); (try simp only [if_pos (show (M.1 600 1) ≤ σ.2 from c9)] at k)
    exact hc.elim
  · (try rw [if_neg (show ¬ ((M.1 600 1) ≤ σ.2) from c9)] at hc); (rw [if_neg (show ¬ ((M.1 600 1) ≤ σ.2) from c9)] at hp); (try simp only [if_neg (show ¬ ((M.1 600 1) ≤ σ.2) from c9)] at k)
    refine j_iload_n g (i := 2) (by decide +kernel) rfl ?_
    refine j_iload_n g (i := 3) (by decide +kernel) rfl ?_
    refine j_aload_n g (i := 0) (by decide +kernel) rfl ?_
    refine j_iload_n g (i := 1) (by decide +kernel) rfl ?_
    refine j_iconst g (n := 2) (2) (by decide +kernel) rfl ?_
    obtain ⟨h0, hp⟩ := hp
    refine j_cV2r g v8_249 ⟨rfl, by decide⟩ (by decide +kernel) (by decide +kernel) (Nat.le_of_ble_eq_true rfl) (rnX8_its h0) ?_
    refine j_icmp_eq g (off := 41) (tgt := 61) (by decide +kernel) (by decide) (fun c20 => ?_) (fun c20 => ?_)
    · (try rw [if_pos (show σ.2 = (M.1 603 (Int32.toNatClampNeg (8 * a1 + 2))) from c20)] at hc); (rw [if_pos (show σ.2 = (M.1 603 (Int32.toNatClampNeg (8 * a1 + 2))) from c20)] at hp); (try simp only [if_pos (show σ.2 = (M.1 603 (Int32.toNatClampNeg (8 * a1 + 2))) from c20)] at k)
      refine j_iconst g (n := 0) (0) (by decide +kernel) rfl ?_
      refine j_iadd g (by decide +kernel) ?_
      refine j_istore_n g (i := 2) (by decide +kernel) (by decide) ?_
      dsimp only [stL, clL, hdL]
      refine j_iinc g (i := 3) (n := 1) (1) (by decide +kernel) rfl (by decide) rfl ?_
      dsimp only [stL, clL, hdL]
      refine j_goto g (off := -63) (tgt := 4) (by decide +kernel) (by decide) ?_
      exact k 
    · (try rw [if_neg (show ¬ (σ.2 = (M.1 603 (Int32.toNatClampNeg (8 * a1 + 2)))) from c20)] at hc); (rw [if_neg (show ¬ (σ.2 = (M.1 603 (Int32.toNatClampNeg (8 * a1 + 2)))) from c20)] at hp); (try simp only [if_neg (show ¬ (σ.2 = (M.1 603 (Int32.toNatClampNeg (8 * a1 + 2)))) from c20)] at k)
      refine j_aload_n g (i := 0) (by decide +kernel) rfl ?_
      refine j_gA g (b := 607) f8_28 (by decide +kernel) (by decide +kernel) (by decide +kernel) (by decide +kernel) ?_
      refine j_aload_n g (i := 0) (by decide +kernel) rfl ?_
      refine j_gI g f8_240 (by decide +kernel) (by decide +kernel) (by decide +kernel) ?_
      refine j_iconst g (n := 3) (3) (by decide +kernel) rfl ?_
      refine j_iadd g (by decide +kernel) ?_
      refine j_iload_n g (i := 3) (by decide +kernel) rfl ?_
      refine j_iadd g (by decide +kernel) ?_
      obtain ⟨h0, hp⟩ := hp
      refine j_ia g 44 (by decide +kernel) (by decide +kernel) (by decide +kernel) h0 ?_
      refine j_aload_n g (i := 0) (by decide +kernel) rfl ?_
      refine j_gA g (b := 607) f8_28 (by decide +kernel) (by decide +kernel) (by decide +kernel) (by decide +kernel) ?_
      refine j_aload_n g (i := 0) (by decide +kernel) rfl ?_
      refine j_gI g f8_240 (by decide +kernel) (by decide +kernel) (by decide +kernel) ?_
      refine j_iconst g (n := 3) (3) (by decide +kernel) rfl ?_
      refine j_iadd g (by decide +kernel) ?_
      refine j_aload_n g (i := 0) (by decide +kernel) rfl ?_
      refine j_iload_n g (i := 1) (by decide +kernel) rfl ?_
      refine j_iconst g (n := 2) (2) (by decide +kernel) rfl ?_
      obtain ⟨h0, hp⟩ := hp
      refine j_cV2r g v8_249 ⟨rfl, by decide⟩ (by decide +kernel) (by decide +kernel) (Nat.le_of_ble_eq_true rfl) (rnX8_its h0) ?_
      refine j_iadd g (by decide +kernel) ?_
      obtain ⟨h0, hp⟩ := hp
      refine j_ia g 44 (by decide +kernel) (by decide +kernel) (by decide +kernel) h0 ?_
      refine j_icmp_ne g (off := 7) (tgt := 61) (by decide +kernel) (by decide) (fun c54 => ?_) (fun c54 => ?_)
      · (try rw [if_pos (show ¬ (M.1 607 (Int32.toNatClampNeg (((M.1 600 10) + 3) + σ.2))) = (M.1 607 (Int32.toNatClampNeg (((M.1 600 10) + 3) + (M.1 603 (Int32.toNatClampNeg (8 * a1 + 2)))))) from c54)] at hc); (rw [if_pos (show ¬ (M.1 607 (Int32.toNatClampNeg (((M.1 600 10) + 3) + σ.2))) = (M.1 607 (Int32.toNatClampNeg (((M.1 600 10) + 3) + (M.1 603 (Int32.toNatClampNeg (8 * a1 + 2)))))) from c54)] at hp); (try simp only [if_pos (show ¬ (M.1 607 (Int32.toNatClampNeg (((M.1 600 10) + 3) + σ.2))) = (M.1 607 (Int32.toNatClampNeg (((M.1 600 10) + 3) + (M.1 603 (Int32.toNatClampNeg (8 * a1 + 2)))))) from c54)] at k)
        refine j_iconst g (n := 0) (0) (by decide +kernel) rfl ?_
        refine j_iadd g (by decide +kernel) ?_
        refine j_istore_n g (i := 2) (by decide +kernel) (by decide) ?_
        dsimp only [stL, clL, hdL]
        refine j_iinc g (i := 3) (n := 1) (1) (by decide +kernel) rfl (by decide) rfl ?_
        dsimp only [stL, clL, hdL]
        refine j_goto g (off := -63) (tgt := 4) (by decide +kernel) (by decide) ?_
        exact k 
      · (try rw [if_neg (show ¬ (¬ (M.1 607 (Int32.toNatClampNeg (((M.1 600 10) + 3) + σ.2))) = (M.1 607 (Int32.toNatClampNeg (((M.1 600 10) + 3) + (M.1 603 (Int32.toNatClampNeg (8 * a1 + 2))))))) from c54)] at hc); (rw [if_neg (show ¬ (¬ (M.1 607 (Int32.toNatClampNeg (((M.1 600 10) + 3) + σ.2))) = (M.1 607 (Int32.toNatClampNeg (((M.1 600 10) + 3) + (M.1 603 (Int32.toNatClampNeg (8 * a1 + 2))))))) from c54)] at hp); (try simp only [if_neg (show ¬ (¬ (M.1 607 (Int32.toNatClampNeg (((M.1 600 10) + 3) + σ.2))) = (M.1 607 (Int32.toNatClampNeg (((M.1 600 10) + 3) + (M.1 603 (Int32.toNatClampNeg (8 * a1 + 2))))))) from c54)] at k)
        refine j_iconst g (n := 1) (1) (by decide +kernel) rfl ?_
        refine j_goto g (off := 4) (tgt := 62) (by decide +kernel) (by decide) ?_
        refine j_iadd g (by decide +kernel) ?_
        refine j_istore_n g (i := 2) (by decide +kernel) (by decide) ?_
        dsimp only [stL, clL, hdL]
        refine j_iinc g (i := 3) (n := 1) (1) (by decide +kernel) rfl (by decide) rfl ?_
        dsimp only [stL, clL, hdL]
        refine j_goto g (off := -63) (tgt := 4) (by decide +kernel) (by decide) ?_
        exact k 
theorem sh_X8_othersThere_4 {d : Nat} {J : Nat → Lc → List Value → Mm → Prop} {M : Mm} {a1 : Int32}  {σ0 : Int32 × Int32}  (g : Good mX8_othersThere.1 mX8_othersThere.2.2.1 mX8_othersThere.2.2.2.1 (d + 1) J) : ∀ (N : Nat), (∀ k, k < N → c_X8_othersThere_4 M a1 (l_X8_othersThere_4 M a1 σ0 k)) → (∀ k, k < N → q_X8_othersThere_4 M a1 (l_X8_othersThere_4 M a1 σ0 k)) → (J 4 [some (.ref 600), some (.int a1), some (.int ((l_X8_othersThere_4 M a1 σ0 N).1)), some (.int ((l_X8_othersThere_4 M a1 σ0 N).2))] [] M) → J 4 [some (.ref 600), some (.int a1), some (.int σ0.1), some (.int σ0.2)] [] M
  | 0, _, _, k => k
  | N + 1, hc, hp, k => sh_X8_othersThere_4  g N (fun i hi => hc i (Nat.lt_succ_of_lt hi)) (fun i hi => hp i (Nat.lt_succ_of_lt hi)) (ps_X8_othersThere_4  g (hc N (Nat.lt_succ_self N)) (hp N (Nat.lt_succ_self N)) k)
noncomputable def r_X8_othersThere (M : Mm) (a1 : Int32) : Int32 := if (M.1 600 1) ≤ ((l_X8_othersThere_4 M a1 (0, 0) (Int32.toNatClampNeg (M.1 600 1))).2) then (l_X8_othersThere_4 M a1 (0, 0) (Int32.toNatClampNeg (M.1 600 1))).1 else 0
def p_X8_othersThere (M : Mm) (a1 : Int32) : Prop := (∀ k, k < (Int32.toNatClampNeg (M.1 600 1)) → c_X8_othersThere_4 M a1 (l_X8_othersThere_4 M a1 (0, 0) k)) ∧ (∀ k, k < (Int32.toNatClampNeg (M.1 600 1)) → q_X8_othersThere_4 M a1 (l_X8_othersThere_4 M a1 (0, 0) k)) ∧ (¬ c_X8_othersThere_4 M a1 (l_X8_othersThere_4 M a1 (0, 0) (Int32.toNatClampNeg (M.1 600 1)))) ∧ (if (M.1 600 1) ≤ ((l_X8_othersThere_4 M a1 (0, 0) (Int32.toNatClampNeg (M.1 600 1))).2) then True else (vp_in (8 * a1 + 2) 48) ∧ (if ((l_X8_othersThere_4 M a1 (0, 0) (Int32.toNatClampNeg (M.1 600 1))).2) = (M.1 603 (Int32.toNatClampNeg (8 * a1 + 2))) then True else (vp_in (((M.1 600 10) + 3) + ((l_X8_othersThere_4 M a1 (0, 0) (Int32.toNatClampNeg (M.1 600 1))).2)) 44) ∧ (vp_in (8 * a1 + 2) 48) ∧ (vp_in (((M.1 600 10) + 3) + (M.1 603 (Int32.toNatClampNeg (8 * a1 + 2)))) 44) ∧ (if ¬ (M.1 607 (Int32.toNatClampNeg (((M.1 600 10) + 3) + ((l_X8_othersThere_4 M a1 (0, 0) (Int32.toNatClampNeg (M.1 600 1))).2)))) = (M.1 607 (Int32.toNatClampNeg (((M.1 600 10) + 3) + (M.1 603 (Int32.toNatClampNeg (8 * a1 + 2)))))) then True else True)))
theorem rnX8_othersThere {d : Nat} {M : Mm} {a1 : Int32}  (hp : p_X8_othersThere M a1) : Rn (d + 1) mX8_othersThere [.ref 600, .int a1] M (some (.int (r_X8_othersThere M a1))) M := by
  refine Rn.of [some (.ref 600), some (.int a1), none, none] (by decide +kernel) rfl (Nat.le_of_ble_eq_true rfl) rfl (fun J g hr => ?_)
  unfold p_X8_othersThere at hp
  refine j_iconst g (n := 0) (0) (by decide +kernel) rfl ?_
  refine j_istore_n g (i := 2) (by decide +kernel) (by decide) ?_
  dsimp only [stL, clL, hdL]
  refine j_iconst g (n := 0) (0) (by decide +kernel) rfl ?_
  refine j_istore_n g (i := 3) (by decide +kernel) (by decide) ?_
  dsimp only [stL, clL, hdL]
  obtain ⟨h0, hp⟩ := hp
  have hc_4_1 := h0
  obtain ⟨h0, hp⟩ := hp
  have hq_4_1 := h0
  obtain ⟨h0, hp⟩ := hp
  have hx_4_1 := h0
  refine sh_X8_othersThere_4   g (σ0 := (0, 0)) (Int32.toNatClampNeg (M.1 600 1)) hc_4_1 hq_4_1 ?_ 
  refine j_iload_n g (i := 3) (by decide +kernel) rfl ?_
  refine j_aload_n g (i := 0) (by decide +kernel) rfl ?_
  refine j_gI g f8_228 (by decide +kernel) (by decide +kernel) (by decide +kernel) ?_
  refine j_icmp_ge g (off := 61) (tgt := 70) (by decide +kernel) (by decide) (fun c9 => ?_) (fun c9 => ?_)
  · rw [if_pos (show (M.1 600 1) ≤ ((l_X8_othersThere_4 M a1 (0, 0) (Int32.toNatClampNeg (M.1 600 1))).2) from c9)] at hp
    refine j_iload_n g (i := 2) (by decide +kernel) rfl ?_
    refine hr.1 _ _ _ _ (by decide +kernel) ⟨_, rfl, by first | rfl | exact b2i_nar | decide +kernel⟩ ?_ ?_
    · unfold r_X8_othersThere; first | (simp only [if_pos (show (M.1 600 1) ≤ ((l_X8_othersThere_4 M a1 (0, 0) (Int32.toNatClampNeg (M.1 600 1))).2) from c9)]; done) | (simp only [if_pos (show (M.1 600 1) ≤ ((l_X8_othersThere_4 M a1 (0, 0) (Int32.toNatClampNeg (M.1 600 1))).2) from c9)]; rfl) | rfl
    · rfl
  · rw [if_neg (show ¬ ((M.1 600 1) ≤ ((l_X8_othersThere_4 M a1 (0, 0) (Int32.toNatClampNeg (M.1 600 1))).2)) from c9)] at hp
    refine j_iload_n g (i := 2) (by decide +kernel) rfl ?_
    refine j_iload_n g (i := 3) (by decide +kernel) rfl ?_
    refine j_aload_n g (i := 0) (by decide +kernel) rfl ?_
    refine j_iload_n g (i := 1) (by decide +kernel) rfl ?_
    refine j_iconst g (n := 2) (2) (by decide +kernel) rfl ?_
    obtain ⟨h0, hp⟩ := hp
    refine j_cV2r g v8_249 ⟨rfl, by decide⟩ (by decide +kernel) (by decide +kernel) (Nat.le_of_ble_eq_true rfl) (rnX8_its h0) ?_
    refine j_icmp_eq g (off := 41) (tgt := 61) (by decide +kernel) (by decide) (fun c20 => ?_) (fun c20 => ?_)
    · rw [if_pos (show ((l_X8_othersThere_4 M a1 (0, 0) (Int32.toNatClampNeg (M.1 600 1))).2) = (M.1 603 (Int32.toNatClampNeg (8 * a1 + 2))) from c20)] at hp
      refine j_iconst g (n := 0) (0) (by decide +kernel) rfl ?_
      refine j_iadd g (by decide +kernel) ?_
      refine j_istore_n g (i := 2) (by decide +kernel) (by decide) ?_
      dsimp only [stL, clL, hdL]
      refine j_iinc g (i := 3) (n := 1) (1) (by decide +kernel) rfl (by decide) rfl ?_
      dsimp only [stL, clL, hdL]
      refine j_goto g (off := -63) (tgt := 4) (by decide +kernel) (by decide) ?_
      refine absurd (ci_X8_othersThere_4.mpr ?_) hx_4_1
      simp only [if_neg (show ¬ ((M.1 600 1) ≤ ((l_X8_othersThere_4 M a1 (0, 0) (Int32.toNatClampNeg (M.1 600 1))).2)) from c9), if_pos (show ((l_X8_othersThere_4 M a1 (0, 0) (Int32.toNatClampNeg (M.1 600 1))).2) = (M.1 603 (Int32.toNatClampNeg (8 * a1 + 2))) from c20)]
    · rw [if_neg (show ¬ (((l_X8_othersThere_4 M a1 (0, 0) (Int32.toNatClampNeg (M.1 600 1))).2) = (M.1 603 (Int32.toNatClampNeg (8 * a1 + 2)))) from c20)] at hp
      refine j_aload_n g (i := 0) (by decide +kernel) rfl ?_
      refine j_gA g (b := 607) f8_28 (by decide +kernel) (by decide +kernel) (by decide +kernel) (by decide +kernel) ?_
      refine j_aload_n g (i := 0) (by decide +kernel) rfl ?_
      refine j_gI g f8_240 (by decide +kernel) (by decide +kernel) (by decide +kernel) ?_
      refine j_iconst g (n := 3) (3) (by decide +kernel) rfl ?_
      refine j_iadd g (by decide +kernel) ?_
      refine j_iload_n g (i := 3) (by decide +kernel) rfl ?_
      refine j_iadd g (by decide +kernel) ?_
      obtain ⟨h0, hp⟩ := hp
      refine j_ia g 44 (by decide +kernel) (by decide +kernel) (by decide +kernel) h0 ?_
      refine j_aload_n g (i := 0) (by decide +kernel) rfl ?_
      refine j_gA g (b := 607) f8_28 (by decide +kernel) (by decide +kernel) (by decide +kernel) (by decide +kernel) ?_
      refine j_aload_n g (i := 0) (by decide +kernel) rfl ?_
      refine j_gI g f8_240 (by decide +kernel) (by decide +kernel) (by decide +kernel) ?_
      refine j_iconst g (n := 3) (3) (by decide +kernel) rfl ?_
      refine j_iadd g (by decide +kernel) ?_
      refine j_aload_n g (i := 0) (by decide +kernel) rfl ?_
      refine j_iload_n g (i := 1) (by decide +kernel) rfl ?_
      refine j_iconst g (n := 2) (2) (by decide +kernel) rfl ?_
      obtain ⟨h0, hp⟩ := hp
      refine j_cV2r g v8_249 ⟨rfl, by decide⟩ (by decide +kernel) (by decide +kernel) (Nat.le_of_ble_eq_true rfl) (rnX8_its h0) ?_
      refine j_iadd g (by decide +kernel) ?_
      obtain ⟨h0, hp⟩ := hp
      refine j_ia g 44 (by decide +kernel) (by decide +kernel) (by decide +kernel) h0 ?_
      refine j_icmp_ne g (off := 7) (tgt := 61) (by decide +kernel) (by decide) (fun c54 => ?_) (fun c54 => ?_)
      · rw [if_pos (show ¬ (M.1 607 (Int32.toNatClampNeg (((M.1 600 10) + 3) + ((l_X8_othersThere_4 M a1 (0, 0) (Int32.toNatClampNeg (M.1 600 1))).2)))) = (M.1 607 (Int32.toNatClampNeg (((M.1 600 10) + 3) + (M.1 603 (Int32.toNatClampNeg (8 * a1 + 2)))))) from c54)] at hp
        refine j_iconst g (n := 0) (0) (by decide +kernel) rfl ?_
        refine j_iadd g (by decide +kernel) ?_
        refine j_istore_n g (i := 2) (by decide +kernel) (by decide) ?_
        dsimp only [stL, clL, hdL]
        refine j_iinc g (i := 3) (n := 1) (1) (by decide +kernel) rfl (by decide) rfl ?_
        dsimp only [stL, clL, hdL]
        refine j_goto g (off := -63) (tgt := 4) (by decide +kernel) (by decide) ?_
        refine absurd (ci_X8_othersThere_4.mpr ?_) hx_4_1
        simp only [if_neg (show ¬ ((M.1 600 1) ≤ ((l_X8_othersThere_4 M a1 (0, 0) (Int32.toNatClampNeg (M.1 600 1))).2)) from c9), if_neg (show ¬ (((l_X8_othersThere_4 M a1 (0, 0) (Int32.toNatClampNeg (M.1 600 1))).2) = (M.1 603 (Int32.toNatClampNeg (8 * a1 + 2)))) from c20), if_pos (show ¬ (M.1 607 (Int32.toNatClampNeg (((M.1 600 10) + 3) + ((l_X8_othersThere_4 M a1 (0, 0) (Int32.toNatClampNeg (M.1 600 1))).2)))) = (M.1 607 (Int32.toNatClampNeg (((M.1 600 10) + 3) + (M.1 603 (Int32.toNatClampNeg (8 * a1 + 2)))))) from c54)]
      · rw [if_neg (show ¬ (¬ (M.1 607 (Int32.toNatClampNeg (((M.1 600 10) + 3) + ((l_X8_othersThere_4 M a1 (0, 0) (Int32.toNatClampNeg (M.1 600 1))).2)))) = (M.1 607 (Int32.toNatClampNeg (((M.1 600 10) + 3) + (M.1 603 (Int32.toNatClampNeg (8 * a1 + 2))))))) from c54)] at hp
        refine j_iconst g (n := 1) (1) (by decide +kernel) rfl ?_
        refine j_goto g (off := 4) (tgt := 62) (by decide +kernel) (by decide) ?_
        refine j_iadd g (by decide +kernel) ?_
        refine j_istore_n g (i := 2) (by decide +kernel) (by decide) ?_
        dsimp only [stL, clL, hdL]
        refine j_iinc g (i := 3) (n := 1) (1) (by decide +kernel) rfl (by decide) rfl ?_
        dsimp only [stL, clL, hdL]
        refine j_goto g (off := -63) (tgt := 4) (by decide +kernel) (by decide) ?_
        refine absurd (ci_X8_othersThere_4.mpr ?_) hx_4_1
        simp only [if_neg (show ¬ ((M.1 600 1) ≤ ((l_X8_othersThere_4 M a1 (0, 0) (Int32.toNatClampNeg (M.1 600 1))).2)) from c9), if_neg (show ¬ (((l_X8_othersThere_4 M a1 (0, 0) (Int32.toNatClampNeg (M.1 600 1))).2) = (M.1 603 (Int32.toNatClampNeg (8 * a1 + 2)))) from c20), if_neg (show ¬ (¬ (M.1 607 (Int32.toNatClampNeg (((M.1 600 10) + 3) + ((l_X8_othersThere_4 M a1 (0, 0) (Int32.toNatClampNeg (M.1 600 1))).2)))) = (M.1 607 (Int32.toNatClampNeg (((M.1 600 10) + 3) + (M.1 603 (Int32.toNatClampNeg (8 * a1 + 2))))))) from c54)]
def c_X8_lends_7  (σ : Mm × Int32) : Prop := if 22 ≤ σ.2 then False else True
theorem ci_X8_lends_7   {σ : Mm × Int32} : c_X8_lends_7  σ ↔ (if 22 ≤ σ.2 then False else True) := Iff.rfl
noncomputable def s_X8_lends_7  (σ : Mm × Int32) : Mm × Int32 := if 22 ≤ σ.2 then σ else ((wi σ.1 607 (Int32.toNatClampNeg ((22 : Int32) + σ.2)) (σ.1.1 607 (Int32.toNatClampNeg σ.2))), σ.2 + 1)
def q_X8_lends_7  (σ : Mm × Int32) : Prop := (if 22 ≤ σ.2 then True else (vp_in σ.2 44) ∧ (vp_in ((22 : Int32) + σ.2) 44) ∧ True)
noncomputable def l_X8_lends_7  (σ0 : Mm × Int32) : Nat → Mm × Int32 := itN (fun _ σ => s_X8_lends_7  σ) σ0
theorem ps_X8_lends_7 {d : Nat} {J : Nat → Lc → List Value → Mm → Prop}   {σ : Mm × Int32}  (g : Good mX8_lends.1 mX8_lends.2.2.1 mX8_lends.2.2.2.1 (d + 0) J) (hc : c_X8_lends_7  σ) (hp : q_X8_lends_7  σ) (k : J 7 [some (.ref 600), some (.int ((s_X8_lends_7  σ).2))] [] ((s_X8_lends_7  σ).1)) : J 7 [some (.ref 600), some (.int σ.2)] [] σ.1 := by
  unfold c_X8_lends_7 at hc
  unfold q_X8_lends_7 at hp
  unfold s_X8_lends_7 at k
  refine j_iload_n g (i := 1) (by decide +kernel) rfl ?_
  refine j_bipush g (n := 22) (22) (by decide +kernel) (by decide +kernel) ?_
  refine j_icmp_ge g (off := 24) (tgt := 34) (by decide +kernel) (by decide) (fun c10 => ?_) (fun c10 => ?_)
  · (try rw [if_pos (show 22 ≤ σ.2 from c10)] at hc); (rw [if_pos (show 22 ≤ σ.2 from c10)] at hp); (try simp only [if_pos (show 22 ≤ σ.2 from c10)] at k)
    exact hc.elim
  · (try rw [if_neg (show ¬ (22 ≤ σ.2) from c10)] at hc); (rw [if_neg (show ¬ (22 ≤ σ.2) from c10)] at hp); (try simp only [if_neg (show ¬ (22 ≤ σ.2) from c10)] at k)
    refine j_aload_n g (i := 0) (by decide +kernel) rfl ?_
    refine j_gA g (b := 607) f8_28 (by decide +kernel) (by decide +kernel) (by decide +kernel) (by decide +kernel) ?_
    refine j_bipush g (n := 22) (22) (by decide +kernel) (by decide +kernel) ?_
    refine j_iload_n g (i := 1) (by decide +kernel) rfl ?_
    refine j_iadd g (by decide +kernel) ?_
    refine j_aload_n g (i := 0) (by decide +kernel) rfl ?_
    refine j_gA g (b := 607) f8_28 (by decide +kernel) (by decide +kernel) (by decide +kernel) (by decide +kernel) ?_
    refine j_iload_n g (i := 1) (by decide +kernel) rfl ?_
    obtain ⟨h0, hp⟩ := hp
    refine j_ia g 44 (by decide +kernel) (by decide +kernel) (by decide +kernel) h0 ?_
    obtain ⟨h0, hp⟩ := hp
    refine j_is g 44 (by decide +kernel) (by decide +kernel) (by decide +kernel) h0 ?_
    refine j_iinc g (i := 1) (n := 1) (1) (by decide +kernel) rfl (by decide) rfl ?_
    dsimp only [stL, clL, hdL]
    refine j_goto g (off := -24) (tgt := 7) (by decide +kernel) (by decide) ?_
    exact k 
theorem sh_X8_lends_7 {d : Nat} {J : Nat → Lc → List Value → Mm → Prop}   {σ0 : Mm × Int32}  (g : Good mX8_lends.1 mX8_lends.2.2.1 mX8_lends.2.2.2.1 (d + 0) J) : ∀ (N : Nat), (∀ k, k < N → c_X8_lends_7  (l_X8_lends_7  σ0 k)) → (∀ k, k < N → q_X8_lends_7  (l_X8_lends_7  σ0 k)) → (J 7 [some (.ref 600), some (.int ((l_X8_lends_7  σ0 N).2))] [] ((l_X8_lends_7  σ0 N).1)) → J 7 [some (.ref 600), some (.int σ0.2)] [] σ0.1
  | 0, _, _, k => k
  | N + 1, hc, hp, k => sh_X8_lends_7  g N (fun i hi => hc i (Nat.lt_succ_of_lt hi)) (fun i hi => hp i (Nat.lt_succ_of_lt hi)) (ps_X8_lends_7  g (hc N (Nat.lt_succ_self N)) (hp N (Nat.lt_succ_self N)) k)
noncomputable def w_X8_lends (M : Mm)  : Mm := if 22 ≤ ((l_X8_lends_7  ((wi M 600 10 0), 0) n22).2) then (wi (l_X8_lends_7  ((wi M 600 10 0), 0) n22).1 600 10 22) else M
def p_X8_lends (M : Mm)  : Prop := (∀ k, k < n22 → c_X8_lends_7  (l_X8_lends_7  ((wi M 600 10 0), 0) k)) ∧ (∀ k, k < n22 → q_X8_lends_7  (l_X8_lends_7  ((wi M 600 10 0), 0) k)) ∧ (¬ c_X8_lends_7  (l_X8_lends_7  ((wi M 600 10 0), 0) n22)) ∧ (if 22 ≤ ((l_X8_lends_7  ((wi M 600 10 0), 0) n22).2) then True else (vp_in ((l_X8_lends_7  ((wi M 600 10 0), 0) n22).2) 44) ∧ (vp_in ((22 : Int32) + ((l_X8_lends_7  ((wi M 600 10 0), 0) n22).2)) 44) ∧ True)
theorem rnX8_lends {d : Nat} {M : Mm}   (hp : p_X8_lends M ) : Rn (d + 0) mX8_lends [.ref 600] M none (w_X8_lends M ) := by
  refine Rn.of [some (.ref 600), none] (by decide +kernel) rfl (Nat.le_of_ble_eq_true rfl) rfl (fun J g hr => ?_)
  unfold p_X8_lends at hp
  refine j_aload_n g (i := 0) (by decide +kernel) rfl ?_
  refine j_iconst g (n := 0) (0) (by decide +kernel) rfl ?_
  refine j_pI g f8_240 (fun q h => by cases h; rfl) (by decide +kernel) (by decide +kernel) (by decide +kernel) ?_
  refine j_iconst g (n := 0) (0) (by decide +kernel) rfl ?_
  refine j_istore_n g (i := 1) (by decide +kernel) (by decide) ?_
  dsimp only [stL, clL, hdL]
  obtain ⟨h0, hp⟩ := hp
  have hc_7_1 := h0
  obtain ⟨h0, hp⟩ := hp
  have hq_7_1 := h0
  obtain ⟨h0, hp⟩ := hp
  have hx_7_1 := h0
  refine sh_X8_lends_7   g (σ0 := ((wi M 600 10 0), 0)) n22 hc_7_1 hq_7_1 ?_ 
  refine j_iload_n g (i := 1) (by decide +kernel) rfl ?_
  refine j_bipush g (n := 22) (22) (by decide +kernel) (by decide +kernel) ?_
  refine j_icmp_ge g (off := 24) (tgt := 34) (by decide +kernel) (by decide) (fun c10 => ?_) (fun c10 => ?_)
  · rw [if_pos (show 22 ≤ ((l_X8_lends_7  ((wi M 600 10 0), 0) n22).2) from c10)] at hp
    refine j_aload_n g (i := 0) (by decide +kernel) rfl ?_
    refine j_bipush g (n := 22) (22) (by decide +kernel) (by decide +kernel) ?_
    refine j_pI g f8_240 (fun q h => by cases h; rfl) (by decide +kernel) (by decide +kernel) (by decide +kernel) ?_
    refine hr.2.2.2 _ _ _ (by decide +kernel) rfl rfl ?_
    · unfold w_X8_lends; first | (simp only [if_pos (show 22 ≤ ((l_X8_lends_7  ((wi M 600 10 0), 0) n22).2) from c10)]; done) | (simp only [if_pos (show 22 ≤ ((l_X8_lends_7  ((wi M 600 10 0), 0) n22).2) from c10)]; rfl) | rfl
  · rw [if_neg (show ¬ (22 ≤ ((l_X8_lends_7  ((wi M 600 10 0), 0) n22).2)) from c10)] at hp
    refine j_aload_n g (i := 0) (by decide +kernel) rfl ?_
    refine j_gA g (b := 607) f8_28 (by decide +kernel) (by decide +kernel) (by decide +kernel) (by decide +kernel) ?_
    refine j_bipush g (n := 22) (22) (by decide +kernel) (by decide +kernel) ?_
    refine j_iload_n g (i := 1) (by decide +kernel) rfl ?_
    refine j_iadd g (by decide +kernel) ?_
    refine j_aload_n g (i := 0) (by decide +kernel) rfl ?_
    refine j_gA g (b := 607) f8_28 (by decide +kernel) (by decide +kernel) (by decide +kernel) (by decide +kernel) ?_
    refine j_iload_n g (i := 1) (by decide +kernel) rfl ?_
    obtain ⟨h0, hp⟩ := hp
    refine j_ia g 44 (by decide +kernel) (by decide +kernel) (by decide +kernel) h0 ?_
    obtain ⟨h0, hp⟩ := hp
    refine j_is g 44 (by decide +kernel) (by decide +kernel) (by decide +kernel) h0 ?_
    refine j_iinc g (i := 1) (n := 1) (1) (by decide +kernel) rfl (by decide) rfl ?_
    dsimp only [stL, clL, hdL]
    refine j_goto g (off := -24) (tgt := 7) (by decide +kernel) (by decide) ?_
    refine absurd (ci_X8_lends_7.mpr ?_) hx_7_1
    simp only [if_neg (show ¬ (22 ≤ ((l_X8_lends_7  ((wi M 600 10 0), 0) n22).2)) from c10)]
def c_X2_digitsOf_4 (M : Mm) (a1 : Int32) (σ : Int32 × Int32) : Prop := if a1 ≤ σ.2 then False else True
theorem ci_X2_digitsOf_4 {M : Mm} {a1 : Int32}  {σ : Int32 × Int32} : c_X2_digitsOf_4 M a1 σ ↔ (if a1 ≤ σ.2 then False else True) := Iff.rfl
noncomputable def s_X2_digitsOf_4 (M : Mm) (a1 : Int32) (σ : Int32 × Int32) : Int32 × Int32 := if a1 ≤ σ.2 then σ else (σ.1 ||| ((M.1 512 (Int32.toNatClampNeg σ.2)) <<< (((3 : Int32) * σ.2) &&& 31)), σ.2 + 1)
def q_X2_digitsOf_4 (M : Mm) (a1 : Int32) (σ : Int32 × Int32) : Prop := (if a1 ≤ σ.2 then True else (vp_in σ.2 6) ∧ True)
noncomputable def l_X2_digitsOf_4 (M : Mm) (a1 : Int32) (σ0 : Int32 × Int32) : Nat → Int32 × Int32 := itN (fun _ σ => s_X2_digitsOf_4 M a1 σ) σ0
theorem ps_X2_digitsOf_4 {d : Nat} {J : Nat → Lc → List Value → Mm → Prop} {M : Mm} {a1 : Int32}  {σ : Int32 × Int32}  (g : Good mX2_digitsOf.1 mX2_digitsOf.2.2.1 mX2_digitsOf.2.2.2.1 (d + 0) J) (hc : c_X2_digitsOf_4 M a1 σ) (hp : q_X2_digitsOf_4 M a1 σ) (k : J 4 [some (.ref 510), some (.int a1), some (.int ((s_X2_digitsOf_4 M a1 σ).1)), some (.int ((s_X2_digitsOf_4 M a1 σ).2))] [] M) : J 4 [some (.ref 510), some (.int a1), some (.int σ.1), some (.int σ.2)] [] M := by
  unfold c_X2_digitsOf_4 at hc
  unfold q_X2_digitsOf_4 at hp
  unfold s_X2_digitsOf_4 at k
  refine j_iload_n g (i := 3) (by decide +kernel) rfl ?_
  refine j_iload_n g (i := 1) (by decide +kernel) rfl ?_
  refine j_icmp_ge g (off := 22) (tgt := 28) (by decide +kernel) (by decide) (fun c6 => ?_) (fun c6 => ?_)
  · (try rw [if_pos (show a1 ≤ σ.2 from c6)] at hc); (rw [if_pos (show a1 ≤ σ.2 from c6)] at hp); (try simp only [if_pos (show a1 ≤ σ.2 from c6)] at k)
    exact hc.elim
  · (try rw [if_neg (show ¬ (a1 ≤ σ.2) from c6)] at hc); (rw [if_neg (show ¬ (a1 ≤ σ.2) from c6)] at hp); (try simp only [if_neg (show ¬ (a1 ≤ σ.2) from c6)] at k)
    refine j_iload_n g (i := 2) (by decide +kernel) rfl ?_
    refine j_aload_n g (i := 0) (by decide +kernel) rfl ?_
    refine j_gA g (b := 512) f2_24 (by decide +kernel) (by decide +kernel) (by decide +kernel) (by decide +kernel) ?_
    refine j_iload_n g (i := 3) (by decide +kernel) rfl ?_
    obtain ⟨h0, hp⟩ := hp
    refine j_ia g 6 (by decide +kernel) (by decide +kernel) (by decide +kernel) h0 ?_
    refine j_iconst g (n := 3) (3) (by decide +kernel) rfl ?_
    refine j_iload_n g (i := 3) (by decide +kernel) rfl ?_
    refine j_imul g (by decide +kernel) ?_
    refine j_ishl g (by decide +kernel) ?_
    refine j_ior g (by decide +kernel) ?_
    refine j_istore_n g (i := 2) (by decide +kernel) (by decide) ?_
    dsimp only [stL, clL, hdL]
    refine j_iinc g (i := 3) (n := 1) (1) (by decide +kernel) rfl (by decide) rfl ?_
    dsimp only [stL, clL, hdL]
    refine j_goto g (off := -21) (tgt := 4) (by decide +kernel) (by decide) ?_
    exact k 
theorem sh_X2_digitsOf_4 {d : Nat} {J : Nat → Lc → List Value → Mm → Prop} {M : Mm} {a1 : Int32}  {σ0 : Int32 × Int32}  (g : Good mX2_digitsOf.1 mX2_digitsOf.2.2.1 mX2_digitsOf.2.2.2.1 (d + 0) J) : ∀ (N : Nat), (∀ k, k < N → c_X2_digitsOf_4 M a1 (l_X2_digitsOf_4 M a1 σ0 k)) → (∀ k, k < N → q_X2_digitsOf_4 M a1 (l_X2_digitsOf_4 M a1 σ0 k)) → (J 4 [some (.ref 510), some (.int a1), some (.int ((l_X2_digitsOf_4 M a1 σ0 N).1)), some (.int ((l_X2_digitsOf_4 M a1 σ0 N).2))] [] M) → J 4 [some (.ref 510), some (.int a1), some (.int σ0.1), some (.int σ0.2)] [] M
  | 0, _, _, k => k
  | N + 1, hc, hp, k => sh_X2_digitsOf_4  g N (fun i hi => hc i (Nat.lt_succ_of_lt hi)) (fun i hi => hp i (Nat.lt_succ_of_lt hi)) (ps_X2_digitsOf_4  g (hc N (Nat.lt_succ_self N)) (hp N (Nat.lt_succ_self N)) k)
noncomputable def r_X2_digitsOf (M : Mm) (a1 : Int32) : Int32 := if a1 ≤ ((l_X2_digitsOf_4 M a1 (0, 0) (Int32.toNatClampNeg (a1))).2) then (l_X2_digitsOf_4 M a1 (0, 0) (Int32.toNatClampNeg (a1))).1 else 0
def p_X2_digitsOf (M : Mm) (a1 : Int32) : Prop := (∀ k, k < (Int32.toNatClampNeg (a1)) → c_X2_digitsOf_4 M a1 (l_X2_digitsOf_4 M a1 (0, 0) k)) ∧ (∀ k, k < (Int32.toNatClampNeg (a1)) → q_X2_digitsOf_4 M a1 (l_X2_digitsOf_4 M a1 (0, 0) k)) ∧ (¬ c_X2_digitsOf_4 M a1 (l_X2_digitsOf_4 M a1 (0, 0) (Int32.toNatClampNeg (a1)))) ∧ (if a1 ≤ ((l_X2_digitsOf_4 M a1 (0, 0) (Int32.toNatClampNeg (a1))).2) then True else (vp_in ((l_X2_digitsOf_4 M a1 (0, 0) (Int32.toNatClampNeg (a1))).2) 6) ∧ True)
theorem rnX2_digitsOf {d : Nat} {M : Mm} {a1 : Int32}  (hp : p_X2_digitsOf M a1) : Rn (d + 0) mX2_digitsOf [.ref 510, .int a1] M (some (.int (r_X2_digitsOf M a1))) M := by
  refine Rn.of [some (.ref 510), some (.int a1), none, none] (by decide +kernel) rfl (Nat.le_of_ble_eq_true rfl) rfl (fun J g hr => ?_)
  unfold p_X2_digitsOf at hp
  refine j_iconst g (n := 0) (0) (by decide +kernel) rfl ?_
  refine j_istore_n g (i := 2) (by decide +kernel) (by decide) ?_
  dsimp only [stL, clL, hdL]
  refine j_iconst g (n := 0) (0) (by decide +kernel) rfl ?_
  refine j_istore_n g (i := 3) (by decide +kernel) (by decide) ?_
  dsimp only [stL, clL, hdL]
  obtain ⟨h0, hp⟩ := hp
  have hc_4_1 := h0
  obtain ⟨h0, hp⟩ := hp
  have hq_4_1 := h0
  obtain ⟨h0, hp⟩ := hp
  have hx_4_1 := h0
  refine sh_X2_digitsOf_4   g (σ0 := (0, 0)) (Int32.toNatClampNeg (a1)) hc_4_1 hq_4_1 ?_ 
  refine j_iload_n g (i := 3) (by decide +kernel) rfl ?_
  refine j_iload_n g (i := 1) (by decide +kernel) rfl ?_
  refine j_icmp_ge g (off := 22) (tgt := 28) (by decide +kernel) (by decide) (fun c6 => ?_) (fun c6 => ?_)
  · rw [if_pos (show a1 ≤ ((l_X2_digitsOf_4 M a1 (0, 0) (Int32.toNatClampNeg (a1))).2) from c6)] at hp
    refine j_iload_n g (i := 2) (by decide +kernel) rfl ?_
    refine hr.1 _ _ _ _ (by decide +kernel) ⟨_, rfl, by first | rfl | exact b2i_nar | decide +kernel⟩ ?_ ?_
    · unfold r_X2_digitsOf; first | (simp only [if_pos (show a1 ≤ ((l_X2_digitsOf_4 M a1 (0, 0) (Int32.toNatClampNeg (a1))).2) from c6)]; done) | (simp only [if_pos (show a1 ≤ ((l_X2_digitsOf_4 M a1 (0, 0) (Int32.toNatClampNeg (a1))).2) from c6)]; rfl) | rfl
    · rfl
  · rw [if_neg (show ¬ (a1 ≤ ((l_X2_digitsOf_4 M a1 (0, 0) (Int32.toNatClampNeg (a1))).2)) from c6)] at hp
    refine j_iload_n g (i := 2) (by decide +kernel) rfl ?_
    refine j_aload_n g (i := 0) (by decide +kernel) rfl ?_
    refine j_gA g (b := 512) f2_24 (by decide +kernel) (by decide +kernel) (by decide +kernel) (by decide +kernel) ?_
    refine j_iload_n g (i := 3) (by decide +kernel) rfl ?_
    obtain ⟨h0, hp⟩ := hp
    refine j_ia g 6 (by decide +kernel) (by decide +kernel) (by decide +kernel) h0 ?_
    refine j_iconst g (n := 3) (3) (by decide +kernel) rfl ?_
    refine j_iload_n g (i := 3) (by decide +kernel) rfl ?_
    refine j_imul g (by decide +kernel) ?_
    refine j_ishl g (by decide +kernel) ?_
    refine j_ior g (by decide +kernel) ?_
    refine j_istore_n g (i := 2) (by decide +kernel) (by decide) ?_
    dsimp only [stL, clL, hdL]
    refine j_iinc g (i := 3) (n := 1) (1) (by decide +kernel) rfl (by decide) rfl ?_
    dsimp only [stL, clL, hdL]
    refine j_goto g (off := -21) (tgt := 4) (by decide +kernel) (by decide) ?_
    refine absurd (ci_X2_digitsOf_4.mpr ?_) hx_4_1
    simp only [if_neg (show ¬ (a1 ≤ ((l_X2_digitsOf_4 M a1 (0, 0) (Int32.toNatClampNeg (a1))).2)) from c6)]
def c_X5_moveAll_29 (s : Nat) (wk : Nat) (x3 : Int32) (σ : Mm × Int32) : Prop := if (σ.1.1 100 1) ≤ σ.2 then False else True
theorem ci_X5_moveAll_29 {s : Nat} {wk : Nat} {x3 : Int32} {σ : Mm × Int32} : c_X5_moveAll_29 s wk x3 σ ↔ (if (σ.1.1 100 1) ≤ σ.2 then False else True) := Iff.rfl
noncomputable def s_X5_moveAll_29 (s : Nat) (wk : Nat) (x3 : Int32) (σ : Mm × Int32) : Mm × Int32 := if (σ.1.1 100 1) ≤ σ.2 then σ else if ¬ (σ.1.1 (s + 2) (Int32.toNatClampNeg σ.2)) = x3 then (σ.1, σ.2 + 1) else ((wi σ.1 (s + 2) (Int32.toNatClampNeg σ.2) (σ.1.1 wk 3)), σ.2 + 1)
def q_X5_moveAll_29 (s : Nat) (wk : Nat) (x3 : Int32) (σ : Mm × Int32) : Prop := (if (σ.1.1 100 1) ≤ σ.2 then True else (vp_in σ.2 6) ∧ (if ¬ (σ.1.1 (s + 2) (Int32.toNatClampNeg σ.2)) = x3 then True else (vp_in σ.2 6) ∧ True))
noncomputable def l_X5_moveAll_29 (s : Nat) (wk : Nat) (x3 : Int32) (σ0 : Mm × Int32) : Nat → Mm × Int32 := itN (fun _ σ => s_X5_moveAll_29 s wk x3 σ) σ0
theorem ps_X5_moveAll_29 {d : Nat} {J : Nat → Lc → List Value → Mm → Prop} {s : Nat} {wk : Nat} {x3 : Int32} {σ : Mm × Int32} (hs : isS s) (hwk : gk wk = 6) (g : Good mX5_moveAll.1 mX5_moveAll.2.2.1 mX5_moveAll.2.2.2.1 (d + 1) J) (hc : c_X5_moveAll_29 s wk x3 σ) (hp : q_X5_moveAll_29 s wk x3 σ) (k : J 29 [some (.ref 100), some (.ref s), some (.ref wk), some (.int x3), some (.int ((s_X5_moveAll_29 s wk x3 σ).2))] [] ((s_X5_moveAll_29 s wk x3 σ).1)) : J 29 [some (.ref 100), some (.ref s), some (.ref wk), some (.int x3), some (.int σ.2)] [] σ.1 := by
  unfold c_X5_moveAll_29 at hc
  unfold q_X5_moveAll_29 at hp
  unfold s_X5_moveAll_29 at k
  refine j_iload g (i := 4) (by decide +kernel) rfl ?_
  refine j_aload_n g (i := 0) (by decide +kernel) rfl ?_
  refine j_gI g f5_15 (by decide +kernel) (by decide +kernel) (by decide +kernel) ?_
  refine j_icmp_ge g (off := 31) (tgt := 66) (by decide +kernel) (by decide) (fun c35 => ?_) (fun c35 => ?_)
  · (try rw [if_pos (show (σ.1.1 100 1) ≤ σ.2 from c35)] at hc); (rw [if_pos (show (σ.1.1 100 1) ≤ σ.2 from c35)] at hp); (try simp only [if_pos (show (σ.1.1 100 1) ≤ σ.2 from c35)] at k)
    exact hc.elim
  · (try rw [if_neg (show ¬ ((σ.1.1 100 1) ≤ σ.2) from c35)] at hc); (rw [if_neg (show ¬ ((σ.1.1 100 1) ≤ σ.2) from c35)] at hp); (try simp only [if_neg (show ¬ ((σ.1.1 100 1) ≤ σ.2) from c35)] at k)
    refine j_aload_n g (i := 1) (by decide +kernel) rfl ?_
    refine j_gA g f5_80 (by decide +kernel) (by decide +kernel) (isS_F hs).1.1 (isS_F hs).2.2.2.1 ?_
    refine j_iload g (i := 4) (by decide +kernel) rfl ?_
    obtain ⟨h0, hp⟩ := hp
    refine j_ia g 6 (by decide +kernel) (isS_F hs).1.2.2.1 (isS_F hs).2.1.2.1 h0 ?_
    refine j_iload_n g (i := 3) (by decide +kernel) rfl ?_
    refine j_icmp_ne g (off := 14) (tgt := 60) (by decide +kernel) (by decide) (fun c46 => ?_) (fun c46 => ?_)
    · (try rw [if_pos (show ¬ (σ.1.1 (s + 2) (Int32.toNatClampNeg σ.2)) = x3 from c46)] at hc); (rw [if_pos (show ¬ (σ.1.1 (s + 2) (Int32.toNatClampNeg σ.2)) = x3 from c46)] at hp); (try simp only [if_pos (show ¬ (σ.1.1 (s + 2) (Int32.toNatClampNeg σ.2)) = x3 from c46)] at k)
      refine j_iinc g (i := 4) (n := 1) (1) (by decide +kernel) rfl (by decide) rfl ?_
      dsimp only [stL, clL, hdL]
      refine j_goto g (off := -34) (tgt := 29) (by decide +kernel) (by decide) ?_
      exact k 
    · (try rw [if_neg (show ¬ (¬ (σ.1.1 (s + 2) (Int32.toNatClampNeg σ.2)) = x3) from c46)] at hc); (rw [if_neg (show ¬ (¬ (σ.1.1 (s + 2) (Int32.toNatClampNeg σ.2)) = x3) from c46)] at hp); (try simp only [if_neg (show ¬ (¬ (σ.1.1 (s + 2) (Int32.toNatClampNeg σ.2)) = x3) from c46)] at k)
      refine j_aload_n g (i := 1) (by decide +kernel) rfl ?_
      refine j_gA g f5_80 (by decide +kernel) (by decide +kernel) (isS_F hs).1.1 (isS_F hs).2.2.2.1 ?_
      refine j_iload g (i := 4) (by decide +kernel) rfl ?_
      refine j_aload_n g (i := 2) (by decide +kernel) rfl ?_
      refine j_gI g f5_92 (by decide +kernel) (by decide +kernel) hwk ?_
      obtain ⟨h0, hp⟩ := hp
      refine j_is g 6 (by decide +kernel) (isS_F hs).1.2.2.1 (isS_F hs).2.1.2.1 h0 ?_
      refine j_iinc g (i := 4) (n := 1) (1) (by decide +kernel) rfl (by decide) rfl ?_
      dsimp only [stL, clL, hdL]
      refine j_goto g (off := -34) (tgt := 29) (by decide +kernel) (by decide) ?_
      exact k 
theorem sh_X5_moveAll_29 {d : Nat} {J : Nat → Lc → List Value → Mm → Prop} {s : Nat} {wk : Nat} {x3 : Int32} {σ0 : Mm × Int32} (hs : isS s) (hwk : gk wk = 6) (g : Good mX5_moveAll.1 mX5_moveAll.2.2.1 mX5_moveAll.2.2.2.1 (d + 1) J) : ∀ (N : Nat), (∀ k, k < N → c_X5_moveAll_29 s wk x3 (l_X5_moveAll_29 s wk x3 σ0 k)) → (∀ k, k < N → q_X5_moveAll_29 s wk x3 (l_X5_moveAll_29 s wk x3 σ0 k)) → (J 29 [some (.ref 100), some (.ref s), some (.ref wk), some (.int x3), some (.int ((l_X5_moveAll_29 s wk x3 σ0 N).2))] [] ((l_X5_moveAll_29 s wk x3 σ0 N).1)) → J 29 [some (.ref 100), some (.ref s), some (.ref wk), some (.int x3), some (.int σ0.2)] [] σ0.1
  | 0, _, _, k => k
  | N + 1, hc, hp, k => sh_X5_moveAll_29 hs hwk g N (fun i hi => hc i (Nat.lt_succ_of_lt hi)) (fun i hi => hp i (Nat.lt_succ_of_lt hi)) (ps_X5_moveAll_29 hs hwk g (hc N (Nat.lt_succ_self N)) (hp N (Nat.lt_succ_self N)) k)
noncomputable def w_X5_moveAll_100 (M : Mm) (s : Nat) (wk : Nat) (x3 : Int32) : Mm := if (M.1 wk 0) = 1 then (wi M (s + 1) (Int32.toNatClampNeg (r_X5_nextMover M (M.1 wk 1))) (M.1 wk 3)) else if ¬ (M.1 wk 0) = 3 then M else (wi M (s + 1) (Int32.toNatClampNeg (r_X5_nextMover M (M.1 wk 1))) (M.1 wk 3))
def p_X5_moveAll_100 (M : Mm) (s : Nat) (wk : Nat) (x3 : Int32) : Prop := (if (M.1 wk 0) = 1 then (vp_in (r_X5_nextMover M (M.1 wk 1)) 3) ∧ True else (if ¬ (M.1 wk 0) = 3 then True else (vp_in (r_X5_nextMover M (M.1 wk 1)) 3) ∧ True))
theorem jn_X5_moveAll_100 {d : Nat} {J : Nat → Lc → List Value → Mm → Prop} {M : Mm} {s : Nat} {wk : Nat} {x3 : Int32} (hs : isS s) (hwk : gk wk = 6) (g : Good mX5_moveAll.1 mX5_moveAll.2.2.1 mX5_moveAll.2.2.2.1 (d + 1) J) {rv : Option Value} {M1 : Mm} (hr : Ret mX5_moveAll.2.2.1 mX5_moveAll.2.2.2.2 rv M1 J) (hp : p_X5_moveAll_100 M s wk x3) (hrv : rv = none) (hmm : M1 = w_X5_moveAll_100 M s wk x3) : ∀ (j4 : Option Value), J 100 [some (.ref 100), some (.ref s), some (.ref wk), some (.int x3), j4] [] M := by
  intro j4
  unfold p_X5_moveAll_100 at hp
  refine j_aload_n g (i := 2) (by decide +kernel) rfl ?_
  refine j_gI g f5_83 (by decide +kernel) (by decide +kernel) hwk ?_
  refine j_iconst g (n := 1) (1) (by decide +kernel) rfl ?_
  refine j_icmp_eq g (off := 11) (tgt := 116) (by decide +kernel) (by decide) (fun c105 => ?_) (fun c105 => ?_)
  · rw [if_pos (show (M.1 wk 0) = 1 from c105)] at hp
    refine j_aload_n g (i := 1) (by decide +kernel) rfl ?_
    refine j_gA g f5_77 (by decide +kernel) (by decide +kernel) (isS_F hs).1.1 (isS_F hs).2.2.1 ?_
    refine j_aload_n g (i := 0) (by decide +kernel) rfl ?_
    refine j_aload_n g (i := 2) (by decide +kernel) rfl ?_
    refine j_gI g f5_86 (by decide +kernel) (by decide +kernel) hwk ?_
    refine j_cV1r g v5_137 ⟨rfl, by decide⟩ (by decide +kernel) (by decide +kernel) (Nat.le_of_ble_eq_true rfl) (rnX5_nextMover) ?_
    refine j_aload_n g (i := 2) (by decide +kernel) rfl ?_
    refine j_gI g f5_92 (by decide +kernel) (by decide +kernel) hwk ?_
    obtain ⟨h0, hp⟩ := hp
    refine j_is g 3 (by decide +kernel) (isS_F hs).1.2.1 (isS_F hs).2.1.1 h0 ?_
    refine hr.2.2.2 _ _ _ (by decide +kernel) rfl hrv ?_
    · rw [hmm]; unfold w_X5_moveAll_100; first | (simp only [if_pos (show (M.1 wk 0) = 1 from c105)]; done) | (simp only [if_pos (show (M.1 wk 0) = 1 from c105)]; rfl) | rfl
  · rw [if_neg (show ¬ ((M.1 wk 0) = 1) from c105)] at hp
    refine j_aload_n g (i := 2) (by decide +kernel) rfl ?_
    refine j_gI g f5_83 (by decide +kernel) (by decide +kernel) hwk ?_
    refine j_iconst g (n := 3) (3) (by decide +kernel) rfl ?_
    refine j_icmp_ne g (off := 20) (tgt := 133) (by decide +kernel) (by decide) (fun c113 => ?_) (fun c113 => ?_)
    · rw [if_pos (show ¬ (M.1 wk 0) = 3 from c113)] at hp
      refine hr.2.2.2 _ _ _ (by decide +kernel) rfl hrv ?_
      · rw [hmm]; unfold w_X5_moveAll_100; first | (simp only [if_neg (show ¬ ((M.1 wk 0) = 1) from c105), if_pos (show ¬ (M.1 wk 0) = 3 from c113)]; done) | (simp only [if_neg (show ¬ ((M.1 wk 0) = 1) from c105), if_pos (show ¬ (M.1 wk 0) = 3 from c113)]; rfl) | rfl
    · rw [if_neg (show ¬ (¬ (M.1 wk 0) = 3) from c113)] at hp
      refine j_aload_n g (i := 1) (by decide +kernel) rfl ?_
      refine j_gA g f5_77 (by decide +kernel) (by decide +kernel) (isS_F hs).1.1 (isS_F hs).2.2.1 ?_
      refine j_aload_n g (i := 0) (by decide +kernel) rfl ?_
      refine j_aload_n g (i := 2) (by decide +kernel) rfl ?_
      refine j_gI g f5_86 (by decide +kernel) (by decide +kernel) hwk ?_
      refine j_cV1r g v5_137 ⟨rfl, by decide⟩ (by decide +kernel) (by decide +kernel) (Nat.le_of_ble_eq_true rfl) (rnX5_nextMover) ?_
      refine j_aload_n g (i := 2) (by decide +kernel) rfl ?_
      refine j_gI g f5_92 (by decide +kernel) (by decide +kernel) hwk ?_
      obtain ⟨h0, hp⟩ := hp
      refine j_is g 3 (by decide +kernel) (isS_F hs).1.2.1 (isS_F hs).2.1.1 h0 ?_
      refine hr.2.2.2 _ _ _ (by decide +kernel) rfl hrv ?_
      · rw [hmm]; unfold w_X5_moveAll_100; first | (simp only [if_neg (show ¬ ((M.1 wk 0) = 1) from c105), if_neg (show ¬ (¬ (M.1 wk 0) = 3) from c113)]; done) | (simp only [if_neg (show ¬ ((M.1 wk 0) = 1) from c105), if_neg (show ¬ (¬ (M.1 wk 0) = 3) from c113)]; rfl) | rfl
noncomputable def w_X5_moveAll_79 (M : Mm) (s : Nat) (wk : Nat) (x3 : Int32) : Mm := if (M.1 wk 0) = 5 then w_X5_moveAll_100 M s wk x3 else w_X5_moveAll_100 (wi M (s + 1) (Int32.toNatClampNeg (M.1 wk 1)) (M.1 wk 3)) s wk x3
def p_X5_moveAll_79 (M : Mm) (s : Nat) (wk : Nat) (x3 : Int32) : Prop := (if (M.1 wk 0) = 5 then p_X5_moveAll_100 M s wk x3 else (vp_in (M.1 wk 1) 3) ∧ p_X5_moveAll_100 (wi M (s + 1) (Int32.toNatClampNeg (M.1 wk 1)) (M.1 wk 3)) s wk x3)
theorem jn_X5_moveAll_79 {d : Nat} {J : Nat → Lc → List Value → Mm → Prop} {M : Mm} {s : Nat} {wk : Nat} {x3 : Int32} (hs : isS s) (hwk : gk wk = 6) (g : Good mX5_moveAll.1 mX5_moveAll.2.2.1 mX5_moveAll.2.2.2.1 (d + 1) J) {rv : Option Value} {M1 : Mm} (hr : Ret mX5_moveAll.2.2.1 mX5_moveAll.2.2.2.2 rv M1 J) (hp : p_X5_moveAll_79 M s wk x3) (hrv : rv = none) (hmm : M1 = w_X5_moveAll_79 M s wk x3) : ∀ (j4 : Option Value), J 79 [some (.ref 100), some (.ref s), some (.ref wk), some (.int x3), j4] [] M := by
  intro j4
  unfold p_X5_moveAll_79 at hp
  refine j_aload_n g (i := 2) (by decide +kernel) rfl ?_
  refine j_gI g f5_83 (by decide +kernel) (by decide +kernel) hwk ?_
  refine j_iconst g (n := 5) (5) (by decide +kernel) rfl ?_
  refine j_icmp_eq g (off := 16) (tgt := 100) (by decide +kernel) (by decide) (fun c84 => ?_) (fun c84 => ?_)
  · rw [if_pos (show (M.1 wk 0) = 5 from c84)] at hp
    refine jn_X5_moveAll_100 hs hwk g hr hp ?_ ?_ _
    · exact hrv
    · rw [hmm]; unfold w_X5_moveAll_79; first | (simp only [if_pos (show (M.1 wk 0) = 5 from c84)]; done) | (simp only [if_pos (show (M.1 wk 0) = 5 from c84)]; rfl) | rfl
  · rw [if_neg (show ¬ ((M.1 wk 0) = 5) from c84)] at hp
    refine j_aload_n g (i := 1) (by decide +kernel) rfl ?_
    refine j_gA g f5_77 (by decide +kernel) (by decide +kernel) (isS_F hs).1.1 (isS_F hs).2.2.1 ?_
    refine j_aload_n g (i := 2) (by decide +kernel) rfl ?_
    refine j_gI g f5_86 (by decide +kernel) (by decide +kernel) hwk ?_
    refine j_aload_n g (i := 2) (by decide +kernel) rfl ?_
    refine j_gI g f5_92 (by decide +kernel) (by decide +kernel) hwk ?_
    obtain ⟨h0, hp⟩ := hp
    refine j_is g 3 (by decide +kernel) (isS_F hs).1.2.1 (isS_F hs).2.1.1 h0 ?_
    refine jn_X5_moveAll_100 hs hwk g hr hp ?_ ?_ _
    · exact hrv
    · rw [hmm]; unfold w_X5_moveAll_79; first | (simp only [if_neg (show ¬ ((M.1 wk 0) = 5) from c84)]; done) | (simp only [if_neg (show ¬ ((M.1 wk 0) = 5) from c84)]; rfl) | rfl
noncomputable def w_X5_moveAll_66 (M : Mm) (s : Nat) (wk : Nat) (x3 : Int32) : Mm := w_X5_moveAll_79 (wi M (s + 2) (Int32.toNatClampNeg (M.1 wk 2)) (M.1 wk 3)) s wk x3
def p_X5_moveAll_66 (M : Mm) (s : Nat) (wk : Nat) (x3 : Int32) : Prop := (vp_in (M.1 wk 2) 6) ∧ p_X5_moveAll_79 (wi M (s + 2) (Int32.toNatClampNeg (M.1 wk 2)) (M.1 wk 3)) s wk x3
theorem jn_X5_moveAll_66 {d : Nat} {J : Nat → Lc → List Value → Mm → Prop} {M : Mm} {s : Nat} {wk : Nat} {x3 : Int32} (hs : isS s) (hwk : gk wk = 6) (g : Good mX5_moveAll.1 mX5_moveAll.2.2.1 mX5_moveAll.2.2.2.1 (d + 1) J) {rv : Option Value} {M1 : Mm} (hr : Ret mX5_moveAll.2.2.1 mX5_moveAll.2.2.2.2 rv M1 J) (hp : p_X5_moveAll_66 M s wk x3) (hrv : rv = none) (hmm : M1 = w_X5_moveAll_66 M s wk x3) : ∀ (j4 : Option Value), J 66 [some (.ref 100), some (.ref s), some (.ref wk), some (.int x3), j4] [] M := by
  intro j4
  unfold p_X5_moveAll_66 at hp
  refine j_aload_n g (i := 1) (by decide +kernel) rfl ?_
  refine j_gA g f5_80 (by decide +kernel) (by decide +kernel) (isS_F hs).1.1 (isS_F hs).2.2.2.1 ?_
  refine j_aload_n g (i := 2) (by decide +kernel) rfl ?_
  refine j_gI g f5_89 (by decide +kernel) (by decide +kernel) hwk ?_
  refine j_aload_n g (i := 2) (by decide +kernel) rfl ?_
  refine j_gI g f5_92 (by decide +kernel) (by decide +kernel) hwk ?_
  obtain ⟨h0, hp⟩ := hp
  refine j_is g 6 (by decide +kernel) (isS_F hs).1.2.2.1 (isS_F hs).2.1.2.1 h0 ?_
  refine jn_X5_moveAll_79 hs hwk g hr hp ?_ ?_ _
  · exact hrv
  · rw [hmm]; unfold w_X5_moveAll_66; rfl
noncomputable def w_X5_moveAll (M : Mm) (s : Nat) (wk : Nat) : Mm := if (M.1 wk 0) = 2 then (if ((l_X5_moveAll_29 s wk (M.1 (s + 2) (Int32.toNatClampNeg (M.1 wk 2))) (M, 0) (Int32.toNatClampNeg (M.1 100 1))).1.1 100 1) ≤ ((l_X5_moveAll_29 s wk (M.1 (s + 2) (Int32.toNatClampNeg (M.1 wk 2))) (M, 0) (Int32.toNatClampNeg (M.1 100 1))).2) then w_X5_moveAll_66 ((l_X5_moveAll_29 s wk (M.1 (s + 2) (Int32.toNatClampNeg (M.1 wk 2))) (M, 0) (Int32.toNatClampNeg (M.1 100 1))).1) s wk (M.1 (s + 2) (Int32.toNatClampNeg (M.1 wk 2))) else M) else if ¬ (M.1 wk 0) = 4 then w_X5_moveAll_66 M s wk (M.1 (s + 2) (Int32.toNatClampNeg (M.1 wk 2))) else if ((l_X5_moveAll_29 s wk (M.1 (s + 2) (Int32.toNatClampNeg (M.1 wk 2))) (M, 0) (Int32.toNatClampNeg (M.1 100 1))).1.1 100 1) ≤ ((l_X5_moveAll_29 s wk (M.1 (s + 2) (Int32.toNatClampNeg (M.1 wk 2))) (M, 0) (Int32.toNatClampNeg (M.1 100 1))).2) then w_X5_moveAll_66 ((l_X5_moveAll_29 s wk (M.1 (s + 2) (Int32.toNatClampNeg (M.1 wk 2))) (M, 0) (Int32.toNatClampNeg (M.1 100 1))).1) s wk (M.1 (s + 2) (Int32.toNatClampNeg (M.1 wk 2))) else M
def p_X5_moveAll (M : Mm) (s : Nat) (wk : Nat) : Prop := (vp_in (M.1 wk 2) 6) ∧ (if (M.1 wk 0) = 2 then (∀ k, k < (Int32.toNatClampNeg (M.1 100 1)) → c_X5_moveAll_29 s wk (M.1 (s + 2) (Int32.toNatClampNeg (M.1 wk 2))) (l_X5_moveAll_29 s wk (M.1 (s + 2) (Int32.toNatClampNeg (M.1 wk 2))) (M, 0) k)) ∧ (∀ k, k < (Int32.toNatClampNeg (M.1 100 1)) → q_X5_moveAll_29 s wk (M.1 (s + 2) (Int32.toNatClampNeg (M.1 wk 2))) (l_X5_moveAll_29 s wk (M.1 (s + 2) (Int32.toNatClampNeg (M.1 wk 2))) (M, 0) k)) ∧ (¬ c_X5_moveAll_29 s wk (M.1 (s + 2) (Int32.toNatClampNeg (M.1 wk 2))) (l_X5_moveAll_29 s wk (M.1 (s + 2) (Int32.toNatClampNeg (M.1 wk 2))) (M, 0) (Int32.toNatClampNeg (M.1 100 1)))) ∧ (if ((l_X5_moveAll_29 s wk (M.1 (s + 2) (Int32.toNatClampNeg (M.1 wk 2))) (M, 0) (Int32.toNatClampNeg (M.1 100 1))).1.1 100 1) ≤ ((l_X5_moveAll_29 s wk (M.1 (s + 2) (Int32.toNatClampNeg (M.1 wk 2))) (M, 0) (Int32.toNatClampNeg (M.1 100 1))).2) then p_X5_moveAll_66 ((l_X5_moveAll_29 s wk (M.1 (s + 2) (Int32.toNatClampNeg (M.1 wk 2))) (M, 0) (Int32.toNatClampNeg (M.1 100 1))).1) s wk (M.1 (s + 2) (Int32.toNatClampNeg (M.1 wk 2))) else (vp_in ((l_X5_moveAll_29 s wk (M.1 (s + 2) (Int32.toNatClampNeg (M.1 wk 2))) (M, 0) (Int32.toNatClampNeg (M.1 100 1))).2) 6) ∧ (if ¬ ((l_X5_moveAll_29 s wk (M.1 (s + 2) (Int32.toNatClampNeg (M.1 wk 2))) (M, 0) (Int32.toNatClampNeg (M.1 100 1))).1.1 (s + 2) (Int32.toNatClampNeg ((l_X5_moveAll_29 s wk (M.1 (s + 2) (Int32.toNatClampNeg (M.1 wk 2))) (M, 0) (Int32.toNatClampNeg (M.1 100 1))).2))) = (M.1 (s + 2) (Int32.toNatClampNeg (M.1 wk 2))) then True else (vp_in ((l_X5_moveAll_29 s wk (M.1 (s + 2) (Int32.toNatClampNeg (M.1 wk 2))) (M, 0) (Int32.toNatClampNeg (M.1 100 1))).2) 6) ∧ True)) else (if ¬ (M.1 wk 0) = 4 then p_X5_moveAll_66 M s wk (M.1 (s + 2) (Int32.toNatClampNeg (M.1 wk 2))) else (∀ k, k < (Int32.toNatClampNeg (M.1 100 1)) → c_X5_moveAll_29 s wk (M.1 (s + 2) (Int32.toNatClampNeg (M.1 wk 2))) (l_X5_moveAll_29 s wk (M.1 (s + 2) (Int32.toNatClampNeg (M.1 wk 2))) (M, 0) k)) ∧ (∀ k, k < (Int32.toNatClampNeg (M.1 100 1)) → q_X5_moveAll_29 s wk (M.1 (s + 2) (Int32.toNatClampNeg (M.1 wk 2))) (l_X5_moveAll_29 s wk (M.1 (s + 2) (Int32.toNatClampNeg (M.1 wk 2))) (M, 0) k)) ∧ (¬ c_X5_moveAll_29 s wk (M.1 (s + 2) (Int32.toNatClampNeg (M.1 wk 2))) (l_X5_moveAll_29 s wk (M.1 (s + 2) (Int32.toNatClampNeg (M.1 wk 2))) (M, 0) (Int32.toNatClampNeg (M.1 100 1)))) ∧ (if ((l_X5_moveAll_29 s wk (M.1 (s + 2) (Int32.toNatClampNeg (M.1 wk 2))) (M, 0) (Int32.toNatClampNeg (M.1 100 1))).1.1 100 1) ≤ ((l_X5_moveAll_29 s wk (M.1 (s + 2) (Int32.toNatClampNeg (M.1 wk 2))) (M, 0) (Int32.toNatClampNeg (M.1 100 1))).2) then p_X5_moveAll_66 ((l_X5_moveAll_29 s wk (M.1 (s + 2) (Int32.toNatClampNeg (M.1 wk 2))) (M, 0) (Int32.toNatClampNeg (M.1 100 1))).1) s wk (M.1 (s + 2) (Int32.toNatClampNeg (M.1 wk 2))) else (vp_in ((l_X5_moveAll_29 s wk (M.1 (s + 2) (Int32.toNatClampNeg (M.1 wk 2))) (M, 0) (Int32.toNatClampNeg (M.1 100 1))).2) 6) ∧ (if ¬ ((l_X5_moveAll_29 s wk (M.1 (s + 2) (Int32.toNatClampNeg (M.1 wk 2))) (M, 0) (Int32.toNatClampNeg (M.1 100 1))).1.1 (s + 2) (Int32.toNatClampNeg ((l_X5_moveAll_29 s wk (M.1 (s + 2) (Int32.toNatClampNeg (M.1 wk 2))) (M, 0) (Int32.toNatClampNeg (M.1 100 1))).2))) = (M.1 (s + 2) (Int32.toNatClampNeg (M.1 wk 2))) then True else (vp_in ((l_X5_moveAll_29 s wk (M.1 (s + 2) (Int32.toNatClampNeg (M.1 wk 2))) (M, 0) (Int32.toNatClampNeg (M.1 100 1))).2) 6) ∧ True))))
theorem rnX5_moveAll {d : Nat} {M : Mm} {s : Nat} {wk : Nat} (hs : isS s) (hwk : gk wk = 6) (hp : p_X5_moveAll M s wk) : Rn (d + 1) mX5_moveAll [.ref 100, .ref s, .ref wk] M none (w_X5_moveAll M s wk) := by
  refine Rn.of [some (.ref 100), some (.ref s), some (.ref wk), none, none] (by decide +kernel) rfl (Nat.le_of_ble_eq_true rfl) rfl (fun J g hr => ?_)
  unfold p_X5_moveAll at hp
  refine j_aload_n g (i := 1) (by decide +kernel) rfl ?_
  refine j_gA g f5_80 (by decide +kernel) (by decide +kernel) (isS_F hs).1.1 (isS_F hs).2.2.2.1 ?_
  refine j_aload_n g (i := 2) (by decide +kernel) rfl ?_
  refine j_gI g f5_89 (by decide +kernel) (by decide +kernel) hwk ?_
  obtain ⟨h0, hp⟩ := hp
  refine j_ia g 6 (by decide +kernel) (isS_F hs).1.2.2.1 (isS_F hs).2.1.2.1 h0 ?_
  refine j_istore_n g (i := 3) (by decide +kernel) (by decide) ?_
  dsimp only [stL, clL, hdL]
  refine j_aload_n g (i := 2) (by decide +kernel) rfl ?_
  refine j_gI g f5_83 (by decide +kernel) (by decide +kernel) hwk ?_
  refine j_iconst g (n := 2) (2) (by decide +kernel) rfl ?_
  refine j_icmp_eq g (off := 11) (tgt := 26) (by decide +kernel) (by decide) (fun c15 => ?_) (fun c15 => ?_)
  · rw [if_pos (show (M.1 wk 0) = 2 from c15)] at hp
    refine j_iconst g (n := 0) (0) (by decide +kernel) rfl ?_
    refine j_istore g (i := 4) (by decide +kernel) (by decide) ?_
    dsimp only [stL, clL, hdL]
    obtain ⟨h0, hp⟩ := hp
    have hc_29_1 := h0
    obtain ⟨h0, hp⟩ := hp
    have hq_29_1 := h0
    obtain ⟨h0, hp⟩ := hp
    have hx_29_1 := h0
    refine sh_X5_moveAll_29 (x3 := (M.1 (s + 2) (Int32.toNatClampNeg (M.1 wk 2)))) hs hwk g (σ0 := (M, 0)) (Int32.toNatClampNeg (M.1 100 1)) hc_29_1 hq_29_1 ?_ 
    refine j_iload g (i := 4) (by decide +kernel) rfl ?_
    refine j_aload_n g (i := 0) (by decide +kernel) rfl ?_
    refine j_gI g f5_15 (by decide +kernel) (by decide +kernel) (by decide +kernel) ?_
    refine j_icmp_ge g (off := 31) (tgt := 66) (by decide +kernel) (by decide) (fun c35 => ?_) (fun c35 => ?_)
    · rw [if_pos (show ((l_X5_moveAll_29 s wk (M.1 (s + 2) (Int32.toNatClampNeg (M.1 wk 2))) (M, 0) (Int32.toNatClampNeg (M.1 100 1))).1.1 100 1) ≤ ((l_X5_moveAll_29 s wk (M.1 (s + 2) (Int32.toNatClampNeg (M.1 wk 2))) (M, 0) (Int32.toNatClampNeg (M.1 100 1))).2) from c35)] at hp
      refine jn_X5_moveAll_66 hs hwk g hr hp ?_ ?_ _
      · rfl
      · unfold w_X5_moveAll; first | (simp only [if_pos (show (M.1 wk 0) = 2 from c15), if_pos (show ((l_X5_moveAll_29 s wk (M.1 (s + 2) (Int32.toNatClampNeg (M.1 wk 2))) (M, 0) (Int32.toNatClampNeg (M.1 100 1))).1.1 100 1) ≤ ((l_X5_moveAll_29 s wk (M.1 (s + 2) (Int32.toNatClampNeg (M.1 wk 2))) (M, 0) (Int32.toNatClampNeg (M.1 100 1))).2) from c35)]; done) | (simp only [if_pos (show (M.1 wk 0) = 2 from c15), if_pos (show ((l_X5_moveAll_29 s wk (M.1 (s + 2) (Int32.toNatClampNeg (M.1 wk 2))) (M, 0) (Int32.toNatClampNeg (M.1 100 1))).1.1 100 1) ≤ ((l_X5_moveAll_29 s wk (M.1 (s + 2) (Int32.toNatClampNeg (M.1 wk 2))) (M, 0) (Int32.toNatClampNeg (M.1 100 1))).2) from c35)]; rfl) | rfl
    · rw [if_neg (show ¬ (((l_X5_moveAll_29 s wk (M.1 (s + 2) (Int32.toNatClampNeg (M.1 wk 2))) (M, 0) (Int32.toNatClampNeg (M.1 100 1))).1.1 100 1) ≤ ((l_X5_moveAll_29 s wk (M.1 (s + 2) (Int32.toNatClampNeg (M.1 wk 2))) (M, 0) (Int32.toNatClampNeg (M.1 100 1))).2)) from c35)] at hp
      refine j_aload_n g (i := 1) (by decide +kernel) rfl ?_
      refine j_gA g f5_80 (by decide +kernel) (by decide +kernel) (isS_F hs).1.1 (isS_F hs).2.2.2.1 ?_
      refine j_iload g (i := 4) (by decide +kernel) rfl ?_
      obtain ⟨h0, hp⟩ := hp
      refine j_ia g 6 (by decide +kernel) (isS_F hs).1.2.2.1 (isS_F hs).2.1.2.1 h0 ?_
      refine j_iload_n g (i := 3) (by decide +kernel) rfl ?_
      refine j_icmp_ne g (off := 14) (tgt := 60) (by decide +kernel) (by decide) (fun c46 => ?_) (fun c46 => ?_)
      · rw [if_pos (show ¬ ((l_X5_moveAll_29 s wk (M.1 (s + 2) (Int32.toNatClampNeg (M.1 wk 2))) (M, 0) (Int32.toNatClampNeg (M.1 100 1))).1.1 (s + 2) (Int32.toNatClampNeg ((l_X5_moveAll_29 s wk (M.1 (s + 2) (Int32.toNatClampNeg (M.1 wk 2))) (M, 0) (Int32.toNatClampNeg (M.1 100 1))).2))) = (M.1 (s + 2) (Int32.toNatClampNeg (M.1 wk 2))) from c46)] at hp
        refine j_iinc g (i := 4) (n := 1) (1) (by decide +kernel) rfl (by decide) rfl ?_
        dsimp only [stL, clL, hdL]
        refine j_goto g (off := -34) (tgt := 29) (by decide +kernel) (by decide) ?_
        refine absurd (ci_X5_moveAll_29.mpr ?_) hx_29_1
        simp only [if_pos (show (M.1 wk 0) = 2 from c15), if_neg (show ¬ (((l_X5_moveAll_29 s wk (M.1 (s + 2) (Int32.toNatClampNeg (M.1 wk 2))) (M, 0) (Int32.toNatClampNeg (M.1 100 1))).1.1 100 1) ≤ ((l_X5_moveAll_29 s wk (M.1 (s + 2) (Int32.toNatClampNeg (M.1 wk 2))) (M, 0) (Int32.toNatClampNeg (M.1 100 1))).2)) from c35), if_pos (show ¬ ((l_X5_moveAll_29 s wk (M.1 (s + 2) (Int32.toNatClampNeg (M.1 wk 2))) (M, 0) (Int32.toNatClampNeg (M.1 100 1))).1.1 (s + 2) (Int32.toNatClampNeg ((l_X5_moveAll_29 s wk (M.1 (s + 2) (Int32.toNatClampNeg (M.1 wk 2))) (M, 0) (Int32.toNatClampNeg (M.1 100 1))).2))) = (M.1 (s + 2) (Int32.toNatClampNeg (M.1 wk 2))) from c46)]
      · rw [if_neg (show ¬ (¬ ((l_X5_moveAll_29 s wk (M.1 (s + 2) (Int32.toNatClampNeg (M.1 wk 2))) (M, 0) (Int32.toNatClampNeg (M.1 100 1))).1.1 (s + 2) (Int32.toNatClampNeg ((l_X5_moveAll_29 s wk (M.1 (s + 2) (Int32.toNatClampNeg (M.1 wk 2))) (M, 0) (Int32.toNatClampNeg (M.1 100 1))).2))) = (M.1 (s + 2) (Int32.toNatClampNeg (M.1 wk 2)))) from c46)] at hp
        refine j_aload_n g (i := 1) (by decide +kernel) rfl ?_
        refine j_gA g f5_80 (by decide +kernel) (by decide +kernel) (isS_F hs).1.1 (isS_F hs).2.2.2.1 ?_
        refine j_iload g (i := 4) (by decide +kernel) rfl ?_
        refine j_aload_n g (i := 2) (by decide +kernel) rfl ?_
        refine j_gI g f5_92 (by decide +kernel) (by decide +kernel) hwk ?_
        obtain ⟨h0, hp⟩ := hp
        refine j_is g 6 (by decide +kernel) (isS_F hs).1.2.2.1 (isS_F hs).2.1.2.1 h0 ?_
        refine j_iinc g (i := 4) (n := 1) (1) (by decide +kernel) rfl (by decide) rfl ?_
        dsimp only [stL, clL, hdL]
        refine j_goto g (off := -34) (tgt := 29) (by decide +kernel) (by decide) ?_
        refine absurd (ci_X5_moveAll_29.mpr ?_) hx_29_1
        simp only [if_pos (show (M.1 wk 0) = 2 from c15), if_neg (show ¬ (((l_X5_moveAll_29 s wk (M.1 (s + 2) (Int32.toNatClampNeg (M.1 wk 2))) (M, 0) (Int32.toNatClampNeg (M.1 100 1))).1.1 100 1) ≤ ((l_X5_moveAll_29 s wk (M.1 (s + 2) (Int32.toNatClampNeg (M.1 wk 2))) (M, 0) (Int32.toNatClampNeg (M.1 100 1))).2)) from c35), if_neg (show ¬ (¬ ((l_X5_moveAll_29 s wk (M.1 (s + 2) (Int32.toNatClampNeg (M.1 wk 2))) (M, 0) (Int32.toNatClampNeg (M.1 100 1))).1.1 (s + 2) (Int32.toNatClampNeg ((l_X5_moveAll_29 s wk (M.1 (s + 2) (Int32.toNatClampNeg (M.1 wk 2))) (M, 0) (Int32.toNatClampNeg (M.1 100 1))).2))) = (M.1 (s + 2) (Int32.toNatClampNeg (M.1 wk 2)))) from c46)]
  · rw [if_neg (show ¬ ((M.1 wk 0) = 2) from c15)] at hp
    refine j_aload_n g (i := 2) (by decide +kernel) rfl ?_
    refine j_gI g f5_83 (by decide +kernel) (by decide +kernel) hwk ?_
    refine j_iconst g (n := 4) (4) (by decide +kernel) rfl ?_
    refine j_icmp_ne g (off := 43) (tgt := 66) (by decide +kernel) (by decide) (fun c23 => ?_) (fun c23 => ?_)
    · rw [if_pos (show ¬ (M.1 wk 0) = 4 from c23)] at hp
      refine jn_X5_moveAll_66 hs hwk g hr hp ?_ ?_ _
      · rfl
      · unfold w_X5_moveAll; first | (simp only [if_neg (show ¬ ((M.1 wk 0) = 2) from c15), if_pos (show ¬ (M.1 wk 0) = 4 from c23)]; done) | (simp only [if_neg (show ¬ ((M.1 wk 0) = 2) from c15), if_pos (show ¬ (M.1 wk 0) = 4 from c23)]; rfl) | rfl
    · rw [if_neg (show ¬ (¬ (M.1 wk 0) = 4) from c23)] at hp
      refine j_iconst g (n := 0) (0) (by decide +kernel) rfl ?_
      refine j_istore g (i := 4) (by decide +kernel) (by decide) ?_
      dsimp only [stL, clL, hdL]
      obtain ⟨h0, hp⟩ := hp
      have hc_29_2 := h0
      obtain ⟨h0, hp⟩ := hp
      have hq_29_2 := h0
      obtain ⟨h0, hp⟩ := hp
      have hx_29_2 := h0
      refine sh_X5_moveAll_29 (x3 := (M.1 (s + 2) (Int32.toNatClampNeg (M.1 wk 2)))) hs hwk g (σ0 := (M, 0)) (Int32.toNatClampNeg (M.1 100 1)) hc_29_2 hq_29_2 ?_ 
      refine j_iload g (i := 4) (by decide +kernel) rfl ?_
      refine j_aload_n g (i := 0) (by decide +kernel) rfl ?_
      refine j_gI g f5_15 (by decide +kernel) (by decide +kernel) (by decide +kernel) ?_
      refine j_icmp_ge g (off := 31) (tgt := 66) (by decide +kernel) (by decide) (fun c35 => ?_) (fun c35 => ?_)
      · rw [if_pos (show ((l_X5_moveAll_29 s wk (M.1 (s + 2) (Int32.toNatClampNeg (M.1 wk 2))) (M, 0) (Int32.toNatClampNeg (M.1 100 1))).1.1 100 1) ≤ ((l_X5_moveAll_29 s wk (M.1 (s + 2) (Int32.toNatClampNeg (M.1 wk 2))) (M, 0) (Int32.toNatClampNeg (M.1 100 1))).2) from c35)] at hp
        refine jn_X5_moveAll_66 hs hwk g hr hp ?_ ?_ _
        · rfl
        · unfold w_X5_moveAll; first | (simp only [if_neg (show ¬ ((M.1 wk 0) = 2) from c15), if_neg (show ¬ (¬ (M.1 wk 0) = 4) from c23), if_pos (show ((l_X5_moveAll_29 s wk (M.1 (s + 2) (Int32.toNatClampNeg (M.1 wk 2))) (M, 0) (Int32.toNatClampNeg (M.1 100 1))).1.1 100 1) ≤ ((l_X5_moveAll_29 s wk (M.1 (s + 2) (Int32.toNatClampNeg (M.1 wk 2))) (M, 0) (Int32.toNatClampNeg (M.1 100 1))).2) from c35)]; done) | (simp only [if_neg (show ¬ ((M.1 wk 0) = 2) from c15), if_neg (show ¬ (¬ (M.1 wk 0) = 4) from c23), if_pos (show ((l_X5_moveAll_29 s wk (M.1 (s + 2) (Int32.toNatClampNeg (M.1 wk 2))) (M, 0) (Int32.toNatClampNeg (M.1 100 1))).1.1 100 1) ≤ ((l_X5_moveAll_29 s wk (M.1 (s + 2) (Int32.toNatClampNeg (M.1 wk 2))) (M, 0) (Int32.toNatClampNeg (M.1 100 1))).2) from c35)]; rfl) | rfl
      · rw [if_neg (show ¬ (((l_X5_moveAll_29 s wk (M.1 (s + 2) (Int32.toNatClampNeg (M.1 wk 2))) (M, 0) (Int32.toNatClampNeg (M.1 100 1))).1.1 100 1) ≤ ((l_X5_moveAll_29 s wk (M.1 (s + 2) (Int32.toNatClampNeg (M.1 wk 2))) (M, 0) (Int32.toNatClampNeg (M.1 100 1))).2)) from c35)] at hp
        refine j_aload_n g (i := 1) (by decide +kernel) rfl ?_
        refine j_gA g f5_80 (by decide +kernel) (by decide +kernel) (isS_F hs).1.1 (isS_F hs).2.2.2.1 ?_
        refine j_iload g (i := 4) (by decide +kernel) rfl ?_
        obtain ⟨h0, hp⟩ := hp
        refine j_ia g 6 (by decide +kernel) (isS_F hs).1.2.2.1 (isS_F hs).2.1.2.1 h0 ?_
        refine j_iload_n g (i := 3) (by decide +kernel) rfl ?_
        refine j_icmp_ne g (off := 14) (tgt := 60) (by decide +kernel) (by decide) (fun c46 => ?_) (fun c46 => ?_)
        · rw [if_pos (show ¬ ((l_X5_moveAll_29 s wk (M.1 (s + 2) (Int32.toNatClampNeg (M.1 wk 2))) (M, 0) (Int32.toNatClampNeg (M.1 100 1))).1.1 (s + 2) (Int32.toNatClampNeg ((l_X5_moveAll_29 s wk (M.1 (s + 2) (Int32.toNatClampNeg (M.1 wk 2))) (M, 0) (Int32.toNatClampNeg (M.1 100 1))).2))) = (M.1 (s + 2) (Int32.toNatClampNeg (M.1 wk 2))) from c46)] at hp
          refine j_iinc g (i := 4) (n := 1) (1) (by decide +kernel) rfl (by decide) rfl ?_
          dsimp only [stL, clL, hdL]
          refine j_goto g (off := -34) (tgt := 29) (by decide +kernel) (by decide) ?_
          refine absurd (ci_X5_moveAll_29.mpr ?_) hx_29_2
          simp only [if_neg (show ¬ ((M.1 wk 0) = 2) from c15), if_neg (show ¬ (¬ (M.1 wk 0) = 4) from c23), if_neg (show ¬ (((l_X5_moveAll_29 s wk (M.1 (s + 2) (Int32.toNatClampNeg (M.1 wk 2))) (M, 0) (Int32.toNatClampNeg (M.1 100 1))).1.1 100 1) ≤ ((l_X5_moveAll_29 s wk (M.1 (s + 2) (Int32.toNatClampNeg (M.1 wk 2))) (M, 0) (Int32.toNatClampNeg (M.1 100 1))).2)) from c35), if_pos (show ¬ ((l_X5_moveAll_29 s wk (M.1 (s + 2) (Int32.toNatClampNeg (M.1 wk 2))) (M, 0) (Int32.toNatClampNeg (M.1 100 1))).1.1 (s + 2) (Int32.toNatClampNeg ((l_X5_moveAll_29 s wk (M.1 (s + 2) (Int32.toNatClampNeg (M.1 wk 2))) (M, 0) (Int32.toNatClampNeg (M.1 100 1))).2))) = (M.1 (s + 2) (Int32.toNatClampNeg (M.1 wk 2))) from c46)]
        · rw [if_neg (show ¬ (¬ ((l_X5_moveAll_29 s wk (M.1 (s + 2) (Int32.toNatClampNeg (M.1 wk 2))) (M, 0) (Int32.toNatClampNeg (M.1 100 1))).1.1 (s + 2) (Int32.toNatClampNeg ((l_X5_moveAll_29 s wk (M.1 (s + 2) (Int32.toNatClampNeg (M.1 wk 2))) (M, 0) (Int32.toNatClampNeg (M.1 100 1))).2))) = (M.1 (s + 2) (Int32.toNatClampNeg (M.1 wk 2)))) from c46)] at hp
          refine j_aload_n g (i := 1) (by decide +kernel) rfl ?_
          refine j_gA g f5_80 (by decide +kernel) (by decide +kernel) (isS_F hs).1.1 (isS_F hs).2.2.2.1 ?_
          refine j_iload g (i := 4) (by decide +kernel) rfl ?_
          refine j_aload_n g (i := 2) (by decide +kernel) rfl ?_
          refine j_gI g f5_92 (by decide +kernel) (by decide +kernel) hwk ?_
          obtain ⟨h0, hp⟩ := hp
          refine j_is g 6 (by decide +kernel) (isS_F hs).1.2.2.1 (isS_F hs).2.1.2.1 h0 ?_
          refine j_iinc g (i := 4) (n := 1) (1) (by decide +kernel) rfl (by decide) rfl ?_
          dsimp only [stL, clL, hdL]
          refine j_goto g (off := -34) (tgt := 29) (by decide +kernel) (by decide) ?_
          refine absurd (ci_X5_moveAll_29.mpr ?_) hx_29_2
          simp only [if_neg (show ¬ ((M.1 wk 0) = 2) from c15), if_neg (show ¬ (¬ (M.1 wk 0) = 4) from c23), if_neg (show ¬ (((l_X5_moveAll_29 s wk (M.1 (s + 2) (Int32.toNatClampNeg (M.1 wk 2))) (M, 0) (Int32.toNatClampNeg (M.1 100 1))).1.1 100 1) ≤ ((l_X5_moveAll_29 s wk (M.1 (s + 2) (Int32.toNatClampNeg (M.1 wk 2))) (M, 0) (Int32.toNatClampNeg (M.1 100 1))).2)) from c35), if_neg (show ¬ (¬ ((l_X5_moveAll_29 s wk (M.1 (s + 2) (Int32.toNatClampNeg (M.1 wk 2))) (M, 0) (Int32.toNatClampNeg (M.1 100 1))).1.1 (s + 2) (Int32.toNatClampNeg ((l_X5_moveAll_29 s wk (M.1 (s + 2) (Int32.toNatClampNeg (M.1 wk 2))) (M, 0) (Int32.toNatClampNeg (M.1 100 1))).2))) = (M.1 (s + 2) (Int32.toNatClampNeg (M.1 wk 2)))) from c46)]
noncomputable def r_X5_minutesOf (M : Mm) (s : Nat) (a2 : Int32) : Int32 := if (M.1 (110 + Int32.toNatClampNeg a2) 0) = 1 then ((if 0 ≤ ((M.1 (s + 1) (Int32.toNatClampNeg (M.1 (110 + Int32.toNatClampNeg a2) 1))) - (M.1 (s + 2) (Int32.toNatClampNeg (M.1 (110 + Int32.toNatClampNeg a2) 2)))) then ((M.1 (s + 1) (Int32.toNatClampNeg (M.1 (110 + Int32.toNatClampNeg a2) 1))) - (M.1 (s + 2) (Int32.toNatClampNeg (M.1 (110 + Int32.toNatClampNeg a2) 2)))) else 0 - ((M.1 (s + 1) (Int32.toNatClampNeg (M.1 (110 + Int32.toNatClampNeg a2) 1))) - (M.1 (s + 2) (Int32.toNatClampNeg (M.1 (110 + Int32.toNatClampNeg a2) 2))))) + (if (M.1 101 (Int32.toNatClampNeg (M.1 (110 + Int32.toNatClampNeg a2) 1))) < 1 then ((if 0 ≤ ((M.1 (s + 2) (Int32.toNatClampNeg (M.1 (110 + Int32.toNatClampNeg a2) 2))) - (M.1 (110 + Int32.toNatClampNeg a2) 3)) then ((M.1 (s + 2) (Int32.toNatClampNeg (M.1 (110 + Int32.toNatClampNeg a2) 2))) - (M.1 (110 + Int32.toNatClampNeg a2) 3)) else 0 - ((M.1 (s + 2) (Int32.toNatClampNeg (M.1 (110 + Int32.toNatClampNeg a2) 2))) - (M.1 (110 + Int32.toNatClampNeg a2) 3))) * (M.1 102 (Int32.toNatClampNeg (M.1 (110 + Int32.toNatClampNeg a2) 2)))) else (((if 0 ≤ ((M.1 (s + 2) (Int32.toNatClampNeg (M.1 (110 + Int32.toNatClampNeg a2) 2))) - (M.1 (110 + Int32.toNatClampNeg a2) 3)) then ((M.1 (s + 2) (Int32.toNatClampNeg (M.1 (110 + Int32.toNatClampNeg a2) 2))) - (M.1 (110 + Int32.toNatClampNeg a2) 3)) else 0 - ((M.1 (s + 2) (Int32.toNatClampNeg (M.1 (110 + Int32.toNatClampNeg a2) 2))) - (M.1 (110 + Int32.toNatClampNeg a2) 3))) * (M.1 102 (Int32.toNatClampNeg (M.1 (110 + Int32.toNatClampNeg a2) 2)))) + (M.1 101 (Int32.toNatClampNeg (M.1 (110 + Int32.toNatClampNeg a2) 1))) - 1) / (M.1 101 (Int32.toNatClampNeg (M.1 (110 + Int32.toNatClampNeg a2) 1))))) + (if 0 ≤ ((M.1 (s + 1) (Int32.toNatClampNeg (r_X5_nextMover M (M.1 (110 + Int32.toNatClampNeg a2) 1)))) - (M.1 (s + 2) (Int32.toNatClampNeg (M.1 (110 + Int32.toNatClampNeg a2) 2)))) then ((M.1 (s + 1) (Int32.toNatClampNeg (r_X5_nextMover M (M.1 (110 + Int32.toNatClampNeg a2) 1)))) - (M.1 (s + 2) (Int32.toNatClampNeg (M.1 (110 + Int32.toNatClampNeg a2) 2)))) else 0 - ((M.1 (s + 1) (Int32.toNatClampNeg (r_X5_nextMover M (M.1 (110 + Int32.toNatClampNeg a2) 1)))) - (M.1 (s + 2) (Int32.toNatClampNeg (M.1 (110 + Int32.toNatClampNeg a2) 2))))) else if (M.1 (110 + Int32.toNatClampNeg a2) 0) = 2 then ((if 0 ≤ ((M.1 (s + 1) (Int32.toNatClampNeg (M.1 (110 + Int32.toNatClampNeg a2) 1))) - (M.1 (s + 2) (Int32.toNatClampNeg (M.1 (110 + Int32.toNatClampNeg a2) 2)))) then ((M.1 (s + 1) (Int32.toNatClampNeg (M.1 (110 + Int32.toNatClampNeg a2) 1))) - (M.1 (s + 2) (Int32.toNatClampNeg (M.1 (110 + Int32.toNatClampNeg a2) 2)))) else 0 - ((M.1 (s + 1) (Int32.toNatClampNeg (M.1 (110 + Int32.toNatClampNeg a2) 1))) - (M.1 (s + 2) (Int32.toNatClampNeg (M.1 (110 + Int32.toNatClampNeg a2) 2))))) + (if (M.1 101 (Int32.toNatClampNeg (M.1 (110 + Int32.toNatClampNeg a2) 1))) < 1 then ((if 0 ≤ ((M.1 (s + 2) (Int32.toNatClampNeg (M.1 (110 + Int32.toNatClampNeg a2) 2))) - (M.1 (110 + Int32.toNatClampNeg a2) 3)) then ((M.1 (s + 2) (Int32.toNatClampNeg (M.1 (110 + Int32.toNatClampNeg a2) 2))) - (M.1 (110 + Int32.toNatClampNeg a2) 3)) else 0 - ((M.1 (s + 2) (Int32.toNatClampNeg (M.1 (110 + Int32.toNatClampNeg a2) 2))) - (M.1 (110 + Int32.toNatClampNeg a2) 3))) * (M.1 102 (Int32.toNatClampNeg (M.1 (110 + Int32.toNatClampNeg a2) 2)))) else (((if 0 ≤ ((M.1 (s + 2) (Int32.toNatClampNeg (M.1 (110 + Int32.toNatClampNeg a2) 2))) - (M.1 (110 + Int32.toNatClampNeg a2) 3)) then ((M.1 (s + 2) (Int32.toNatClampNeg (M.1 (110 + Int32.toNatClampNeg a2) 2))) - (M.1 (110 + Int32.toNatClampNeg a2) 3)) else 0 - ((M.1 (s + 2) (Int32.toNatClampNeg (M.1 (110 + Int32.toNatClampNeg a2) 2))) - (M.1 (110 + Int32.toNatClampNeg a2) 3))) * (M.1 102 (Int32.toNatClampNeg (M.1 (110 + Int32.toNatClampNeg a2) 2)))) + (M.1 101 (Int32.toNatClampNeg (M.1 (110 + Int32.toNatClampNeg a2) 1))) - 1) / (M.1 101 (Int32.toNatClampNeg (M.1 (110 + Int32.toNatClampNeg a2) 1))))) + (r_X5_thingsBeside M s (M.1 (110 + Int32.toNatClampNeg a2) 2)) else if (M.1 (110 + Int32.toNatClampNeg a2) 0) = 3 then (2 : Int32) * (((if 0 ≤ ((M.1 (s + 1) (Int32.toNatClampNeg (M.1 (110 + Int32.toNatClampNeg a2) 1))) - (M.1 (s + 2) (Int32.toNatClampNeg (M.1 (110 + Int32.toNatClampNeg a2) 2)))) then ((M.1 (s + 1) (Int32.toNatClampNeg (M.1 (110 + Int32.toNatClampNeg a2) 1))) - (M.1 (s + 2) (Int32.toNatClampNeg (M.1 (110 + Int32.toNatClampNeg a2) 2)))) else 0 - ((M.1 (s + 1) (Int32.toNatClampNeg (M.1 (110 + Int32.toNatClampNeg a2) 1))) - (M.1 (s + 2) (Int32.toNatClampNeg (M.1 (110 + Int32.toNatClampNeg a2) 2))))) + (if (M.1 101 (Int32.toNatClampNeg (M.1 (110 + Int32.toNatClampNeg a2) 1))) < 1 then ((if 0 ≤ ((M.1 (s + 2) (Int32.toNatClampNeg (M.1 (110 + Int32.toNatClampNeg a2) 2))) - (M.1 (110 + Int32.toNatClampNeg a2) 3)) then ((M.1 (s + 2) (Int32.toNatClampNeg (M.1 (110 + Int32.toNatClampNeg a2) 2))) - (M.1 (110 + Int32.toNatClampNeg a2) 3)) else 0 - ((M.1 (s + 2) (Int32.toNatClampNeg (M.1 (110 + Int32.toNatClampNeg a2) 2))) - (M.1 (110 + Int32.toNatClampNeg a2) 3))) * (M.1 102 (Int32.toNatClampNeg (M.1 (110 + Int32.toNatClampNeg a2) 2)))) else (((if 0 ≤ ((M.1 (s + 2) (Int32.toNatClampNeg (M.1 (110 + Int32.toNatClampNeg a2) 2))) - (M.1 (110 + Int32.toNatClampNeg a2) 3)) then ((M.1 (s + 2) (Int32.toNatClampNeg (M.1 (110 + Int32.toNatClampNeg a2) 2))) - (M.1 (110 + Int32.toNatClampNeg a2) 3)) else 0 - ((M.1 (s + 2) (Int32.toNatClampNeg (M.1 (110 + Int32.toNatClampNeg a2) 2))) - (M.1 (110 + Int32.toNatClampNeg a2) 3))) * (M.1 102 (Int32.toNatClampNeg (M.1 (110 + Int32.toNatClampNeg a2) 2)))) + (M.1 101 (Int32.toNatClampNeg (M.1 (110 + Int32.toNatClampNeg a2) 1))) - 1) / (M.1 101 (Int32.toNatClampNeg (M.1 (110 + Int32.toNatClampNeg a2) 1))))) + (if 0 ≤ ((M.1 (s + 1) (Int32.toNatClampNeg (r_X5_nextMover M (M.1 (110 + Int32.toNatClampNeg a2) 1)))) - (M.1 (s + 2) (Int32.toNatClampNeg (M.1 (110 + Int32.toNatClampNeg a2) 2)))) then ((M.1 (s + 1) (Int32.toNatClampNeg (r_X5_nextMover M (M.1 (110 + Int32.toNatClampNeg a2) 1)))) - (M.1 (s + 2) (Int32.toNatClampNeg (M.1 (110 + Int32.toNatClampNeg a2) 2)))) else 0 - ((M.1 (s + 1) (Int32.toNatClampNeg (r_X5_nextMover M (M.1 (110 + Int32.toNatClampNeg a2) 1)))) - (M.1 (s + 2) (Int32.toNatClampNeg (M.1 (110 + Int32.toNatClampNeg a2) 2)))))) else if (M.1 (110 + Int32.toNatClampNeg a2) 0) = 4 then (if 2 < 1 then (((if 0 ≤ ((M.1 (s + 1) (Int32.toNatClampNeg (M.1 (110 + Int32.toNatClampNeg a2) 1))) - (M.1 (s + 2) (Int32.toNatClampNeg (M.1 (110 + Int32.toNatClampNeg a2) 2)))) then ((M.1 (s + 1) (Int32.toNatClampNeg (M.1 (110 + Int32.toNatClampNeg a2) 1))) - (M.1 (s + 2) (Int32.toNatClampNeg (M.1 (110 + Int32.toNatClampNeg a2) 2)))) else 0 - ((M.1 (s + 1) (Int32.toNatClampNeg (M.1 (110 + Int32.toNatClampNeg a2) 1))) - (M.1 (s + 2) (Int32.toNatClampNeg (M.1 (110 + Int32.toNatClampNeg a2) 2))))) + (if (M.1 101 (Int32.toNatClampNeg (M.1 (110 + Int32.toNatClampNeg a2) 1))) < 1 then ((if 0 ≤ ((M.1 (s + 2) (Int32.toNatClampNeg (M.1 (110 + Int32.toNatClampNeg a2) 2))) - (M.1 (110 + Int32.toNatClampNeg a2) 3)) then ((M.1 (s + 2) (Int32.toNatClampNeg (M.1 (110 + Int32.toNatClampNeg a2) 2))) - (M.1 (110 + Int32.toNatClampNeg a2) 3)) else 0 - ((M.1 (s + 2) (Int32.toNatClampNeg (M.1 (110 + Int32.toNatClampNeg a2) 2))) - (M.1 (110 + Int32.toNatClampNeg a2) 3))) * (M.1 102 (Int32.toNatClampNeg (M.1 (110 + Int32.toNatClampNeg a2) 2)))) else (((if 0 ≤ ((M.1 (s + 2) (Int32.toNatClampNeg (M.1 (110 + Int32.toNatClampNeg a2) 2))) - (M.1 (110 + Int32.toNatClampNeg a2) 3)) then ((M.1 (s + 2) (Int32.toNatClampNeg (M.1 (110 + Int32.toNatClampNeg a2) 2))) - (M.1 (110 + Int32.toNatClampNeg a2) 3)) else 0 - ((M.1 (s + 2) (Int32.toNatClampNeg (M.1 (110 + Int32.toNatClampNeg a2) 2))) - (M.1 (110 + Int32.toNatClampNeg a2) 3))) * (M.1 102 (Int32.toNatClampNeg (M.1 (110 + Int32.toNatClampNeg a2) 2)))) + (M.1 101 (Int32.toNatClampNeg (M.1 (110 + Int32.toNatClampNeg a2) 1))) - 1) / (M.1 101 (Int32.toNatClampNeg (M.1 (110 + Int32.toNatClampNeg a2) 1))))) + (r_X5_thingsBeside M s (M.1 (110 + Int32.toNatClampNeg a2) 2))) else ((((if 0 ≤ ((M.1 (s + 1) (Int32.toNatClampNeg (M.1 (110 + Int32.toNatClampNeg a2) 1))) - (M.1 (s + 2) (Int32.toNatClampNeg (M.1 (110 + Int32.toNatClampNeg a2) 2)))) then ((M.1 (s + 1) (Int32.toNatClampNeg (M.1 (110 + Int32.toNatClampNeg a2) 1))) - (M.1 (s + 2) (Int32.toNatClampNeg (M.1 (110 + Int32.toNatClampNeg a2) 2)))) else 0 - ((M.1 (s + 1) (Int32.toNatClampNeg (M.1 (110 + Int32.toNatClampNeg a2) 1))) - (M.1 (s + 2) (Int32.toNatClampNeg (M.1 (110 + Int32.toNatClampNeg a2) 2))))) + (if (M.1 101 (Int32.toNatClampNeg (M.1 (110 + Int32.toNatClampNeg a2) 1))) < 1 then ((if 0 ≤ ((M.1 (s + 2) (Int32.toNatClampNeg (M.1 (110 + Int32.toNatClampNeg a2) 2))) - (M.1 (110 + Int32.toNatClampNeg a2) 3)) then ((M.1 (s + 2) (Int32.toNatClampNeg (M.1 (110 + Int32.toNatClampNeg a2) 2))) - (M.1 (110 + Int32.toNatClampNeg a2) 3)) else 0 - ((M.1 (s + 2) (Int32.toNatClampNeg (M.1 (110 + Int32.toNatClampNeg a2) 2))) - (M.1 (110 + Int32.toNatClampNeg a2) 3))) * (M.1 102 (Int32.toNatClampNeg (M.1 (110 + Int32.toNatClampNeg a2) 2)))) else (((if 0 ≤ ((M.1 (s + 2) (Int32.toNatClampNeg (M.1 (110 + Int32.toNatClampNeg a2) 2))) - (M.1 (110 + Int32.toNatClampNeg a2) 3)) then ((M.1 (s + 2) (Int32.toNatClampNeg (M.1 (110 + Int32.toNatClampNeg a2) 2))) - (M.1 (110 + Int32.toNatClampNeg a2) 3)) else 0 - ((M.1 (s + 2) (Int32.toNatClampNeg (M.1 (110 + Int32.toNatClampNeg a2) 2))) - (M.1 (110 + Int32.toNatClampNeg a2) 3))) * (M.1 102 (Int32.toNatClampNeg (M.1 (110 + Int32.toNatClampNeg a2) 2)))) + (M.1 101 (Int32.toNatClampNeg (M.1 (110 + Int32.toNatClampNeg a2) 1))) - 1) / (M.1 101 (Int32.toNatClampNeg (M.1 (110 + Int32.toNatClampNeg a2) 1))))) + (r_X5_thingsBeside M s (M.1 (110 + Int32.toNatClampNeg a2) 2))) + 2 - 1) / 2) else if (M.1 (110 + Int32.toNatClampNeg a2) 0) = 5 then (if 0 ≤ ((M.1 (s + 2) (Int32.toNatClampNeg (M.1 (110 + Int32.toNatClampNeg a2) 2))) - (M.1 (110 + Int32.toNatClampNeg a2) 3)) then ((M.1 (s + 2) (Int32.toNatClampNeg (M.1 (110 + Int32.toNatClampNeg a2) 2))) - (M.1 (110 + Int32.toNatClampNeg a2) 3)) else 0 - ((M.1 (s + 2) (Int32.toNatClampNeg (M.1 (110 + Int32.toNatClampNeg a2) 2))) - (M.1 (110 + Int32.toNatClampNeg a2) 3))) * (M.1 102 (Int32.toNatClampNeg (M.1 (110 + Int32.toNatClampNeg a2) 2))) else (if 0 ≤ ((M.1 (s + 1) (Int32.toNatClampNeg (M.1 (110 + Int32.toNatClampNeg a2) 1))) - (M.1 (s + 2) (Int32.toNatClampNeg (M.1 (110 + Int32.toNatClampNeg a2) 2)))) then ((M.1 (s + 1) (Int32.toNatClampNeg (M.1 (110 + Int32.toNatClampNeg a2) 1))) - (M.1 (s + 2) (Int32.toNatClampNeg (M.1 (110 + Int32.toNatClampNeg a2) 2)))) else 0 - ((M.1 (s + 1) (Int32.toNatClampNeg (M.1 (110 + Int32.toNatClampNeg a2) 1))) - (M.1 (s + 2) (Int32.toNatClampNeg (M.1 (110 + Int32.toNatClampNeg a2) 2))))) + (if (M.1 101 (Int32.toNatClampNeg (M.1 (110 + Int32.toNatClampNeg a2) 1))) < 1 then ((if 0 ≤ ((M.1 (s + 2) (Int32.toNatClampNeg (M.1 (110 + Int32.toNatClampNeg a2) 2))) - (M.1 (110 + Int32.toNatClampNeg a2) 3)) then ((M.1 (s + 2) (Int32.toNatClampNeg (M.1 (110 + Int32.toNatClampNeg a2) 2))) - (M.1 (110 + Int32.toNatClampNeg a2) 3)) else 0 - ((M.1 (s + 2) (Int32.toNatClampNeg (M.1 (110 + Int32.toNatClampNeg a2) 2))) - (M.1 (110 + Int32.toNatClampNeg a2) 3))) * (M.1 102 (Int32.toNatClampNeg (M.1 (110 + Int32.toNatClampNeg a2) 2)))) else (((if 0 ≤ ((M.1 (s + 2) (Int32.toNatClampNeg (M.1 (110 + Int32.toNatClampNeg a2) 2))) - (M.1 (110 + Int32.toNatClampNeg a2) 3)) then ((M.1 (s + 2) (Int32.toNatClampNeg (M.1 (110 + Int32.toNatClampNeg a2) 2))) - (M.1 (110 + Int32.toNatClampNeg a2) 3)) else 0 - ((M.1 (s + 2) (Int32.toNatClampNeg (M.1 (110 + Int32.toNatClampNeg a2) 2))) - (M.1 (110 + Int32.toNatClampNeg a2) 3))) * (M.1 102 (Int32.toNatClampNeg (M.1 (110 + Int32.toNatClampNeg a2) 2)))) + (M.1 101 (Int32.toNatClampNeg (M.1 (110 + Int32.toNatClampNeg a2) 1))) - 1) / (M.1 101 (Int32.toNatClampNeg (M.1 (110 + Int32.toNatClampNeg a2) 1))))
noncomputable def w_X5_minutesOf (M : Mm) (s : Nat) (a2 : Int32) : Mm := if (M.1 (110 + Int32.toNatClampNeg a2) 0) = 1 then M else if (M.1 (110 + Int32.toNatClampNeg a2) 0) = 2 then M else if (M.1 (110 + Int32.toNatClampNeg a2) 0) = 3 then M else if (M.1 (110 + Int32.toNatClampNeg a2) 0) = 4 then M else if (M.1 (110 + Int32.toNatClampNeg a2) 0) = 5 then M else M
def p_X5_minutesOf (M : Mm) (s : Nat) (a2 : Int32) : Prop := (vp_in a2 6) ∧ (vp_in (M.1 (110 + Int32.toNatClampNeg a2) 2) 6) ∧ (vp_in (M.1 (110 + Int32.toNatClampNeg a2) 2) 6) ∧ (vp_in (M.1 (110 + Int32.toNatClampNeg a2) 1) 3) ∧ (vp_in (M.1 (110 + Int32.toNatClampNeg a2) 1) 3) ∧ (vp_in (r_X5_nextMover M (M.1 (110 + Int32.toNatClampNeg a2) 1)) 3) ∧ (if (M.1 (110 + Int32.toNatClampNeg a2) 0) = 1 then True else if (M.1 (110 + Int32.toNatClampNeg a2) 0) = 2 then (p_X5_thingsBeside M s (M.1 (110 + Int32.toNatClampNeg a2) 2)) ∧ True else if (M.1 (110 + Int32.toNatClampNeg a2) 0) = 3 then True else if (M.1 (110 + Int32.toNatClampNeg a2) 0) = 4 then (p_X5_thingsBeside M s (M.1 (110 + Int32.toNatClampNeg a2) 2)) ∧ True else if (M.1 (110 + Int32.toNatClampNeg a2) 0) = 5 then True else True)
theorem rnX5_minutesOf {d : Nat} {M : Mm} {s : Nat} {a2 : Int32} (hs : isS s) (hp : p_X5_minutesOf M s a2) : Rn (d + 1) mX5_minutesOf [.ref 100, .ref s, .int a2] M (some (.int (r_X5_minutesOf M s a2))) (w_X5_minutesOf M s a2) := by
  refine Rn.of [some (.ref 100), some (.ref s), some (.int a2), none, none, none, none, none] (by decide +kernel) rfl (Nat.le_of_ble_eq_true rfl) rfl (fun J g hr => ?_)
  unfold p_X5_minutesOf at hp
  refine j_aload_n g (i := 0) (by decide +kernel) rfl ?_
  refine j_gA g (b := 103) f5_33 (by decide +kernel) (by decide +kernel) (by decide +kernel) (by decide +kernel) ?_
  refine j_iload_n g (i := 2) (by decide +kernel) rfl ?_
  obtain ⟨h0, hp⟩ := hp
  refine j_aW g 6 (by decide +kernel) (by decide +kernel) (by decide +kernel) h0 (rfW103 h0) ?_
  have hw5 := h0
  refine j_astore_n g (i := 3) (by decide +kernel) (by decide) ?_
  dsimp only [stL, clL, hdL]
  refine j_aload_n g (i := 1) (by decide +kernel) rfl ?_
  refine j_gA g f5_80 (by decide +kernel) (by decide +kernel) (isS_F hs).1.1 (isS_F hs).2.2.2.1 ?_
  refine j_aload_n g (i := 3) (by decide +kernel) rfl ?_
  refine j_gI g f5_89 (by decide +kernel) (by decide +kernel) (gkW103 hw5) ?_
  obtain ⟨h0, hp⟩ := hp
  refine j_ia g 6 (by decide +kernel) (isS_F hs).1.2.2.1 (isS_F hs).2.1.2.1 h0 ?_
  refine j_istore g (i := 4) (by decide +kernel) (by decide) ?_
  dsimp only [stL, clL, hdL]
  refine j_iload g (i := 4) (by decide +kernel) rfl ?_
  refine j_aload_n g (i := 3) (by decide +kernel) rfl ?_
  refine j_gI g f5_92 (by decide +kernel) (by decide +kernel) (gkW103 hw5) ?_
  refine j_isub g (by decide +kernel) ?_
  refine j_mabs g (by omega) (Nat.le_of_ble_eq_true rfl) t5_130 (by decide +kernel) ?_
  refine j_aload_n g (i := 0) (by decide +kernel) rfl ?_
  refine j_gA g (b := 102) f5_28 (by decide +kernel) (by decide +kernel) (by decide +kernel) (by decide +kernel) ?_
  refine j_aload_n g (i := 3) (by decide +kernel) rfl ?_
  refine j_gI g f5_89 (by decide +kernel) (by decide +kernel) (gkW103 hw5) ?_
  obtain ⟨h0, hp⟩ := hp
  refine j_ia g 6 (by decide +kernel) (by decide +kernel) (by decide +kernel) h0 ?_
  refine j_imul g (by decide +kernel) ?_
  refine j_istore g (i := 5) (by decide +kernel) (by decide) ?_
  dsimp only [stL, clL, hdL]
  refine j_aload_n g (i := 1) (by decide +kernel) rfl ?_
  refine j_gA g f5_77 (by decide +kernel) (by decide +kernel) (isS_F hs).1.1 (isS_F hs).2.2.1 ?_
  refine j_aload_n g (i := 3) (by decide +kernel) rfl ?_
  refine j_gI g f5_86 (by decide +kernel) (by decide +kernel) (gkW103 hw5) ?_
  obtain ⟨h0, hp⟩ := hp
  refine j_ia g 3 (by decide +kernel) (isS_F hs).1.2.1 (isS_F hs).2.1.1 h0 ?_
  refine j_iload g (i := 4) (by decide +kernel) rfl ?_
  refine j_isub g (by decide +kernel) ?_
  refine j_mabs g (by omega) (Nat.le_of_ble_eq_true rfl) t5_130 (by decide +kernel) ?_
  refine j_iload g (i := 5) (by decide +kernel) rfl ?_
  refine j_aload_n g (i := 0) (by decide +kernel) rfl ?_
  refine j_gA g (b := 101) f5_24 (by decide +kernel) (by decide +kernel) (by decide +kernel) (by decide +kernel) ?_
  refine j_aload_n g (i := 3) (by decide +kernel) rfl ?_
  refine j_gI g f5_86 (by decide +kernel) (by decide +kernel) (gkW103 hw5) ?_
  obtain ⟨h0, hp⟩ := hp
  refine j_ia g 3 (by decide +kernel) (by decide +kernel) (by decide +kernel) h0 ?_
  refine j_cS2r g s5_134 (by decide +kernel) (Nat.le_of_ble_eq_true rfl) (rnX5_partsOf) ?_
  refine j_iadd g (by decide +kernel) ?_
  refine j_istore g (i := 6) (by decide +kernel) (by decide) ?_
  dsimp only [stL, clL, hdL]
  refine j_aload_n g (i := 1) (by decide +kernel) rfl ?_
  refine j_gA g f5_77 (by decide +kernel) (by decide +kernel) (isS_F hs).1.1 (isS_F hs).2.2.1 ?_
  refine j_aload_n g (i := 0) (by decide +kernel) rfl ?_
  refine j_aload_n g (i := 3) (by decide +kernel) rfl ?_
  refine j_gI g f5_86 (by decide +kernel) (by decide +kernel) (gkW103 hw5) ?_
  refine j_cV1r g v5_137 ⟨rfl, by decide⟩ (by decide +kernel) (by decide +kernel) (Nat.le_of_ble_eq_true rfl) (rnX5_nextMover) ?_
  obtain ⟨h0, hp⟩ := hp
  refine j_ia g 3 (by decide +kernel) (isS_F hs).1.2.1 (isS_F hs).2.1.1 h0 ?_
  refine j_iload g (i := 4) (by decide +kernel) rfl ?_
  refine j_isub g (by decide +kernel) ?_
  refine j_mabs g (by omega) (Nat.le_of_ble_eq_true rfl) t5_130 (by decide +kernel) ?_
  refine j_istore g (i := 7) (by decide +kernel) (by decide) ?_
  dsimp only [stL, clL, hdL]
  refine j_aload_n g (i := 3) (by decide +kernel) rfl ?_
  refine j_gI g f5_83 (by decide +kernel) (by decide +kernel) (gkW103 hw5) ?_
  have dsw97 : decode cX5_minutesOf 97 = .ok (.tableswitch 82 1 5 #[35, 49, 41, 62, 79], 35) := by decide +kernel
  by_cases e97_0 : (M.1 (110 + Int32.toNatClampNeg a2) 0) = 1
  · refine j_tableIn g (off := 35) (tgt := 132) dsw97 (by rw [e97_0]; decide) (by rw [e97_0]; decide) (by rw [e97_0]; decide) (by decide) ?_
    rw [if_pos e97_0] at hp
    refine j_iload g (i := 6) (by decide +kernel) rfl ?_
    refine j_iload g (i := 7) (by decide +kernel) rfl ?_
    refine j_iadd g (by decide +kernel) ?_
    refine hr.1 _ _ _ _ (by decide +kernel) ⟨_, rfl, by first | rfl | exact b2i_nar | rfl⟩ ?_ ?_
    · unfold r_X5_minutesOf; first | (simp only [if_pos e97_0]; done) | (simp only [if_pos e97_0]; rfl) | rfl
    · unfold w_X5_minutesOf; first | (simp only [if_pos e97_0]; done) | (simp only [if_pos e97_0]; rfl) | rfl
  by_cases e97_1 : (M.1 (110 + Int32.toNatClampNeg a2) 0) = 2
  · refine j_tableIn g (off := 49) (tgt := 146) dsw97 (by rw [e97_1]; decide) (by rw [e97_1]; decide) (by rw [e97_1]; decide) (by decide) ?_
    rw [if_neg e97_0, if_pos e97_1] at hp
    refine j_iload g (i := 6) (by decide +kernel) rfl ?_
    refine j_aload_n g (i := 0) (by decide +kernel) rfl ?_
    refine j_aload_n g (i := 1) (by decide +kernel) rfl ?_
    refine j_aload_n g (i := 3) (by decide +kernel) rfl ?_
    refine j_gI g f5_89 (by decide +kernel) (by decide +kernel) (gkW103 hw5) ?_
    obtain ⟨h0, hp⟩ := hp
    refine j_cV2r g v5_140 ⟨rfl, by decide⟩ (by decide +kernel) (by decide +kernel) (Nat.le_of_ble_eq_true rfl) (rnX5_thingsBeside (by first | exact hs | (simp [isS]; done)) h0) ?_
    refine j_iadd g (by decide +kernel) ?_
    refine hr.1 _ _ _ _ (by decide +kernel) ⟨_, rfl, by first | rfl | exact b2i_nar | rfl⟩ ?_ ?_
    · unfold r_X5_minutesOf; first | (simp only [if_neg e97_0, if_pos e97_1]; done) | (simp only [if_neg e97_0, if_pos e97_1]; rfl) | rfl
    · unfold w_X5_minutesOf; first | (simp only [if_neg e97_0, if_pos e97_1]; done) | (simp only [if_neg e97_0, if_pos e97_1]; rfl) | rfl
  by_cases e97_2 : (M.1 (110 + Int32.toNatClampNeg a2) 0) = 3
  · refine j_tableIn g (off := 41) (tgt := 138) dsw97 (by rw [e97_2]; decide) (by rw [e97_2]; decide) (by rw [e97_2]; decide) (by decide) ?_
    rw [if_neg e97_0, if_neg e97_1, if_pos e97_2] at hp
    refine j_iconst g (n := 2) (2) (by decide +kernel) rfl ?_
    refine j_iload g (i := 6) (by decide +kernel) rfl ?_
    refine j_iload g (i := 7) (by decide +kernel) rfl ?_
    refine j_iadd g (by decide +kernel) ?_
    refine j_imul g (by decide +kernel) ?_
    refine hr.1 _ _ _ _ (by decide +kernel) ⟨_, rfl, by first | rfl | exact b2i_nar | rfl⟩ ?_ ?_
    · unfold r_X5_minutesOf; first | (simp only [if_neg e97_0, if_neg e97_1, if_pos e97_2]; done) | (simp only [if_neg e97_0, if_neg e97_1, if_pos e97_2]; rfl) | rfl
    · unfold w_X5_minutesOf; first | (simp only [if_neg e97_0, if_neg e97_1, if_pos e97_2]; done) | (simp only [if_neg e97_0, if_neg e97_1, if_pos e97_2]; rfl) | rfl
  by_cases e97_3 : (M.1 (110 + Int32.toNatClampNeg a2) 0) = 4
  · refine j_tableIn g (off := 62) (tgt := 159) dsw97 (by rw [e97_3]; decide) (by rw [e97_3]; decide) (by rw [e97_3]; decide) (by decide) ?_
    rw [if_neg e97_0, if_neg e97_1, if_neg e97_2, if_pos e97_3] at hp
    refine j_iload g (i := 6) (by decide +kernel) rfl ?_
    refine j_aload_n g (i := 0) (by decide +kernel) rfl ?_
    refine j_aload_n g (i := 1) (by decide +kernel) rfl ?_
    refine j_aload_n g (i := 3) (by decide +kernel) rfl ?_
    refine j_gI g f5_89 (by decide +kernel) (by decide +kernel) (gkW103 hw5) ?_
    obtain ⟨h0, hp⟩ := hp
    refine j_cV2r g v5_140 ⟨rfl, by decide⟩ (by decide +kernel) (by decide +kernel) (Nat.le_of_ble_eq_true rfl) (rnX5_thingsBeside (by first | exact hs | (simp [isS]; done)) h0) ?_
    refine j_iadd g (by decide +kernel) ?_
    refine j_iconst g (n := 2) (2) (by decide +kernel) rfl ?_
    refine j_cS2r g s5_134 (by decide +kernel) (Nat.le_of_ble_eq_true rfl) (rnX5_partsOf) ?_
    refine hr.1 _ _ _ _ (by decide +kernel) ⟨_, rfl, by first | rfl | exact b2i_nar | rfl⟩ ?_ ?_
    · unfold r_X5_minutesOf; first | (simp only [if_neg e97_0, if_neg e97_1, if_neg e97_2, if_pos e97_3]; done) | (simp only [if_neg e97_0, if_neg e97_1, if_neg e97_2, if_pos e97_3]; rfl) | rfl
    · unfold w_X5_minutesOf; first | (simp only [if_neg e97_0, if_neg e97_1, if_neg e97_2, if_pos e97_3]; done) | (simp only [if_neg e97_0, if_neg e97_1, if_neg e97_2, if_pos e97_3]; rfl) | rfl
  by_cases e97_4 : (M.1 (110 + Int32.toNatClampNeg a2) 0) = 5
  · refine j_tableIn g (off := 79) (tgt := 176) dsw97 (by rw [e97_4]; decide) (by rw [e97_4]; decide) (by rw [e97_4]; decide) (by decide) ?_
    rw [if_neg e97_0, if_neg e97_1, if_neg e97_2, if_neg e97_3, if_pos e97_4] at hp
    refine j_iload g (i := 5) (by decide +kernel) rfl ?_
    refine hr.1 _ _ _ _ (by decide +kernel) ⟨_, rfl, by first | rfl | exact b2i_nar | rfl⟩ ?_ ?_
    · unfold r_X5_minutesOf; first | (simp only [if_neg e97_0, if_neg e97_1, if_neg e97_2, if_neg e97_3, if_pos e97_4]; done) | (simp only [if_neg e97_0, if_neg e97_1, if_neg e97_2, if_neg e97_3, if_pos e97_4]; rfl) | rfl
    · unfold w_X5_minutesOf; first | (simp only [if_neg e97_0, if_neg e97_1, if_neg e97_2, if_neg e97_3, if_pos e97_4]; done) | (simp only [if_neg e97_0, if_neg e97_1, if_neg e97_2, if_neg e97_3, if_pos e97_4]; rfl) | rfl
  rw [if_neg e97_0, if_neg e97_1, if_neg e97_2, if_neg e97_3, if_neg e97_4] at hp
  refine j_tableOut g (tgt := 179) dsw97 (by simp only [← Int32.toInt_inj, Int32.reduceToInt, im1, im2, im3] at e97_0 e97_1 e97_2 e97_3 e97_4; omega) (by decide) ?_
  refine j_iload g (i := 6) (by decide +kernel) rfl ?_
  refine hr.1 _ _ _ _ (by decide +kernel) ⟨_, rfl, by first | rfl | exact b2i_nar | rfl⟩ ?_ ?_
  · unfold r_X5_minutesOf; first | (simp only [if_neg e97_0, if_neg e97_1, if_neg e97_2, if_neg e97_3, if_neg e97_4]; done) | (simp only [if_neg e97_0, if_neg e97_1, if_neg e97_2, if_neg e97_3, if_neg e97_4]; rfl) | rfl
  · unfold w_X5_minutesOf; first | (simp only [if_neg e97_0, if_neg e97_1, if_neg e97_2, if_neg e97_3, if_neg e97_4]; done) | (simp only [if_neg e97_0, if_neg e97_1, if_neg e97_2, if_neg e97_3, if_neg e97_4]; rfl) | rfl
def c_X2_weightOf_5 (M : Mm) (a1 : Int32) (σ : Int64 × Int32) : Prop := if (M.1 510 4) ≤ σ.2 then False else True
theorem ci_X2_weightOf_5 {M : Mm} {a1 : Int32}  {σ : Int64 × Int32} : c_X2_weightOf_5 M a1 σ ↔ (if (M.1 510 4) ≤ σ.2 then False else True) := Iff.rfl
noncomputable def s_X2_weightOf_5 (M : Mm) (a1 : Int32) (σ : Int64 × Int32) : Int64 × Int32 := if (M.1 510 4) ≤ σ.2 then σ else if (b2i (¬ (a1 >>> (σ.2 &&& 31)) &&& 1 = 0)) = 0 then (σ.1 * (Int32.toInt64 ((8 : Int32) - (M.1 104 1))), σ.2 + 1) else (σ.1 * (Int32.toInt64 (M.1 104 1)), σ.2 + 1)
noncomputable def l_X2_weightOf_5 (M : Mm) (a1 : Int32) (σ0 : Int64 × Int32) : Nat → Int64 × Int32 := itN (fun _ σ => s_X2_weightOf_5 M a1 σ) σ0
theorem ps_X2_weightOf_5 {d : Nat} {J : Nat → Lc → List Value → Mm → Prop} {M : Mm} {a1 : Int32}  {σ : Int64 × Int32}  (g : Good mX2_weightOf.1 mX2_weightOf.2.2.1 mX2_weightOf.2.2.2.1 (d + 1) J) (hc : c_X2_weightOf_5 M a1 σ) (k : J 5 [some (.ref 510), some (.int a1), some (.long ((s_X2_weightOf_5 M a1 σ).1)), none, some (.int ((s_X2_weightOf_5 M a1 σ).2))] [] M) : J 5 [some (.ref 510), some (.int a1), some (.long σ.1), none, some (.int σ.2)] [] M := by
  unfold c_X2_weightOf_5 at hc
  unfold s_X2_weightOf_5 at k
  refine j_iload g (i := 4) (by decide +kernel) rfl ?_
  refine j_aload_n g (i := 0) (by decide +kernel) rfl ?_
  refine j_gI g f2_31 (by decide +kernel) (by decide +kernel) (by decide +kernel) ?_
  refine j_icmp_ge g (off := 47) (tgt := 58) (by decide +kernel) (by decide) (fun c11 => ?_) (fun c11 => ?_)
  · (try rw [if_pos (show (M.1 510 4) ≤ σ.2 from c11)] at hc); (try simp only [if_pos (show (M.1 510 4) ≤ σ.2 from c11)] at k)
    exact hc.elim
  · (try rw [if_neg (show ¬ ((M.1 510 4) ≤ σ.2) from c11)] at hc); (try simp only [if_neg (show ¬ ((M.1 510 4) ≤ σ.2) from c11)] at k)
    refine j_lload_n g (i := 2) (by decide +kernel) rfl ?_
    refine j_iload_n g (i := 1) (by decide +kernel) rfl ?_
    refine j_iload g (i := 4) (by decide +kernel) rfl ?_
    refine j_cS2r g s2_71 (by decide +kernel) (Nat.le_of_ble_eq_true rfl) (rnX2_isIn) ?_
    refine j_if_eq g (off := 16) (tgt := 37) (by decide +kernel) (by decide) (fun c21 => ?_) (fun c21 => ?_)
    · (try rw [if_pos (show (b2i (¬ (a1 >>> (σ.2 &&& 31)) &&& 1 = 0)) = 0 from c21)] at hc); (try simp only [if_pos (show (b2i (¬ (a1 >>> (σ.2 &&& 31)) &&& 1 = 0)) = 0 from c21)] at k)
      refine j_bipush g (n := 8) (8) (by decide +kernel) (by decide +kernel) ?_
      refine j_aload_n g (i := 0) (by decide +kernel) rfl ?_
      refine j_gA g (b := 100) f2_12 (by decide +kernel) (by decide +kernel) (by decide +kernel) (by decide +kernel) ?_
      refine j_gA g (b := 104) f2_91 (by decide +kernel) (by decide +kernel) (by decide +kernel) (by decide +kernel) ?_
      refine j_iconst g (n := 1) (1) (by decide +kernel) rfl ?_
      refine j_ia g 4 (by decide +kernel) (by decide +kernel) (by decide +kernel) (vin_b (by decide +kernel)) ?_
      refine j_isub g (by decide +kernel) ?_
      refine j_i2l g (by decide +kernel) ?_
      refine j_lmul g (by decide +kernel) ?_
      refine j_lstore_n g (i := 2) (by decide +kernel) (by decide) ?_
      dsimp only [stL, clL, hdL]
      refine j_iinc g (i := 4) (n := 1) (1) (by decide +kernel) rfl (by decide) rfl ?_
      dsimp only [stL, clL, hdL]
      refine j_goto g (off := -50) (tgt := 5) (by decide +kernel) (by decide) ?_
      exact k 
    · (try rw [if_neg (show ¬ ((b2i (¬ (a1 >>> (σ.2 &&& 31)) &&& 1 = 0)) = 0) from c21)] at hc); (try simp only [if_neg (show ¬ ((b2i (¬ (a1 >>> (σ.2 &&& 31)) &&& 1 = 0)) = 0) from c21)] at k)
      refine j_aload_n g (i := 0) (by decide +kernel) rfl ?_
      refine j_gA g (b := 100) f2_12 (by decide +kernel) (by decide +kernel) (by decide +kernel) (by decide +kernel) ?_
      refine j_gA g (b := 104) f2_91 (by decide +kernel) (by decide +kernel) (by decide +kernel) (by decide +kernel) ?_
      refine j_iconst g (n := 1) (1) (by decide +kernel) rfl ?_
      refine j_ia g 4 (by decide +kernel) (by decide +kernel) (by decide +kernel) (vin_b (by decide +kernel)) ?_
      refine j_i2l g (by decide +kernel) ?_
      refine j_goto g (off := 16) (tgt := 50) (by decide +kernel) (by decide) ?_
      refine j_lmul g (by decide +kernel) ?_
      refine j_lstore_n g (i := 2) (by decide +kernel) (by decide) ?_
      dsimp only [stL, clL, hdL]
      refine j_iinc g (i := 4) (n := 1) (1) (by decide +kernel) rfl (by decide) rfl ?_
      dsimp only [stL, clL, hdL]
      refine j_goto g (off := -50) (tgt := 5) (by decide +kernel) (by decide) ?_
      exact k 
theorem sh_X2_weightOf_5 {d : Nat} {J : Nat → Lc → List Value → Mm → Prop} {M : Mm} {a1 : Int32}  {σ0 : Int64 × Int32}  (g : Good mX2_weightOf.1 mX2_weightOf.2.2.1 mX2_weightOf.2.2.2.1 (d + 1) J) : ∀ (N : Nat), (∀ k, k < N → c_X2_weightOf_5 M a1 (l_X2_weightOf_5 M a1 σ0 k)) → (J 5 [some (.ref 510), some (.int a1), some (.long ((l_X2_weightOf_5 M a1 σ0 N).1)), none, some (.int ((l_X2_weightOf_5 M a1 σ0 N).2))] [] M) → J 5 [some (.ref 510), some (.int a1), some (.long σ0.1), none, some (.int σ0.2)] [] M
  | 0, _, k => k
  | N + 1, hc, k => sh_X2_weightOf_5  g N (fun i hi => hc i (Nat.lt_succ_of_lt hi)) (ps_X2_weightOf_5  g (hc N (Nat.lt_succ_self N)) k)
noncomputable def r_X2_weightOf (M : Mm) (a1 : Int32) : Int64 := if (M.1 510 4) ≤ ((l_X2_weightOf_5 M a1 (1, 0) (Int32.toNatClampNeg (M.1 510 4))).2) then (l_X2_weightOf_5 M a1 (1, 0) (Int32.toNatClampNeg (M.1 510 4))).1 else 0
def p_X2_weightOf (M : Mm) (a1 : Int32) : Prop := (∀ k, k < (Int32.toNatClampNeg (M.1 510 4)) → c_X2_weightOf_5 M a1 (l_X2_weightOf_5 M a1 (1, 0) k)) ∧ (¬ c_X2_weightOf_5 M a1 (l_X2_weightOf_5 M a1 (1, 0) (Int32.toNatClampNeg (M.1 510 4)))) ∧ (if (M.1 510 4) ≤ ((l_X2_weightOf_5 M a1 (1, 0) (Int32.toNatClampNeg (M.1 510 4))).2) then True else (if (b2i (¬ (a1 >>> (((l_X2_weightOf_5 M a1 (1, 0) (Int32.toNatClampNeg (M.1 510 4))).2) &&& 31)) &&& 1 = 0)) = 0 then True else True))
theorem rnX2_weightOf {d : Nat} {M : Mm} {a1 : Int32}  (hp : p_X2_weightOf M a1) : Rn (d + 1) mX2_weightOf [.ref 510, .int a1] M (some (.long (r_X2_weightOf M a1))) M := by
  refine Rn.of [some (.ref 510), some (.int a1), none, none, none] (by decide +kernel) rfl (Nat.le_of_ble_eq_true rfl) rfl (fun J g hr => ?_)
  unfold p_X2_weightOf at hp
  refine j_lconst g (n := 1) (1) (by decide +kernel) rfl ?_
  refine j_lstore_n g (i := 2) (by decide +kernel) (by decide) ?_
  dsimp only [stL, clL, hdL]
  refine j_iconst g (n := 0) (0) (by decide +kernel) rfl ?_
  refine j_istore g (i := 4) (by decide +kernel) (by decide) ?_
  dsimp only [stL, clL, hdL]
  obtain ⟨h0, hp⟩ := hp
  have hc_5_1 := h0
  obtain ⟨h0, hp⟩ := hp
  have hx_5_1 := h0
  refine sh_X2_weightOf_5   g (σ0 := (1, 0)) (Int32.toNatClampNeg (M.1 510 4)) hc_5_1  ?_ 
  refine j_iload g (i := 4) (by decide +kernel) rfl ?_
  refine j_aload_n g (i := 0) (by decide +kernel) rfl ?_
  refine j_gI g f2_31 (by decide +kernel) (by decide +kernel) (by decide +kernel) ?_
  refine j_icmp_ge g (off := 47) (tgt := 58) (by decide +kernel) (by decide) (fun c11 => ?_) (fun c11 => ?_)
  · rw [if_pos (show (M.1 510 4) ≤ ((l_X2_weightOf_5 M a1 (1, 0) (Int32.toNatClampNeg (M.1 510 4))).2) from c11)] at hp
    refine j_lload_n g (i := 2) (by decide +kernel) rfl ?_
    refine hr.2.1 _ _ _ _ (by decide +kernel) rfl ?_ ?_
    · unfold r_X2_weightOf; first | (simp only [if_pos (show (M.1 510 4) ≤ ((l_X2_weightOf_5 M a1 (1, 0) (Int32.toNatClampNeg (M.1 510 4))).2) from c11)]; done) | (simp only [if_pos (show (M.1 510 4) ≤ ((l_X2_weightOf_5 M a1 (1, 0) (Int32.toNatClampNeg (M.1 510 4))).2) from c11)]; rfl) | rfl
    · rfl
  · rw [if_neg (show ¬ ((M.1 510 4) ≤ ((l_X2_weightOf_5 M a1 (1, 0) (Int32.toNatClampNeg (M.1 510 4))).2)) from c11)] at hp
    refine j_lload_n g (i := 2) (by decide +kernel) rfl ?_
    refine j_iload_n g (i := 1) (by decide +kernel) rfl ?_
    refine j_iload g (i := 4) (by decide +kernel) rfl ?_
    refine j_cS2r g s2_71 (by decide +kernel) (Nat.le_of_ble_eq_true rfl) (rnX2_isIn) ?_
    refine j_if_eq g (off := 16) (tgt := 37) (by decide +kernel) (by decide) (fun c21 => ?_) (fun c21 => ?_)
    · rw [if_pos (show (b2i (¬ (a1 >>> (((l_X2_weightOf_5 M a1 (1, 0) (Int32.toNatClampNeg (M.1 510 4))).2) &&& 31)) &&& 1 = 0)) = 0 from c21)] at hp
      refine j_bipush g (n := 8) (8) (by decide +kernel) (by decide +kernel) ?_
      refine j_aload_n g (i := 0) (by decide +kernel) rfl ?_
      refine j_gA g (b := 100) f2_12 (by decide +kernel) (by decide +kernel) (by decide +kernel) (by decide +kernel) ?_
      refine j_gA g (b := 104) f2_91 (by decide +kernel) (by decide +kernel) (by decide +kernel) (by decide +kernel) ?_
      refine j_iconst g (n := 1) (1) (by decide +kernel) rfl ?_
      refine j_ia g 4 (by decide +kernel) (by decide +kernel) (by decide +kernel) (vin_b (by decide +kernel)) ?_
      refine j_isub g (by decide +kernel) ?_
      refine j_i2l g (by decide +kernel) ?_
      refine j_lmul g (by decide +kernel) ?_
      refine j_lstore_n g (i := 2) (by decide +kernel) (by decide) ?_
      dsimp only [stL, clL, hdL]
      refine j_iinc g (i := 4) (n := 1) (1) (by decide +kernel) rfl (by decide) rfl ?_
      dsimp only [stL, clL, hdL]
      refine j_goto g (off := -50) (tgt := 5) (by decide +kernel) (by decide) ?_
      refine absurd (ci_X2_weightOf_5.mpr ?_) hx_5_1
      simp only [if_neg (show ¬ ((M.1 510 4) ≤ ((l_X2_weightOf_5 M a1 (1, 0) (Int32.toNatClampNeg (M.1 510 4))).2)) from c11), if_pos (show (b2i (¬ (a1 >>> (((l_X2_weightOf_5 M a1 (1, 0) (Int32.toNatClampNeg (M.1 510 4))).2) &&& 31)) &&& 1 = 0)) = 0 from c21)]
    · rw [if_neg (show ¬ ((b2i (¬ (a1 >>> (((l_X2_weightOf_5 M a1 (1, 0) (Int32.toNatClampNeg (M.1 510 4))).2) &&& 31)) &&& 1 = 0)) = 0) from c21)] at hp
      refine j_aload_n g (i := 0) (by decide +kernel) rfl ?_
      refine j_gA g (b := 100) f2_12 (by decide +kernel) (by decide +kernel) (by decide +kernel) (by decide +kernel) ?_
      refine j_gA g (b := 104) f2_91 (by decide +kernel) (by decide +kernel) (by decide +kernel) (by decide +kernel) ?_
      refine j_iconst g (n := 1) (1) (by decide +kernel) rfl ?_
      refine j_ia g 4 (by decide +kernel) (by decide +kernel) (by decide +kernel) (vin_b (by decide +kernel)) ?_
      refine j_i2l g (by decide +kernel) ?_
      refine j_goto g (off := 16) (tgt := 50) (by decide +kernel) (by decide) ?_
      refine j_lmul g (by decide +kernel) ?_
      refine j_lstore_n g (i := 2) (by decide +kernel) (by decide) ?_
      dsimp only [stL, clL, hdL]
      refine j_iinc g (i := 4) (n := 1) (1) (by decide +kernel) rfl (by decide) rfl ?_
      dsimp only [stL, clL, hdL]
      refine j_goto g (off := -50) (tgt := 5) (by decide +kernel) (by decide) ?_
      refine absurd (ci_X2_weightOf_5.mpr ?_) hx_5_1
      simp only [if_neg (show ¬ ((M.1 510 4) ≤ ((l_X2_weightOf_5 M a1 (1, 0) (Int32.toNatClampNeg (M.1 510 4))).2)) from c11), if_neg (show ¬ ((b2i (¬ (a1 >>> (((l_X2_weightOf_5 M a1 (1, 0) (Int32.toNatClampNeg (M.1 510 4))).2) &&& 31)) &&& 1 = 0)) = 0) from c21)]
def c_X2_greatestKind_7 (M : Mm) (a1 : Int32) (σ : Int32 × Int32 × Int32) : Prop := if (M.1 100 2) ≤ σ.2.2 then False else True
theorem ci_X2_greatestKind_7 {M : Mm} {a1 : Int32}  {σ : Int32 × Int32 × Int32} : c_X2_greatestKind_7 M a1 σ ↔ (if (M.1 100 2) ≤ σ.2.2 then False else True) := Iff.rfl
noncomputable def s_X2_greatestKind_7 (M : Mm) (a1 : Int32) (σ : Int32 × Int32 × Int32) : Int32 × Int32 × Int32 := if (M.1 100 2) ≤ σ.2.2 then σ else if (b2i (¬ (a1 >>> (σ.2.2 &&& 31)) &&& 1 = 0)) = 0 then (σ.1, σ.2.1, σ.2.2 + 1) else if (M.1 (110 + Int32.toNatClampNeg σ.2.2) 0) < σ.1 then (σ.1, σ.2.1, σ.2.2 + 1) else if (M.1 (110 + Int32.toNatClampNeg σ.2.2) 0) ≤ σ.1 then (M.1 (110 + Int32.toNatClampNeg σ.2.2) 0, σ.2.1 ||| ((1 : Int32) <<< (σ.2.2 &&& 31)), σ.2.2 + 1) else (M.1 (110 + Int32.toNatClampNeg σ.2.2) 0, (0 : Int32) ||| ((1 : Int32) <<< (σ.2.2 &&& 31)), σ.2.2 + 1)
def q_X2_greatestKind_7 (M : Mm) (a1 : Int32) (σ : Int32 × Int32 × Int32) : Prop := (if (M.1 100 2) ≤ σ.2.2 then True else (if (b2i (¬ (a1 >>> (σ.2.2 &&& 31)) &&& 1 = 0)) = 0 then True else (vp_in σ.2.2 6) ∧ (if (M.1 (110 + Int32.toNatClampNeg σ.2.2) 0) < σ.1 then True else (vp_in σ.2.2 6) ∧ (if (M.1 (110 + Int32.toNatClampNeg σ.2.2) 0) ≤ σ.1 then (vp_in σ.2.2 6) ∧ True else (vp_in σ.2.2 6) ∧ True))))
noncomputable def l_X2_greatestKind_7 (M : Mm) (a1 : Int32) (σ0 : Int32 × Int32 × Int32) : Nat → Int32 × Int32 × Int32 := itN (fun _ σ => s_X2_greatestKind_7 M a1 σ) σ0
theorem ps_X2_greatestKind_7 {d : Nat} {J : Nat → Lc → List Value → Mm → Prop} {M : Mm} {a1 : Int32}  {σ : Int32 × Int32 × Int32}  (g : Good mX2_greatestKind.1 mX2_greatestKind.2.2.1 mX2_greatestKind.2.2.2.1 (d + 1) J) (hc : c_X2_greatestKind_7 M a1 σ) (hp : q_X2_greatestKind_7 M a1 σ) (k : J 7 [some (.ref 510), some (.int a1), some (.int ((s_X2_greatestKind_7 M a1 σ).1)), some (.int ((s_X2_greatestKind_7 M a1 σ).2.1)), some (.int ((s_X2_greatestKind_7 M a1 σ).2.2))] [] M) : J 7 [some (.ref 510), some (.int a1), some (.int σ.1), some (.int σ.2.1), some (.int σ.2.2)] [] M := by
  unfold c_X2_greatestKind_7 at hc
  unfold q_X2_greatestKind_7 at hp
  unfold s_X2_greatestKind_7 at k
  refine j_iload g (i := 4) (by decide +kernel) rfl ?_
  refine j_aload_n g (i := 0) (by decide +kernel) rfl ?_
  refine j_gA g (b := 100) f2_12 (by decide +kernel) (by decide +kernel) (by decide +kernel) (by decide +kernel) ?_
  refine j_gI g f2_129 (by decide +kernel) (by decide +kernel) (by decide +kernel) ?_
  refine j_icmp_ge g (off := 79) (tgt := 95) (by decide +kernel) (by decide) (fun c16 => ?_) (fun c16 => ?_)
  · (try rw [if_pos (show (M.1 100 2) ≤ σ.2.2 from c16)] at hc); (rw [if_pos (show (M.1 100 2) ≤ σ.2.2 from c16)] at hp); (try simp only [if_pos (show (M.1 100 2) ≤ σ.2.2 from c16)] at k)
    exact hc.elim
  · (try rw [if_neg (show ¬ ((M.1 100 2) ≤ σ.2.2) from c16)] at hc); (rw [if_neg (show ¬ ((M.1 100 2) ≤ σ.2.2) from c16)] at hp); (try simp only [if_neg (show ¬ ((M.1 100 2) ≤ σ.2.2) from c16)] at k)
    refine j_iload_n g (i := 1) (by decide +kernel) rfl ?_
    refine j_iload g (i := 4) (by decide +kernel) rfl ?_
    refine j_cS2r g s2_71 (by decide +kernel) (Nat.le_of_ble_eq_true rfl) (rnX2_isIn) ?_
    refine j_if_eq g (off := 64) (tgt := 89) (by decide +kernel) (by decide) (fun c25 => ?_) (fun c25 => ?_)
    · (try rw [if_pos (show (b2i (¬ (a1 >>> (σ.2.2 &&& 31)) &&& 1 = 0)) = 0 from c25)] at hc); (rw [if_pos (show (b2i (¬ (a1 >>> (σ.2.2 &&& 31)) &&& 1 = 0)) = 0 from c25)] at hp); (try simp only [if_pos (show (b2i (¬ (a1 >>> (σ.2.2 &&& 31)) &&& 1 = 0)) = 0 from c25)] at k)
      refine j_iinc g (i := 4) (n := 1) (1) (by decide +kernel) rfl (by decide) rfl ?_
      dsimp only [stL, clL, hdL]
      refine j_goto g (off := -85) (tgt := 7) (by decide +kernel) (by decide) ?_
      exact k 
    · (try rw [if_neg (show ¬ ((b2i (¬ (a1 >>> (σ.2.2 &&& 31)) &&& 1 = 0)) = 0) from c25)] at hc); (rw [if_neg (show ¬ ((b2i (¬ (a1 >>> (σ.2.2 &&& 31)) &&& 1 = 0)) = 0) from c25)] at hp); (try simp only [if_neg (show ¬ ((b2i (¬ (a1 >>> (σ.2.2 &&& 31)) &&& 1 = 0)) = 0) from c25)] at k)
      refine j_aload_n g (i := 0) (by decide +kernel) rfl ?_
      refine j_gA g (b := 100) f2_12 (by decide +kernel) (by decide +kernel) (by decide +kernel) (by decide +kernel) ?_
      refine j_gA g (b := 103) f2_75 (by decide +kernel) (by decide +kernel) (by decide +kernel) (by decide +kernel) ?_
      refine j_iload g (i := 4) (by decide +kernel) rfl ?_
      obtain ⟨h0, hp⟩ := hp
      refine j_aW g 6 (by decide +kernel) (by decide +kernel) (by decide +kernel) h0 (rfW103 h0) ?_
      have hw37 := h0
      refine j_gI g f2_186 (by decide +kernel) (by decide +kernel) (gkW103 hw37) ?_
      refine j_iload_n g (i := 2) (by decide +kernel) rfl ?_
      refine j_icmp_lt g (off := 47) (tgt := 89) (by decide +kernel) (by decide) (fun c42 => ?_) (fun c42 => ?_)
      · (try rw [if_pos (show (M.1 (110 + Int32.toNatClampNeg σ.2.2) 0) < σ.1 from c42)] at hc); (rw [if_pos (show (M.1 (110 + Int32.toNatClampNeg σ.2.2) 0) < σ.1 from c42)] at hp); (try simp only [if_pos (show (M.1 (110 + Int32.toNatClampNeg σ.2.2) 0) < σ.1 from c42)] at k)
        refine j_iinc g (i := 4) (n := 1) (1) (by decide +kernel) rfl (by decide) rfl ?_
        dsimp only [stL, clL, hdL]
        refine j_goto g (off := -85) (tgt := 7) (by decide +kernel) (by decide) ?_
        exact k 
      · (try rw [if_neg (show ¬ ((M.1 (110 + Int32.toNatClampNeg σ.2.2) 0) < σ.1) from c42)] at hc); (rw [if_neg (show ¬ ((M.1 (110 + Int32.toNatClampNeg σ.2.2) 0) < σ.1) from c42)] at hp); (try simp only [if_neg (show ¬ ((M.1 (110 + Int32.toNatClampNeg σ.2.2) 0) < σ.1) from c42)] at k)
        refine j_aload_n g (i := 0) (by decide +kernel) rfl ?_
        refine j_gA g (b := 100) f2_12 (by decide +kernel) (by decide +kernel) (by decide +kernel) (by decide +kernel) ?_
        refine j_gA g (b := 103) f2_75 (by decide +kernel) (by decide +kernel) (by decide +kernel) (by decide +kernel) ?_
        refine j_iload g (i := 4) (by decide +kernel) rfl ?_
        obtain ⟨h0, hp⟩ := hp
        refine j_aW g 6 (by decide +kernel) (by decide +kernel) (by decide +kernel) h0 (rfW103 h0) ?_
        have hw54 := h0
        refine j_gI g f2_186 (by decide +kernel) (by decide +kernel) (gkW103 hw54) ?_
        refine j_iload_n g (i := 2) (by decide +kernel) rfl ?_
        refine j_icmp_le g (off := 7) (tgt := 66) (by decide +kernel) (by decide) (fun c59 => ?_) (fun c59 => ?_)
        · (try rw [if_pos (show (M.1 (110 + Int32.toNatClampNeg σ.2.2) 0) ≤ σ.1 from c59)] at hc); (rw [if_pos (show (M.1 (110 + Int32.toNatClampNeg σ.2.2) 0) ≤ σ.1 from c59)] at hp); (try simp only [if_pos (show (M.1 (110 + Int32.toNatClampNeg σ.2.2) 0) ≤ σ.1 from c59)] at k)
          refine j_iload_n g (i := 3) (by decide +kernel) rfl ?_
          refine j_istore_n g (i := 3) (by decide +kernel) (by decide) ?_
          dsimp only [stL, clL, hdL]
          refine j_aload_n g (i := 0) (by decide +kernel) rfl ?_
          refine j_gA g (b := 100) f2_12 (by decide +kernel) (by decide +kernel) (by decide +kernel) (by decide +kernel) ?_
          refine j_gA g (b := 103) f2_75 (by decide +kernel) (by decide +kernel) (by decide +kernel) (by decide +kernel) ?_
          refine j_iload g (i := 4) (by decide +kernel) rfl ?_
          obtain ⟨h0, hp⟩ := hp
          refine j_aW g 6 (by decide +kernel) (by decide +kernel) (by decide +kernel) h0 (rfW103 h0) ?_
          have hw77 := h0
          refine j_gI g f2_186 (by decide +kernel) (by decide +kernel) (gkW103 hw77) ?_
          refine j_istore_n g (i := 2) (by decide +kernel) (by decide) ?_
          dsimp only [stL, clL, hdL]
          refine j_iload_n g (i := 3) (by decide +kernel) rfl ?_
          refine j_iconst g (n := 1) (1) (by decide +kernel) rfl ?_
          refine j_iload g (i := 4) (by decide +kernel) rfl ?_
          refine j_ishl g (by decide +kernel) ?_
          refine j_ior g (by decide +kernel) ?_
          refine j_istore_n g (i := 3) (by decide +kernel) (by decide) ?_
          dsimp only [stL, clL, hdL]
          refine j_iinc g (i := 4) (n := 1) (1) (by decide +kernel) rfl (by decide) rfl ?_
          dsimp only [stL, clL, hdL]
          refine j_goto g (off := -85) (tgt := 7) (by decide +kernel) (by decide) ?_
          exact k 
        · (try rw [if_neg (show ¬ ((M.1 (110 + Int32.toNatClampNeg σ.2.2) 0) ≤ σ.1) from c59)] at hc); (rw [if_neg (show ¬ ((M.1 (110 + Int32.toNatClampNeg σ.2.2) 0) ≤ σ.1) from c59)] at hp); (try simp only [if_neg (show ¬ ((M.1 (110 + Int32.toNatClampNeg σ.2.2) 0) ≤ σ.1) from c59)] at k)
          refine j_iconst g (n := 0) (0) (by decide +kernel) rfl ?_
          refine j_goto g (off := 4) (tgt := 67) (by decide +kernel) (by decide) ?_
          refine j_istore_n g (i := 3) (by decide +kernel) (by decide) ?_
          dsimp only [stL, clL, hdL]
          refine j_aload_n g (i := 0) (by decide +kernel) rfl ?_
          refine j_gA g (b := 100) f2_12 (by decide +kernel) (by decide +kernel) (by decide +kernel) (by decide +kernel) ?_
          refine j_gA g (b := 103) f2_75 (by decide +kernel) (by decide +kernel) (by decide +kernel) (by decide +kernel) ?_
          refine j_iload g (i := 4) (by decide +kernel) rfl ?_
          obtain ⟨h0, hp⟩ := hp
          refine j_aW g 6 (by decide +kernel) (by decide +kernel) (by decide +kernel) h0 (rfW103 h0) ?_
          have hw77 := h0
          refine j_gI g f2_186 (by decide +kernel) (by decide +kernel) (gkW103 hw77) ?_
          refine j_istore_n g (i := 2) (by decide +kernel) (by decide) ?_
          dsimp only [stL, clL, hdL]
          refine j_iload_n g (i := 3) (by decide +kernel) rfl ?_
          refine j_iconst g (n := 1) (1) (by decide +kernel) rfl ?_
          refine j_iload g (i := 4) (by decide +kernel) rfl ?_
          refine j_ishl g (by decide +kernel) ?_
          refine j_ior g (by decide +kernel) ?_
          refine j_istore_n g (i := 3) (by decide +kernel) (by decide) ?_
          dsimp only [stL, clL, hdL]
          refine j_iinc g (i := 4) (n := 1) (1) (by decide +kernel) rfl (by decide) rfl ?_
          dsimp only [stL, clL, hdL]
          refine j_goto g (off := -85) (tgt := 7) (by decide +kernel) (by decide) ?_
          exact k 
theorem sh_X2_greatestKind_7 {d : Nat} {J : Nat → Lc → List Value → Mm → Prop} {M : Mm} {a1 : Int32}  {σ0 : Int32 × Int32 × Int32}  (g : Good mX2_greatestKind.1 mX2_greatestKind.2.2.1 mX2_greatestKind.2.2.2.1 (d + 1) J) : ∀ (N : Nat), (∀ k, k < N → c_X2_greatestKind_7 M a1 (l_X2_greatestKind_7 M a1 σ0 k)) → (∀ k, k < N → q_X2_greatestKind_7 M a1 (l_X2_greatestKind_7 M a1 σ0 k)) → (J 7 [some (.ref 510), some (.int a1), some (.int ((l_X2_greatestKind_7 M a1 σ0 N).1)), some (.int ((l_X2_greatestKind_7 M a1 σ0 N).2.1)), some (.int ((l_X2_greatestKind_7 M a1 σ0 N).2.2))] [] M) → J 7 [some (.ref 510), some (.int a1), some (.int σ0.1), some (.int σ0.2.1), some (.int σ0.2.2)] [] M
  | 0, _, _, k => k
  | N + 1, hc, hp, k => sh_X2_greatestKind_7  g N (fun i hi => hc i (Nat.lt_succ_of_lt hi)) (fun i hi => hp i (Nat.lt_succ_of_lt hi)) (ps_X2_greatestKind_7  g (hc N (Nat.lt_succ_self N)) (hp N (Nat.lt_succ_self N)) k)
noncomputable def r_X2_greatestKind (M : Mm) (a1 : Int32) : Int32 := if (M.1 100 2) ≤ ((l_X2_greatestKind_7 M a1 ((-1), 0, 0) (Int32.toNatClampNeg (M.1 100 2))).2.2) then (l_X2_greatestKind_7 M a1 ((-1), 0, 0) (Int32.toNatClampNeg (M.1 100 2))).2.1 else 0
def p_X2_greatestKind (M : Mm) (a1 : Int32) : Prop := (∀ k, k < (Int32.toNatClampNeg (M.1 100 2)) → c_X2_greatestKind_7 M a1 (l_X2_greatestKind_7 M a1 ((-1), 0, 0) k)) ∧ (∀ k, k < (Int32.toNatClampNeg (M.1 100 2)) → q_X2_greatestKind_7 M a1 (l_X2_greatestKind_7 M a1 ((-1), 0, 0) k)) ∧ (¬ c_X2_greatestKind_7 M a1 (l_X2_greatestKind_7 M a1 ((-1), 0, 0) (Int32.toNatClampNeg (M.1 100 2)))) ∧ (if (M.1 100 2) ≤ ((l_X2_greatestKind_7 M a1 ((-1), 0, 0) (Int32.toNatClampNeg (M.1 100 2))).2.2) then True else (if (b2i (¬ (a1 >>> (((l_X2_greatestKind_7 M a1 ((-1), 0, 0) (Int32.toNatClampNeg (M.1 100 2))).2.2) &&& 31)) &&& 1 = 0)) = 0 then True else (vp_in ((l_X2_greatestKind_7 M a1 ((-1), 0, 0) (Int32.toNatClampNeg (M.1 100 2))).2.2) 6) ∧ (if (M.1 (110 + Int32.toNatClampNeg ((l_X2_greatestKind_7 M a1 ((-1), 0, 0) (Int32.toNatClampNeg (M.1 100 2))).2.2)) 0) < ((l_X2_greatestKind_7 M a1 ((-1), 0, 0) (Int32.toNatClampNeg (M.1 100 2))).1) then True else (vp_in ((l_X2_greatestKind_7 M a1 ((-1), 0, 0) (Int32.toNatClampNeg (M.1 100 2))).2.2) 6) ∧ (if (M.1 (110 + Int32.toNatClampNeg ((l_X2_greatestKind_7 M a1 ((-1), 0, 0) (Int32.toNatClampNeg (M.1 100 2))).2.2)) 0) ≤ ((l_X2_greatestKind_7 M a1 ((-1), 0, 0) (Int32.toNatClampNeg (M.1 100 2))).1) then (vp_in ((l_X2_greatestKind_7 M a1 ((-1), 0, 0) (Int32.toNatClampNeg (M.1 100 2))).2.2) 6) ∧ True else (vp_in ((l_X2_greatestKind_7 M a1 ((-1), 0, 0) (Int32.toNatClampNeg (M.1 100 2))).2.2) 6) ∧ True))))
theorem rnX2_greatestKind {d : Nat} {M : Mm} {a1 : Int32}  (hp : p_X2_greatestKind M a1) : Rn (d + 1) mX2_greatestKind [.ref 510, .int a1] M (some (.int (r_X2_greatestKind M a1))) M := by
  refine Rn.of [some (.ref 510), some (.int a1), none, none, none] (by decide +kernel) rfl (Nat.le_of_ble_eq_true rfl) rfl (fun J g hr => ?_)
  unfold p_X2_greatestKind at hp
  refine j_iconst g (n := -1) (-1) (by decide +kernel) rfl ?_
  refine j_istore_n g (i := 2) (by decide +kernel) (by decide) ?_
  dsimp only [stL, clL, hdL]
  refine j_iconst g (n := 0) (0) (by decide +kernel) rfl ?_
  refine j_istore_n g (i := 3) (by decide +kernel) (by decide) ?_
  dsimp only [stL, clL, hdL]
  refine j_iconst g (n := 0) (0) (by decide +kernel) rfl ?_
  refine j_istore g (i := 4) (by decide +kernel) (by decide) ?_
  dsimp only [stL, clL, hdL]
  obtain ⟨h0, hp⟩ := hp
  have hc_7_1 := h0
  obtain ⟨h0, hp⟩ := hp
  have hq_7_1 := h0
  obtain ⟨h0, hp⟩ := hp
  have hx_7_1 := h0
  refine sh_X2_greatestKind_7   g (σ0 := ((-1), 0, 0)) (Int32.toNatClampNeg (M.1 100 2)) hc_7_1 hq_7_1 ?_ 
  refine j_iload g (i := 4) (by decide +kernel) rfl ?_
  refine j_aload_n g (i := 0) (by decide +kernel) rfl ?_
  refine j_gA g (b := 100) f2_12 (by decide +kernel) (by decide +kernel) (by decide +kernel) (by decide +kernel) ?_
  refine j_gI g f2_129 (by decide +kernel) (by decide +kernel) (by decide +kernel) ?_
  refine j_icmp_ge g (off := 79) (tgt := 95) (by decide +kernel) (by decide) (fun c16 => ?_) (fun c16 => ?_)
  · rw [if_pos (show (M.1 100 2) ≤ ((l_X2_greatestKind_7 M a1 ((-1), 0, 0) (Int32.toNatClampNeg (M.1 100 2))).2.2) from c16)] at hp
    refine j_iload_n g (i := 3) (by decide +kernel) rfl ?_
    refine hr.1 _ _ _ _ (by decide +kernel) ⟨_, rfl, by first | rfl | exact b2i_nar | decide +kernel⟩ ?_ ?_
    · unfold r_X2_greatestKind; first | (simp only [if_pos (show (M.1 100 2) ≤ ((l_X2_greatestKind_7 M a1 ((-1), 0, 0) (Int32.toNatClampNeg (M.1 100 2))).2.2) from c16)]; done) | (simp only [if_pos (show (M.1 100 2) ≤ ((l_X2_greatestKind_7 M a1 ((-1), 0, 0) (Int32.toNatClampNeg (M.1 100 2))).2.2) from c16)]; rfl) | rfl
    · rfl
  · rw [if_neg (show ¬ ((M.1 100 2) ≤ ((l_X2_greatestKind_7 M a1 ((-1), 0, 0) (Int32.toNatClampNeg (M.1 100 2))).2.2)) from c16)] at hp
    refine j_iload_n g (i := 1) (by decide +kernel) rfl ?_
    refine j_iload g (i := 4) (by decide +kernel) rfl ?_
    refine j_cS2r g s2_71 (by decide +kernel) (Nat.le_of_ble_eq_true rfl) (rnX2_isIn) ?_
    refine j_if_eq g (off := 64) (tgt := 89) (by decide +kernel) (by decide) (fun c25 => ?_) (fun c25 => ?_)
    · rw [if_pos (show (b2i (¬ (a1 >>> (((l_X2_greatestKind_7 M a1 ((-1), 0, 0) (Int32.toNatClampNeg (M.1 100 2))).2.2) &&& 31)) &&& 1 = 0)) = 0 from c25)] at hp
      refine j_iinc g (i := 4) (n := 1) (1) (by decide +kernel) rfl (by decide) rfl ?_
      dsimp only [stL, clL, hdL]
      refine j_goto g (off := -85) (tgt := 7) (by decide +kernel) (by decide) ?_
      refine absurd (ci_X2_greatestKind_7.mpr ?_) hx_7_1
      simp only [if_neg (show ¬ ((M.1 100 2) ≤ ((l_X2_greatestKind_7 M a1 ((-1), 0, 0) (Int32.toNatClampNeg (M.1 100 2))).2.2)) from c16), if_pos (show (b2i (¬ (a1 >>> (((l_X2_greatestKind_7 M a1 ((-1), 0, 0) (Int32.toNatClampNeg (M.1 100 2))).2.2) &&& 31)) &&& 1 = 0)) = 0 from c25)]
    · rw [if_neg (show ¬ ((b2i (¬ (a1 >>> (((l_X2_greatestKind_7 M a1 ((-1), 0, 0) (Int32.toNatClampNeg (M.1 100 2))).2.2) &&& 31)) &&& 1 = 0)) = 0) from c25)] at hp
      refine j_aload_n g (i := 0) (by decide +kernel) rfl ?_
      refine j_gA g (b := 100) f2_12 (by decide +kernel) (by decide +kernel) (by decide +kernel) (by decide +kernel) ?_
      refine j_gA g (b := 103) f2_75 (by decide +kernel) (by decide +kernel) (by decide +kernel) (by decide +kernel) ?_
      refine j_iload g (i := 4) (by decide +kernel) rfl ?_
      obtain ⟨h0, hp⟩ := hp
      refine j_aW g 6 (by decide +kernel) (by decide +kernel) (by decide +kernel) h0 (rfW103 h0) ?_
      have hw37 := h0
      refine j_gI g f2_186 (by decide +kernel) (by decide +kernel) (gkW103 hw37) ?_
      refine j_iload_n g (i := 2) (by decide +kernel) rfl ?_
      refine j_icmp_lt g (off := 47) (tgt := 89) (by decide +kernel) (by decide) (fun c42 => ?_) (fun c42 => ?_)
      · rw [if_pos (show (M.1 (110 + Int32.toNatClampNeg ((l_X2_greatestKind_7 M a1 ((-1), 0, 0) (Int32.toNatClampNeg (M.1 100 2))).2.2)) 0) < ((l_X2_greatestKind_7 M a1 ((-1), 0, 0) (Int32.toNatClampNeg (M.1 100 2))).1) from c42)] at hp
        refine j_iinc g (i := 4) (n := 1) (1) (by decide +kernel) rfl (by decide) rfl ?_
        dsimp only [stL, clL, hdL]
        refine j_goto g (off := -85) (tgt := 7) (by decide +kernel) (by decide) ?_
        refine absurd (ci_X2_greatestKind_7.mpr ?_) hx_7_1
        simp only [if_neg (show ¬ ((M.1 100 2) ≤ ((l_X2_greatestKind_7 M a1 ((-1), 0, 0) (Int32.toNatClampNeg (M.1 100 2))).2.2)) from c16), if_neg (show ¬ ((b2i (¬ (a1 >>> (((l_X2_greatestKind_7 M a1 ((-1), 0, 0) (Int32.toNatClampNeg (M.1 100 2))).2.2) &&& 31)) &&& 1 = 0)) = 0) from c25), if_pos (show (M.1 (110 + Int32.toNatClampNeg ((l_X2_greatestKind_7 M a1 ((-1), 0, 0) (Int32.toNatClampNeg (M.1 100 2))).2.2)) 0) < ((l_X2_greatestKind_7 M a1 ((-1), 0, 0) (Int32.toNatClampNeg (M.1 100 2))).1) from c42)]
      · rw [if_neg (show ¬ ((M.1 (110 + Int32.toNatClampNeg ((l_X2_greatestKind_7 M a1 ((-1), 0, 0) (Int32.toNatClampNeg (M.1 100 2))).2.2)) 0) < ((l_X2_greatestKind_7 M a1 ((-1), 0, 0) (Int32.toNatClampNeg (M.1 100 2))).1)) from c42)] at hp
        refine j_aload_n g (i := 0) (by decide +kernel) rfl ?_
        refine j_gA g (b := 100) f2_12 (by decide +kernel) (by decide +kernel) (by decide +kernel) (by decide +kernel) ?_
        refine j_gA g (b := 103) f2_75 (by decide +kernel) (by decide +kernel) (by decide +kernel) (by decide +kernel) ?_
        refine j_iload g (i := 4) (by decide +kernel) rfl ?_
        obtain ⟨h0, hp⟩ := hp
        refine j_aW g 6 (by decide +kernel) (by decide +kernel) (by decide +kernel) h0 (rfW103 h0) ?_
        have hw54 := h0
        refine j_gI g f2_186 (by decide +kernel) (by decide +kernel) (gkW103 hw54) ?_
        refine j_iload_n g (i := 2) (by decide +kernel) rfl ?_
        refine j_icmp_le g (off := 7) (tgt := 66) (by decide +kernel) (by decide) (fun c59 => ?_) (fun c59 => ?_)
        · rw [if_pos (show (M.1 (110 + Int32.toNatClampNeg ((l_X2_greatestKind_7 M a1 ((-1), 0, 0) (Int32.toNatClampNeg (M.1 100 2))).2.2)) 0) ≤ ((l_X2_greatestKind_7 M a1 ((-1), 0, 0) (Int32.toNatClampNeg (M.1 100 2))).1) from c59)] at hp
          refine j_iload_n g (i := 3) (by decide +kernel) rfl ?_
          refine j_istore_n g (i := 3) (by decide +kernel) (by decide) ?_
          dsimp only [stL, clL, hdL]
          refine j_aload_n g (i := 0) (by decide +kernel) rfl ?_
          refine j_gA g (b := 100) f2_12 (by decide +kernel) (by decide +kernel) (by decide +kernel) (by decide +kernel) ?_
          refine j_gA g (b := 103) f2_75 (by decide +kernel) (by decide +kernel) (by decide +kernel) (by decide +kernel) ?_
          refine j_iload g (i := 4) (by decide +kernel) rfl ?_
          obtain ⟨h0, hp⟩ := hp
          refine j_aW g 6 (by decide +kernel) (by decide +kernel) (by decide +kernel) h0 (rfW103 h0) ?_
          have hw77 := h0
          refine j_gI g f2_186 (by decide +kernel) (by decide +kernel) (gkW103 hw77) ?_
          refine j_istore_n g (i := 2) (by decide +kernel) (by decide) ?_
          dsimp only [stL, clL, hdL]
          refine j_iload_n g (i := 3) (by decide +kernel) rfl ?_
          refine j_iconst g (n := 1) (1) (by decide +kernel) rfl ?_
          refine j_iload g (i := 4) (by decide +kernel) rfl ?_
          refine j_ishl g (by decide +kernel) ?_
          refine j_ior g (by decide +kernel) ?_
          refine j_istore_n g (i := 3) (by decide +kernel) (by decide) ?_
          dsimp only [stL, clL, hdL]
          refine j_iinc g (i := 4) (n := 1) (1) (by decide +kernel) rfl (by decide) rfl ?_
          dsimp only [stL, clL, hdL]
          refine j_goto g (off := -85) (tgt := 7) (by decide +kernel) (by decide) ?_
          refine absurd (ci_X2_greatestKind_7.mpr ?_) hx_7_1
          simp only [if_neg (show ¬ ((M.1 100 2) ≤ ((l_X2_greatestKind_7 M a1 ((-1), 0, 0) (Int32.toNatClampNeg (M.1 100 2))).2.2)) from c16), if_neg (show ¬ ((b2i (¬ (a1 >>> (((l_X2_greatestKind_7 M a1 ((-1), 0, 0) (Int32.toNatClampNeg (M.1 100 2))).2.2) &&& 31)) &&& 1 = 0)) = 0) from c25), if_neg (show ¬ ((M.1 (110 + Int32.toNatClampNeg ((l_X2_greatestKind_7 M a1 ((-1), 0, 0) (Int32.toNatClampNeg (M.1 100 2))).2.2)) 0) < ((l_X2_greatestKind_7 M a1 ((-1), 0, 0) (Int32.toNatClampNeg (M.1 100 2))).1)) from c42), if_pos (show (M.1 (110 + Int32.toNatClampNeg ((l_X2_greatestKind_7 M a1 ((-1), 0, 0) (Int32.toNatClampNeg (M.1 100 2))).2.2)) 0) ≤ ((l_X2_greatestKind_7 M a1 ((-1), 0, 0) (Int32.toNatClampNeg (M.1 100 2))).1) from c59)]
        · rw [if_neg (show ¬ ((M.1 (110 + Int32.toNatClampNeg ((l_X2_greatestKind_7 M a1 ((-1), 0, 0) (Int32.toNatClampNeg (M.1 100 2))).2.2)) 0) ≤ ((l_X2_greatestKind_7 M a1 ((-1), 0, 0) (Int32.toNatClampNeg (M.1 100 2))).1)) from c59)] at hp
          refine j_iconst g (n := 0) (0) (by decide +kernel) rfl ?_
          refine j_goto g (off := 4) (tgt := 67) (by decide +kernel) (by decide) ?_
          refine j_istore_n g (i := 3) (by decide +kernel) (by decide) ?_
          dsimp only [stL, clL, hdL]
          refine j_aload_n g (i := 0) (by decide +kernel) rfl ?_
          refine j_gA g (b := 100) f2_12 (by decide +kernel) (by decide +kernel) (by decide +kernel) (by decide +kernel) ?_
          refine j_gA g (b := 103) f2_75 (by decide +kernel) (by decide +kernel) (by decide +kernel) (by decide +kernel) ?_
          refine j_iload g (i := 4) (by decide +kernel) rfl ?_
          obtain ⟨h0, hp⟩ := hp
          refine j_aW g 6 (by decide +kernel) (by decide +kernel) (by decide +kernel) h0 (rfW103 h0) ?_
          have hw77 := h0
          refine j_gI g f2_186 (by decide +kernel) (by decide +kernel) (gkW103 hw77) ?_
          refine j_istore_n g (i := 2) (by decide +kernel) (by decide) ?_
          dsimp only [stL, clL, hdL]
          refine j_iload_n g (i := 3) (by decide +kernel) rfl ?_
          refine j_iconst g (n := 1) (1) (by decide +kernel) rfl ?_
          refine j_iload g (i := 4) (by decide +kernel) rfl ?_
          refine j_ishl g (by decide +kernel) ?_
          refine j_ior g (by decide +kernel) ?_
          refine j_istore_n g (i := 3) (by decide +kernel) (by decide) ?_
          dsimp only [stL, clL, hdL]
          refine j_iinc g (i := 4) (n := 1) (1) (by decide +kernel) rfl (by decide) rfl ?_
          dsimp only [stL, clL, hdL]
          refine j_goto g (off := -85) (tgt := 7) (by decide +kernel) (by decide) ?_
          refine absurd (ci_X2_greatestKind_7.mpr ?_) hx_7_1
          simp only [if_neg (show ¬ ((M.1 100 2) ≤ ((l_X2_greatestKind_7 M a1 ((-1), 0, 0) (Int32.toNatClampNeg (M.1 100 2))).2.2)) from c16), if_neg (show ¬ ((b2i (¬ (a1 >>> (((l_X2_greatestKind_7 M a1 ((-1), 0, 0) (Int32.toNatClampNeg (M.1 100 2))).2.2) &&& 31)) &&& 1 = 0)) = 0) from c25), if_neg (show ¬ ((M.1 (110 + Int32.toNatClampNeg ((l_X2_greatestKind_7 M a1 ((-1), 0, 0) (Int32.toNatClampNeg (M.1 100 2))).2.2)) 0) < ((l_X2_greatestKind_7 M a1 ((-1), 0, 0) (Int32.toNatClampNeg (M.1 100 2))).1)) from c42), if_neg (show ¬ ((M.1 (110 + Int32.toNatClampNeg ((l_X2_greatestKind_7 M a1 ((-1), 0, 0) (Int32.toNatClampNeg (M.1 100 2))).2.2)) 0) ≤ ((l_X2_greatestKind_7 M a1 ((-1), 0, 0) (Int32.toNatClampNeg (M.1 100 2))).1)) from c59)]
def c_X2_firstFrom_11 (M : Mm) (a1 : Int32) (a2 : Int32) (x3 : Int32) (σ : Int32) : Prop := if x3 ≤ σ then False else if (b2i (¬ (a1 >>> (((a2 + σ) - (a2 + σ) / x3 * x3) &&& 31)) &&& 1 = 0)) = 0 then True else False
theorem ci_X2_firstFrom_11 {M : Mm} {a1 : Int32} {a2 : Int32} {x3 : Int32} {σ : Int32} : c_X2_firstFrom_11 M a1 a2 x3 σ ↔ (if x3 ≤ σ then False else if (b2i (¬ (a1 >>> (((a2 + σ) - (a2 + σ) / x3 * x3) &&& 31)) &&& 1 = 0)) = 0 then True else False) := Iff.rfl
noncomputable def s_X2_firstFrom_11 (M : Mm) (a1 : Int32) (a2 : Int32) (x3 : Int32) (σ : Int32) : Int32 := if x3 ≤ σ then σ else if (b2i (¬ (a1 >>> (((a2 + σ) - (a2 + σ) / x3 * x3) &&& 31)) &&& 1 = 0)) = 0 then (σ + 1) else σ
def q_X2_firstFrom_11 (M : Mm) (a1 : Int32) (a2 : Int32) (x3 : Int32) (σ : Int32) : Prop := (if x3 ≤ σ then True else (¬ x3 = 0) ∧ (if (b2i (¬ (a1 >>> (((a2 + σ) - (a2 + σ) / x3 * x3) &&& 31)) &&& 1 = 0)) = 0 then True else True))
noncomputable def l_X2_firstFrom_11 (M : Mm) (a1 : Int32) (a2 : Int32) (x3 : Int32) (σ0 : Int32) : Nat → Int32 := itN (fun _ σ => s_X2_firstFrom_11 M a1 a2 x3 σ) σ0
theorem ps_X2_firstFrom_11 {d : Nat} {J : Nat → Lc → List Value → Mm → Prop} {M : Mm} {a1 : Int32} {a2 : Int32} {x3 : Int32} {σ : Int32}  (g : Good mX2_firstFrom.1 mX2_firstFrom.2.2.1 mX2_firstFrom.2.2.2.1 (d + 1) J) (hc : c_X2_firstFrom_11 M a1 a2 x3 σ) (hp : q_X2_firstFrom_11 M a1 a2 x3 σ) (k : ∀ (j5 : Option Value), J 11 [some (.ref 510), some (.int a1), some (.int a2), some (.int x3), some (.int (s_X2_firstFrom_11 M a1 a2 x3 σ)), j5] [] M) : ∀ (j5 : Option Value), J 11 [some (.ref 510), some (.int a1), some (.int a2), some (.int x3), some (.int σ), j5] [] M := by
  intro j5
  unfold c_X2_firstFrom_11 at hc
  unfold q_X2_firstFrom_11 at hp
  unfold s_X2_firstFrom_11 at k
  refine j_iload g (i := 4) (by decide +kernel) rfl ?_
  refine j_iload_n g (i := 3) (by decide +kernel) rfl ?_
  refine j_icmp_ge g (off := 29) (tgt := 43) (by decide +kernel) (by decide) (fun c14 => ?_) (fun c14 => ?_)
  · (try rw [if_pos (show x3 ≤ σ from c14)] at hc); (rw [if_pos (show x3 ≤ σ from c14)] at hp); (try simp only [if_pos (show x3 ≤ σ from c14)] at k)
    exact hc.elim
  · (try rw [if_neg (show ¬ (x3 ≤ σ) from c14)] at hc); (rw [if_neg (show ¬ (x3 ≤ σ) from c14)] at hp); (try simp only [if_neg (show ¬ (x3 ≤ σ) from c14)] at k)
    refine j_iload_n g (i := 2) (by decide +kernel) rfl ?_
    refine j_iload g (i := 4) (by decide +kernel) rfl ?_
    refine j_iadd g (by decide +kernel) ?_
    refine j_iload_n g (i := 3) (by decide +kernel) rfl ?_
    obtain ⟨h0, hp⟩ := hp
    refine j_irem g (by decide +kernel) h0 ?_
    refine j_istore g (i := 5) (by decide +kernel) (by decide) ?_
    dsimp only [stL, clL, hdL]
    refine j_iload_n g (i := 1) (by decide +kernel) rfl ?_
    refine j_iload g (i := 5) (by decide +kernel) rfl ?_
    refine j_cS2r g s2_71 (by decide +kernel) (Nat.le_of_ble_eq_true rfl) (rnX2_isIn) ?_
    refine j_if_eq g (off := 6) (tgt := 37) (by decide +kernel) (by decide) (fun c31 => ?_) (fun c31 => ?_)
    · (try rw [if_pos (show (b2i (¬ (a1 >>> (((a2 + σ) - (a2 + σ) / x3 * x3) &&& 31)) &&& 1 = 0)) = 0 from c31)] at hc); (rw [if_pos (show (b2i (¬ (a1 >>> (((a2 + σ) - (a2 + σ) / x3 * x3) &&& 31)) &&& 1 = 0)) = 0 from c31)] at hp); (try simp only [if_pos (show (b2i (¬ (a1 >>> (((a2 + σ) - (a2 + σ) / x3 * x3) &&& 31)) &&& 1 = 0)) = 0 from c31)] at k)
      refine j_iinc g (i := 4) (n := 1) (1) (by decide +kernel) rfl (by decide) rfl ?_
      dsimp only [stL, clL, hdL]
      refine j_goto g (off := -29) (tgt := 11) (by decide +kernel) (by decide) ?_
      exact k _
    · (try rw [if_neg (show ¬ ((b2i (¬ (a1 >>> (((a2 + σ) - (a2 + σ) / x3 * x3) &&& 31)) &&& 1 = 0)) = 0) from c31)] at hc); (rw [if_neg (show ¬ ((b2i (¬ (a1 >>> (((a2 + σ) - (a2 + σ) / x3 * x3) &&& 31)) &&& 1 = 0)) = 0) from c31)] at hp); (try simp only [if_neg (show ¬ ((b2i (¬ (a1 >>> (((a2 + σ) - (a2 + σ) / x3 * x3) &&& 31)) &&& 1 = 0)) = 0) from c31)] at k)
      exact hc.elim
theorem sh_X2_firstFrom_11 {d : Nat} {J : Nat → Lc → List Value → Mm → Prop} {M : Mm} {a1 : Int32} {a2 : Int32} {x3 : Int32} {σ0 : Int32}  (g : Good mX2_firstFrom.1 mX2_firstFrom.2.2.1 mX2_firstFrom.2.2.2.1 (d + 1) J) : ∀ (N : Nat), (∀ k, k < N → c_X2_firstFrom_11 M a1 a2 x3 (l_X2_firstFrom_11 M a1 a2 x3 σ0 k)) → (∀ k, k < N → q_X2_firstFrom_11 M a1 a2 x3 (l_X2_firstFrom_11 M a1 a2 x3 σ0 k)) → (∀ (j5 : Option Value), J 11 [some (.ref 510), some (.int a1), some (.int a2), some (.int x3), some (.int (l_X2_firstFrom_11 M a1 a2 x3 σ0 N)), j5] [] M) → ∀ (j5 : Option Value), J 11 [some (.ref 510), some (.int a1), some (.int a2), some (.int x3), some (.int σ0), j5] [] M
  | 0, _, _, k => k
  | N + 1, hc, hp, k => sh_X2_firstFrom_11  g N (fun i hi => hc i (Nat.lt_succ_of_lt hi)) (fun i hi => hp i (Nat.lt_succ_of_lt hi)) (ps_X2_firstFrom_11  g (hc N (Nat.lt_succ_self N)) (hp N (Nat.lt_succ_self N)) k)
noncomputable def r_X2_firstFrom (M : Mm) (a1 : Int32) (a2 : Int32) : Int32 := if (M.1 100 2) ≤ (l_X2_firstFrom_11 M a1 a2 (M.1 100 2) (0) (cntN (fun k => c_X2_firstFrom_11 M a1 a2 (M.1 100 2) (l_X2_firstFrom_11 M a1 a2 (M.1 100 2) (0) k)) 7)) then (-3) else if (b2i (¬ (a1 >>> (((a2 + (l_X2_firstFrom_11 M a1 a2 (M.1 100 2) (0) (cntN (fun k => c_X2_firstFrom_11 M a1 a2 (M.1 100 2) (l_X2_firstFrom_11 M a1 a2 (M.1 100 2) (0) k)) 7))) - (a2 + (l_X2_firstFrom_11 M a1 a2 (M.1 100 2) (0) (cntN (fun k => c_X2_firstFrom_11 M a1 a2 (M.1 100 2) (l_X2_firstFrom_11 M a1 a2 (M.1 100 2) (0) k)) 7))) / (M.1 100 2) * (M.1 100 2)) &&& 31)) &&& 1 = 0)) = 0 then 0 else (a2 + (l_X2_firstFrom_11 M a1 a2 (M.1 100 2) (0) (cntN (fun k => c_X2_firstFrom_11 M a1 a2 (M.1 100 2) (l_X2_firstFrom_11 M a1 a2 (M.1 100 2) (0) k)) 7))) - (a2 + (l_X2_firstFrom_11 M a1 a2 (M.1 100 2) (0) (cntN (fun k => c_X2_firstFrom_11 M a1 a2 (M.1 100 2) (l_X2_firstFrom_11 M a1 a2 (M.1 100 2) (0) k)) 7))) / (M.1 100 2) * (M.1 100 2)
def p_X2_firstFrom (M : Mm) (a1 : Int32) (a2 : Int32) : Prop := (∀ k, k < (cntN (fun k => c_X2_firstFrom_11 M a1 a2 (M.1 100 2) (l_X2_firstFrom_11 M a1 a2 (M.1 100 2) (0) k)) 7) → c_X2_firstFrom_11 M a1 a2 (M.1 100 2) (l_X2_firstFrom_11 M a1 a2 (M.1 100 2) (0) k)) ∧ (∀ k, k < (cntN (fun k => c_X2_firstFrom_11 M a1 a2 (M.1 100 2) (l_X2_firstFrom_11 M a1 a2 (M.1 100 2) (0) k)) 7) → q_X2_firstFrom_11 M a1 a2 (M.1 100 2) (l_X2_firstFrom_11 M a1 a2 (M.1 100 2) (0) k)) ∧ (¬ c_X2_firstFrom_11 M a1 a2 (M.1 100 2) (l_X2_firstFrom_11 M a1 a2 (M.1 100 2) (0) (cntN (fun k => c_X2_firstFrom_11 M a1 a2 (M.1 100 2) (l_X2_firstFrom_11 M a1 a2 (M.1 100 2) (0) k)) 7))) ∧ (if (M.1 100 2) ≤ (l_X2_firstFrom_11 M a1 a2 (M.1 100 2) (0) (cntN (fun k => c_X2_firstFrom_11 M a1 a2 (M.1 100 2) (l_X2_firstFrom_11 M a1 a2 (M.1 100 2) (0) k)) 7)) then True else (¬ (M.1 100 2) = 0) ∧ (if (b2i (¬ (a1 >>> (((a2 + (l_X2_firstFrom_11 M a1 a2 (M.1 100 2) (0) (cntN (fun k => c_X2_firstFrom_11 M a1 a2 (M.1 100 2) (l_X2_firstFrom_11 M a1 a2 (M.1 100 2) (0) k)) 7))) - (a2 + (l_X2_firstFrom_11 M a1 a2 (M.1 100 2) (0) (cntN (fun k => c_X2_firstFrom_11 M a1 a2 (M.1 100 2) (l_X2_firstFrom_11 M a1 a2 (M.1 100 2) (0) k)) 7))) / (M.1 100 2) * (M.1 100 2)) &&& 31)) &&& 1 = 0)) = 0 then True else True))
theorem rnX2_firstFrom {d : Nat} {M : Mm} {a1 : Int32} {a2 : Int32}  (hp : p_X2_firstFrom M a1 a2) : Rn (d + 1) mX2_firstFrom [.ref 510, .int a1, .int a2] M (some (.int (r_X2_firstFrom M a1 a2))) M := by
  refine Rn.of [some (.ref 510), some (.int a1), some (.int a2), none, none, none] (by decide +kernel) rfl (Nat.le_of_ble_eq_true rfl) rfl (fun J g hr => ?_)
  unfold p_X2_firstFrom at hp
  refine j_aload_n g (i := 0) (by decide +kernel) rfl ?_
  refine j_gA g (b := 100) f2_12 (by decide +kernel) (by decide +kernel) (by decide +kernel) (by decide +kernel) ?_
  refine j_gI g f2_129 (by decide +kernel) (by decide +kernel) (by decide +kernel) ?_
  refine j_istore_n g (i := 3) (by decide +kernel) (by decide) ?_
  dsimp only [stL, clL, hdL]
  refine j_iconst g (n := 0) (0) (by decide +kernel) rfl ?_
  refine j_istore g (i := 4) (by decide +kernel) (by decide) ?_
  dsimp only [stL, clL, hdL]
  obtain ⟨h0, hp⟩ := hp
  have hc_11_1 := h0
  obtain ⟨h0, hp⟩ := hp
  have hq_11_1 := h0
  obtain ⟨h0, hp⟩ := hp
  have hx_11_1 := h0
  refine sh_X2_firstFrom_11 (x3 := (M.1 100 2))  g (σ0 := (0)) (cntN (fun k => c_X2_firstFrom_11 M a1 a2 (M.1 100 2) (l_X2_firstFrom_11 M a1 a2 (M.1 100 2) (0) k)) 7) hc_11_1 hq_11_1 ?_ _
  intro j5_1
  refine j_iload g (i := 4) (by decide +kernel) rfl ?_
  refine j_iload_n g (i := 3) (by decide +kernel) rfl ?_
  refine j_icmp_ge g (off := 29) (tgt := 43) (by decide +kernel) (by decide) (fun c14 => ?_) (fun c14 => ?_)
  · rw [if_pos (show (M.1 100 2) ≤ (l_X2_firstFrom_11 M a1 a2 (M.1 100 2) (0) (cntN (fun k => c_X2_firstFrom_11 M a1 a2 (M.1 100 2) (l_X2_firstFrom_11 M a1 a2 (M.1 100 2) (0) k)) 7)) from c14)] at hp
    refine j_bipush g (n := -3) (-3) (by decide +kernel) (by decide +kernel) ?_
    refine hr.1 _ _ _ _ (by decide +kernel) ⟨_, rfl, by first | rfl | exact b2i_nar | decide +kernel⟩ ?_ ?_
    · unfold r_X2_firstFrom; first | (simp only [if_pos (show (M.1 100 2) ≤ (l_X2_firstFrom_11 M a1 a2 (M.1 100 2) (0) (cntN (fun k => c_X2_firstFrom_11 M a1 a2 (M.1 100 2) (l_X2_firstFrom_11 M a1 a2 (M.1 100 2) (0) k)) 7)) from c14)]; done) | (simp only [if_pos (show (M.1 100 2) ≤ (l_X2_firstFrom_11 M a1 a2 (M.1 100 2) (0) (cntN (fun k => c_X2_firstFrom_11 M a1 a2 (M.1 100 2) (l_X2_firstFrom_11 M a1 a2 (M.1 100 2) (0) k)) 7)) from c14)]; rfl) | rfl
    · rfl
  · rw [if_neg (show ¬ ((M.1 100 2) ≤ (l_X2_firstFrom_11 M a1 a2 (M.1 100 2) (0) (cntN (fun k => c_X2_firstFrom_11 M a1 a2 (M.1 100 2) (l_X2_firstFrom_11 M a1 a2 (M.1 100 2) (0) k)) 7))) from c14)] at hp
    refine j_iload_n g (i := 2) (by decide +kernel) rfl ?_
    refine j_iload g (i := 4) (by decide +kernel) rfl ?_
    refine j_iadd g (by decide +kernel) ?_
    refine j_iload_n g (i := 3) (by decide +kernel) rfl ?_
    obtain ⟨h0, hp⟩ := hp
    refine j_irem g (by decide +kernel) h0 ?_
    refine j_istore g (i := 5) (by decide +kernel) (by decide) ?_
    dsimp only [stL, clL, hdL]
    refine j_iload_n g (i := 1) (by decide +kernel) rfl ?_
    refine j_iload g (i := 5) (by decide +kernel) rfl ?_
    refine j_cS2r g s2_71 (by decide +kernel) (Nat.le_of_ble_eq_true rfl) (rnX2_isIn) ?_
    refine j_if_eq g (off := 6) (tgt := 37) (by decide +kernel) (by decide) (fun c31 => ?_) (fun c31 => ?_)
    · rw [if_pos (show (b2i (¬ (a1 >>> (((a2 + (l_X2_firstFrom_11 M a1 a2 (M.1 100 2) (0) (cntN (fun k => c_X2_firstFrom_11 M a1 a2 (M.1 100 2) (l_X2_firstFrom_11 M a1 a2 (M.1 100 2) (0) k)) 7))) - (a2 + (l_X2_firstFrom_11 M a1 a2 (M.1 100 2) (0) (cntN (fun k => c_X2_firstFrom_11 M a1 a2 (M.1 100 2) (l_X2_firstFrom_11 M a1 a2 (M.1 100 2) (0) k)) 7))) / (M.1 100 2) * (M.1 100 2)) &&& 31)) &&& 1 = 0)) = 0 from c31)] at hp
      refine j_iinc g (i := 4) (n := 1) (1) (by decide +kernel) rfl (by decide) rfl ?_
      dsimp only [stL, clL, hdL]
      refine j_goto g (off := -29) (tgt := 11) (by decide +kernel) (by decide) ?_
      refine absurd (ci_X2_firstFrom_11.mpr ?_) hx_11_1
      simp only [if_neg (show ¬ ((M.1 100 2) ≤ (l_X2_firstFrom_11 M a1 a2 (M.1 100 2) (0) (cntN (fun k => c_X2_firstFrom_11 M a1 a2 (M.1 100 2) (l_X2_firstFrom_11 M a1 a2 (M.1 100 2) (0) k)) 7))) from c14), if_pos (show (b2i (¬ (a1 >>> (((a2 + (l_X2_firstFrom_11 M a1 a2 (M.1 100 2) (0) (cntN (fun k => c_X2_firstFrom_11 M a1 a2 (M.1 100 2) (l_X2_firstFrom_11 M a1 a2 (M.1 100 2) (0) k)) 7))) - (a2 + (l_X2_firstFrom_11 M a1 a2 (M.1 100 2) (0) (cntN (fun k => c_X2_firstFrom_11 M a1 a2 (M.1 100 2) (l_X2_firstFrom_11 M a1 a2 (M.1 100 2) (0) k)) 7))) / (M.1 100 2) * (M.1 100 2)) &&& 31)) &&& 1 = 0)) = 0 from c31)]
    · rw [if_neg (show ¬ ((b2i (¬ (a1 >>> (((a2 + (l_X2_firstFrom_11 M a1 a2 (M.1 100 2) (0) (cntN (fun k => c_X2_firstFrom_11 M a1 a2 (M.1 100 2) (l_X2_firstFrom_11 M a1 a2 (M.1 100 2) (0) k)) 7))) - (a2 + (l_X2_firstFrom_11 M a1 a2 (M.1 100 2) (0) (cntN (fun k => c_X2_firstFrom_11 M a1 a2 (M.1 100 2) (l_X2_firstFrom_11 M a1 a2 (M.1 100 2) (0) k)) 7))) / (M.1 100 2) * (M.1 100 2)) &&& 31)) &&& 1 = 0)) = 0) from c31)] at hp
      refine j_iload g (i := 5) (by decide +kernel) rfl ?_
      refine hr.1 _ _ _ _ (by decide +kernel) ⟨_, rfl, by first | rfl | exact b2i_nar | decide +kernel⟩ ?_ ?_
      · unfold r_X2_firstFrom; first | (simp only [if_neg (show ¬ ((M.1 100 2) ≤ (l_X2_firstFrom_11 M a1 a2 (M.1 100 2) (0) (cntN (fun k => c_X2_firstFrom_11 M a1 a2 (M.1 100 2) (l_X2_firstFrom_11 M a1 a2 (M.1 100 2) (0) k)) 7))) from c14), if_neg (show ¬ ((b2i (¬ (a1 >>> (((a2 + (l_X2_firstFrom_11 M a1 a2 (M.1 100 2) (0) (cntN (fun k => c_X2_firstFrom_11 M a1 a2 (M.1 100 2) (l_X2_firstFrom_11 M a1 a2 (M.1 100 2) (0) k)) 7))) - (a2 + (l_X2_firstFrom_11 M a1 a2 (M.1 100 2) (0) (cntN (fun k => c_X2_firstFrom_11 M a1 a2 (M.1 100 2) (l_X2_firstFrom_11 M a1 a2 (M.1 100 2) (0) k)) 7))) / (M.1 100 2) * (M.1 100 2)) &&& 31)) &&& 1 = 0)) = 0) from c31)]; done) | (simp only [if_neg (show ¬ ((M.1 100 2) ≤ (l_X2_firstFrom_11 M a1 a2 (M.1 100 2) (0) (cntN (fun k => c_X2_firstFrom_11 M a1 a2 (M.1 100 2) (l_X2_firstFrom_11 M a1 a2 (M.1 100 2) (0) k)) 7))) from c14), if_neg (show ¬ ((b2i (¬ (a1 >>> (((a2 + (l_X2_firstFrom_11 M a1 a2 (M.1 100 2) (0) (cntN (fun k => c_X2_firstFrom_11 M a1 a2 (M.1 100 2) (l_X2_firstFrom_11 M a1 a2 (M.1 100 2) (0) k)) 7))) - (a2 + (l_X2_firstFrom_11 M a1 a2 (M.1 100 2) (0) (cntN (fun k => c_X2_firstFrom_11 M a1 a2 (M.1 100 2) (l_X2_firstFrom_11 M a1 a2 (M.1 100 2) (0) k)) 7))) / (M.1 100 2) * (M.1 100 2)) &&& 31)) &&& 1 = 0)) = 0) from c31)]; rfl) | rfl
      · rfl
def c_X2_soonest_9 (s : Nat) (a2 : Int32) (σ : Mm × Int32 × Int32 × Int32) : Prop := if (σ.1.1 100 2) ≤ σ.2.2.2 then False else True
theorem ci_X2_soonest_9 {s : Nat} {a2 : Int32}  {σ : Mm × Int32 × Int32 × Int32} : c_X2_soonest_9 s a2 σ ↔ (if (σ.1.1 100 2) ≤ σ.2.2.2 then False else True) := Iff.rfl
noncomputable def s_X2_soonest_9 (s : Nat) (a2 : Int32) (σ : Mm × Int32 × Int32 × Int32) : Mm × Int32 × Int32 × Int32 := if (σ.1.1 100 2) ≤ σ.2.2.2 then σ else if (b2i (¬ (a2 >>> (σ.2.2.2 &&& 31)) &&& 1 = 0)) = 0 then (σ.1, σ.2.1, σ.2.2.1, σ.2.2.2 + 1) else if σ.2.1 < 0 then ((w_X5_minutesOf σ.1 s σ.2.2.2), σ.2.2.2, r_X5_minutesOf σ.1 s σ.2.2.2, σ.2.2.2 + 1) else if σ.2.2.1 ≤ (r_X5_minutesOf σ.1 s σ.2.2.2) then ((w_X5_minutesOf σ.1 s σ.2.2.2), σ.2.1, σ.2.2.1, σ.2.2.2 + 1) else ((w_X5_minutesOf σ.1 s σ.2.2.2), σ.2.2.2, r_X5_minutesOf σ.1 s σ.2.2.2, σ.2.2.2 + 1)
def q_X2_soonest_9 (s : Nat) (a2 : Int32) (σ : Mm × Int32 × Int32 × Int32) : Prop := (if (σ.1.1 100 2) ≤ σ.2.2.2 then True else (if (b2i (¬ (a2 >>> (σ.2.2.2 &&& 31)) &&& 1 = 0)) = 0 then True else (p_X5_minutesOf σ.1 s σ.2.2.2) ∧ (if σ.2.1 < 0 then True else (if σ.2.2.1 ≤ (r_X5_minutesOf σ.1 s σ.2.2.2) then True else True))))
noncomputable def l_X2_soonest_9 (s : Nat) (a2 : Int32) (σ0 : Mm × Int32 × Int32 × Int32) : Nat → Mm × Int32 × Int32 × Int32 := itN (fun _ σ => s_X2_soonest_9 s a2 σ) σ0
theorem ps_X2_soonest_9 {d : Nat} {J : Nat → Lc → List Value → Mm → Prop} {s : Nat} {a2 : Int32}  {σ : Mm × Int32 × Int32 × Int32} (hs : isS s) (g : Good mX2_soonest.1 mX2_soonest.2.2.1 mX2_soonest.2.2.2.1 (d + 2) J) (hc : c_X2_soonest_9 s a2 σ) (hp : q_X2_soonest_9 s a2 σ) (k : ∀ (j6 : Option Value), J 9 [some (.ref 510), some (.ref s), some (.int a2), some (.int ((s_X2_soonest_9 s a2 σ).2.1)), some (.int ((s_X2_soonest_9 s a2 σ).2.2.1)), some (.int ((s_X2_soonest_9 s a2 σ).2.2.2)), j6] [] ((s_X2_soonest_9 s a2 σ).1)) : ∀ (j6 : Option Value), J 9 [some (.ref 510), some (.ref s), some (.int a2), some (.int σ.2.1), some (.int σ.2.2.1), some (.int σ.2.2.2), j6] [] σ.1 := by
  intro j6
  unfold c_X2_soonest_9 at hc
  unfold q_X2_soonest_9 at hp
  unfold s_X2_soonest_9 at k
  refine j_iload g (i := 5) (by decide +kernel) rfl ?_
  refine j_aload_n g (i := 0) (by decide +kernel) rfl ?_
  refine j_gA g (b := 100) f2_12 (by decide +kernel) (by decide +kernel) (by decide +kernel) (by decide +kernel) ?_
  refine j_gI g f2_129 (by decide +kernel) (by decide +kernel) (by decide +kernel) ?_
  refine j_icmp_ge g (off := 48) (tgt := 66) (by decide +kernel) (by decide) (fun c18 => ?_) (fun c18 => ?_)
  · (try rw [if_pos (show (σ.1.1 100 2) ≤ σ.2.2.2 from c18)] at hc); (rw [if_pos (show (σ.1.1 100 2) ≤ σ.2.2.2 from c18)] at hp); (try simp only [if_pos (show (σ.1.1 100 2) ≤ σ.2.2.2 from c18)] at k)
    exact hc.elim
  · (try rw [if_neg (show ¬ ((σ.1.1 100 2) ≤ σ.2.2.2) from c18)] at hc); (rw [if_neg (show ¬ ((σ.1.1 100 2) ≤ σ.2.2.2) from c18)] at hp); (try simp only [if_neg (show ¬ ((σ.1.1 100 2) ≤ σ.2.2.2) from c18)] at k)
    refine j_iload_n g (i := 2) (by decide +kernel) rfl ?_
    refine j_iload g (i := 5) (by decide +kernel) rfl ?_
    refine j_cS2r g s2_71 (by decide +kernel) (Nat.le_of_ble_eq_true rfl) (rnX2_isIn) ?_
    refine j_if_eq g (off := 33) (tgt := 60) (by decide +kernel) (by decide) (fun c27 => ?_) (fun c27 => ?_)
    · (try rw [if_pos (show (b2i (¬ (a2 >>> (σ.2.2.2 &&& 31)) &&& 1 = 0)) = 0 from c27)] at hc); (rw [if_pos (show (b2i (¬ (a2 >>> (σ.2.2.2 &&& 31)) &&& 1 = 0)) = 0 from c27)] at hp); (try simp only [if_pos (show (b2i (¬ (a2 >>> (σ.2.2.2 &&& 31)) &&& 1 = 0)) = 0 from c27)] at k)
      refine j_iinc g (i := 5) (n := 1) (1) (by decide +kernel) rfl (by decide) rfl ?_
      dsimp only [stL, clL, hdL]
      refine j_goto g (off := -54) (tgt := 9) (by decide +kernel) (by decide) ?_
      exact k _
    · (try rw [if_neg (show ¬ ((b2i (¬ (a2 >>> (σ.2.2.2 &&& 31)) &&& 1 = 0)) = 0) from c27)] at hc); (rw [if_neg (show ¬ ((b2i (¬ (a2 >>> (σ.2.2.2 &&& 31)) &&& 1 = 0)) = 0) from c27)] at hp); (try simp only [if_neg (show ¬ ((b2i (¬ (a2 >>> (σ.2.2.2 &&& 31)) &&& 1 = 0)) = 0) from c27)] at k)
      refine j_aload_n g (i := 0) (by decide +kernel) rfl ?_
      refine j_gA g (b := 100) f2_12 (by decide +kernel) (by decide +kernel) (by decide +kernel) (by decide +kernel) ?_
      refine j_aload_n g (i := 1) (by decide +kernel) rfl ?_
      refine j_iload g (i := 5) (by decide +kernel) rfl ?_
      obtain ⟨h0, hp⟩ := hp
      refine j_cV2r g v2_144 ⟨rfl, by decide⟩ (by decide +kernel) (by decide +kernel) (Nat.le_of_ble_eq_true rfl) (rnX5_minutesOf (by first | exact hs | (simp [isS]; done)) h0) ?_
      refine j_istore g (i := 6) (by decide +kernel) (by decide) ?_
      dsimp only [stL, clL, hdL]
      refine j_iload_n g (i := 3) (by decide +kernel) rfl ?_
      refine j_if_lt g (off := 10) (tgt := 53) (by decide +kernel) (by decide) (fun c43 => ?_) (fun c43 => ?_)
      · (try rw [if_pos (show σ.2.1 < 0 from c43)] at hc); (rw [if_pos (show σ.2.1 < 0 from c43)] at hp); (try simp only [if_pos (show σ.2.1 < 0 from c43)] at k)
        refine j_iload g (i := 5) (by decide +kernel) rfl ?_
        refine j_istore_n g (i := 3) (by decide +kernel) (by decide) ?_
        dsimp only [stL, clL, hdL]
        refine j_iload g (i := 6) (by decide +kernel) rfl ?_
        refine j_istore g (i := 4) (by decide +kernel) (by decide) ?_
        dsimp only [stL, clL, hdL]
        refine j_iinc g (i := 5) (n := 1) (1) (by decide +kernel) rfl (by decide) rfl ?_
        dsimp only [stL, clL, hdL]
        refine j_goto g (off := -54) (tgt := 9) (by decide +kernel) (by decide) ?_
        exact k _
      · (try rw [if_neg (show ¬ (σ.2.1 < 0) from c43)] at hc); (rw [if_neg (show ¬ (σ.2.1 < 0) from c43)] at hp); (try simp only [if_neg (show ¬ (σ.2.1 < 0) from c43)] at k)
        refine j_iload g (i := 6) (by decide +kernel) rfl ?_
        refine j_iload g (i := 4) (by decide +kernel) rfl ?_
        refine j_icmp_ge g (off := 10) (tgt := 60) (by decide +kernel) (by decide) (fun c50 => ?_) (fun c50 => ?_)
        · (try rw [if_pos (show σ.2.2.1 ≤ (r_X5_minutesOf σ.1 s σ.2.2.2) from c50)] at hc); (rw [if_pos (show σ.2.2.1 ≤ (r_X5_minutesOf σ.1 s σ.2.2.2) from c50)] at hp); (try simp only [if_pos (show σ.2.2.1 ≤ (r_X5_minutesOf σ.1 s σ.2.2.2) from c50)] at k)
          refine j_iinc g (i := 5) (n := 1) (1) (by decide +kernel) rfl (by decide) rfl ?_
          dsimp only [stL, clL, hdL]
          refine j_goto g (off := -54) (tgt := 9) (by decide +kernel) (by decide) ?_
          exact k _
        · (try rw [if_neg (show ¬ (σ.2.2.1 ≤ (r_X5_minutesOf σ.1 s σ.2.2.2)) from c50)] at hc); (rw [if_neg (show ¬ (σ.2.2.1 ≤ (r_X5_minutesOf σ.1 s σ.2.2.2)) from c50)] at hp); (try simp only [if_neg (show ¬ (σ.2.2.1 ≤ (r_X5_minutesOf σ.1 s σ.2.2.2)) from c50)] at k)
          refine j_iload g (i := 5) (by decide +kernel) rfl ?_
          refine j_istore_n g (i := 3) (by decide +kernel) (by decide) ?_
          dsimp only [stL, clL, hdL]
          refine j_iload g (i := 6) (by decide +kernel) rfl ?_
          refine j_istore g (i := 4) (by decide +kernel) (by decide) ?_
          dsimp only [stL, clL, hdL]
          refine j_iinc g (i := 5) (n := 1) (1) (by decide +kernel) rfl (by decide) rfl ?_
          dsimp only [stL, clL, hdL]
          refine j_goto g (off := -54) (tgt := 9) (by decide +kernel) (by decide) ?_
          exact k _
theorem sh_X2_soonest_9 {d : Nat} {J : Nat → Lc → List Value → Mm → Prop} {s : Nat} {a2 : Int32}  {σ0 : Mm × Int32 × Int32 × Int32} (hs : isS s) (g : Good mX2_soonest.1 mX2_soonest.2.2.1 mX2_soonest.2.2.2.1 (d + 2) J) : ∀ (N : Nat), (∀ k, k < N → c_X2_soonest_9 s a2 (l_X2_soonest_9 s a2 σ0 k)) → (∀ k, k < N → q_X2_soonest_9 s a2 (l_X2_soonest_9 s a2 σ0 k)) → (∀ (j6 : Option Value), J 9 [some (.ref 510), some (.ref s), some (.int a2), some (.int ((l_X2_soonest_9 s a2 σ0 N).2.1)), some (.int ((l_X2_soonest_9 s a2 σ0 N).2.2.1)), some (.int ((l_X2_soonest_9 s a2 σ0 N).2.2.2)), j6] [] ((l_X2_soonest_9 s a2 σ0 N).1)) → ∀ (j6 : Option Value), J 9 [some (.ref 510), some (.ref s), some (.int a2), some (.int σ0.2.1), some (.int σ0.2.2.1), some (.int σ0.2.2.2), j6] [] σ0.1
  | 0, _, _, k => k
  | N + 1, hc, hp, k => sh_X2_soonest_9 hs g N (fun i hi => hc i (Nat.lt_succ_of_lt hi)) (fun i hi => hp i (Nat.lt_succ_of_lt hi)) (ps_X2_soonest_9 hs g (hc N (Nat.lt_succ_self N)) (hp N (Nat.lt_succ_self N)) k)
noncomputable def r_X2_soonest (M : Mm) (s : Nat) (a2 : Int32) : Int32 := if ((l_X2_soonest_9 s a2 (M, (-3), 0, 0) (Int32.toNatClampNeg (M.1 100 2))).1.1 100 2) ≤ ((l_X2_soonest_9 s a2 (M, (-3), 0, 0) (Int32.toNatClampNeg (M.1 100 2))).2.2.2) then (l_X2_soonest_9 s a2 (M, (-3), 0, 0) (Int32.toNatClampNeg (M.1 100 2))).2.1 else 0
noncomputable def w_X2_soonest (M : Mm) (s : Nat) (a2 : Int32) : Mm := if ((l_X2_soonest_9 s a2 (M, (-3), 0, 0) (Int32.toNatClampNeg (M.1 100 2))).1.1 100 2) ≤ ((l_X2_soonest_9 s a2 (M, (-3), 0, 0) (Int32.toNatClampNeg (M.1 100 2))).2.2.2) then (l_X2_soonest_9 s a2 (M, (-3), 0, 0) (Int32.toNatClampNeg (M.1 100 2))).1 else M
def p_X2_soonest (M : Mm) (s : Nat) (a2 : Int32) : Prop := (∀ k, k < (Int32.toNatClampNeg (M.1 100 2)) → c_X2_soonest_9 s a2 (l_X2_soonest_9 s a2 (M, (-3), 0, 0) k)) ∧ (∀ k, k < (Int32.toNatClampNeg (M.1 100 2)) → q_X2_soonest_9 s a2 (l_X2_soonest_9 s a2 (M, (-3), 0, 0) k)) ∧ (¬ c_X2_soonest_9 s a2 (l_X2_soonest_9 s a2 (M, (-3), 0, 0) (Int32.toNatClampNeg (M.1 100 2)))) ∧ (if ((l_X2_soonest_9 s a2 (M, (-3), 0, 0) (Int32.toNatClampNeg (M.1 100 2))).1.1 100 2) ≤ ((l_X2_soonest_9 s a2 (M, (-3), 0, 0) (Int32.toNatClampNeg (M.1 100 2))).2.2.2) then True else (if (b2i (¬ (a2 >>> (((l_X2_soonest_9 s a2 (M, (-3), 0, 0) (Int32.toNatClampNeg (M.1 100 2))).2.2.2) &&& 31)) &&& 1 = 0)) = 0 then True else (p_X5_minutesOf (l_X2_soonest_9 s a2 (M, (-3), 0, 0) (Int32.toNatClampNeg (M.1 100 2))).1 s ((l_X2_soonest_9 s a2 (M, (-3), 0, 0) (Int32.toNatClampNeg (M.1 100 2))).2.2.2)) ∧ (if ((l_X2_soonest_9 s a2 (M, (-3), 0, 0) (Int32.toNatClampNeg (M.1 100 2))).2.1) < 0 then True else (if ((l_X2_soonest_9 s a2 (M, (-3), 0, 0) (Int32.toNatClampNeg (M.1 100 2))).2.2.1) ≤ (r_X5_minutesOf (l_X2_soonest_9 s a2 (M, (-3), 0, 0) (Int32.toNatClampNeg (M.1 100 2))).1 s ((l_X2_soonest_9 s a2 (M, (-3), 0, 0) (Int32.toNatClampNeg (M.1 100 2))).2.2.2)) then True else True))))
theorem rnX2_soonest {d : Nat} {M : Mm} {s : Nat} {a2 : Int32} (hs : isS s) (hp : p_X2_soonest M s a2) : Rn (d + 2) mX2_soonest [.ref 510, .ref s, .int a2] M (some (.int (r_X2_soonest M s a2))) (w_X2_soonest M s a2) := by
  refine Rn.of [some (.ref 510), some (.ref s), some (.int a2), none, none, none, none] (by decide +kernel) rfl (Nat.le_of_ble_eq_true rfl) rfl (fun J g hr => ?_)
  unfold p_X2_soonest at hp
  refine j_bipush g (n := -3) (-3) (by decide +kernel) (by decide +kernel) ?_
  refine j_istore_n g (i := 3) (by decide +kernel) (by decide) ?_
  dsimp only [stL, clL, hdL]
  refine j_iconst g (n := 0) (0) (by decide +kernel) rfl ?_
  refine j_istore g (i := 4) (by decide +kernel) (by decide) ?_
  dsimp only [stL, clL, hdL]
  refine j_iconst g (n := 0) (0) (by decide +kernel) rfl ?_
  refine j_istore g (i := 5) (by decide +kernel) (by decide) ?_
  dsimp only [stL, clL, hdL]
  obtain ⟨h0, hp⟩ := hp
  have hc_9_1 := h0
  obtain ⟨h0, hp⟩ := hp
  have hq_9_1 := h0
  obtain ⟨h0, hp⟩ := hp
  have hx_9_1 := h0
  refine sh_X2_soonest_9  hs g (σ0 := (M, (-3), 0, 0)) (Int32.toNatClampNeg (M.1 100 2)) hc_9_1 hq_9_1 ?_ _
  intro j6_1
  refine j_iload g (i := 5) (by decide +kernel) rfl ?_
  refine j_aload_n g (i := 0) (by decide +kernel) rfl ?_
  refine j_gA g (b := 100) f2_12 (by decide +kernel) (by decide +kernel) (by decide +kernel) (by decide +kernel) ?_
  refine j_gI g f2_129 (by decide +kernel) (by decide +kernel) (by decide +kernel) ?_
  refine j_icmp_ge g (off := 48) (tgt := 66) (by decide +kernel) (by decide) (fun c18 => ?_) (fun c18 => ?_)
  · rw [if_pos (show ((l_X2_soonest_9 s a2 (M, (-3), 0, 0) (Int32.toNatClampNeg (M.1 100 2))).1.1 100 2) ≤ ((l_X2_soonest_9 s a2 (M, (-3), 0, 0) (Int32.toNatClampNeg (M.1 100 2))).2.2.2) from c18)] at hp
    refine j_iload_n g (i := 3) (by decide +kernel) rfl ?_
    refine hr.1 _ _ _ _ (by decide +kernel) ⟨_, rfl, by first | rfl | exact b2i_nar | decide +kernel⟩ ?_ ?_
    · unfold r_X2_soonest; first | (simp only [if_pos (show ((l_X2_soonest_9 s a2 (M, (-3), 0, 0) (Int32.toNatClampNeg (M.1 100 2))).1.1 100 2) ≤ ((l_X2_soonest_9 s a2 (M, (-3), 0, 0) (Int32.toNatClampNeg (M.1 100 2))).2.2.2) from c18)]; done) | (simp only [if_pos (show ((l_X2_soonest_9 s a2 (M, (-3), 0, 0) (Int32.toNatClampNeg (M.1 100 2))).1.1 100 2) ≤ ((l_X2_soonest_9 s a2 (M, (-3), 0, 0) (Int32.toNatClampNeg (M.1 100 2))).2.2.2) from c18)]; rfl) | rfl
    · unfold w_X2_soonest; first | (simp only [if_pos (show ((l_X2_soonest_9 s a2 (M, (-3), 0, 0) (Int32.toNatClampNeg (M.1 100 2))).1.1 100 2) ≤ ((l_X2_soonest_9 s a2 (M, (-3), 0, 0) (Int32.toNatClampNeg (M.1 100 2))).2.2.2) from c18)]; done) | (simp only [if_pos (show ((l_X2_soonest_9 s a2 (M, (-3), 0, 0) (Int32.toNatClampNeg (M.1 100 2))).1.1 100 2) ≤ ((l_X2_soonest_9 s a2 (M, (-3), 0, 0) (Int32.toNatClampNeg (M.1 100 2))).2.2.2) from c18)]; rfl) | rfl
  · rw [if_neg (show ¬ (((l_X2_soonest_9 s a2 (M, (-3), 0, 0) (Int32.toNatClampNeg (M.1 100 2))).1.1 100 2) ≤ ((l_X2_soonest_9 s a2 (M, (-3), 0, 0) (Int32.toNatClampNeg (M.1 100 2))).2.2.2)) from c18)] at hp
    refine j_iload_n g (i := 2) (by decide +kernel) rfl ?_
    refine j_iload g (i := 5) (by decide +kernel) rfl ?_
    refine j_cS2r g s2_71 (by decide +kernel) (Nat.le_of_ble_eq_true rfl) (rnX2_isIn) ?_
    refine j_if_eq g (off := 33) (tgt := 60) (by decide +kernel) (by decide) (fun c27 => ?_) (fun c27 => ?_)
    · rw [if_pos (show (b2i (¬ (a2 >>> (((l_X2_soonest_9 s a2 (M, (-3), 0, 0) (Int32.toNatClampNeg (M.1 100 2))).2.2.2) &&& 31)) &&& 1 = 0)) = 0 from c27)] at hp
      refine j_iinc g (i := 5) (n := 1) (1) (by decide +kernel) rfl (by decide) rfl ?_
      dsimp only [stL, clL, hdL]
      refine j_goto g (off := -54) (tgt := 9) (by decide +kernel) (by decide) ?_
      refine absurd (ci_X2_soonest_9.mpr ?_) hx_9_1
      simp only [if_neg (show ¬ (((l_X2_soonest_9 s a2 (M, (-3), 0, 0) (Int32.toNatClampNeg (M.1 100 2))).1.1 100 2) ≤ ((l_X2_soonest_9 s a2 (M, (-3), 0, 0) (Int32.toNatClampNeg (M.1 100 2))).2.2.2)) from c18), if_pos (show (b2i (¬ (a2 >>> (((l_X2_soonest_9 s a2 (M, (-3), 0, 0) (Int32.toNatClampNeg (M.1 100 2))).2.2.2) &&& 31)) &&& 1 = 0)) = 0 from c27)]
    · rw [if_neg (show ¬ ((b2i (¬ (a2 >>> (((l_X2_soonest_9 s a2 (M, (-3), 0, 0) (Int32.toNatClampNeg (M.1 100 2))).2.2.2) &&& 31)) &&& 1 = 0)) = 0) from c27)] at hp
      refine j_aload_n g (i := 0) (by decide +kernel) rfl ?_
      refine j_gA g (b := 100) f2_12 (by decide +kernel) (by decide +kernel) (by decide +kernel) (by decide +kernel) ?_
      refine j_aload_n g (i := 1) (by decide +kernel) rfl ?_
      refine j_iload g (i := 5) (by decide +kernel) rfl ?_
      obtain ⟨h0, hp⟩ := hp
      refine j_cV2r g v2_144 ⟨rfl, by decide⟩ (by decide +kernel) (by decide +kernel) (Nat.le_of_ble_eq_true rfl) (rnX5_minutesOf (by first | exact hs | (simp [isS]; done)) h0) ?_
      refine j_istore g (i := 6) (by decide +kernel) (by decide) ?_
      dsimp only [stL, clL, hdL]
      refine j_iload_n g (i := 3) (by decide +kernel) rfl ?_
      refine j_if_lt g (off := 10) (tgt := 53) (by decide +kernel) (by decide) (fun c43 => ?_) (fun c43 => ?_)
      · rw [if_pos (show ((l_X2_soonest_9 s a2 (M, (-3), 0, 0) (Int32.toNatClampNeg (M.1 100 2))).2.1) < 0 from c43)] at hp
        refine j_iload g (i := 5) (by decide +kernel) rfl ?_
        refine j_istore_n g (i := 3) (by decide +kernel) (by decide) ?_
        dsimp only [stL, clL, hdL]
        refine j_iload g (i := 6) (by decide +kernel) rfl ?_
        refine j_istore g (i := 4) (by decide +kernel) (by decide) ?_
        dsimp only [stL, clL, hdL]
        refine j_iinc g (i := 5) (n := 1) (1) (by decide +kernel) rfl (by decide) rfl ?_
        dsimp only [stL, clL, hdL]
        refine j_goto g (off := -54) (tgt := 9) (by decide +kernel) (by decide) ?_
        refine absurd (ci_X2_soonest_9.mpr ?_) hx_9_1
        simp only [if_neg (show ¬ (((l_X2_soonest_9 s a2 (M, (-3), 0, 0) (Int32.toNatClampNeg (M.1 100 2))).1.1 100 2) ≤ ((l_X2_soonest_9 s a2 (M, (-3), 0, 0) (Int32.toNatClampNeg (M.1 100 2))).2.2.2)) from c18), if_neg (show ¬ ((b2i (¬ (a2 >>> (((l_X2_soonest_9 s a2 (M, (-3), 0, 0) (Int32.toNatClampNeg (M.1 100 2))).2.2.2) &&& 31)) &&& 1 = 0)) = 0) from c27), if_pos (show ((l_X2_soonest_9 s a2 (M, (-3), 0, 0) (Int32.toNatClampNeg (M.1 100 2))).2.1) < 0 from c43)]
      · rw [if_neg (show ¬ (((l_X2_soonest_9 s a2 (M, (-3), 0, 0) (Int32.toNatClampNeg (M.1 100 2))).2.1) < 0) from c43)] at hp
        refine j_iload g (i := 6) (by decide +kernel) rfl ?_
        refine j_iload g (i := 4) (by decide +kernel) rfl ?_
        refine j_icmp_ge g (off := 10) (tgt := 60) (by decide +kernel) (by decide) (fun c50 => ?_) (fun c50 => ?_)
        · rw [if_pos (show ((l_X2_soonest_9 s a2 (M, (-3), 0, 0) (Int32.toNatClampNeg (M.1 100 2))).2.2.1) ≤ (r_X5_minutesOf (l_X2_soonest_9 s a2 (M, (-3), 0, 0) (Int32.toNatClampNeg (M.1 100 2))).1 s ((l_X2_soonest_9 s a2 (M, (-3), 0, 0) (Int32.toNatClampNeg (M.1 100 2))).2.2.2)) from c50)] at hp
          refine j_iinc g (i := 5) (n := 1) (1) (by decide +kernel) rfl (by decide) rfl ?_
          dsimp only [stL, clL, hdL]
          refine j_goto g (off := -54) (tgt := 9) (by decide +kernel) (by decide) ?_
          refine absurd (ci_X2_soonest_9.mpr ?_) hx_9_1
          simp only [if_neg (show ¬ (((l_X2_soonest_9 s a2 (M, (-3), 0, 0) (Int32.toNatClampNeg (M.1 100 2))).1.1 100 2) ≤ ((l_X2_soonest_9 s a2 (M, (-3), 0, 0) (Int32.toNatClampNeg (M.1 100 2))).2.2.2)) from c18), if_neg (show ¬ ((b2i (¬ (a2 >>> (((l_X2_soonest_9 s a2 (M, (-3), 0, 0) (Int32.toNatClampNeg (M.1 100 2))).2.2.2) &&& 31)) &&& 1 = 0)) = 0) from c27), if_neg (show ¬ (((l_X2_soonest_9 s a2 (M, (-3), 0, 0) (Int32.toNatClampNeg (M.1 100 2))).2.1) < 0) from c43), if_pos (show ((l_X2_soonest_9 s a2 (M, (-3), 0, 0) (Int32.toNatClampNeg (M.1 100 2))).2.2.1) ≤ (r_X5_minutesOf (l_X2_soonest_9 s a2 (M, (-3), 0, 0) (Int32.toNatClampNeg (M.1 100 2))).1 s ((l_X2_soonest_9 s a2 (M, (-3), 0, 0) (Int32.toNatClampNeg (M.1 100 2))).2.2.2)) from c50)]
        · rw [if_neg (show ¬ (((l_X2_soonest_9 s a2 (M, (-3), 0, 0) (Int32.toNatClampNeg (M.1 100 2))).2.2.1) ≤ (r_X5_minutesOf (l_X2_soonest_9 s a2 (M, (-3), 0, 0) (Int32.toNatClampNeg (M.1 100 2))).1 s ((l_X2_soonest_9 s a2 (M, (-3), 0, 0) (Int32.toNatClampNeg (M.1 100 2))).2.2.2))) from c50)] at hp
          refine j_iload g (i := 5) (by decide +kernel) rfl ?_
          refine j_istore_n g (i := 3) (by decide +kernel) (by decide) ?_
          dsimp only [stL, clL, hdL]
          refine j_iload g (i := 6) (by decide +kernel) rfl ?_
          refine j_istore g (i := 4) (by decide +kernel) (by decide) ?_
          dsimp only [stL, clL, hdL]
          refine j_iinc g (i := 5) (n := 1) (1) (by decide +kernel) rfl (by decide) rfl ?_
          dsimp only [stL, clL, hdL]
          refine j_goto g (off := -54) (tgt := 9) (by decide +kernel) (by decide) ?_
          refine absurd (ci_X2_soonest_9.mpr ?_) hx_9_1
          simp only [if_neg (show ¬ (((l_X2_soonest_9 s a2 (M, (-3), 0, 0) (Int32.toNatClampNeg (M.1 100 2))).1.1 100 2) ≤ ((l_X2_soonest_9 s a2 (M, (-3), 0, 0) (Int32.toNatClampNeg (M.1 100 2))).2.2.2)) from c18), if_neg (show ¬ ((b2i (¬ (a2 >>> (((l_X2_soonest_9 s a2 (M, (-3), 0, 0) (Int32.toNatClampNeg (M.1 100 2))).2.2.2) &&& 31)) &&& 1 = 0)) = 0) from c27), if_neg (show ¬ (((l_X2_soonest_9 s a2 (M, (-3), 0, 0) (Int32.toNatClampNeg (M.1 100 2))).2.1) < 0) from c43), if_neg (show ¬ (((l_X2_soonest_9 s a2 (M, (-3), 0, 0) (Int32.toNatClampNeg (M.1 100 2))).2.2.1) ≤ (r_X5_minutesOf (l_X2_soonest_9 s a2 (M, (-3), 0, 0) (Int32.toNatClampNeg (M.1 100 2))).1 s ((l_X2_soonest_9 s a2 (M, (-3), 0, 0) (Int32.toNatClampNeg (M.1 100 2))).2.2.2))) from c50)]
def c_X2_worthiest_12 (s : Nat) (a2 : Int32) (σ : Mm × Int32 × Int32 × Int32 × Int32) : Prop := if (σ.1.1 100 2) ≤ σ.2.2.2.2 then False else True
theorem ci_X2_worthiest_12 {s : Nat} {a2 : Int32}  {σ : Mm × Int32 × Int32 × Int32 × Int32} : c_X2_worthiest_12 s a2 σ ↔ (if (σ.1.1 100 2) ≤ σ.2.2.2.2 then False else True) := Iff.rfl
noncomputable def s_X2_worthiest_12 (s : Nat) (a2 : Int32) (σ : Mm × Int32 × Int32 × Int32 × Int32) : Mm × Int32 × Int32 × Int32 × Int32 := if (σ.1.1 100 2) ≤ σ.2.2.2.2 then σ else if (b2i (¬ (a2 >>> (σ.2.2.2.2 &&& 31)) &&& 1 = 0)) = 0 then (σ.1, σ.2.1, σ.2.2.1, σ.2.2.2.1, σ.2.2.2.2 + 1) else if σ.2.1 < 0 then ((w_X5_minutesOf σ.1 s σ.2.2.2.2), σ.2.2.2.2, σ.1.1 (110 + Int32.toNatClampNeg σ.2.2.2.2) 5, (if 1 < (r_X5_minutesOf σ.1 s σ.2.2.2.2) then (r_X5_minutesOf σ.1 s σ.2.2.2.2) else 1), σ.2.2.2.2 + 1) else if ((σ.1.1 (110 + Int32.toNatClampNeg σ.2.2.2.2) 5) * σ.2.2.2.1) ≤ (σ.2.2.1 * (if 1 < (r_X5_minutesOf σ.1 s σ.2.2.2.2) then (r_X5_minutesOf σ.1 s σ.2.2.2.2) else 1)) then ((w_X5_minutesOf σ.1 s σ.2.2.2.2), σ.2.1, σ.2.2.1, σ.2.2.2.1, σ.2.2.2.2 + 1) else ((w_X5_minutesOf σ.1 s σ.2.2.2.2), σ.2.2.2.2, σ.1.1 (110 + Int32.toNatClampNeg σ.2.2.2.2) 5, (if 1 < (r_X5_minutesOf σ.1 s σ.2.2.2.2) then (r_X5_minutesOf σ.1 s σ.2.2.2.2) else 1), σ.2.2.2.2 + 1)
def q_X2_worthiest_12 (s : Nat) (a2 : Int32) (σ : Mm × Int32 × Int32 × Int32 × Int32) : Prop := (if (σ.1.1 100 2) ≤ σ.2.2.2.2 then True else (if (b2i (¬ (a2 >>> (σ.2.2.2.2 &&& 31)) &&& 1 = 0)) = 0 then True else (vp_in σ.2.2.2.2 6) ∧ (p_X5_minutesOf σ.1 s σ.2.2.2.2) ∧ (if σ.2.1 < 0 then True else (if ((σ.1.1 (110 + Int32.toNatClampNeg σ.2.2.2.2) 5) * σ.2.2.2.1) ≤ (σ.2.2.1 * (if 1 < (r_X5_minutesOf σ.1 s σ.2.2.2.2) then (r_X5_minutesOf σ.1 s σ.2.2.2.2) else 1)) then True else True))))
noncomputable def l_X2_worthiest_12 (s : Nat) (a2 : Int32) (σ0 : Mm × Int32 × Int32 × Int32 × Int32) : Nat → Mm × Int32 × Int32 × Int32 × Int32 := itN (fun _ σ => s_X2_worthiest_12 s a2 σ) σ0
theorem ps_X2_worthiest_12 {d : Nat} {J : Nat → Lc → List Value → Mm → Prop} {s : Nat} {a2 : Int32}  {σ : Mm × Int32 × Int32 × Int32 × Int32} (hs : isS s) (g : Good mX2_worthiest.1 mX2_worthiest.2.2.1 mX2_worthiest.2.2.2.1 (d + 2) J) (hc : c_X2_worthiest_12 s a2 σ) (hp : q_X2_worthiest_12 s a2 σ) (k : ∀ (j7 j8 : Option Value), J 12 [some (.ref 510), some (.ref s), some (.int a2), some (.int ((s_X2_worthiest_12 s a2 σ).2.1)), some (.int ((s_X2_worthiest_12 s a2 σ).2.2.1)), some (.int ((s_X2_worthiest_12 s a2 σ).2.2.2.1)), some (.int ((s_X2_worthiest_12 s a2 σ).2.2.2.2)), j7, j8] [] ((s_X2_worthiest_12 s a2 σ).1)) : ∀ (j7 j8 : Option Value), J 12 [some (.ref 510), some (.ref s), some (.int a2), some (.int σ.2.1), some (.int σ.2.2.1), some (.int σ.2.2.2.1), some (.int σ.2.2.2.2), j7, j8] [] σ.1 := by
  intro j7 j8
  unfold c_X2_worthiest_12 at hc
  unfold q_X2_worthiest_12 at hp
  unfold s_X2_worthiest_12 at k
  refine j_iload g (i := 6) (by decide +kernel) rfl ?_
  refine j_aload_n g (i := 0) (by decide +kernel) rfl ?_
  refine j_gA g (b := 100) f2_12 (by decide +kernel) (by decide +kernel) (by decide +kernel) (by decide +kernel) ?_
  refine j_gI g f2_129 (by decide +kernel) (by decide +kernel) (by decide +kernel) ?_
  refine j_icmp_ge g (off := 77) (tgt := 98) (by decide +kernel) (by decide) (fun c21 => ?_) (fun c21 => ?_)
  · (try rw [if_pos (show (σ.1.1 100 2) ≤ σ.2.2.2.2 from c21)] at hc); (rw [if_pos (show (σ.1.1 100 2) ≤ σ.2.2.2.2 from c21)] at hp); (try simp only [if_pos (show (σ.1.1 100 2) ≤ σ.2.2.2.2 from c21)] at k)
    exact hc.elim
  · (try rw [if_neg (show ¬ ((σ.1.1 100 2) ≤ σ.2.2.2.2) from c21)] at hc); (rw [if_neg (show ¬ ((σ.1.1 100 2) ≤ σ.2.2.2.2) from c21)] at hp); (try simp only [if_neg (show ¬ ((σ.1.1 100 2) ≤ σ.2.2.2.2) from c21)] at k)
    refine j_iload_n g (i := 2) (by decide +kernel) rfl ?_
    refine j_iload g (i := 6) (by decide +kernel) rfl ?_
    refine j_cS2r g s2_71 (by decide +kernel) (Nat.le_of_ble_eq_true rfl) (rnX2_isIn) ?_
    refine j_if_eq g (off := 62) (tgt := 92) (by decide +kernel) (by decide) (fun c30 => ?_) (fun c30 => ?_)
    · (try rw [if_pos (show (b2i (¬ (a2 >>> (σ.2.2.2.2 &&& 31)) &&& 1 = 0)) = 0 from c30)] at hc); (rw [if_pos (show (b2i (¬ (a2 >>> (σ.2.2.2.2 &&& 31)) &&& 1 = 0)) = 0 from c30)] at hp); (try simp only [if_pos (show (b2i (¬ (a2 >>> (σ.2.2.2.2 &&& 31)) &&& 1 = 0)) = 0 from c30)] at k)
      refine j_iinc g (i := 6) (n := 1) (1) (by decide +kernel) rfl (by decide) rfl ?_
      dsimp only [stL, clL, hdL]
      refine j_goto g (off := -83) (tgt := 12) (by decide +kernel) (by decide) ?_
      exact k _ _
    · (try rw [if_neg (show ¬ ((b2i (¬ (a2 >>> (σ.2.2.2.2 &&& 31)) &&& 1 = 0)) = 0) from c30)] at hc); (rw [if_neg (show ¬ ((b2i (¬ (a2 >>> (σ.2.2.2.2 &&& 31)) &&& 1 = 0)) = 0) from c30)] at hp); (try simp only [if_neg (show ¬ ((b2i (¬ (a2 >>> (σ.2.2.2.2 &&& 31)) &&& 1 = 0)) = 0) from c30)] at k)
      refine j_aload_n g (i := 0) (by decide +kernel) rfl ?_
      refine j_gA g (b := 100) f2_12 (by decide +kernel) (by decide +kernel) (by decide +kernel) (by decide +kernel) ?_
      refine j_gA g (b := 103) f2_75 (by decide +kernel) (by decide +kernel) (by decide +kernel) (by decide +kernel) ?_
      refine j_iload g (i := 6) (by decide +kernel) rfl ?_
      obtain ⟨h0, hp⟩ := hp
      refine j_aW g 6 (by decide +kernel) (by decide +kernel) (by decide +kernel) h0 (rfW103 h0) ?_
      have hw42 := h0
      refine j_gI g f2_180 (by decide +kernel) (by decide +kernel) (gkW103 hw42) ?_
      refine j_istore g (i := 7) (by decide +kernel) (by decide) ?_
      dsimp only [stL, clL, hdL]
      refine j_iconst g (n := 1) (1) (by decide +kernel) rfl ?_
      refine j_aload_n g (i := 0) (by decide +kernel) rfl ?_
      refine j_gA g (b := 100) f2_12 (by decide +kernel) (by decide +kernel) (by decide +kernel) (by decide +kernel) ?_
      refine j_aload_n g (i := 1) (by decide +kernel) rfl ?_
      refine j_iload g (i := 6) (by decide +kernel) rfl ?_
      obtain ⟨h0, hp⟩ := hp
      refine j_cV2r g v2_144 ⟨rfl, by decide⟩ (by decide +kernel) (by decide +kernel) (Nat.le_of_ble_eq_true rfl) (rnX5_minutesOf (by first | exact hs | (simp [isS]; done)) h0) ?_
      refine j_mmax g (by omega) (Nat.le_of_ble_eq_true rfl) t2_183 (by decide +kernel) ?_
      refine j_istore g (i := 8) (by decide +kernel) (by decide) ?_
      dsimp only [stL, clL, hdL]
      refine j_iload_n g (i := 3) (by decide +kernel) rfl ?_
      refine j_if_lt g (off := 16) (tgt := 81) (by decide +kernel) (by decide) (fun c65 => ?_) (fun c65 => ?_)
      · (try rw [if_pos (show σ.2.1 < 0 from c65)] at hc); (rw [if_pos (show σ.2.1 < 0 from c65)] at hp); (try simp only [if_pos (show σ.2.1 < 0 from c65)] at k)
        refine j_iload g (i := 6) (by decide +kernel) rfl ?_
        refine j_istore_n g (i := 3) (by decide +kernel) (by decide) ?_
        dsimp only [stL, clL, hdL]
        refine j_iload g (i := 7) (by decide +kernel) rfl ?_
        refine j_istore g (i := 4) (by decide +kernel) (by decide) ?_
        dsimp only [stL, clL, hdL]
        refine j_iload g (i := 8) (by decide +kernel) rfl ?_
        refine j_istore g (i := 5) (by decide +kernel) (by decide) ?_
        dsimp only [stL, clL, hdL]
        refine j_iinc g (i := 6) (n := 1) (1) (by decide +kernel) rfl (by decide) rfl ?_
        dsimp only [stL, clL, hdL]
        refine j_goto g (off := -83) (tgt := 12) (by decide +kernel) (by decide) ?_
        exact k _ _
      · (try rw [if_neg (show ¬ (σ.2.1 < 0) from c65)] at hc); (rw [if_neg (show ¬ (σ.2.1 < 0) from c65)] at hp); (try simp only [if_neg (show ¬ (σ.2.1 < 0) from c65)] at k)
        refine j_iload g (i := 7) (by decide +kernel) rfl ?_
        refine j_iload g (i := 5) (by decide +kernel) rfl ?_
        refine j_imul g (by decide +kernel) ?_
        refine j_iload g (i := 4) (by decide +kernel) rfl ?_
        refine j_iload g (i := 8) (by decide +kernel) rfl ?_
        refine j_imul g (by decide +kernel) ?_
        refine j_icmp_le g (off := 14) (tgt := 92) (by decide +kernel) (by decide) (fun c78 => ?_) (fun c78 => ?_)
        · (try rw [if_pos (show ((σ.1.1 (110 + Int32.toNatClampNeg σ.2.2.2.2) 5) * σ.2.2.2.1) ≤ (σ.2.2.1 * (if 1 < (r_X5_minutesOf σ.1 s σ.2.2.2.2) then (r_X5_minutesOf σ.1 s σ.2.2.2.2) else 1)) from c78)] at hc); (rw [if_pos (show ((σ.1.1 (110 + Int32.toNatClampNeg σ.2.2.2.2) 5) * σ.2.2.2.1) ≤ (σ.2.2.1 * (if 1 < (r_X5_minutesOf σ.1 s σ.2.2.2.2) then (r_X5_minutesOf σ.1 s σ.2.2.2.2) else 1)) from c78)] at hp); (try simp only [if_pos (show ((σ.1.1 (110 + Int32.toNatClampNeg σ.2.2.2.2) 5) * σ.2.2.2.1) ≤ (σ.2.2.1 * (if 1 < (r_X5_minutesOf σ.1 s σ.2.2.2.2) then (r_X5_minutesOf σ.1 s σ.2.2.2.2) else 1)) from c78)] at k)
          refine j_iinc g (i := 6) (n := 1) (1) (by decide +kernel) rfl (by decide) rfl ?_
          dsimp only [stL, clL, hdL]
          refine j_goto g (off := -83) (tgt := 12) (by decide +kernel) (by decide) ?_
          exact k _ _
        · (try rw [if_neg (show ¬ (((σ.1.1 (110 + Int32.toNatClampNeg σ.2.2.2.2) 5) * σ.2.2.2.1) ≤ (σ.2.2.1 * (if 1 < (r_X5_minutesOf σ.1 s σ.2.2.2.2) then (r_X5_minutesOf σ.1 s σ.2.2.2.2) else 1))) from c78)] at hc); (rw [if_neg (show ¬ (((σ.1.1 (110 + Int32.toNatClampNeg σ.2.2.2.2) 5) * σ.2.2.2.1) ≤ (σ.2.2.1 * (if 1 < (r_X5_minutesOf σ.1 s σ.2.2.2.2) then (r_X5_minutesOf σ.1 s σ.2.2.2.2) else 1))) from c78)] at hp); (try simp only [if_neg (show ¬ (((σ.1.1 (110 + Int32.toNatClampNeg σ.2.2.2.2) 5) * σ.2.2.2.1) ≤ (σ.2.2.1 * (if 1 < (r_X5_minutesOf σ.1 s σ.2.2.2.2) then (r_X5_minutesOf σ.1 s σ.2.2.2.2) else 1))) from c78)] at k)
          refine j_iload g (i := 6) (by decide +kernel) rfl ?_
          refine j_istore_n g (i := 3) (by decide +kernel) (by decide) ?_
          dsimp only [stL, clL, hdL]
          refine j_iload g (i := 7) (by decide +kernel) rfl ?_
          refine j_istore g (i := 4) (by decide +kernel) (by decide) ?_
          dsimp only [stL, clL, hdL]
          refine j_iload g (i := 8) (by decide +kernel) rfl ?_
          refine j_istore g (i := 5) (by decide +kernel) (by decide) ?_
          dsimp only [stL, clL, hdL]
          refine j_iinc g (i := 6) (n := 1) (1) (by decide +kernel) rfl (by decide) rfl ?_
          dsimp only [stL, clL, hdL]
          refine j_goto g (off := -83) (tgt := 12) (by decide +kernel) (by decide) ?_
          exact k _ _
theorem sh_X2_worthiest_12 {d : Nat} {J : Nat → Lc → List Value → Mm → Prop} {s : Nat} {a2 : Int32}  {σ0 : Mm × Int32 × Int32 × Int32 × Int32} (hs : isS s) (g : Good mX2_worthiest.1 mX2_worthiest.2.2.1 mX2_worthiest.2.2.2.1 (d + 2) J) : ∀ (N : Nat), (∀ k, k < N → c_X2_worthiest_12 s a2 (l_X2_worthiest_12 s a2 σ0 k)) → (∀ k, k < N → q_X2_worthiest_12 s a2 (l_X2_worthiest_12 s a2 σ0 k)) → (∀ (j7 j8 : Option Value), J 12 [some (.ref 510), some (.ref s), some (.int a2), some (.int ((l_X2_worthiest_12 s a2 σ0 N).2.1)), some (.int ((l_X2_worthiest_12 s a2 σ0 N).2.2.1)), some (.int ((l_X2_worthiest_12 s a2 σ0 N).2.2.2.1)), some (.int ((l_X2_worthiest_12 s a2 σ0 N).2.2.2.2)), j7, j8] [] ((l_X2_worthiest_12 s a2 σ0 N).1)) → ∀ (j7 j8 : Option Value), J 12 [some (.ref 510), some (.ref s), some (.int a2), some (.int σ0.2.1), some (.int σ0.2.2.1), some (.int σ0.2.2.2.1), some (.int σ0.2.2.2.2), j7, j8] [] σ0.1
  | 0, _, _, k => k
  | N + 1, hc, hp, k => sh_X2_worthiest_12 hs g N (fun i hi => hc i (Nat.lt_succ_of_lt hi)) (fun i hi => hp i (Nat.lt_succ_of_lt hi)) (ps_X2_worthiest_12 hs g (hc N (Nat.lt_succ_self N)) (hp N (Nat.lt_succ_self N)) k)
noncomputable def r_X2_worthiest (M : Mm) (s : Nat) (a2 : Int32) : Int32 := if ((l_X2_worthiest_12 s a2 (M, (-3), 0, 1, 0) (Int32.toNatClampNeg (M.1 100 2))).1.1 100 2) ≤ ((l_X2_worthiest_12 s a2 (M, (-3), 0, 1, 0) (Int32.toNatClampNeg (M.1 100 2))).2.2.2.2) then (l_X2_worthiest_12 s a2 (M, (-3), 0, 1, 0) (Int32.toNatClampNeg (M.1 100 2))).2.1 else 0
noncomputable def w_X2_worthiest (M : Mm) (s : Nat) (a2 : Int32) : Mm := if ((l_X2_worthiest_12 s a2 (M, (-3), 0, 1, 0) (Int32.toNatClampNeg (M.1 100 2))).1.1 100 2) ≤ ((l_X2_worthiest_12 s a2 (M, (-3), 0, 1, 0) (Int32.toNatClampNeg (M.1 100 2))).2.2.2.2) then (l_X2_worthiest_12 s a2 (M, (-3), 0, 1, 0) (Int32.toNatClampNeg (M.1 100 2))).1 else M
def p_X2_worthiest (M : Mm) (s : Nat) (a2 : Int32) : Prop := (∀ k, k < (Int32.toNatClampNeg (M.1 100 2)) → c_X2_worthiest_12 s a2 (l_X2_worthiest_12 s a2 (M, (-3), 0, 1, 0) k)) ∧ (∀ k, k < (Int32.toNatClampNeg (M.1 100 2)) → q_X2_worthiest_12 s a2 (l_X2_worthiest_12 s a2 (M, (-3), 0, 1, 0) k)) ∧ (¬ c_X2_worthiest_12 s a2 (l_X2_worthiest_12 s a2 (M, (-3), 0, 1, 0) (Int32.toNatClampNeg (M.1 100 2)))) ∧ (if ((l_X2_worthiest_12 s a2 (M, (-3), 0, 1, 0) (Int32.toNatClampNeg (M.1 100 2))).1.1 100 2) ≤ ((l_X2_worthiest_12 s a2 (M, (-3), 0, 1, 0) (Int32.toNatClampNeg (M.1 100 2))).2.2.2.2) then True else (if (b2i (¬ (a2 >>> (((l_X2_worthiest_12 s a2 (M, (-3), 0, 1, 0) (Int32.toNatClampNeg (M.1 100 2))).2.2.2.2) &&& 31)) &&& 1 = 0)) = 0 then True else (vp_in ((l_X2_worthiest_12 s a2 (M, (-3), 0, 1, 0) (Int32.toNatClampNeg (M.1 100 2))).2.2.2.2) 6) ∧ (p_X5_minutesOf (l_X2_worthiest_12 s a2 (M, (-3), 0, 1, 0) (Int32.toNatClampNeg (M.1 100 2))).1 s ((l_X2_worthiest_12 s a2 (M, (-3), 0, 1, 0) (Int32.toNatClampNeg (M.1 100 2))).2.2.2.2)) ∧ (if ((l_X2_worthiest_12 s a2 (M, (-3), 0, 1, 0) (Int32.toNatClampNeg (M.1 100 2))).2.1) < 0 then True else (if (((l_X2_worthiest_12 s a2 (M, (-3), 0, 1, 0) (Int32.toNatClampNeg (M.1 100 2))).1.1 (110 + Int32.toNatClampNeg ((l_X2_worthiest_12 s a2 (M, (-3), 0, 1, 0) (Int32.toNatClampNeg (M.1 100 2))).2.2.2.2)) 5) * ((l_X2_worthiest_12 s a2 (M, (-3), 0, 1, 0) (Int32.toNatClampNeg (M.1 100 2))).2.2.2.1)) ≤ (((l_X2_worthiest_12 s a2 (M, (-3), 0, 1, 0) (Int32.toNatClampNeg (M.1 100 2))).2.2.1) * (if 1 < (r_X5_minutesOf (l_X2_worthiest_12 s a2 (M, (-3), 0, 1, 0) (Int32.toNatClampNeg (M.1 100 2))).1 s ((l_X2_worthiest_12 s a2 (M, (-3), 0, 1, 0) (Int32.toNatClampNeg (M.1 100 2))).2.2.2.2)) then (r_X5_minutesOf (l_X2_worthiest_12 s a2 (M, (-3), 0, 1, 0) (Int32.toNatClampNeg (M.1 100 2))).1 s ((l_X2_worthiest_12 s a2 (M, (-3), 0, 1, 0) (Int32.toNatClampNeg (M.1 100 2))).2.2.2.2)) else 1)) then True else True))))
theorem rnX2_worthiest {d : Nat} {M : Mm} {s : Nat} {a2 : Int32} (hs : isS s) (hp : p_X2_worthiest M s a2) : Rn (d + 2) mX2_worthiest [.ref 510, .ref s, .int a2] M (some (.int (r_X2_worthiest M s a2))) (w_X2_worthiest M s a2) := by
  refine Rn.of [some (.ref 510), some (.ref s), some (.int a2), none, none, none, none, none, none] (by decide +kernel) rfl (Nat.le_of_ble_eq_true rfl) rfl (fun J g hr => ?_)
  unfold p_X2_worthiest at hp
  refine j_bipush g (n := -3) (-3) (by decide +kernel) (by decide +kernel) ?_
  refine j_istore_n g (i := 3) (by decide +kernel) (by decide) ?_
  dsimp only [stL, clL, hdL]
  refine j_iconst g (n := 0) (0) (by decide +kernel) rfl ?_
  refine j_istore g (i := 4) (by decide +kernel) (by decide) ?_
  dsimp only [stL, clL, hdL]
  refine j_iconst g (n := 1) (1) (by decide +kernel) rfl ?_
  refine j_istore g (i := 5) (by decide +kernel) (by decide) ?_
  dsimp only [stL, clL, hdL]
  refine j_iconst g (n := 0) (0) (by decide +kernel) rfl ?_
  refine j_istore g (i := 6) (by decide +kernel) (by decide) ?_
  dsimp only [stL, clL, hdL]
  obtain ⟨h0, hp⟩ := hp
  have hc_12_1 := h0
  obtain ⟨h0, hp⟩ := hp
  have hq_12_1 := h0
  obtain ⟨h0, hp⟩ := hp
  have hx_12_1 := h0
  refine sh_X2_worthiest_12  hs g (σ0 := (M, (-3), 0, 1, 0)) (Int32.toNatClampNeg (M.1 100 2)) hc_12_1 hq_12_1 ?_ _ _
  intro j7_1 j8_1
  refine j_iload g (i := 6) (by decide +kernel) rfl ?_
  refine j_aload_n g (i := 0) (by decide +kernel) rfl ?_
  refine j_gA g (b := 100) f2_12 (by decide +kernel) (by decide +kernel) (by decide +kernel) (by decide +kernel) ?_
  refine j_gI g f2_129 (by decide +kernel) (by decide +kernel) (by decide +kernel) ?_
  refine j_icmp_ge g (off := 77) (tgt := 98) (by decide +kernel) (by decide) (fun c21 => ?_) (fun c21 => ?_)
  · rw [if_pos (show ((l_X2_worthiest_12 s a2 (M, (-3), 0, 1, 0) (Int32.toNatClampNeg (M.1 100 2))).1.1 100 2) ≤ ((l_X2_worthiest_12 s a2 (M, (-3), 0, 1, 0) (Int32.toNatClampNeg (M.1 100 2))).2.2.2.2) from c21)] at hp
    refine j_iload_n g (i := 3) (by decide +kernel) rfl ?_
    refine hr.1 _ _ _ _ (by decide +kernel) ⟨_, rfl, by first | rfl | exact b2i_nar | decide +kernel⟩ ?_ ?_
    · unfold r_X2_worthiest; first | (simp only [if_pos (show ((l_X2_worthiest_12 s a2 (M, (-3), 0, 1, 0) (Int32.toNatClampNeg (M.1 100 2))).1.1 100 2) ≤ ((l_X2_worthiest_12 s a2 (M, (-3), 0, 1, 0) (Int32.toNatClampNeg (M.1 100 2))).2.2.2.2) from c21)]; done) | (simp only [if_pos (show ((l_X2_worthiest_12 s a2 (M, (-3), 0, 1, 0) (Int32.toNatClampNeg (M.1 100 2))).1.1 100 2) ≤ ((l_X2_worthiest_12 s a2 (M, (-3), 0, 1, 0) (Int32.toNatClampNeg (M.1 100 2))).2.2.2.2) from c21)]; rfl) | rfl
    · unfold w_X2_worthiest; first | (simp only [if_pos (show ((l_X2_worthiest_12 s a2 (M, (-3), 0, 1, 0) (Int32.toNatClampNeg (M.1 100 2))).1.1 100 2) ≤ ((l_X2_worthiest_12 s a2 (M, (-3), 0, 1, 0) (Int32.toNatClampNeg (M.1 100 2))).2.2.2.2) from c21)]; done) | (simp only [if_pos (show ((l_X2_worthiest_12 s a2 (M, (-3), 0, 1, 0) (Int32.toNatClampNeg (M.1 100 2))).1.1 100 2) ≤ ((l_X2_worthiest_12 s a2 (M, (-3), 0, 1, 0) (Int32.toNatClampNeg (M.1 100 2))).2.2.2.2) from c21)]; rfl) | rfl
  · rw [if_neg (show ¬ (((l_X2_worthiest_12 s a2 (M, (-3), 0, 1, 0) (Int32.toNatClampNeg (M.1 100 2))).1.1 100 2) ≤ ((l_X2_worthiest_12 s a2 (M, (-3), 0, 1, 0) (Int32.toNatClampNeg (M.1 100 2))).2.2.2.2)) from c21)] at hp
    refine j_iload_n g (i := 2) (by decide +kernel) rfl ?_
    refine j_iload g (i := 6) (by decide +kernel) rfl ?_
    refine j_cS2r g s2_71 (by decide +kernel) (Nat.le_of_ble_eq_true rfl) (rnX2_isIn) ?_
    refine j_if_eq g (off := 62) (tgt := 92) (by decide +kernel) (by decide) (fun c30 => ?_) (fun c30 => ?_)
    · rw [if_pos (show (b2i (¬ (a2 >>> (((l_X2_worthiest_12 s a2 (M, (-3), 0, 1, 0) (Int32.toNatClampNeg (M.1 100 2))).2.2.2.2) &&& 31)) &&& 1 = 0)) = 0 from c30)] at hp
      refine j_iinc g (i := 6) (n := 1) (1) (by decide +kernel) rfl (by decide) rfl ?_
      dsimp only [stL, clL, hdL]
      refine j_goto g (off := -83) (tgt := 12) (by decide +kernel) (by decide) ?_
      refine absurd (ci_X2_worthiest_12.mpr ?_) hx_12_1
      simp only [if_neg (show ¬ (((l_X2_worthiest_12 s a2 (M, (-3), 0, 1, 0) (Int32.toNatClampNeg (M.1 100 2))).1.1 100 2) ≤ ((l_X2_worthiest_12 s a2 (M, (-3), 0, 1, 0) (Int32.toNatClampNeg (M.1 100 2))).2.2.2.2)) from c21), if_pos (show (b2i (¬ (a2 >>> (((l_X2_worthiest_12 s a2 (M, (-3), 0, 1, 0) (Int32.toNatClampNeg (M.1 100 2))).2.2.2.2) &&& 31)) &&& 1 = 0)) = 0 from c30)]
    · rw [if_neg (show ¬ ((b2i (¬ (a2 >>> (((l_X2_worthiest_12 s a2 (M, (-3), 0, 1, 0) (Int32.toNatClampNeg (M.1 100 2))).2.2.2.2) &&& 31)) &&& 1 = 0)) = 0) from c30)] at hp
      refine j_aload_n g (i := 0) (by decide +kernel) rfl ?_
      refine j_gA g (b := 100) f2_12 (by decide +kernel) (by decide +kernel) (by decide +kernel) (by decide +kernel) ?_
      refine j_gA g (b := 103) f2_75 (by decide +kernel) (by decide +kernel) (by decide +kernel) (by decide +kernel) ?_
      refine j_iload g (i := 6) (by decide +kernel) rfl ?_
      obtain ⟨h0, hp⟩ := hp
      refine j_aW g 6 (by decide +kernel) (by decide +kernel) (by decide +kernel) h0 (rfW103 h0) ?_
      have hw42 := h0
      refine j_gI g f2_180 (by decide +kernel) (by decide +kernel) (gkW103 hw42) ?_
      refine j_istore g (i := 7) (by decide +kernel) (by decide) ?_
      dsimp only [stL, clL, hdL]
      refine j_iconst g (n := 1) (1) (by decide +kernel) rfl ?_
      refine j_aload_n g (i := 0) (by decide +kernel) rfl ?_
      refine j_gA g (b := 100) f2_12 (by decide +kernel) (by decide +kernel) (by decide +kernel) (by decide +kernel) ?_
      refine j_aload_n g (i := 1) (by decide +kernel) rfl ?_
      refine j_iload g (i := 6) (by decide +kernel) rfl ?_
      obtain ⟨h0, hp⟩ := hp
      refine j_cV2r g v2_144 ⟨rfl, by decide⟩ (by decide +kernel) (by decide +kernel) (Nat.le_of_ble_eq_true rfl) (rnX5_minutesOf (by first | exact hs | (simp [isS]; done)) h0) ?_
      refine j_mmax g (by omega) (Nat.le_of_ble_eq_true rfl) t2_183 (by decide +kernel) ?_
      refine j_istore g (i := 8) (by decide +kernel) (by decide) ?_
      dsimp only [stL, clL, hdL]
      refine j_iload_n g (i := 3) (by decide +kernel) rfl ?_
      refine j_if_lt g (off := 16) (tgt := 81) (by decide +kernel) (by decide) (fun c65 => ?_) (fun c65 => ?_)
      · rw [if_pos (show ((l_X2_worthiest_12 s a2 (M, (-3), 0, 1, 0) (Int32.toNatClampNeg (M.1 100 2))).2.1) < 0 from c65)] at hp
        refine j_iload g (i := 6) (by decide +kernel) rfl ?_
        refine j_istore_n g (i := 3) (by decide +kernel) (by decide) ?_
        dsimp only [stL, clL, hdL]
        refine j_iload g (i := 7) (by decide +kernel) rfl ?_
        refine j_istore g (i := 4) (by decide +kernel) (by decide) ?_
        dsimp only [stL, clL, hdL]
        refine j_iload g (i := 8) (by decide +kernel) rfl ?_
        refine j_istore g (i := 5) (by decide +kernel) (by decide) ?_
        dsimp only [stL, clL, hdL]
        refine j_iinc g (i := 6) (n := 1) (1) (by decide +kernel) rfl (by decide) rfl ?_
        dsimp only [stL, clL, hdL]
        refine j_goto g (off := -83) (tgt := 12) (by decide +kernel) (by decide) ?_
        refine absurd (ci_X2_worthiest_12.mpr ?_) hx_12_1
        simp only [if_neg (show ¬ (((l_X2_worthiest_12 s a2 (M, (-3), 0, 1, 0) (Int32.toNatClampNeg (M.1 100 2))).1.1 100 2) ≤ ((l_X2_worthiest_12 s a2 (M, (-3), 0, 1, 0) (Int32.toNatClampNeg (M.1 100 2))).2.2.2.2)) from c21), if_neg (show ¬ ((b2i (¬ (a2 >>> (((l_X2_worthiest_12 s a2 (M, (-3), 0, 1, 0) (Int32.toNatClampNeg (M.1 100 2))).2.2.2.2) &&& 31)) &&& 1 = 0)) = 0) from c30), if_pos (show ((l_X2_worthiest_12 s a2 (M, (-3), 0, 1, 0) (Int32.toNatClampNeg (M.1 100 2))).2.1) < 0 from c65)]
      · rw [if_neg (show ¬ (((l_X2_worthiest_12 s a2 (M, (-3), 0, 1, 0) (Int32.toNatClampNeg (M.1 100 2))).2.1) < 0) from c65)] at hp
        refine j_iload g (i := 7) (by decide +kernel) rfl ?_
        refine j_iload g (i := 5) (by decide +kernel) rfl ?_
        refine j_imul g (by decide +kernel) ?_
        refine j_iload g (i := 4) (by decide +kernel) rfl ?_
        refine j_iload g (i := 8) (by decide +kernel) rfl ?_
        refine j_imul g (by decide +kernel) ?_
        refine j_icmp_le g (off := 14) (tgt := 92) (by decide +kernel) (by decide) (fun c78 => ?_) (fun c78 => ?_)
        · rw [if_pos (show (((l_X2_worthiest_12 s a2 (M, (-3), 0, 1, 0) (Int32.toNatClampNeg (M.1 100 2))).1.1 (110 + Int32.toNatClampNeg ((l_X2_worthiest_12 s a2 (M, (-3), 0, 1, 0) (Int32.toNatClampNeg (M.1 100 2))).2.2.2.2)) 5) * ((l_X2_worthiest_12 s a2 (M, (-3), 0, 1, 0) (Int32.toNatClampNeg (M.1 100 2))).2.2.2.1)) ≤ (((l_X2_worthiest_12 s a2 (M, (-3), 0, 1, 0) (Int32.toNatClampNeg (M.1 100 2))).2.2.1) * (if 1 < (r_X5_minutesOf (l_X2_worthiest_12 s a2 (M, (-3), 0, 1, 0) (Int32.toNatClampNeg (M.1 100 2))).1 s ((l_X2_worthiest_12 s a2 (M, (-3), 0, 1, 0) (Int32.toNatClampNeg (M.1 100 2))).2.2.2.2)) then (r_X5_minutesOf (l_X2_worthiest_12 s a2 (M, (-3), 0, 1, 0) (Int32.toNatClampNeg (M.1 100 2))).1 s ((l_X2_worthiest_12 s a2 (M, (-3), 0, 1, 0) (Int32.toNatClampNeg (M.1 100 2))).2.2.2.2)) else 1)) from c78)] at hp
          refine j_iinc g (i := 6) (n := 1) (1) (by decide +kernel) rfl (by decide) rfl ?_
          dsimp only [stL, clL, hdL]
          refine j_goto g (off := -83) (tgt := 12) (by decide +kernel) (by decide) ?_
          refine absurd (ci_X2_worthiest_12.mpr ?_) hx_12_1
          simp only [if_neg (show ¬ (((l_X2_worthiest_12 s a2 (M, (-3), 0, 1, 0) (Int32.toNatClampNeg (M.1 100 2))).1.1 100 2) ≤ ((l_X2_worthiest_12 s a2 (M, (-3), 0, 1, 0) (Int32.toNatClampNeg (M.1 100 2))).2.2.2.2)) from c21), if_neg (show ¬ ((b2i (¬ (a2 >>> (((l_X2_worthiest_12 s a2 (M, (-3), 0, 1, 0) (Int32.toNatClampNeg (M.1 100 2))).2.2.2.2) &&& 31)) &&& 1 = 0)) = 0) from c30), if_neg (show ¬ (((l_X2_worthiest_12 s a2 (M, (-3), 0, 1, 0) (Int32.toNatClampNeg (M.1 100 2))).2.1) < 0) from c65), if_pos (show (((l_X2_worthiest_12 s a2 (M, (-3), 0, 1, 0) (Int32.toNatClampNeg (M.1 100 2))).1.1 (110 + Int32.toNatClampNeg ((l_X2_worthiest_12 s a2 (M, (-3), 0, 1, 0) (Int32.toNatClampNeg (M.1 100 2))).2.2.2.2)) 5) * ((l_X2_worthiest_12 s a2 (M, (-3), 0, 1, 0) (Int32.toNatClampNeg (M.1 100 2))).2.2.2.1)) ≤ (((l_X2_worthiest_12 s a2 (M, (-3), 0, 1, 0) (Int32.toNatClampNeg (M.1 100 2))).2.2.1) * (if 1 < (r_X5_minutesOf (l_X2_worthiest_12 s a2 (M, (-3), 0, 1, 0) (Int32.toNatClampNeg (M.1 100 2))).1 s ((l_X2_worthiest_12 s a2 (M, (-3), 0, 1, 0) (Int32.toNatClampNeg (M.1 100 2))).2.2.2.2)) then (r_X5_minutesOf (l_X2_worthiest_12 s a2 (M, (-3), 0, 1, 0) (Int32.toNatClampNeg (M.1 100 2))).1 s ((l_X2_worthiest_12 s a2 (M, (-3), 0, 1, 0) (Int32.toNatClampNeg (M.1 100 2))).2.2.2.2)) else 1)) from c78)]
        · rw [if_neg (show ¬ ((((l_X2_worthiest_12 s a2 (M, (-3), 0, 1, 0) (Int32.toNatClampNeg (M.1 100 2))).1.1 (110 + Int32.toNatClampNeg ((l_X2_worthiest_12 s a2 (M, (-3), 0, 1, 0) (Int32.toNatClampNeg (M.1 100 2))).2.2.2.2)) 5) * ((l_X2_worthiest_12 s a2 (M, (-3), 0, 1, 0) (Int32.toNatClampNeg (M.1 100 2))).2.2.2.1)) ≤ (((l_X2_worthiest_12 s a2 (M, (-3), 0, 1, 0) (Int32.toNatClampNeg (M.1 100 2))).2.2.1) * (if 1 < (r_X5_minutesOf (l_X2_worthiest_12 s a2 (M, (-3), 0, 1, 0) (Int32.toNatClampNeg (M.1 100 2))).1 s ((l_X2_worthiest_12 s a2 (M, (-3), 0, 1, 0) (Int32.toNatClampNeg (M.1 100 2))).2.2.2.2)) then (r_X5_minutesOf (l_X2_worthiest_12 s a2 (M, (-3), 0, 1, 0) (Int32.toNatClampNeg (M.1 100 2))).1 s ((l_X2_worthiest_12 s a2 (M, (-3), 0, 1, 0) (Int32.toNatClampNeg (M.1 100 2))).2.2.2.2)) else 1))) from c78)] at hp
          refine j_iload g (i := 6) (by decide +kernel) rfl ?_
          refine j_istore_n g (i := 3) (by decide +kernel) (by decide) ?_
          dsimp only [stL, clL, hdL]
          refine j_iload g (i := 7) (by decide +kernel) rfl ?_
          refine j_istore g (i := 4) (by decide +kernel) (by decide) ?_
          dsimp only [stL, clL, hdL]
          refine j_iload g (i := 8) (by decide +kernel) rfl ?_
          refine j_istore g (i := 5) (by decide +kernel) (by decide) ?_
          dsimp only [stL, clL, hdL]
          refine j_iinc g (i := 6) (n := 1) (1) (by decide +kernel) rfl (by decide) rfl ?_
          dsimp only [stL, clL, hdL]
          refine j_goto g (off := -83) (tgt := 12) (by decide +kernel) (by decide) ?_
          refine absurd (ci_X2_worthiest_12.mpr ?_) hx_12_1
          simp only [if_neg (show ¬ (((l_X2_worthiest_12 s a2 (M, (-3), 0, 1, 0) (Int32.toNatClampNeg (M.1 100 2))).1.1 100 2) ≤ ((l_X2_worthiest_12 s a2 (M, (-3), 0, 1, 0) (Int32.toNatClampNeg (M.1 100 2))).2.2.2.2)) from c21), if_neg (show ¬ ((b2i (¬ (a2 >>> (((l_X2_worthiest_12 s a2 (M, (-3), 0, 1, 0) (Int32.toNatClampNeg (M.1 100 2))).2.2.2.2) &&& 31)) &&& 1 = 0)) = 0) from c30), if_neg (show ¬ (((l_X2_worthiest_12 s a2 (M, (-3), 0, 1, 0) (Int32.toNatClampNeg (M.1 100 2))).2.1) < 0) from c65), if_neg (show ¬ ((((l_X2_worthiest_12 s a2 (M, (-3), 0, 1, 0) (Int32.toNatClampNeg (M.1 100 2))).1.1 (110 + Int32.toNatClampNeg ((l_X2_worthiest_12 s a2 (M, (-3), 0, 1, 0) (Int32.toNatClampNeg (M.1 100 2))).2.2.2.2)) 5) * ((l_X2_worthiest_12 s a2 (M, (-3), 0, 1, 0) (Int32.toNatClampNeg (M.1 100 2))).2.2.2.1)) ≤ (((l_X2_worthiest_12 s a2 (M, (-3), 0, 1, 0) (Int32.toNatClampNeg (M.1 100 2))).2.2.1) * (if 1 < (r_X5_minutesOf (l_X2_worthiest_12 s a2 (M, (-3), 0, 1, 0) (Int32.toNatClampNeg (M.1 100 2))).1 s ((l_X2_worthiest_12 s a2 (M, (-3), 0, 1, 0) (Int32.toNatClampNeg (M.1 100 2))).2.2.2.2)) then (r_X5_minutesOf (l_X2_worthiest_12 s a2 (M, (-3), 0, 1, 0) (Int32.toNatClampNeg (M.1 100 2))).1 s ((l_X2_worthiest_12 s a2 (M, (-3), 0, 1, 0) (Int32.toNatClampNeg (M.1 100 2))).2.2.2.2)) else 1))) from c78)]
def c_X1_makeRow_17 (a1 : Int32) (a2 : Int32) (a3 : Int32) (σ : Mm × Int32) : Prop := if 40 ≤ σ.2 then False else True
theorem ci_X1_makeRow_17 {a1 : Int32} {a2 : Int32} {a3 : Int32}  {σ : Mm × Int32} : c_X1_makeRow_17 a1 a2 a3 σ ↔ (if 40 ≤ σ.2 then False else True) := Iff.rfl
noncomputable def s_X1_makeRow_17 (a1 : Int32) (a2 : Int32) (a3 : Int32) (σ : Mm × Int32) : Mm × Int32 := if 40 ≤ σ.2 then σ else ((wl σ.1 (534 + Int32.toNatClampNeg a1) (Int32.toNatClampNeg σ.2) 0), σ.2 + 1)
def q_X1_makeRow_17 (a1 : Int32) (a2 : Int32) (a3 : Int32) (σ : Mm × Int32) : Prop := (if 40 ≤ σ.2 then True else (vp_in a1 4) ∧ (vp_in σ.2 40) ∧ True)
noncomputable def l_X1_makeRow_17 (a1 : Int32) (a2 : Int32) (a3 : Int32) (σ0 : Mm × Int32) : Nat → Mm × Int32 := itN (fun _ σ => s_X1_makeRow_17 a1 a2 a3 σ) σ0
theorem ps_X1_makeRow_17 {d : Nat} {J : Nat → Lc → List Value → Mm → Prop} {a1 : Int32} {a2 : Int32} {a3 : Int32}  {σ : Mm × Int32}  (g : Good mX1_makeRow.1 mX1_makeRow.2.2.1 mX1_makeRow.2.2.2.1 (d + 0) J) (hc : c_X1_makeRow_17 a1 a2 a3 σ) (hp : q_X1_makeRow_17 a1 a2 a3 σ) (k : J 17 [some (.ref 530), some (.int a1), some (.int a2), some (.int a3), some (.int ((s_X1_makeRow_17 a1 a2 a3 σ).2))] [] ((s_X1_makeRow_17 a1 a2 a3 σ).1)) : J 17 [some (.ref 530), some (.int a1), some (.int a2), some (.int a3), some (.int σ.2)] [] σ.1 := by
  unfold c_X1_makeRow_17 at hc
  unfold q_X1_makeRow_17 at hp
  unfold s_X1_makeRow_17 at k
  refine j_iload g (i := 4) (by decide +kernel) rfl ?_
  refine j_bipush g (n := 40) (40) (by decide +kernel) (by decide +kernel) ?_
  refine j_icmp_ge g (off := 19) (tgt := 40) (by decide +kernel) (by decide) (fun c21 => ?_) (fun c21 => ?_)
  · (try rw [if_pos (show 40 ≤ σ.2 from c21)] at hc); (rw [if_pos (show 40 ≤ σ.2 from c21)] at hp); (try simp only [if_pos (show 40 ≤ σ.2 from c21)] at k)
    exact hc.elim
  · (try rw [if_neg (show ¬ (40 ≤ σ.2) from c21)] at hc); (rw [if_neg (show ¬ (40 ≤ σ.2) from c21)] at hp); (try simp only [if_neg (show ¬ (40 ≤ σ.2) from c21)] at k)
    refine j_aload_n g (i := 0) (by decide +kernel) rfl ?_
    refine j_gA g (b := 533) f1_20 (by decide +kernel) (by decide +kernel) (by decide +kernel) (by decide +kernel) ?_
    refine j_iload_n g (i := 1) (by decide +kernel) rfl ?_
    obtain ⟨h0, hp⟩ := hp
    refine j_aR g 4 (by decide +kernel) (by decide +kernel) (by decide +kernel) h0 (rfR h0) ?_
    have hw29 := h0
    refine j_iload g (i := 4) (by decide +kernel) rfl ?_
    refine j_lconst g (n := 0) (0) (by decide +kernel) rfl ?_
    obtain ⟨h0, hp⟩ := hp
    refine j_ls g 40 (by decide +kernel) (gkR hw29) (glR hw29) h0 ?_
    refine j_iinc g (i := 4) (n := 1) (1) (by decide +kernel) rfl (by decide) rfl ?_
    dsimp only [stL, clL, hdL]
    refine j_goto g (off := -20) (tgt := 17) (by decide +kernel) (by decide) ?_
    exact k 
theorem sh_X1_makeRow_17 {d : Nat} {J : Nat → Lc → List Value → Mm → Prop} {a1 : Int32} {a2 : Int32} {a3 : Int32}  {σ0 : Mm × Int32}  (g : Good mX1_makeRow.1 mX1_makeRow.2.2.1 mX1_makeRow.2.2.2.1 (d + 0) J) : ∀ (N : Nat), (∀ k, k < N → c_X1_makeRow_17 a1 a2 a3 (l_X1_makeRow_17 a1 a2 a3 σ0 k)) → (∀ k, k < N → q_X1_makeRow_17 a1 a2 a3 (l_X1_makeRow_17 a1 a2 a3 σ0 k)) → (J 17 [some (.ref 530), some (.int a1), some (.int a2), some (.int a3), some (.int ((l_X1_makeRow_17 a1 a2 a3 σ0 N).2))] [] ((l_X1_makeRow_17 a1 a2 a3 σ0 N).1)) → J 17 [some (.ref 530), some (.int a1), some (.int a2), some (.int a3), some (.int σ0.2)] [] σ0.1
  | 0, _, _, k => k
  | N + 1, hc, hp, k => sh_X1_makeRow_17  g N (fun i hi => hc i (Nat.lt_succ_of_lt hi)) (fun i hi => hp i (Nat.lt_succ_of_lt hi)) (ps_X1_makeRow_17  g (hc N (Nat.lt_succ_self N)) (hp N (Nat.lt_succ_self N)) k)
noncomputable def w_X1_makeRow (M : Mm) (a1 : Int32) (a2 : Int32) (a3 : Int32) : Mm := if 40 ≤ ((l_X1_makeRow_17 a1 a2 a3 ((wi (wi M 531 (Int32.toNatClampNeg a1) a2) 532 (Int32.toNatClampNeg a1) a3), 0) n40).2) then (l_X1_makeRow_17 a1 a2 a3 ((wi (wi M 531 (Int32.toNatClampNeg a1) a2) 532 (Int32.toNatClampNeg a1) a3), 0) n40).1 else M
def p_X1_makeRow (M : Mm) (a1 : Int32) (a2 : Int32) (a3 : Int32) : Prop := (vp_in a1 4) ∧ (vp_in a1 4) ∧ (∀ k, k < n40 → c_X1_makeRow_17 a1 a2 a3 (l_X1_makeRow_17 a1 a2 a3 ((wi (wi M 531 (Int32.toNatClampNeg a1) a2) 532 (Int32.toNatClampNeg a1) a3), 0) k)) ∧ (∀ k, k < n40 → q_X1_makeRow_17 a1 a2 a3 (l_X1_makeRow_17 a1 a2 a3 ((wi (wi M 531 (Int32.toNatClampNeg a1) a2) 532 (Int32.toNatClampNeg a1) a3), 0) k)) ∧ (¬ c_X1_makeRow_17 a1 a2 a3 (l_X1_makeRow_17 a1 a2 a3 ((wi (wi M 531 (Int32.toNatClampNeg a1) a2) 532 (Int32.toNatClampNeg a1) a3), 0) n40)) ∧ (if 40 ≤ ((l_X1_makeRow_17 a1 a2 a3 ((wi (wi M 531 (Int32.toNatClampNeg a1) a2) 532 (Int32.toNatClampNeg a1) a3), 0) n40).2) then True else (vp_in a1 4) ∧ (vp_in ((l_X1_makeRow_17 a1 a2 a3 ((wi (wi M 531 (Int32.toNatClampNeg a1) a2) 532 (Int32.toNatClampNeg a1) a3), 0) n40).2) 40) ∧ True)
theorem rnX1_makeRow {d : Nat} {M : Mm} {a1 : Int32} {a2 : Int32} {a3 : Int32}  (hp : p_X1_makeRow M a1 a2 a3) : Rn (d + 0) mX1_makeRow [.ref 530, .int a1, .int a2, .int a3] M none (w_X1_makeRow M a1 a2 a3) := by
  refine Rn.of [some (.ref 530), some (.int a1), some (.int a2), some (.int a3), none] (by decide +kernel) rfl (Nat.le_of_ble_eq_true rfl) rfl (fun J g hr => ?_)
  unfold p_X1_makeRow at hp
  refine j_aload_n g (i := 0) (by decide +kernel) rfl ?_
  refine j_gA g (b := 531) f1_11 (by decide +kernel) (by decide +kernel) (by decide +kernel) (by decide +kernel) ?_
  refine j_iload_n g (i := 1) (by decide +kernel) rfl ?_
  refine j_iload_n g (i := 2) (by decide +kernel) rfl ?_
  obtain ⟨h0, hp⟩ := hp
  refine j_is g 4 (by decide +kernel) (by decide +kernel) (by decide +kernel) h0 ?_
  refine j_aload_n g (i := 0) (by decide +kernel) rfl ?_
  refine j_gA g (b := 532) f1_15 (by decide +kernel) (by decide +kernel) (by decide +kernel) (by decide +kernel) ?_
  refine j_iload_n g (i := 1) (by decide +kernel) rfl ?_
  refine j_iload_n g (i := 3) (by decide +kernel) rfl ?_
  obtain ⟨h0, hp⟩ := hp
  refine j_is g 4 (by decide +kernel) (by decide +kernel) (by decide +kernel) h0 ?_
  refine j_iconst g (n := 0) (0) (by decide +kernel) rfl ?_
  refine j_istore g (i := 4) (by decide +kernel) (by decide) ?_
  dsimp only [stL, clL, hdL]
  obtain ⟨h0, hp⟩ := hp
  have hc_17_1 := h0
  obtain ⟨h0, hp⟩ := hp
  have hq_17_1 := h0
  obtain ⟨h0, hp⟩ := hp
  have hx_17_1 := h0
  refine sh_X1_makeRow_17   g (σ0 := ((wi (wi M 531 (Int32.toNatClampNeg a1) a2) 532 (Int32.toNatClampNeg a1) a3), 0)) n40 hc_17_1 hq_17_1 ?_ 
  refine j_iload g (i := 4) (by decide +kernel) rfl ?_
  refine j_bipush g (n := 40) (40) (by decide +kernel) (by decide +kernel) ?_
  refine j_icmp_ge g (off := 19) (tgt := 40) (by decide +kernel) (by decide) (fun c21 => ?_) (fun c21 => ?_)
  · rw [if_pos (show 40 ≤ ((l_X1_makeRow_17 a1 a2 a3 ((wi (wi M 531 (Int32.toNatClampNeg a1) a2) 532 (Int32.toNatClampNeg a1) a3), 0) n40).2) from c21)] at hp
    refine hr.2.2.2 _ _ _ (by decide +kernel) rfl rfl ?_
    · unfold w_X1_makeRow; first | (simp only [if_pos (show 40 ≤ ((l_X1_makeRow_17 a1 a2 a3 ((wi (wi M 531 (Int32.toNatClampNeg a1) a2) 532 (Int32.toNatClampNeg a1) a3), 0) n40).2) from c21)]; done) | (simp only [if_pos (show 40 ≤ ((l_X1_makeRow_17 a1 a2 a3 ((wi (wi M 531 (Int32.toNatClampNeg a1) a2) 532 (Int32.toNatClampNeg a1) a3), 0) n40).2) from c21)]; rfl) | rfl
  · rw [if_neg (show ¬ (40 ≤ ((l_X1_makeRow_17 a1 a2 a3 ((wi (wi M 531 (Int32.toNatClampNeg a1) a2) 532 (Int32.toNatClampNeg a1) a3), 0) n40).2)) from c21)] at hp
    refine j_aload_n g (i := 0) (by decide +kernel) rfl ?_
    refine j_gA g (b := 533) f1_20 (by decide +kernel) (by decide +kernel) (by decide +kernel) (by decide +kernel) ?_
    refine j_iload_n g (i := 1) (by decide +kernel) rfl ?_
    obtain ⟨h0, hp⟩ := hp
    refine j_aR g 4 (by decide +kernel) (by decide +kernel) (by decide +kernel) h0 (rfR h0) ?_
    have hw29 := h0
    refine j_iload g (i := 4) (by decide +kernel) rfl ?_
    refine j_lconst g (n := 0) (0) (by decide +kernel) rfl ?_
    obtain ⟨h0, hp⟩ := hp
    refine j_ls g 40 (by decide +kernel) (gkR hw29) (glR hw29) h0 ?_
    refine j_iinc g (i := 4) (n := 1) (1) (by decide +kernel) rfl (by decide) rfl ?_
    dsimp only [stL, clL, hdL]
    refine j_goto g (off := -20) (tgt := 17) (by decide +kernel) (by decide) ?_
    refine absurd (ci_X1_makeRow_17.mpr ?_) hx_17_1
    simp only [if_neg (show ¬ (40 ≤ ((l_X1_makeRow_17 a1 a2 a3 ((wi (wi M 531 (Int32.toNatClampNeg a1) a2) 532 (Int32.toNatClampNeg a1) a3), 0) n40).2)) from c21)]
def c_X4_append_17 (a1 : Int64) (a2 : Int32) (σ : Mm × Int32) : Prop := if a2 ≤ σ.2 then False else True
theorem ci_X4_append_17 {a1 : Int64} {a2 : Int32}  {σ : Mm × Int32} : c_X4_append_17 a1 a2 σ ↔ (if a2 ≤ σ.2 then False else True) := Iff.rfl
noncomputable def s_X4_append_17 (a1 : Int64) (a2 : Int32) (σ : Mm × Int32) : Mm × Int32 := if a2 ≤ σ.2 then σ else ((wi σ.1 501 (Int32.toNatClampNeg ((σ.1.1 500 1) + σ.2)) (vp_nar .byte (Int8.toInt32 (Int32.toInt8 (Int64.toInt32 (a1 >>> (Int32.toInt64 ((8 : Int32) * σ.2) &&& 63))))))), σ.2 + 1)
def q_X4_append_17 (a1 : Int64) (a2 : Int32) (σ : Mm × Int32) : Prop := (if a2 ≤ σ.2 then True else (vp_in ((σ.1.1 500 1) + σ.2) 240) ∧ True)
noncomputable def l_X4_append_17 (a1 : Int64) (a2 : Int32) (σ0 : Mm × Int32) : Nat → Mm × Int32 := itN (fun _ σ => s_X4_append_17 a1 a2 σ) σ0
theorem ps_X4_append_17 {d : Nat} {J : Nat → Lc → List Value → Mm → Prop} {a1 : Int64} {a2 : Int32}  {σ : Mm × Int32}  (g : Good mX4_append.1 mX4_append.2.2.1 mX4_append.2.2.2.1 (d + 0) J) (hc : c_X4_append_17 a1 a2 σ) (hp : q_X4_append_17 a1 a2 σ) (k : J 17 [some (.ref 500), some (.long a1), none, some (.int a2), some (.int ((s_X4_append_17 a1 a2 σ).2))] [] ((s_X4_append_17 a1 a2 σ).1)) : J 17 [some (.ref 500), some (.long a1), none, some (.int a2), some (.int σ.2)] [] σ.1 := by
  unfold c_X4_append_17 at hc
  unfold q_X4_append_17 at hp
  unfold s_X4_append_17 at k
  refine j_iload g (i := 4) (by decide +kernel) rfl ?_
  refine j_iload_n g (i := 3) (by decide +kernel) rfl ?_
  refine j_icmp_ge g (off := 30) (tgt := 50) (by decide +kernel) (by decide) (fun c20 => ?_) (fun c20 => ?_)
  · (try rw [if_pos (show a2 ≤ σ.2 from c20)] at hc); (rw [if_pos (show a2 ≤ σ.2 from c20)] at hp); (try simp only [if_pos (show a2 ≤ σ.2 from c20)] at k)
    exact hc.elim
  · (try rw [if_neg (show ¬ (a2 ≤ σ.2) from c20)] at hc); (rw [if_neg (show ¬ (a2 ≤ σ.2) from c20)] at hp); (try simp only [if_neg (show ¬ (a2 ≤ σ.2) from c20)] at k)
    refine j_aload_n g (i := 0) (by decide +kernel) rfl ?_
    refine j_gA g (b := 501) f4_11 (by decide +kernel) (by decide +kernel) (by decide +kernel) (by decide +kernel) ?_
    refine j_aload_n g (i := 0) (by decide +kernel) rfl ?_
    refine j_gI g f4_15 (by decide +kernel) (by decide +kernel) (by decide +kernel) ?_
    refine j_iload g (i := 4) (by decide +kernel) rfl ?_
    refine j_iadd g (by decide +kernel) ?_
    refine j_lload_n g (i := 1) (by decide +kernel) rfl ?_
    refine j_bipush g (n := 8) (8) (by decide +kernel) (by decide +kernel) ?_
    refine j_iload g (i := 4) (by decide +kernel) rfl ?_
    refine j_imul g (by decide +kernel) ?_
    refine j_lshr g (by decide +kernel) ?_
    refine j_l2i g (by decide +kernel) ?_
    refine j_i2b g (by decide +kernel) ?_
    obtain ⟨h0, hp⟩ := hp
    refine j_bs g 240 (by decide +kernel) (by decide +kernel) (by decide +kernel) h0 ?_
    refine j_iinc g (i := 4) (n := 1) (1) (by decide +kernel) rfl (by decide) rfl ?_
    dsimp only [stL, clL, hdL]
    refine j_goto g (off := -30) (tgt := 17) (by decide +kernel) (by decide) ?_
    exact k 
theorem sh_X4_append_17 {d : Nat} {J : Nat → Lc → List Value → Mm → Prop} {a1 : Int64} {a2 : Int32}  {σ0 : Mm × Int32}  (g : Good mX4_append.1 mX4_append.2.2.1 mX4_append.2.2.2.1 (d + 0) J) : ∀ (N : Nat), (∀ k, k < N → c_X4_append_17 a1 a2 (l_X4_append_17 a1 a2 σ0 k)) → (∀ k, k < N → q_X4_append_17 a1 a2 (l_X4_append_17 a1 a2 σ0 k)) → (J 17 [some (.ref 500), some (.long a1), none, some (.int a2), some (.int ((l_X4_append_17 a1 a2 σ0 N).2))] [] ((l_X4_append_17 a1 a2 σ0 N).1)) → J 17 [some (.ref 500), some (.long a1), none, some (.int a2), some (.int σ0.2)] [] σ0.1
  | 0, _, _, k => k
  | N + 1, hc, hp, k => sh_X4_append_17  g N (fun i hi => hc i (Nat.lt_succ_of_lt hi)) (fun i hi => hp i (Nat.lt_succ_of_lt hi)) (ps_X4_append_17  g (hc N (Nat.lt_succ_self N)) (hp N (Nat.lt_succ_self N)) k)
noncomputable def r_X4_append (M : Mm) (a1 : Int64) (a2 : Int32) : Int32 := if ((M.1 500 1) + a2) ≤ 240 then (if a2 ≤ ((l_X4_append_17 a1 a2 (M, 0) (Int32.toNatClampNeg (a2))).2) then 1 else 0) else 0
noncomputable def w_X4_append (M : Mm) (a1 : Int64) (a2 : Int32) : Mm := if ((M.1 500 1) + a2) ≤ 240 then (if a2 ≤ ((l_X4_append_17 a1 a2 (M, 0) (Int32.toNatClampNeg (a2))).2) then (wi (l_X4_append_17 a1 a2 (M, 0) (Int32.toNatClampNeg (a2))).1 500 1 (((l_X4_append_17 a1 a2 (M, 0) (Int32.toNatClampNeg (a2))).1.1 500 1) + a2)) else M) else M
def p_X4_append (M : Mm) (a1 : Int64) (a2 : Int32) : Prop := (if ((M.1 500 1) + a2) ≤ 240 then (∀ k, k < (Int32.toNatClampNeg (a2)) → c_X4_append_17 a1 a2 (l_X4_append_17 a1 a2 (M, 0) k)) ∧ (∀ k, k < (Int32.toNatClampNeg (a2)) → q_X4_append_17 a1 a2 (l_X4_append_17 a1 a2 (M, 0) k)) ∧ (¬ c_X4_append_17 a1 a2 (l_X4_append_17 a1 a2 (M, 0) (Int32.toNatClampNeg (a2)))) ∧ (if a2 ≤ ((l_X4_append_17 a1 a2 (M, 0) (Int32.toNatClampNeg (a2))).2) then True else (vp_in (((l_X4_append_17 a1 a2 (M, 0) (Int32.toNatClampNeg (a2))).1.1 500 1) + ((l_X4_append_17 a1 a2 (M, 0) (Int32.toNatClampNeg (a2))).2)) 240) ∧ True) else True)
theorem rnX4_append {d : Nat} {M : Mm} {a1 : Int64} {a2 : Int32}  (hp : p_X4_append M a1 a2) : Rn (d + 0) mX4_append [.ref 500, .long a1, .int a2] M (some (.int (r_X4_append M a1 a2))) (w_X4_append M a1 a2) := by
  refine Rn.of [some (.ref 500), some (.long a1), none, some (.int a2), none] (by decide +kernel) rfl (Nat.le_of_ble_eq_true rfl) rfl (fun J g hr => ?_)
  unfold p_X4_append at hp
  refine j_aload_n g (i := 0) (by decide +kernel) rfl ?_
  refine j_gI g f4_15 (by decide +kernel) (by decide +kernel) (by decide +kernel) ?_
  refine j_iload_n g (i := 3) (by decide +kernel) rfl ?_
  refine j_iadd g (by decide +kernel) ?_
  refine j_sipush g (n := 240) (240) (by decide +kernel) (by decide +kernel) ?_
  refine j_icmp_le g (off := 5) (tgt := 14) (by decide +kernel) (by decide) (fun c9 => ?_) (fun c9 => ?_)
  · rw [if_pos (show ((M.1 500 1) + a2) ≤ 240 from c9)] at hp
    refine j_iconst g (n := 0) (0) (by decide +kernel) rfl ?_
    refine j_istore g (i := 4) (by decide +kernel) (by decide) ?_
    dsimp only [stL, clL, hdL]
    obtain ⟨h0, hp⟩ := hp
    have hc_17_1 := h0
    obtain ⟨h0, hp⟩ := hp
    have hq_17_1 := h0
    obtain ⟨h0, hp⟩ := hp
    have hx_17_1 := h0
    refine sh_X4_append_17   g (σ0 := (M, 0)) (Int32.toNatClampNeg (a2)) hc_17_1 hq_17_1 ?_ 
    refine j_iload g (i := 4) (by decide +kernel) rfl ?_
    refine j_iload_n g (i := 3) (by decide +kernel) rfl ?_
    refine j_icmp_ge g (off := 30) (tgt := 50) (by decide +kernel) (by decide) (fun c20 => ?_) (fun c20 => ?_)
    · rw [if_pos (show a2 ≤ ((l_X4_append_17 a1 a2 (M, 0) (Int32.toNatClampNeg (a2))).2) from c20)] at hp
      refine j_aload_n g (i := 0) (by decide +kernel) rfl ?_
      refine j_dup g (by decide +kernel) rfl ?_
      refine j_gI g f4_15 (by decide +kernel) (by decide +kernel) (by decide +kernel) ?_
      refine j_iload_n g (i := 3) (by decide +kernel) rfl ?_
      refine j_iadd g (by decide +kernel) ?_
      refine j_pI g f4_15 (fun q h => by cases h; rfl) (by decide +kernel) (by decide +kernel) (by decide +kernel) ?_
      refine j_iconst g (n := 1) (1) (by decide +kernel) rfl ?_
      refine hr.1 _ _ _ _ (by decide +kernel) ⟨_, rfl, by first | rfl | exact b2i_nar | decide +kernel⟩ ?_ ?_
      · unfold r_X4_append; first | (simp only [if_pos (show ((M.1 500 1) + a2) ≤ 240 from c9), if_pos (show a2 ≤ ((l_X4_append_17 a1 a2 (M, 0) (Int32.toNatClampNeg (a2))).2) from c20)]; done) | (simp only [if_pos (show ((M.1 500 1) + a2) ≤ 240 from c9), if_pos (show a2 ≤ ((l_X4_append_17 a1 a2 (M, 0) (Int32.toNatClampNeg (a2))).2) from c20)]; rfl) | rfl
      · unfold w_X4_append; first | (simp only [if_pos (show ((M.1 500 1) + a2) ≤ 240 from c9), if_pos (show a2 ≤ ((l_X4_append_17 a1 a2 (M, 0) (Int32.toNatClampNeg (a2))).2) from c20)]; done) | (simp only [if_pos (show ((M.1 500 1) + a2) ≤ 240 from c9), if_pos (show a2 ≤ ((l_X4_append_17 a1 a2 (M, 0) (Int32.toNatClampNeg (a2))).2) from c20)]; rfl) | rfl
    · rw [if_neg (show ¬ (a2 ≤ ((l_X4_append_17 a1 a2 (M, 0) (Int32.toNatClampNeg (a2))).2)) from c20)] at hp
      refine j_aload_n g (i := 0) (by decide +kernel) rfl ?_
      refine j_gA g (b := 501) f4_11 (by decide +kernel) (by decide +kernel) (by decide +kernel) (by decide +kernel) ?_
      refine j_aload_n g (i := 0) (by decide +kernel) rfl ?_
      refine j_gI g f4_15 (by decide +kernel) (by decide +kernel) (by decide +kernel) ?_
      refine j_iload g (i := 4) (by decide +kernel) rfl ?_
      refine j_iadd g (by decide +kernel) ?_
      refine j_lload_n g (i := 1) (by decide +kernel) rfl ?_
      refine j_bipush g (n := 8) (8) (by decide +kernel) (by decide +kernel) ?_
      refine j_iload g (i := 4) (by decide +kernel) rfl ?_
      refine j_imul g (by decide +kernel) ?_
      refine j_lshr g (by decide +kernel) ?_
      refine j_l2i g (by decide +kernel) ?_
      refine j_i2b g (by decide +kernel) ?_
      obtain ⟨h0, hp⟩ := hp
      refine j_bs g 240 (by decide +kernel) (by decide +kernel) (by decide +kernel) h0 ?_
      refine j_iinc g (i := 4) (n := 1) (1) (by decide +kernel) rfl (by decide) rfl ?_
      dsimp only [stL, clL, hdL]
      refine j_goto g (off := -30) (tgt := 17) (by decide +kernel) (by decide) ?_
      refine absurd (ci_X4_append_17.mpr ?_) hx_17_1
      simp only [if_pos (show ((M.1 500 1) + a2) ≤ 240 from c9), if_neg (show ¬ (a2 ≤ ((l_X4_append_17 a1 a2 (M, 0) (Int32.toNatClampNeg (a2))).2)) from c20)]
  · rw [if_neg (show ¬ (((M.1 500 1) + a2) ≤ 240) from c9)] at hp
    refine j_iconst g (n := 0) (0) (by decide +kernel) rfl ?_
    refine hr.1 _ _ _ _ (by decide +kernel) ⟨_, rfl, by first | rfl | exact b2i_nar | decide +kernel⟩ ?_ ?_
    · unfold r_X4_append; first | (simp only [if_neg (show ¬ (((M.1 500 1) + a2) ≤ 240) from c9)]; done) | (simp only [if_neg (show ¬ (((M.1 500 1) + a2) ≤ 240) from c9)]; rfl) | rfl
    · unfold w_X4_append; first | (simp only [if_neg (show ¬ (((M.1 500 1) + a2) ≤ 240) from c9)]; done) | (simp only [if_neg (show ¬ (((M.1 500 1) + a2) ≤ 240) from c9)]; rfl) | rfl
noncomputable def r_X5_carryOut (M : Mm) (s : Nat) (a2 : Int32) : Int32 := if (r_X5_spoils M s (110 + Int32.toNatClampNeg a2)) = 0 then (if ((wi (wi (w_X5_moveAll (wi (w_X5_minutesOf M s a2) s 4 (r_X5_after (w_X5_minutesOf M s a2) (M.1 s 4) (r_X5_minutesOf M s a2))) s (110 + Int32.toNatClampNeg a2)) (s + 3) (Int32.toNatClampNeg a2) 1) (s + 4) (Int32.toNatClampNeg a2) ((wi (w_X5_moveAll (wi (w_X5_minutesOf M s a2) s 4 (r_X5_after (w_X5_minutesOf M s a2) (M.1 s 4) (r_X5_minutesOf M s a2))) s (110 + Int32.toNatClampNeg a2)) (s + 3) (Int32.toNatClampNeg a2) 1).1 s 4)).1 s 4) ≤ ((wi (wi (w_X5_moveAll (wi (w_X5_minutesOf M s a2) s 4 (r_X5_after (w_X5_minutesOf M s a2) (M.1 s 4) (r_X5_minutesOf M s a2))) s (110 + Int32.toNatClampNeg a2)) (s + 3) (Int32.toNatClampNeg a2) 1) (s + 4) (Int32.toNatClampNeg a2) ((wi (w_X5_moveAll (wi (w_X5_minutesOf M s a2) s 4 (r_X5_after (w_X5_minutesOf M s a2) (M.1 s 4) (r_X5_minutesOf M s a2))) s (110 + Int32.toNatClampNeg a2)) (s + 3) (Int32.toNatClampNeg a2) 1).1 s 4)).1 (110 + Int32.toNatClampNeg a2) 4) then r_X6_worthAt (wi (wi (w_X5_moveAll (wi (w_X5_minutesOf M s a2) s 4 (r_X5_after (w_X5_minutesOf M s a2) (M.1 s 4) (r_X5_minutesOf M s a2))) s (110 + Int32.toNatClampNeg a2)) (s + 3) (Int32.toNatClampNeg a2) 1) (s + 4) (Int32.toNatClampNeg a2) ((wi (w_X5_moveAll (wi (w_X5_minutesOf M s a2) s 4 (r_X5_after (w_X5_minutesOf M s a2) (M.1 s 4) (r_X5_minutesOf M s a2))) s (110 + Int32.toNatClampNeg a2)) (s + 3) (Int32.toNatClampNeg a2) 1).1 s 4)) (110 + Int32.toNatClampNeg a2) ((wi (wi (w_X5_moveAll (wi (w_X5_minutesOf M s a2) s 4 (r_X5_after (w_X5_minutesOf M s a2) (M.1 s 4) (r_X5_minutesOf M s a2))) s (110 + Int32.toNatClampNeg a2)) (s + 3) (Int32.toNatClampNeg a2) 1) (s + 4) (Int32.toNatClampNeg a2) ((wi (w_X5_moveAll (wi (w_X5_minutesOf M s a2) s 4 (r_X5_after (w_X5_minutesOf M s a2) (M.1 s 4) (r_X5_minutesOf M s a2))) s (110 + Int32.toNatClampNeg a2)) (s + 3) (Int32.toNatClampNeg a2) 1).1 s 4)).1 s 4) else r_X6_worthAt (wi (wi (wi (w_X5_moveAll (wi (w_X5_minutesOf M s a2) s 4 (r_X5_after (w_X5_minutesOf M s a2) (M.1 s 4) (r_X5_minutesOf M s a2))) s (110 + Int32.toNatClampNeg a2)) (s + 3) (Int32.toNatClampNeg a2) 1) (s + 4) (Int32.toNatClampNeg a2) ((wi (w_X5_moveAll (wi (w_X5_minutesOf M s a2) s 4 (r_X5_after (w_X5_minutesOf M s a2) (M.1 s 4) (r_X5_minutesOf M s a2))) s (110 + Int32.toNatClampNeg a2)) (s + 3) (Int32.toNatClampNeg a2) 1).1 s 4)) s 6 (((wi (wi (w_X5_moveAll (wi (w_X5_minutesOf M s a2) s 4 (r_X5_after (w_X5_minutesOf M s a2) (M.1 s 4) (r_X5_minutesOf M s a2))) s (110 + Int32.toNatClampNeg a2)) (s + 3) (Int32.toNatClampNeg a2) 1) (s + 4) (Int32.toNatClampNeg a2) ((wi (w_X5_moveAll (wi (w_X5_minutesOf M s a2) s 4 (r_X5_after (w_X5_minutesOf M s a2) (M.1 s 4) (r_X5_minutesOf M s a2))) s (110 + Int32.toNatClampNeg a2)) (s + 3) (Int32.toNatClampNeg a2) 1).1 s 4)).1 s 6) + 1)) (110 + Int32.toNatClampNeg a2) ((wi (wi (wi (w_X5_moveAll (wi (w_X5_minutesOf M s a2) s 4 (r_X5_after (w_X5_minutesOf M s a2) (M.1 s 4) (r_X5_minutesOf M s a2))) s (110 + Int32.toNatClampNeg a2)) (s + 3) (Int32.toNatClampNeg a2) 1) (s + 4) (Int32.toNatClampNeg a2) ((wi (w_X5_moveAll (wi (w_X5_minutesOf M s a2) s 4 (r_X5_after (w_X5_minutesOf M s a2) (M.1 s 4) (r_X5_minutesOf M s a2))) s (110 + Int32.toNatClampNeg a2)) (s + 3) (Int32.toNatClampNeg a2) 1).1 s 4)) s 6 (((wi (wi (w_X5_moveAll (wi (w_X5_minutesOf M s a2) s 4 (r_X5_after (w_X5_minutesOf M s a2) (M.1 s 4) (r_X5_minutesOf M s a2))) s (110 + Int32.toNatClampNeg a2)) (s + 3) (Int32.toNatClampNeg a2) 1) (s + 4) (Int32.toNatClampNeg a2) ((wi (w_X5_moveAll (wi (w_X5_minutesOf M s a2) s 4 (r_X5_after (w_X5_minutesOf M s a2) (M.1 s 4) (r_X5_minutesOf M s a2))) s (110 + Int32.toNatClampNeg a2)) (s + 3) (Int32.toNatClampNeg a2) 1).1 s 4)).1 s 6) + 1)).1 s 4)) else 0
noncomputable def w_X5_carryOut (M : Mm) (s : Nat) (a2 : Int32) : Mm := if (r_X5_spoils M s (110 + Int32.toNatClampNeg a2)) = 0 then (if ((wi (wi (w_X5_moveAll (wi (w_X5_minutesOf M s a2) s 4 (r_X5_after (w_X5_minutesOf M s a2) (M.1 s 4) (r_X5_minutesOf M s a2))) s (110 + Int32.toNatClampNeg a2)) (s + 3) (Int32.toNatClampNeg a2) 1) (s + 4) (Int32.toNatClampNeg a2) ((wi (w_X5_moveAll (wi (w_X5_minutesOf M s a2) s 4 (r_X5_after (w_X5_minutesOf M s a2) (M.1 s 4) (r_X5_minutesOf M s a2))) s (110 + Int32.toNatClampNeg a2)) (s + 3) (Int32.toNatClampNeg a2) 1).1 s 4)).1 s 4) ≤ ((wi (wi (w_X5_moveAll (wi (w_X5_minutesOf M s a2) s 4 (r_X5_after (w_X5_minutesOf M s a2) (M.1 s 4) (r_X5_minutesOf M s a2))) s (110 + Int32.toNatClampNeg a2)) (s + 3) (Int32.toNatClampNeg a2) 1) (s + 4) (Int32.toNatClampNeg a2) ((wi (w_X5_moveAll (wi (w_X5_minutesOf M s a2) s 4 (r_X5_after (w_X5_minutesOf M s a2) (M.1 s 4) (r_X5_minutesOf M s a2))) s (110 + Int32.toNatClampNeg a2)) (s + 3) (Int32.toNatClampNeg a2) 1).1 s 4)).1 (110 + Int32.toNatClampNeg a2) 4) then (wi (wi (wi (w_X5_moveAll (wi (w_X5_minutesOf M s a2) s 4 (r_X5_after (w_X5_minutesOf M s a2) (M.1 s 4) (r_X5_minutesOf M s a2))) s (110 + Int32.toNatClampNeg a2)) (s + 3) (Int32.toNatClampNeg a2) 1) (s + 4) (Int32.toNatClampNeg a2) ((wi (w_X5_moveAll (wi (w_X5_minutesOf M s a2) s 4 (r_X5_after (w_X5_minutesOf M s a2) (M.1 s 4) (r_X5_minutesOf M s a2))) s (110 + Int32.toNatClampNeg a2)) (s + 3) (Int32.toNatClampNeg a2) 1).1 s 4)) s 5 (((wi (wi (w_X5_moveAll (wi (w_X5_minutesOf M s a2) s 4 (r_X5_after (w_X5_minutesOf M s a2) (M.1 s 4) (r_X5_minutesOf M s a2))) s (110 + Int32.toNatClampNeg a2)) (s + 3) (Int32.toNatClampNeg a2) 1) (s + 4) (Int32.toNatClampNeg a2) ((wi (w_X5_moveAll (wi (w_X5_minutesOf M s a2) s 4 (r_X5_after (w_X5_minutesOf M s a2) (M.1 s 4) (r_X5_minutesOf M s a2))) s (110 + Int32.toNatClampNeg a2)) (s + 3) (Int32.toNatClampNeg a2) 1).1 s 4)).1 s 5) + (r_X6_worthAt (wi (wi (w_X5_moveAll (wi (w_X5_minutesOf M s a2) s 4 (r_X5_after (w_X5_minutesOf M s a2) (M.1 s 4) (r_X5_minutesOf M s a2))) s (110 + Int32.toNatClampNeg a2)) (s + 3) (Int32.toNatClampNeg a2) 1) (s + 4) (Int32.toNatClampNeg a2) ((wi (w_X5_moveAll (wi (w_X5_minutesOf M s a2) s 4 (r_X5_after (w_X5_minutesOf M s a2) (M.1 s 4) (r_X5_minutesOf M s a2))) s (110 + Int32.toNatClampNeg a2)) (s + 3) (Int32.toNatClampNeg a2) 1).1 s 4)) (110 + Int32.toNatClampNeg a2) ((wi (wi (w_X5_moveAll (wi (w_X5_minutesOf M s a2) s 4 (r_X5_after (w_X5_minutesOf M s a2) (M.1 s 4) (r_X5_minutesOf M s a2))) s (110 + Int32.toNatClampNeg a2)) (s + 3) (Int32.toNatClampNeg a2) 1) (s + 4) (Int32.toNatClampNeg a2) ((wi (w_X5_moveAll (wi (w_X5_minutesOf M s a2) s 4 (r_X5_after (w_X5_minutesOf M s a2) (M.1 s 4) (r_X5_minutesOf M s a2))) s (110 + Int32.toNatClampNeg a2)) (s + 3) (Int32.toNatClampNeg a2) 1).1 s 4)).1 s 4)))) else (wi (wi (wi (wi (w_X5_moveAll (wi (w_X5_minutesOf M s a2) s 4 (r_X5_after (w_X5_minutesOf M s a2) (M.1 s 4) (r_X5_minutesOf M s a2))) s (110 + Int32.toNatClampNeg a2)) (s + 3) (Int32.toNatClampNeg a2) 1) (s + 4) (Int32.toNatClampNeg a2) ((wi (w_X5_moveAll (wi (w_X5_minutesOf M s a2) s 4 (r_X5_after (w_X5_minutesOf M s a2) (M.1 s 4) (r_X5_minutesOf M s a2))) s (110 + Int32.toNatClampNeg a2)) (s + 3) (Int32.toNatClampNeg a2) 1).1 s 4)) s 6 (((wi (wi (w_X5_moveAll (wi (w_X5_minutesOf M s a2) s 4 (r_X5_after (w_X5_minutesOf M s a2) (M.1 s 4) (r_X5_minutesOf M s a2))) s (110 + Int32.toNatClampNeg a2)) (s + 3) (Int32.toNatClampNeg a2) 1) (s + 4) (Int32.toNatClampNeg a2) ((wi (w_X5_moveAll (wi (w_X5_minutesOf M s a2) s 4 (r_X5_after (w_X5_minutesOf M s a2) (M.1 s 4) (r_X5_minutesOf M s a2))) s (110 + Int32.toNatClampNeg a2)) (s + 3) (Int32.toNatClampNeg a2) 1).1 s 4)).1 s 6) + 1)) s 5 (((wi (wi (wi (w_X5_moveAll (wi (w_X5_minutesOf M s a2) s 4 (r_X5_after (w_X5_minutesOf M s a2) (M.1 s 4) (r_X5_minutesOf M s a2))) s (110 + Int32.toNatClampNeg a2)) (s + 3) (Int32.toNatClampNeg a2) 1) (s + 4) (Int32.toNatClampNeg a2) ((wi (w_X5_moveAll (wi (w_X5_minutesOf M s a2) s 4 (r_X5_after (w_X5_minutesOf M s a2) (M.1 s 4) (r_X5_minutesOf M s a2))) s (110 + Int32.toNatClampNeg a2)) (s + 3) (Int32.toNatClampNeg a2) 1).1 s 4)) s 6 (((wi (wi (w_X5_moveAll (wi (w_X5_minutesOf M s a2) s 4 (r_X5_after (w_X5_minutesOf M s a2) (M.1 s 4) (r_X5_minutesOf M s a2))) s (110 + Int32.toNatClampNeg a2)) (s + 3) (Int32.toNatClampNeg a2) 1) (s + 4) (Int32.toNatClampNeg a2) ((wi (w_X5_moveAll (wi (w_X5_minutesOf M s a2) s 4 (r_X5_after (w_X5_minutesOf M s a2) (M.1 s 4) (r_X5_minutesOf M s a2))) s (110 + Int32.toNatClampNeg a2)) (s + 3) (Int32.toNatClampNeg a2) 1).1 s 4)).1 s 6) + 1)).1 s 5) + (r_X6_worthAt (wi (wi (wi (w_X5_moveAll (wi (w_X5_minutesOf M s a2) s 4 (r_X5_after (w_X5_minutesOf M s a2) (M.1 s 4) (r_X5_minutesOf M s a2))) s (110 + Int32.toNatClampNeg a2)) (s + 3) (Int32.toNatClampNeg a2) 1) (s + 4) (Int32.toNatClampNeg a2) ((wi (w_X5_moveAll (wi (w_X5_minutesOf M s a2) s 4 (r_X5_after (w_X5_minutesOf M s a2) (M.1 s 4) (r_X5_minutesOf M s a2))) s (110 + Int32.toNatClampNeg a2)) (s + 3) (Int32.toNatClampNeg a2) 1).1 s 4)) s 6 (((wi (wi (w_X5_moveAll (wi (w_X5_minutesOf M s a2) s 4 (r_X5_after (w_X5_minutesOf M s a2) (M.1 s 4) (r_X5_minutesOf M s a2))) s (110 + Int32.toNatClampNeg a2)) (s + 3) (Int32.toNatClampNeg a2) 1) (s + 4) (Int32.toNatClampNeg a2) ((wi (w_X5_moveAll (wi (w_X5_minutesOf M s a2) s 4 (r_X5_after (w_X5_minutesOf M s a2) (M.1 s 4) (r_X5_minutesOf M s a2))) s (110 + Int32.toNatClampNeg a2)) (s + 3) (Int32.toNatClampNeg a2) 1).1 s 4)).1 s 6) + 1)) (110 + Int32.toNatClampNeg a2) ((wi (wi (wi (w_X5_moveAll (wi (w_X5_minutesOf M s a2) s 4 (r_X5_after (w_X5_minutesOf M s a2) (M.1 s 4) (r_X5_minutesOf M s a2))) s (110 + Int32.toNatClampNeg a2)) (s + 3) (Int32.toNatClampNeg a2) 1) (s + 4) (Int32.toNatClampNeg a2) ((wi (w_X5_moveAll (wi (w_X5_minutesOf M s a2) s 4 (r_X5_after (w_X5_minutesOf M s a2) (M.1 s 4) (r_X5_minutesOf M s a2))) s (110 + Int32.toNatClampNeg a2)) (s + 3) (Int32.toNatClampNeg a2) 1).1 s 4)) s 6 (((wi (wi (w_X5_moveAll (wi (w_X5_minutesOf M s a2) s 4 (r_X5_after (w_X5_minutesOf M s a2) (M.1 s 4) (r_X5_minutesOf M s a2))) s (110 + Int32.toNatClampNeg a2)) (s + 3) (Int32.toNatClampNeg a2) 1) (s + 4) (Int32.toNatClampNeg a2) ((wi (w_X5_moveAll (wi (w_X5_minutesOf M s a2) s 4 (r_X5_after (w_X5_minutesOf M s a2) (M.1 s 4) (r_X5_minutesOf M s a2))) s (110 + Int32.toNatClampNeg a2)) (s + 3) (Int32.toNatClampNeg a2) 1).1 s 4)).1 s 6) + 1)).1 s 4))))) else (wi (wi M (s + 3) (Int32.toNatClampNeg a2) 2) s 6 (((wi M (s + 3) (Int32.toNatClampNeg a2) 2).1 s 6) + 1))
def p_X5_carryOut (M : Mm) (s : Nat) (a2 : Int32) : Prop := (vp_in a2 6) ∧ (p_X5_spoils M s (110 + Int32.toNatClampNeg a2)) ∧ (if (r_X5_spoils M s (110 + Int32.toNatClampNeg a2)) = 0 then (p_X5_minutesOf M s a2) ∧ (p_X5_after (w_X5_minutesOf M s a2) (M.1 s 4) (r_X5_minutesOf M s a2)) ∧ (p_X5_moveAll (wi (w_X5_minutesOf M s a2) s 4 (r_X5_after (w_X5_minutesOf M s a2) (M.1 s 4) (r_X5_minutesOf M s a2))) s (110 + Int32.toNatClampNeg a2)) ∧ (vp_in a2 6) ∧ (vp_in a2 6) ∧ (if ((wi (wi (w_X5_moveAll (wi (w_X5_minutesOf M s a2) s 4 (r_X5_after (w_X5_minutesOf M s a2) (M.1 s 4) (r_X5_minutesOf M s a2))) s (110 + Int32.toNatClampNeg a2)) (s + 3) (Int32.toNatClampNeg a2) 1) (s + 4) (Int32.toNatClampNeg a2) ((wi (w_X5_moveAll (wi (w_X5_minutesOf M s a2) s 4 (r_X5_after (w_X5_minutesOf M s a2) (M.1 s 4) (r_X5_minutesOf M s a2))) s (110 + Int32.toNatClampNeg a2)) (s + 3) (Int32.toNatClampNeg a2) 1).1 s 4)).1 s 4) ≤ ((wi (wi (w_X5_moveAll (wi (w_X5_minutesOf M s a2) s 4 (r_X5_after (w_X5_minutesOf M s a2) (M.1 s 4) (r_X5_minutesOf M s a2))) s (110 + Int32.toNatClampNeg a2)) (s + 3) (Int32.toNatClampNeg a2) 1) (s + 4) (Int32.toNatClampNeg a2) ((wi (w_X5_moveAll (wi (w_X5_minutesOf M s a2) s 4 (r_X5_after (w_X5_minutesOf M s a2) (M.1 s 4) (r_X5_minutesOf M s a2))) s (110 + Int32.toNatClampNeg a2)) (s + 3) (Int32.toNatClampNeg a2) 1).1 s 4)).1 (110 + Int32.toNatClampNeg a2) 4) then True else True) else (vp_in a2 6) ∧ True)
theorem rnX5_carryOut {d : Nat} {M : Mm} {s : Nat} {a2 : Int32} (hs : isS s) (hp : p_X5_carryOut M s a2) : Rn (d + 2) mX5_carryOut [.ref 100, .ref s, .int a2] M (some (.int (r_X5_carryOut M s a2))) (w_X5_carryOut M s a2) := by
  refine Rn.of [some (.ref 100), some (.ref s), some (.int a2), none, none] (by decide +kernel) rfl (Nat.le_of_ble_eq_true rfl) rfl (fun J g hr => ?_)
  unfold p_X5_carryOut at hp
  refine j_aload_n g (i := 0) (by decide +kernel) rfl ?_
  refine j_gA g (b := 103) f5_33 (by decide +kernel) (by decide +kernel) (by decide +kernel) (by decide +kernel) ?_
  refine j_iload_n g (i := 2) (by decide +kernel) rfl ?_
  obtain ⟨h0, hp⟩ := hp
  refine j_aW g 6 (by decide +kernel) (by decide +kernel) (by decide +kernel) h0 (rfW103 h0) ?_
  have hw5 := h0
  refine j_astore_n g (i := 3) (by decide +kernel) (by decide) ?_
  dsimp only [stL, clL, hdL]
  refine j_aload_n g (i := 0) (by decide +kernel) rfl ?_
  refine j_aload_n g (i := 1) (by decide +kernel) rfl ?_
  refine j_aload_n g (i := 3) (by decide +kernel) rfl ?_
  obtain ⟨h0, hp⟩ := hp
  refine j_cV2r g v5_144 ⟨rfl, by decide⟩ (by decide +kernel) (by decide +kernel) (Nat.le_of_ble_eq_true rfl) (rnX5_spoils (by first | exact hs | (simp [isS]; done)) (gkW103 hw5) h0) ?_
  refine j_if_eq g (off := 22) (tgt := 35) (by decide +kernel) (by decide) (fun c13 => ?_) (fun c13 => ?_)
  · rw [if_pos (show (r_X5_spoils M s (110 + Int32.toNatClampNeg a2)) = 0 from c13)] at hp
    refine j_aload_n g (i := 1) (by decide +kernel) rfl ?_
    refine j_aload_n g (i := 0) (by decide +kernel) rfl ?_
    refine j_aload_n g (i := 1) (by decide +kernel) rfl ?_
    refine j_gI g f5_54 (by decide +kernel) (by decide +kernel) (isS_F hs).1.1 ?_
    refine j_aload_n g (i := 0) (by decide +kernel) rfl ?_
    refine j_aload_n g (i := 1) (by decide +kernel) rfl ?_
    refine j_iload_n g (i := 2) (by decide +kernel) rfl ?_
    obtain ⟨h0, hp⟩ := hp
    refine j_cV2r g v5_151 ⟨rfl, by decide⟩ (by decide +kernel) (by decide +kernel) (Nat.le_of_ble_eq_true rfl) (rnX5_minutesOf (by first | exact hs | (simp [isS]; done)) h0) ?_
    obtain ⟨h0, hp⟩ := hp
    refine j_cV2r g v5_154 ⟨rfl, by decide⟩ (by decide +kernel) (by decide +kernel) (Nat.le_of_ble_eq_true rfl) (rnX5_after h0) ?_
    refine j_pI g f5_54 (fun q h => by cases h; rfl) (by decide +kernel) (by decide +kernel) (isS_F hs).1.1 ?_
    refine j_aload_n g (i := 0) (by decide +kernel) rfl ?_
    refine j_aload_n g (i := 1) (by decide +kernel) rfl ?_
    refine j_aload_n g (i := 3) (by decide +kernel) rfl ?_
    obtain ⟨h0, hp⟩ := hp
    refine j_cV2v g v5_157 ⟨rfl, by decide⟩ (by decide +kernel) (by decide +kernel) (Nat.le_of_ble_eq_true rfl) (rnX5_moveAll (by first | exact hs | (simp [isS]; done)) (gkW103 hw5) h0) ?_
    refine j_aload_n g (i := 1) (by decide +kernel) rfl ?_
    refine j_gA g f5_107 (by decide +kernel) (by decide +kernel) (isS_F hs).1.1 (isS_F hs).2.2.2.2.1 ?_
    refine j_iload_n g (i := 2) (by decide +kernel) rfl ?_
    refine j_iconst g (n := 1) (1) (by decide +kernel) rfl ?_
    obtain ⟨h0, hp⟩ := hp
    refine j_is g 6 (by decide +kernel) (isS_F hs).1.2.2.2.1 (isS_F hs).2.1.2.2.1 h0 ?_
    refine j_aload_n g (i := 1) (by decide +kernel) rfl ?_
    refine j_gA g f5_110 (by decide +kernel) (by decide +kernel) (isS_F hs).1.1 (isS_F hs).2.2.2.2.2 ?_
    refine j_iload_n g (i := 2) (by decide +kernel) rfl ?_
    refine j_aload_n g (i := 1) (by decide +kernel) rfl ?_
    refine j_gI g f5_54 (by decide +kernel) (by decide +kernel) (isS_F hs).1.1 ?_
    obtain ⟨h0, hp⟩ := hp
    refine j_is g 6 (by decide +kernel) (isS_F hs).1.2.2.2.2 (isS_F hs).2.1.2.2.2 h0 ?_
    refine j_aload_n g (i := 1) (by decide +kernel) rfl ?_
    refine j_gI g f5_54 (by decide +kernel) (by decide +kernel) (isS_F hs).1.1 ?_
    refine j_aload_n g (i := 3) (by decide +kernel) rfl ?_
    refine j_gI g f5_95 (by decide +kernel) (by decide +kernel) (gkW103 hw5) ?_
    refine j_icmp_le g (off := 13) (tgt := 97) (by decide +kernel) (by decide) (fun c84 => ?_) (fun c84 => ?_)
    · rw [if_pos (show ((wi (wi (w_X5_moveAll (wi (w_X5_minutesOf M s a2) s 4 (r_X5_after (w_X5_minutesOf M s a2) (M.1 s 4) (r_X5_minutesOf M s a2))) s (110 + Int32.toNatClampNeg a2)) (s + 3) (Int32.toNatClampNeg a2) 1) (s + 4) (Int32.toNatClampNeg a2) ((wi (w_X5_moveAll (wi (w_X5_minutesOf M s a2) s 4 (r_X5_after (w_X5_minutesOf M s a2) (M.1 s 4) (r_X5_minutesOf M s a2))) s (110 + Int32.toNatClampNeg a2)) (s + 3) (Int32.toNatClampNeg a2) 1).1 s 4)).1 s 4) ≤ ((wi (wi (w_X5_moveAll (wi (w_X5_minutesOf M s a2) s 4 (r_X5_after (w_X5_minutesOf M s a2) (M.1 s 4) (r_X5_minutesOf M s a2))) s (110 + Int32.toNatClampNeg a2)) (s + 3) (Int32.toNatClampNeg a2) 1) (s + 4) (Int32.toNatClampNeg a2) ((wi (w_X5_moveAll (wi (w_X5_minutesOf M s a2) s 4 (r_X5_after (w_X5_minutesOf M s a2) (M.1 s 4) (r_X5_minutesOf M s a2))) s (110 + Int32.toNatClampNeg a2)) (s + 3) (Int32.toNatClampNeg a2) 1).1 s 4)).1 (110 + Int32.toNatClampNeg a2) 4) from c84)] at hp
      refine j_aload_n g (i := 3) (by decide +kernel) rfl ?_
      refine j_aload_n g (i := 1) (by decide +kernel) rfl ?_
      refine j_gI g f5_54 (by decide +kernel) (by decide +kernel) (isS_F hs).1.1 ?_
      refine j_cV1r g v5_161 ⟨rfl, by decide⟩ (gkW103 hw5) (by decide +kernel) (Nat.le_of_ble_eq_true rfl) (rnX6_worthAt (gkW103 hw5)) ?_
      refine j_istore g (i := 4) (by decide +kernel) (by decide) ?_
      dsimp only [stL, clL, hdL]
      refine j_aload_n g (i := 1) (by decide +kernel) rfl ?_
      refine j_dup g (by decide +kernel) rfl ?_
      refine j_gI g f5_164 (by decide +kernel) (by decide +kernel) (isS_F hs).1.1 ?_
      refine j_iload g (i := 4) (by decide +kernel) rfl ?_
      refine j_iadd g (by decide +kernel) ?_
      refine j_pI g f5_164 (fun q h => by cases h; rfl) (by decide +kernel) (by decide +kernel) (isS_F hs).1.1 ?_
      refine j_iload g (i := 4) (by decide +kernel) rfl ?_
      refine hr.1 _ _ _ _ (by decide +kernel) ⟨_, rfl, by first | rfl | exact b2i_nar | decide +kernel⟩ ?_ ?_
      · unfold r_X5_carryOut; first | (simp only [if_pos (show (r_X5_spoils M s (110 + Int32.toNatClampNeg a2)) = 0 from c13), if_pos (show ((wi (wi (w_X5_moveAll (wi (w_X5_minutesOf M s a2) s 4 (r_X5_after (w_X5_minutesOf M s a2) (M.1 s 4) (r_X5_minutesOf M s a2))) s (110 + Int32.toNatClampNeg a2)) (s + 3) (Int32.toNatClampNeg a2) 1) (s + 4) (Int32.toNatClampNeg a2) ((wi (w_X5_moveAll (wi (w_X5_minutesOf M s a2) s 4 (r_X5_after (w_X5_minutesOf M s a2) (M.1 s 4) (r_X5_minutesOf M s a2))) s (110 + Int32.toNatClampNeg a2)) (s + 3) (Int32.toNatClampNeg a2) 1).1 s 4)).1 s 4) ≤ ((wi (wi (w_X5_moveAll (wi (w_X5_minutesOf M s a2) s 4 (r_X5_after (w_X5_minutesOf M s a2) (M.1 s 4) (r_X5_minutesOf M s a2))) s (110 + Int32.toNatClampNeg a2)) (s + 3) (Int32.toNatClampNeg a2) 1) (s + 4) (Int32.toNatClampNeg a2) ((wi (w_X5_moveAll (wi (w_X5_minutesOf M s a2) s 4 (r_X5_after (w_X5_minutesOf M s a2) (M.1 s 4) (r_X5_minutesOf M s a2))) s (110 + Int32.toNatClampNeg a2)) (s + 3) (Int32.toNatClampNeg a2) 1).1 s 4)).1 (110 + Int32.toNatClampNeg a2) 4) from c84)]; done) | (simp only [if_pos (show (r_X5_spoils M s (110 + Int32.toNatClampNeg a2)) = 0 from c13), if_pos (show ((wi (wi (w_X5_moveAll (wi (w_X5_minutesOf M s a2) s 4 (r_X5_after (w_X5_minutesOf M s a2) (M.1 s 4) (r_X5_minutesOf M s a2))) s (110 + Int32.toNatClampNeg a2)) (s + 3) (Int32.toNatClampNeg a2) 1) (s + 4) (Int32.toNatClampNeg a2) ((wi (w_X5_moveAll (wi (w_X5_minutesOf M s a2) s 4 (r_X5_after (w_X5_minutesOf M s a2) (M.1 s 4) (r_X5_minutesOf M s a2))) s (110 + Int32.toNatClampNeg a2)) (s + 3) (Int32.toNatClampNeg a2) 1).1 s 4)).1 s 4) ≤ ((wi (wi (w_X5_moveAll (wi (w_X5_minutesOf M s a2) s 4 (r_X5_after (w_X5_minutesOf M s a2) (M.1 s 4) (r_X5_minutesOf M s a2))) s (110 + Int32.toNatClampNeg a2)) (s + 3) (Int32.toNatClampNeg a2) 1) (s + 4) (Int32.toNatClampNeg a2) ((wi (w_X5_moveAll (wi (w_X5_minutesOf M s a2) s 4 (r_X5_after (w_X5_minutesOf M s a2) (M.1 s 4) (r_X5_minutesOf M s a2))) s (110 + Int32.toNatClampNeg a2)) (s + 3) (Int32.toNatClampNeg a2) 1).1 s 4)).1 (110 + Int32.toNatClampNeg a2) 4) from c84)]; rfl) | rfl
      · unfold w_X5_carryOut; first | (simp only [if_pos (show (r_X5_spoils M s (110 + Int32.toNatClampNeg a2)) = 0 from c13), if_pos (show ((wi (wi (w_X5_moveAll (wi (w_X5_minutesOf M s a2) s 4 (r_X5_after (w_X5_minutesOf M s a2) (M.1 s 4) (r_X5_minutesOf M s a2))) s (110 + Int32.toNatClampNeg a2)) (s + 3) (Int32.toNatClampNeg a2) 1) (s + 4) (Int32.toNatClampNeg a2) ((wi (w_X5_moveAll (wi (w_X5_minutesOf M s a2) s 4 (r_X5_after (w_X5_minutesOf M s a2) (M.1 s 4) (r_X5_minutesOf M s a2))) s (110 + Int32.toNatClampNeg a2)) (s + 3) (Int32.toNatClampNeg a2) 1).1 s 4)).1 s 4) ≤ ((wi (wi (w_X5_moveAll (wi (w_X5_minutesOf M s a2) s 4 (r_X5_after (w_X5_minutesOf M s a2) (M.1 s 4) (r_X5_minutesOf M s a2))) s (110 + Int32.toNatClampNeg a2)) (s + 3) (Int32.toNatClampNeg a2) 1) (s + 4) (Int32.toNatClampNeg a2) ((wi (w_X5_moveAll (wi (w_X5_minutesOf M s a2) s 4 (r_X5_after (w_X5_minutesOf M s a2) (M.1 s 4) (r_X5_minutesOf M s a2))) s (110 + Int32.toNatClampNeg a2)) (s + 3) (Int32.toNatClampNeg a2) 1).1 s 4)).1 (110 + Int32.toNatClampNeg a2) 4) from c84)]; done) | (simp only [if_pos (show (r_X5_spoils M s (110 + Int32.toNatClampNeg a2)) = 0 from c13), if_pos (show ((wi (wi (w_X5_moveAll (wi (w_X5_minutesOf M s a2) s 4 (r_X5_after (w_X5_minutesOf M s a2) (M.1 s 4) (r_X5_minutesOf M s a2))) s (110 + Int32.toNatClampNeg a2)) (s + 3) (Int32.toNatClampNeg a2) 1) (s + 4) (Int32.toNatClampNeg a2) ((wi (w_X5_moveAll (wi (w_X5_minutesOf M s a2) s 4 (r_X5_after (w_X5_minutesOf M s a2) (M.1 s 4) (r_X5_minutesOf M s a2))) s (110 + Int32.toNatClampNeg a2)) (s + 3) (Int32.toNatClampNeg a2) 1).1 s 4)).1 s 4) ≤ ((wi (wi (w_X5_moveAll (wi (w_X5_minutesOf M s a2) s 4 (r_X5_after (w_X5_minutesOf M s a2) (M.1 s 4) (r_X5_minutesOf M s a2))) s (110 + Int32.toNatClampNeg a2)) (s + 3) (Int32.toNatClampNeg a2) 1) (s + 4) (Int32.toNatClampNeg a2) ((wi (w_X5_moveAll (wi (w_X5_minutesOf M s a2) s 4 (r_X5_after (w_X5_minutesOf M s a2) (M.1 s 4) (r_X5_minutesOf M s a2))) s (110 + Int32.toNatClampNeg a2)) (s + 3) (Int32.toNatClampNeg a2) 1).1 s 4)).1 (110 + Int32.toNatClampNeg a2) 4) from c84)]; rfl) | rfl
    · rw [if_neg (show ¬ (((wi (wi (w_X5_moveAll (wi (w_X5_minutesOf M s a2) s 4 (r_X5_after (w_X5_minutesOf M s a2) (M.1 s 4) (r_X5_minutesOf M s a2))) s (110 + Int32.toNatClampNeg a2)) (s + 3) (Int32.toNatClampNeg a2) 1) (s + 4) (Int32.toNatClampNeg a2) ((wi (w_X5_moveAll (wi (w_X5_minutesOf M s a2) s 4 (r_X5_after (w_X5_minutesOf M s a2) (M.1 s 4) (r_X5_minutesOf M s a2))) s (110 + Int32.toNatClampNeg a2)) (s + 3) (Int32.toNatClampNeg a2) 1).1 s 4)).1 s 4) ≤ ((wi (wi (w_X5_moveAll (wi (w_X5_minutesOf M s a2) s 4 (r_X5_after (w_X5_minutesOf M s a2) (M.1 s 4) (r_X5_minutesOf M s a2))) s (110 + Int32.toNatClampNeg a2)) (s + 3) (Int32.toNatClampNeg a2) 1) (s + 4) (Int32.toNatClampNeg a2) ((wi (w_X5_moveAll (wi (w_X5_minutesOf M s a2) s 4 (r_X5_after (w_X5_minutesOf M s a2) (M.1 s 4) (r_X5_minutesOf M s a2))) s (110 + Int32.toNatClampNeg a2)) (s + 3) (Int32.toNatClampNeg a2) 1).1 s 4)).1 (110 + Int32.toNatClampNeg a2) 4)) from c84)] at hp
      refine j_aload_n g (i := 1) (by decide +kernel) rfl ?_
      refine j_dup g (by decide +kernel) rfl ?_
      refine j_gI g f5_148 (by decide +kernel) (by decide +kernel) (isS_F hs).1.1 ?_
      refine j_iconst g (n := 1) (1) (by decide +kernel) rfl ?_
      refine j_iadd g (by decide +kernel) ?_
      refine j_pI g f5_148 (fun q h => by cases h; rfl) (by decide +kernel) (by decide +kernel) (isS_F hs).1.1 ?_
      refine j_aload_n g (i := 3) (by decide +kernel) rfl ?_
      refine j_aload_n g (i := 1) (by decide +kernel) rfl ?_
      refine j_gI g f5_54 (by decide +kernel) (by decide +kernel) (isS_F hs).1.1 ?_
      refine j_cV1r g v5_161 ⟨rfl, by decide⟩ (gkW103 hw5) (by decide +kernel) (Nat.le_of_ble_eq_true rfl) (rnX6_worthAt (gkW103 hw5)) ?_
      refine j_istore g (i := 4) (by decide +kernel) (by decide) ?_
      dsimp only [stL, clL, hdL]
      refine j_aload_n g (i := 1) (by decide +kernel) rfl ?_
      refine j_dup g (by decide +kernel) rfl ?_
      refine j_gI g f5_164 (by decide +kernel) (by decide +kernel) (isS_F hs).1.1 ?_
      refine j_iload g (i := 4) (by decide +kernel) rfl ?_
      refine j_iadd g (by decide +kernel) ?_
      refine j_pI g f5_164 (fun q h => by cases h; rfl) (by decide +kernel) (by decide +kernel) (isS_F hs).1.1 ?_
      refine j_iload g (i := 4) (by decide +kernel) rfl ?_
      refine hr.1 _ _ _ _ (by decide +kernel) ⟨_, rfl, by first | rfl | exact b2i_nar | decide +kernel⟩ ?_ ?_
      · unfold r_X5_carryOut; first | (simp only [if_pos (show (r_X5_spoils M s (110 + Int32.toNatClampNeg a2)) = 0 from c13), if_neg (show ¬ (((wi (wi (w_X5_moveAll (wi (w_X5_minutesOf M s a2) s 4 (r_X5_after (w_X5_minutesOf M s a2) (M.1 s 4) (r_X5_minutesOf M s a2))) s (110 + Int32.toNatClampNeg a2)) (s + 3) (Int32.toNatClampNeg a2) 1) (s + 4) (Int32.toNatClampNeg a2) ((wi (w_X5_moveAll (wi (w_X5_minutesOf M s a2) s 4 (r_X5_after (w_X5_minutesOf M s a2) (M.1 s 4) (r_X5_minutesOf M s a2))) s (110 + Int32.toNatClampNeg a2)) (s + 3) (Int32.toNatClampNeg a2) 1).1 s 4)).1 s 4) ≤ ((wi (wi (w_X5_moveAll (wi (w_X5_minutesOf M s a2) s 4 (r_X5_after (w_X5_minutesOf M s a2) (M.1 s 4) (r_X5_minutesOf M s a2))) s (110 + Int32.toNatClampNeg a2)) (s + 3) (Int32.toNatClampNeg a2) 1) (s + 4) (Int32.toNatClampNeg a2) ((wi (w_X5_moveAll (wi (w_X5_minutesOf M s a2) s 4 (r_X5_after (w_X5_minutesOf M s a2) (M.1 s 4) (r_X5_minutesOf M s a2))) s (110 + Int32.toNatClampNeg a2)) (s + 3) (Int32.toNatClampNeg a2) 1).1 s 4)).1 (110 + Int32.toNatClampNeg a2) 4)) from c84)]; done) | (simp only [if_pos (show (r_X5_spoils M s (110 + Int32.toNatClampNeg a2)) = 0 from c13), if_neg (show ¬ (((wi (wi (w_X5_moveAll (wi (w_X5_minutesOf M s a2) s 4 (r_X5_after (w_X5_minutesOf M s a2) (M.1 s 4) (r_X5_minutesOf M s a2))) s (110 + Int32.toNatClampNeg a2)) (s + 3) (Int32.toNatClampNeg a2) 1) (s + 4) (Int32.toNatClampNeg a2) ((wi (w_X5_moveAll (wi (w_X5_minutesOf M s a2) s 4 (r_X5_after (w_X5_minutesOf M s a2) (M.1 s 4) (r_X5_minutesOf M s a2))) s (110 + Int32.toNatClampNeg a2)) (s + 3) (Int32.toNatClampNeg a2) 1).1 s 4)).1 s 4) ≤ ((wi (wi (w_X5_moveAll (wi (w_X5_minutesOf M s a2) s 4 (r_X5_after (w_X5_minutesOf M s a2) (M.1 s 4) (r_X5_minutesOf M s a2))) s (110 + Int32.toNatClampNeg a2)) (s + 3) (Int32.toNatClampNeg a2) 1) (s + 4) (Int32.toNatClampNeg a2) ((wi (w_X5_moveAll (wi (w_X5_minutesOf M s a2) s 4 (r_X5_after (w_X5_minutesOf M s a2) (M.1 s 4) (r_X5_minutesOf M s a2))) s (110 + Int32.toNatClampNeg a2)) (s + 3) (Int32.toNatClampNeg a2) 1).1 s 4)).1 (110 + Int32.toNatClampNeg a2) 4)) from c84)]; rfl) | rfl
      · unfold w_X5_carryOut; first | (simp only [if_pos (show (r_X5_spoils M s (110 + Int32.toNatClampNeg a2)) = 0 from c13), if_neg (show ¬ (((wi (wi (w_X5_moveAll (wi (w_X5_minutesOf M s a2) s 4 (r_X5_after (w_X5_minutesOf M s a2) (M.1 s 4) (r_X5_minutesOf M s a2))) s (110 + Int32.toNatClampNeg a2)) (s + 3) (Int32.toNatClampNeg a2) 1) (s + 4) (Int32.toNatClampNeg a2) ((wi (w_X5_moveAll (wi (w_X5_minutesOf M s a2) s 4 (r_X5_after (w_X5_minutesOf M s a2) (M.1 s 4) (r_X5_minutesOf M s a2))) s (110 + Int32.toNatClampNeg a2)) (s + 3) (Int32.toNatClampNeg a2) 1).1 s 4)).1 s 4) ≤ ((wi (wi (w_X5_moveAll (wi (w_X5_minutesOf M s a2) s 4 (r_X5_after (w_X5_minutesOf M s a2) (M.1 s 4) (r_X5_minutesOf M s a2))) s (110 + Int32.toNatClampNeg a2)) (s + 3) (Int32.toNatClampNeg a2) 1) (s + 4) (Int32.toNatClampNeg a2) ((wi (w_X5_moveAll (wi (w_X5_minutesOf M s a2) s 4 (r_X5_after (w_X5_minutesOf M s a2) (M.1 s 4) (r_X5_minutesOf M s a2))) s (110 + Int32.toNatClampNeg a2)) (s + 3) (Int32.toNatClampNeg a2) 1).1 s 4)).1 (110 + Int32.toNatClampNeg a2) 4)) from c84)]; done) | (simp only [if_pos (show (r_X5_spoils M s (110 + Int32.toNatClampNeg a2)) = 0 from c13), if_neg (show ¬ (((wi (wi (w_X5_moveAll (wi (w_X5_minutesOf M s a2) s 4 (r_X5_after (w_X5_minutesOf M s a2) (M.1 s 4) (r_X5_minutesOf M s a2))) s (110 + Int32.toNatClampNeg a2)) (s + 3) (Int32.toNatClampNeg a2) 1) (s + 4) (Int32.toNatClampNeg a2) ((wi (w_X5_moveAll (wi (w_X5_minutesOf M s a2) s 4 (r_X5_after (w_X5_minutesOf M s a2) (M.1 s 4) (r_X5_minutesOf M s a2))) s (110 + Int32.toNatClampNeg a2)) (s + 3) (Int32.toNatClampNeg a2) 1).1 s 4)).1 s 4) ≤ ((wi (wi (w_X5_moveAll (wi (w_X5_minutesOf M s a2) s 4 (r_X5_after (w_X5_minutesOf M s a2) (M.1 s 4) (r_X5_minutesOf M s a2))) s (110 + Int32.toNatClampNeg a2)) (s + 3) (Int32.toNatClampNeg a2) 1) (s + 4) (Int32.toNatClampNeg a2) ((wi (w_X5_moveAll (wi (w_X5_minutesOf M s a2) s 4 (r_X5_after (w_X5_minutesOf M s a2) (M.1 s 4) (r_X5_minutesOf M s a2))) s (110 + Int32.toNatClampNeg a2)) (s + 3) (Int32.toNatClampNeg a2) 1).1 s 4)).1 (110 + Int32.toNatClampNeg a2) 4)) from c84)]; rfl) | rfl
  · rw [if_neg (show ¬ ((r_X5_spoils M s (110 + Int32.toNatClampNeg a2)) = 0) from c13)] at hp
    refine j_aload_n g (i := 1) (by decide +kernel) rfl ?_
    refine j_gA g f5_107 (by decide +kernel) (by decide +kernel) (isS_F hs).1.1 (isS_F hs).2.2.2.2.1 ?_
    refine j_iload_n g (i := 2) (by decide +kernel) rfl ?_
    refine j_iconst g (n := 2) (2) (by decide +kernel) rfl ?_
    obtain ⟨h0, hp⟩ := hp
    refine j_is g 6 (by decide +kernel) (isS_F hs).1.2.2.2.1 (isS_F hs).2.1.2.2.1 h0 ?_
    refine j_aload_n g (i := 1) (by decide +kernel) rfl ?_
    refine j_dup g (by decide +kernel) rfl ?_
    refine j_gI g f5_148 (by decide +kernel) (by decide +kernel) (isS_F hs).1.1 ?_
    refine j_iconst g (n := 1) (1) (by decide +kernel) rfl ?_
    refine j_iadd g (by decide +kernel) ?_
    refine j_pI g f5_148 (fun q h => by cases h; rfl) (by decide +kernel) (by decide +kernel) (isS_F hs).1.1 ?_
    refine j_iconst g (n := 0) (0) (by decide +kernel) rfl ?_
    refine hr.1 _ _ _ _ (by decide +kernel) ⟨_, rfl, by first | rfl | exact b2i_nar | decide +kernel⟩ ?_ ?_
    · unfold r_X5_carryOut; first | (simp only [if_neg (show ¬ ((r_X5_spoils M s (110 + Int32.toNatClampNeg a2)) = 0) from c13)]; done) | (simp only [if_neg (show ¬ ((r_X5_spoils M s (110 + Int32.toNatClampNeg a2)) = 0) from c13)]; rfl) | rfl
    · unfold w_X5_carryOut; first | (simp only [if_neg (show ¬ ((r_X5_spoils M s (110 + Int32.toNatClampNeg a2)) = 0) from c13)]; done) | (simp only [if_neg (show ¬ ((r_X5_spoils M s (110 + Int32.toNatClampNeg a2)) = 0) from c13)]; rfl) | rfl
noncomputable def r_X7_may (M : Mm)  : Int32 := r_X5_freeOnes M 1000
def p_X7_may (M : Mm)  : Prop := (p_X5_freeOnes M 1000) ∧ True
theorem rnX7_may {d : Nat} {M : Mm}   (hp : p_X7_may M ) : Rn (d + 4) mX7_may [.ref 1] M (some (.int (r_X7_may M ))) M := by
  refine Rn.of [some (.ref 1)] (by decide +kernel) rfl (Nat.le_of_ble_eq_true rfl) rfl (fun J g hr => ?_)
  unfold p_X7_may at hp
  refine j_aload_n g (i := 0) (by decide +kernel) rfl ?_
  refine j_gA g (b := 100) f7_20 (by decide +kernel) (by decide +kernel) (by decide +kernel) (by decide +kernel) ?_
  refine j_aload_n g (i := 0) (by decide +kernel) rfl ?_
  refine j_gA g (b := 100) f7_20 (by decide +kernel) (by decide +kernel) (by decide +kernel) (by decide +kernel) ?_
  refine j_gA g (b := 1000) f7_112 (by decide +kernel) (by decide +kernel) (by decide +kernel) (by decide +kernel) ?_
  obtain ⟨h0, hp⟩ := hp
  refine j_cV1r g v7_182 ⟨rfl, by decide⟩ (by decide +kernel) (by decide +kernel) (Nat.le_of_ble_eq_true rfl) (rnX5_freeOnes (by simp [isS]) h0) ?_
  refine hr.1 _ _ _ _ (by decide +kernel) ⟨_, rfl, by first | rfl | exact b2i_nar | decide +kernel⟩ ?_ ?_
  · unfold r_X7_may; rfl
  · rfl
noncomputable def r_X7_minutes (M : Mm) (a1 : Int32) : Int32 := if (b2i (cHas M a1)) = 0 then (-1) else r_X5_minutesOf M 1000 a1
noncomputable def w_X7_minutes (M : Mm) (a1 : Int32) : Mm := if (b2i (cHas M a1)) = 0 then M else (w_X5_minutesOf M 1000 a1)
def p_X7_minutes (M : Mm) (a1 : Int32) : Prop := (if (b2i (cHas M a1)) = 0 then True else (p_X5_minutesOf M 1000 a1) ∧ True)
theorem rnX7_minutes {d : Nat} {M : Mm} {a1 : Int32}  (hp : p_X7_minutes M a1) : Rn (d + 2) mX7_minutes [.ref 1, .int a1] M (some (.int (r_X7_minutes M a1))) (w_X7_minutes M a1) := by
  refine Rn.of [some (.ref 1), some (.int a1)] (by decide +kernel) rfl (Nat.le_of_ble_eq_true rfl) rfl (fun J g hr => ?_)
  unfold p_X7_minutes at hp
  refine j_aload_n g (i := 0) (by decide +kernel) rfl ?_
  refine j_gA g (b := 100) f7_20 (by decide +kernel) (by decide +kernel) (by decide +kernel) (by decide +kernel) ?_
  refine j_iload_n g (i := 1) (by decide +kernel) rfl ?_
  refine j_cV1r g v7_108 ⟨rfl, by decide⟩ (by decide +kernel) (by decide +kernel) (Nat.le_of_ble_eq_true rfl) (rnX5_hasWork) ?_
  refine j_if_eq g (off := 21) (tgt := 29) (by decide +kernel) (by decide) (fun c8 => ?_) (fun c8 => ?_)
  · rw [if_pos (show (b2i (cHas M a1)) = 0 from c8)] at hp
    refine j_iconst g (n := -1) (-1) (by decide +kernel) rfl ?_
    refine hr.1 _ _ _ _ (by decide +kernel) ⟨_, rfl, by first | rfl | exact b2i_nar | decide +kernel⟩ ?_ ?_
    · unfold r_X7_minutes; first | (simp only [if_pos (show (b2i (cHas M a1)) = 0 from c8)]; done) | (simp only [if_pos (show (b2i (cHas M a1)) = 0 from c8)]; rfl) | rfl
    · unfold w_X7_minutes; first | (simp only [if_pos (show (b2i (cHas M a1)) = 0 from c8)]; done) | (simp only [if_pos (show (b2i (cHas M a1)) = 0 from c8)]; rfl) | rfl
  · rw [if_neg (show ¬ ((b2i (cHas M a1)) = 0) from c8)] at hp
    refine j_aload_n g (i := 0) (by decide +kernel) rfl ?_
    refine j_gA g (b := 100) f7_20 (by decide +kernel) (by decide +kernel) (by decide +kernel) (by decide +kernel) ?_
    refine j_aload_n g (i := 0) (by decide +kernel) rfl ?_
    refine j_gA g (b := 100) f7_20 (by decide +kernel) (by decide +kernel) (by decide +kernel) (by decide +kernel) ?_
    refine j_gA g (b := 1000) f7_112 (by decide +kernel) (by decide +kernel) (by decide +kernel) (by decide +kernel) ?_
    refine j_iload_n g (i := 1) (by decide +kernel) rfl ?_
    obtain ⟨h0, hp⟩ := hp
    refine j_cV2r g v7_178 ⟨rfl, by decide⟩ (by decide +kernel) (by decide +kernel) (Nat.le_of_ble_eq_true rfl) (rnX5_minutesOf (by simp [isS]) h0) ?_
    refine j_goto g (off := 4) (tgt := 30) (by decide +kernel) (by decide) ?_
    refine hr.1 _ _ _ _ (by decide +kernel) ⟨_, rfl, by first | rfl | exact b2i_nar | decide +kernel⟩ ?_ ?_
    · unfold r_X7_minutes; first | (simp only [if_neg (show ¬ ((b2i (cHas M a1)) = 0) from c8)]; done) | (simp only [if_neg (show ¬ ((b2i (cHas M a1)) = 0) from c8)]; rfl) | rfl
    · unfold w_X7_minutes; first | (simp only [if_neg (show ¬ ((b2i (cHas M a1)) = 0) from c8)]; done) | (simp only [if_neg (show ¬ ((b2i (cHas M a1)) = 0) from c8)]; rfl) | rfl
noncomputable def r_X7_does (M : Mm) (a1 : Int32) : Int32 := if ¬ (b2i (cHas M a1)) = 0 then (if (b2i (cFree M 1000 a1)) = 0 then (-4) else r_X5_carryOut M 1000 a1) else (-1)
noncomputable def w_X7_does (M : Mm) (a1 : Int32) : Mm := if ¬ (b2i (cHas M a1)) = 0 then (if (b2i (cFree M 1000 a1)) = 0 then M else (w_X5_carryOut M 1000 a1)) else M
def p_X7_does (M : Mm) (a1 : Int32) : Prop := (if ¬ (b2i (cHas M a1)) = 0 then ((M.1 100 2).toInt ≤ 6) ∧ (if (b2i (cFree M 1000 a1)) = 0 then True else (p_X5_carryOut M 1000 a1) ∧ True) else True)
theorem rnX7_does {d : Nat} {M : Mm} {a1 : Int32}  (hp : p_X7_does M a1) : Rn (d + 3) mX7_does [.ref 1, .int a1] M (some (.int (r_X7_does M a1))) (w_X7_does M a1) := by
  refine Rn.of [some (.ref 1), some (.int a1)] (by decide +kernel) rfl (Nat.le_of_ble_eq_true rfl) rfl (fun J g hr => ?_)
  unfold p_X7_does at hp
  refine j_aload_n g (i := 0) (by decide +kernel) rfl ?_
  refine j_gA g (b := 100) f7_20 (by decide +kernel) (by decide +kernel) (by decide +kernel) (by decide +kernel) ?_
  refine j_iload_n g (i := 1) (by decide +kernel) rfl ?_
  refine j_cV1r g v7_108 ⟨rfl, by decide⟩ (by decide +kernel) (by decide +kernel) (Nat.le_of_ble_eq_true rfl) (rnX5_hasWork) ?_
  refine j_if_ne g (off := 5) (tgt := 13) (by decide +kernel) (by decide) (fun c8 => ?_) (fun c8 => ?_)
  · rw [if_pos (show ¬ (b2i (cHas M a1)) = 0 from c8)] at hp
    refine j_aload_n g (i := 0) (by decide +kernel) rfl ?_
    refine j_gA g (b := 100) f7_20 (by decide +kernel) (by decide +kernel) (by decide +kernel) (by decide +kernel) ?_
    refine j_aload_n g (i := 0) (by decide +kernel) rfl ?_
    refine j_gA g (b := 100) f7_20 (by decide +kernel) (by decide +kernel) (by decide +kernel) (by decide +kernel) ?_
    refine j_gA g (b := 1000) f7_112 (by decide +kernel) (by decide +kernel) (by decide +kernel) (by decide +kernel) ?_
    refine j_iload_n g (i := 1) (by decide +kernel) rfl ?_
    obtain ⟨h0, hp⟩ := hp
    refine j_cV2r g v7_186 ⟨rfl, by decide⟩ (by decide +kernel) (by decide +kernel) (Nat.le_of_ble_eq_true rfl) (rnX5_isFree h0 (by simp [isS])) ?_
    refine j_if_eq g (off := 21) (tgt := 49) (by decide +kernel) (by decide) (fun c28 => ?_) (fun c28 => ?_)
    · rw [if_pos (show (b2i (cFree M 1000 a1)) = 0 from c28)] at hp
      refine j_bipush g (n := -4) (-4) (by decide +kernel) (by decide +kernel) ?_
      refine hr.1 _ _ _ _ (by decide +kernel) ⟨_, rfl, by first | rfl | exact b2i_nar | decide +kernel⟩ ?_ ?_
      · unfold r_X7_does; first | (simp only [if_pos (show ¬ (b2i (cHas M a1)) = 0 from c8), if_pos (show (b2i (cFree M 1000 a1)) = 0 from c28)]; done) | (simp only [if_pos (show ¬ (b2i (cHas M a1)) = 0 from c8), if_pos (show (b2i (cFree M 1000 a1)) = 0 from c28)]; rfl) | rfl
      · unfold w_X7_does; first | (simp only [if_pos (show ¬ (b2i (cHas M a1)) = 0 from c8), if_pos (show (b2i (cFree M 1000 a1)) = 0 from c28)]; done) | (simp only [if_pos (show ¬ (b2i (cHas M a1)) = 0 from c8), if_pos (show (b2i (cFree M 1000 a1)) = 0 from c28)]; rfl) | rfl
    · rw [if_neg (show ¬ ((b2i (cFree M 1000 a1)) = 0) from c28)] at hp
      refine j_aload_n g (i := 0) (by decide +kernel) rfl ?_
      refine j_gA g (b := 100) f7_20 (by decide +kernel) (by decide +kernel) (by decide +kernel) (by decide +kernel) ?_
      refine j_aload_n g (i := 0) (by decide +kernel) rfl ?_
      refine j_gA g (b := 100) f7_20 (by decide +kernel) (by decide +kernel) (by decide +kernel) (by decide +kernel) ?_
      refine j_gA g (b := 1000) f7_112 (by decide +kernel) (by decide +kernel) (by decide +kernel) (by decide +kernel) ?_
      refine j_iload_n g (i := 1) (by decide +kernel) rfl ?_
      obtain ⟨h0, hp⟩ := hp
      refine j_cV2r g v7_190 ⟨rfl, by decide⟩ (by decide +kernel) (by decide +kernel) (Nat.le_of_ble_eq_true rfl) (rnX5_carryOut (by simp [isS]) h0) ?_
      refine j_goto g (off := 5) (tgt := 51) (by decide +kernel) (by decide) ?_
      refine hr.1 _ _ _ _ (by decide +kernel) ⟨_, rfl, by first | rfl | exact b2i_nar | decide +kernel⟩ ?_ ?_
      · unfold r_X7_does; first | (simp only [if_pos (show ¬ (b2i (cHas M a1)) = 0 from c8), if_neg (show ¬ ((b2i (cFree M 1000 a1)) = 0) from c28)]; done) | (simp only [if_pos (show ¬ (b2i (cHas M a1)) = 0 from c8), if_neg (show ¬ ((b2i (cFree M 1000 a1)) = 0) from c28)]; rfl) | rfl
      · unfold w_X7_does; first | (simp only [if_pos (show ¬ (b2i (cHas M a1)) = 0 from c8), if_neg (show ¬ ((b2i (cFree M 1000 a1)) = 0) from c28)]; done) | (simp only [if_pos (show ¬ (b2i (cHas M a1)) = 0 from c8), if_neg (show ¬ ((b2i (cFree M 1000 a1)) = 0) from c28)]; rfl) | rfl
  · rw [if_neg (show ¬ (¬ (b2i (cHas M a1)) = 0) from c8)] at hp
    refine j_iconst g (n := -1) (-1) (by decide +kernel) rfl ?_
    refine hr.1 _ _ _ _ (by decide +kernel) ⟨_, rfl, by first | rfl | exact b2i_nar | decide +kernel⟩ ?_ ?_
    · unfold r_X7_does; first | (simp only [if_neg (show ¬ (¬ (b2i (cHas M a1)) = 0) from c8)]; done) | (simp only [if_neg (show ¬ (¬ (b2i (cHas M a1)) = 0) from c8)]; rfl) | rfl
    · unfold w_X7_does; first | (simp only [if_neg (show ¬ (¬ (b2i (cHas M a1)) = 0) from c8)]; done) | (simp only [if_neg (show ¬ (¬ (b2i (cHas M a1)) = 0) from c8)]; rfl) | rfl
noncomputable def r_X7_many (M : Mm) (a1 : Int32) : Int32 := if a1 = 0 then M.1 100 0 else if a1 = 1 then M.1 100 1 else if a1 = 2 then M.1 100 2 else if a1 = 3 then r_X5_openOnes M 1000 else if a1 = 4 then M.1 100 3 else if a1 = 5 then M.1 1 8 else if a1 = 6 then M.1 500 1 else if a1 = 7 then M.1 520 1 else (-1)
noncomputable def w_X7_many (M : Mm) (a1 : Int32) : Mm := if a1 = 0 then M else if a1 = 1 then M else if a1 = 2 then M else if a1 = 3 then M else if a1 = 4 then M else if a1 = 5 then M else if a1 = 6 then M else if a1 = 7 then M else M
def p_X7_many (M : Mm) (a1 : Int32) : Prop := (if a1 = 0 then True else if a1 = 1 then True else if a1 = 2 then True else if a1 = 3 then (p_X5_openOnes M 1000) ∧ True else if a1 = 4 then True else if a1 = 5 then True else if a1 = 6 then True else if a1 = 7 then True else True)
theorem rnX7_many {d : Nat} {M : Mm} {a1 : Int32}  (hp : p_X7_many M a1) : Rn (d + 3) mX7_many [.ref 1, .int a1] M (some (.int (r_X7_many M a1))) (w_X7_many M a1) := by
  refine Rn.of [some (.ref 1), some (.int a1)] (by decide +kernel) rfl (Nat.le_of_ble_eq_true rfl) rfl (fun J g hr => ?_)
  unfold p_X7_many at hp
  refine j_iload_n g (i := 1) (by decide +kernel) rfl ?_
  have dsw1 : decode cX7_many 1 = .ok (.tableswitch 115 0 7 #[47, 55, 63, 71, 86, 94, 99, 107], 47) := by decide +kernel
  by_cases e1_0 : a1 = 0
  · refine j_tableIn g (off := 47) (tgt := 48) dsw1 (by rw [e1_0]; decide) (by rw [e1_0]; decide) (by rw [e1_0]; decide) (by decide) ?_
    rw [if_pos e1_0] at hp
    refine j_aload_n g (i := 0) (by decide +kernel) rfl ?_
    refine j_gA g (b := 100) f7_20 (by decide +kernel) (by decide +kernel) (by decide +kernel) (by decide +kernel) ?_
    refine j_gI g f7_91 (by decide +kernel) (by decide +kernel) (by decide +kernel) ?_
    refine hr.1 _ _ _ _ (by decide +kernel) ⟨_, rfl, by first | rfl | exact b2i_nar | rfl⟩ ?_ ?_
    · unfold r_X7_many; first | (simp only [if_pos e1_0]; done) | (simp only [if_pos e1_0]; rfl) | rfl
    · unfold w_X7_many; first | (simp only [if_pos e1_0]; done) | (simp only [if_pos e1_0]; rfl) | rfl
  by_cases e1_1 : a1 = 1
  · refine j_tableIn g (off := 55) (tgt := 56) dsw1 (by rw [e1_1]; decide) (by rw [e1_1]; decide) (by rw [e1_1]; decide) (by decide) ?_
    rw [if_neg e1_0, if_pos e1_1] at hp
    refine j_aload_n g (i := 0) (by decide +kernel) rfl ?_
    refine j_gA g (b := 100) f7_20 (by decide +kernel) (by decide +kernel) (by decide +kernel) (by decide +kernel) ?_
    refine j_gI g f7_98 (by decide +kernel) (by decide +kernel) (by decide +kernel) ?_
    refine hr.1 _ _ _ _ (by decide +kernel) ⟨_, rfl, by first | rfl | exact b2i_nar | rfl⟩ ?_ ?_
    · unfold r_X7_many; first | (simp only [if_neg e1_0, if_pos e1_1]; done) | (simp only [if_neg e1_0, if_pos e1_1]; rfl) | rfl
    · unfold w_X7_many; first | (simp only [if_neg e1_0, if_pos e1_1]; done) | (simp only [if_neg e1_0, if_pos e1_1]; rfl) | rfl
  by_cases e1_2 : a1 = 2
  · refine j_tableIn g (off := 63) (tgt := 64) dsw1 (by rw [e1_2]; decide) (by rw [e1_2]; decide) (by rw [e1_2]; decide) (by decide) ?_
    rw [if_neg e1_0, if_neg e1_1, if_pos e1_2] at hp
    refine j_aload_n g (i := 0) (by decide +kernel) rfl ?_
    refine j_gA g (b := 100) f7_20 (by decide +kernel) (by decide +kernel) (by decide +kernel) (by decide +kernel) ?_
    refine j_gI g f7_84 (by decide +kernel) (by decide +kernel) (by decide +kernel) ?_
    refine hr.1 _ _ _ _ (by decide +kernel) ⟨_, rfl, by first | rfl | exact b2i_nar | rfl⟩ ?_ ?_
    · unfold r_X7_many; first | (simp only [if_neg e1_0, if_neg e1_1, if_pos e1_2]; done) | (simp only [if_neg e1_0, if_neg e1_1, if_pos e1_2]; rfl) | rfl
    · unfold w_X7_many; first | (simp only [if_neg e1_0, if_neg e1_1, if_pos e1_2]; done) | (simp only [if_neg e1_0, if_neg e1_1, if_pos e1_2]; rfl) | rfl
  by_cases e1_3 : a1 = 3
  · refine j_tableIn g (off := 71) (tgt := 72) dsw1 (by rw [e1_3]; decide) (by rw [e1_3]; decide) (by rw [e1_3]; decide) (by decide) ?_
    rw [if_neg e1_0, if_neg e1_1, if_neg e1_2, if_pos e1_3] at hp
    refine j_aload_n g (i := 0) (by decide +kernel) rfl ?_
    refine j_gA g (b := 100) f7_20 (by decide +kernel) (by decide +kernel) (by decide +kernel) (by decide +kernel) ?_
    refine j_aload_n g (i := 0) (by decide +kernel) rfl ?_
    refine j_gA g (b := 100) f7_20 (by decide +kernel) (by decide +kernel) (by decide +kernel) (by decide +kernel) ?_
    refine j_gA g (b := 1000) f7_112 (by decide +kernel) (by decide +kernel) (by decide +kernel) (by decide +kernel) ?_
    obtain ⟨h0, hp⟩ := hp
    refine j_cV1r g v7_315 ⟨rfl, by decide⟩ (by decide +kernel) (by decide +kernel) (Nat.le_of_ble_eq_true rfl) (rnX5_openOnes (by simp [isS]) h0) ?_
    refine hr.1 _ _ _ _ (by decide +kernel) ⟨_, rfl, by first | rfl | exact b2i_nar | rfl⟩ ?_ ?_
    · unfold r_X7_many; first | (simp only [if_neg e1_0, if_neg e1_1, if_neg e1_2, if_pos e1_3]; done) | (simp only [if_neg e1_0, if_neg e1_1, if_neg e1_2, if_pos e1_3]; rfl) | rfl
    · unfold w_X7_many; first | (simp only [if_neg e1_0, if_neg e1_1, if_neg e1_2, if_pos e1_3]; done) | (simp only [if_neg e1_0, if_neg e1_1, if_neg e1_2, if_pos e1_3]; rfl) | rfl
  by_cases e1_4 : a1 = 4
  · refine j_tableIn g (off := 86) (tgt := 87) dsw1 (by rw [e1_4]; decide) (by rw [e1_4]; decide) (by rw [e1_4]; decide) (by decide) ?_
    rw [if_neg e1_0, if_neg e1_1, if_neg e1_2, if_neg e1_3, if_pos e1_4] at hp
    refine j_aload_n g (i := 0) (by decide +kernel) rfl ?_
    refine j_gA g (b := 100) f7_20 (by decide +kernel) (by decide +kernel) (by decide +kernel) (by decide +kernel) ?_
    refine j_gI g f7_228 (by decide +kernel) (by decide +kernel) (by decide +kernel) ?_
    refine hr.1 _ _ _ _ (by decide +kernel) ⟨_, rfl, by first | rfl | exact b2i_nar | rfl⟩ ?_ ?_
    · unfold r_X7_many; first | (simp only [if_neg e1_0, if_neg e1_1, if_neg e1_2, if_neg e1_3, if_pos e1_4]; done) | (simp only [if_neg e1_0, if_neg e1_1, if_neg e1_2, if_neg e1_3, if_pos e1_4]; rfl) | rfl
    · unfold w_X7_many; first | (simp only [if_neg e1_0, if_neg e1_1, if_neg e1_2, if_neg e1_3, if_pos e1_4]; done) | (simp only [if_neg e1_0, if_neg e1_1, if_neg e1_2, if_neg e1_3, if_pos e1_4]; rfl) | rfl
  by_cases e1_5 : a1 = 5
  · refine j_tableIn g (off := 94) (tgt := 95) dsw1 (by rw [e1_5]; decide) (by rw [e1_5]; decide) (by rw [e1_5]; decide) (by decide) ?_
    rw [if_neg e1_0, if_neg e1_1, if_neg e1_2, if_neg e1_3, if_neg e1_4, if_pos e1_5] at hp
    refine j_aload_n g (i := 0) (by decide +kernel) rfl ?_
    refine j_gI g f7_55 (by decide +kernel) (by decide +kernel) (by decide +kernel) ?_
    refine hr.1 _ _ _ _ (by decide +kernel) ⟨_, rfl, by first | rfl | exact b2i_nar | rfl⟩ ?_ ?_
    · unfold r_X7_many; first | (simp only [if_neg e1_0, if_neg e1_1, if_neg e1_2, if_neg e1_3, if_neg e1_4, if_pos e1_5]; done) | (simp only [if_neg e1_0, if_neg e1_1, if_neg e1_2, if_neg e1_3, if_neg e1_4, if_pos e1_5]; rfl) | rfl
    · unfold w_X7_many; first | (simp only [if_neg e1_0, if_neg e1_1, if_neg e1_2, if_neg e1_3, if_neg e1_4, if_pos e1_5]; done) | (simp only [if_neg e1_0, if_neg e1_1, if_neg e1_2, if_neg e1_3, if_neg e1_4, if_pos e1_5]; rfl) | rfl
  by_cases e1_6 : a1 = 6
  · refine j_tableIn g (off := 99) (tgt := 100) dsw1 (by rw [e1_6]; decide) (by rw [e1_6]; decide) (by rw [e1_6]; decide) (by decide) ?_
    rw [if_neg e1_0, if_neg e1_1, if_neg e1_2, if_neg e1_3, if_neg e1_4, if_neg e1_5, if_pos e1_6] at hp
    refine j_aload_n g (i := 0) (by decide +kernel) rfl ?_
    refine j_gA g (b := 500) f7_33 (by decide +kernel) (by decide +kernel) (by decide +kernel) (by decide +kernel) ?_
    refine j_gI g f7_67 (by decide +kernel) (by decide +kernel) (by decide +kernel) ?_
    refine hr.1 _ _ _ _ (by decide +kernel) ⟨_, rfl, by first | rfl | exact b2i_nar | rfl⟩ ?_ ?_
    · unfold r_X7_many; first | (simp only [if_neg e1_0, if_neg e1_1, if_neg e1_2, if_neg e1_3, if_neg e1_4, if_neg e1_5, if_pos e1_6]; done) | (simp only [if_neg e1_0, if_neg e1_1, if_neg e1_2, if_neg e1_3, if_neg e1_4, if_neg e1_5, if_pos e1_6]; rfl) | rfl
    · unfold w_X7_many; first | (simp only [if_neg e1_0, if_neg e1_1, if_neg e1_2, if_neg e1_3, if_neg e1_4, if_neg e1_5, if_pos e1_6]; done) | (simp only [if_neg e1_0, if_neg e1_1, if_neg e1_2, if_neg e1_3, if_neg e1_4, if_neg e1_5, if_pos e1_6]; rfl) | rfl
  by_cases e1_7 : a1 = 7
  · refine j_tableIn g (off := 107) (tgt := 108) dsw1 (by rw [e1_7]; decide) (by rw [e1_7]; decide) (by rw [e1_7]; decide) (by decide) ?_
    rw [if_neg e1_0, if_neg e1_1, if_neg e1_2, if_neg e1_3, if_neg e1_4, if_neg e1_5, if_neg e1_6, if_pos e1_7] at hp
    refine j_aload_n g (i := 0) (by decide +kernel) rfl ?_
    refine j_gA g (b := 520) f7_40 (by decide +kernel) (by decide +kernel) (by decide +kernel) (by decide +kernel) ?_
    refine j_gI g f7_307 (by decide +kernel) (by decide +kernel) (by decide +kernel) ?_
    refine hr.1 _ _ _ _ (by decide +kernel) ⟨_, rfl, by first | rfl | exact b2i_nar | rfl⟩ ?_ ?_
    · unfold r_X7_many; first | (simp only [if_neg e1_0, if_neg e1_1, if_neg e1_2, if_neg e1_3, if_neg e1_4, if_neg e1_5, if_neg e1_6, if_pos e1_7]; done) | (simp only [if_neg e1_0, if_neg e1_1, if_neg e1_2, if_neg e1_3, if_neg e1_4, if_neg e1_5, if_neg e1_6, if_pos e1_7]; rfl) | rfl
    · unfold w_X7_many; first | (simp only [if_neg e1_0, if_neg e1_1, if_neg e1_2, if_neg e1_3, if_neg e1_4, if_neg e1_5, if_neg e1_6, if_pos e1_7]; done) | (simp only [if_neg e1_0, if_neg e1_1, if_neg e1_2, if_neg e1_3, if_neg e1_4, if_neg e1_5, if_neg e1_6, if_pos e1_7]; rfl) | rfl
  rw [if_neg e1_0, if_neg e1_1, if_neg e1_2, if_neg e1_3, if_neg e1_4, if_neg e1_5, if_neg e1_6, if_neg e1_7] at hp
  refine j_tableOut g (tgt := 116) dsw1 (by simp only [← Int32.toInt_inj, Int32.reduceToInt, im1, im2, im3] at e1_0 e1_1 e1_2 e1_3 e1_4 e1_5 e1_6 e1_7; omega) (by decide) ?_
  refine j_iconst g (n := -1) (-1) (by decide +kernel) rfl ?_
  refine hr.1 _ _ _ _ (by decide +kernel) ⟨_, rfl, by first | rfl | exact b2i_nar | rfl⟩ ?_ ?_
  · unfold r_X7_many; first | (simp only [if_neg e1_0, if_neg e1_1, if_neg e1_2, if_neg e1_3, if_neg e1_4, if_neg e1_5, if_neg e1_6, if_neg e1_7]; done) | (simp only [if_neg e1_0, if_neg e1_1, if_neg e1_2, if_neg e1_3, if_neg e1_4, if_neg e1_5, if_neg e1_6, if_neg e1_7]; rfl) | rfl
  · unfold w_X7_many; first | (simp only [if_neg e1_0, if_neg e1_1, if_neg e1_2, if_neg e1_3, if_neg e1_4, if_neg e1_5, if_neg e1_6, if_neg e1_7]; done) | (simp only [if_neg e1_0, if_neg e1_1, if_neg e1_2, if_neg e1_3, if_neg e1_4, if_neg e1_5, if_neg e1_6, if_neg e1_7]; rfl) | rfl
noncomputable def r_X7_feed (M : Mm) (a1 : Int64) (a2 : Int32) : Int32 := if a2 < 1 then (-1) else if a2 ≤ 8 then (if (r_X4_append M a1 a2) = 0 then (-2) else (w_X4_append M a1 a2).1 500 1) else (-1)
noncomputable def w_X7_feed (M : Mm) (a1 : Int64) (a2 : Int32) : Mm := if a2 < 1 then M else if a2 ≤ 8 then (w_X4_append M a1 a2) else M
def p_X7_feed (M : Mm) (a1 : Int64) (a2 : Int32) : Prop := (if a2 < 1 then True else (if a2 ≤ 8 then (p_X4_append M a1 a2) ∧ (if (r_X4_append M a1 a2) = 0 then True else True) else True))
theorem rnX7_feed {d : Nat} {M : Mm} {a1 : Int64} {a2 : Int32}  (hp : p_X7_feed M a1 a2) : Rn (d + 1) mX7_feed [.ref 1, .long a1, .int a2] M (some (.int (r_X7_feed M a1 a2))) (w_X7_feed M a1 a2) := by
  refine Rn.of [some (.ref 1), some (.long a1), none, some (.int a2)] (by decide +kernel) rfl (Nat.le_of_ble_eq_true rfl) rfl (fun J g hr => ?_)
  unfold p_X7_feed at hp
  refine j_iload_n g (i := 3) (by decide +kernel) rfl ?_
  refine j_iconst g (n := 1) (1) (by decide +kernel) rfl ?_
  refine j_icmp_lt g (off := 9) (tgt := 11) (by decide +kernel) (by decide) (fun c2 => ?_) (fun c2 => ?_)
  · rw [if_pos (show a2 < 1 from c2)] at hp
    refine j_iconst g (n := -1) (-1) (by decide +kernel) rfl ?_
    refine hr.1 _ _ _ _ (by decide +kernel) ⟨_, rfl, by first | rfl | exact b2i_nar | decide +kernel⟩ ?_ ?_
    · unfold r_X7_feed; first | (simp only [if_pos (show a2 < 1 from c2)]; done) | (simp only [if_pos (show a2 < 1 from c2)]; rfl) | rfl
    · unfold w_X7_feed; first | (simp only [if_pos (show a2 < 1 from c2)]; done) | (simp only [if_pos (show a2 < 1 from c2)]; rfl) | rfl
  · rw [if_neg (show ¬ (a2 < 1) from c2)] at hp
    refine j_iload_n g (i := 3) (by decide +kernel) rfl ?_
    refine j_bipush g (n := 8) (8) (by decide +kernel) (by decide +kernel) ?_
    refine j_icmp_le g (off := 5) (tgt := 13) (by decide +kernel) (by decide) (fun c8 => ?_) (fun c8 => ?_)
    · rw [if_pos (show a2 ≤ 8 from c8)] at hp
      refine j_aload_n g (i := 0) (by decide +kernel) rfl ?_
      refine j_gA g (b := 500) f7_33 (by decide +kernel) (by decide +kernel) (by decide +kernel) (by decide +kernel) ?_
      refine j_lload_n g (i := 1) (by decide +kernel) rfl ?_
      refine j_iload_n g (i := 3) (by decide +kernel) rfl ?_
      obtain ⟨h0, hp⟩ := hp
      refine j_cV2r g v7_63 ⟨rfl, by decide⟩ (by decide +kernel) (by decide +kernel) (Nat.le_of_ble_eq_true rfl) (rnX4_append h0) ?_
      refine j_if_eq g (off := 13) (tgt := 35) (by decide +kernel) (by decide) (fun c22 => ?_) (fun c22 => ?_)
      · rw [if_pos (show (r_X4_append M a1 a2) = 0 from c22)] at hp
        refine j_bipush g (n := -2) (-2) (by decide +kernel) (by decide +kernel) ?_
        refine hr.1 _ _ _ _ (by decide +kernel) ⟨_, rfl, by first | rfl | exact b2i_nar | decide +kernel⟩ ?_ ?_
        · unfold r_X7_feed; first | (simp only [if_neg (show ¬ (a2 < 1) from c2), if_pos (show a2 ≤ 8 from c8), if_pos (show (r_X4_append M a1 a2) = 0 from c22)]; done) | (simp only [if_neg (show ¬ (a2 < 1) from c2), if_pos (show a2 ≤ 8 from c8), if_pos (show (r_X4_append M a1 a2) = 0 from c22)]; rfl) | rfl
        · unfold w_X7_feed; first | (simp only [if_neg (show ¬ (a2 < 1) from c2), if_pos (show a2 ≤ 8 from c8), if_pos (show (r_X4_append M a1 a2) = 0 from c22)]; done) | (simp only [if_neg (show ¬ (a2 < 1) from c2), if_pos (show a2 ≤ 8 from c8), if_pos (show (r_X4_append M a1 a2) = 0 from c22)]; rfl) | rfl
      · rw [if_neg (show ¬ ((r_X4_append M a1 a2) = 0) from c22)] at hp
        refine j_aload_n g (i := 0) (by decide +kernel) rfl ?_
        refine j_gA g (b := 500) f7_33 (by decide +kernel) (by decide +kernel) (by decide +kernel) (by decide +kernel) ?_
        refine j_gI g f7_67 (by decide +kernel) (by decide +kernel) (by decide +kernel) ?_
        refine j_goto g (off := 5) (tgt := 37) (by decide +kernel) (by decide) ?_
        refine hr.1 _ _ _ _ (by decide +kernel) ⟨_, rfl, by first | rfl | exact b2i_nar | decide +kernel⟩ ?_ ?_
        · unfold r_X7_feed; first | (simp only [if_neg (show ¬ (a2 < 1) from c2), if_pos (show a2 ≤ 8 from c8), if_neg (show ¬ ((r_X4_append M a1 a2) = 0) from c22)]; done) | (simp only [if_neg (show ¬ (a2 < 1) from c2), if_pos (show a2 ≤ 8 from c8), if_neg (show ¬ ((r_X4_append M a1 a2) = 0) from c22)]; rfl) | rfl
        · unfold w_X7_feed; first | (simp only [if_neg (show ¬ (a2 < 1) from c2), if_pos (show a2 ≤ 8 from c8), if_neg (show ¬ ((r_X4_append M a1 a2) = 0) from c22)]; done) | (simp only [if_neg (show ¬ (a2 < 1) from c2), if_pos (show a2 ≤ 8 from c8), if_neg (show ¬ ((r_X4_append M a1 a2) = 0) from c22)]; rfl) | rfl
    · rw [if_neg (show ¬ (a2 ≤ 8) from c8)] at hp
      refine j_iconst g (n := -1) (-1) (by decide +kernel) rfl ?_
      refine hr.1 _ _ _ _ (by decide +kernel) ⟨_, rfl, by first | rfl | exact b2i_nar | decide +kernel⟩ ?_ ?_
      · unfold r_X7_feed; first | (simp only [if_neg (show ¬ (a2 < 1) from c2), if_neg (show ¬ (a2 ≤ 8) from c8)]; done) | (simp only [if_neg (show ¬ (a2 < 1) from c2), if_neg (show ¬ (a2 ≤ 8) from c8)]; rfl) | rfl
      · unfold w_X7_feed; first | (simp only [if_neg (show ¬ (a2 < 1) from c2), if_neg (show ¬ (a2 ≤ 8) from c8)]; done) | (simp only [if_neg (show ¬ (a2 < 1) from c2), if_neg (show ¬ (a2 ≤ 8) from c8)]; rfl) | rfl
noncomputable def r_X7_sheet (M : Mm) (a1 : Int32) (a2 : Int32) (a3 : Int32) : Int32 := if (b2i (0 ≤ a1 ∧ a1 < 4)) = 0 then (-1) else if ¬ (b2i ((-1) ≤ a2 ∧ a2 ≤ 3)) = 0 then (if ¬ a2 = (-1) then (if a3 ≤ 40 then (if 0 ≤ a3 then 1 else (-14)) else (-1)) else 1) else (-1)
noncomputable def w_X7_sheet (M : Mm) (a1 : Int32) (a2 : Int32) (a3 : Int32) : Mm := if (b2i (0 ≤ a1 ∧ a1 < 4)) = 0 then M else if ¬ (b2i ((-1) ≤ a2 ∧ a2 ≤ 3)) = 0 then (if ¬ a2 = (-1) then (if a3 ≤ 40 then (if 0 ≤ a3 then (w_X1_makeRow M a1 a2 a3) else M) else M) else (w_X1_makeRow M a1 a2 0)) else M
def p_X7_sheet (M : Mm) (a1 : Int32) (a2 : Int32) (a3 : Int32) : Prop := (if (b2i (0 ≤ a1 ∧ a1 < 4)) = 0 then True else (if ¬ (b2i ((-1) ≤ a2 ∧ a2 ≤ 3)) = 0 then (if ¬ a2 = (-1) then (if a3 ≤ 40 then (if 0 ≤ a3 then (p_X1_makeRow M a1 a2 a3) ∧ True else True) else True) else (p_X1_makeRow M a1 a2 0) ∧ True) else True))
theorem rnX7_sheet {d : Nat} {M : Mm} {a1 : Int32} {a2 : Int32} {a3 : Int32}  (hp : p_X7_sheet M a1 a2 a3) : Rn (d + 1) mX7_sheet [.ref 1, .int a1, .int a2, .int a3] M (some (.int (r_X7_sheet M a1 a2 a3))) (w_X7_sheet M a1 a2 a3) := by
  refine Rn.of [some (.ref 1), some (.int a1), some (.int a2), some (.int a3)] (by decide +kernel) rfl (Nat.le_of_ble_eq_true rfl) rfl (fun J g hr => ?_)
  unfold p_X7_sheet at hp
  refine j_iload_n g (i := 1) (by decide +kernel) rfl ?_
  refine j_cS1r g s7_278 (by decide +kernel) (Nat.le_of_ble_eq_true rfl) (rnX1_isNumber) ?_
  refine j_if_eq g (off := 12) (tgt := 16) (by decide +kernel) (by decide) (fun c4 => ?_) (fun c4 => ?_)
  · rw [if_pos (show (b2i (0 ≤ a1 ∧ a1 < 4)) = 0 from c4)] at hp
    refine j_iconst g (n := -1) (-1) (by decide +kernel) rfl ?_
    refine hr.1 _ _ _ _ (by decide +kernel) ⟨_, rfl, by first | rfl | exact b2i_nar | decide +kernel⟩ ?_ ?_
    · unfold r_X7_sheet; first | (simp only [if_pos (show (b2i (0 ≤ a1 ∧ a1 < 4)) = 0 from c4)]; done) | (simp only [if_pos (show (b2i (0 ≤ a1 ∧ a1 < 4)) = 0 from c4)]; rfl) | rfl
    · unfold w_X7_sheet; first | (simp only [if_pos (show (b2i (0 ≤ a1 ∧ a1 < 4)) = 0 from c4)]; done) | (simp only [if_pos (show (b2i (0 ≤ a1 ∧ a1 < 4)) = 0 from c4)]; rfl) | rfl
  · rw [if_neg (show ¬ ((b2i (0 ≤ a1 ∧ a1 < 4)) = 0) from c4)] at hp
    refine j_iload_n g (i := 2) (by decide +kernel) rfl ?_
    refine j_iconst g (n := -1) (-1) (by decide +kernel) rfl ?_
    refine j_iconst g (n := 3) (3) (by decide +kernel) rfl ?_
    refine j_cS3r g s7_87 (by decide +kernel) (Nat.le_of_ble_eq_true rfl) (rnX7_isWithin) ?_
    refine j_if_ne g (off := 5) (tgt := 18) (by decide +kernel) (by decide) (fun c13 => ?_) (fun c13 => ?_)
    · rw [if_pos (show ¬ (b2i ((-1) ≤ a2 ∧ a2 ≤ 3)) = 0 from c13)] at hp
      refine j_iload_n g (i := 2) (by decide +kernel) rfl ?_
      refine j_iconst g (n := -1) (-1) (by decide +kernel) rfl ?_
      refine j_icmp_ne g (off := 15) (tgt := 35) (by decide +kernel) (by decide) (fun c20 => ?_) (fun c20 => ?_)
      · rw [if_pos (show ¬ a2 = (-1) from c20)] at hp
        refine j_iload_n g (i := 3) (by decide +kernel) rfl ?_
        refine j_bipush g (n := 40) (40) (by decide +kernel) (by decide +kernel) ?_
        refine j_icmp_le g (off := 5) (tgt := 43) (by decide +kernel) (by decide) (fun c38 => ?_) (fun c38 => ?_)
        · rw [if_pos (show a3 ≤ 40 from c38)] at hp
          refine j_iload_n g (i := 3) (by decide +kernel) rfl ?_
          refine j_if_ge g (off := 6) (tgt := 50) (by decide +kernel) (by decide) (fun c44 => ?_) (fun c44 => ?_)
          · rw [if_pos (show 0 ≤ a3 from c44)] at hp
            refine j_aload_n g (i := 0) (by decide +kernel) rfl ?_
            refine j_gA g (b := 530) f7_47 (by decide +kernel) (by decide +kernel) (by decide +kernel) (by decide +kernel) ?_
            refine j_iload_n g (i := 1) (by decide +kernel) rfl ?_
            refine j_iload_n g (i := 2) (by decide +kernel) rfl ?_
            refine j_iload_n g (i := 3) (by decide +kernel) rfl ?_
            obtain ⟨h0, hp⟩ := hp
            refine j_cV3v g v7_281 ⟨rfl, by decide⟩ (by decide +kernel) (by decide +kernel) (Nat.le_of_ble_eq_true rfl) (rnX1_makeRow h0) ?_
            refine j_iconst g (n := 1) (1) (by decide +kernel) rfl ?_
            refine hr.1 _ _ _ _ (by decide +kernel) ⟨_, rfl, by first | rfl | exact b2i_nar | decide +kernel⟩ ?_ ?_
            · unfold r_X7_sheet; first | (simp only [if_neg (show ¬ ((b2i (0 ≤ a1 ∧ a1 < 4)) = 0) from c4), if_pos (show ¬ (b2i ((-1) ≤ a2 ∧ a2 ≤ 3)) = 0 from c13), if_pos (show ¬ a2 = (-1) from c20), if_pos (show a3 ≤ 40 from c38), if_pos (show 0 ≤ a3 from c44)]; done) | (simp only [if_neg (show ¬ ((b2i (0 ≤ a1 ∧ a1 < 4)) = 0) from c4), if_pos (show ¬ (b2i ((-1) ≤ a2 ∧ a2 ≤ 3)) = 0 from c13), if_pos (show ¬ a2 = (-1) from c20), if_pos (show a3 ≤ 40 from c38), if_pos (show 0 ≤ a3 from c44)]; rfl) | rfl
            · unfold w_X7_sheet; first | (simp only [if_neg (show ¬ ((b2i (0 ≤ a1 ∧ a1 < 4)) = 0) from c4), if_pos (show ¬ (b2i ((-1) ≤ a2 ∧ a2 ≤ 3)) = 0 from c13), if_pos (show ¬ a2 = (-1) from c20), if_pos (show a3 ≤ 40 from c38), if_pos (show 0 ≤ a3 from c44)]; done) | (simp only [if_neg (show ¬ ((b2i (0 ≤ a1 ∧ a1 < 4)) = 0) from c4), if_pos (show ¬ (b2i ((-1) ≤ a2 ∧ a2 ≤ 3)) = 0 from c13), if_pos (show ¬ a2 = (-1) from c20), if_pos (show a3 ≤ 40 from c38), if_pos (show 0 ≤ a3 from c44)]; rfl) | rfl
          · rw [if_neg (show ¬ (0 ≤ a3) from c44)] at hp
            refine j_bipush g (n := -14) (-14) (by decide +kernel) (by decide +kernel) ?_
            refine hr.1 _ _ _ _ (by decide +kernel) ⟨_, rfl, by first | rfl | exact b2i_nar | decide +kernel⟩ ?_ ?_
            · unfold r_X7_sheet; first | (simp only [if_neg (show ¬ ((b2i (0 ≤ a1 ∧ a1 < 4)) = 0) from c4), if_pos (show ¬ (b2i ((-1) ≤ a2 ∧ a2 ≤ 3)) = 0 from c13), if_pos (show ¬ a2 = (-1) from c20), if_pos (show a3 ≤ 40 from c38), if_neg (show ¬ (0 ≤ a3) from c44)]; done) | (simp only [if_neg (show ¬ ((b2i (0 ≤ a1 ∧ a1 < 4)) = 0) from c4), if_pos (show ¬ (b2i ((-1) ≤ a2 ∧ a2 ≤ 3)) = 0 from c13), if_pos (show ¬ a2 = (-1) from c20), if_pos (show a3 ≤ 40 from c38), if_neg (show ¬ (0 ≤ a3) from c44)]; rfl) | rfl
            · unfold w_X7_sheet; first | (simp only [if_neg (show ¬ ((b2i (0 ≤ a1 ∧ a1 < 4)) = 0) from c4), if_pos (show ¬ (b2i ((-1) ≤ a2 ∧ a2 ≤ 3)) = 0 from c13), if_pos (show ¬ a2 = (-1) from c20), if_pos (show a3 ≤ 40 from c38), if_neg (show ¬ (0 ≤ a3) from c44)]; done) | (simp only [if_neg (show ¬ ((b2i (0 ≤ a1 ∧ a1 < 4)) = 0) from c4), if_pos (show ¬ (b2i ((-1) ≤ a2 ∧ a2 ≤ 3)) = 0 from c13), if_pos (show ¬ a2 = (-1) from c20), if_pos (show a3 ≤ 40 from c38), if_neg (show ¬ (0 ≤ a3) from c44)]; rfl) | rfl
        · rw [if_neg (show ¬ (a3 ≤ 40) from c38)] at hp
          refine j_iconst g (n := -1) (-1) (by decide +kernel) rfl ?_
          refine hr.1 _ _ _ _ (by decide +kernel) ⟨_, rfl, by first | rfl | exact b2i_nar | decide +kernel⟩ ?_ ?_
          · unfold r_X7_sheet; first | (simp only [if_neg (show ¬ ((b2i (0 ≤ a1 ∧ a1 < 4)) = 0) from c4), if_pos (show ¬ (b2i ((-1) ≤ a2 ∧ a2 ≤ 3)) = 0 from c13), if_pos (show ¬ a2 = (-1) from c20), if_neg (show ¬ (a3 ≤ 40) from c38)]; done) | (simp only [if_neg (show ¬ ((b2i (0 ≤ a1 ∧ a1 < 4)) = 0) from c4), if_pos (show ¬ (b2i ((-1) ≤ a2 ∧ a2 ≤ 3)) = 0 from c13), if_pos (show ¬ a2 = (-1) from c20), if_neg (show ¬ (a3 ≤ 40) from c38)]; rfl) | rfl
          · unfold w_X7_sheet; first | (simp only [if_neg (show ¬ ((b2i (0 ≤ a1 ∧ a1 < 4)) = 0) from c4), if_pos (show ¬ (b2i ((-1) ≤ a2 ∧ a2 ≤ 3)) = 0 from c13), if_pos (show ¬ a2 = (-1) from c20), if_neg (show ¬ (a3 ≤ 40) from c38)]; done) | (simp only [if_neg (show ¬ ((b2i (0 ≤ a1 ∧ a1 < 4)) = 0) from c4), if_pos (show ¬ (b2i ((-1) ≤ a2 ∧ a2 ≤ 3)) = 0 from c13), if_pos (show ¬ a2 = (-1) from c20), if_neg (show ¬ (a3 ≤ 40) from c38)]; rfl) | rfl
      · rw [if_neg (show ¬ (¬ a2 = (-1)) from c20)] at hp
        refine j_aload_n g (i := 0) (by decide +kernel) rfl ?_
        refine j_gA g (b := 530) f7_47 (by decide +kernel) (by decide +kernel) (by decide +kernel) (by decide +kernel) ?_
        refine j_iload_n g (i := 1) (by decide +kernel) rfl ?_
        refine j_iload_n g (i := 2) (by decide +kernel) rfl ?_
        refine j_iconst g (n := 0) (0) (by decide +kernel) rfl ?_
        obtain ⟨h0, hp⟩ := hp
        refine j_cV3v g v7_281 ⟨rfl, by decide⟩ (by decide +kernel) (by decide +kernel) (Nat.le_of_ble_eq_true rfl) (rnX1_makeRow h0) ?_
        refine j_iconst g (n := 1) (1) (by decide +kernel) rfl ?_
        refine hr.1 _ _ _ _ (by decide +kernel) ⟨_, rfl, by first | rfl | exact b2i_nar | decide +kernel⟩ ?_ ?_
        · unfold r_X7_sheet; first | (simp only [if_neg (show ¬ ((b2i (0 ≤ a1 ∧ a1 < 4)) = 0) from c4), if_pos (show ¬ (b2i ((-1) ≤ a2 ∧ a2 ≤ 3)) = 0 from c13), if_neg (show ¬ (¬ a2 = (-1)) from c20)]; done) | (simp only [if_neg (show ¬ ((b2i (0 ≤ a1 ∧ a1 < 4)) = 0) from c4), if_pos (show ¬ (b2i ((-1) ≤ a2 ∧ a2 ≤ 3)) = 0 from c13), if_neg (show ¬ (¬ a2 = (-1)) from c20)]; rfl) | rfl
        · unfold w_X7_sheet; first | (simp only [if_neg (show ¬ ((b2i (0 ≤ a1 ∧ a1 < 4)) = 0) from c4), if_pos (show ¬ (b2i ((-1) ≤ a2 ∧ a2 ≤ 3)) = 0 from c13), if_neg (show ¬ (¬ a2 = (-1)) from c20)]; done) | (simp only [if_neg (show ¬ ((b2i (0 ≤ a1 ∧ a1 < 4)) = 0) from c4), if_pos (show ¬ (b2i ((-1) ≤ a2 ∧ a2 ≤ 3)) = 0 from c13), if_neg (show ¬ (¬ a2 = (-1)) from c20)]; rfl) | rfl
    · rw [if_neg (show ¬ (¬ (b2i ((-1) ≤ a2 ∧ a2 ≤ 3)) = 0) from c13)] at hp
      refine j_iconst g (n := -1) (-1) (by decide +kernel) rfl ?_
      refine hr.1 _ _ _ _ (by decide +kernel) ⟨_, rfl, by first | rfl | exact b2i_nar | decide +kernel⟩ ?_ ?_
      · unfold r_X7_sheet; first | (simp only [if_neg (show ¬ ((b2i (0 ≤ a1 ∧ a1 < 4)) = 0) from c4), if_neg (show ¬ (¬ (b2i ((-1) ≤ a2 ∧ a2 ≤ 3)) = 0) from c13)]; done) | (simp only [if_neg (show ¬ ((b2i (0 ≤ a1 ∧ a1 < 4)) = 0) from c4), if_neg (show ¬ (¬ (b2i ((-1) ≤ a2 ∧ a2 ≤ 3)) = 0) from c13)]; rfl) | rfl
      · unfold w_X7_sheet; first | (simp only [if_neg (show ¬ ((b2i (0 ≤ a1 ∧ a1 < 4)) = 0) from c4), if_neg (show ¬ (¬ (b2i ((-1) ≤ a2 ∧ a2 ≤ 3)) = 0) from c13)]; done) | (simp only [if_neg (show ¬ ((b2i (0 ≤ a1 ∧ a1 < 4)) = 0) from c4), if_neg (show ¬ (¬ (b2i ((-1) ≤ a2 ∧ a2 ≤ 3)) = 0) from c13)]; rfl) | rfl
def c_X7_dues_39 (a1 : Int32) (x2 : Int32) (x3 : Int32) (σ : Mm × Int32) : Prop := if x3 ≤ σ.2 then False else True
theorem ci_X7_dues_39 {a1 : Int32} {x2 : Int32} {x3 : Int32} {σ : Mm × Int32} : c_X7_dues_39 a1 x2 x3 σ ↔ (if x3 ≤ σ.2 then False else True) := Iff.rfl
noncomputable def s_X7_dues_39 (a1 : Int32) (x2 : Int32) (x3 : Int32) (σ : Mm × Int32) : Mm × Int32 := if x3 ≤ σ.2 then σ else ((wi σ.1 (110 + Int32.toNatClampNeg σ.2) 4 (if 0 < (if (Int64.toInt32 (σ.1.2 (534 + Int32.toNatClampNeg a1) (Int32.toNatClampNeg σ.2))) < 999 then (Int64.toInt32 (σ.1.2 (534 + Int32.toNatClampNeg a1) (Int32.toNatClampNeg σ.2))) else 999) then (if (Int64.toInt32 (σ.1.2 (534 + Int32.toNatClampNeg a1) (Int32.toNatClampNeg σ.2))) < 999 then (Int64.toInt32 (σ.1.2 (534 + Int32.toNatClampNeg a1) (Int32.toNatClampNeg σ.2))) else 999) else 0)), σ.2 + 1)
def q_X7_dues_39 (a1 : Int32) (x2 : Int32) (x3 : Int32) (σ : Mm × Int32) : Prop := (if x3 ≤ σ.2 then True else (vp_in a1 4) ∧ (vp_in σ.2 40) ∧ (vp_in σ.2 6) ∧ True)
noncomputable def l_X7_dues_39 (a1 : Int32) (x2 : Int32) (x3 : Int32) (σ0 : Mm × Int32) : Nat → Mm × Int32 := itN (fun _ σ => s_X7_dues_39 a1 x2 x3 σ) σ0
theorem ps_X7_dues_39 {d : Nat} {J : Nat → Lc → List Value → Mm → Prop} {a1 : Int32} {x2 : Int32} {x3 : Int32} {σ : Mm × Int32}  (g : Good mX7_dues.1 mX7_dues.2.2.1 mX7_dues.2.2.2.1 (d + 2) J) (hc : c_X7_dues_39 a1 x2 x3 σ) (hp : q_X7_dues_39 a1 x2 x3 σ) (k : ∀ (j5 : Option Value), J 39 [some (.ref 1), some (.int a1), some (.int x2), some (.int x3), some (.int ((s_X7_dues_39 a1 x2 x3 σ).2)), j5] [] ((s_X7_dues_39 a1 x2 x3 σ).1)) : ∀ (j5 : Option Value), J 39 [some (.ref 1), some (.int a1), some (.int x2), some (.int x3), some (.int σ.2), j5] [] σ.1 := by
  intro j5
  unfold c_X7_dues_39 at hc
  unfold q_X7_dues_39 at hp
  unfold s_X7_dues_39 at k
  refine j_iload g (i := 4) (by decide +kernel) rfl ?_
  refine j_iload_n g (i := 3) (by decide +kernel) rfl ?_
  refine j_icmp_ge g (off := 49) (tgt := 91) (by decide +kernel) (by decide) (fun c42 => ?_) (fun c42 => ?_)
  · (try rw [if_pos (show x3 ≤ σ.2 from c42)] at hc); (rw [if_pos (show x3 ≤ σ.2 from c42)] at hp); (try simp only [if_pos (show x3 ≤ σ.2 from c42)] at k)
    exact hc.elim
  · (try rw [if_neg (show ¬ (x3 ≤ σ.2) from c42)] at hc); (rw [if_neg (show ¬ (x3 ≤ σ.2) from c42)] at hp); (try simp only [if_neg (show ¬ (x3 ≤ σ.2) from c42)] at k)
    refine j_aload_n g (i := 0) (by decide +kernel) rfl ?_
    refine j_gA g (b := 530) f7_47 (by decide +kernel) (by decide +kernel) (by decide +kernel) (by decide +kernel) ?_
    refine j_gA g (b := 533) f7_271 (by decide +kernel) (by decide +kernel) (by decide +kernel) (by decide +kernel) ?_
    refine j_iload_n g (i := 1) (by decide +kernel) rfl ?_
    obtain ⟨h0, hp⟩ := hp
    refine j_aR g 4 (by decide +kernel) (by decide +kernel) (by decide +kernel) h0 (rfR h0) ?_
    have hw53 := h0
    refine j_iload g (i := 4) (by decide +kernel) rfl ?_
    obtain ⟨h0, hp⟩ := hp
    refine j_la g 40 (by decide +kernel) (gkR hw53) (glR hw53) h0 ?_
    refine j_l2i g (by decide +kernel) ?_
    refine j_istore g (i := 5) (by decide +kernel) (by decide) ?_
    dsimp only [stL, clL, hdL]
    refine j_aload_n g (i := 0) (by decide +kernel) rfl ?_
    refine j_gA g (b := 100) f7_20 (by decide +kernel) (by decide +kernel) (by decide +kernel) (by decide +kernel) ?_
    refine j_gA g (b := 103) f7_121 (by decide +kernel) (by decide +kernel) (by decide +kernel) (by decide +kernel) ?_
    refine j_iload g (i := 4) (by decide +kernel) rfl ?_
    obtain ⟨h0, hp⟩ := hp
    refine j_aW g 6 (by decide +kernel) (by decide +kernel) (by decide +kernel) h0 (rfW103 h0) ?_
    have hw69 := h0
    refine j_iconst g (n := 0) (0) (by decide +kernel) rfl ?_
    refine j_sipush g (n := 999) (999) (by decide +kernel) (by decide +kernel) ?_
    refine j_iload g (i := 5) (by decide +kernel) rfl ?_
    refine j_mmin g (by omega) (Nat.le_of_ble_eq_true rfl) t7_266 (by decide +kernel) ?_
    refine j_mmax g (by omega) (Nat.le_of_ble_eq_true rfl) t7_275 (by decide +kernel) ?_
    refine j_pI g f7_149 (fun q h => by cases h; rfl) (by decide +kernel) (by decide +kernel) (gkW103 hw69) ?_
    refine j_iinc g (i := 4) (n := 1) (1) (by decide +kernel) rfl (by decide) rfl ?_
    dsimp only [stL, clL, hdL]
    refine j_goto g (off := -49) (tgt := 39) (by decide +kernel) (by decide) ?_
    exact k _
theorem sh_X7_dues_39 {d : Nat} {J : Nat → Lc → List Value → Mm → Prop} {a1 : Int32} {x2 : Int32} {x3 : Int32} {σ0 : Mm × Int32}  (g : Good mX7_dues.1 mX7_dues.2.2.1 mX7_dues.2.2.2.1 (d + 2) J) : ∀ (N : Nat), (∀ k, k < N → c_X7_dues_39 a1 x2 x3 (l_X7_dues_39 a1 x2 x3 σ0 k)) → (∀ k, k < N → q_X7_dues_39 a1 x2 x3 (l_X7_dues_39 a1 x2 x3 σ0 k)) → (∀ (j5 : Option Value), J 39 [some (.ref 1), some (.int a1), some (.int x2), some (.int x3), some (.int ((l_X7_dues_39 a1 x2 x3 σ0 N).2)), j5] [] ((l_X7_dues_39 a1 x2 x3 σ0 N).1)) → ∀ (j5 : Option Value), J 39 [some (.ref 1), some (.int a1), some (.int x2), some (.int x3), some (.int σ0.2), j5] [] σ0.1
  | 0, _, _, k => k
  | N + 1, hc, hp, k => sh_X7_dues_39  g N (fun i hi => hc i (Nat.lt_succ_of_lt hi)) (fun i hi => hp i (Nat.lt_succ_of_lt hi)) (ps_X7_dues_39  g (hc N (Nat.lt_succ_self N)) (hp N (Nat.lt_succ_self N)) k)
noncomputable def r_X7_dues (M : Mm) (a1 : Int32) : Int32 := if 0 ≤ (r_X1_refusalOf M a1 2) then (if (if (M.1 100 2) < (M.1 532 (Int32.toNatClampNeg a1)) then (M.1 100 2) else (M.1 532 (Int32.toNatClampNeg a1))) ≤ ((l_X7_dues_39 a1 (r_X1_refusalOf M a1 2) (if (M.1 100 2) < (M.1 532 (Int32.toNatClampNeg a1)) then (M.1 100 2) else (M.1 532 (Int32.toNatClampNeg a1))) (M, 0) (Int32.toNatClampNeg ((if (M.1 100 2) < (M.1 532 (Int32.toNatClampNeg a1)) then (M.1 100 2) else (M.1 532 (Int32.toNatClampNeg a1)))))).2) then (if (M.1 100 2) < (M.1 532 (Int32.toNatClampNeg a1)) then (M.1 100 2) else (M.1 532 (Int32.toNatClampNeg a1))) else 0) else r_X1_refusalOf M a1 2
noncomputable def w_X7_dues (M : Mm) (a1 : Int32) : Mm := if 0 ≤ (r_X1_refusalOf M a1 2) then (if (if (M.1 100 2) < (M.1 532 (Int32.toNatClampNeg a1)) then (M.1 100 2) else (M.1 532 (Int32.toNatClampNeg a1))) ≤ ((l_X7_dues_39 a1 (r_X1_refusalOf M a1 2) (if (M.1 100 2) < (M.1 532 (Int32.toNatClampNeg a1)) then (M.1 100 2) else (M.1 532 (Int32.toNatClampNeg a1))) (M, 0) (Int32.toNatClampNeg ((if (M.1 100 2) < (M.1 532 (Int32.toNatClampNeg a1)) then (M.1 100 2) else (M.1 532 (Int32.toNatClampNeg a1)))))).2) then (l_X7_dues_39 a1 (r_X1_refusalOf M a1 2) (if (M.1 100 2) < (M.1 532 (Int32.toNatClampNeg a1)) then (M.1 100 2) else (M.1 532 (Int32.toNatClampNeg a1))) (M, 0) (Int32.toNatClampNeg ((if (M.1 100 2) < (M.1 532 (Int32.toNatClampNeg a1)) then (M.1 100 2) else (M.1 532 (Int32.toNatClampNeg a1)))))).1 else M) else M
def p_X7_dues (M : Mm) (a1 : Int32) : Prop := (p_X1_refusalOf M a1 2) ∧ (if 0 ≤ (r_X1_refusalOf M a1 2) then (vp_in a1 4) ∧ (∀ k, k < (Int32.toNatClampNeg ((if (M.1 100 2) < (M.1 532 (Int32.toNatClampNeg a1)) then (M.1 100 2) else (M.1 532 (Int32.toNatClampNeg a1))))) → c_X7_dues_39 a1 (r_X1_refusalOf M a1 2) (if (M.1 100 2) < (M.1 532 (Int32.toNatClampNeg a1)) then (M.1 100 2) else (M.1 532 (Int32.toNatClampNeg a1))) (l_X7_dues_39 a1 (r_X1_refusalOf M a1 2) (if (M.1 100 2) < (M.1 532 (Int32.toNatClampNeg a1)) then (M.1 100 2) else (M.1 532 (Int32.toNatClampNeg a1))) (M, 0) k)) ∧ (∀ k, k < (Int32.toNatClampNeg ((if (M.1 100 2) < (M.1 532 (Int32.toNatClampNeg a1)) then (M.1 100 2) else (M.1 532 (Int32.toNatClampNeg a1))))) → q_X7_dues_39 a1 (r_X1_refusalOf M a1 2) (if (M.1 100 2) < (M.1 532 (Int32.toNatClampNeg a1)) then (M.1 100 2) else (M.1 532 (Int32.toNatClampNeg a1))) (l_X7_dues_39 a1 (r_X1_refusalOf M a1 2) (if (M.1 100 2) < (M.1 532 (Int32.toNatClampNeg a1)) then (M.1 100 2) else (M.1 532 (Int32.toNatClampNeg a1))) (M, 0) k)) ∧ (¬ c_X7_dues_39 a1 (r_X1_refusalOf M a1 2) (if (M.1 100 2) < (M.1 532 (Int32.toNatClampNeg a1)) then (M.1 100 2) else (M.1 532 (Int32.toNatClampNeg a1))) (l_X7_dues_39 a1 (r_X1_refusalOf M a1 2) (if (M.1 100 2) < (M.1 532 (Int32.toNatClampNeg a1)) then (M.1 100 2) else (M.1 532 (Int32.toNatClampNeg a1))) (M, 0) (Int32.toNatClampNeg ((if (M.1 100 2) < (M.1 532 (Int32.toNatClampNeg a1)) then (M.1 100 2) else (M.1 532 (Int32.toNatClampNeg a1))))))) ∧ (if (if (M.1 100 2) < (M.1 532 (Int32.toNatClampNeg a1)) then (M.1 100 2) else (M.1 532 (Int32.toNatClampNeg a1))) ≤ ((l_X7_dues_39 a1 (r_X1_refusalOf M a1 2) (if (M.1 100 2) < (M.1 532 (Int32.toNatClampNeg a1)) then (M.1 100 2) else (M.1 532 (Int32.toNatClampNeg a1))) (M, 0) (Int32.toNatClampNeg ((if (M.1 100 2) < (M.1 532 (Int32.toNatClampNeg a1)) then (M.1 100 2) else (M.1 532 (Int32.toNatClampNeg a1)))))).2) then True else (vp_in a1 4) ∧ (vp_in ((l_X7_dues_39 a1 (r_X1_refusalOf M a1 2) (if (M.1 100 2) < (M.1 532 (Int32.toNatClampNeg a1)) then (M.1 100 2) else (M.1 532 (Int32.toNatClampNeg a1))) (M, 0) (Int32.toNatClampNeg ((if (M.1 100 2) < (M.1 532 (Int32.toNatClampNeg a1)) then (M.1 100 2) else (M.1 532 (Int32.toNatClampNeg a1)))))).2) 40) ∧ (vp_in ((l_X7_dues_39 a1 (r_X1_refusalOf M a1 2) (if (M.1 100 2) < (M.1 532 (Int32.toNatClampNeg a1)) then (M.1 100 2) else (M.1 532 (Int32.toNatClampNeg a1))) (M, 0) (Int32.toNatClampNeg ((if (M.1 100 2) < (M.1 532 (Int32.toNatClampNeg a1)) then (M.1 100 2) else (M.1 532 (Int32.toNatClampNeg a1)))))).2) 6) ∧ True) else True)
theorem rnX7_dues {d : Nat} {M : Mm} {a1 : Int32}  (hp : p_X7_dues M a1) : Rn (d + 2) mX7_dues [.ref 1, .int a1] M (some (.int (r_X7_dues M a1))) (w_X7_dues M a1) := by
  refine Rn.of [some (.ref 1), some (.int a1), none, none, none, none] (by decide +kernel) rfl (Nat.le_of_ble_eq_true rfl) rfl (fun J g hr => ?_)
  unfold p_X7_dues at hp
  refine j_aload_n g (i := 0) (by decide +kernel) rfl ?_
  refine j_gA g (b := 530) f7_47 (by decide +kernel) (by decide +kernel) (by decide +kernel) (by decide +kernel) ?_
  refine j_iload_n g (i := 1) (by decide +kernel) rfl ?_
  refine j_iconst g (n := 2) (2) (by decide +kernel) rfl ?_
  obtain ⟨h0, hp⟩ := hp
  refine j_cV2r g v7_260 ⟨rfl, by decide⟩ (by decide +kernel) (by decide +kernel) (Nat.le_of_ble_eq_true rfl) (rnX1_refusalOf h0) ?_
  refine j_istore_n g (i := 2) (by decide +kernel) (by decide) ?_
  dsimp only [stL, clL, hdL]
  refine j_iload_n g (i := 2) (by decide +kernel) rfl ?_
  refine j_if_ge g (off := 5) (tgt := 16) (by decide +kernel) (by decide) (fun c11 => ?_) (fun c11 => ?_)
  · rw [if_pos (show 0 ≤ (r_X1_refusalOf M a1 2) from c11)] at hp
    refine j_aload_n g (i := 0) (by decide +kernel) rfl ?_
    refine j_gA g (b := 530) f7_47 (by decide +kernel) (by decide +kernel) (by decide +kernel) (by decide +kernel) ?_
    refine j_gA g (b := 532) f7_263 (by decide +kernel) (by decide +kernel) (by decide +kernel) (by decide +kernel) ?_
    refine j_iload_n g (i := 1) (by decide +kernel) rfl ?_
    obtain ⟨h0, hp⟩ := hp
    refine j_ia g 4 (by decide +kernel) (by decide +kernel) (by decide +kernel) h0 ?_
    refine j_aload_n g (i := 0) (by decide +kernel) rfl ?_
    refine j_gA g (b := 100) f7_20 (by decide +kernel) (by decide +kernel) (by decide +kernel) (by decide +kernel) ?_
    refine j_gI g f7_84 (by decide +kernel) (by decide +kernel) (by decide +kernel) ?_
    refine j_mmin g (by omega) (Nat.le_of_ble_eq_true rfl) t7_266 (by decide +kernel) ?_
    refine j_istore_n g (i := 3) (by decide +kernel) (by decide) ?_
    dsimp only [stL, clL, hdL]
    refine j_iconst g (n := 0) (0) (by decide +kernel) rfl ?_
    refine j_istore g (i := 4) (by decide +kernel) (by decide) ?_
    dsimp only [stL, clL, hdL]
    obtain ⟨h0, hp⟩ := hp
    have hc_39_1 := h0
    obtain ⟨h0, hp⟩ := hp
    have hq_39_1 := h0
    obtain ⟨h0, hp⟩ := hp
    have hx_39_1 := h0
    refine sh_X7_dues_39 (x2 := (r_X1_refusalOf M a1 2)) (x3 := (if (M.1 100 2) < (M.1 532 (Int32.toNatClampNeg a1)) then (M.1 100 2) else (M.1 532 (Int32.toNatClampNeg a1))))  g (σ0 := (M, 0)) (Int32.toNatClampNeg ((if (M.1 100 2) < (M.1 532 (Int32.toNatClampNeg a1)) then (M.1 100 2) else (M.1 532 (Int32.toNatClampNeg a1))))) hc_39_1 hq_39_1 ?_ _
    intro j5_1
    refine j_iload g (i := 4) (by decide +kernel) rfl ?_
    refine j_iload_n g (i := 3) (by decide +kernel) rfl ?_
    refine j_icmp_ge g (off := 49) (tgt := 91) (by decide +kernel) (by decide) (fun c42 => ?_) (fun c42 => ?_)
    · rw [if_pos (show (if (M.1 100 2) < (M.1 532 (Int32.toNatClampNeg a1)) then (M.1 100 2) else (M.1 532 (Int32.toNatClampNeg a1))) ≤ ((l_X7_dues_39 a1 (r_X1_refusalOf M a1 2) (if (M.1 100 2) < (M.1 532 (Int32.toNatClampNeg a1)) then (M.1 100 2) else (M.1 532 (Int32.toNatClampNeg a1))) (M, 0) (Int32.toNatClampNeg ((if (M.1 100 2) < (M.1 532 (Int32.toNatClampNeg a1)) then (M.1 100 2) else (M.1 532 (Int32.toNatClampNeg a1)))))).2) from c42)] at hp
      refine j_iload_n g (i := 3) (by decide +kernel) rfl ?_
      refine hr.1 _ _ _ _ (by decide +kernel) ⟨_, rfl, by first | rfl | exact b2i_nar | decide +kernel⟩ ?_ ?_
      · unfold r_X7_dues; first | (simp only [if_pos (show 0 ≤ (r_X1_refusalOf M a1 2) from c11), if_pos (show (if (M.1 100 2) < (M.1 532 (Int32.toNatClampNeg a1)) then (M.1 100 2) else (M.1 532 (Int32.toNatClampNeg a1))) ≤ ((l_X7_dues_39 a1 (r_X1_refusalOf M a1 2) (if (M.1 100 2) < (M.1 532 (Int32.toNatClampNeg a1)) then (M.1 100 2) else (M.1 532 (Int32.toNatClampNeg a1))) (M, 0) (Int32.toNatClampNeg ((if (M.1 100 2) < (M.1 532 (Int32.toNatClampNeg a1)) then (M.1 100 2) else (M.1 532 (Int32.toNatClampNeg a1)))))).2) from c42)]; done) | (simp only [if_pos (show 0 ≤ (r_X1_refusalOf M a1 2) from c11), if_pos (show (if (M.1 100 2) < (M.1 532 (Int32.toNatClampNeg a1)) then (M.1 100 2) else (M.1 532 (Int32.toNatClampNeg a1))) ≤ ((l_X7_dues_39 a1 (r_X1_refusalOf M a1 2) (if (M.1 100 2) < (M.1 532 (Int32.toNatClampNeg a1)) then (M.1 100 2) else (M.1 532 (Int32.toNatClampNeg a1))) (M, 0) (Int32.toNatClampNeg ((if (M.1 100 2) < (M.1 532 (Int32.toNatClampNeg a1)) then (M.1 100 2) else (M.1 532 (Int32.toNatClampNeg a1)))))).2) from c42)]; rfl) | rfl
      · unfold w_X7_dues; first | (simp only [if_pos (show 0 ≤ (r_X1_refusalOf M a1 2) from c11), if_pos (show (if (M.1 100 2) < (M.1 532 (Int32.toNatClampNeg a1)) then (M.1 100 2) else (M.1 532 (Int32.toNatClampNeg a1))) ≤ ((l_X7_dues_39 a1 (r_X1_refusalOf M a1 2) (if (M.1 100 2) < (M.1 532 (Int32.toNatClampNeg a1)) then (M.1 100 2) else (M.1 532 (Int32.toNatClampNeg a1))) (M, 0) (Int32.toNatClampNeg ((if (M.1 100 2) < (M.1 532 (Int32.toNatClampNeg a1)) then (M.1 100 2) else (M.1 532 (Int32.toNatClampNeg a1)))))).2) from c42)]; done) | (simp only [if_pos (show 0 ≤ (r_X1_refusalOf M a1 2) from c11), if_pos (show (if (M.1 100 2) < (M.1 532 (Int32.toNatClampNeg a1)) then (M.1 100 2) else (M.1 532 (Int32.toNatClampNeg a1))) ≤ ((l_X7_dues_39 a1 (r_X1_refusalOf M a1 2) (if (M.1 100 2) < (M.1 532 (Int32.toNatClampNeg a1)) then (M.1 100 2) else (M.1 532 (Int32.toNatClampNeg a1))) (M, 0) (Int32.toNatClampNeg ((if (M.1 100 2) < (M.1 532 (Int32.toNatClampNeg a1)) then (M.1 100 2) else (M.1 532 (Int32.toNatClampNeg a1)))))).2) from c42)]; rfl) | rfl
    · rw [if_neg (show ¬ ((if (M.1 100 2) < (M.1 532 (Int32.toNatClampNeg a1)) then (M.1 100 2) else (M.1 532 (Int32.toNatClampNeg a1))) ≤ ((l_X7_dues_39 a1 (r_X1_refusalOf M a1 2) (if (M.1 100 2) < (M.1 532 (Int32.toNatClampNeg a1)) then (M.1 100 2) else (M.1 532 (Int32.toNatClampNeg a1))) (M, 0) (Int32.toNatClampNeg ((if (M.1 100 2) < (M.1 532 (Int32.toNatClampNeg a1)) then (M.1 100 2) else (M.1 532 (Int32.toNatClampNeg a1)))))).2)) from c42)] at hp
      refine j_aload_n g (i := 0) (by decide +kernel) rfl ?_
      refine j_gA g (b := 530) f7_47 (by decide +kernel) (by decide +kernel) (by decide +kernel) (by decide +kernel) ?_
      refine j_gA g (b := 533) f7_271 (by decide +kernel) (by decide +kernel) (by decide +kernel) (by decide +kernel) ?_
      refine j_iload_n g (i := 1) (by decide +kernel) rfl ?_
      obtain ⟨h0, hp⟩ := hp
      refine j_aR g 4 (by decide +kernel) (by decide +kernel) (by decide +kernel) h0 (rfR h0) ?_
      have hw53 := h0
      refine j_iload g (i := 4) (by decide +kernel) rfl ?_
      obtain ⟨h0, hp⟩ := hp
      refine j_la g 40 (by decide +kernel) (gkR hw53) (glR hw53) h0 ?_
      refine j_l2i g (by decide +kernel) ?_
      refine j_istore g (i := 5) (by decide +kernel) (by decide) ?_
      dsimp only [stL, clL, hdL]
      refine j_aload_n g (i := 0) (by decide +kernel) rfl ?_
      refine j_gA g (b := 100) f7_20 (by decide +kernel) (by decide +kernel) (by decide +kernel) (by decide +kernel) ?_
      refine j_gA g (b := 103) f7_121 (by decide +kernel) (by decide +kernel) (by decide +kernel) (by decide +kernel) ?_
      refine j_iload g (i := 4) (by decide +kernel) rfl ?_
      obtain ⟨h0, hp⟩ := hp
      refine j_aW g 6 (by decide +kernel) (by decide +kernel) (by decide +kernel) h0 (rfW103 h0) ?_
      have hw69 := h0
      refine j_iconst g (n := 0) (0) (by decide +kernel) rfl ?_
      refine j_sipush g (n := 999) (999) (by decide +kernel) (by decide +kernel) ?_
      refine j_iload g (i := 5) (by decide +kernel) rfl ?_
      refine j_mmin g (by omega) (Nat.le_of_ble_eq_true rfl) t7_266 (by decide +kernel) ?_
      refine j_mmax g (by omega) (Nat.le_of_ble_eq_true rfl) t7_275 (by decide +kernel) ?_
      refine j_pI g f7_149 (fun q h => by cases h; rfl) (by decide +kernel) (by decide +kernel) (gkW103 hw69) ?_
      refine j_iinc g (i := 4) (n := 1) (1) (by decide +kernel) rfl (by decide) rfl ?_
      dsimp only [stL, clL, hdL]
      refine j_goto g (off := -49) (tgt := 39) (by decide +kernel) (by decide) ?_
      refine absurd (ci_X7_dues_39.mpr ?_) hx_39_1
      simp only [if_pos (show 0 ≤ (r_X1_refusalOf M a1 2) from c11), if_neg (show ¬ ((if (M.1 100 2) < (M.1 532 (Int32.toNatClampNeg a1)) then (M.1 100 2) else (M.1 532 (Int32.toNatClampNeg a1))) ≤ ((l_X7_dues_39 a1 (r_X1_refusalOf M a1 2) (if (M.1 100 2) < (M.1 532 (Int32.toNatClampNeg a1)) then (M.1 100 2) else (M.1 532 (Int32.toNatClampNeg a1))) (M, 0) (Int32.toNatClampNeg ((if (M.1 100 2) < (M.1 532 (Int32.toNatClampNeg a1)) then (M.1 100 2) else (M.1 532 (Int32.toNatClampNeg a1)))))).2)) from c42)]
  · rw [if_neg (show ¬ (0 ≤ (r_X1_refusalOf M a1 2)) from c11)] at hp
    refine j_iload_n g (i := 2) (by decide +kernel) rfl ?_
    refine hr.1 _ _ _ _ (by decide +kernel) ⟨_, rfl, by first | rfl | exact b2i_nar | decide +kernel⟩ ?_ ?_
    · unfold r_X7_dues; first | (simp only [if_neg (show ¬ (0 ≤ (r_X1_refusalOf M a1 2)) from c11)]; done) | (simp only [if_neg (show ¬ (0 ≤ (r_X1_refusalOf M a1 2)) from c11)]; rfl) | rfl
    · unfold w_X7_dues; first | (simp only [if_neg (show ¬ (0 ≤ (r_X1_refusalOf M a1 2)) from c11)]; done) | (simp only [if_neg (show ¬ (0 ≤ (r_X1_refusalOf M a1 2)) from c11)]; rfl) | rfl
