def itN {α : Type} (f : Nat → α → α) (a : α) : Nat → α
  | 0 => a
  | n + 1 => f n (itN f a n)
def c_X5_freeOnes (M : Mm) (s : Nat) (σ : Int32 × Int32) : Prop := if (M.1 100 2) ≤ σ.2 then False else True
def s_X5_freeOnes (M : Mm) (s : Nat) (σ : Int32 × Int32) : Int32 × Int32 := if (M.1 100 2) ≤ σ.2 then σ else if (b2i (cFree M s σ.2)) = 0 then (σ.1, σ.2 + 1) else (σ.1 ||| (1 <<< (σ.2 &&& 31)), σ.2 + 1)
def q_X5_freeOnes (M : Mm) (s : Nat) (σ : Int32 × Int32) : Prop := (if (M.1 100 2) ≤ σ.2 then True else ((M.1 100 2).toInt ≤ 6) ∧ (if (b2i (cFree M s σ.2)) = 0 then True else True))
def r_X5_freeOnes_x (M : Mm) (s : Nat) (σ : Int32 × Int32) : Int32 := if (M.1 100 2) ≤ σ.2 then σ.1 else 0
theorem ps_X5_freeOnes {d : Nat} {J : Nat → Lc → List Value → Mm → Prop} {M : Mm} {s : Nat} {σ : Int32 × Int32} (hs : isS s) (g : Good mX5_freeOnes.1 mX5_freeOnes.2.2.1 mX5_freeOnes.2.2.2.1 (d + 3) J) (hc : c_X5_freeOnes M s σ) (hp : q_X5_freeOnes M s σ) (k : J 4 [some (.ref 100), some (.ref s), some (.int ((s_X5_freeOnes M s σ).1)), some (.int ((s_X5_freeOnes M s σ).2))] [] M) : J 4 [some (.ref 100), some (.ref s), some (.int σ.1), some (.int σ.2)] [] M := by
  unfold c_X5_freeOnes at hc
  unfold q_X5_freeOnes at hp
  unfold s_X5_freeOnes at k
  refine j_iload_n g (i := 3) (by decide +kernel) rfl ?_
  refine j_aload_n g (i := 0) (by decide +kernel) rfl ?_
  refine j_gI g f5_18 (by decide +kernel) (by decide +kernel) (by decide +kernel) ?_
  refine j_icmp_ge g (off := 24) (tgt := 33) (by decide +kernel) (by decide) (fun c9 => ?_) (fun c9 => ?_)
  · (try rw [if_pos (show (M.1 100 2) ≤ σ.2 from c9)] at hc); (rw [if_pos (show (M.1 100 2) ≤ σ.2 from c9)] at hp); (try simp only [if_pos (show (M.1 100 2) ≤ σ.2 from c9)] at k)
    refine j_iload_n g (i := 2) (by decide +kernel) rfl ?_
    exact hc.elim
  · (try rw [if_neg (show ¬ ((M.1 100 2) ≤ σ.2) from c9)] at hc); (rw [if_neg (show ¬ ((M.1 100 2) ≤ σ.2) from c9)] at hp); (try simp only [if_neg (show ¬ ((M.1 100 2) ≤ σ.2) from c9)] at k)
    refine j_aload_n g (i := 0) (by decide +kernel) rfl ?_
    refine j_aload_n g (i := 1) (by decide +kernel) rfl ?_
    refine j_iload_n g (i := 3) (by decide +kernel) rfl ?_
    obtain ⟨h0, hp⟩ := hp
    refine j_cV2r g v5_121 ⟨rfl, by decide⟩ (by decide +kernel) (by decide +kernel) (Nat.le_of_ble_eq_true rfl) (rnX5_isFree h0 (by first | exact hs | (simp [isS]; done))) ?_
    refine j_if_eq g (off := 9) (tgt := 27) (by decide +kernel) (by decide) (fun c18 => ?_) (fun c18 => ?_)
    · (try rw [if_pos (show (b2i (cFree M s σ.2)) = 0 from c18)] at hc); (rw [if_pos (show (b2i (cFree M s σ.2)) = 0 from c18)] at hp); (try simp only [if_pos (show (b2i (cFree M s σ.2)) = 0 from c18)] at k)
      refine j_iinc g (i := 3) (n := 1) (1) (by decide +kernel) rfl (by decide) rfl ?_
      dsimp only [stL, clL, hdL]
      refine j_goto g (off := -26) (tgt := 4) (by decide +kernel) (by decide) ?_
      exact k 
    · (try rw [if_neg (show ¬ ((b2i (cFree M s σ.2)) = 0) from c18)] at hc); (rw [if_neg (show ¬ ((b2i (cFree M s σ.2)) = 0) from c18)] at hp); (try simp only [if_neg (show ¬ ((b2i (cFree M s σ.2)) = 0) from c18)] at k)
      refine j_iload_n g (i := 2) (by decide +kernel) rfl ?_
      refine j_iconst g (n := 1) (1) (by decide +kernel) rfl ?_
      refine j_iload_n g (i := 3) (by decide +kernel) rfl ?_
      refine j_ishl g (by decide +kernel) ?_
      refine j_ior g (by decide +kernel) ?_
      refine j_istore_n g (i := 2) (by decide +kernel) (by decide) ?_
      dsimp only [stL, clL, hdL]
      refine j_iinc g (i := 3) (n := 1) (1) (by decide +kernel) rfl (by decide) rfl ?_
      dsimp only [stL, clL, hdL]
      refine j_goto g (off := -26) (tgt := 4) (by decide +kernel) (by decide) ?_
      exact k 
theorem sh_X5_freeOnes {d : Nat} {J : Nat → Lc → List Value → Mm → Prop} {M : Mm} {s : Nat} {σ0 : Int32 × Int32} (hs : isS s) (g : Good mX5_freeOnes.1 mX5_freeOnes.2.2.1 mX5_freeOnes.2.2.2.1 (d + 3) J) : ∀ (N : Nat), (∀ k, k < N → c_X5_freeOnes M s (itN (fun _ σ => s_X5_freeOnes M s σ) σ0 k)) → (∀ k, k < N → q_X5_freeOnes M s (itN (fun _ σ => s_X5_freeOnes M s σ) σ0 k)) → (J 4 [some (.ref 100), some (.ref s), some (.int ((itN (fun _ σ => s_X5_freeOnes M s σ) σ0 N).1)), some (.int ((itN (fun _ σ => s_X5_freeOnes M s σ) σ0 N).2))] [] M) → J 4 [some (.ref 100), some (.ref s), some (.int σ0.1), some (.int σ0.2)] [] M
  | 0, _, _, k => k
  | N + 1, hc, hp, k => sh_X5_freeOnes hs g N (fun i hi => hc i (Nat.lt_succ_of_lt hi)) (fun i hi => hp i (Nat.lt_succ_of_lt hi)) (ps_X5_freeOnes hs g (hc N (Nat.lt_succ_self N)) (hp N (Nat.lt_succ_self N)) k)
def l_X5_freeOnes (M : Mm) (s : Nat) : Nat → Int32 × Int32 := itN (fun _ σ => s_X5_freeOnes M s σ) (0, 0)
theorem rnX5_freeOnes {d : Nat} {M : Mm} {s : Nat} (hs : isS s) (N : Nat) (hc : ∀ k, k < N → c_X5_freeOnes M s (l_X5_freeOnes M s k)) (he : ¬ c_X5_freeOnes M s (l_X5_freeOnes M s N)) (hp : ∀ k, k ≤ N → q_X5_freeOnes M s (l_X5_freeOnes M s k)) : Rn (d + 3) mX5_freeOnes [.ref 100, .ref s] M (some (.int (r_X5_freeOnes_x M s (l_X5_freeOnes M s N)))) M := by
  refine Rn.of [some (.ref 100), some (.ref s), none, none] (by decide +kernel) rfl (Nat.le_of_ble_eq_true rfl) rfl (fun J g hr => ?_)
  refine j_iconst g (n := 0) (0) (by decide +kernel) rfl ?_
  refine j_istore_n g (i := 2) (by decide +kernel) (by decide) ?_
  dsimp only [stL, clL, hdL]
  refine j_iconst g (n := 0) (0) (by decide +kernel) rfl ?_
  refine j_istore_n g (i := 3) (by decide +kernel) (by decide) ?_
  dsimp only [stL, clL, hdL]
  refine sh_X5_freeOnes hs g (σ0 := (0, 0)) N hc (fun k hk => hp k (Nat.le_of_lt hk)) ?_ 
  have hp := hp N (Nat.le_refl N)
  generalize hσ : l_X5_freeOnes M s N = σ at *
  unfold l_X5_freeOnes at hσ
  rw [hσ]
  unfold c_X5_freeOnes at he
  unfold q_X5_freeOnes at hp
  refine j_iload_n g (i := 3) (by decide +kernel) rfl ?_
  refine j_aload_n g (i := 0) (by decide +kernel) rfl ?_
  refine j_gI g f5_18 (by decide +kernel) (by decide +kernel) (by decide +kernel) ?_
  refine j_icmp_ge g (off := 24) (tgt := 33) (by decide +kernel) (by decide) (fun c9 => ?_) (fun c9 => ?_)
  · (try rw [if_pos (show (M.1 100 2) ≤ σ.2 from c9)] at he); (rw [if_pos (show (M.1 100 2) ≤ σ.2 from c9)] at hp); skip
    refine j_iload_n g (i := 2) (by decide +kernel) rfl ?_
    refine hr.1 _ _ _ _ (by decide +kernel) ⟨_, rfl, by first | rfl | exact b2i_nar | rfl⟩ ?_ ?_
    · unfold r_X5_freeOnes_x; first | rfl | (simp only [if_pos (show (M.1 100 2) ≤ σ.2 from c9)]; done) | (simp only [if_pos (show (M.1 100 2) ≤ σ.2 from c9)]; rfl)
    · rfl
  · (try rw [if_neg (show ¬ ((M.1 100 2) ≤ σ.2) from c9)] at he); (rw [if_neg (show ¬ ((M.1 100 2) ≤ σ.2) from c9)] at hp); skip
    refine j_aload_n g (i := 0) (by decide +kernel) rfl ?_
    refine j_aload_n g (i := 1) (by decide +kernel) rfl ?_
    refine j_iload_n g (i := 3) (by decide +kernel) rfl ?_
    obtain ⟨h0, hp⟩ := hp
    refine j_cV2r g v5_121 ⟨rfl, by decide⟩ (by decide +kernel) (by decide +kernel) (Nat.le_of_ble_eq_true rfl) (rnX5_isFree h0 (by first | exact hs | (simp [isS]; done))) ?_
    refine j_if_eq g (off := 9) (tgt := 27) (by decide +kernel) (by decide) (fun c18 => ?_) (fun c18 => ?_)
    · (try rw [if_pos (show (b2i (cFree M s σ.2)) = 0 from c18)] at he); (rw [if_pos (show (b2i (cFree M s σ.2)) = 0 from c18)] at hp); skip
      refine j_iinc g (i := 3) (n := 1) (1) (by decide +kernel) rfl (by decide) rfl ?_
      dsimp only [stL, clL, hdL]
      refine j_goto g (off := -26) (tgt := 4) (by decide +kernel) (by decide) ?_
      exact (he trivial).elim
    · (try rw [if_neg (show ¬ ((b2i (cFree M s σ.2)) = 0) from c18)] at he); (rw [if_neg (show ¬ ((b2i (cFree M s σ.2)) = 0) from c18)] at hp); skip
      refine j_iload_n g (i := 2) (by decide +kernel) rfl ?_
      refine j_iconst g (n := 1) (1) (by decide +kernel) rfl ?_
      refine j_iload_n g (i := 3) (by decide +kernel) rfl ?_
      refine j_ishl g (by decide +kernel) ?_
      refine j_ior g (by decide +kernel) ?_
      refine j_istore_n g (i := 2) (by decide +kernel) (by decide) ?_
      dsimp only [stL, clL, hdL]
      refine j_iinc g (i := 3) (n := 1) (1) (by decide +kernel) rfl (by decide) rfl ?_
      dsimp only [stL, clL, hdL]
      refine j_goto g (off := -26) (tgt := 4) (by decide +kernel) (by decide) ?_
      exact (he trivial).elim
def c_X5_openOnes (M : Mm) (s : Nat) (σ : Int32 × Int32) : Prop := if (M.1 100 2) ≤ σ.2 then False else True
def s_X5_openOnes (M : Mm) (s : Nat) (σ : Int32 × Int32) : Int32 × Int32 := if (M.1 100 2) ≤ σ.2 then σ else if (b2i (cOpen M s σ.2)) = 0 then (σ.1, σ.2 + 1) else (σ.1 + 1, σ.2 + 1)
def q_X5_openOnes (M : Mm) (s : Nat) (σ : Int32 × Int32) : Prop := (if (M.1 100 2) ≤ σ.2 then True else ((M.1 100 2).toInt ≤ 6) ∧ (if (b2i (cOpen M s σ.2)) = 0 then True else True))
def r_X5_openOnes_x (M : Mm) (s : Nat) (σ : Int32 × Int32) : Int32 := if (M.1 100 2) ≤ σ.2 then σ.1 else 0
theorem ps_X5_openOnes {d : Nat} {J : Nat → Lc → List Value → Mm → Prop} {M : Mm} {s : Nat} {σ : Int32 × Int32} (hs : isS s) (g : Good mX5_openOnes.1 mX5_openOnes.2.2.1 mX5_openOnes.2.2.2.1 (d + 2) J) (hc : c_X5_openOnes M s σ) (hp : q_X5_openOnes M s σ) (k : J 4 [some (.ref 100), some (.ref s), some (.int ((s_X5_openOnes M s σ).1)), some (.int ((s_X5_openOnes M s σ).2))] [] M) : J 4 [some (.ref 100), some (.ref s), some (.int σ.1), some (.int σ.2)] [] M := by
  unfold c_X5_openOnes at hc
  unfold q_X5_openOnes at hp
  unfold s_X5_openOnes at k
  refine j_iload_n g (i := 3) (by decide +kernel) rfl ?_
  refine j_aload_n g (i := 0) (by decide +kernel) rfl ?_
  refine j_gI g f5_18 (by decide +kernel) (by decide +kernel) (by decide +kernel) ?_
  refine j_icmp_ge g (off := 21) (tgt := 30) (by decide +kernel) (by decide) (fun c9 => ?_) (fun c9 => ?_)
  · (try rw [if_pos (show (M.1 100 2) ≤ σ.2 from c9)] at hc); (rw [if_pos (show (M.1 100 2) ≤ σ.2 from c9)] at hp); (try simp only [if_pos (show (M.1 100 2) ≤ σ.2 from c9)] at k)
    refine j_iload_n g (i := 2) (by decide +kernel) rfl ?_
    exact hc.elim
  · (try rw [if_neg (show ¬ ((M.1 100 2) ≤ σ.2) from c9)] at hc); (rw [if_neg (show ¬ ((M.1 100 2) ≤ σ.2) from c9)] at hp); (try simp only [if_neg (show ¬ ((M.1 100 2) ≤ σ.2) from c9)] at k)
    refine j_aload_n g (i := 0) (by decide +kernel) rfl ?_
    refine j_aload_n g (i := 1) (by decide +kernel) rfl ?_
    refine j_iload_n g (i := 3) (by decide +kernel) rfl ?_
    obtain ⟨h0, hp⟩ := hp
    refine j_cV2r g v5_117 ⟨rfl, by decide⟩ (by decide +kernel) (by decide +kernel) (Nat.le_of_ble_eq_true rfl) (rnX5_isOpen h0 (by first | exact hs | (simp [isS]; done))) ?_
    refine j_if_eq g (off := 6) (tgt := 24) (by decide +kernel) (by decide) (fun c18 => ?_) (fun c18 => ?_)
    · (try rw [if_pos (show (b2i (cOpen M s σ.2)) = 0 from c18)] at hc); (rw [if_pos (show (b2i (cOpen M s σ.2)) = 0 from c18)] at hp); (try simp only [if_pos (show (b2i (cOpen M s σ.2)) = 0 from c18)] at k)
      refine j_iinc g (i := 3) (n := 1) (1) (by decide +kernel) rfl (by decide) rfl ?_
      dsimp only [stL, clL, hdL]
      refine j_goto g (off := -23) (tgt := 4) (by decide +kernel) (by decide) ?_
      exact k 
    · (try rw [if_neg (show ¬ ((b2i (cOpen M s σ.2)) = 0) from c18)] at hc); (rw [if_neg (show ¬ ((b2i (cOpen M s σ.2)) = 0) from c18)] at hp); (try simp only [if_neg (show ¬ ((b2i (cOpen M s σ.2)) = 0) from c18)] at k)
      refine j_iinc g (i := 2) (n := 1) (1) (by decide +kernel) rfl (by decide) rfl ?_
      dsimp only [stL, clL, hdL]
      refine j_iinc g (i := 3) (n := 1) (1) (by decide +kernel) rfl (by decide) rfl ?_
      dsimp only [stL, clL, hdL]
      refine j_goto g (off := -23) (tgt := 4) (by decide +kernel) (by decide) ?_
      exact k 
theorem sh_X5_openOnes {d : Nat} {J : Nat → Lc → List Value → Mm → Prop} {M : Mm} {s : Nat} {σ0 : Int32 × Int32} (hs : isS s) (g : Good mX5_openOnes.1 mX5_openOnes.2.2.1 mX5_openOnes.2.2.2.1 (d + 2) J) : ∀ (N : Nat), (∀ k, k < N → c_X5_openOnes M s (itN (fun _ σ => s_X5_openOnes M s σ) σ0 k)) → (∀ k, k < N → q_X5_openOnes M s (itN (fun _ σ => s_X5_openOnes M s σ) σ0 k)) → (J 4 [some (.ref 100), some (.ref s), some (.int ((itN (fun _ σ => s_X5_openOnes M s σ) σ0 N).1)), some (.int ((itN (fun _ σ => s_X5_openOnes M s σ) σ0 N).2))] [] M) → J 4 [some (.ref 100), some (.ref s), some (.int σ0.1), some (.int σ0.2)] [] M
  | 0, _, _, k => k
  | N + 1, hc, hp, k => sh_X5_openOnes hs g N (fun i hi => hc i (Nat.lt_succ_of_lt hi)) (fun i hi => hp i (Nat.lt_succ_of_lt hi)) (ps_X5_openOnes hs g (hc N (Nat.lt_succ_self N)) (hp N (Nat.lt_succ_self N)) k)
def l_X5_openOnes (M : Mm) (s : Nat) : Nat → Int32 × Int32 := itN (fun _ σ => s_X5_openOnes M s σ) (0, 0)
theorem rnX5_openOnes {d : Nat} {M : Mm} {s : Nat} (hs : isS s) (N : Nat) (hc : ∀ k, k < N → c_X5_openOnes M s (l_X5_openOnes M s k)) (he : ¬ c_X5_openOnes M s (l_X5_openOnes M s N)) (hp : ∀ k, k ≤ N → q_X5_openOnes M s (l_X5_openOnes M s k)) : Rn (d + 2) mX5_openOnes [.ref 100, .ref s] M (some (.int (r_X5_openOnes_x M s (l_X5_openOnes M s N)))) M := by
  refine Rn.of [some (.ref 100), some (.ref s), none, none] (by decide +kernel) rfl (Nat.le_of_ble_eq_true rfl) rfl (fun J g hr => ?_)
  refine j_iconst g (n := 0) (0) (by decide +kernel) rfl ?_
  refine j_istore_n g (i := 2) (by decide +kernel) (by decide) ?_
  dsimp only [stL, clL, hdL]
  refine j_iconst g (n := 0) (0) (by decide +kernel) rfl ?_
  refine j_istore_n g (i := 3) (by decide +kernel) (by decide) ?_
  dsimp only [stL, clL, hdL]
  refine sh_X5_openOnes hs g (σ0 := (0, 0)) N hc (fun k hk => hp k (Nat.le_of_lt hk)) ?_ 
  have hp := hp N (Nat.le_refl N)
  generalize hσ : l_X5_openOnes M s N = σ at *
  unfold l_X5_openOnes at hσ
  rw [hσ]
  unfold c_X5_openOnes at he
  unfold q_X5_openOnes at hp
  refine j_iload_n g (i := 3) (by decide +kernel) rfl ?_
  refine j_aload_n g (i := 0) (by decide +kernel) rfl ?_
  refine j_gI g f5_18 (by decide +kernel) (by decide +kernel) (by decide +kernel) ?_
  refine j_icmp_ge g (off := 21) (tgt := 30) (by decide +kernel) (by decide) (fun c9 => ?_) (fun c9 => ?_)
  · (try rw [if_pos (show (M.1 100 2) ≤ σ.2 from c9)] at he); (rw [if_pos (show (M.1 100 2) ≤ σ.2 from c9)] at hp); skip
    refine j_iload_n g (i := 2) (by decide +kernel) rfl ?_
    refine hr.1 _ _ _ _ (by decide +kernel) ⟨_, rfl, by first | rfl | exact b2i_nar | rfl⟩ ?_ ?_
    · unfold r_X5_openOnes_x; first | rfl | (simp only [if_pos (show (M.1 100 2) ≤ σ.2 from c9)]; done) | (simp only [if_pos (show (M.1 100 2) ≤ σ.2 from c9)]; rfl)
    · rfl
  · (try rw [if_neg (show ¬ ((M.1 100 2) ≤ σ.2) from c9)] at he); (rw [if_neg (show ¬ ((M.1 100 2) ≤ σ.2) from c9)] at hp); skip
    refine j_aload_n g (i := 0) (by decide +kernel) rfl ?_
    refine j_aload_n g (i := 1) (by decide +kernel) rfl ?_
    refine j_iload_n g (i := 3) (by decide +kernel) rfl ?_
    obtain ⟨h0, hp⟩ := hp
    refine j_cV2r g v5_117 ⟨rfl, by decide⟩ (by decide +kernel) (by decide +kernel) (Nat.le_of_ble_eq_true rfl) (rnX5_isOpen h0 (by first | exact hs | (simp [isS]; done))) ?_
    refine j_if_eq g (off := 6) (tgt := 24) (by decide +kernel) (by decide) (fun c18 => ?_) (fun c18 => ?_)
    · (try rw [if_pos (show (b2i (cOpen M s σ.2)) = 0 from c18)] at he); (rw [if_pos (show (b2i (cOpen M s σ.2)) = 0 from c18)] at hp); skip
      refine j_iinc g (i := 3) (n := 1) (1) (by decide +kernel) rfl (by decide) rfl ?_
      dsimp only [stL, clL, hdL]
      refine j_goto g (off := -23) (tgt := 4) (by decide +kernel) (by decide) ?_
      exact (he trivial).elim
    · (try rw [if_neg (show ¬ ((b2i (cOpen M s σ.2)) = 0) from c18)] at he); (rw [if_neg (show ¬ ((b2i (cOpen M s σ.2)) = 0) from c18)] at hp); skip
      refine j_iinc g (i := 2) (n := 1) (1) (by decide +kernel) rfl (by decide) rfl ?_
      dsimp only [stL, clL, hdL]
      refine j_iinc g (i := 3) (n := 1) (1) (by decide +kernel) rfl (by decide) rfl ?_
      dsimp only [stL, clL, hdL]
      refine j_goto g (off := -23) (tgt := 4) (by decide +kernel) (by decide) ?_
      exact (he trivial).elim
def c_X5_thingsBeside (M : Mm) (s : Nat) (a2 : Int32) (σ : Int32 × Int32) : Prop := if (M.1 100 1) ≤ σ.2 then False else True
def s_X5_thingsBeside (M : Mm) (s : Nat) (a2 : Int32) (σ : Int32 × Int32) : Int32 × Int32 := if (M.1 100 1) ≤ σ.2 then σ else if σ.2 = a2 then (σ.1, σ.2 + 1) else if ¬ (M.1 (s + 2) (Int32.toNatClampNeg σ.2)) = (M.1 (s + 2) (Int32.toNatClampNeg a2)) then (σ.1, σ.2 + 1) else (σ.1 + 1, σ.2 + 1)
def q_X5_thingsBeside (M : Mm) (s : Nat) (a2 : Int32) (σ : Int32 × Int32) : Prop := (if (M.1 100 1) ≤ σ.2 then True else (if σ.2 = a2 then True else (vp_in σ.2 6) ∧ (vp_in a2 6) ∧ (if ¬ (M.1 (s + 2) (Int32.toNatClampNeg σ.2)) = (M.1 (s + 2) (Int32.toNatClampNeg a2)) then True else True)))
def r_X5_thingsBeside_x (M : Mm) (s : Nat) (a2 : Int32) (σ : Int32 × Int32) : Int32 := if (M.1 100 1) ≤ σ.2 then σ.1 else 0
theorem ps_X5_thingsBeside {d : Nat} {J : Nat → Lc → List Value → Mm → Prop} {M : Mm} {s : Nat} {a2 : Int32} {σ : Int32 × Int32} (hs : isS s) (g : Good mX5_thingsBeside.1 mX5_thingsBeside.2.2.1 mX5_thingsBeside.2.2.2.1 (d) J) (hc : c_X5_thingsBeside M s a2 σ) (hp : q_X5_thingsBeside M s a2 σ) (k : J 5 [some (.ref 100), some (.ref s), some (.int a2), some (.int ((s_X5_thingsBeside M s a2 σ).1)), some (.int ((s_X5_thingsBeside M s a2 σ).2))] [] M) : J 5 [some (.ref 100), some (.ref s), some (.int a2), some (.int σ.1), some (.int σ.2)] [] M := by
  unfold c_X5_thingsBeside at hc
  unfold q_X5_thingsBeside at hp
  unfold s_X5_thingsBeside at k
  refine j_iload g (i := 4) (by decide +kernel) rfl ?_
  refine j_aload_n g (i := 0) (by decide +kernel) rfl ?_
  refine j_gI g f5_15 (by decide +kernel) (by decide +kernel) (by decide +kernel) ?_
  refine j_icmp_ge g (off := 34) (tgt := 45) (by decide +kernel) (by decide) (fun c11 => ?_) (fun c11 => ?_)
  · (try rw [if_pos (show (M.1 100 1) ≤ σ.2 from c11)] at hc); (rw [if_pos (show (M.1 100 1) ≤ σ.2 from c11)] at hp); (try simp only [if_pos (show (M.1 100 1) ≤ σ.2 from c11)] at k)
    refine j_iload_n g (i := 3) (by decide +kernel) rfl ?_
    exact hc.elim
  · (try rw [if_neg (show ¬ ((M.1 100 1) ≤ σ.2) from c11)] at hc); (rw [if_neg (show ¬ ((M.1 100 1) ≤ σ.2) from c11)] at hp); (try simp only [if_neg (show ¬ ((M.1 100 1) ≤ σ.2) from c11)] at k)
    refine j_iload g (i := 4) (by decide +kernel) rfl ?_
    refine j_iload_n g (i := 2) (by decide +kernel) rfl ?_
    refine j_icmp_eq g (off := 22) (tgt := 39) (by decide +kernel) (by decide) (fun c17 => ?_) (fun c17 => ?_)
    · (try rw [if_pos (show σ.2 = a2 from c17)] at hc); (rw [if_pos (show σ.2 = a2 from c17)] at hp); (try simp only [if_pos (show σ.2 = a2 from c17)] at k)
      refine j_iinc g (i := 4) (n := 1) (1) (by decide +kernel) rfl (by decide) rfl ?_
      dsimp only [stL, clL, hdL]
      refine j_goto g (off := -37) (tgt := 5) (by decide +kernel) (by decide) ?_
      exact k 
    · (try rw [if_neg (show ¬ (σ.2 = a2) from c17)] at hc); (rw [if_neg (show ¬ (σ.2 = a2) from c17)] at hp); (try simp only [if_neg (show ¬ (σ.2 = a2) from c17)] at k)
      refine j_aload_n g (i := 1) (by decide +kernel) rfl ?_
      refine j_gA g f5_80 (by decide +kernel) (by decide +kernel) (isS_F hs).1.1 (isS_F hs).2.2.2.1 ?_
      refine j_iload g (i := 4) (by decide +kernel) rfl ?_
      obtain ⟨h0, hp⟩ := hp
      refine j_ia g 6 (by decide +kernel) (isS_F hs).1.2.2.1 (isS_F hs).2.1.2.1 h0 ?_
      refine j_aload_n g (i := 1) (by decide +kernel) rfl ?_
      refine j_gA g f5_80 (by decide +kernel) (by decide +kernel) (isS_F hs).1.1 (isS_F hs).2.2.2.1 ?_
      refine j_iload_n g (i := 2) (by decide +kernel) rfl ?_
      obtain ⟨h0, hp⟩ := hp
      refine j_ia g 6 (by decide +kernel) (isS_F hs).1.2.2.1 (isS_F hs).2.1.2.1 h0 ?_
      refine j_icmp_ne g (off := 6) (tgt := 39) (by decide +kernel) (by decide) (fun c33 => ?_) (fun c33 => ?_)
      · (try rw [if_pos (show ¬ (M.1 (s + 2) (Int32.toNatClampNeg σ.2)) = (M.1 (s + 2) (Int32.toNatClampNeg a2)) from c33)] at hc); (rw [if_pos (show ¬ (M.1 (s + 2) (Int32.toNatClampNeg σ.2)) = (M.1 (s + 2) (Int32.toNatClampNeg a2)) from c33)] at hp); (try simp only [if_pos (show ¬ (M.1 (s + 2) (Int32.toNatClampNeg σ.2)) = (M.1 (s + 2) (Int32.toNatClampNeg a2)) from c33)] at k)
        refine j_iinc g (i := 4) (n := 1) (1) (by decide +kernel) rfl (by decide) rfl ?_
        dsimp only [stL, clL, hdL]
        refine j_goto g (off := -37) (tgt := 5) (by decide +kernel) (by decide) ?_
        exact k 
      · (try rw [if_neg (show ¬ (¬ (M.1 (s + 2) (Int32.toNatClampNeg σ.2)) = (M.1 (s + 2) (Int32.toNatClampNeg a2))) from c33)] at hc); (rw [if_neg (show ¬ (¬ (M.1 (s + 2) (Int32.toNatClampNeg σ.2)) = (M.1 (s + 2) (Int32.toNatClampNeg a2))) from c33)] at hp); (try simp only [if_neg (show ¬ (¬ (M.1 (s + 2) (Int32.toNatClampNeg σ.2)) = (M.1 (s + 2) (Int32.toNatClampNeg a2))) from c33)] at k)
        refine j_iinc g (i := 3) (n := 1) (1) (by decide +kernel) rfl (by decide) rfl ?_
        dsimp only [stL, clL, hdL]
        refine j_iinc g (i := 4) (n := 1) (1) (by decide +kernel) rfl (by decide) rfl ?_
        dsimp only [stL, clL, hdL]
        refine j_goto g (off := -37) (tgt := 5) (by decide +kernel) (by decide) ?_
        exact k 
theorem sh_X5_thingsBeside {d : Nat} {J : Nat → Lc → List Value → Mm → Prop} {M : Mm} {s : Nat} {a2 : Int32} {σ0 : Int32 × Int32} (hs : isS s) (g : Good mX5_thingsBeside.1 mX5_thingsBeside.2.2.1 mX5_thingsBeside.2.2.2.1 (d) J) : ∀ (N : Nat), (∀ k, k < N → c_X5_thingsBeside M s a2 (itN (fun _ σ => s_X5_thingsBeside M s a2 σ) σ0 k)) → (∀ k, k < N → q_X5_thingsBeside M s a2 (itN (fun _ σ => s_X5_thingsBeside M s a2 σ) σ0 k)) → (J 5 [some (.ref 100), some (.ref s), some (.int a2), some (.int ((itN (fun _ σ => s_X5_thingsBeside M s a2 σ) σ0 N).1)), some (.int ((itN (fun _ σ => s_X5_thingsBeside M s a2 σ) σ0 N).2))] [] M) → J 5 [some (.ref 100), some (.ref s), some (.int a2), some (.int σ0.1), some (.int σ0.2)] [] M
  | 0, _, _, k => k
  | N + 1, hc, hp, k => sh_X5_thingsBeside hs g N (fun i hi => hc i (Nat.lt_succ_of_lt hi)) (fun i hi => hp i (Nat.lt_succ_of_lt hi)) (ps_X5_thingsBeside hs g (hc N (Nat.lt_succ_self N)) (hp N (Nat.lt_succ_self N)) k)
def l_X5_thingsBeside (M : Mm) (s : Nat) (a2 : Int32) : Nat → Int32 × Int32 := itN (fun _ σ => s_X5_thingsBeside M s a2 σ) (0, 0)
theorem rnX5_thingsBeside {d : Nat} {M : Mm} {s : Nat} {a2 : Int32} (hs : isS s) (N : Nat) (hc : ∀ k, k < N → c_X5_thingsBeside M s a2 (l_X5_thingsBeside M s a2 k)) (he : ¬ c_X5_thingsBeside M s a2 (l_X5_thingsBeside M s a2 N)) (hp : ∀ k, k ≤ N → q_X5_thingsBeside M s a2 (l_X5_thingsBeside M s a2 k)) : Rn (d) mX5_thingsBeside [.ref 100, .ref s, .int a2] M (some (.int (r_X5_thingsBeside_x M s a2 (l_X5_thingsBeside M s a2 N)))) M := by
  refine Rn.of [some (.ref 100), some (.ref s), some (.int a2), none, none] (by decide +kernel) rfl (Nat.le_of_ble_eq_true rfl) rfl (fun J g hr => ?_)
  refine j_iconst g (n := 0) (0) (by decide +kernel) rfl ?_
  refine j_istore_n g (i := 3) (by decide +kernel) (by decide) ?_
  dsimp only [stL, clL, hdL]
  refine j_iconst g (n := 0) (0) (by decide +kernel) rfl ?_
  refine j_istore g (i := 4) (by decide +kernel) (by decide) ?_
  dsimp only [stL, clL, hdL]
  refine sh_X5_thingsBeside hs g (σ0 := (0, 0)) N hc (fun k hk => hp k (Nat.le_of_lt hk)) ?_ 
  have hp := hp N (Nat.le_refl N)
  generalize hσ : l_X5_thingsBeside M s a2 N = σ at *
  unfold l_X5_thingsBeside at hσ
  rw [hσ]
  unfold c_X5_thingsBeside at he
  unfold q_X5_thingsBeside at hp
  refine j_iload g (i := 4) (by decide +kernel) rfl ?_
  refine j_aload_n g (i := 0) (by decide +kernel) rfl ?_
  refine j_gI g f5_15 (by decide +kernel) (by decide +kernel) (by decide +kernel) ?_
  refine j_icmp_ge g (off := 34) (tgt := 45) (by decide +kernel) (by decide) (fun c11 => ?_) (fun c11 => ?_)
  · (try rw [if_pos (show (M.1 100 1) ≤ σ.2 from c11)] at he); (rw [if_pos (show (M.1 100 1) ≤ σ.2 from c11)] at hp); skip
    refine j_iload_n g (i := 3) (by decide +kernel) rfl ?_
    refine hr.1 _ _ _ _ (by decide +kernel) ⟨_, rfl, by first | rfl | exact b2i_nar | rfl⟩ ?_ ?_
    · unfold r_X5_thingsBeside_x; first | rfl | (simp only [if_pos (show (M.1 100 1) ≤ σ.2 from c11)]; done) | (simp only [if_pos (show (M.1 100 1) ≤ σ.2 from c11)]; rfl)
    · rfl
  · (try rw [if_neg (show ¬ ((M.1 100 1) ≤ σ.2) from c11)] at he); (rw [if_neg (show ¬ ((M.1 100 1) ≤ σ.2) from c11)] at hp); skip
    refine j_iload g (i := 4) (by decide +kernel) rfl ?_
    refine j_iload_n g (i := 2) (by decide +kernel) rfl ?_
    refine j_icmp_eq g (off := 22) (tgt := 39) (by decide +kernel) (by decide) (fun c17 => ?_) (fun c17 => ?_)
    · (try rw [if_pos (show σ.2 = a2 from c17)] at he); (rw [if_pos (show σ.2 = a2 from c17)] at hp); skip
      refine j_iinc g (i := 4) (n := 1) (1) (by decide +kernel) rfl (by decide) rfl ?_
      dsimp only [stL, clL, hdL]
      refine j_goto g (off := -37) (tgt := 5) (by decide +kernel) (by decide) ?_
      exact (he trivial).elim
    · (try rw [if_neg (show ¬ (σ.2 = a2) from c17)] at he); (rw [if_neg (show ¬ (σ.2 = a2) from c17)] at hp); skip
      refine j_aload_n g (i := 1) (by decide +kernel) rfl ?_
      refine j_gA g f5_80 (by decide +kernel) (by decide +kernel) (isS_F hs).1.1 (isS_F hs).2.2.2.1 ?_
      refine j_iload g (i := 4) (by decide +kernel) rfl ?_
      obtain ⟨h0, hp⟩ := hp
      refine j_ia g 6 (by decide +kernel) (isS_F hs).1.2.2.1 (isS_F hs).2.1.2.1 h0 ?_
      refine j_aload_n g (i := 1) (by decide +kernel) rfl ?_
      refine j_gA g f5_80 (by decide +kernel) (by decide +kernel) (isS_F hs).1.1 (isS_F hs).2.2.2.1 ?_
      refine j_iload_n g (i := 2) (by decide +kernel) rfl ?_
      obtain ⟨h0, hp⟩ := hp
      refine j_ia g 6 (by decide +kernel) (isS_F hs).1.2.2.1 (isS_F hs).2.1.2.1 h0 ?_
      refine j_icmp_ne g (off := 6) (tgt := 39) (by decide +kernel) (by decide) (fun c33 => ?_) (fun c33 => ?_)
      · (try rw [if_pos (show ¬ (M.1 (s + 2) (Int32.toNatClampNeg σ.2)) = (M.1 (s + 2) (Int32.toNatClampNeg a2)) from c33)] at he); (rw [if_pos (show ¬ (M.1 (s + 2) (Int32.toNatClampNeg σ.2)) = (M.1 (s + 2) (Int32.toNatClampNeg a2)) from c33)] at hp); skip
        refine j_iinc g (i := 4) (n := 1) (1) (by decide +kernel) rfl (by decide) rfl ?_
        dsimp only [stL, clL, hdL]
        refine j_goto g (off := -37) (tgt := 5) (by decide +kernel) (by decide) ?_
        exact (he trivial).elim
      · (try rw [if_neg (show ¬ (¬ (M.1 (s + 2) (Int32.toNatClampNeg σ.2)) = (M.1 (s + 2) (Int32.toNatClampNeg a2))) from c33)] at he); (rw [if_neg (show ¬ (¬ (M.1 (s + 2) (Int32.toNatClampNeg σ.2)) = (M.1 (s + 2) (Int32.toNatClampNeg a2))) from c33)] at hp); skip
        refine j_iinc g (i := 3) (n := 1) (1) (by decide +kernel) rfl (by decide) rfl ?_
        dsimp only [stL, clL, hdL]
        refine j_iinc g (i := 4) (n := 1) (1) (by decide +kernel) rfl (by decide) rfl ?_
        dsimp only [stL, clL, hdL]
        refine j_goto g (off := -37) (tgt := 5) (by decide +kernel) (by decide) ?_
        exact (he trivial).elim
def c_X8_maySet (M : Mm)  (σ : Int32 × Int32) : Prop := if (M.1 600 2) ≤ σ.2 then False else True
def s_X8_maySet (M : Mm)  (σ : Int32 × Int32) : Int32 × Int32 := if (M.1 600 2) ≤ σ.2 then σ else if (r_X8_isFree M σ.2) = 0 then (σ.1 ||| 0, σ.2 + 1) else (σ.1 ||| (1 <<< (σ.2 &&& 31)), σ.2 + 1)
def q_X8_maySet (M : Mm)  (σ : Int32 × Int32) : Prop := (if (M.1 600 2) ≤ σ.2 then True else (p_X8_isFree M σ.2) ∧ (if (r_X8_isFree M σ.2) = 0 then True else True))
def r_X8_maySet_x (M : Mm)  (σ : Int32 × Int32) : Int32 := if (M.1 600 2) ≤ σ.2 then σ.1 else 0
theorem ps_X8_maySet {d : Nat} {J : Nat → Lc → List Value → Mm → Prop} {M : Mm}  {σ : Int32 × Int32}  (g : Good mX8_maySet.1 mX8_maySet.2.2.1 mX8_maySet.2.2.2.1 (d + 2) J) (hc : c_X8_maySet M  σ) (hp : q_X8_maySet M  σ) (k : J 4 [some (.ref 600), some (.int ((s_X8_maySet M  σ).1)), some (.int ((s_X8_maySet M  σ).2))] [] M) : J 4 [some (.ref 600), some (.int σ.1), some (.int σ.2)] [] M := by
  unfold c_X8_maySet at hc
  unfold q_X8_maySet at hp
  unfold s_X8_maySet at k
  refine j_iload_n g (i := 2) (by decide +kernel) rfl ?_
  refine j_aload_n g (i := 0) (by decide +kernel) rfl ?_
  refine j_gI g f8_99 (by decide +kernel) (by decide +kernel) (by decide +kernel) ?_
  refine j_icmp_ge g (off := 27) (tgt := 36) (by decide +kernel) (by decide) (fun c9 => ?_) (fun c9 => ?_)
  · (try rw [if_pos (show (M.1 600 2) ≤ σ.2 from c9)] at hc); (rw [if_pos (show (M.1 600 2) ≤ σ.2 from c9)] at hp); (try simp only [if_pos (show (M.1 600 2) ≤ σ.2 from c9)] at k)
    refine j_iload_n g (i := 1) (by decide +kernel) rfl ?_
    exact hc.elim
  · (try rw [if_neg (show ¬ ((M.1 600 2) ≤ σ.2) from c9)] at hc); (rw [if_neg (show ¬ ((M.1 600 2) ≤ σ.2) from c9)] at hp); (try simp only [if_neg (show ¬ ((M.1 600 2) ≤ σ.2) from c9)] at k)
    refine j_iload_n g (i := 1) (by decide +kernel) rfl ?_
    refine j_aload_n g (i := 0) (by decide +kernel) rfl ?_
    refine j_iload_n g (i := 2) (by decide +kernel) rfl ?_
    obtain ⟨h0, hp⟩ := hp
    refine j_cV1r g v8_295 ⟨rfl, by decide⟩ (by decide +kernel) (by decide +kernel) (Nat.le_of_ble_eq_true rfl) (rnX8_isFree h0) ?_
    refine j_if_eq g (off := 9) (tgt := 27) (by decide +kernel) (by decide) (fun c18 => ?_) (fun c18 => ?_)
    · (try rw [if_pos (show (r_X8_isFree M σ.2) = 0 from c18)] at hc); (rw [if_pos (show (r_X8_isFree M σ.2) = 0 from c18)] at hp); (try simp only [if_pos (show (r_X8_isFree M σ.2) = 0 from c18)] at k)
      refine j_iconst g (n := 0) (0) (by decide +kernel) rfl ?_
      refine j_ior g (by decide +kernel) ?_
      refine j_istore_n g (i := 1) (by decide +kernel) (by decide) ?_
      dsimp only [stL, clL, hdL]
      refine j_iinc g (i := 2) (n := 1) (1) (by decide +kernel) rfl (by decide) rfl ?_
      dsimp only [stL, clL, hdL]
      refine j_goto g (off := -29) (tgt := 4) (by decide +kernel) (by decide) ?_
      exact k 
    · (try rw [if_neg (show ¬ ((r_X8_isFree M σ.2) = 0) from c18)] at hc); (rw [if_neg (show ¬ ((r_X8_isFree M σ.2) = 0) from c18)] at hp); (try simp only [if_neg (show ¬ ((r_X8_isFree M σ.2) = 0) from c18)] at k)
      refine j_iconst g (n := 1) (1) (by decide +kernel) rfl ?_
      refine j_iload_n g (i := 2) (by decide +kernel) rfl ?_
      refine j_ishl g (by decide +kernel) ?_
      refine j_goto g (off := 4) (tgt := 28) (by decide +kernel) (by decide) ?_
      refine j_ior g (by decide +kernel) ?_
      refine j_istore_n g (i := 1) (by decide +kernel) (by decide) ?_
      dsimp only [stL, clL, hdL]
      refine j_iinc g (i := 2) (n := 1) (1) (by decide +kernel) rfl (by decide) rfl ?_
      dsimp only [stL, clL, hdL]
      refine j_goto g (off := -29) (tgt := 4) (by decide +kernel) (by decide) ?_
      exact k 
theorem sh_X8_maySet {d : Nat} {J : Nat → Lc → List Value → Mm → Prop} {M : Mm}  {σ0 : Int32 × Int32}  (g : Good mX8_maySet.1 mX8_maySet.2.2.1 mX8_maySet.2.2.2.1 (d + 2) J) : ∀ (N : Nat), (∀ k, k < N → c_X8_maySet M  (itN (fun _ σ => s_X8_maySet M  σ) σ0 k)) → (∀ k, k < N → q_X8_maySet M  (itN (fun _ σ => s_X8_maySet M  σ) σ0 k)) → (J 4 [some (.ref 600), some (.int ((itN (fun _ σ => s_X8_maySet M  σ) σ0 N).1)), some (.int ((itN (fun _ σ => s_X8_maySet M  σ) σ0 N).2))] [] M) → J 4 [some (.ref 600), some (.int σ0.1), some (.int σ0.2)] [] M
  | 0, _, _, k => k
  | N + 1, hc, hp, k => sh_X8_maySet  g N (fun i hi => hc i (Nat.lt_succ_of_lt hi)) (fun i hi => hp i (Nat.lt_succ_of_lt hi)) (ps_X8_maySet  g (hc N (Nat.lt_succ_self N)) (hp N (Nat.lt_succ_self N)) k)
def l_X8_maySet (M : Mm)  : Nat → Int32 × Int32 := itN (fun _ σ => s_X8_maySet M  σ) (0, 0)
theorem rnX8_maySet {d : Nat} {M : Mm}   (N : Nat) (hc : ∀ k, k < N → c_X8_maySet M  (l_X8_maySet M  k)) (he : ¬ c_X8_maySet M  (l_X8_maySet M  N)) (hp : ∀ k, k ≤ N → q_X8_maySet M  (l_X8_maySet M  k)) : Rn (d + 2) mX8_maySet [.ref 600] M (some (.int (r_X8_maySet_x M  (l_X8_maySet M  N)))) M := by
  refine Rn.of [some (.ref 600), none, none] (by decide +kernel) rfl (Nat.le_of_ble_eq_true rfl) rfl (fun J g hr => ?_)
  refine j_iconst g (n := 0) (0) (by decide +kernel) rfl ?_
  refine j_istore_n g (i := 1) (by decide +kernel) (by decide) ?_
  dsimp only [stL, clL, hdL]
  refine j_iconst g (n := 0) (0) (by decide +kernel) rfl ?_
  refine j_istore_n g (i := 2) (by decide +kernel) (by decide) ?_
  dsimp only [stL, clL, hdL]
  refine sh_X8_maySet  g (σ0 := (0, 0)) N hc (fun k hk => hp k (Nat.le_of_lt hk)) ?_ 
  have hp := hp N (Nat.le_refl N)
  generalize hσ : l_X8_maySet M  N = σ at *
  unfold l_X8_maySet at hσ
  rw [hσ]
  unfold c_X8_maySet at he
  unfold q_X8_maySet at hp
  refine j_iload_n g (i := 2) (by decide +kernel) rfl ?_
  refine j_aload_n g (i := 0) (by decide +kernel) rfl ?_
  refine j_gI g f8_99 (by decide +kernel) (by decide +kernel) (by decide +kernel) ?_
  refine j_icmp_ge g (off := 27) (tgt := 36) (by decide +kernel) (by decide) (fun c9 => ?_) (fun c9 => ?_)
  · (try rw [if_pos (show (M.1 600 2) ≤ σ.2 from c9)] at he); (rw [if_pos (show (M.1 600 2) ≤ σ.2 from c9)] at hp); skip
    refine j_iload_n g (i := 1) (by decide +kernel) rfl ?_
    refine hr.1 _ _ _ _ (by decide +kernel) ⟨_, rfl, by first | rfl | exact b2i_nar | rfl⟩ ?_ ?_
    · unfold r_X8_maySet_x; first | rfl | (simp only [if_pos (show (M.1 600 2) ≤ σ.2 from c9)]; done) | (simp only [if_pos (show (M.1 600 2) ≤ σ.2 from c9)]; rfl)
    · rfl
  · (try rw [if_neg (show ¬ ((M.1 600 2) ≤ σ.2) from c9)] at he); (rw [if_neg (show ¬ ((M.1 600 2) ≤ σ.2) from c9)] at hp); skip
    refine j_iload_n g (i := 1) (by decide +kernel) rfl ?_
    refine j_aload_n g (i := 0) (by decide +kernel) rfl ?_
    refine j_iload_n g (i := 2) (by decide +kernel) rfl ?_
    obtain ⟨h0, hp⟩ := hp
    refine j_cV1r g v8_295 ⟨rfl, by decide⟩ (by decide +kernel) (by decide +kernel) (Nat.le_of_ble_eq_true rfl) (rnX8_isFree h0) ?_
    refine j_if_eq g (off := 9) (tgt := 27) (by decide +kernel) (by decide) (fun c18 => ?_) (fun c18 => ?_)
    · (try rw [if_pos (show (r_X8_isFree M σ.2) = 0 from c18)] at he); (rw [if_pos (show (r_X8_isFree M σ.2) = 0 from c18)] at hp); skip
      refine j_iconst g (n := 0) (0) (by decide +kernel) rfl ?_
      refine j_ior g (by decide +kernel) ?_
      refine j_istore_n g (i := 1) (by decide +kernel) (by decide) ?_
      dsimp only [stL, clL, hdL]
      refine j_iinc g (i := 2) (n := 1) (1) (by decide +kernel) rfl (by decide) rfl ?_
      dsimp only [stL, clL, hdL]
      refine j_goto g (off := -29) (tgt := 4) (by decide +kernel) (by decide) ?_
      exact (he trivial).elim
    · (try rw [if_neg (show ¬ ((r_X8_isFree M σ.2) = 0) from c18)] at he); (rw [if_neg (show ¬ ((r_X8_isFree M σ.2) = 0) from c18)] at hp); skip
      refine j_iconst g (n := 1) (1) (by decide +kernel) rfl ?_
      refine j_iload_n g (i := 2) (by decide +kernel) rfl ?_
      refine j_ishl g (by decide +kernel) ?_
      refine j_goto g (off := 4) (tgt := 28) (by decide +kernel) (by decide) ?_
      refine j_ior g (by decide +kernel) ?_
      refine j_istore_n g (i := 1) (by decide +kernel) (by decide) ?_
      dsimp only [stL, clL, hdL]
      refine j_iinc g (i := 2) (n := 1) (1) (by decide +kernel) rfl (by decide) rfl ?_
      dsimp only [stL, clL, hdL]
      refine j_goto g (off := -29) (tgt := 4) (by decide +kernel) (by decide) ?_
      exact (he trivial).elim
def c_X8_openMany (M : Mm)  (σ : Int32 × Int32) : Prop := if (M.1 600 2) ≤ σ.2 then False else True
def s_X8_openMany (M : Mm)  (σ : Int32 × Int32) : Int32 × Int32 := if (M.1 600 2) ≤ σ.2 then σ else if (b2i (M.1 607 (Int32.toNatClampNeg (M.1 600 10 + 9 + σ.2)) = 0)) = 0 then (σ.1 + 0, σ.2 + 1) else (σ.1 + 1, σ.2 + 1)
def q_X8_openMany (M : Mm)  (σ : Int32 × Int32) : Prop := (if (M.1 600 2) ≤ σ.2 then True else (vp_in (M.1 600 10 + 9 + σ.2) 44) ∧ (if (b2i (M.1 607 (Int32.toNatClampNeg (M.1 600 10 + 9 + σ.2)) = 0)) = 0 then True else True))
def r_X8_openMany_x (M : Mm)  (σ : Int32 × Int32) : Int32 := if (M.1 600 2) ≤ σ.2 then σ.1 else 0
theorem ps_X8_openMany {d : Nat} {J : Nat → Lc → List Value → Mm → Prop} {M : Mm}  {σ : Int32 × Int32}  (g : Good mX8_openMany.1 mX8_openMany.2.2.1 mX8_openMany.2.2.2.1 (d + 1) J) (hc : c_X8_openMany M  σ) (hp : q_X8_openMany M  σ) (k : J 4 [some (.ref 600), some (.int ((s_X8_openMany M  σ).1)), some (.int ((s_X8_openMany M  σ).2))] [] M) : J 4 [some (.ref 600), some (.int σ.1), some (.int σ.2)] [] M := by
  unfold c_X8_openMany at hc
  unfold q_X8_openMany at hp
  unfold s_X8_openMany at k
  refine j_iload_n g (i := 2) (by decide +kernel) rfl ?_
  refine j_aload_n g (i := 0) (by decide +kernel) rfl ?_
  refine j_gI g f8_99 (by decide +kernel) (by decide +kernel) (by decide +kernel) ?_
  refine j_icmp_ge g (off := 25) (tgt := 34) (by decide +kernel) (by decide) (fun c9 => ?_) (fun c9 => ?_)
  · (try rw [if_pos (show (M.1 600 2) ≤ σ.2 from c9)] at hc); (rw [if_pos (show (M.1 600 2) ≤ σ.2 from c9)] at hp); (try simp only [if_pos (show (M.1 600 2) ≤ σ.2 from c9)] at k)
    refine j_iload_n g (i := 1) (by decide +kernel) rfl ?_
    exact hc.elim
  · (try rw [if_neg (show ¬ ((M.1 600 2) ≤ σ.2) from c9)] at hc); (rw [if_neg (show ¬ ((M.1 600 2) ≤ σ.2) from c9)] at hp); (try simp only [if_neg (show ¬ ((M.1 600 2) ≤ σ.2) from c9)] at k)
    refine j_iload_n g (i := 1) (by decide +kernel) rfl ?_
    refine j_aload_n g (i := 0) (by decide +kernel) rfl ?_
    refine j_iload_n g (i := 2) (by decide +kernel) rfl ?_
    obtain ⟨h0, hp⟩ := hp
    refine j_cV1r g v8_246 ⟨rfl, by decide⟩ (by decide +kernel) (by decide +kernel) (Nat.le_of_ble_eq_true rfl) (rnX8_isOpen h0) ?_
    refine j_if_eq g (off := 7) (tgt := 25) (by decide +kernel) (by decide) (fun c18 => ?_) (fun c18 => ?_)
    · (try rw [if_pos (show (b2i (M.1 607 (Int32.toNatClampNeg (M.1 600 10 + 9 + σ.2)) = 0)) = 0 from c18)] at hc); (rw [if_pos (show (b2i (M.1 607 (Int32.toNatClampNeg (M.1 600 10 + 9 + σ.2)) = 0)) = 0 from c18)] at hp); (try simp only [if_pos (show (b2i (M.1 607 (Int32.toNatClampNeg (M.1 600 10 + 9 + σ.2)) = 0)) = 0 from c18)] at k)
      refine j_iconst g (n := 0) (0) (by decide +kernel) rfl ?_
      refine j_iadd g (by decide +kernel) ?_
      refine j_istore_n g (i := 1) (by decide +kernel) (by decide) ?_
      dsimp only [stL, clL, hdL]
      refine j_iinc g (i := 2) (n := 1) (1) (by decide +kernel) rfl (by decide) rfl ?_
      dsimp only [stL, clL, hdL]
      refine j_goto g (off := -27) (tgt := 4) (by decide +kernel) (by decide) ?_
      exact k 
    · (try rw [if_neg (show ¬ ((b2i (M.1 607 (Int32.toNatClampNeg (M.1 600 10 + 9 + σ.2)) = 0)) = 0) from c18)] at hc); (rw [if_neg (show ¬ ((b2i (M.1 607 (Int32.toNatClampNeg (M.1 600 10 + 9 + σ.2)) = 0)) = 0) from c18)] at hp); (try simp only [if_neg (show ¬ ((b2i (M.1 607 (Int32.toNatClampNeg (M.1 600 10 + 9 + σ.2)) = 0)) = 0) from c18)] at k)
      refine j_iconst g (n := 1) (1) (by decide +kernel) rfl ?_
      refine j_goto g (off := 4) (tgt := 26) (by decide +kernel) (by decide) ?_
      refine j_iadd g (by decide +kernel) ?_
      refine j_istore_n g (i := 1) (by decide +kernel) (by decide) ?_
      dsimp only [stL, clL, hdL]
      refine j_iinc g (i := 2) (n := 1) (1) (by decide +kernel) rfl (by decide) rfl ?_
      dsimp only [stL, clL, hdL]
      refine j_goto g (off := -27) (tgt := 4) (by decide +kernel) (by decide) ?_
      exact k 
theorem sh_X8_openMany {d : Nat} {J : Nat → Lc → List Value → Mm → Prop} {M : Mm}  {σ0 : Int32 × Int32}  (g : Good mX8_openMany.1 mX8_openMany.2.2.1 mX8_openMany.2.2.2.1 (d + 1) J) : ∀ (N : Nat), (∀ k, k < N → c_X8_openMany M  (itN (fun _ σ => s_X8_openMany M  σ) σ0 k)) → (∀ k, k < N → q_X8_openMany M  (itN (fun _ σ => s_X8_openMany M  σ) σ0 k)) → (J 4 [some (.ref 600), some (.int ((itN (fun _ σ => s_X8_openMany M  σ) σ0 N).1)), some (.int ((itN (fun _ σ => s_X8_openMany M  σ) σ0 N).2))] [] M) → J 4 [some (.ref 600), some (.int σ0.1), some (.int σ0.2)] [] M
  | 0, _, _, k => k
  | N + 1, hc, hp, k => sh_X8_openMany  g N (fun i hi => hc i (Nat.lt_succ_of_lt hi)) (fun i hi => hp i (Nat.lt_succ_of_lt hi)) (ps_X8_openMany  g (hc N (Nat.lt_succ_self N)) (hp N (Nat.lt_succ_self N)) k)
def l_X8_openMany (M : Mm)  : Nat → Int32 × Int32 := itN (fun _ σ => s_X8_openMany M  σ) (0, 0)
theorem rnX8_openMany {d : Nat} {M : Mm}   (N : Nat) (hc : ∀ k, k < N → c_X8_openMany M  (l_X8_openMany M  k)) (he : ¬ c_X8_openMany M  (l_X8_openMany M  N)) (hp : ∀ k, k ≤ N → q_X8_openMany M  (l_X8_openMany M  k)) : Rn (d + 1) mX8_openMany [.ref 600] M (some (.int (r_X8_openMany_x M  (l_X8_openMany M  N)))) M := by
  refine Rn.of [some (.ref 600), none, none] (by decide +kernel) rfl (Nat.le_of_ble_eq_true rfl) rfl (fun J g hr => ?_)
  refine j_iconst g (n := 0) (0) (by decide +kernel) rfl ?_
  refine j_istore_n g (i := 1) (by decide +kernel) (by decide) ?_
  dsimp only [stL, clL, hdL]
  refine j_iconst g (n := 0) (0) (by decide +kernel) rfl ?_
  refine j_istore_n g (i := 2) (by decide +kernel) (by decide) ?_
  dsimp only [stL, clL, hdL]
  refine sh_X8_openMany  g (σ0 := (0, 0)) N hc (fun k hk => hp k (Nat.le_of_lt hk)) ?_ 
  have hp := hp N (Nat.le_refl N)
  generalize hσ : l_X8_openMany M  N = σ at *
  unfold l_X8_openMany at hσ
  rw [hσ]
  unfold c_X8_openMany at he
  unfold q_X8_openMany at hp
  refine j_iload_n g (i := 2) (by decide +kernel) rfl ?_
  refine j_aload_n g (i := 0) (by decide +kernel) rfl ?_
  refine j_gI g f8_99 (by decide +kernel) (by decide +kernel) (by decide +kernel) ?_
  refine j_icmp_ge g (off := 25) (tgt := 34) (by decide +kernel) (by decide) (fun c9 => ?_) (fun c9 => ?_)
  · (try rw [if_pos (show (M.1 600 2) ≤ σ.2 from c9)] at he); (rw [if_pos (show (M.1 600 2) ≤ σ.2 from c9)] at hp); skip
    refine j_iload_n g (i := 1) (by decide +kernel) rfl ?_
    refine hr.1 _ _ _ _ (by decide +kernel) ⟨_, rfl, by first | rfl | exact b2i_nar | rfl⟩ ?_ ?_
    · unfold r_X8_openMany_x; first | rfl | (simp only [if_pos (show (M.1 600 2) ≤ σ.2 from c9)]; done) | (simp only [if_pos (show (M.1 600 2) ≤ σ.2 from c9)]; rfl)
    · rfl
  · (try rw [if_neg (show ¬ ((M.1 600 2) ≤ σ.2) from c9)] at he); (rw [if_neg (show ¬ ((M.1 600 2) ≤ σ.2) from c9)] at hp); skip
    refine j_iload_n g (i := 1) (by decide +kernel) rfl ?_
    refine j_aload_n g (i := 0) (by decide +kernel) rfl ?_
    refine j_iload_n g (i := 2) (by decide +kernel) rfl ?_
    obtain ⟨h0, hp⟩ := hp
    refine j_cV1r g v8_246 ⟨rfl, by decide⟩ (by decide +kernel) (by decide +kernel) (Nat.le_of_ble_eq_true rfl) (rnX8_isOpen h0) ?_
    refine j_if_eq g (off := 7) (tgt := 25) (by decide +kernel) (by decide) (fun c18 => ?_) (fun c18 => ?_)
    · (try rw [if_pos (show (b2i (M.1 607 (Int32.toNatClampNeg (M.1 600 10 + 9 + σ.2)) = 0)) = 0 from c18)] at he); (rw [if_pos (show (b2i (M.1 607 (Int32.toNatClampNeg (M.1 600 10 + 9 + σ.2)) = 0)) = 0 from c18)] at hp); skip
      refine j_iconst g (n := 0) (0) (by decide +kernel) rfl ?_
      refine j_iadd g (by decide +kernel) ?_
      refine j_istore_n g (i := 1) (by decide +kernel) (by decide) ?_
      dsimp only [stL, clL, hdL]
      refine j_iinc g (i := 2) (n := 1) (1) (by decide +kernel) rfl (by decide) rfl ?_
      dsimp only [stL, clL, hdL]
      refine j_goto g (off := -27) (tgt := 4) (by decide +kernel) (by decide) ?_
      exact (he trivial).elim
    · (try rw [if_neg (show ¬ ((b2i (M.1 607 (Int32.toNatClampNeg (M.1 600 10 + 9 + σ.2)) = 0)) = 0) from c18)] at he); (rw [if_neg (show ¬ ((b2i (M.1 607 (Int32.toNatClampNeg (M.1 600 10 + 9 + σ.2)) = 0)) = 0) from c18)] at hp); skip
      refine j_iconst g (n := 1) (1) (by decide +kernel) rfl ?_
      refine j_goto g (off := 4) (tgt := 26) (by decide +kernel) (by decide) ?_
      refine j_iadd g (by decide +kernel) ?_
      refine j_istore_n g (i := 1) (by decide +kernel) (by decide) ?_
      dsimp only [stL, clL, hdL]
      refine j_iinc g (i := 2) (n := 1) (1) (by decide +kernel) rfl (by decide) rfl ?_
      dsimp only [stL, clL, hdL]
      refine j_goto g (off := -27) (tgt := 4) (by decide +kernel) (by decide) ?_
      exact (he trivial).elim
def c_X8_othersThere (M : Mm) (a1 : Int32) (σ : Int32 × Int32) : Prop := if (M.1 600 1) ≤ σ.2 then False else True
def s_X8_othersThere (M : Mm) (a1 : Int32) (σ : Int32 × Int32) : Int32 × Int32 := if (M.1 600 1) ≤ σ.2 then σ else if σ.2 = (M.1 603 (Int32.toNatClampNeg (8 * a1 + 2))) then (σ.1 + 0, σ.2 + 1) else if ¬ (M.1 607 (Int32.toNatClampNeg (((M.1 600 10) + 3) + σ.2))) = (M.1 607 (Int32.toNatClampNeg (((M.1 600 10) + 3) + (M.1 603 (Int32.toNatClampNeg (8 * a1 + 2)))))) then (σ.1 + 0, σ.2 + 1) else (σ.1 + 1, σ.2 + 1)
def q_X8_othersThere (M : Mm) (a1 : Int32) (σ : Int32 × Int32) : Prop := (if (M.1 600 1) ≤ σ.2 then True else (vp_in (8 * a1 + 2) 48) ∧ (if σ.2 = (M.1 603 (Int32.toNatClampNeg (8 * a1 + 2))) then True else (vp_in (((M.1 600 10) + 3) + σ.2) 44) ∧ (vp_in (8 * a1 + 2) 48) ∧ (vp_in (((M.1 600 10) + 3) + (M.1 603 (Int32.toNatClampNeg (8 * a1 + 2)))) 44) ∧ (if ¬ (M.1 607 (Int32.toNatClampNeg (((M.1 600 10) + 3) + σ.2))) = (M.1 607 (Int32.toNatClampNeg (((M.1 600 10) + 3) + (M.1 603 (Int32.toNatClampNeg (8 * a1 + 2)))))) then True else True)))
def r_X8_othersThere_x (M : Mm) (a1 : Int32) (σ : Int32 × Int32) : Int32 := if (M.1 600 1) ≤ σ.2 then σ.1 else 0
theorem ps_X8_othersThere {d : Nat} {J : Nat → Lc → List Value → Mm → Prop} {M : Mm} {a1 : Int32} {σ : Int32 × Int32}  (g : Good mX8_othersThere.1 mX8_othersThere.2.2.1 mX8_othersThere.2.2.2.1 (d + 1) J) (hc : c_X8_othersThere M a1 σ) (hp : q_X8_othersThere M a1 σ) (k : J 4 [some (.ref 600), some (.int a1), some (.int ((s_X8_othersThere M a1 σ).1)), some (.int ((s_X8_othersThere M a1 σ).2))] [] M) : J 4 [some (.ref 600), some (.int a1), some (.int σ.1), some (.int σ.2)] [] M := by
  unfold c_X8_othersThere at hc
  unfold q_X8_othersThere at hp
  unfold s_X8_othersThere at k
  refine j_iload_n g (i := 3) (by decide +kernel) rfl ?_
  refine j_aload_n g (i := 0) (by decide +kernel) rfl ?_
  refine j_gI g f8_228 (by decide +kernel) (by decide +kernel) (by decide +kernel) ?_
  refine j_icmp_ge g (off := 61) (tgt := 70) (by decide +kernel) (by decide) (fun c9 => ?_) (fun c9 => ?_)
  · (try rw [if_pos (show (M.1 600 1) ≤ σ.2 from c9)] at hc); (rw [if_pos (show (M.1 600 1) ≤ σ.2 from c9)] at hp); (try simp only [if_pos (show (M.1 600 1) ≤ σ.2 from c9)] at k)
    refine j_iload_n g (i := 2) (by decide +kernel) rfl ?_
    exact hc.elim
  · (try rw [if_neg (show ¬ ((M.1 600 1) ≤ σ.2) from c9)] at hc); (rw [if_neg (show ¬ ((M.1 600 1) ≤ σ.2) from c9)] at hp); (try simp only [if_neg (show ¬ ((M.1 600 1) ≤ σ.2) from c9)] at k)
    refine j_iload_n g (i := 2) (by decide +kernel) rfl ?_
    refine j_iload_n g (i := 3) (by decide +kernel) rfl ?_
    refine j_aload_n g (i := 0) (by decide +kernel) rfl ?_
    refine j_iload_n g (i := 1) (by decide +kernel) rfl ?_
    refine j_iconst g (n := 2) (2) (by decide +kernel) rfl ?_
    obtain ⟨h0, hp⟩ := hp
    refine j_cV2r g v8_249 ⟨rfl, by decide⟩ (by decide +kernel) (by decide +kernel) (Nat.le_of_ble_eq_true rfl) (rnX8_its h0) ?_
    refine j_icmp_eq g (off := 41) (tgt := 61) (by decide +kernel) (by decide) (fun c20 => ?_) (fun c20 => ?_)
    · (try rw [if_pos (show σ.2 = (M.1 603 (Int32.toNatClampNeg (8 * a1 + 2))) from c20)] at hc); (rw [if_pos (show σ.2 = (M.1 603 (Int32.toNatClampNeg (8 * a1 + 2))) from c20)] at hp); (try simp only [if_pos (show σ.2 = (M.1 603 (Int32.toNatClampNeg (8 * a1 + 2))) from c20)] at k)
      refine j_iconst g (n := 0) (0) (by decide +kernel) rfl ?_
      refine j_iadd g (by decide +kernel) ?_
      refine j_istore_n g (i := 2) (by decide +kernel) (by decide) ?_
      dsimp only [stL, clL, hdL]
      refine j_iinc g (i := 3) (n := 1) (1) (by decide +kernel) rfl (by decide) rfl ?_
      dsimp only [stL, clL, hdL]
      refine j_goto g (off := -63) (tgt := 4) (by decide +kernel) (by decide) ?_
      exact k 
    · (try rw [if_neg (show ¬ (σ.2 = (M.1 603 (Int32.toNatClampNeg (8 * a1 + 2)))) from c20)] at hc); (rw [if_neg (show ¬ (σ.2 = (M.1 603 (Int32.toNatClampNeg (8 * a1 + 2)))) from c20)] at hp); (try simp only [if_neg (show ¬ (σ.2 = (M.1 603 (Int32.toNatClampNeg (8 * a1 + 2)))) from c20)] at k)
      refine j_aload_n g (i := 0) (by decide +kernel) rfl ?_
      refine j_gA g (b := 607) f8_28 (by decide +kernel) (by decide +kernel) (by decide +kernel) (by decide +kernel) ?_
      refine j_aload_n g (i := 0) (by decide +kernel) rfl ?_
      refine j_gI g f8_240 (by decide +kernel) (by decide +kernel) (by decide +kernel) ?_
      refine j_iconst g (n := 3) (3) (by decide +kernel) rfl ?_
      refine j_iadd g (by decide +kernel) ?_
      refine j_iload_n g (i := 3) (by decide +kernel) rfl ?_
      refine j_iadd g (by decide +kernel) ?_
      obtain ⟨h0, hp⟩ := hp
      refine j_ia g 44 (by decide +kernel) (by decide +kernel) (by decide +kernel) h0 ?_
      refine j_aload_n g (i := 0) (by decide +kernel) rfl ?_
      refine j_gA g (b := 607) f8_28 (by decide +kernel) (by decide +kernel) (by decide +kernel) (by decide +kernel) ?_
      refine j_aload_n g (i := 0) (by decide +kernel) rfl ?_
      refine j_gI g f8_240 (by decide +kernel) (by decide +kernel) (by decide +kernel) ?_
      refine j_iconst g (n := 3) (3) (by decide +kernel) rfl ?_
      refine j_iadd g (by decide +kernel) ?_
      refine j_aload_n g (i := 0) (by decide +kernel) rfl ?_
      refine j_iload_n g (i := 1) (by decide +kernel) rfl ?_
      refine j_iconst g (n := 2) (2) (by decide +kernel) rfl ?_
      obtain ⟨h0, hp⟩ := hp
      refine j_cV2r g v8_249 ⟨rfl, by decide⟩ (by decide +kernel) (by decide +kernel) (Nat.le_of_ble_eq_true rfl) (rnX8_its h0) ?_
      refine j_iadd g (by decide +kernel) ?_
      obtain ⟨h0, hp⟩ := hp
      refine j_ia g 44 (by decide +kernel) (by decide +kernel) (by decide +kernel) h0 ?_
      refine j_icmp_ne g (off := 7) (tgt := 61) (by decide +kernel) (by decide) (fun c54 => ?_) (fun c54 => ?_)
      · (try rw [if_pos (show ¬ (M.1 607 (Int32.toNatClampNeg (((M.1 600 10) + 3) + σ.2))) = (M.1 607 (Int32.toNatClampNeg (((M.1 600 10) + 3) + (M.1 603 (Int32.toNatClampNeg (8 * a1 + 2)))))) from c54)] at hc); (rw [if_pos (show ¬ (M.1 607 (Int32.toNatClampNeg (((M.1 600 10) + 3) + σ.2))) = (M.1 607 (Int32.toNatClampNeg (((M.1 600 10) + 3) + (M.1 603 (Int32.toNatClampNeg (8 * a1 + 2)))))) from c54)] at hp); (try simp only [if_pos (show ¬ (M.1 607 (Int32.toNatClampNeg (((M.1 600 10) + 3) + σ.2))) = (M.1 607 (Int32.toNatClampNeg (((M.1 600 10) + 3) + (M.1 603 (Int32.toNatClampNeg (8 * a1 + 2)))))) from c54)] at k)
        refine j_iconst g (n := 0) (0) (by decide +kernel) rfl ?_
        refine j_iadd g (by decide +kernel) ?_
        refine j_istore_n g (i := 2) (by decide +kernel) (by decide) ?_
        dsimp only [stL, clL, hdL]
        refine j_iinc g (i := 3) (n := 1) (1) (by decide +kernel) rfl (by decide) rfl ?_
        dsimp only [stL, clL, hdL]
        refine j_goto g (off := -63) (tgt := 4) (by decide +kernel) (by decide) ?_
        exact k 
      · (try rw [if_neg (show ¬ (¬ (M.1 607 (Int32.toNatClampNeg (((M.1 600 10) + 3) + σ.2))) = (M.1 607 (Int32.toNatClampNeg (((M.1 600 10) + 3) + (M.1 603 (Int32.toNatClampNeg (8 * a1 + 2))))))) from c54)] at hc); (rw [if_neg (show ¬ (¬ (M.1 607 (Int32.toNatClampNeg (((M.1 600 10) + 3) + σ.2))) = (M.1 607 (Int32.toNatClampNeg (((M.1 600 10) + 3) + (M.1 603 (Int32.toNatClampNeg (8 * a1 + 2))))))) from c54)] at hp); (try simp only [if_neg (show ¬ (¬ (M.1 607 (Int32.toNatClampNeg (((M.1 600 10) + 3) + σ.2))) = (M.1 607 (Int32.toNatClampNeg (((M.1 600 10) + 3) + (M.1 603 (Int32.toNatClampNeg (8 * a1 + 2))))))) from c54)] at k)
        refine j_iconst g (n := 1) (1) (by decide +kernel) rfl ?_
        refine j_goto g (off := 4) (tgt := 62) (by decide +kernel) (by decide) ?_
        refine j_iadd g (by decide +kernel) ?_
        refine j_istore_n g (i := 2) (by decide +kernel) (by decide) ?_
        dsimp only [stL, clL, hdL]
        refine j_iinc g (i := 3) (n := 1) (1) (by decide +kernel) rfl (by decide) rfl ?_
        dsimp only [stL, clL, hdL]
        refine j_goto g (off := -63) (tgt := 4) (by decide +kernel) (by decide) ?_
        exact k 
theorem sh_X8_othersThere {d : Nat} {J : Nat → Lc → List Value → Mm → Prop} {M : Mm} {a1 : Int32} {σ0 : Int32 × Int32}  (g : Good mX8_othersThere.1 mX8_othersThere.2.2.1 mX8_othersThere.2.2.2.1 (d + 1) J) : ∀ (N : Nat), (∀ k, k < N → c_X8_othersThere M a1 (itN (fun _ σ => s_X8_othersThere M a1 σ) σ0 k)) → (∀ k, k < N → q_X8_othersThere M a1 (itN (fun _ σ => s_X8_othersThere M a1 σ) σ0 k)) → (J 4 [some (.ref 600), some (.int a1), some (.int ((itN (fun _ σ => s_X8_othersThere M a1 σ) σ0 N).1)), some (.int ((itN (fun _ σ => s_X8_othersThere M a1 σ) σ0 N).2))] [] M) → J 4 [some (.ref 600), some (.int a1), some (.int σ0.1), some (.int σ0.2)] [] M
  | 0, _, _, k => k
  | N + 1, hc, hp, k => sh_X8_othersThere  g N (fun i hi => hc i (Nat.lt_succ_of_lt hi)) (fun i hi => hp i (Nat.lt_succ_of_lt hi)) (ps_X8_othersThere  g (hc N (Nat.lt_succ_self N)) (hp N (Nat.lt_succ_self N)) k)
def l_X8_othersThere (M : Mm) (a1 : Int32) : Nat → Int32 × Int32 := itN (fun _ σ => s_X8_othersThere M a1 σ) (0, 0)
theorem rnX8_othersThere {d : Nat} {M : Mm} {a1 : Int32}  (N : Nat) (hc : ∀ k, k < N → c_X8_othersThere M a1 (l_X8_othersThere M a1 k)) (he : ¬ c_X8_othersThere M a1 (l_X8_othersThere M a1 N)) (hp : ∀ k, k ≤ N → q_X8_othersThere M a1 (l_X8_othersThere M a1 k)) : Rn (d + 1) mX8_othersThere [.ref 600, .int a1] M (some (.int (r_X8_othersThere_x M a1 (l_X8_othersThere M a1 N)))) M := by
  refine Rn.of [some (.ref 600), some (.int a1), none, none] (by decide +kernel) rfl (Nat.le_of_ble_eq_true rfl) rfl (fun J g hr => ?_)
  refine j_iconst g (n := 0) (0) (by decide +kernel) rfl ?_
  refine j_istore_n g (i := 2) (by decide +kernel) (by decide) ?_
  dsimp only [stL, clL, hdL]
  refine j_iconst g (n := 0) (0) (by decide +kernel) rfl ?_
  refine j_istore_n g (i := 3) (by decide +kernel) (by decide) ?_
  dsimp only [stL, clL, hdL]
  refine sh_X8_othersThere  g (σ0 := (0, 0)) N hc (fun k hk => hp k (Nat.le_of_lt hk)) ?_ 
  have hp := hp N (Nat.le_refl N)
  generalize hσ : l_X8_othersThere M a1 N = σ at *
  unfold l_X8_othersThere at hσ
  rw [hσ]
  unfold c_X8_othersThere at he
  unfold q_X8_othersThere at hp
  refine j_iload_n g (i := 3) (by decide +kernel) rfl ?_
  refine j_aload_n g (i := 0) (by decide +kernel) rfl ?_
  refine j_gI g f8_228 (by decide +kernel) (by decide +kernel) (by decide +kernel) ?_
  refine j_icmp_ge g (off := 61) (tgt := 70) (by decide +kernel) (by decide) (fun c9 => ?_) (fun c9 => ?_)
  · (try rw [if_pos (show (M.1 600 1) ≤ σ.2 from c9)] at he); (rw [if_pos (show (M.1 600 1) ≤ σ.2 from c9)] at hp); skip
    refine j_iload_n g (i := 2) (by decide +kernel) rfl ?_
    refine hr.1 _ _ _ _ (by decide +kernel) ⟨_, rfl, by first | rfl | exact b2i_nar | rfl⟩ ?_ ?_
    · unfold r_X8_othersThere_x; first | rfl | (simp only [if_pos (show (M.1 600 1) ≤ σ.2 from c9)]; done) | (simp only [if_pos (show (M.1 600 1) ≤ σ.2 from c9)]; rfl)
    · rfl
  · (try rw [if_neg (show ¬ ((M.1 600 1) ≤ σ.2) from c9)] at he); (rw [if_neg (show ¬ ((M.1 600 1) ≤ σ.2) from c9)] at hp); skip
    refine j_iload_n g (i := 2) (by decide +kernel) rfl ?_
    refine j_iload_n g (i := 3) (by decide +kernel) rfl ?_
    refine j_aload_n g (i := 0) (by decide +kernel) rfl ?_
    refine j_iload_n g (i := 1) (by decide +kernel) rfl ?_
    refine j_iconst g (n := 2) (2) (by decide +kernel) rfl ?_
    obtain ⟨h0, hp⟩ := hp
    refine j_cV2r g v8_249 ⟨rfl, by decide⟩ (by decide +kernel) (by decide +kernel) (Nat.le_of_ble_eq_true rfl) (rnX8_its h0) ?_
    refine j_icmp_eq g (off := 41) (tgt := 61) (by decide +kernel) (by decide) (fun c20 => ?_) (fun c20 => ?_)
    · (try rw [if_pos (show σ.2 = (M.1 603 (Int32.toNatClampNeg (8 * a1 + 2))) from c20)] at he); (rw [if_pos (show σ.2 = (M.1 603 (Int32.toNatClampNeg (8 * a1 + 2))) from c20)] at hp); skip
      refine j_iconst g (n := 0) (0) (by decide +kernel) rfl ?_
      refine j_iadd g (by decide +kernel) ?_
      refine j_istore_n g (i := 2) (by decide +kernel) (by decide) ?_
      dsimp only [stL, clL, hdL]
      refine j_iinc g (i := 3) (n := 1) (1) (by decide +kernel) rfl (by decide) rfl ?_
      dsimp only [stL, clL, hdL]
      refine j_goto g (off := -63) (tgt := 4) (by decide +kernel) (by decide) ?_
      exact (he trivial).elim
    · (try rw [if_neg (show ¬ (σ.2 = (M.1 603 (Int32.toNatClampNeg (8 * a1 + 2)))) from c20)] at he); (rw [if_neg (show ¬ (σ.2 = (M.1 603 (Int32.toNatClampNeg (8 * a1 + 2)))) from c20)] at hp); skip
      refine j_aload_n g (i := 0) (by decide +kernel) rfl ?_
      refine j_gA g (b := 607) f8_28 (by decide +kernel) (by decide +kernel) (by decide +kernel) (by decide +kernel) ?_
      refine j_aload_n g (i := 0) (by decide +kernel) rfl ?_
      refine j_gI g f8_240 (by decide +kernel) (by decide +kernel) (by decide +kernel) ?_
      refine j_iconst g (n := 3) (3) (by decide +kernel) rfl ?_
      refine j_iadd g (by decide +kernel) ?_
      refine j_iload_n g (i := 3) (by decide +kernel) rfl ?_
      refine j_iadd g (by decide +kernel) ?_
      obtain ⟨h0, hp⟩ := hp
      refine j_ia g 44 (by decide +kernel) (by decide +kernel) (by decide +kernel) h0 ?_
      refine j_aload_n g (i := 0) (by decide +kernel) rfl ?_
      refine j_gA g (b := 607) f8_28 (by decide +kernel) (by decide +kernel) (by decide +kernel) (by decide +kernel) ?_
      refine j_aload_n g (i := 0) (by decide +kernel) rfl ?_
      refine j_gI g f8_240 (by decide +kernel) (by decide +kernel) (by decide +kernel) ?_
      refine j_iconst g (n := 3) (3) (by decide +kernel) rfl ?_
      refine j_iadd g (by decide +kernel) ?_
      refine j_aload_n g (i := 0) (by decide +kernel) rfl ?_
      refine j_iload_n g (i := 1) (by decide +kernel) rfl ?_
      refine j_iconst g (n := 2) (2) (by decide +kernel) rfl ?_
      obtain ⟨h0, hp⟩ := hp
      refine j_cV2r g v8_249 ⟨rfl, by decide⟩ (by decide +kernel) (by decide +kernel) (Nat.le_of_ble_eq_true rfl) (rnX8_its h0) ?_
      refine j_iadd g (by decide +kernel) ?_
      obtain ⟨h0, hp⟩ := hp
      refine j_ia g 44 (by decide +kernel) (by decide +kernel) (by decide +kernel) h0 ?_
      refine j_icmp_ne g (off := 7) (tgt := 61) (by decide +kernel) (by decide) (fun c54 => ?_) (fun c54 => ?_)
      · (try rw [if_pos (show ¬ (M.1 607 (Int32.toNatClampNeg (((M.1 600 10) + 3) + σ.2))) = (M.1 607 (Int32.toNatClampNeg (((M.1 600 10) + 3) + (M.1 603 (Int32.toNatClampNeg (8 * a1 + 2)))))) from c54)] at he); (rw [if_pos (show ¬ (M.1 607 (Int32.toNatClampNeg (((M.1 600 10) + 3) + σ.2))) = (M.1 607 (Int32.toNatClampNeg (((M.1 600 10) + 3) + (M.1 603 (Int32.toNatClampNeg (8 * a1 + 2)))))) from c54)] at hp); skip
        refine j_iconst g (n := 0) (0) (by decide +kernel) rfl ?_
        refine j_iadd g (by decide +kernel) ?_
        refine j_istore_n g (i := 2) (by decide +kernel) (by decide) ?_
        dsimp only [stL, clL, hdL]
        refine j_iinc g (i := 3) (n := 1) (1) (by decide +kernel) rfl (by decide) rfl ?_
        dsimp only [stL, clL, hdL]
        refine j_goto g (off := -63) (tgt := 4) (by decide +kernel) (by decide) ?_
        exact (he trivial).elim
      · (try rw [if_neg (show ¬ (¬ (M.1 607 (Int32.toNatClampNeg (((M.1 600 10) + 3) + σ.2))) = (M.1 607 (Int32.toNatClampNeg (((M.1 600 10) + 3) + (M.1 603 (Int32.toNatClampNeg (8 * a1 + 2))))))) from c54)] at he); (rw [if_neg (show ¬ (¬ (M.1 607 (Int32.toNatClampNeg (((M.1 600 10) + 3) + σ.2))) = (M.1 607 (Int32.toNatClampNeg (((M.1 600 10) + 3) + (M.1 603 (Int32.toNatClampNeg (8 * a1 + 2))))))) from c54)] at hp); skip
        refine j_iconst g (n := 1) (1) (by decide +kernel) rfl ?_
        refine j_goto g (off := 4) (tgt := 62) (by decide +kernel) (by decide) ?_
        refine j_iadd g (by decide +kernel) ?_
        refine j_istore_n g (i := 2) (by decide +kernel) (by decide) ?_
        dsimp only [stL, clL, hdL]
        refine j_iinc g (i := 3) (n := 1) (1) (by decide +kernel) rfl (by decide) rfl ?_
        dsimp only [stL, clL, hdL]
        refine j_goto g (off := -63) (tgt := 4) (by decide +kernel) (by decide) ?_
        exact (he trivial).elim
def c_X8_lends  (σ : Mm × Int32) : Prop := if 22 ≤ σ.2 then False else True
def s_X8_lends  (σ : Mm × Int32) : Mm × Int32 := if 22 ≤ σ.2 then σ else ((wi σ.1 607 (Int32.toNatClampNeg (22 + σ.2)) (σ.1.1 607 (Int32.toNatClampNeg σ.2))), σ.2 + 1)
def q_X8_lends  (σ : Mm × Int32) : Prop := (if 22 ≤ σ.2 then True else (vp_in σ.2 44) ∧ (vp_in (22 + σ.2) 44) ∧ True)
def w_X8_lends_x  (σ : Mm × Int32) : Mm := if 22 ≤ σ.2 then (wi σ.1 600 10 22) else σ.1
theorem ps_X8_lends {d : Nat} {J : Nat → Lc → List Value → Mm → Prop}  {σ : Mm × Int32}  (g : Good mX8_lends.1 mX8_lends.2.2.1 mX8_lends.2.2.2.1 (d) J) (hc : c_X8_lends  σ) (hp : q_X8_lends  σ) (k : J 7 [some (.ref 600), some (.int ((s_X8_lends  σ).2))] [] ((s_X8_lends  σ).1)) : J 7 [some (.ref 600), some (.int σ.2)] [] σ.1 := by
  unfold c_X8_lends at hc
  unfold q_X8_lends at hp
  unfold s_X8_lends at k
  refine j_iload_n g (i := 1) (by decide +kernel) rfl ?_
  refine j_bipush g (n := 22) (22) (by decide +kernel) (by decide +kernel) ?_
  refine j_icmp_ge g (off := 24) (tgt := 34) (by decide +kernel) (by decide) (fun c10 => ?_) (fun c10 => ?_)
  · (try rw [if_pos (show 22 ≤ σ.2 from c10)] at hc); (rw [if_pos (show 22 ≤ σ.2 from c10)] at hp); (try simp only [if_pos (show 22 ≤ σ.2 from c10)] at k)
    refine j_aload_n g (i := 0) (by decide +kernel) rfl ?_
    refine j_bipush g (n := 22) (22) (by decide +kernel) (by decide +kernel) ?_
    refine j_pI g f8_240 (fun q h => by cases h; rfl) (by decide +kernel) (by decide +kernel) (by decide +kernel) ?_
    exact hc.elim
  · (try rw [if_neg (show ¬ (22 ≤ σ.2) from c10)] at hc); (rw [if_neg (show ¬ (22 ≤ σ.2) from c10)] at hp); (try simp only [if_neg (show ¬ (22 ≤ σ.2) from c10)] at k)
    refine j_aload_n g (i := 0) (by decide +kernel) rfl ?_
    refine j_gA g (b := 607) f8_28 (by decide +kernel) (by decide +kernel) (by decide +kernel) (by decide +kernel) ?_
    refine j_bipush g (n := 22) (22) (by decide +kernel) (by decide +kernel) ?_
    refine j_iload_n g (i := 1) (by decide +kernel) rfl ?_
    refine j_iadd g (by decide +kernel) ?_
    refine j_aload_n g (i := 0) (by decide +kernel) rfl ?_
    refine j_gA g (b := 607) f8_28 (by decide +kernel) (by decide +kernel) (by decide +kernel) (by decide +kernel) ?_
    refine j_iload_n g (i := 1) (by decide +kernel) rfl ?_
    obtain ⟨h0, hp⟩ := hp
    refine j_ia g 44 (by decide +kernel) (by decide +kernel) (by decide +kernel) h0 ?_
    obtain ⟨h0, hp⟩ := hp
    refine j_is g 44 (by decide +kernel) (by decide +kernel) (by decide +kernel) h0 ?_
    refine j_iinc g (i := 1) (n := 1) (1) (by decide +kernel) rfl (by decide) rfl ?_
    dsimp only [stL, clL, hdL]
    refine j_goto g (off := -24) (tgt := 7) (by decide +kernel) (by decide) ?_
    exact k 
theorem sh_X8_lends {d : Nat} {J : Nat → Lc → List Value → Mm → Prop}  {σ0 : Mm × Int32}  (g : Good mX8_lends.1 mX8_lends.2.2.1 mX8_lends.2.2.2.1 (d) J) : ∀ (N : Nat), (∀ k, k < N → c_X8_lends  (itN (fun _ σ => s_X8_lends  σ) σ0 k)) → (∀ k, k < N → q_X8_lends  (itN (fun _ σ => s_X8_lends  σ) σ0 k)) → (J 7 [some (.ref 600), some (.int ((itN (fun _ σ => s_X8_lends  σ) σ0 N).2))] [] ((itN (fun _ σ => s_X8_lends  σ) σ0 N).1)) → J 7 [some (.ref 600), some (.int σ0.2)] [] σ0.1
  | 0, _, _, k => k
  | N + 1, hc, hp, k => sh_X8_lends  g N (fun i hi => hc i (Nat.lt_succ_of_lt hi)) (fun i hi => hp i (Nat.lt_succ_of_lt hi)) (ps_X8_lends  g (hc N (Nat.lt_succ_self N)) (hp N (Nat.lt_succ_self N)) k)
def l_X8_lends (M : Mm)  : Nat → Mm × Int32 := itN (fun _ σ => s_X8_lends  σ) ((wi M 600 10 0), 0)
theorem rnX8_lends {d : Nat} {M : Mm}   (N : Nat) (hc : ∀ k, k < N → c_X8_lends  (l_X8_lends M  k)) (he : ¬ c_X8_lends  (l_X8_lends M  N)) (hp : ∀ k, k ≤ N → q_X8_lends  (l_X8_lends M  k)) : Rn (d) mX8_lends [.ref 600] M none (w_X8_lends_x  (l_X8_lends M  N)) := by
  refine Rn.of [some (.ref 600), none] (by decide +kernel) rfl (Nat.le_of_ble_eq_true rfl) rfl (fun J g hr => ?_)
  refine j_aload_n g (i := 0) (by decide +kernel) rfl ?_
  refine j_iconst g (n := 0) (0) (by decide +kernel) rfl ?_
  refine j_pI g f8_240 (fun q h => by cases h; rfl) (by decide +kernel) (by decide +kernel) (by decide +kernel) ?_
  refine j_iconst g (n := 0) (0) (by decide +kernel) rfl ?_
  refine j_istore_n g (i := 1) (by decide +kernel) (by decide) ?_
  dsimp only [stL, clL, hdL]
  refine sh_X8_lends  g (σ0 := ((wi M 600 10 0), 0)) N hc (fun k hk => hp k (Nat.le_of_lt hk)) ?_ 
  have hp := hp N (Nat.le_refl N)
  generalize hσ : l_X8_lends M  N = σ at *
  unfold l_X8_lends at hσ
  rw [hσ]
  unfold c_X8_lends at he
  unfold q_X8_lends at hp
  refine j_iload_n g (i := 1) (by decide +kernel) rfl ?_
  refine j_bipush g (n := 22) (22) (by decide +kernel) (by decide +kernel) ?_
  refine j_icmp_ge g (off := 24) (tgt := 34) (by decide +kernel) (by decide) (fun c10 => ?_) (fun c10 => ?_)
  · (try rw [if_pos (show 22 ≤ σ.2 from c10)] at he); (rw [if_pos (show 22 ≤ σ.2 from c10)] at hp); skip
    refine j_aload_n g (i := 0) (by decide +kernel) rfl ?_
    refine j_bipush g (n := 22) (22) (by decide +kernel) (by decide +kernel) ?_
    refine j_pI g f8_240 (fun q h => by cases h; rfl) (by decide +kernel) (by decide +kernel) (by decide +kernel) ?_
    refine hr.2.2.2 _ _ _ (by decide +kernel) rfl rfl ?_
    · unfold w_X8_lends_x; first | rfl | (simp only [if_pos (show 22 ≤ σ.2 from c10)]; done) | (simp only [if_pos (show 22 ≤ σ.2 from c10)]; rfl)
  · (try rw [if_neg (show ¬ (22 ≤ σ.2) from c10)] at he); (rw [if_neg (show ¬ (22 ≤ σ.2) from c10)] at hp); skip
    refine j_aload_n g (i := 0) (by decide +kernel) rfl ?_
    refine j_gA g (b := 607) f8_28 (by decide +kernel) (by decide +kernel) (by decide +kernel) (by decide +kernel) ?_
    refine j_bipush g (n := 22) (22) (by decide +kernel) (by decide +kernel) ?_
    refine j_iload_n g (i := 1) (by decide +kernel) rfl ?_
    refine j_iadd g (by decide +kernel) ?_
    refine j_aload_n g (i := 0) (by decide +kernel) rfl ?_
    refine j_gA g (b := 607) f8_28 (by decide +kernel) (by decide +kernel) (by decide +kernel) (by decide +kernel) ?_
    refine j_iload_n g (i := 1) (by decide +kernel) rfl ?_
    obtain ⟨h0, hp⟩ := hp
    refine j_ia g 44 (by decide +kernel) (by decide +kernel) (by decide +kernel) h0 ?_
    obtain ⟨h0, hp⟩ := hp
    refine j_is g 44 (by decide +kernel) (by decide +kernel) (by decide +kernel) h0 ?_
    refine j_iinc g (i := 1) (n := 1) (1) (by decide +kernel) rfl (by decide) rfl ?_
    dsimp only [stL, clL, hdL]
    refine j_goto g (off := -24) (tgt := 7) (by decide +kernel) (by decide) ?_
    exact (he trivial).elim
def c_X8_ones (M : Mm) (a1 : Int32) (σ : Int32 × Int32) : Prop := if σ.2 = 0 then False else True
def s_X8_ones (M : Mm) (a1 : Int32) (σ : Int32 × Int32) : Int32 × Int32 := if σ.2 = 0 then σ else (σ.1 + 1, σ.2 &&& (σ.2 - 1))
def r_X8_ones_x (M : Mm) (a1 : Int32) (σ : Int32 × Int32) : Int32 := if σ.2 = 0 then σ.1 else 0
theorem ps_X8_ones {d : Nat} {J : Nat → Lc → List Value → Mm → Prop} {M : Mm} {a1 : Int32} {σ : Int32 × Int32}  (g : Good mX8_ones.1 mX8_ones.2.2.1 mX8_ones.2.2.2.1 (d) J) (hc : c_X8_ones M a1 σ) (k : J 4 [some (.int a1), some (.int ((s_X8_ones M a1 σ).1)), some (.int ((s_X8_ones M a1 σ).2))] [] M) : J 4 [some (.int a1), some (.int σ.1), some (.int σ.2)] [] M := by
  unfold c_X8_ones at hc
  unfold s_X8_ones at k
  refine j_iload_n g (i := 2) (by decide +kernel) rfl ?_
  refine j_if_eq g (off := 15) (tgt := 20) (by decide +kernel) (by decide) (fun c5 => ?_) (fun c5 => ?_)
  · (try rw [if_pos (show σ.2 = 0 from c5)] at hc); (try simp only [if_pos (show σ.2 = 0 from c5)] at k)
    refine j_iload_n g (i := 1) (by decide +kernel) rfl ?_
    exact hc.elim
  · (try rw [if_neg (show ¬ (σ.2 = 0) from c5)] at hc); (try simp only [if_neg (show ¬ (σ.2 = 0) from c5)] at k)
    refine j_iinc g (i := 1) (n := 1) (1) (by decide +kernel) rfl (by decide) rfl ?_
    dsimp only [stL, clL, hdL]
    refine j_iload_n g (i := 2) (by decide +kernel) rfl ?_
    refine j_iload_n g (i := 2) (by decide +kernel) rfl ?_
    refine j_iconst g (n := 1) (1) (by decide +kernel) rfl ?_
    refine j_isub g (by decide +kernel) ?_
    refine j_iand g (by decide +kernel) ?_
    refine j_istore_n g (i := 2) (by decide +kernel) (by decide) ?_
    dsimp only [stL, clL, hdL]
    refine j_goto g (off := -13) (tgt := 4) (by decide +kernel) (by decide) ?_
    exact k 
theorem sh_X8_ones {d : Nat} {J : Nat → Lc → List Value → Mm → Prop} {M : Mm} {a1 : Int32} {σ0 : Int32 × Int32}  (g : Good mX8_ones.1 mX8_ones.2.2.1 mX8_ones.2.2.2.1 (d) J) : ∀ (N : Nat), (∀ k, k < N → c_X8_ones M a1 (itN (fun _ σ => s_X8_ones M a1 σ) σ0 k)) → (J 4 [some (.int a1), some (.int ((itN (fun _ σ => s_X8_ones M a1 σ) σ0 N).1)), some (.int ((itN (fun _ σ => s_X8_ones M a1 σ) σ0 N).2))] [] M) → J 4 [some (.int a1), some (.int σ0.1), some (.int σ0.2)] [] M
  | 0, _, k => k
  | N + 1, hc, k => sh_X8_ones  g N (fun i hi => hc i (Nat.lt_succ_of_lt hi)) (ps_X8_ones  g (hc N (Nat.lt_succ_self N)) k)
def l_X8_ones (M : Mm) (a1 : Int32) : Nat → Int32 × Int32 := itN (fun _ σ => s_X8_ones M a1 σ) (0, a1)
theorem rnX8_ones {d : Nat} {M : Mm} {a1 : Int32}  (N : Nat) (hc : ∀ k, k < N → c_X8_ones M a1 (l_X8_ones M a1 k)) (he : ¬ c_X8_ones M a1 (l_X8_ones M a1 N)) : Rn (d) mX8_ones [.int a1] M (some (.int (r_X8_ones_x M a1 (l_X8_ones M a1 N)))) M := by
  refine Rn.of [some (.int a1), none, none] (by decide +kernel) rfl (Nat.le_of_ble_eq_true rfl) rfl (fun J g hr => ?_)
  refine j_iconst g (n := 0) (0) (by decide +kernel) rfl ?_
  refine j_istore_n g (i := 1) (by decide +kernel) (by decide) ?_
  dsimp only [stL, clL, hdL]
  refine j_iload_n g (i := 0) (by decide +kernel) rfl ?_
  refine j_istore_n g (i := 2) (by decide +kernel) (by decide) ?_
  dsimp only [stL, clL, hdL]
  refine sh_X8_ones  g (σ0 := (0, a1)) N hc ?_ 
  generalize hσ : l_X8_ones M a1 N = σ at *
  unfold l_X8_ones at hσ
  rw [hσ]
  unfold c_X8_ones at he
  refine j_iload_n g (i := 2) (by decide +kernel) rfl ?_
  refine j_if_eq g (off := 15) (tgt := 20) (by decide +kernel) (by decide) (fun c5 => ?_) (fun c5 => ?_)
  · (try rw [if_pos (show σ.2 = 0 from c5)] at he); skip
    refine j_iload_n g (i := 1) (by decide +kernel) rfl ?_
    refine hr.1 _ _ _ _ (by decide +kernel) ⟨_, rfl, by first | rfl | exact b2i_nar | rfl⟩ ?_ ?_
    · unfold r_X8_ones_x; first | rfl | (simp only [if_pos (show σ.2 = 0 from c5)]; done) | (simp only [if_pos (show σ.2 = 0 from c5)]; rfl)
    · rfl
  · (try rw [if_neg (show ¬ (σ.2 = 0) from c5)] at he); skip
    refine j_iinc g (i := 1) (n := 1) (1) (by decide +kernel) rfl (by decide) rfl ?_
    dsimp only [stL, clL, hdL]
    refine j_iload_n g (i := 2) (by decide +kernel) rfl ?_
    refine j_iload_n g (i := 2) (by decide +kernel) rfl ?_
    refine j_iconst g (n := 1) (1) (by decide +kernel) rfl ?_
    refine j_isub g (by decide +kernel) ?_
    refine j_iand g (by decide +kernel) ?_
    refine j_istore_n g (i := 2) (by decide +kernel) (by decide) ?_
    dsimp only [stL, clL, hdL]
    refine j_goto g (off := -13) (tgt := 4) (by decide +kernel) (by decide) ?_
    exact (he trivial).elim
def c_X2_digitsOf (M : Mm) (a1 : Int32) (σ : Int32 × Int32) : Prop := if a1 ≤ σ.2 then False else True
def s_X2_digitsOf (M : Mm) (a1 : Int32) (σ : Int32 × Int32) : Int32 × Int32 := if a1 ≤ σ.2 then σ else (σ.1 ||| ((M.1 512 (Int32.toNatClampNeg σ.2)) <<< ((3 * σ.2) &&& 31)), σ.2 + 1)
def q_X2_digitsOf (M : Mm) (a1 : Int32) (σ : Int32 × Int32) : Prop := (if a1 ≤ σ.2 then True else (vp_in σ.2 6) ∧ True)
def r_X2_digitsOf_x (M : Mm) (a1 : Int32) (σ : Int32 × Int32) : Int32 := if a1 ≤ σ.2 then σ.1 else 0
theorem ps_X2_digitsOf {d : Nat} {J : Nat → Lc → List Value → Mm → Prop} {M : Mm} {a1 : Int32} {σ : Int32 × Int32}  (g : Good mX2_digitsOf.1 mX2_digitsOf.2.2.1 mX2_digitsOf.2.2.2.1 (d) J) (hc : c_X2_digitsOf M a1 σ) (hp : q_X2_digitsOf M a1 σ) (k : J 4 [some (.ref 510), some (.int a1), some (.int ((s_X2_digitsOf M a1 σ).1)), some (.int ((s_X2_digitsOf M a1 σ).2))] [] M) : J 4 [some (.ref 510), some (.int a1), some (.int σ.1), some (.int σ.2)] [] M := by
  unfold c_X2_digitsOf at hc
  unfold q_X2_digitsOf at hp
  unfold s_X2_digitsOf at k
  refine j_iload_n g (i := 3) (by decide +kernel) rfl ?_
  refine j_iload_n g (i := 1) (by decide +kernel) rfl ?_
  refine j_icmp_ge g (off := 22) (tgt := 28) (by decide +kernel) (by decide) (fun c6 => ?_) (fun c6 => ?_)
  · (try rw [if_pos (show a1 ≤ σ.2 from c6)] at hc); (rw [if_pos (show a1 ≤ σ.2 from c6)] at hp); (try simp only [if_pos (show a1 ≤ σ.2 from c6)] at k)
    refine j_iload_n g (i := 2) (by decide +kernel) rfl ?_
    exact hc.elim
  · (try rw [if_neg (show ¬ (a1 ≤ σ.2) from c6)] at hc); (rw [if_neg (show ¬ (a1 ≤ σ.2) from c6)] at hp); (try simp only [if_neg (show ¬ (a1 ≤ σ.2) from c6)] at k)
    refine j_iload_n g (i := 2) (by decide +kernel) rfl ?_
    refine j_aload_n g (i := 0) (by decide +kernel) rfl ?_
    refine j_gA g (b := 512) f2_17 (by decide +kernel) (by decide +kernel) (by decide +kernel) (by decide +kernel) ?_
    refine j_iload_n g (i := 3) (by decide +kernel) rfl ?_
    obtain ⟨h0, hp⟩ := hp
    refine j_ia g 6 (by decide +kernel) (by decide +kernel) (by decide +kernel) h0 ?_
    refine j_iconst g (n := 3) (3) (by decide +kernel) rfl ?_
    refine j_iload_n g (i := 3) (by decide +kernel) rfl ?_
    refine j_imul g (by decide +kernel) ?_
    refine j_ishl g (by decide +kernel) ?_
    refine j_ior g (by decide +kernel) ?_
    refine j_istore_n g (i := 2) (by decide +kernel) (by decide) ?_
    dsimp only [stL, clL, hdL]
    refine j_iinc g (i := 3) (n := 1) (1) (by decide +kernel) rfl (by decide) rfl ?_
    dsimp only [stL, clL, hdL]
    refine j_goto g (off := -21) (tgt := 4) (by decide +kernel) (by decide) ?_
    exact k 
theorem sh_X2_digitsOf {d : Nat} {J : Nat → Lc → List Value → Mm → Prop} {M : Mm} {a1 : Int32} {σ0 : Int32 × Int32}  (g : Good mX2_digitsOf.1 mX2_digitsOf.2.2.1 mX2_digitsOf.2.2.2.1 (d) J) : ∀ (N : Nat), (∀ k, k < N → c_X2_digitsOf M a1 (itN (fun _ σ => s_X2_digitsOf M a1 σ) σ0 k)) → (∀ k, k < N → q_X2_digitsOf M a1 (itN (fun _ σ => s_X2_digitsOf M a1 σ) σ0 k)) → (J 4 [some (.ref 510), some (.int a1), some (.int ((itN (fun _ σ => s_X2_digitsOf M a1 σ) σ0 N).1)), some (.int ((itN (fun _ σ => s_X2_digitsOf M a1 σ) σ0 N).2))] [] M) → J 4 [some (.ref 510), some (.int a1), some (.int σ0.1), some (.int σ0.2)] [] M
  | 0, _, _, k => k
  | N + 1, hc, hp, k => sh_X2_digitsOf  g N (fun i hi => hc i (Nat.lt_succ_of_lt hi)) (fun i hi => hp i (Nat.lt_succ_of_lt hi)) (ps_X2_digitsOf  g (hc N (Nat.lt_succ_self N)) (hp N (Nat.lt_succ_self N)) k)
def l_X2_digitsOf (M : Mm) (a1 : Int32) : Nat → Int32 × Int32 := itN (fun _ σ => s_X2_digitsOf M a1 σ) (0, 0)
theorem rnX2_digitsOf {d : Nat} {M : Mm} {a1 : Int32}  (N : Nat) (hc : ∀ k, k < N → c_X2_digitsOf M a1 (l_X2_digitsOf M a1 k)) (he : ¬ c_X2_digitsOf M a1 (l_X2_digitsOf M a1 N)) (hp : ∀ k, k ≤ N → q_X2_digitsOf M a1 (l_X2_digitsOf M a1 k)) : Rn (d) mX2_digitsOf [.ref 510, .int a1] M (some (.int (r_X2_digitsOf_x M a1 (l_X2_digitsOf M a1 N)))) M := by
  refine Rn.of [some (.ref 510), some (.int a1), none, none] (by decide +kernel) rfl (Nat.le_of_ble_eq_true rfl) rfl (fun J g hr => ?_)
  refine j_iconst g (n := 0) (0) (by decide +kernel) rfl ?_
  refine j_istore_n g (i := 2) (by decide +kernel) (by decide) ?_
  dsimp only [stL, clL, hdL]
  refine j_iconst g (n := 0) (0) (by decide +kernel) rfl ?_
  refine j_istore_n g (i := 3) (by decide +kernel) (by decide) ?_
  dsimp only [stL, clL, hdL]
  refine sh_X2_digitsOf  g (σ0 := (0, 0)) N hc (fun k hk => hp k (Nat.le_of_lt hk)) ?_ 
  have hp := hp N (Nat.le_refl N)
  generalize hσ : l_X2_digitsOf M a1 N = σ at *
  unfold l_X2_digitsOf at hσ
  rw [hσ]
  unfold c_X2_digitsOf at he
  unfold q_X2_digitsOf at hp
  refine j_iload_n g (i := 3) (by decide +kernel) rfl ?_
  refine j_iload_n g (i := 1) (by decide +kernel) rfl ?_
  refine j_icmp_ge g (off := 22) (tgt := 28) (by decide +kernel) (by decide) (fun c6 => ?_) (fun c6 => ?_)
  · (try rw [if_pos (show a1 ≤ σ.2 from c6)] at he); (rw [if_pos (show a1 ≤ σ.2 from c6)] at hp); skip
    refine j_iload_n g (i := 2) (by decide +kernel) rfl ?_
    refine hr.1 _ _ _ _ (by decide +kernel) ⟨_, rfl, by first | rfl | exact b2i_nar | rfl⟩ ?_ ?_
    · unfold r_X2_digitsOf_x; first | rfl | (simp only [if_pos (show a1 ≤ σ.2 from c6)]; done) | (simp only [if_pos (show a1 ≤ σ.2 from c6)]; rfl)
    · rfl
  · (try rw [if_neg (show ¬ (a1 ≤ σ.2) from c6)] at he); (rw [if_neg (show ¬ (a1 ≤ σ.2) from c6)] at hp); skip
    refine j_iload_n g (i := 2) (by decide +kernel) rfl ?_
    refine j_aload_n g (i := 0) (by decide +kernel) rfl ?_
    refine j_gA g (b := 512) f2_17 (by decide +kernel) (by decide +kernel) (by decide +kernel) (by decide +kernel) ?_
    refine j_iload_n g (i := 3) (by decide +kernel) rfl ?_
    obtain ⟨h0, hp⟩ := hp
    refine j_ia g 6 (by decide +kernel) (by decide +kernel) (by decide +kernel) h0 ?_
    refine j_iconst g (n := 3) (3) (by decide +kernel) rfl ?_
    refine j_iload_n g (i := 3) (by decide +kernel) rfl ?_
    refine j_imul g (by decide +kernel) ?_
    refine j_ishl g (by decide +kernel) ?_
    refine j_ior g (by decide +kernel) ?_
    refine j_istore_n g (i := 2) (by decide +kernel) (by decide) ?_
    dsimp only [stL, clL, hdL]
    refine j_iinc g (i := 3) (n := 1) (1) (by decide +kernel) rfl (by decide) rfl ?_
    dsimp only [stL, clL, hdL]
    refine j_goto g (off := -21) (tgt := 4) (by decide +kernel) (by decide) ?_
    exact (he trivial).elim
